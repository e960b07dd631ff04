section
/-! The class's draft: beats, figures, brackets. -/
/-- a draft's rows: lengths, ranges; its beats' 'taken at' is no later than themselves -/
def xty (m : Int) (fp ep ta : List Int) : Prop := fp.length = 16 ∧ ep.length = 16 ∧ ta.length = 16 ∧ (∀ j : Nat, 0 ≤ fp.getD j 0 ∧ fp.getD j 0 ≤ 208) ∧ (∀ j : Nat, 0 ≤ ep.getD j 0 ∧ ep.getD j 0 ≤ 208) ∧ (∀ j : Nat, -1 ≤ ta.getD j 0 ∧ ta.getD j 0 ≤ 15) ∧ ∀ j : Nat, (j : Int) < m → ta.getD j 0 ≤ j
/-- a beat: its first part, the end of its parts, before which beat its selectors are taken -/
abbrev xBt := Int × Int × Int
/-- the rows hold the beats B, as long as they are no more than sixteen -/
def xcb (B : List xBt) (m : Int) (fp ep ta : List Int) : Prop := m ≤ 16 → (B.length : Int) = m ∧ ∀ j, j < B.length → (fp.getD j 0, ep.getD j 0, ta.getD j 0) = B.getD j (0, 0, 0)
def xDR (B : List xBt) (c : Nat) (f : Nat → zE) (nmd : Int64) (m d : Int) (al : Value) : Prop := 0 ≤ m ∧ m ≤ 17 ∧ ∃ fp ep ta : List Int, f (57 + 4 * c) = xfg c nmd (xi m) (xi d) al ∧ f (58 + 4 * c) = xr 0 fp ∧ f (59 + 4 * c) = xr 0 ep ∧ f (60 + 4 * c) = xr 0 ta ∧ xty m fp ep ta ∧ xcb B m fp ep ta
/-- nothing but the draft's four cells has changed -/
def xFD (c : Nat) (f f' : Nat → zE) : Prop := ∀ p, p ≠ 57 + 4 * c → p ≠ 58 + 4 * c → p ≠ 59 + 4 * c → p ≠ 60 + 4 * c → f' p = f p
theorem xFD_0 (c : Nat) (f : Nat → zE) : xFD c f f := fun _ _ _ _ _ => rfl
theorem xFD_t {c : Nat} {f g h : Nat → zE} (h1 : xFD c f g) (h2 : xFD c g h) : xFD c f h := fun p a1 a2 a3 a4 => (h2 p a1 a2 a3 a4).trans (h1 p a1 a2 a3 a4)
theorem x_gset {l : List Int} {k j : Nat} {x : Int} : (l.set k x).getD j 0 = if k = j ∧ j < l.length then x else l.getD j 0 := by
  rw [List.getD_eq_getElem?_getD, List.getD_eq_getElem?_getD, List.getElem?_set]
  by_cases hk : k = j
  · subst hk
    by_cases hl : k < l.length
    · simp [hl]
    · simp [hl, List.getElem?_eq_none (Nat.le_of_not_lt hl)]
  · simp [hk]
theorem xty_set {m : Nat} {fp ep ta : List Int} {a b t : Int} (h : xty (m : Nat) fp ep ta) (ha : 0 ≤ a ∧ a ≤ 208) (hb : 0 ≤ b ∧ b ≤ 208) (ht : -1 ≤ t ∧ t ≤ m) (hm : m < 16) : xty ((m : Nat) + 1) (fp.set m a) (ep.set m b) (ta.set m t) := by
  obtain ⟨h1, h2, h3, h4, h5, h6, h7⟩ := h
  refine ⟨by rw [List.length_set]; exact h1, by rw [List.length_set]; exact h2, by rw [List.length_set]; exact h3, fun j => ?_, fun j => ?_, fun j => ?_, fun j hj => ?_⟩
  · rw [x_gset]
    split
    · exact ha
    · exact h4 j
  · rw [x_gset]
    split
    · exact hb
    · exact h5 j
  · rw [x_gset]
    split
    · omega
    · exact h6 j
  · rw [x_gset]
    split
    · rename_i hk
      have := hk.1
      omega
    · rename_i hk
      by_cases hjm : j = m
      · exact absurd ⟨hjm.symm, by omega⟩ hk
      · exact h7 j (by omega)
theorem xty_mono {m m' : Int} {fp ep ta : List Int} (h : xty m fp ep ta) (hm : m' ≤ m ∨ (m = 16 ∧ m' = 17)) : xty m' fp ep ta := by
  obtain ⟨h1, h2, h3, h4, h5, h6, h7⟩ := h
  refine ⟨h1, h2, h3, h4, h5, h6, fun j hj => ?_⟩
  rcases hm with hm | hm
  · exact h7 j (by omega)
  · by_cases hj16 : (j : Int) < 16
    · exact h7 j (by omega)
    · have := h6 j
      omega
theorem xcb_17 {B : List xBt} {m : Int} {fp ep ta : List Int} (h : 16 < m) : xcb B m fp ep ta := fun h2 => by omega
theorem xcb_set {B : List xBt} {m : Int} {fp ep ta : List Int} {a b t : Int} (h : xcb B m fp ep ta) (hm : 0 ≤ m ∧ m < 16) (h1 : fp.length = 16) (h2 : ep.length = 16) (h3 : ta.length = 16) : xcb (B ++ [(a, b, t)]) (m + 1) (fp.set m.toNat a) (ep.set m.toNat b) (ta.set m.toNat t) := by
  intro _
  obtain ⟨k1, k2⟩ := h (by omega)
  refine ⟨by rw [List.length_append, List.length_singleton]; omega, fun j hj => ?_⟩
  rw [List.length_append, List.length_singleton] at hj
  rw [x_gset, x_gset, x_gset]
  by_cases e : m.toNat = j
  · rw [if_pos ⟨e, by omega⟩, if_pos ⟨e, by omega⟩, if_pos ⟨e, by omega⟩, List.getD_eq_getElem?_getD, List.getElem?_append_right (by omega), show j - B.length = 0 by omega]
    rfl
  · rw [if_neg (fun h => e h.1), if_neg (fun h => e h.1), if_neg (fun h => e h.1), k2 j (by omega), List.getD_eq_getElem?_getD, List.getD_eq_getElem?_getD, List.getElem?_append_left (by omega)]
theorem xs_45 {v0 : Value} {xs : List Int32} {u : Nat × Nat} {B : List xBt} {c : Nat} {f : Nat → zE} {nmd : Int64} {m d : Int} {al : Value} {a b t : Int} (hc : c ≤ 12) (hd : xDR B c f nmd m d al) (ha : 0 ≤ a ∧ a ≤ 208) (hb : 0 ≤ b ∧ b ≤ 208) (ht : -1 ≤ t ∧ (m < 16 → t ≤ m)) : xq v0 xs u 45 [(0, .ref (57 + 4 * c)), (1, xi a), (2, xi b), (3, xi t)] f (fun r f' => r = none ∧ xDR (B ++ [(a, b, t)]) c f' nmd (min (m + 1) 17) d al ∧ xFD c f f') := by
  unfold xq
  obtain ⟨hm1, hm2, fp, ep, ta, h0, h1, h2, h3, hty, hcb⟩ := hd
  have hl1 := hty.1
  have hl2 := hty.2.1
  have hl3 := hty.2.2.1
  refine x_aload_n rfl rfl ?_
  refine x_getfield rfl (by omega) h0 rfl ?_
  refine x_bipush rfl (by decide) ?_
  refine x_cge (t := 39) rfl rfl ⟨by omega, by omega⟩ ⟨by omega, by omega⟩ (fun hb6 => ?_) (fun hb6 => ?_)
  · refine x_aload_n rfl rfl ?_
    refine x_getfield rfl (by omega) h0 rfl ?_
    refine x_bipush rfl (by decide) ?_
    refine x_cgt (t := 58) rfl rfl ⟨by omega, by omega⟩ ⟨by omega, by omega⟩ (fun hb45 => ?_) (fun hb45 => ?_)
    · refine x_return rfl ⟨_, _, rfl, rfl, ?_⟩
      have e1 : m = min (m + 1) 17 := by omega
      exact ⟨rfl, ⟨by omega, by omega, _, _, _, by rw [← e1]; exact h0, h1, h2, h3, xty_mono hty (by omega), xcb_17 (by omega)⟩, xFD_0 c f⟩
    · refine x_aload_n rfl rfl ?_
      refine x_dup rfl ?_
      refine x_getfield rfl (by omega) h0 rfl ?_
      refine x_iconst rfl ?_
      refine x_iadd rfl ?_
      refine x_putfield rfl (by omega) h0 (show (4 : Nat) < 7 from by decide) rfl ?_
      refine x_return rfl ⟨_, _, rfl, rfl, ?_⟩
      have e1 : m + 1 = min (m + 1) 17 := by omega
      refine ⟨rfl, ⟨by omega, by omega, _, _, _, by rw [← e1]; exact xu_eq, (xu_ne (by omega) h1), (xu_ne (by omega) h2), (xu_ne (by omega) h3), xty_mono hty (by omega), xcb_17 (by omega)⟩, ?_⟩
      · intro p a1 a2 a3 a4; exact xu_ne a1 rfl
  · refine x_aload_n rfl rfl ?_
    refine x_getfield rfl (by omega) h0 rfl ?_
    refine x_aload_n rfl rfl ?_
    refine x_getfield rfl (by omega) h0 rfl ?_
    refine x_iload_n rfl rfl ?_
    refine x_iastore rfl (by omega) h1 ⟨by omega, by omega⟩ (by omega) ?_
    refine x_aload_n rfl rfl ?_
    refine x_getfield rfl (by omega) (xu_ne (by omega) h0) rfl ?_
    refine x_aload_n rfl rfl ?_
    refine x_getfield rfl (by omega) (xu_ne (by omega) h0) rfl ?_
    refine x_iload_n rfl rfl ?_
    refine x_iastore rfl (by omega) (xu_ne (by omega) h2) ⟨by omega, by omega⟩ (by omega) ?_
    refine x_aload_n rfl rfl ?_
    refine x_getfield rfl (by omega) (xu_ne (by omega) (xu_ne (by omega) h0)) rfl ?_
    refine x_aload_n rfl rfl ?_
    refine x_getfield rfl (by omega) (xu_ne (by omega) (xu_ne (by omega) h0)) rfl ?_
    refine x_iload_n rfl rfl ?_
    refine x_iastore rfl (by omega) (xu_ne (by omega) (xu_ne (by omega) h3)) ⟨by omega, by omega⟩ (by omega) ?_
    refine x_aload_n rfl rfl ?_
    refine x_getfield rfl (by omega) (xu_ne (by omega) (xu_ne (by omega) (xu_ne (by omega) h0))) rfl ?_
    refine x_bipush rfl (by decide) ?_
    refine x_cgt (t := 58) rfl rfl ⟨by omega, by omega⟩ ⟨by omega, by omega⟩ (fun hb45 => ?_) (fun hb45 => ?_)
    · refine x_return rfl ⟨_, _, rfl, rfl, ?_⟩
      exfalso; omega
    · refine x_aload_n rfl rfl ?_
      refine x_dup rfl ?_
      refine x_getfield rfl (by omega) (xu_ne (by omega) (xu_ne (by omega) (xu_ne (by omega) h0))) rfl ?_
      refine x_iconst rfl ?_
      refine x_iadd rfl ?_
      refine x_putfield rfl (by omega) (xu_ne (by omega) (xu_ne (by omega) (xu_ne (by omega) h0))) (show (4 : Nat) < 7 from by decide) rfl ?_
      refine x_return rfl ⟨_, _, rfl, rfl, ?_⟩
      have e1 : m + 1 = min (m + 1) 17 := by omega
      refine ⟨rfl, ⟨by omega, by omega, _, _, _, by rw [← e1]; exact xu_eq, (xu_ne (by omega) (xu_ne (by omega) (xu_ne (by omega) xu_eq))), (xu_ne (by omega) (xu_ne (by omega) xu_eq)), (xu_ne (by omega) xu_eq), ?_, by rw [← e1]; exact xcb_set hcb (by omega) hl1 hl2 hl3⟩, ?_⟩
      · have hm2 : ((m.toNat : Nat) : Int) = m := by omega
        rw [← e1, ← hm2, Int.toNat_natCast]
        exact xty_set (by rw [hm2]; exact hty) ha hb (by omega) (by omega)
      · intro p a1 a2 a3 a4; exact xu_ne a1 (xu_ne a4 (xu_ne a3 (xu_ne a2 rfl)))
theorem xs_53 {v0 : Value} {xs : List Int32} {u : Nat × Nat} {B : List xBt} {c : Nat} {f : Nat → zE} {nmd : Int64} {m d : Int} {al : Value} {a b : Int} (hc : c ≤ 12) (hd : xDR B c f nmd m d al) (ha : 0 ≤ a ∧ a ≤ 208) (hb : 0 ≤ b ∧ b ≤ 208) : xq v0 xs u 53 [(0, .ref (57 + 4 * c)), (1, xi a), (2, xi b)] f (fun r f' => r = none ∧ xDR (B ++ [(a, b, -1)]) c f' nmd (min (m + 1) 17) d al ∧ xFD c f f') := by
  unfold xq
  have hd0 := hd
  obtain ⟨hm1, hm2, fp, ep, ta, h0, h1, h2, h3, hty⟩ := hd0
  refine x_aload_n rfl rfl ?_
  refine x_iload_n rfl rfl ?_
  refine x_iload_n rfl rfl ?_
  refine x_iconst rfl ?_
  refine x_call [_, _, _, _] rfl rfl (show (0 : Nat) ≤ 8 from by decide) (show (4 : Nat) ≤ 4 from by decide) (x_rcv (by omega) h0) (xs_45 hc hd ha hb ⟨by omega, fun _ => by omega⟩) (fun r' f' hP => ?_)
  obtain ⟨rfl, hP1, hP2⟩ := hP
  refine x_return rfl ⟨_, _, rfl, rfl, ?_⟩
  exact ⟨rfl, hP1, hP2⟩
/-- a kept figure -/
def xKF (B : List xBt) (i : Nat) (f : Nat → zE) (nm : Int64) (b d : Int) (al : Value) : Prop := 0 ≤ b ∧ b ≤ 16 ∧ ∃ (fp ep ta : List Int), f (57 + 4 * i) = xfg i nm (xi b) (xi d) al ∧ f (58 + 4 * i) = xr 0 fp ∧ f (59 + 4 * i) = xr 0 ep ∧ f (60 + 4 * i) = xr 0 ta ∧ xty b fp ep ta ∧ (∀ j : Nat, (j : Int) < b → 0 ≤ ta.getD j 0) ∧ xcb B b fp ep ta
theorem x_max {v0 : Value} {xs : List Int32} {u : Nat × Nat} {Q : zO → zX → Prop} {mi pc n : Nat} {lv : zL} {f : Nat → zE} {c : Nat} {v : Value} {r : List Value} {x y : Int} (hc : zcd (zt v0) mi pc = some (.invokestatic n, 1, 1, c, v)) (h8 : zcat (xi x :: r) ≤ 8) (hx : -2147483648 ≤ x ∧ x ≤ 2147483647) (hy : -2147483648 ≤ y ∧ y ≤ 2147483647) (k : xz v0 xs u Q mi (pc + 3) lv (xi (max x y) :: r) f) : xz v0 xs u Q mi pc lv (xi y :: xi x :: r) f := by
  obtain ⟨z1, z2, z3, z4, z5⟩ := zk_za (G := zG xs) (df := zdf (zt v0)) (i := .invokestatic n) (a := 1) (b := 1) (c := c) (v := v) (nL := znl (zt v0) mi) (pc := pc) (lv := lv) (st := xi y :: xi x :: r) (X := (xh f, u)) rfl
  have e : zd 1 (xi y :: xi x :: r) (xh f, u) = some (xi (max x y) :: r, (xh f, u)) := by
    simp only [zd, xi_lt hx hy]
    by_cases h : x < y
    · rw [if_pos h, show max x y = y by omega]
    · rw [if_neg h, show max x y = x by omega]
  exact zwp_jdk ⟨hc, z1, z2, z3⟩ z4 rfl rfl e h8 k
/-- an older call's beat within a call, at its m-th -/
def xsh (m : Int) (b : xBt) : xBt := (b.1, b.2.1, m + b.2.2)
theorem xtake_s {l : List xBt} {k : Nat} (h : k < l.length) : l.take (k + 1) = l.take k ++ [l.getD k (0, 0, 0)] := by
  rw [List.take_succ_eq_append_getElem h, List.getD_eq_getElem?_getD, List.getElem?_eq_getElem h]
  rfl
theorem xs_46l {v0 : Value} {xs : List Int32} {u : Nat × Nat} {B G : List xBt} {c i : Nat} {f0 : Nat → zE} {nmd nm : Int64} {m d b e : Int} {al ali : Value} (hc : c ≤ 12) (hi : i < c) (hk : xKF G i f0 nm b e ali) (hm0 : 0 ≤ m ∧ m ≤ 17) (hdd : -1000 ≤ d ∧ d ≤ 1000) (hee : -1000 ≤ e ∧ e ≤ 1000) : ∀ (w k : Nat) (lv : zL) (f : Nat → zE), (w + k : Int) = b → zlv lv 0 = some (.ref (57 + 4 * c)) → zlv lv 1 = some (.ref (57 + 4 * i)) → zlv lv 2 = some (xi m) → zlv lv 3 = some (xi (k : Nat)) → xDR (B ++ (G.take k).map (xsh m)) c f nmd (min (m + (k : Nat)) 17) d al → xFD c f0 f → xz v0 xs u (fun o X => ∃ r f', o = .inl r ∧ X = (xh f', u) ∧ (fun r f' => r = none ∧ xDR (B ++ G.map (xsh m)) c f' nmd (min (m + b) 17) (max d (e + 1)) al ∧ xFD c f0 f') r f') 46 7 lv [] f := by
  obtain ⟨hb1, hb2, gp, gq, gt, g0, g1, g2, g3, gty, gta, gcb⟩ := hk
  obtain ⟨gl, gB⟩ := gcb hb2
  have gl1 := gty.1
  have gl2 := gty.2.1
  have gl3 := gty.2.2.1
  intro w
  induction w with
  | zero =>
    intro k lv f hw l0 l1 l2 l3 hd hfr
    have hd0 := hd
    obtain ⟨hm1, hm2, fp, ep, ta, h0, h1, h2, h3, hty, hcb⟩ := hd0
    have g0 := (hfr (57 + 4 * i) (by omega) (by omega) (by omega) (by omega)).trans g0
    have g1 := (hfr (58 + 4 * i) (by omega) (by omega) (by omega) (by omega)).trans g1
    have g2 := (hfr (59 + 4 * i) (by omega) (by omega) (by omega) (by omega)).trans g2
    have g3 := (hfr (60 + 4 * i) (by omega) (by omega) (by omega) (by omega)).trans g3
    refine x_iload_n rfl l3 ?_
    refine x_aload_n rfl l1 ?_
    refine x_getfield rfl (by omega) g0 rfl ?_
    refine x_cge (t := 45) rfl rfl ⟨by omega, by omega⟩ ⟨by omega, by omega⟩ (fun hb12 => ?_) (fun hb12 => ?_)
    · refine x_aload_n rfl l0 ?_
      refine x_aload_n rfl l0 ?_
      refine x_getfield rfl (by omega) h0 rfl ?_
      refine x_aload_n rfl l1 ?_
      refine x_getfield rfl (by omega) g0 rfl ?_
      refine x_iconst rfl ?_
      refine x_iadd rfl ?_
      refine x_max rfl (show (2 : Nat) ≤ 8 from by decide) (by omega) (by omega) ?_
      refine x_putfield rfl (by omega) h0 (show (5 : Nat) < 7 from by decide) rfl ?_
      refine x_return rfl ⟨_, _, rfl, rfl, ?_⟩
      refine ⟨rfl, ?_, fun p a1 a2 a3 a4 => xu_ne a1 (hfr p a1 a2 a3 a4)⟩
      have e1 : min (m + b) 17 = min (m + (k : Nat)) 17 := by omega
      rw [e1]
      rw [List.take_of_length_le (by omega)] at hcb
      exact ⟨by omega, by omega, _, _, _, xu_eq, xu_ne (by omega) h1, xu_ne (by omega) h2, xu_ne (by omega) h3, hty, hcb⟩
    · exfalso; omega
  | succ w ih =>
    intro k lv f hw l0 l1 l2 l3 hd hfr
    have hd0 := hd
    obtain ⟨hm1, hm2, fp, ep, ta, h0, h1, h2, h3, hty, hcb⟩ := hd0
    have g0 := (hfr (57 + 4 * i) (by omega) (by omega) (by omega) (by omega)).trans g0
    have g1 := (hfr (58 + 4 * i) (by omega) (by omega) (by omega) (by omega)).trans g1
    have g2 := (hfr (59 + 4 * i) (by omega) (by omega) (by omega) (by omega)).trans g2
    have g3 := (hfr (60 + 4 * i) (by omega) (by omega) (by omega) (by omega)).trans g3
    refine x_iload_n rfl l3 ?_
    refine x_aload_n rfl l1 ?_
    refine x_getfield rfl (by omega) g0 rfl ?_
    refine x_cge (t := 45) rfl rfl ⟨by omega, by omega⟩ ⟨by omega, by omega⟩ (fun hb12 => ?_) (fun hb12 => ?_)
    · exfalso; omega
    · refine x_aload_n rfl l0 ?_
      refine x_aload_n rfl l1 ?_
      refine x_getfield rfl (by omega) g0 rfl ?_
      refine x_iload_n rfl l3 ?_
      refine x_iaload rfl (by omega) g1 ⟨by omega, by omega⟩ (by omega) ?_
      rw [Int.toNat_natCast]
      refine x_aload_n rfl l1 ?_
      refine x_getfield rfl (by omega) g0 rfl ?_
      refine x_iload_n rfl l3 ?_
      refine x_iaload rfl (by omega) g2 ⟨by omega, by omega⟩ (by omega) ?_
      rw [Int.toNat_natCast]
      refine x_iload_n rfl l2 ?_
      refine x_aload_n rfl l1 ?_
      refine x_getfield rfl (by omega) g0 rfl ?_
      refine x_iload_n rfl l3 ?_
      refine x_iaload rfl (by omega) g3 ⟨by omega, by omega⟩ (by omega) ?_
      rw [Int.toNat_natCast]
      have ht1 := gta k (by omega)
      have ht2 := gty.2.2.2.2.2.2 k (by omega)
      have ht3 := gty.2.2.2.2.2.1 k
      refine x_iadd rfl ?_
      refine x_call [_, _, _, _] rfl rfl (show (0 : Nat) ≤ 8 from by decide) (show (4 : Nat) ≤ 4 from by decide) (x_rcv (by omega) h0) (xs_45 hc hd (gty.2.2.2.1 k) (gty.2.2.2.2.1 k) ⟨by omega, fun _ => by omega⟩) (fun r' f' hP => ?_)
      obtain ⟨rfl, hP1, hP2⟩ := hP
      refine x_iinc rfl l3 (show (3 : Nat) < 4 from by decide) ?_
      refine x_goto (t := 7) rfl rfl ?_
      refine ih (k + 1) _ _ (by omega) (xst_ne (by decide) l0 (Or.inl rfl)) (xst_ne (by decide) l1 (Or.inl rfl)) (xst_ne (by decide) l2 (Or.inl rfl)) xst_eq ?_ (xFD_t hfr hP2)
      rw [show min (m + ((k + 1 : Nat) : Int)) 17 = min (min (m + (k : Nat)) 17 + 1) 17 by omega, xtake_s (by omega), List.map_append, ← List.append_assoc, List.map_singleton, ← gB k (by omega)]
      exact hP1
theorem xs_46 {v0 : Value} {xs : List Int32} {u : Nat × Nat} {B G : List xBt} {c i : Nat} {f : Nat → zE} {nmd nm : Int64} {m d b e : Int} {al ali : Value} (hc : c ≤ 12) (hi : i < c) (hk : xKF G i f nm b e ali) (hdd : -1000 ≤ d ∧ d ≤ 1000) (hee : -1000 ≤ e ∧ e ≤ 1000) (hd : xDR B c f nmd m d al) : xq v0 xs u 46 [(0, .ref (57 + 4 * c)), (1, .ref (57 + 4 * i))] f (fun r f' => r = none ∧ xDR (B ++ G.map (xsh m)) c f' nmd (min (m + b) 17) (max d (e + 1)) al ∧ xFD c f f') := by
  unfold xq
  have hd0 := hd
  obtain ⟨hm1, hm2, fp, ep, ta, h0, h1, h2, h3, hty, hcb⟩ := hd0
  refine x_aload_n rfl rfl ?_
  refine x_getfield rfl (by omega) h0 rfl ?_
  refine x_istore_n rfl (show (2 : Nat) < 4 from by decide) ?_
  refine x_iconst rfl ?_
  refine x_istore_n rfl (show (3 : Nat) < 4 from by decide) ?_
  exact xs_46l hc hi hk ⟨hm1, hm2⟩ hdd hee b.toNat 0 _ _ (by have := hk.1; omega) (xst_ne (by decide) (xst_ne (by decide) rfl (Or.inl rfl)) (Or.inl rfl)) (xst_ne (by decide) (xst_ne (by decide) rfl (Or.inl rfl)) (Or.inl rfl)) (xst_ne (by decide) xst_eq (Or.inl rfl)) xst_eq (by rw [show min (m + ((0 : Nat) : Int)) 17 = m by omega, List.take_zero, List.map_nil, List.append_nil]; exact hd) (xFD_0 c f)
/-- a beat danced anew, L beats later -/
def xrs (L : Int) (b : xBt) : xBt := (b.1, b.2.1, if b.2.2 = -1 then -1 else b.2.2 + L)
/-- the rounds 1 to r of what has come since beat n -/
def xrd0 (B : List xBt) (n : Nat) (w : Int) : Nat → List xBt
  | 0 => []
  | r + 1 => xrd0 B n w r ++ (B.drop n).map (xrs (((r + 1 : Nat) : Int) * w))
theorem xs_54i {v0 : Value} {xs : List Int32} {u : Nat × Nat} {Q : zO → zX → Prop} {B E : List xBt} {c : Nat} {nmd : Int64} {m d fr ti : Int} {al : Value} (hc : c ≤ 12) (hm : 0 ≤ m ∧ m ≤ 17) (hfr0 : 0 ≤ fr ∧ fr ≤ m) (hti : 1 ≤ ti ∧ ti ≤ 4) {f0 : Nat → zE} {K Lt rr : Int} (hK : 0 ≤ K ∧ Lt = K + (m - fr)) (hBm : m ≤ 16 → (B.length : Int) = m) (hk : ∀ (lv : zL) (f : Nat → zE), zlv lv 0 = some (.ref (57 + 4 * c)) → zlv lv 1 = some (xi fr) → zlv lv 2 = some (xi ti) → zlv lv 3 = some (xi m) → zlv lv 4 = some (xi rr) → xDR (B ++ E ++ (B.drop fr.toNat).map (xrs Lt)) c f nmd (min (m + K + (m - fr)) 17) d al → xFD c f0 f → xz v0 xs u Q 54 87 lv [] f) : ∀ (w : Nat) (i : Int) (lv : zL) (f : Nat → zE), (w : Int) + i = m → fr ≤ i → zlv lv 0 = some (.ref (57 + 4 * c)) → zlv lv 1 = some (xi fr) → zlv lv 2 = some (xi ti) → zlv lv 3 = some (xi m) → zlv lv 4 = some (xi rr) → zlv lv 5 = some (xi Lt) → zlv lv 6 = some (xi i) → xDR (B ++ E ++ ((B.drop fr.toNat).take (i - fr).toNat).map (xrs Lt)) c f nmd (min (m + K + (i - fr)) 17) d al → xFD c f0 f → xz v0 xs u Q 54 25 lv [] f := by
  intro w
  induction w with
  | zero =>
    intro i lv f hw hi l0 l1 l2 l3 l4 l5 l6 hd hfr
    refine x_iload rfl l6 ?_
    refine x_iload_n rfl l3 ?_
    refine x_cge (t := 87) rfl rfl ⟨by omega, by omega⟩ ⟨by omega, by omega⟩ (fun hb28 => ?_) (fun hb28 => ?_)
    · refine hk _ _ l0 l1 l2 l3 l4 ?_ hfr
      rw [show min (m + K + (m - fr)) 17 = min (m + K + (i - fr)) 17 by omega]
      by_cases h16 : m ≤ 16
      · have hBm2 := hBm h16
        rw [List.take_of_length_le (by rw [List.length_drop]; omega)] at hd
        exact hd
      · obtain ⟨hm1, hm2, fp, ep, ta, h0, h1, h2, h3, hty, hcb⟩ := hd
        exact ⟨hm1, hm2, fp, ep, ta, h0, h1, h2, h3, hty, xcb_17 (by omega)⟩
    · exfalso; omega
  | succ w ih =>
    intro i lv f hw hi l0 l1 l2 l3 l4 l5 l6 hd hfr
    have hd0 := hd
    obtain ⟨hm1, hm2, fp, ep, ta, h0, h1, h2, h3, hty, hcb⟩ := hd0
    have hl1 := hty.1
    have hl2 := hty.2.1
    have hl3 := hty.2.2.1
    refine x_iload rfl l6 ?_
    refine x_iload_n rfl l3 ?_
    refine x_cge (t := 87) rfl rfl ⟨by omega, by omega⟩ ⟨by omega, by omega⟩ (fun hb28 => ?_) (fun hb28 => ?_)
    · exfalso; omega
    · refine x_iload rfl l6 ?_
      refine x_bipush rfl (by decide) ?_
      refine x_cge (t := 87) rfl rfl ⟨by omega, by omega⟩ ⟨by omega, by omega⟩ (fun hb35 => ?_) (fun hb35 => ?_)
      · refine hk _ _ l0 l1 l2 l3 l4 ?_ hfr
        rw [show min (m + K + (m - fr)) 17 = min (m + K + (i - fr)) 17 by omega]
        exact ⟨hm1, hm2, fp, ep, ta, h0, h1, h2, h3, hty, xcb_17 (by omega)⟩
      · refine x_aload_n rfl l0 ?_
        refine x_aload_n rfl l0 ?_
        refine x_getfield rfl (by omega) h0 rfl ?_
        refine x_iload rfl l6 ?_
        refine x_iaload rfl (by omega) h1 ⟨by omega, by omega⟩ (by omega) ?_
        refine x_aload_n rfl l0 ?_
        refine x_getfield rfl (by omega) h0 rfl ?_
        refine x_iload rfl l6 ?_
        refine x_iaload rfl (by omega) h2 ⟨by omega, by omega⟩ (by omega) ?_
        refine x_aload_n rfl l0 ?_
        refine x_getfield rfl (by omega) h0 rfl ?_
        refine x_iload rfl l6 ?_
        refine x_iaload rfl (by omega) h3 ⟨by omega, by omega⟩ (by omega) ?_
        have ht1 := hty.2.2.2.2.2.1 i.toNat
        have hrd : min (m + K + (i - fr)) 17 ≤ 16 → i.toNat - fr.toNat < (B.drop fr.toNat).length ∧ (fp.getD i.toNat 0, ep.getD i.toNat 0, ta.getD i.toNat 0) = (B.drop fr.toNat).getD (i - fr).toNat (0, 0, 0) := fun h16 => by
          have hBm2 := hBm (by omega)
          obtain ⟨kl, kB⟩ := hcb h16
          refine ⟨by rw [List.length_drop]; omega, ?_⟩
          rw [kB i.toNat (by rw [List.length_append, List.length_append]; omega)]
          rw [List.append_assoc, List.getD_eq_getElem?_getD, List.getElem?_append_left (by omega), List.getD_eq_getElem?_getD, List.getElem?_drop, show fr.toNat + (i - fr).toNat = i.toNat by omega]
        have ht2 := hty.2.2.2.2.2.2 i.toNat (by omega)
        refine x_iconst rfl ?_
        refine x_cne (t := 68) rfl rfl ⟨by omega, by omega⟩ ⟨by omega, by omega⟩ (fun hb61 => ?_) (fun hb61 => ?_)
        · refine x_aload_n rfl l0 ?_
          refine x_getfield rfl (by omega) h0 rfl ?_
          refine x_iload rfl l6 ?_
          refine x_iaload rfl (by omega) h3 ⟨by omega, by omega⟩ (by omega) ?_
          refine x_iload rfl l5 ?_
          refine x_iadd rfl ?_
          refine x_call [_, _, _, _] rfl rfl (show (0 : Nat) ≤ 8 from by decide) (show (4 : Nat) ≤ 4 from by decide) (x_rcv (by omega) h0) (xs_45 hc hd (hty.2.2.2.1 i.toNat) (hty.2.2.2.2.1 i.toNat) ⟨by omega, fun _ => by omega⟩) (fun r' f' hP => ?_)
          obtain ⟨rfl, hP1, hP2⟩ := hP
          refine x_iinc rfl l6 (show (6 : Nat) < 7 from by decide) ?_
          refine x_goto (t := 25) rfl rfl ?_
          refine ih (i + 1) _ _ (by omega) (by omega) (xst_ne (by decide) l0 (Or.inl rfl)) (xst_ne (by decide) l1 (Or.inl rfl)) (xst_ne (by decide) l2 (Or.inl rfl)) (xst_ne (by decide) l3 (Or.inl rfl)) (xst_ne (by decide) l4 (Or.inl rfl)) (xst_ne (by decide) l5 (Or.inl rfl)) xst_eq ?_ (xFD_t hfr hP2)
          rw [show min (m + K + (i + 1 - fr)) 17 = min (min (m + K + (i - fr)) 17 + 1) 17 by omega]
          obtain ⟨n1, n2, gp, gq, gt, n0, n3, n4, n5, nty, ncb⟩ := hP1
          refine ⟨n1, n2, gp, gq, gt, n0, n3, n4, n5, nty, ?_⟩
          by_cases h16 : min (m + K + (i - fr)) 17 ≤ 16
          · obtain ⟨q1, q2⟩ := hrd h16
            have e3 : (i + 1 - fr).toNat = (i - fr).toNat + 1 := by omega
            rw [e3, xtake_s (by omega), List.map_append, ← List.append_assoc, List.map_singleton, ← q2]
            unfold xrs
            dsimp only
            rw [if_neg hb61]
            exact ncb
          · exact xcb_17 (by omega)
        · refine x_iconst rfl ?_
          refine x_goto (t := 78) rfl rfl ?_
          refine x_call [_, _, _, _] rfl rfl (show (0 : Nat) ≤ 8 from by decide) (show (4 : Nat) ≤ 4 from by decide) (x_rcv (by omega) h0) (xs_45 hc hd (hty.2.2.2.1 i.toNat) (hty.2.2.2.2.1 i.toNat) ⟨by omega, fun _ => by omega⟩) (fun r' f' hP => ?_)
          obtain ⟨rfl, hP1, hP2⟩ := hP
          refine x_iinc rfl l6 (show (6 : Nat) < 7 from by decide) ?_
          refine x_goto (t := 25) rfl rfl ?_
          refine ih (i + 1) _ _ (by omega) (by omega) (xst_ne (by decide) l0 (Or.inl rfl)) (xst_ne (by decide) l1 (Or.inl rfl)) (xst_ne (by decide) l2 (Or.inl rfl)) (xst_ne (by decide) l3 (Or.inl rfl)) (xst_ne (by decide) l4 (Or.inl rfl)) (xst_ne (by decide) l5 (Or.inl rfl)) xst_eq ?_ (xFD_t hfr hP2)
          rw [show min (m + K + (i + 1 - fr)) 17 = min (min (m + K + (i - fr)) 17 + 1) 17 by omega]
          obtain ⟨n1, n2, gp, gq, gt, n0, n3, n4, n5, nty, ncb⟩ := hP1
          refine ⟨n1, n2, gp, gq, gt, n0, n3, n4, n5, nty, ?_⟩
          by_cases h16 : min (m + K + (i - fr)) 17 ≤ 16
          · obtain ⟨q1, q2⟩ := hrd h16
            have e3 : (i + 1 - fr).toNat = (i - fr).toNat + 1 := by omega
            rw [e3, xtake_s (by omega), List.map_append, ← List.append_assoc, List.map_singleton, ← q2]
            unfold xrs
            dsimp only
            rw [if_pos hb61]
            exact ncb
          · exact xcb_17 (by omega)
theorem xs_54o {v0 : Value} {xs : List Int32} {u : Nat × Nat} {B : List xBt} {c : Nat} {nmd : Int64} {m d fr ti : Int} {al : Value} (hc : c ≤ 12) (hm : 0 ≤ m ∧ m ≤ 17) (hfr0 : 0 ≤ fr ∧ fr ≤ m) (hti : 1 ≤ ti ∧ ti ≤ 4) (hBm : m ≤ 16 → (B.length : Int) = m) {f0 : Nat → zE} : ∀ (w : Nat) (rr : Int) (lv : zL) (f : Nat → zE), (w : Int) + rr = ti → 1 ≤ rr → zlv lv 0 = some (.ref (57 + 4 * c)) → zlv lv 1 = some (xi fr) → zlv lv 2 = some (xi ti) → zlv lv 3 = some (xi m) → zlv lv 4 = some (xi rr) → xDR (B ++ xrd0 B fr.toNat (m - fr) (rr - 1).toNat) c f nmd (min (m + (rr - 1) * (m - fr)) 17) d al → xFD c f0 f → xz v0 xs u (fun o X => ∃ r f', o = .inl r ∧ X = (xh f', u) ∧ (fun r f' => r = none ∧ xDR (B ++ xrd0 B fr.toNat (m - fr) (ti - 1).toNat) c f' nmd (min (m + (ti - 1) * (m - fr)) 17) d al ∧ xFD c f0 f') r f') 54 8 lv [] f := by
  intro w
  induction w with
  | zero =>
    intro rr lv f hw hr l0 l1 l2 l3 l4 hd hfr
    refine x_iload rfl l4 ?_
    refine x_iload_n rfl l2 ?_
    refine x_cge (t := 93) rfl rfl ⟨by omega, by omega⟩ ⟨by omega, by omega⟩ (fun hb11 => ?_) (fun hb11 => ?_)
    · refine x_return rfl ⟨_, _, rfl, rfl, ?_⟩
      have e1 : rr = ti := by omega
      subst e1
      exact ⟨rfl, hd, hfr⟩
    · exfalso; omega
  | succ w ih =>
    intro rr lv f hw hr l0 l1 l2 l3 l4 hd hfr
    refine x_iload rfl l4 ?_
    refine x_iload_n rfl l2 ?_
    refine x_cge (t := 93) rfl rfl ⟨by omega, by omega⟩ ⟨by omega, by omega⟩ (fun hb11 => ?_) (fun hb11 => ?_)
    · exfalso; omega
    · refine x_iload rfl l4 ?_
      refine x_iload_n rfl l3 ?_
      refine x_iload_n rfl l1 ?_
      refine x_isub rfl ?_
      refine x_imul rfl ?_
      refine x_istore rfl (show (5 : Nat) < 7 from by decide) ?_
      refine x_iload_n rfl (xst_ne (by decide) l1 (Or.inl rfl)) ?_
      refine x_istore rfl (show (6 : Nat) < 7 from by decide) ?_
      refine xs_54i (B := B) (E := xrd0 B fr.toNat (m - fr) (rr - 1).toNat) (nmd := nmd) (d := d) (al := al) hc hm hfr0 hti (K := (rr - 1) * (m - fr)) ⟨Int.mul_nonneg (by omega) (by omega), ?_⟩ hBm (fun lv f k0 k1 k2 k3 k4 kd kfr => ?_) (m - fr).toNat fr _ _ (by omega) (Int.le_refl _) (xst_ne (by decide) (xst_ne (by decide) l0 (Or.inl rfl)) (Or.inl rfl)) (xst_ne (by decide) (xst_ne (by decide) l1 (Or.inl rfl)) (Or.inl rfl)) (xst_ne (by decide) (xst_ne (by decide) l2 (Or.inl rfl)) (Or.inl rfl)) (xst_ne (by decide) (xst_ne (by decide) l3 (Or.inl rfl)) (Or.inl rfl)) (xst_ne (by decide) (xst_ne (by decide) l4 (Or.inl rfl)) (Or.inl rfl)) (xst_ne (by decide) xst_eq (Or.inl rfl)) xst_eq ?_ hfr
      · rw [show rr * (m - fr) = ((rr - 1) + 1) * (m - fr) by rw [Int.sub_add_cancel], Int.add_mul, Int.one_mul]
      · refine x_iinc rfl k4 (show (4 : Nat) < 7 from by decide) ?_
        refine x_goto (t := 8) rfl rfl ?_
        refine ih (rr + 1) _ _ (by omega) (by omega) (xst_ne (by decide) k0 (Or.inl rfl)) (xst_ne (by decide) k1 (Or.inl rfl)) (xst_ne (by decide) k2 (Or.inl rfl)) (xst_ne (by decide) k3 (Or.inl rfl)) xst_eq ?_ kfr
        rw [show (rr + 1 - 1) * (m - fr) = (rr - 1) * (m - fr) + (m - fr) by rw [show rr + 1 - 1 = (rr - 1) + 1 by omega, Int.add_mul, Int.one_mul], ← Int.add_assoc, show (rr + 1 - 1).toNat = (rr - 1).toNat + 1 by omega, xrd0, ← List.append_assoc, show (((rr - 1).toNat + 1 : Nat) : Int) = rr by omega]
        exact kd
      · rw [Int.sub_self, Int.add_zero, show (0 : Int).toNat = 0 from rfl, List.take_zero, List.map_nil, List.append_nil]; exact hd
theorem xs_54 {v0 : Value} {xs : List Int32} {u : Nat × Nat} {f : Nat → zE} {B : List xBt} {c : Nat} {nmd : Int64} {m d fr ti : Int} {al : Value} (hc : c ≤ 12) (hm : 0 ≤ m ∧ m ≤ 17) (hfr0 : 0 ≤ fr ∧ fr ≤ m) (hti : 1 ≤ ti ∧ ti ≤ 4) (hd : xDR B c f nmd m d al) : xq v0 xs u 54 [(0, .ref (57 + 4 * c)), (1, xi fr), (2, xi ti)] f (fun r f' => r = none ∧ xDR (B ++ xrd0 B fr.toNat (m - fr) (ti - 1).toNat) c f' nmd (min (m + (ti - 1) * (m - fr)) 17) d al ∧ xFD c f f') := by
  unfold xq
  have hd0 := hd
  obtain ⟨hm1, hm2, fp, ep, ta, h0, h1, h2, h3, hty, hcb⟩ := hd0
  refine x_aload_n rfl rfl ?_
  refine x_getfield rfl (by omega) h0 rfl ?_
  refine x_istore_n rfl (show (3 : Nat) < 7 from by decide) ?_
  refine x_iconst rfl ?_
  refine x_istore rfl (show (4 : Nat) < 7 from by decide) ?_
  exact xs_54o hc hm hfr0 hti (fun h => (hcb h).1) (ti - 1).toNat 1 _ _ (by omega) (Int.le_refl _) (xst_ne (by decide) (xst_ne (by decide) rfl (Or.inl rfl)) (Or.inl rfl)) (xst_ne (by decide) (xst_ne (by decide) rfl (Or.inl rfl)) (Or.inl rfl)) (xst_ne (by decide) (xst_ne (by decide) rfl (Or.inl rfl)) (Or.inl rfl)) (xst_ne (by decide) xst_eq (Or.inl rfl)) xst_eq (by rw [Int.sub_self, Int.zero_mul, Int.add_zero, show min m 17 = m by omega, show (0 : Int).toNat = 0 from rfl, xrd0, List.append_nil]; exact hd) (xFD_0 c f)
/-- a beat of the call itself is taken at its first -/
def xse (b : xBt) : xBt := (b.1, b.2.1, if b.2.2 = -1 then 0 else b.2.2)
/-- the first n beats are settled -/
def xsn (B : List xBt) (n : Nat) : List xBt := (B.take n).map xse ++ B.drop n
theorem xsn_len (B : List xBt) (n : Nat) : (xsn B n).length = B.length := by
  unfold xsn
  rw [List.length_append, List.length_map, List.length_take, List.length_drop]
  omega
theorem xsn_at (B : List xBt) (n j : Nat) (hj : j < B.length) : (xsn B n).getD j (0, 0, 0) = if j < n then xse (B.getD j (0, 0, 0)) else B.getD j (0, 0, 0) := by
  unfold xsn
  rw [List.getD_eq_getElem?_getD, List.getD_eq_getElem?_getD]
  by_cases h : j < n
  · rw [if_pos h, List.getElem?_append_left (by rw [List.length_map, List.length_take]; omega), List.getElem?_map, List.getElem?_take, if_pos h, List.getElem?_eq_getElem hj]
    rfl
  · rw [if_neg h, List.getElem?_append_right (by rw [List.length_map, List.length_take]; omega), List.length_map, List.length_take, List.getElem?_drop, show n + (j - min n B.length) = j by omega]
theorem xsn_all (B : List xBt) : xsn B B.length = B.map xse := by
  unfold xsn
  rw [List.take_length, List.drop_length, List.append_nil]
theorem xs_62l {v0 : Value} {xs : List Int32} {u : Nat × Nat} {B : List xBt} {c : Nat} {f0 : Nat → zE} {nmd : Int64} {m d : Int} {al : Value} {fp ep : List Int} (hc : c ≤ 12) (hm : 0 ≤ m ∧ m ≤ 16) : ∀ (w : Nat) (i : Int) (lv : zL) (f : Nat → zE) (ta : List Int), (w : Int) + i = m ∧ 0 ≤ i → zlv lv 0 = some (.ref (57 + 4 * c)) → zlv lv 1 = some (xi i) → f (57 + 4 * c) = xfg c nmd (xi m) (xi d) al → f (58 + 4 * c) = xr 0 fp → f (59 + 4 * c) = xr 0 ep → f (60 + 4 * c) = xr 0 ta → xty m fp ep ta → (∀ j : Nat, (j : Int) < i → 0 ≤ ta.getD j 0) → xcb (xsn B i.toNat) m fp ep ta → xFD c f0 f → xz v0 xs u (fun o X => ∃ r f', o = .inl r ∧ X = (xh f', u) ∧ (fun r f' => r = none ∧ xKF (B.map xse) c f' nmd m d al ∧ xFD c f0 f') r f') 62 2 lv [] f := by
  intro w
  induction w with
  | zero =>
    intro i lv f ta hw l0 l1 h0 h1 h2 h3 hty hz hcb hfr
    have hl3 := hty.2.2.1
    refine x_iload_n rfl l1 ?_
    refine x_aload_n rfl l0 ?_
    refine x_getfield rfl (by omega) h0 rfl ?_
    refine x_cge (t := 39) rfl rfl ⟨by omega, by omega⟩ ⟨by omega, by omega⟩ (fun hb7 => ?_) (fun hb7 => ?_)
    · refine x_return rfl ⟨_, _, rfl, rfl, ?_⟩
      have e1 : i = m := by omega
      subst e1
      have hcb2 : xcb (B.map xse) i fp ep ta := by
        have hl := (hcb hm.2).1
        rw [xsn_len] at hl
        rw [show i.toNat = B.length by omega, xsn_all] at hcb
        exact hcb
      exact ⟨rfl, ⟨hm.1, hm.2, _, _, _, h0, h1, h2, h3, hty, hz, hcb2⟩, hfr⟩
    · exfalso; omega
  | succ w ih =>
    intro i lv f ta hw l0 l1 h0 h1 h2 h3 hty hz hcb hfr
    have hl3 := hty.2.2.1
    refine x_iload_n rfl l1 ?_
    refine x_aload_n rfl l0 ?_
    refine x_getfield rfl (by omega) h0 rfl ?_
    refine x_cge (t := 39) rfl rfl ⟨by omega, by omega⟩ ⟨by omega, by omega⟩ (fun hb7 => ?_) (fun hb7 => ?_)
    · exfalso; omega
    · refine x_iload_n rfl l1 ?_
      refine x_bipush rfl (by decide) ?_
      refine x_cge (t := 39) rfl rfl ⟨by omega, by omega⟩ ⟨by omega, by omega⟩ (fun hb13 => ?_) (fun hb13 => ?_)
      · exfalso; omega
      · refine x_aload_n rfl l0 ?_
        refine x_getfield rfl (by omega) h0 rfl ?_
        refine x_iload_n rfl l1 ?_
        refine x_iaload rfl (by omega) h3 ⟨by omega, by omega⟩ (by omega) ?_
        have ht1 := hty.2.2.2.2.2.1 i.toNat
        refine x_iconst rfl ?_
        refine x_cne (t := 33) rfl rfl ⟨by omega, by omega⟩ ⟨by omega, by omega⟩ (fun hb23 => ?_) (fun hb23 => ?_)
        · refine x_iinc rfl l1 (show (1 : Nat) < 2 from by decide) ?_
          refine x_goto (t := 2) rfl rfl ?_
          refine ih (i + 1) _ _ ta (by omega) (xst_ne (by decide) l0 (Or.inl rfl)) xst_eq h0 h1 h2 h3 hty (fun j hj => ?_) ?_ hfr
          · by_cases e : (j : Int) = i
            · have := hty.2.2.2.2.2.1 i.toNat; rw [show j = i.toNat by omega]; omega
            · exact hz j (by omega)
          · intro h16
            obtain ⟨c1, c2⟩ := hcb h16
            rw [xsn_len] at c1
            refine ⟨by rw [xsn_len]; exact c1, fun j hj => ?_⟩
            have hj2 := hj
            rw [xsn_len] at hj2
            rw [c2 j (by rw [xsn_len]; exact hj2), xsn_at B _ j hj2, xsn_at B _ j hj2]
            by_cases e : j = i.toNat
            · have c3 := c2 j (by rw [xsn_len]; exact hj2)
              rw [xsn_at B _ j hj2, if_neg (by omega)] at c3
              rw [if_neg (by omega), if_pos (by omega)]
              have c4 : (B.getD j (0, 0, 0)).2.2 = ta.getD i.toNat 0 := by rw [← c3, e]
              unfold xse
              rw [c4, if_neg hb23, ← c4]
            · by_cases e2 : j < i.toNat
              · rw [if_pos e2, if_pos (by omega)]
              · rw [if_neg e2, if_neg (by omega)]
        · refine x_aload_n rfl l0 ?_
          refine x_getfield rfl (by omega) h0 rfl ?_
          refine x_iload_n rfl l1 ?_
          refine x_iconst rfl ?_
          refine x_iastore rfl (by omega) h3 ⟨by omega, by omega⟩ (by omega) ?_
          refine x_iinc rfl l1 (show (1 : Nat) < 2 from by decide) ?_
          refine x_goto (t := 2) rfl rfl ?_
          refine ih (i + 1) _ _ (ta.set i.toNat 0) (by omega) (xst_ne (by decide) l0 (Or.inl rfl)) xst_eq (xu_ne (by omega) h0) (xu_ne (by omega) h1) (xu_ne (by omega) h2) xu_eq ?_ (fun j hj => ?_) ?_ (fun p a1 a2 a3 a4 => xu_ne a4 (hfr p a1 a2 a3 a4))
          · obtain ⟨t1, t2, t3, t4, t5, t6, t7⟩ := hty
            refine ⟨t1, t2, by rw [List.length_set]; exact t3, t4, t5, fun j => ?_, fun j hj => ?_⟩
            · rw [x_gset]; split
              · omega
              · exact t6 j
            · rw [x_gset]; split
              · omega
              · exact t7 j hj
          · rw [x_gset]; split
            · omega
            · rename_i hne
              have hne2 : ¬ (i.toNat = j) := fun e => hne ⟨e, by omega⟩
              exact hz j (by omega)
          · intro h16
            obtain ⟨c1, c2⟩ := hcb h16
            rw [xsn_len] at c1
            refine ⟨by rw [xsn_len]; exact c1, fun j hj => ?_⟩
            have hj2 := hj
            rw [xsn_len] at hj2
            have c3 := c2 j (by rw [xsn_len]; exact hj2)
            rw [xsn_at B _ j hj2] at c3
            rw [xsn_at B _ j hj2, x_gset]
            by_cases e : i.toNat = j
            · rw [if_neg (by omega)] at c3
              rw [if_pos ⟨e, by omega⟩, if_pos (by omega), ← c3]
              unfold xse
              dsimp only
              rw [← e, if_pos hb23]
            · rw [if_neg (fun h => e h.1), c3]
              by_cases e2 : j < i.toNat
              · rw [if_pos e2, if_pos (by omega)]
              · rw [if_neg e2, if_neg (by omega)]
theorem xs_62 {v0 : Value} {xs : List Int32} {u : Nat × Nat} {B : List xBt} {c : Nat} {f : Nat → zE} {nmd : Int64} {m d : Int} {al : Value} (hc : c ≤ 12) (hm16 : m ≤ 16) (hd : xDR B c f nmd m d al) : xq v0 xs u 62 [(0, .ref (57 + 4 * c))] f (fun r f' => r = none ∧ xKF (B.map xse) c f' nmd m d al ∧ xFD c f f') := by
  unfold xq
  obtain ⟨hm1, hm2, fp, ep, ta, h0, h1, h2, h3, hty, hcb⟩ := hd
  refine x_iconst rfl ?_
  refine x_istore_n rfl (show (1 : Nat) < 2 from by decide) ?_
  exact xs_62l hc ⟨hm1, hm16⟩ m.toNat 0 _ _ ta (by omega) (xst_ne (by decide) rfl (Or.inl rfl)) xst_eq h0 h1 h2 h3 hty (fun j hj => by omega) (by show xcb (xsn B 0) m fp ep ta; unfold xsn; rw [List.take_zero, List.map_nil, List.nil_append, List.drop_zero]; exact hcb) (xFD_0 c f)
theorem xs_59 {v0 : Value} {xs : List Int32} {u : Nat × Nat} {B : List xBt} {c : Nat} {f : Nat → zE} {nmd : Int64} {m d : Int} {al : Value} (hc : c ≤ 12) (hd0 : -1000 ≤ d ∧ d ≤ 1000) (hd : xDR B c f nmd m d al) : xq v0 xs u 59 [(0, .ref (57 + 4 * c))] f (fun r f' => r = some (xi (if 16 < m ∨ 6 < d then 1 else 0)) ∧ f' = f) := by
  unfold xq
  obtain ⟨hm1, hm2, fp, ep, ta, h0, h1, h2, h3, hty, hcb⟩ := hd
  refine x_aload_n rfl rfl ?_
  refine x_getfield rfl (by omega) h0 rfl ?_
  refine x_bipush rfl (by decide) ?_
  refine x_cgt (t := 18) rfl rfl ⟨by omega, by omega⟩ ⟨by omega, by omega⟩ (fun hb6 => ?_) (fun hb6 => ?_)
  · refine x_iconst rfl ?_
    refine x_goto (t := 23) rfl rfl ?_
    refine x_ireturn rfl (Or.inr (Or.inl ⟨rfl, by decide⟩)) ⟨_, _, rfl, rfl, ?_⟩
    exact ⟨by rw [if_pos (by omega)], rfl⟩
  · refine x_aload_n rfl rfl ?_
    refine x_getfield rfl (by omega) h0 rfl ?_
    refine x_bipush rfl (by decide) ?_
    refine x_cle (t := 22) rfl rfl ⟨by omega, by omega⟩ ⟨by omega, by omega⟩ (fun hb15 => ?_) (fun hb15 => ?_)
    · refine x_iconst rfl ?_
      refine x_ireturn rfl (Or.inr (Or.inl ⟨rfl, by decide⟩)) ⟨_, _, rfl, rfl, ?_⟩
      exact ⟨by rw [if_neg (by omega)], rfl⟩
    · refine x_iconst rfl ?_
      refine x_goto (t := 23) rfl rfl ?_
      refine x_ireturn rfl (Or.inr (Or.inl ⟨rfl, by decide⟩)) ⟨_, _, rfl, rfl, ?_⟩
      exact ⟨by rw [if_pos (by omega)], rfl⟩
theorem xs_4 {v0 : Value} {xs : List Int32} {u : Nat × Nat} {B : List xBt} {c : Nat} {f : Nat → zE} {nmd : Int64} {m d : Int} {al : Value} (hc : c ≤ 12) (hd : xDR B c f nmd m d al) : xq v0 xs u 4 [(0, .ref (57 + 4 * c))] f (fun r f' => r = none ∧ xDR [] c f' nmd 0 1 al ∧ xFD c f f') := by
  unfold xq
  obtain ⟨hm1, hm2, fp, ep, ta, h0, h1, h2, h3, hty, hcb⟩ := hd
  refine x_aload_n rfl rfl ?_
  refine x_iconst rfl ?_
  refine x_putfield rfl (by omega) h0 (show (4 : Nat) < 7 from by decide) rfl ?_
  refine x_aload_n rfl rfl ?_
  refine x_iconst rfl ?_
  refine x_putfield rfl (by omega) xu_eq (show (5 : Nat) < 7 from by decide) rfl ?_
  refine x_return rfl ⟨_, _, rfl, rfl, ?_⟩
  exact ⟨rfl, ⟨by decide, by decide, fp, ep, ta, xu_eq, xu_ne (by omega) (xu_ne (by omega) h1), xu_ne (by omega) (xu_ne (by omega) h2), xu_ne (by omega) (xu_ne (by omega) h3), xty_mono hty (Or.inl hm1), fun _ => ⟨rfl, fun j hj => absurd hj (Nat.not_lt_zero j)⟩⟩, fun p a1 a2 a3 a4 => xu_ne a1 (xu_ne a1 rfl)⟩
theorem xs_61 {v0 : Value} {xs : List Int32} {u : Nat × Nat} {f : Nat → zE} {c : Nat} {kp pt : Int} (hc : c ≤ 12) (h53 : f 53 = xbo (c : Nat) kp pt) : xq v0 xs u 61 [(0, .ref 53)] f (fun r f' => r = some (xi (if c = 12 then 1 else 0)) ∧ f' = f) := by
  unfold xq
  refine x_aload_n rfl rfl ?_
  refine x_getfield rfl (by decide) h53 rfl ?_
  refine x_bipush rfl (by decide) ?_
  refine x_clt (t := 13) rfl rfl ⟨by omega, by omega⟩ ⟨by omega, by omega⟩ (fun hb6 => ?_) (fun hb6 => ?_)
  · refine x_iconst rfl ?_
    refine x_ireturn rfl (Or.inr (Or.inl ⟨rfl, by decide⟩)) ⟨_, _, rfl, rfl, ?_⟩
    exact ⟨by rw [if_neg (by omega)], rfl⟩
  · refine x_iconst rfl ?_
    refine x_goto (t := 14) rfl rfl ?_
    refine x_ireturn rfl (Or.inr (Or.inl ⟨rfl, by decide⟩)) ⟨_, _, rfl, rfl, ?_⟩
    exact ⟨by rw [if_pos (by omega)], rfl⟩
theorem xs_44 {v0 : Value} {xs : List Int32} {u : Nat × Nat} {f : Nat → zE} {c i : Nat} {kp pt : Int} (hi : i < 13) (h53 : f 53 = xbo (c : Nat) kp pt) (h54 : f 54 = .inr (.inr (.inr (3, xfl)))) : xq v0 xs u 44 [(0, .ref 53), (1, xi (i : Nat))] f (fun r f' => r = some (.ref (57 + 4 * i)) ∧ f' = f) := by
  unfold xq
  refine x_aload_n rfl rfl ?_
  refine x_getfield rfl (by decide) h53 rfl ?_
  refine x_iload_n rfl rfl ?_
  refine x_aaload rfl (by decide) h54 ⟨by omega, show ((i : Nat) : Int) < (13 : Nat) by omega⟩ (show (13 : Nat) ≤ 5000 by decide) (by rw [Int.toNat_natCast]; exact xfl_at (by omega)) ?_
  refine x_areturn rfl ⟨_, _, rfl, rfl, ?_⟩
  exact ⟨rfl, rfl⟩
/-- the rows of parts -/
def xPT (K E : List (Int × Int)) (pt : Int) (f : Nat → zE) : Prop := ∃ se at' : List Int, f 55 = xr 0 se ∧ f 56 = xr 0 at' ∧ se.length = 208 ∧ at'.length = 208 ∧ (∀ j : Nat, 0 ≤ se.getD j 0 ∧ se.getD j 0 ≤ 12) ∧ (∀ j : Nat, 0 ≤ at'.getD j 0 ∧ at'.getD j 0 ≤ 6) ∧ (K.length : Int) ≤ pt ∧ (∀ j, j < K.length → (se.getD j 0, at'.getD j 0) = K.getD j (0, 0)) ∧ ((K ++ E).length ≤ 208 → ((K ++ E).length : Int) = pt ∧ ∀ j, j < (K ++ E).length → (se.getD j 0, at'.getD j 0) = (K ++ E).getD j (0, 0))
theorem xs_51 {v0 : Value} {xs : List Int32} {u : Nat × Nat} {f : Nat → zE} {K E : List (Int × Int)} {c : Nat} {kp pt s a : Int} (hpt : 0 ≤ pt ∧ pt ≤ 208) (hs : 0 ≤ s ∧ s ≤ 12) (ha : 0 ≤ a ∧ a ≤ 6) (h53 : f 53 = xbo (c : Nat) kp pt) (hP : xPT K E pt f) : xq v0 xs u 51 [(0, .ref 53), (1, xi s), (2, xi a)] f (fun r f' => r = none ∧ ∃ pt' : Int, (0 ≤ pt' ∧ pt' ≤ 208) ∧ f' 53 = xbo (c : Nat) kp pt' ∧ xPT K (E ++ [(s, a)]) pt' f' ∧ ∀ p, p ≠ 53 → p ≠ 55 → p ≠ 56 → f' p = f p) := by
  unfold xq
  obtain ⟨se, at', h55, h56, hl1, hl2, h1, h2, hkp, hK, hcn⟩ := hP
  refine x_aload_n rfl rfl ?_
  refine x_getfield rfl (by decide) h53 rfl ?_
  refine x_aload_n rfl rfl ?_
  refine x_getfield rfl (by decide) h53 rfl ?_
  refine x_len rfl (by decide) h55 ?_
  refine x_cge (t := 42) rfl rfl ⟨by omega, by omega⟩ ⟨by omega, by omega⟩ (fun hb9 => ?_) (fun hb9 => ?_)
  · refine x_return rfl ⟨_, _, rfl, rfl, ?_⟩
    refine ⟨rfl, pt, hpt, h53, ⟨se, at', h55, h56, hl1, hl2, h1, h2, hkp, hK, fun hl => ?_⟩, fun p _ _ _ => rfl⟩
    rw [← List.append_assoc, List.length_append, List.length_singleton] at hl
    have := (hcn (by omega)).1
    omega
  · refine x_aload_n rfl rfl ?_
    refine x_getfield rfl (by decide) h53 rfl ?_
    refine x_aload_n rfl rfl ?_
    refine x_getfield rfl (by decide) h53 rfl ?_
    refine x_iload_n rfl rfl ?_
    refine x_iastore rfl (by decide) h55 ⟨by omega, by omega⟩ (by omega) ?_
    refine x_aload_n rfl rfl ?_
    refine x_getfield rfl (by decide) (xu_ne (by decide) h53) rfl ?_
    refine x_aload_n rfl rfl ?_
    refine x_getfield rfl (by decide) (xu_ne (by decide) h53) rfl ?_
    refine x_iload_n rfl rfl ?_
    refine x_iastore rfl (by decide) (xu_ne (by decide) h56) ⟨by omega, by omega⟩ (by omega) ?_
    refine x_aload_n rfl rfl ?_
    refine x_dup rfl ?_
    refine x_getfield rfl (by decide) (xu_ne (by decide) (xu_ne (by decide) h53)) rfl ?_
    refine x_iconst rfl ?_
    refine x_iadd rfl ?_
    refine x_putfield rfl (by decide) (xu_ne (by decide) (xu_ne (by decide) h53)) (show (5 : Nat) < 6 from by decide) rfl ?_
    refine x_return rfl ⟨_, _, rfl, rfl, ?_⟩
    refine ⟨rfl, pt + 1, by omega, xu_eq, ⟨_, _, xu_ne (by decide) (xu_ne (by decide) xu_eq), xu_ne (by decide) xu_eq, by rw [List.length_set]; exact hl1, by rw [List.length_set]; exact hl2, fun j => ?_, fun j => ?_, by omega, fun j hj => ?_, fun hl => ?_⟩, fun p a1 a2 a3 => xu_ne a1 (xu_ne a3 (xu_ne a2 rfl))⟩
    · rw [x_gset]; split
      · exact hs
      · exact h1 j
    · rw [x_gset]; split
      · exact ha
      · exact h2 j
    · rw [x_gset, x_gset, if_neg (by omega), if_neg (by omega)]
      exact hK j hj
    · rw [← List.append_assoc, List.length_append, List.length_singleton] at hl
      obtain ⟨e1, e2⟩ := hcn (by omega)
      refine ⟨by rw [← List.append_assoc, List.length_append, List.length_singleton]; omega, fun j hj => ?_⟩
      rw [← List.append_assoc, List.length_append, List.length_singleton] at hj
      rw [x_gset, x_gset, ← List.append_assoc]
      by_cases e : pt.toNat = j
      · rw [if_pos ⟨e, by omega⟩, if_pos ⟨e, by omega⟩, List.getD_eq_getElem?_getD, List.getElem?_append_right (by omega), show j - (K ++ E).length = 0 by omega]
        rfl
      · rw [if_neg (fun h => e h.1), if_neg (fun h => e h.1), e2 j (by omega), List.getD_eq_getElem?_getD, List.getD_eq_getElem?_getD, List.getElem?_append_left (l₁ := K ++ E) (l₂ := [(s, a)]) (by omega)]
end
section
/-! The class's reader, token by token. -/
abbrev xrd (c : Nat) (op ex bs sl : Int) : zE := .inl (4, [.ref 51, .ref 53, .ref 112, .ref 110, .ref 111, .ref (57 + 4 * c), xi op, xi ex, xi bs, xi sl])
def xS (wo : Int64) : Int := xix (xgt 5).2 wo (xgt 5).2.length 0 0 0
def xAt (wo : Int64) : Int := xix (xgt 6).2 wo (xgt 6).2.length 0 0 0
theorem xix_rg {zs : List Int} {W : Int64} : ∀ (d i : Nat) (ix rd : Int), -1 ≤ ix → -1 ≤ xix zs W d i ix rd ∧ xix zs W d i ix rd ≤ max (-1) (ix + d) := by
  intro d
  induction d with
  | zero =>
    intro i ix rd h
    simp only [xix]
    split <;> omega
  | succ d ih =>
    intro i ix rd h
    simp only [xix]
    split
    · split
      · omega
      · have := ih (i + 1) (ix + 1) 0 (by omega)
        omega
    · have := ih (i + 1) ix (32 * rd + (zs.getD i 0 - 96)) h
      omega
theorem xS_rg (wo : Int64) : -1 ≤ xS wo ∧ xS wo ≤ 75 := by
  have := xix_rg (zs := (xgt 5).2) (W := wo) (xgt 5).2.length 0 0 0 (by decide)
  have h2 := xgt_l (p := 5) (Or.inl rfl)
  unfold xS
  omega
theorem xAt_rg (wo : Int64) : -1 ≤ xAt wo ∧ xAt wo ≤ 75 := by
  have := xix_rg (zs := (xgt 6).2) (W := wo) (xgt 6).2.length 0 0 0 (by decide)
  have h2 := xgt_l (p := 6) (Or.inr rfl)
  unfold xAt
  omega
theorem xfn_rg {nm : Nat → Int64} {g : Int64} : ∀ (d i : Nat), xfn nm g d i = -1 ∨ ∃ j : Nat, xfn nm g d i = (j : Nat) ∧ i ≤ j ∧ j < i + d := by
  intro d
  induction d with
  | zero => intro i; exact Or.inl rfl
  | succ d ih =>
    intro i
    simp only [xfn]
    split
    · exact Or.inr ⟨i, rfl, Nat.le_refl _, by omega⟩
    · rcases ih (i + 1) with h | ⟨j, h1, h2, h3⟩
      · exact Or.inl h
      · exact Or.inr ⟨j, h1, by omega, by omega⟩
theorem xs_42t {v0 : Value} {xs : List Int32} {u : Nat × Nat} {f : Nat → zE} {c : Nat} {op ex bs sl ki st en di sg : Int} {wo : Int64} {w nx : Int} (h109 : f 109 = xrd c op ex bs sl) (h112 : f 112 = xtk ki st en wo di sg) (hki : 0 ≤ ki ∧ ki ≤ 9) (hsg : ki = 3 → 0 ≤ sg ∧ sg ≤ 65535) (hw0 : 0 ≤ w ∧ w ≤ 65535) (hw : ki = 3 ∧ sg = w) : xq v0 xs u 42 [(0, .ref 109), (1, xi w), (2, xi nx)] f (fun r f' => r = some (xi 1) ∧ f' = xu f 109 (xrd c op nx bs sl)) := by
  unfold xq
  refine x_aload_n rfl rfl ?_
  refine x_getfield rfl (by decide) h109 rfl ?_
  refine x_iload_n rfl rfl ?_
  refine x_call [_, _] rfl rfl (show (0 : Nat) ≤ 8 from by decide) (show (2 : Nat) ≤ 2 from by decide) (x_rcv (by decide) h112) (xs_41 hki hsg hw0 h112) (fun r' f' hP => ?_)
  obtain ⟨rfl, rfl⟩ := hP
  rw [if_pos hw]
  refine x_ifne (t := 13) rfl rfl ⟨by omega, by omega⟩ (fun hb8 => ?_) (fun hb8 => ?_)
  · refine x_aload_n rfl rfl ?_
    refine x_iload_n rfl rfl ?_
    refine x_putfield rfl (by decide) h109 (show (7 : Nat) < 10 from by decide) rfl ?_
    refine x_iconst rfl ?_
    refine x_ireturn rfl (Or.inr (Or.inl ⟨rfl, by decide⟩)) ⟨_, _, rfl, rfl, ?_⟩
    first | (exfalso; omega) | exact ⟨rfl, rfl⟩
  · refine x_iconst rfl ?_
    refine x_ireturn rfl (Or.inr (Or.inl ⟨rfl, by decide⟩)) ⟨_, _, rfl, rfl, ?_⟩
    first | (exfalso; omega) | exact ⟨rfl, rfl⟩
theorem xs_42f {v0 : Value} {xs : List Int32} {u : Nat × Nat} {f : Nat → zE} {c : Nat} {op ex bs sl ki st en di sg : Int} {wo : Int64} {w nx : Int} (h109 : f 109 = xrd c op ex bs sl) (h112 : f 112 = xtk ki st en wo di sg) (hki : 0 ≤ ki ∧ ki ≤ 9) (hsg : ki = 3 → 0 ≤ sg ∧ sg ≤ 65535) (hw0 : 0 ≤ w ∧ w ≤ 65535) (hw : ¬ (ki = 3 ∧ sg = w)) : xq v0 xs u 42 [(0, .ref 109), (1, xi w), (2, xi nx)] f (fun r f' => r = some (xi 0) ∧ f' = f) := by
  unfold xq
  refine x_aload_n rfl rfl ?_
  refine x_getfield rfl (by decide) h109 rfl ?_
  refine x_iload_n rfl rfl ?_
  refine x_call [_, _] rfl rfl (show (0 : Nat) ≤ 8 from by decide) (show (2 : Nat) ≤ 2 from by decide) (x_rcv (by decide) h112) (xs_41 hki hsg hw0 h112) (fun r' f' hP => ?_)
  obtain ⟨rfl, rfl⟩ := hP
  rw [if_neg hw]
  refine x_ifne (t := 13) rfl rfl ⟨by omega, by omega⟩ (fun hb8 => ?_) (fun hb8 => ?_)
  · refine x_aload_n rfl rfl ?_
    refine x_iload_n rfl rfl ?_
    refine x_putfield rfl (by decide) h109 (show (7 : Nat) < 10 from by decide) rfl ?_
    refine x_iconst rfl ?_
    refine x_ireturn rfl (Or.inr (Or.inl ⟨rfl, by decide⟩)) ⟨_, _, rfl, rfl, ?_⟩
    first | (exfalso; omega) | exact ⟨rfl, rfl⟩
  · refine x_iconst rfl ?_
    refine x_ireturn rfl (Or.inr (Or.inl ⟨rfl, by decide⟩)) ⟨_, _, rfl, rfl, ?_⟩
    first | (exfalso; omega) | exact ⟨rfl, rfl⟩
theorem xs_43t {v0 : Value} {xs : List Int32} {u : Nat × Nat} {f : Nat → zE} {c : Nat} {op ex bs sl ki st en di sg : Int} {wo : Int64} {tm : List Int} (h109 : f 109 = xrd c op ex bs sl) (h112 : f 112 = xtk ki st en wo di sg) (hki : 0 ≤ ki ∧ ki ≤ 9) (hsg : ki = 3 → 0 ≤ sg ∧ sg ≤ 65535) (h110 : f 110 = xr 0 tm) (htl : tm.length = 3) (hop : 0 ≤ op ∧ op ≤ 3) (hdi : ki = 2 → -1 ≤ di ∧ di ≤ 100) (hA : ki = 2 ∧ 2 ≤ di ∧ di ≤ 4 ∧ op < 3) : xq v0 xs u 43 [(0, .ref 109)] f (fun r f' => r = some (xi 1) ∧ f' = xu (xu f 110 (xr 0 (tm.set op.toNat di))) 109 (xrd c op 3 bs sl)) := by
  unfold xq
  refine x_aload_n rfl rfl ?_
  refine x_getfield rfl (by decide) h109 rfl ?_
  refine x_getfield rfl (by decide) h112 rfl ?_
  refine x_iconst rfl ?_
  refine x_cne (t := 41) rfl rfl ⟨by omega, by omega⟩ ⟨by omega, by omega⟩ (fun hb8 => ?_) (fun hb8 => ?_)
  · refine x_iconst rfl ?_
    refine x_ireturn rfl (Or.inr (Or.inl ⟨rfl, by decide⟩)) ⟨_, _, rfl, rfl, ?_⟩
    first | (exfalso; omega) | exact ⟨rfl, rfl⟩
  · have hdi := hdi hb8
    refine x_aload_n rfl rfl ?_
    refine x_getfield rfl (by decide) h109 rfl ?_
    refine x_getfield rfl (by decide) h112 rfl ?_
    refine x_iconst rfl ?_
    refine x_clt (t := 41) rfl rfl ⟨by omega, by omega⟩ ⟨by omega, by omega⟩ (fun hb19 => ?_) (fun hb19 => ?_)
    · refine x_iconst rfl ?_
      refine x_ireturn rfl (Or.inr (Or.inl ⟨rfl, by decide⟩)) ⟨_, _, rfl, rfl, ?_⟩
      first | (exfalso; omega) | exact ⟨rfl, rfl⟩
    · refine x_aload_n rfl rfl ?_
      refine x_getfield rfl (by decide) h109 rfl ?_
      refine x_getfield rfl (by decide) h112 rfl ?_
      refine x_iconst rfl ?_
      refine x_cgt (t := 41) rfl rfl ⟨by omega, by omega⟩ ⟨by omega, by omega⟩ (fun hb30 => ?_) (fun hb30 => ?_)
      · refine x_iconst rfl ?_
        refine x_ireturn rfl (Or.inr (Or.inl ⟨rfl, by decide⟩)) ⟨_, _, rfl, rfl, ?_⟩
        first | (exfalso; omega) | exact ⟨rfl, rfl⟩
      · refine x_aload_n rfl rfl ?_
        refine x_getfield rfl (by decide) h109 rfl ?_
        refine x_iconst rfl ?_
        refine x_clt (t := 43) rfl rfl ⟨by omega, by omega⟩ ⟨by omega, by omega⟩ (fun hb38 => ?_) (fun hb38 => ?_)
        · refine x_aload_n rfl rfl ?_
          refine x_getfield rfl (by decide) h109 rfl ?_
          refine x_aload_n rfl rfl ?_
          refine x_getfield rfl (by decide) h109 rfl ?_
          refine x_aload_n rfl rfl ?_
          refine x_getfield rfl (by decide) h109 rfl ?_
          refine x_getfield rfl (by decide) h112 rfl ?_
          refine x_iastore rfl (by decide) h110 ⟨by omega, by omega⟩ (by omega) ?_
          refine x_aload_n rfl rfl ?_
          refine x_iconst rfl ?_
          refine x_putfield rfl (by decide) (xu_ne (by decide) h109) (show (7 : Nat) < 10 from by decide) rfl ?_
          refine x_iconst rfl ?_
          refine x_ireturn rfl (Or.inr (Or.inl ⟨rfl, by decide⟩)) ⟨_, _, rfl, rfl, ?_⟩
          first | (exfalso; omega) | exact ⟨rfl, rfl⟩
        · refine x_iconst rfl ?_
          refine x_ireturn rfl (Or.inr (Or.inl ⟨rfl, by decide⟩)) ⟨_, _, rfl, rfl, ?_⟩
          first | (exfalso; omega) | exact ⟨rfl, rfl⟩
theorem xs_43f {v0 : Value} {xs : List Int32} {u : Nat × Nat} {f : Nat → zE} {c : Nat} {op ex bs sl ki st en di sg : Int} {wo : Int64} {tm : List Int} (h109 : f 109 = xrd c op ex bs sl) (h112 : f 112 = xtk ki st en wo di sg) (hki : 0 ≤ ki ∧ ki ≤ 9) (hsg : ki = 3 → 0 ≤ sg ∧ sg ≤ 65535) (h110 : f 110 = xr 0 tm) (htl : tm.length = 3) (hop : 0 ≤ op ∧ op ≤ 3) (hdi : ki = 2 → -1 ≤ di ∧ di ≤ 100) (hA : ¬ (ki = 2 ∧ 2 ≤ di ∧ di ≤ 4 ∧ op < 3)) : xq v0 xs u 43 [(0, .ref 109)] f (fun r f' => r = some (xi 0) ∧ f' = f) := by
  unfold xq
  refine x_aload_n rfl rfl ?_
  refine x_getfield rfl (by decide) h109 rfl ?_
  refine x_getfield rfl (by decide) h112 rfl ?_
  refine x_iconst rfl ?_
  refine x_cne (t := 41) rfl rfl ⟨by omega, by omega⟩ ⟨by omega, by omega⟩ (fun hb8 => ?_) (fun hb8 => ?_)
  · refine x_iconst rfl ?_
    refine x_ireturn rfl (Or.inr (Or.inl ⟨rfl, by decide⟩)) ⟨_, _, rfl, rfl, ?_⟩
    first | (exfalso; omega) | exact ⟨rfl, rfl⟩
  · have hdi := hdi hb8
    refine x_aload_n rfl rfl ?_
    refine x_getfield rfl (by decide) h109 rfl ?_
    refine x_getfield rfl (by decide) h112 rfl ?_
    refine x_iconst rfl ?_
    refine x_clt (t := 41) rfl rfl ⟨by omega, by omega⟩ ⟨by omega, by omega⟩ (fun hb19 => ?_) (fun hb19 => ?_)
    · refine x_iconst rfl ?_
      refine x_ireturn rfl (Or.inr (Or.inl ⟨rfl, by decide⟩)) ⟨_, _, rfl, rfl, ?_⟩
      first | (exfalso; omega) | exact ⟨rfl, rfl⟩
    · refine x_aload_n rfl rfl ?_
      refine x_getfield rfl (by decide) h109 rfl ?_
      refine x_getfield rfl (by decide) h112 rfl ?_
      refine x_iconst rfl ?_
      refine x_cgt (t := 41) rfl rfl ⟨by omega, by omega⟩ ⟨by omega, by omega⟩ (fun hb30 => ?_) (fun hb30 => ?_)
      · refine x_iconst rfl ?_
        refine x_ireturn rfl (Or.inr (Or.inl ⟨rfl, by decide⟩)) ⟨_, _, rfl, rfl, ?_⟩
        first | (exfalso; omega) | exact ⟨rfl, rfl⟩
      · refine x_aload_n rfl rfl ?_
        refine x_getfield rfl (by decide) h109 rfl ?_
        refine x_iconst rfl ?_
        refine x_clt (t := 43) rfl rfl ⟨by omega, by omega⟩ ⟨by omega, by omega⟩ (fun hb38 => ?_) (fun hb38 => ?_)
        · refine x_aload_n rfl rfl ?_
          refine x_getfield rfl (by decide) h109 rfl ?_
          refine x_aload_n rfl rfl ?_
          refine x_getfield rfl (by decide) h109 rfl ?_
          refine x_aload_n rfl rfl ?_
          refine x_getfield rfl (by decide) h109 rfl ?_
          refine x_getfield rfl (by decide) h112 rfl ?_
          refine x_iastore rfl (by decide) h110 ⟨by omega, by omega⟩ (by omega) ?_
          refine x_aload_n rfl rfl ?_
          refine x_iconst rfl ?_
          refine x_putfield rfl (by decide) (xu_ne (by decide) h109) (show (7 : Nat) < 10 from by decide) rfl ?_
          refine x_iconst rfl ?_
          refine x_ireturn rfl (Or.inr (Or.inl ⟨rfl, by decide⟩)) ⟨_, _, rfl, rfl, ?_⟩
          first | (exfalso; omega) | exact ⟨rfl, rfl⟩
        · refine x_iconst rfl ?_
          refine x_ireturn rfl (Or.inr (Or.inl ⟨rfl, by decide⟩)) ⟨_, _, rfl, rfl, ?_⟩
          first | (exfalso; omega) | exact ⟨rfl, rfl⟩
theorem xs_48t {v0 : Value} {xs : List Int32} {u : Nat × Nat} {f : Nat → zE} {c : Nat} {op ex bs sl ki st en di sg : Int} {wo : Int64} (hv : v0 = .null ∨ v0 = .ref 49) (h109 : f 109 = xrd c op ex bs sl) (h112 : f 112 = xtk ki st en wo di sg) (hki : 0 ≤ ki ∧ ki ≤ 9) (hsg : ki = 3 → 0 ≤ sg ∧ sg ≤ 65535) (hw : ki = 1 ∧ xS wo ≠ -1) : xq v0 xs u 48 [(0, .ref 109)] f (fun r f' => r = some (xi 1) ∧ f' 109 = xrd c op 5 bs (xS wo) ∧ ∀ p, p ≠ 109 → f' p = f p) := by
  unfold xq
  have hS := xS_rg wo
  refine x_aload_n rfl rfl ?_
  refine x_aload_n rfl rfl ?_
  refine x_getfield rfl (by decide) h109 rfl ?_
  refine x_getfield rfl (by decide) h112 rfl ?_
  refine x_iconst rfl ?_
  refine x_cne (t := 24) rfl rfl ⟨by omega, by omega⟩ ⟨by omega, by omega⟩ (fun hb9 => ?_) (fun hb9 => ?_)
  · refine x_iconst rfl ?_
    refine x_putfield rfl (by decide) h109 (show (9 : Nat) < 10 from by decide) rfl ?_
    refine x_aload_n rfl rfl ?_
    refine x_iconst rfl ?_
    refine x_putfield rfl (by decide) xu_eq (show (7 : Nat) < 10 from by decide) rfl ?_
    refine x_aload_n rfl rfl ?_
    refine x_getfield rfl (by decide) xu_eq rfl ?_
    refine x_iconst rfl ?_
    refine x_ceq (t := 45) rfl rfl ⟨by omega, by omega⟩ ⟨by omega, by omega⟩ (fun hb38 => ?_) (fun hb38 => ?_)
    · refine x_iconst rfl ?_
      refine x_ireturn rfl (Or.inr (Or.inl ⟨rfl, by decide⟩)) ⟨_, _, rfl, rfl, ?_⟩
      first | (exfalso; omega) | exact ⟨rfl, xu_eq, fun p hp => xu_ne hp (xu_ne hp rfl)⟩
    · refine x_iconst rfl ?_
      refine x_goto (t := 46) rfl rfl ?_
      refine x_ireturn rfl (Or.inr (Or.inl ⟨rfl, by decide⟩)) ⟨_, _, rfl, rfl, ?_⟩
      first | (exfalso; omega) | exact ⟨rfl, xu_eq, fun p hp => xu_ne hp (xu_ne hp rfl)⟩
  · refine x_aload_n rfl rfl ?_
    refine x_getfield rfl (by decide) h109 rfl ?_
    refine x_ldc rfl ?_
    refine x_call [_, _] rfl rfl (show (1 : Nat) ≤ 8 from by decide) (show (2 : Nat) ≤ 6 from by decide) (x_rcv (by decide) h112) (xs_39 hv (p := 5) (Or.inl rfl) h112) (fun r' f' hP => ?_)
    obtain ⟨rfl, rfl⟩ := hP
    change xz v0 xs u _ _ _ _ (xi (xS wo) :: _) _
    refine x_goto (t := 25) rfl rfl ?_
    refine x_putfield rfl (by decide) h109 (show (9 : Nat) < 10 from by decide) rfl ?_
    refine x_aload_n rfl rfl ?_
    refine x_iconst rfl ?_
    refine x_putfield rfl (by decide) xu_eq (show (7 : Nat) < 10 from by decide) rfl ?_
    refine x_aload_n rfl rfl ?_
    refine x_getfield rfl (by decide) xu_eq rfl ?_
    refine x_iconst rfl ?_
    refine x_ceq (t := 45) rfl rfl ⟨by omega, by omega⟩ ⟨by omega, by omega⟩ (fun hb38 => ?_) (fun hb38 => ?_)
    · refine x_iconst rfl ?_
      refine x_ireturn rfl (Or.inr (Or.inl ⟨rfl, by decide⟩)) ⟨_, _, rfl, rfl, ?_⟩
      first | (exfalso; omega) | exact ⟨rfl, xu_eq, fun p hp => xu_ne hp (xu_ne hp rfl)⟩
    · refine x_iconst rfl ?_
      refine x_goto (t := 46) rfl rfl ?_
      refine x_ireturn rfl (Or.inr (Or.inl ⟨rfl, by decide⟩)) ⟨_, _, rfl, rfl, ?_⟩
      first | (exfalso; omega) | exact ⟨rfl, xu_eq, fun p hp => xu_ne hp (xu_ne hp rfl)⟩
theorem xs_48f {v0 : Value} {xs : List Int32} {u : Nat × Nat} {f : Nat → zE} {c : Nat} {op ex bs sl ki st en di sg : Int} {wo : Int64} (hv : v0 = .null ∨ v0 = .ref 49) (h109 : f 109 = xrd c op ex bs sl) (h112 : f 112 = xtk ki st en wo di sg) (hki : 0 ≤ ki ∧ ki ≤ 9) (hsg : ki = 3 → 0 ≤ sg ∧ sg ≤ 65535) (hw : ¬ (ki = 1 ∧ xS wo ≠ -1)) : xq v0 xs u 48 [(0, .ref 109)] f (fun r f' => r = some (xi 0) ∧ (∃ sl', f' 109 = xrd c op 5 bs sl' ∧ sl' = -1) ∧ ∀ p, p ≠ 109 → f' p = f p) := by
  unfold xq
  have hS := xS_rg wo
  refine x_aload_n rfl rfl ?_
  refine x_aload_n rfl rfl ?_
  refine x_getfield rfl (by decide) h109 rfl ?_
  refine x_getfield rfl (by decide) h112 rfl ?_
  refine x_iconst rfl ?_
  refine x_cne (t := 24) rfl rfl ⟨by omega, by omega⟩ ⟨by omega, by omega⟩ (fun hb9 => ?_) (fun hb9 => ?_)
  · refine x_iconst rfl ?_
    refine x_putfield rfl (by decide) h109 (show (9 : Nat) < 10 from by decide) rfl ?_
    refine x_aload_n rfl rfl ?_
    refine x_iconst rfl ?_
    refine x_putfield rfl (by decide) xu_eq (show (7 : Nat) < 10 from by decide) rfl ?_
    refine x_aload_n rfl rfl ?_
    refine x_getfield rfl (by decide) xu_eq rfl ?_
    refine x_iconst rfl ?_
    refine x_ceq (t := 45) rfl rfl ⟨by omega, by omega⟩ ⟨by omega, by omega⟩ (fun hb38 => ?_) (fun hb38 => ?_)
    · refine x_iconst rfl ?_
      refine x_ireturn rfl (Or.inr (Or.inl ⟨rfl, by decide⟩)) ⟨_, _, rfl, rfl, ?_⟩
      first | (exfalso; omega) | exact ⟨rfl, ⟨_, xu_eq, by omega⟩, fun p hp => xu_ne hp (xu_ne hp rfl)⟩
    · refine x_iconst rfl ?_
      refine x_goto (t := 46) rfl rfl ?_
      refine x_ireturn rfl (Or.inr (Or.inl ⟨rfl, by decide⟩)) ⟨_, _, rfl, rfl, ?_⟩
      first | (exfalso; omega) | exact ⟨rfl, ⟨_, xu_eq, by omega⟩, fun p hp => xu_ne hp (xu_ne hp rfl)⟩
  · refine x_aload_n rfl rfl ?_
    refine x_getfield rfl (by decide) h109 rfl ?_
    refine x_ldc rfl ?_
    refine x_call [_, _] rfl rfl (show (1 : Nat) ≤ 8 from by decide) (show (2 : Nat) ≤ 6 from by decide) (x_rcv (by decide) h112) (xs_39 hv (p := 5) (Or.inl rfl) h112) (fun r' f' hP => ?_)
    obtain ⟨rfl, rfl⟩ := hP
    change xz v0 xs u _ _ _ _ (xi (xS wo) :: _) _
    refine x_goto (t := 25) rfl rfl ?_
    refine x_putfield rfl (by decide) h109 (show (9 : Nat) < 10 from by decide) rfl ?_
    refine x_aload_n rfl rfl ?_
    refine x_iconst rfl ?_
    refine x_putfield rfl (by decide) xu_eq (show (7 : Nat) < 10 from by decide) rfl ?_
    refine x_aload_n rfl rfl ?_
    refine x_getfield rfl (by decide) xu_eq rfl ?_
    refine x_iconst rfl ?_
    refine x_ceq (t := 45) rfl rfl ⟨by omega, by omega⟩ ⟨by omega, by omega⟩ (fun hb38 => ?_) (fun hb38 => ?_)
    · refine x_iconst rfl ?_
      refine x_ireturn rfl (Or.inr (Or.inl ⟨rfl, by decide⟩)) ⟨_, _, rfl, rfl, ?_⟩
      first | (exfalso; omega) | exact ⟨rfl, ⟨_, xu_eq, by omega⟩, fun p hp => xu_ne hp (xu_ne hp rfl)⟩
    · refine x_iconst rfl ?_
      refine x_goto (t := 46) rfl rfl ?_
      refine x_ireturn rfl (Or.inr (Or.inl ⟨rfl, by decide⟩)) ⟨_, _, rfl, rfl, ?_⟩
      first | (exfalso; omega) | exact ⟨rfl, ⟨_, xu_eq, by omega⟩, fun p hp => xu_ne hp (xu_ne hp rfl)⟩
theorem xKF_fig {G : Nat → List xBt} {c : Nat} {f : Nat → zE} {nm : Nat → Int64} {bc dp : Nat → Int} {av : Nat → Value} (h : ∀ i, i < c → xKF (G i) i f (nm i) (bc i) (dp i) (av i)) : ∀ i, i < c → ∃ b d a, f (57 + 4 * i) = xfg i (nm i) b d a := fun i hi => by
  obtain ⟨-, -, fp, ep, ta, h0, -⟩ := h i hi
  exact ⟨_, _, _, h0⟩
theorem xKF_mv {B : List xBt} {i c : Nat} {f f' : Nat → zE} {nm : Int64} {b d : Int} {al : Value} (hi : i < c) (hfr : ∀ p, 57 ≤ p → p < 57 + 4 * c → f' p = f p) (h : xKF B i f nm b d al) : xKF B i f' nm b d al := by
  obtain ⟨h1, h2, fp, ep, ta, h3, h4, h5, h6, h7⟩ := h
  exact ⟨h1, h2, fp, ep, ta, (hfr _ (by omega) (by omega)).trans h3, (hfr _ (by omega) (by omega)).trans h4, (hfr _ (by omega) (by omega)).trans h5, (hfr _ (by omega) (by omega)).trans h6, h7⟩
theorem xDR_mv {B : List xBt} {c : Nat} {f f' : Nat → zE} {nmd : Int64} {m d : Int} {al : Value} (hfr : ∀ p, 57 + 4 * c ≤ p → p ≤ 60 + 4 * c → f' p = f p) (h : xDR B c f nmd m d al) : xDR B c f' nmd m d al := by
  obtain ⟨h1, h2, fp, ep, ta, h3, h4, h5, h6, h7⟩ := h
  exact ⟨h1, h2, fp, ep, ta, (hfr _ (by omega) (by omega)).trans h3, (hfr _ (by omega) (by omega)).trans h4, (hfr _ (by omega) (by omega)).trans h5, (hfr _ (by omega) (by omega)).trans h6, h7⟩
theorem xPT_mv {K E : List (Int × Int)} {pt : Int} {f f' : Nat → zE} (h1 : f' 55 = f 55) (h2 : f' 56 = f 56) (h : xPT K E pt f) : xPT K E pt f' := by
  obtain ⟨se, at', a1, a2, a3⟩ := h
  exact ⟨se, at', h1.trans a1, h2.trans a2, a3⟩
theorem xs_47f {G : Nat → List xBt} {v0 : Value} {xs : List Int32} {u : Nat × Nat} {f : Nat → zE} {c : Nat} {op ex bs sl ki st en di sg : Int} {wo : Int64} {kp pt : Int} {nm : Nat → Int64} {bc dp : Nat → Int} {av : Nat → Value} (h109 : f 109 = xrd c op ex bs sl) (h112 : f 112 = xtk ki st en wo di sg) (hki : 0 ≤ ki ∧ ki ≤ 9) (hsg : ki = 3 → 0 ≤ sg ∧ sg ≤ 65535) (hc : c ≤ 12) (h53 : f 53 = xbo (c : Nat) kp pt) (h54 : f 54 = .inr (.inr (.inr (3, xfl)))) (hkf : ∀ i, i < c → xKF (G i) i f (nm i) (bc i) (dp i) (av i)) (hw : ¬ (ki = 1 ∧ xfn nm wo c 0 ≠ -1)) : xq v0 xs u 47 [(0, .ref 109)] f (fun r f' => r = some (xi 0) ∧ f' = f) := by
  unfold xq
  have hfn : -1 ≤ xfn nm wo c 0 ∧ xfn nm wo c 0 ≤ 12 := by rcases xfn_rg (nm := nm) (g := wo) c 0 with h | ⟨j, h1, h2, h3⟩ <;> omega
  refine x_aload_n rfl rfl ?_
  refine x_getfield rfl (by decide) h109 rfl ?_
  refine x_getfield rfl (by decide) h112 rfl ?_
  refine x_iconst rfl ?_
  refine x_cne (t := 28) rfl rfl ⟨by omega, by omega⟩ ⟨by omega, by omega⟩ (fun hb8 => ?_) (fun hb8 => ?_)
  · refine x_iconst rfl ?_
    refine x_istore_n rfl (show (1 : Nat) < 2 from by decide) ?_
    refine x_iload_n rfl xst_eq ?_
    refine x_iconst rfl ?_
    refine x_cne (t := 37) rfl rfl ⟨by omega, by omega⟩ ⟨by omega, by omega⟩ (fun hb32 => ?_) (fun hb32 => ?_)
    · refine x_aload_n rfl (xst_ne (by decide) rfl (Or.inl rfl)) ?_
      refine x_getfield rfl (by decide) h109 rfl ?_
      refine x_aload_n rfl (xst_ne (by decide) rfl (Or.inl rfl)) ?_
      refine x_getfield rfl (by decide) h109 rfl ?_
      refine x_iload_n rfl xst_eq ?_
      exfalso; omega
    · refine x_iconst rfl ?_
      refine x_ireturn rfl (Or.inr (Or.inl ⟨rfl, by decide⟩)) ⟨_, _, rfl, rfl, ?_⟩
      first | (exfalso; omega) | exact ⟨rfl, rfl⟩
  · refine x_aload_n rfl rfl ?_
    refine x_getfield rfl (by decide) h109 rfl ?_
    refine x_aload_n rfl rfl ?_
    refine x_getfield rfl (by decide) h109 rfl ?_
    refine x_getfield rfl (by decide) h112 rfl ?_
    refine x_call [_, _] rfl rfl (show (0 : Nat) ≤ 8 from by decide) (show (3 : Nat) ≤ 4 from by decide) (x_rcv (by decide) h53) (xs_31 hc h53 h54 (xKF_fig hkf)) (fun r' f' hP => ?_)
    obtain ⟨rfl, rfl⟩ := hP
    refine x_goto (t := 29) rfl rfl ?_
    refine x_istore_n rfl (show (1 : Nat) < 2 from by decide) ?_
    refine x_iload_n rfl xst_eq ?_
    refine x_iconst rfl ?_
    refine x_cne (t := 37) rfl rfl ⟨by omega, by omega⟩ ⟨by omega, by omega⟩ (fun hb32 => ?_) (fun hb32 => ?_)
    · refine x_aload_n rfl (xst_ne (by decide) rfl (Or.inl rfl)) ?_
      refine x_getfield rfl (by decide) h109 rfl ?_
      refine x_aload_n rfl (xst_ne (by decide) rfl (Or.inl rfl)) ?_
      refine x_getfield rfl (by decide) h109 rfl ?_
      refine x_iload_n rfl xst_eq ?_
      exfalso; omega
    · refine x_iconst rfl ?_
      refine x_ireturn rfl (Or.inr (Or.inl ⟨rfl, by decide⟩)) ⟨_, _, rfl, rfl, ?_⟩
      first | (exfalso; omega) | exact ⟨rfl, rfl⟩
theorem xs_47t {G : Nat → List xBt} {B : List xBt} {v0 : Value} {xs : List Int32} {u : Nat × Nat} {f : Nat → zE} {c : Nat} {op ex bs sl ki st en di sg : Int} {wo : Int64} {kp pt : Int} {nm : Nat → Int64} {bc dp : Nat → Int} {av : Nat → Value} {nmd : Int64} {m d : Int} {al : Value} {i : Nat} (h109 : f 109 = xrd c op ex bs sl) (h112 : f 112 = xtk ki st en wo di sg) (hki : 0 ≤ ki ∧ ki ≤ 9) (hsg : ki = 3 → 0 ≤ sg ∧ sg ≤ 65535) (hc : c ≤ 12) (h53 : f 53 = xbo (c : Nat) kp pt) (h54 : f 54 = .inr (.inr (.inr (3, xfl)))) (hkf : ∀ i, i < c → xKF (G i) i f (nm i) (bc i) (dp i) (av i)) (hd : xDR B c f nmd m d al) (hdd : -1000 ≤ d ∧ d ≤ 1000) (hdp : ∀ i, i < c → -1000 ≤ dp i ∧ dp i ≤ 1000) (hi : i < c) (hk1 : ki = 1) (hw : xfn nm wo c 0 = (i : Nat)) : xq v0 xs u 47 [(0, .ref 109)] f (fun r f' => r = some (xi 1) ∧ xDR (B ++ (G i).map (xsh m)) c f' nmd (min (m + bc i) 17) (max d (dp i + 1)) al ∧ f' 109 = xrd c op 7 bs sl ∧ ∀ p, p ≠ 109 → p ≠ 57 + 4 * c → p ≠ 58 + 4 * c → p ≠ 59 + 4 * c → p ≠ 60 + 4 * c → f' p = f p) := by
  unfold xq
  have hd0 := hd
  obtain ⟨hm1, hm2, fp, ep, ta, h0, h1, h2, h3, hty⟩ := hd0
  refine x_aload_n rfl rfl ?_
  refine x_getfield rfl (by decide) h109 rfl ?_
  refine x_getfield rfl (by decide) h112 rfl ?_
  refine x_iconst rfl ?_
  refine x_cne (t := 28) rfl rfl ⟨by omega, by omega⟩ ⟨by omega, by omega⟩ (fun hb8 => ?_) (fun hb8 => ?_)
  · exfalso; omega
  · refine x_aload_n rfl rfl ?_
    refine x_getfield rfl (by decide) h109 rfl ?_
    refine x_aload_n rfl rfl ?_
    refine x_getfield rfl (by decide) h109 rfl ?_
    refine x_getfield rfl (by decide) h112 rfl ?_
    refine x_call [_, _] rfl rfl (show (0 : Nat) ≤ 8 from by decide) (show (3 : Nat) ≤ 4 from by decide) (x_rcv (by decide) h53) (xs_31 hc h53 h54 (xKF_fig hkf)) (fun r' f' hP => ?_)
    obtain ⟨rfl, rfl⟩ := hP
    rw [hw]
    refine x_goto (t := 29) rfl rfl ?_
    refine x_istore_n rfl (show (1 : Nat) < 2 from by decide) ?_
    refine x_iload_n rfl xst_eq ?_
    refine x_iconst rfl ?_
    refine x_cne (t := 37) rfl rfl ⟨by omega, by omega⟩ ⟨by omega, by omega⟩ (fun hb32 => ?_) (fun hb32 => ?_)
    · refine x_aload_n rfl (xst_ne (by decide) rfl (Or.inl rfl)) ?_
      refine x_getfield rfl (by decide) h109 rfl ?_
      refine x_aload_n rfl (xst_ne (by decide) rfl (Or.inl rfl)) ?_
      refine x_getfield rfl (by decide) h109 rfl ?_
      refine x_iload_n rfl xst_eq ?_
      refine x_call [_, _] rfl rfl (show (1 : Nat) ≤ 8 from by decide) (show (2 : Nat) ≤ 2 from by decide) (x_rcv (by decide) h53) (xs_44 (i := i) (by omega) h53 h54) (fun r' f' hP => ?_)
      obtain ⟨rfl, rfl⟩ := hP
      refine x_call [_, _] rfl rfl (show (0 : Nat) ≤ 8 from by decide) (show (2 : Nat) ≤ 4 from by decide) (x_rcv (by omega) h0) (xs_46 hc hi (hkf i hi) hdd (hdp i hi) hd) (fun r' f' hP => ?_)
      obtain ⟨rfl, hP1, hP2⟩ := hP
      refine x_aload_n rfl (xst_ne (by decide) rfl (Or.inl rfl)) ?_
      refine x_bipush rfl (by decide) ?_
      refine x_putfield rfl (by decide) ((hP2 109 (by omega) (by omega) (by omega) (by omega)).trans h109) (show (7 : Nat) < 10 from by decide) rfl ?_
      refine x_iconst rfl ?_
      refine x_ireturn rfl (Or.inr (Or.inl ⟨rfl, by decide⟩)) ⟨_, _, rfl, rfl, ?_⟩
      first | (exfalso; omega) | exact ⟨rfl, xDR_mv (fun p p1 p2 => xu_ne (by omega) rfl) hP1, xu_eq, fun p hp a1 a2 a3 a4 => xu_ne hp (hP2 p a1 a2 a3 a4)⟩
    · exfalso; omega
theorem xs_50t {B : List xBt} {v0 : Value} {xs : List Int32} {u : Nat × Nat} {f : Nat → zE} {c : Nat} {op ex bs sl ki st en di sg : Int} {wo : Int64} {oa : List Int} {nmd : Int64} {m d : Int} {al : Value} (h109 : f 109 = xrd c op ex bs sl) (h112 : f 112 = xtk ki st en wo di sg) (hki : 0 ≤ ki ∧ ki ≤ 9) (hsg : ki = 3 → 0 ≤ sg ∧ sg ≤ 65535) (hc : c ≤ 12) (h111 : f 111 = xr 0 oa) (hol : oa.length = 3) (hop : 0 ≤ op ∧ op < 3) (hd : xDR B c f nmd m d al) (hw : ki = 3 ∧ sg = 40) : xq v0 xs u 50 [(0, .ref 109)] f (fun r f' => r = some (xi 1) ∧ f' 109 = xrd c (op + 1) 2 bs sl ∧ f' 111 = xr 0 (oa.set op.toNat m) ∧ ∀ p, p ≠ 109 → p ≠ 111 → f' p = f p) := by
  unfold xq
  obtain ⟨hm1, hm2, fp, ep, ta, h0, h1, h2, h3, hty⟩ := hd
  refine x_aload_n rfl rfl ?_
  refine x_bipush rfl (by decide) ?_
  refine x_iconst rfl ?_
  refine x_call [_, _, _] rfl rfl (show (0 : Nat) ≤ 8 from by decide) (show (3 : Nat) ≤ 3 from by decide) (x_rcv (by decide) h109) (xs_42t h109 h112 hki hsg (by decide) hw) (fun r' f' hP => ?_)
  obtain ⟨rfl, rfl⟩ := hP
  refine x_ifeq (t := 18) rfl rfl ⟨by omega, by omega⟩ (fun hb7 => ?_) (fun hb7 => ?_)
  · exfalso; omega
  · refine x_aload_n rfl rfl ?_
    refine x_getfield rfl (by decide) xu_eq rfl ?_
    refine x_iconst rfl ?_
    refine x_clt (t := 20) rfl rfl ⟨by omega, by omega⟩ ⟨by omega, by omega⟩ (fun hb15 => ?_) (fun hb15 => ?_)
    · refine x_aload_n rfl rfl ?_
      refine x_getfield rfl (by decide) xu_eq rfl ?_
      refine x_aload_n rfl rfl ?_
      refine x_getfield rfl (by decide) xu_eq rfl ?_
      refine x_aload_n rfl rfl ?_
      refine x_getfield rfl (by decide) xu_eq rfl ?_
      refine x_getfield rfl (by omega) (xu_ne (by omega) h0) rfl ?_
      refine x_iastore rfl (by decide) (xu_ne (by decide) h111) ⟨by omega, by omega⟩ (by omega) ?_
      refine x_aload_n rfl rfl ?_
      refine x_dup rfl ?_
      refine x_getfield rfl (by decide) (xu_ne (by decide) xu_eq) rfl ?_
      refine x_iconst rfl ?_
      refine x_iadd rfl ?_
      refine x_putfield rfl (by decide) (xu_ne (by decide) xu_eq) (show (6 : Nat) < 10 from by decide) rfl ?_
      refine x_iconst rfl ?_
      refine x_ireturn rfl (Or.inr (Or.inl ⟨rfl, by decide⟩)) ⟨_, _, rfl, rfl, ?_⟩
      first | (exfalso; omega) | exact ⟨rfl, xu_eq, xu_ne (by decide) xu_eq, fun p p1 p2 => xu_ne p1 (xu_ne p2 (xu_ne p1 rfl))⟩
    · exfalso; omega
theorem xs_50f {B : List xBt} {v0 : Value} {xs : List Int32} {u : Nat × Nat} {f : Nat → zE} {c : Nat} {op ex bs sl ki st en di sg : Int} {wo : Int64} {oa : List Int} {nmd : Int64} {m d : Int} {al : Value} (h109 : f 109 = xrd c op ex bs sl) (h112 : f 112 = xtk ki st en wo di sg) (hki : 0 ≤ ki ∧ ki ≤ 9) (hsg : ki = 3 → 0 ≤ sg ∧ sg ≤ 65535) (hc : c ≤ 12) (h111 : f 111 = xr 0 oa) (hol : oa.length = 3) (hop : 0 ≤ op ∧ op < 3) (hd : xDR B c f nmd m d al) (hw : ¬ (ki = 3 ∧ sg = 40)) : xq v0 xs u 50 [(0, .ref 109)] f (fun r f' => r = some (xi 0) ∧ f' = f) := by
  unfold xq
  obtain ⟨hm1, hm2, fp, ep, ta, h0, h1, h2, h3, hty⟩ := hd
  refine x_aload_n rfl rfl ?_
  refine x_bipush rfl (by decide) ?_
  refine x_iconst rfl ?_
  refine x_call [_, _, _] rfl rfl (show (0 : Nat) ≤ 8 from by decide) (show (3 : Nat) ≤ 3 from by decide) (x_rcv (by decide) h109) (xs_42f h109 h112 hki hsg (by decide) hw) (fun r' f' hP => ?_)
  obtain ⟨rfl, rfl⟩ := hP
  refine x_ifeq (t := 18) rfl rfl ⟨by omega, by omega⟩ (fun hb7 => ?_) (fun hb7 => ?_)
  · refine x_iconst rfl ?_
    refine x_ireturn rfl (Or.inr (Or.inl ⟨rfl, by decide⟩)) ⟨_, _, rfl, rfl, ?_⟩
    first | (exfalso; omega) | exact ⟨rfl, rfl⟩
  · exfalso; omega
theorem xs_52t {K E : List (Int × Int)} {v0 : Value} {xs : List Int32} {u : Nat × Nat} {f : Nat → zE} {c : Nat} {op ex bs sl ki st en di sg : Int} {wo : Int64} {kp pt : Int} (hv : v0 = .null ∨ v0 = .ref 49) (h109 : f 109 = xrd c op ex bs sl) (h112 : f 112 = xtk ki st en wo di sg) (hki : 0 ≤ ki ∧ ki ≤ 9) (hsg : ki = 3 → 0 ≤ sg ∧ sg ≤ 65535) (hat : xAt wo ≤ 6) (hpt : 0 ≤ pt ∧ pt ≤ 208) (hsl : 0 ≤ sl ∧ sl ≤ 12) (h53 : f 53 = xbo (c : Nat) kp pt) (hPT : xPT K E pt f) (hw : ki = 1 ∧ xAt wo ≠ -1) : xq v0 xs u 52 [(0, .ref 109)] f (fun r f' => r = some (xi 1) ∧ f' 109 = xrd c op 6 bs sl ∧ (∃ pt', (0 ≤ pt' ∧ pt' ≤ 208) ∧ f' 53 = xbo (c : Nat) kp pt' ∧ xPT K (E ++ [(sl, xAt wo)]) pt' f') ∧ ∀ p, p ≠ 109 → p ≠ 53 → p ≠ 55 → p ≠ 56 → f' p = f p) := by
  unfold xq
  have hS := xAt_rg wo
  refine x_aload_n rfl rfl ?_
  refine x_getfield rfl (by decide) h109 rfl ?_
  refine x_getfield rfl (by decide) h112 rfl ?_
  refine x_iconst rfl ?_
  refine x_cne (t := 23) rfl rfl ⟨by omega, by omega⟩ ⟨by omega, by omega⟩ (fun hb8 => ?_) (fun hb8 => ?_)
  · exfalso; omega
  · refine x_aload_n rfl rfl ?_
    refine x_getfield rfl (by decide) h109 rfl ?_
    refine x_ldc rfl ?_
    refine x_call [_, _] rfl rfl (show (0 : Nat) ≤ 8 from by decide) (show (2 : Nat) ≤ 6 from by decide) (x_rcv (by decide) h112) (xs_39 hv (p := 6) (Or.inr rfl) h112) (fun r' f' hP => ?_)
    obtain ⟨rfl, rfl⟩ := hP
    change xz v0 xs u _ _ _ _ (xi (xAt wo) :: _) _
    refine x_goto (t := 24) rfl rfl ?_
    refine x_istore_n rfl (show (1 : Nat) < 2 from by decide) ?_
    refine x_iload_n rfl xst_eq ?_
    refine x_iconst rfl ?_
    refine x_cne (t := 32) rfl rfl ⟨by omega, by omega⟩ ⟨by omega, by omega⟩ (fun hb27 => ?_) (fun hb27 => ?_)
    · refine x_aload_n rfl (xst_ne (by decide) rfl (Or.inl rfl)) ?_
      refine x_getfield rfl (by decide) h109 rfl ?_
      refine x_aload_n rfl (xst_ne (by decide) rfl (Or.inl rfl)) ?_
      refine x_getfield rfl (by decide) h109 rfl ?_
      refine x_iload_n rfl xst_eq ?_
      refine x_call [_, _, _] rfl rfl (show (0 : Nat) ≤ 8 from by decide) (show (3 : Nat) ≤ 3 from by decide) (x_rcv (by decide) h53) (xs_51 hpt hsl ⟨by omega, by omega⟩ h53 hPT) (fun r' f' hP => ?_)
      obtain ⟨rfl, pt', hpt', h53', hPT', hfr⟩ := hP
      refine x_aload_n rfl (xst_ne (by decide) rfl (Or.inl rfl)) ?_
      refine x_bipush rfl (by decide) ?_
      refine x_putfield rfl (by decide) ((hfr 109 (by decide) (by decide) (by decide)).trans h109) (show (7 : Nat) < 10 from by decide) rfl ?_
      refine x_iconst rfl ?_
      refine x_ireturn rfl (Or.inr (Or.inl ⟨rfl, by decide⟩)) ⟨_, _, rfl, rfl, ?_⟩
      first | (exfalso; omega) | exact ⟨rfl, xu_eq, ⟨pt', hpt', xu_ne (by decide) h53', xPT_mv (xu_ne (by decide) rfl) (xu_ne (by decide) rfl) hPT'⟩, fun p p1 p2 p3 p4 => xu_ne p1 (hfr p p2 p3 p4)⟩
    · exfalso; omega
theorem xs_52f {v0 : Value} {xs : List Int32} {u : Nat × Nat} {f : Nat → zE} {c : Nat} {op ex bs sl ki st en di sg : Int} {wo : Int64} {kp pt : Int} (hv : v0 = .null ∨ v0 = .ref 49) (h109 : f 109 = xrd c op ex bs sl) (h112 : f 112 = xtk ki st en wo di sg) (hki : 0 ≤ ki ∧ ki ≤ 9) (hsg : ki = 3 → 0 ≤ sg ∧ sg ≤ 65535) (hw : ¬ (ki = 1 ∧ xAt wo ≠ -1)) : xq v0 xs u 52 [(0, .ref 109)] f (fun r f' => r = some (xi 0) ∧ f' = f) := by
  unfold xq
  have hS := xAt_rg wo
  refine x_aload_n rfl rfl ?_
  refine x_getfield rfl (by decide) h109 rfl ?_
  refine x_getfield rfl (by decide) h112 rfl ?_
  refine x_iconst rfl ?_
  refine x_cne (t := 23) rfl rfl ⟨by omega, by omega⟩ ⟨by omega, by omega⟩ (fun hb8 => ?_) (fun hb8 => ?_)
  · refine x_iconst rfl ?_
    refine x_istore_n rfl (show (1 : Nat) < 2 from by decide) ?_
    refine x_iload_n rfl xst_eq ?_
    refine x_iconst rfl ?_
    refine x_cne (t := 32) rfl rfl ⟨by omega, by omega⟩ ⟨by omega, by omega⟩ (fun hb27 => ?_) (fun hb27 => ?_)
    · exfalso; omega
    · refine x_iconst rfl ?_
      refine x_ireturn rfl (Or.inr (Or.inl ⟨rfl, by decide⟩)) ⟨_, _, rfl, rfl, ?_⟩
      first | (exfalso; omega) | exact ⟨rfl, rfl⟩
  · refine x_aload_n rfl rfl ?_
    refine x_getfield rfl (by decide) h109 rfl ?_
    refine x_ldc rfl ?_
    refine x_call [_, _] rfl rfl (show (0 : Nat) ≤ 8 from by decide) (show (2 : Nat) ≤ 6 from by decide) (x_rcv (by decide) h112) (xs_39 hv (p := 6) (Or.inr rfl) h112) (fun r' f' hP => ?_)
    obtain ⟨rfl, rfl⟩ := hP
    change xz v0 xs u _ _ _ _ (xi (xAt wo) :: _) _
    refine x_goto (t := 24) rfl rfl ?_
    refine x_istore_n rfl (show (1 : Nat) < 2 from by decide) ?_
    refine x_iload_n rfl xst_eq ?_
    refine x_iconst rfl ?_
    refine x_cne (t := 32) rfl rfl ⟨by omega, by omega⟩ ⟨by omega, by omega⟩ (fun hb27 => ?_) (fun hb27 => ?_)
    · exfalso; omega
    · refine x_iconst rfl ?_
      refine x_ireturn rfl (Or.inr (Or.inl ⟨rfl, by decide⟩)) ⟨_, _, rfl, rfl, ?_⟩
      first | (exfalso; omega) | exact ⟨rfl, rfl⟩
theorem xs_40t {G : Nat → List xBt} {B : List xBt} {v0 : Value} {xs : List Int32} {u : Nat × Nat} {f : Nat → zE} {c : Nat} {op ex bs sl ki st en di sg : Int} {wo : Int64} {kp pt : Int} {nm : Nat → Int64} {bc dp : Nat → Int} {av : Nat → Value} {nmd : Int64} {m d : Int} {al : Value} (hv : v0 = .null ∨ v0 = .ref 49) (h109 : f 109 = xrd c op ex bs sl) (h112 : f 112 = xtk ki st en wo di sg) (hki : 0 ≤ ki ∧ ki ≤ 9) (hsg : ki = 3 → 0 ≤ sg ∧ sg ≤ 65535) (hc : c ≤ 12) (h53 : f 53 = xbo (c : Nat) kp pt) (h54 : f 54 = .inr (.inr (.inr (3, xfl)))) (hkf : ∀ i, i < c → xKF (G i) i f (nm i) (bc i) (dp i) (av i)) (hd : xDR B c f nmd m d al) (hw : ki = 1 ∧ ¬ wo = 0 ∧ xfn nm wo c 0 = -1 ∧ xS wo = -1 ∧ xAt wo = -1) : xq v0 xs u 40 [(0, .ref 109)] f (fun r f' => r = some (xi 1) ∧ xDR B c f' wo m d al ∧ f' 109 = xrd c op 1 bs sl ∧ ∀ p, p ≠ 109 → p ≠ 57 + 4 * c → f' p = f p) := by
  unfold xq
  obtain ⟨hm1, hm2, fp, ep, ta, h0, h1, h2, h3, hty⟩ := hd
  have hS := xS_rg wo
  have hA := xAt_rg wo
  have hfn : -1 ≤ xfn nm wo c 0 ∧ xfn nm wo c 0 ≤ 12 := by rcases xfn_rg (nm := nm) (g := wo) c 0 with h | ⟨j, h1, h2, h3⟩ <;> omega
  refine x_aload_n rfl rfl ?_
  refine x_getfield rfl (by decide) h109 rfl ?_
  refine x_getfield rfl (by decide) h112 rfl ?_
  refine x_iconst rfl ?_
  refine x_cne (t := 67) rfl rfl ⟨by omega, by omega⟩ ⟨by omega, by omega⟩ (fun hb8 => ?_) (fun hb8 => ?_)
  · exfalso; omega
  · refine x_aload_n rfl rfl ?_
    refine x_getfield rfl (by decide) h109 rfl ?_
    refine x_getfield rfl (by decide) h112 rfl ?_
    refine x_lconst rfl ?_
    refine x_lcmp rfl ?_
    refine x_leq (t := 67) rfl rfl (fun hb20 => ?_) (fun hb20 => ?_)
    · exact absurd hb20 hw.2.1
    · refine x_aload_n rfl rfl ?_
      refine x_getfield rfl (by decide) h109 rfl ?_
      refine x_aload_n rfl rfl ?_
      refine x_getfield rfl (by decide) h109 rfl ?_
      refine x_getfield rfl (by decide) h112 rfl ?_
      refine x_call [_, _] rfl rfl (show (0 : Nat) ≤ 8 from by decide) (show (3 : Nat) ≤ 4 from by decide) (x_rcv (by decide) h53) (xs_31 hc h53 h54 (xKF_fig hkf)) (fun r' f' hP => ?_)
      obtain ⟨rfl, rfl⟩ := hP
      refine x_iconst rfl ?_
      refine x_cne (t := 67) rfl rfl ⟨by omega, by omega⟩ ⟨by omega, by omega⟩ (fun hb38 => ?_) (fun hb38 => ?_)
      · exfalso; omega
      · refine x_aload_n rfl rfl ?_
        refine x_getfield rfl (by decide) h109 rfl ?_
        refine x_ldc rfl ?_
        refine x_call [_, _] rfl rfl (show (0 : Nat) ≤ 8 from by decide) (show (2 : Nat) ≤ 6 from by decide) (x_rcv (by decide) h112) (xs_39 hv (p := 5) (Or.inl rfl) h112) (fun r' f' hP => ?_)
        obtain ⟨rfl, rfl⟩ := hP
        change xz v0 xs u _ _ _ _ (xi (xS wo) :: _) _
        refine x_iconst rfl ?_
        refine x_cne (t := 67) rfl rfl ⟨by omega, by omega⟩ ⟨by omega, by omega⟩ (fun hb51 => ?_) (fun hb51 => ?_)
        · exfalso; omega
        · refine x_aload_n rfl rfl ?_
          refine x_getfield rfl (by decide) h109 rfl ?_
          refine x_ldc rfl ?_
          refine x_call [_, _] rfl rfl (show (0 : Nat) ≤ 8 from by decide) (show (2 : Nat) ≤ 6 from by decide) (x_rcv (by decide) h112) (xs_39 hv (p := 6) (Or.inr rfl) h112) (fun r' f' hP => ?_)
          obtain ⟨rfl, rfl⟩ := hP
          change xz v0 xs u _ _ _ _ (xi (xAt wo) :: _) _
          refine x_iconst rfl ?_
          refine x_ceq (t := 69) rfl rfl ⟨by omega, by omega⟩ ⟨by omega, by omega⟩ (fun hb64 => ?_) (fun hb64 => ?_)
          · refine x_aload_n rfl rfl ?_
            refine x_getfield rfl (by decide) h109 rfl ?_
            refine x_aload_n rfl rfl ?_
            refine x_getfield rfl (by decide) h109 rfl ?_
            refine x_getfield rfl (by decide) h112 rfl ?_
            refine x_putfield rfl (by omega) h0 (show (3 : Nat) < 7 from by decide) rfl ?_
            refine x_aload_n rfl rfl ?_
            refine x_iconst rfl ?_
            refine x_putfield rfl (by decide) (xu_ne (by omega) h109) (show (7 : Nat) < 10 from by decide) rfl ?_
            refine x_iconst rfl ?_
            refine x_ireturn rfl (Or.inr (Or.inl ⟨rfl, by decide⟩)) ⟨_, _, rfl, rfl, ?_⟩
            first | (exfalso; omega) | exact ⟨rfl, xDR_mv (fun p p1 p2 => xu_ne (by omega) rfl) ⟨hm1, hm2, fp, ep, ta, xu_eq, xu_ne (by omega) h1, xu_ne (by omega) h2, xu_ne (by omega) h3, hty⟩, xu_eq, fun p hp a1 => xu_ne hp (xu_ne a1 rfl)⟩
          · exfalso; omega
theorem xs_40f {G : Nat → List xBt} {B : List xBt} {v0 : Value} {xs : List Int32} {u : Nat × Nat} {f : Nat → zE} {c : Nat} {op ex bs sl ki st en di sg : Int} {wo : Int64} {kp pt : Int} {nm : Nat → Int64} {bc dp : Nat → Int} {av : Nat → Value} {nmd : Int64} {m d : Int} {al : Value} (hv : v0 = .null ∨ v0 = .ref 49) (h109 : f 109 = xrd c op ex bs sl) (h112 : f 112 = xtk ki st en wo di sg) (hki : 0 ≤ ki ∧ ki ≤ 9) (hsg : ki = 3 → 0 ≤ sg ∧ sg ≤ 65535) (hc : c ≤ 12) (h53 : f 53 = xbo (c : Nat) kp pt) (h54 : f 54 = .inr (.inr (.inr (3, xfl)))) (hkf : ∀ i, i < c → xKF (G i) i f (nm i) (bc i) (dp i) (av i)) (hd : xDR B c f nmd m d al) (hw : ¬ (ki = 1 ∧ ¬ wo = 0 ∧ xfn nm wo c 0 = -1 ∧ xS wo = -1 ∧ xAt wo = -1)) : xq v0 xs u 40 [(0, .ref 109)] f (fun r f' => r = some (xi 0) ∧ f' = f) := by
  unfold xq
  obtain ⟨hm1, hm2, fp, ep, ta, h0, h1, h2, h3, hty⟩ := hd
  have hS := xS_rg wo
  have hA := xAt_rg wo
  have hfn : -1 ≤ xfn nm wo c 0 ∧ xfn nm wo c 0 ≤ 12 := by rcases xfn_rg (nm := nm) (g := wo) c 0 with h | ⟨j, h1, h2, h3⟩ <;> omega
  refine x_aload_n rfl rfl ?_
  refine x_getfield rfl (by decide) h109 rfl ?_
  refine x_getfield rfl (by decide) h112 rfl ?_
  refine x_iconst rfl ?_
  refine x_cne (t := 67) rfl rfl ⟨by omega, by omega⟩ ⟨by omega, by omega⟩ (fun hb8 => ?_) (fun hb8 => ?_)
  · refine x_iconst rfl ?_
    refine x_ireturn rfl (Or.inr (Or.inl ⟨rfl, by decide⟩)) ⟨_, _, rfl, rfl, ?_⟩
    first | (exfalso; omega) | exact ⟨rfl, rfl⟩
  · refine x_aload_n rfl rfl ?_
    refine x_getfield rfl (by decide) h109 rfl ?_
    refine x_getfield rfl (by decide) h112 rfl ?_
    refine x_lconst rfl ?_
    refine x_lcmp rfl ?_
    refine x_leq (t := 67) rfl rfl (fun hb20 => ?_) (fun hb20 => ?_)
    · refine x_iconst rfl ?_
      refine x_ireturn rfl (Or.inr (Or.inl ⟨rfl, by decide⟩)) ⟨_, _, rfl, rfl, ?_⟩
      first | (exfalso; omega) | exact ⟨rfl, rfl⟩
    · refine x_aload_n rfl rfl ?_
      refine x_getfield rfl (by decide) h109 rfl ?_
      refine x_aload_n rfl rfl ?_
      refine x_getfield rfl (by decide) h109 rfl ?_
      refine x_getfield rfl (by decide) h112 rfl ?_
      refine x_call [_, _] rfl rfl (show (0 : Nat) ≤ 8 from by decide) (show (3 : Nat) ≤ 4 from by decide) (x_rcv (by decide) h53) (xs_31 hc h53 h54 (xKF_fig hkf)) (fun r' f' hP => ?_)
      obtain ⟨rfl, rfl⟩ := hP
      refine x_iconst rfl ?_
      refine x_cne (t := 67) rfl rfl ⟨by omega, by omega⟩ ⟨by omega, by omega⟩ (fun hb38 => ?_) (fun hb38 => ?_)
      · refine x_iconst rfl ?_
        refine x_ireturn rfl (Or.inr (Or.inl ⟨rfl, by decide⟩)) ⟨_, _, rfl, rfl, ?_⟩
        first | (exfalso; omega) | exact ⟨rfl, rfl⟩
      · refine x_aload_n rfl rfl ?_
        refine x_getfield rfl (by decide) h109 rfl ?_
        refine x_ldc rfl ?_
        refine x_call [_, _] rfl rfl (show (0 : Nat) ≤ 8 from by decide) (show (2 : Nat) ≤ 6 from by decide) (x_rcv (by decide) h112) (xs_39 hv (p := 5) (Or.inl rfl) h112) (fun r' f' hP => ?_)
        obtain ⟨rfl, rfl⟩ := hP
        change xz v0 xs u _ _ _ _ (xi (xS wo) :: _) _
        refine x_iconst rfl ?_
        refine x_cne (t := 67) rfl rfl ⟨by omega, by omega⟩ ⟨by omega, by omega⟩ (fun hb51 => ?_) (fun hb51 => ?_)
        · refine x_iconst rfl ?_
          refine x_ireturn rfl (Or.inr (Or.inl ⟨rfl, by decide⟩)) ⟨_, _, rfl, rfl, ?_⟩
          first | (exfalso; omega) | exact ⟨rfl, rfl⟩
        · refine x_aload_n rfl rfl ?_
          refine x_getfield rfl (by decide) h109 rfl ?_
          refine x_ldc rfl ?_
          refine x_call [_, _] rfl rfl (show (0 : Nat) ≤ 8 from by decide) (show (2 : Nat) ≤ 6 from by decide) (x_rcv (by decide) h112) (xs_39 hv (p := 6) (Or.inr rfl) h112) (fun r' f' hP => ?_)
          obtain ⟨rfl, rfl⟩ := hP
          change xz v0 xs u _ _ _ _ (xi (xAt wo) :: _) _
          refine x_iconst rfl ?_
          refine x_ceq (t := 69) rfl rfl ⟨by omega, by omega⟩ ⟨by omega, by omega⟩ (fun hb64 => ?_) (fun hb64 => ?_)
          · exact absurd ⟨hb8, hb20, by omega, by omega, by omega⟩ hw
          · refine x_iconst rfl ?_
            refine x_ireturn rfl (Or.inr (Or.inl ⟨rfl, by decide⟩)) ⟨_, _, rfl, rfl, ?_⟩
            first | (exfalso; omega) | exact ⟨rfl, rfl⟩
theorem xs_55s {v0 : Value} {xs : List Int32} {u : Nat × Nat} {f : Nat → zE} {c : Nat} {op ex bs sl ki st en di sg : Int} {wo : Int64} (h109 : f 109 = xrd c op ex bs sl) (h112 : f 112 = xtk ki st en wo di sg) (hki : 0 ≤ ki ∧ ki ≤ 9) (hsg : ki = 3 → 0 ≤ sg ∧ sg ≤ 65535) (hw : ki = 3 ∧ sg = 59) : xq v0 xs u 55 [(0, .ref 109)] f (fun r f' => r = some (xi 1) ∧ f' = xu f 109 (xrd c op 2 bs sl)) := by
  unfold xq
  refine x_aload_n rfl rfl ?_
  refine x_bipush rfl (by decide) ?_
  refine x_iconst rfl ?_
  refine x_call [_, _, _] rfl rfl (show (0 : Nat) ≤ 8 from by decide) (show (3 : Nat) ≤ 3 from by decide) (x_rcv (by decide) h109) (xs_42t h109 h112 hki hsg (by decide) hw) (fun r' f' hP => ?_)
  obtain ⟨rfl, rfl⟩ := hP
  refine x_ifeq (t := 12) rfl rfl ⟨by omega, by omega⟩ (fun hb7 => ?_) (fun hb7 => ?_)
  · exfalso; omega
  · refine x_iconst rfl ?_
    refine x_ireturn rfl (Or.inr (Or.inl ⟨rfl, by decide⟩)) ⟨_, _, rfl, rfl, ?_⟩
    first | (exfalso; omega) | exact ⟨rfl, rfl⟩
theorem xs_55f {v0 : Value} {xs : List Int32} {u : Nat × Nat} {f : Nat → zE} {c : Nat} {op ex bs sl ki st en di sg : Int} {wo : Int64} (h109 : f 109 = xrd c op ex bs sl) (h112 : f 112 = xtk ki st en wo di sg) (hki : 0 ≤ ki ∧ ki ≤ 9) (hsg : ki = 3 → 0 ≤ sg ∧ sg ≤ 65535) (hop : 0 ≤ op ∧ op ≤ 3) (hw : ¬ (ki = 3 ∧ sg = 59)) (hw2 : op = 0 ∨ ¬ (ki = 3 ∧ sg = 41)) : xq v0 xs u 55 [(0, .ref 109)] f (fun r f' => r = some (xi 0) ∧ f' = f) := by
  unfold xq
  refine x_aload_n rfl rfl ?_
  refine x_bipush rfl (by decide) ?_
  refine x_iconst rfl ?_
  refine x_call [_, _, _] rfl rfl (show (0 : Nat) ≤ 8 from by decide) (show (3 : Nat) ≤ 3 from by decide) (x_rcv (by decide) h109) (xs_42f h109 h112 hki hsg (by decide) hw) (fun r' f' hP => ?_)
  obtain ⟨rfl, rfl⟩ := hP
  refine x_ifeq (t := 12) rfl rfl ⟨by omega, by omega⟩ (fun hb7 => ?_) (fun hb7 => ?_)
  · refine x_aload_n rfl rfl ?_
    refine x_getfield rfl (by decide) h109 rfl ?_
    refine x_ifeq (t := 30) rfl rfl ⟨by omega, by omega⟩ (fun hb16 => ?_) (fun hb16 => ?_)
    · refine x_iconst rfl ?_
      refine x_ireturn rfl (Or.inr (Or.inl ⟨rfl, by decide⟩)) ⟨_, _, rfl, rfl, ?_⟩
      first | (exfalso; omega) | exact ⟨rfl, rfl⟩
    · refine x_aload_n rfl rfl ?_
      refine x_bipush rfl (by decide) ?_
      refine x_bipush rfl (by decide) ?_
      refine x_call [_, _, _] rfl rfl (show (0 : Nat) ≤ 8 from by decide) (show (3 : Nat) ≤ 3 from by decide) (x_rcv (by decide) h109) (xs_42f h109 h112 hki hsg (by decide) (by omega)) (fun r' f' hP => ?_)
      obtain ⟨rfl, rfl⟩ := hP
      refine x_ifne (t := 32) rfl rfl ⟨by omega, by omega⟩ (fun hb27 => ?_) (fun hb27 => ?_)
      · exfalso; omega
      · refine x_iconst rfl ?_
        refine x_ireturn rfl (Or.inr (Or.inl ⟨rfl, by decide⟩)) ⟨_, _, rfl, rfl, ?_⟩
        first | (exfalso; omega) | exact ⟨rfl, rfl⟩
  · exfalso; omega
theorem xs_55c {B : List xBt} {v0 : Value} {xs : List Int32} {u : Nat × Nat} {f : Nat → zE} {c : Nat} {op ex bs sl ki st en di sg : Int} {wo : Int64} {tm oa : List Int} {nmd : Int64} {m d : Int} {al : Value} (h109 : f 109 = xrd c op ex bs sl) (h112 : f 112 = xtk ki st en wo di sg) (hki : 0 ≤ ki ∧ ki ≤ 9) (hsg : ki = 3 → 0 ≤ sg ∧ sg ≤ 65535) (hc : c ≤ 12) (h110 : f 110 = xr 0 tm) (h111 : f 111 = xr 0 oa) (htl : tm.length = 3) (hol : oa.length = 3) (hop : 0 ≤ op ∧ op ≤ 3) (hd : xDR B c f nmd m d al) (hw : ¬ (ki = 3 ∧ sg = 59)) (hw2 : 0 < op) (hw3 : ki = 3 ∧ sg = 41) (hfr0 : 0 ≤ oa.getD (op - 1).toNat 0 ∧ oa.getD (op - 1).toNat 0 ≤ m) (hti : 1 ≤ tm.getD (op - 1).toNat 0 ∧ tm.getD (op - 1).toNat 0 ≤ 4) : xq v0 xs u 55 [(0, .ref 109)] f (fun r f' => r = some (xi 1) ∧ f' 109 = xrd c (op - 1) 7 bs sl ∧ xDR (B ++ xrd0 B (oa.getD (op - 1).toNat 0).toNat (m - oa.getD (op - 1).toNat 0) (tm.getD (op - 1).toNat 0 - 1).toNat) c f' nmd (min (m + (tm.getD (op - 1).toNat 0 - 1) * (m - oa.getD (op - 1).toNat 0)) 17) d al ∧ ∀ p, p ≠ 109 → p ≠ 57 + 4 * c → p ≠ 58 + 4 * c → p ≠ 59 + 4 * c → p ≠ 60 + 4 * c → f' p = f p) := by
  unfold xq
  have hd0 := hd
  obtain ⟨hm1, hm2, fp, ep, ta, h0, h1, h2, h3, hty⟩ := hd0
  refine x_aload_n rfl rfl ?_
  refine x_bipush rfl (by decide) ?_
  refine x_iconst rfl ?_
  refine x_call [_, _, _] rfl rfl (show (0 : Nat) ≤ 8 from by decide) (show (3 : Nat) ≤ 3 from by decide) (x_rcv (by decide) h109) (xs_42f h109 h112 hki hsg (by decide) hw) (fun r' f' hP => ?_)
  obtain ⟨rfl, rfl⟩ := hP
  refine x_ifeq (t := 12) rfl rfl ⟨by omega, by omega⟩ (fun hb7 => ?_) (fun hb7 => ?_)
  · refine x_aload_n rfl rfl ?_
    refine x_getfield rfl (by decide) h109 rfl ?_
    refine x_ifeq (t := 30) rfl rfl ⟨by omega, by omega⟩ (fun hb16 => ?_) (fun hb16 => ?_)
    · exfalso; omega
    · refine x_aload_n rfl rfl ?_
      refine x_bipush rfl (by decide) ?_
      refine x_bipush rfl (by decide) ?_
      refine x_call [_, _, _] rfl rfl (show (0 : Nat) ≤ 8 from by decide) (show (3 : Nat) ≤ 3 from by decide) (x_rcv (by decide) h109) (xs_42t h109 h112 hki hsg (by decide) hw3) (fun r' f' hP => ?_)
      obtain ⟨rfl, rfl⟩ := hP
      refine x_ifne (t := 32) rfl rfl ⟨by omega, by omega⟩ (fun hb27 => ?_) (fun hb27 => ?_)
      · refine x_aload_n rfl rfl ?_
        refine x_dup rfl ?_
        refine x_getfield rfl (by decide) xu_eq rfl ?_
        refine x_iconst rfl ?_
        refine x_isub rfl ?_
        refine x_putfield rfl (by decide) xu_eq (show (6 : Nat) < 10 from by decide) rfl ?_
        refine x_aload_n rfl rfl ?_
        refine x_getfield rfl (by decide) xu_eq rfl ?_
        refine x_aload_n rfl rfl ?_
        refine x_getfield rfl (by decide) xu_eq rfl ?_
        refine x_aload_n rfl rfl ?_
        refine x_getfield rfl (by decide) xu_eq rfl ?_
        refine x_iaload rfl (by decide) (xu_ne (by decide) (xu_ne (by decide) h111)) ⟨by omega, by omega⟩ (by omega) ?_
        refine x_aload_n rfl rfl ?_
        refine x_getfield rfl (by decide) xu_eq rfl ?_
        refine x_aload_n rfl rfl ?_
        refine x_getfield rfl (by decide) xu_eq rfl ?_
        refine x_iaload rfl (by decide) (xu_ne (by decide) (xu_ne (by decide) h110)) ⟨by omega, by omega⟩ (by omega) ?_
        refine x_call [_, _, _] rfl rfl (show (0 : Nat) ≤ 8 from by decide) (show (3 : Nat) ≤ 7 from by decide) (x_rcv (by omega) (xu_ne (by omega) (xu_ne (by omega) h0))) (xs_54 hc ⟨hm1, hm2⟩ hfr0 hti (xDR_mv (fun p p1 p2 => xu_ne (by omega) (xu_ne (by omega) rfl)) hd)) (fun r' f' hP => ?_)
        obtain ⟨rfl, hP1, hP2⟩ := hP
        refine x_iconst rfl ?_
        refine x_ireturn rfl (Or.inr (Or.inl ⟨rfl, by decide⟩)) ⟨_, _, rfl, rfl, ?_⟩
        first | (exfalso; omega) | exact ⟨rfl, (hP2 109 (by omega) (by omega) (by omega) (by omega)).trans xu_eq, hP1, fun p hp a1 a2 a3 a4 => (hP2 p a1 a2 a3 a4).trans (xu_ne hp (xu_ne hp rfl))⟩
      · exfalso; omega
  · exfalso; omega
end
section
/-! Words as rows of letters, and the grammar as one step a token. -/
def xpr : List Int → Int
  | [] => 0
  | d :: r => d + 32 * xpr r
/-- letters as 1 .. 26 -/
def xlw (l : List Int) : Prop := ∀ d ∈ l, 1 ≤ d ∧ d ≤ 26
theorem xpr_rg : ∀ {l : List Int}, xlw l → 0 ≤ xpr l ∧ xpr l < 32 ^ l.length := by
  intro l
  induction l with
  | nil => intro _; exact ⟨by decide, by decide⟩
  | cons d r ih =>
    intro h
    have h1 := h d (by simp)
    have h2 := ih (fun e he => h e (by simp [he]))
    simp only [xpr, List.length_cons, Int.pow_succ]
    omega
theorem xpr_pos {l : List Int} (h : xlw l) (hn : l ≠ []) : 1 ≤ xpr l := by
  cases l with
  | nil => exact absurd rfl hn
  | cons d r =>
    have h1 := h d (by simp)
    have h2 := xpr_rg (l := r) (fun e he => h e (by simp [he]))
    simp only [xpr]
    omega
theorem xpr_inj : ∀ {a b : List Int}, xlw a → xlw b → xpr a = xpr b → a = b := by
  intro a
  induction a with
  | nil =>
    intro b _ hb e
    cases b with
    | nil => rfl
    | cons d r =>
      have := xpr_pos hb (by simp)
      simp only [xpr] at e this
      omega
  | cons x r ih =>
    intro b ha hb e
    cases b with
    | nil =>
      have := xpr_pos ha (by simp)
      simp only [xpr] at e this
      omega
    | cons y s =>
      have h1 := ha x (by simp)
      have h2 := hb y (by simp)
      simp only [xpr] at e
      have e1 : x = y := by omega
      have e2 : xpr r = xpr s := by omega
      rw [e1, ih (fun d hd => ha d (by simp [hd])) (fun d hd => hb d (by simp [hd])) e2]
theorem xlw_rev {l : List Int} (h : xlw l) : xlw l.reverse := fun d hd => h d (List.mem_reverse.mp hd)
def xds (cs : List Int) (s L : Nat) : List Int := (List.range L).map fun i => cs.getD (s + i) 0 - 96
theorem xpk_xpr (cs : List Int) (s : Nat) : ∀ L, xpk cs s L = xpr (xds cs s L).reverse := by
  intro L
  induction L with
  | zero => rfl
  | succ L ih =>
    have e : xds cs s (L + 1) = xds cs s L ++ [cs.getD (s + L) 0 - 96] := by
      unfold xds
      rw [List.range_succ, List.map_append]
      rfl
    rw [e, List.reverse_append]
    simp only [List.reverse_cons, List.reverse_nil, List.nil_append, List.cons_append, xpr, xpk, ih]
    omega
/-- a word: none if it is longer than eight letters -/
def xwd (cs : List Int) (s e : Nat) : Option (List Int) := if e - s > 8 then none else some (xds cs s (e - s))
def xwL (wd : Option (List Int)) : Int := match wd with
  | none => 0
  | some l => xpr l.reverse
def xwR (wd : Option (List Int)) : Int := match wd with
  | none => -1
  | some l => xpr l
def xwf (w : List Int) : Prop := w ≠ [] ∧ w.length ≤ 8 ∧ xlw w
theorem xpr_8 {l : List Int} (h : xlw l) (hl : l.length ≤ 8) : 0 ≤ xpr l ∧ xpr l < 1099511627776 := by
  have h1 := xpr_rg h
  have h2 : (32 : Int) ^ l.length ≤ 32 ^ 8 := by
    have : (32 : Nat) ^ l.length ≤ 32 ^ 8 := Nat.pow_le_pow_right (by decide) hl
    exact_mod_cast this
  have h3 : (32 : Int) ^ 8 = 1099511627776 := by decide
  omega
theorem x64 {a b : Int} (ha : -1 ≤ a ∧ a < 1099511627776) (hb : -1 ≤ b ∧ b < 1099511627776) : Int64.ofInt a = Int64.ofInt b ↔ a = b := by
  constructor
  · intro e
    have h1 : (Int64.ofInt a).toInt = a := Int64.toInt_ofInt_of_le (by omega) (by omega)
    have h2 : (Int64.ofInt b).toInt = b := Int64.toInt_ofInt_of_le (by omega) (by omega)
    rw [← h1, ← h2, e]
  · intro e; rw [e]
def xwo (wd : Option (List Int)) : Prop := ∀ l, wd = some l → l.length ≤ 8 ∧ xlw l
theorem xw_L {wd : Option (List Int)} {w : List Int} (hwd : xwo wd) (hw : xwf w) : Int64.ofInt (xpr w.reverse) = Int64.ofInt (xwL wd) ↔ wd = some w := by
  have h1 := xpr_8 (xlw_rev hw.2.2) (by rw [List.length_reverse]; exact hw.2.1)
  have h2 := xpr_pos (xlw_rev hw.2.2) (by simpa using hw.1)
  cases wd with
  | none =>
    rw [x64 (by omega) (by simp [xwL])]
    simp only [xwL]
    constructor
    · intro e; omega
    · intro e; cases e
  | some l =>
    obtain ⟨k1, k2⟩ := hwd l rfl
    have h3 := xpr_8 (xlw_rev k2) (by rw [List.length_reverse]; exact k1)
    simp only [xwL]
    rw [x64 (by omega) (by omega)]
    constructor
    · intro e
      have := xpr_inj (xlw_rev hw.2.2) (xlw_rev k2) e
      rw [List.reverse_inj.mp this]
    · intro e; cases e; rfl
theorem xw_R {wd : Option (List Int)} {w : List Int} (hwd : xwo wd) (hw : xwf w) : Int64.ofInt (xwR wd) = Int64.ofInt (xpr w) ↔ wd = some w := by
  have h1 := xpr_8 hw.2.2 hw.2.1
  cases wd with
  | none =>
    rw [x64 (by simp [xwR]) (by omega)]
    simp only [xwR]
    constructor
    · intro e; omega
    · intro e; cases e
  | some l =>
    obtain ⟨k1, k2⟩ := hwd l rfl
    have h3 := xpr_8 k2 k1
    simp only [xwR]
    rw [x64 (by omega) (by omega)]
    constructor
    · intro e
      rw [xpr_inj k2 hw.2.2 e]
    · intro e; cases e; rfl
theorem xw_0 {wd : Option (List Int)} (hwd : xwo wd) (hn : wd ≠ some []) : Int64.ofInt (xwL wd) = 0 ↔ wd = none := by
  show Int64.ofInt (xwL wd) = Int64.ofInt 0 ↔ _
  cases wd with
  | none => simp [xwL]
  | some l =>
    obtain ⟨k1, k2⟩ := hwd l rfl
    have h3 := xpr_8 (xlw_rev k2) (by rw [List.length_reverse]; exact k1)
    have h4 := xpr_pos (xlw_rev k2) (by intro e; apply hn; rw [List.reverse_eq_nil_iff.mp e])
    simp only [xwL]
    rw [x64 (by omega) (by omega)]
    constructor
    · intro e; omega
    · intro e; cases e
/-- which of the words a word is, or -1 -/
def xfi (wd : Option (List Int)) : List (List Int) → Int → Int
  | [], _ => -1
  | w :: r, i => if wd = some w then i else xfi wd r (i + 1)
theorem xfi_rg {wd : Option (List Int)} : ∀ (l : List (List Int)) (i : Int), 0 ≤ i → xfi wd l i = -1 ∨ (i ≤ xfi wd l i ∧ xfi wd l i < i + l.length) := by
  intro l
  induction l with
  | nil => intro i _; exact Or.inl rfl
  | cons w r ih =>
    intro i hi
    simp only [xfi, List.length_cons]
    split
    · omega
    · have := ih (i + 1) (by omega)
      omega
def selW : List (List Int) := [[1, 12, 12], [12, 5, 1, 4, 19], [6, 15, 12, 12, 15, 23, 19], [8, 5, 1, 4, 19], [19, 9, 4, 5, 19], [14, 15, 18, 20, 8], [5, 1, 19, 20], [19, 15, 21, 20, 8], [23, 5, 19, 20], [3, 5, 14, 20, 18, 5, 19], [5, 14, 4, 19], [6, 18, 15, 14, 20], [18, 5, 1, 18]]
def atW : List (List Int) := [[19, 20, 1, 25], [6, 23, 4], [2, 1, 3, 11], [12, 5, 6, 20], [18, 9, 7, 8, 20], [20, 12], [20, 18]]
def xfL (W : Int64) : List Int → Int → Int
  | [], _ => -1
  | P :: r, i => if Int64.ofInt P = W then i else xfL W r (i + 1)
theorem xfL_xfi {wd : Option (List Int)} (hwd : xwo wd) : ∀ (l : List (List Int)) (i : Int), (∀ w ∈ l, xwf w) → xfL (Int64.ofInt (xwL wd)) (l.map fun w => xpr w.reverse) i = xfi wd l i := by
  intro l
  induction l with
  | nil => intro i _; rfl
  | cons w r ih =>
    intro i h
    simp only [List.map_cons, xfL, xfi, xw_L hwd (h w (by simp)), ih (i + 1) (fun v hv => h v (by simp [hv]))]
def xwfB (w : List Int) : Bool := !w.isEmpty && (decide (w.length ≤ 8) && w.all fun d => decide (1 ≤ d) && decide (d ≤ 26))
theorem xwfB_spec {w : List Int} (h : xwfB w = true) : xwf w := by
  simp only [xwfB, Bool.and_eq_true, decide_eq_true_eq, List.all_eq_true] at h
  exact ⟨by intro e; rw [e] at h; simp at h, h.2.1, fun d hd => h.2.2 d hd⟩
theorem selW_wf : ∀ w ∈ selW, xwf w := fun w hw => xwfB_spec (List.all_eq_true.mp (by decide +kernel : (selW.all xwfB) = true) w hw)
theorem atW_wf : ∀ w ∈ atW, xwf w := fun w hw => xwfB_spec (List.all_eq_true.mp (by decide +kernel : (atW.all xwfB) = true) w hw)
set_option maxRecDepth 20000 in
theorem xix5 (W : Int64) : xix (xgt 5).2 W (xgt 5).2.length 0 0 0 = xfL W (selW.map fun w => xpr w.reverse) 0 := rfl
theorem xix6 (W : Int64) : xix (xgt 6).2 W (xgt 6).2.length 0 0 0 = xfL W (atW.map fun w => xpr w.reverse) 0 := rfl
theorem xS_eq {wd : Option (List Int)} (hwd : xwo wd) : xS (Int64.ofInt (xwL wd)) = xfi wd selW 0 := by
  unfold xS
  rw [xix5, xfL_xfi hwd _ _ selW_wf]
theorem xAt_eq {wd : Option (List Int)} (hwd : xwo wd) : xAt (Int64.ofInt (xwL wd)) = xfi wd atW 0 := by
  unfold xAt
  rw [xix6, xfL_xfi hwd _ _ atW_wf]
theorem xfn_eq {wd : Option (List Int)} (hwd : xwo wd) {nms : List (List Int)} {nm : Nat → Int64} (hw : ∀ w ∈ nms, xwf w) (hnm : ∀ i (h : i < nms.length), nm i = Int64.ofInt (xpr (nms[i]).reverse)) : ∀ (d i : Nat), d + i = nms.length → xfn nm (Int64.ofInt (xwL wd)) d i = xfi wd (nms.drop i) i := by
  intro d
  induction d with
  | zero =>
    intro i h
    rw [List.drop_eq_nil_of_le (by omega)]
    rfl
  | succ d ih =>
    intro i h
    have hi : i < nms.length := by omega
    rw [List.drop_eq_getElem_cons hi]
    simp only [xfn, xfi, hnm i hi, xw_L hwd (hw _ (List.getElem_mem hi))]
    rw [ih (i + 1) (by omega)]
    rfl
/-! The grammar. A state: what is expected, how many brackets are open, their numbers and where they begin, beats (17: too many), depth. -/
abbrev xA : Type := Nat × Int × List Int × List Int × Int × Int
def xeos (op : Int) (tm oa : List Int) (m d ki sg : Int) : Option xA := if ki = 3 ∧ sg = 59 then some (2, op, tm, oa, m, d) else if op = 0 then none else if ki = 3 ∧ sg = 41 then some (7, op - 1, tm, oa, min (m + (tm.getD (op - 1).toNat 0 - 1) * (m - oa.getD (op - 1).toNat 0)) 17, d) else none
def xstep (bc dp : Nat → Int) (ki di sg sl at' ol : Int) (lg : Bool) (q : xA) : Option xA := match q with
  | (0, op, tm, oa, m, d) => if ki = 1 ∧ lg = false ∧ ol = -1 ∧ sl = -1 ∧ at' = -1 then some (1, op, tm, oa, m, d) else none
  | (1, op, tm, oa, m, d) => if ki = 3 ∧ sg = 61 then some (2, op, tm, oa, m, d) else none
  | (2, op, tm, oa, m, d) => if ki = 2 ∧ 2 ≤ di ∧ di ≤ 4 ∧ op < 3 then some (3, op, tm.set op.toNat di, oa, m, d) else if ki = 1 ∧ ol ≠ -1 then some (7, op, tm, oa, min (m + bc ol.toNat) 17, max d (dp ol.toNat + 1)) else if ki = 1 ∧ sl ≠ -1 then some (5, op, tm, oa, m, d) else none
  | (3, op, tm, oa, m, d) => if ki = 3 ∧ sg = 40 then some (2, op + 1, tm, oa.set op.toNat m, m, d) else none
  | (4, op, tm, oa, m, d) => if ki = 1 ∧ sl ≠ -1 then some (5, op, tm, oa, m, d) else none
  | (5, op, tm, oa, m, d) => if ki = 1 ∧ at' ≠ -1 then some (6, op, tm, oa, m, d) else none
  | (6, op, tm, oa, m, d) => if ki = 3 ∧ sg = 44 then some (4, op, tm, oa, m, d) else xeos op tm oa (min (m + 1) 17) d ki sg
  | (_, op, tm, oa, m, d) => xeos op tm oa m d ki sg
/-- what the text is worth behind its last token: beats and depth, if it is a call -/
def xfin (q : xA) : Option (Int × Int) := if (q.1 = 6 ∨ q.1 = 7) ∧ q.2.1 = 0 then (if (if q.1 = 6 then min (q.2.2.2.2.1 + 1) 17 else q.2.2.2.2.1) ≤ 16 ∧ q.2.2.2.2.2 ≤ 6 then some ((if q.1 = 6 then min (q.2.2.2.2.1 + 1) 17 else q.2.2.2.2.1), q.2.2.2.2.2) else none) else none
/-! The content: where the beat's parts begin, the selector that waits for its atom, the new parts, the beats. -/
abbrev xC : Type := Int × Int × List (Int × Int) × List xBt
/-- a beat of the call itself is complete -/
def xcap (K : List (Int × Int)) (C : xC) : xC := (C.1, C.2.1, C.2.2.1, C.2.2.2 ++ [(C.1, (((K ++ C.2.2.1).length : Nat) : Int), -1)])
def xcrp (op : Int) (tm oa : List Int) (C : xC) : xC := (C.1, C.2.1, C.2.2.1, C.2.2.2 ++ xrd0 C.2.2.2 (oa.getD (op - 1).toNat 0).toNat ((C.2.2.2.length : Nat) - oa.getD (op - 1).toNat 0) (tm.getD (op - 1).toNat 0 - 1).toNat)
def xceos (op : Int) (tm oa : List Int) (ki sg : Int) (C : xC) : xC := if ki = 3 ∧ sg = 59 then C else xcrp op tm oa C
def xcst (K : List (Int × Int)) (G : Nat → List xBt) (ki di sg sl at' ol : Int) (q : xA) (C : xC) : xC := match q with
  | (0, _) => C
  | (1, _) => C
  | (2, op, _) => if ki = 2 ∧ 2 ≤ di ∧ di ≤ 4 ∧ op < 3 then C else if ki = 1 ∧ ol ≠ -1 then (C.1, C.2.1, C.2.2.1, C.2.2.2 ++ (G ol.toNat).map (xsh (C.2.2.2.length : Nat))) else if ki = 1 then ((((K ++ C.2.2.1).length : Nat) : Int), sl, C.2.2.1, C.2.2.2) else C
  | (3, _) => C
  | (4, _) => if ki = 1 then (C.1, sl, C.2.2.1, C.2.2.2) else C
  | (5, _) => if ki = 1 then (C.1, C.2.1, C.2.2.1 ++ [(C.2.1, at')], C.2.2.2) else C
  | (6, op, tm, oa, _) => if ki = 3 ∧ sg = 44 then C else xceos op tm oa ki sg (xcap K C)
  | (_, op, tm, oa, _) => xceos op tm oa ki sg C
end
section
/-! The class's reader: a step of the grammar. -/
theorem xs_49A {G : Nat → List xBt} {v0 : Value} {xs : List Int32} {u : Nat × Nat} {f : Nat → zE} {c : Nat} {op ex bs sl ki st en di sg : Int} {wo : Int64} {tm : List Int} {kp pt : Int} {nm : Nat → Int64} {bc dp : Nat → Int} {av : Nat → Value} (h109 : f 109 = xrd c op ex bs sl) (h112 : f 112 = xtk ki st en wo di sg) (hki : 0 ≤ ki ∧ ki ≤ 9) (hsg : ki = 3 → 0 ≤ sg ∧ sg ≤ 65535) (h110 : f 110 = xr 0 tm) (htl : tm.length = 3) (hop : 0 ≤ op ∧ op ≤ 3) (hdi : ki = 2 → -1 ≤ di ∧ di ≤ 100) (hc : c ≤ 12) (h53 : f 53 = xbo (c : Nat) kp pt) (h54 : f 54 = .inr (.inr (.inr (3, xfl)))) (hkf : ∀ i, i < c → xKF (G i) i f (nm i) (bc i) (dp i) (av i)) (hA : ki = 2 ∧ 2 ≤ di ∧ di ≤ 4 ∧ op < 3) : xq v0 xs u 49 [(0, .ref 109)] f (fun r f' => r = some (xi 1) ∧ f' 109 = xrd c op 3 pt sl ∧ f' 110 = xr 0 (tm.set op.toNat di) ∧ ∀ p, p ≠ 109 → p ≠ 110 → f' p = f p) := by
  unfold xq
  refine x_aload_n rfl rfl ?_
  refine x_aload_n rfl rfl ?_
  refine x_getfield rfl (by decide) h109 rfl ?_
  refine x_getfield rfl (by decide) h53 rfl ?_
  refine x_putfield rfl (by decide) h109 (show (8 : Nat) < 10 from by decide) rfl ?_
  refine x_aload_n rfl rfl ?_
  refine x_call [_] rfl rfl (show (0 : Nat) ≤ 8 from by decide) (show (1 : Nat) ≤ 1 from by decide) (x_rcv (by decide) xu_eq) (xs_43t xu_eq (xu_ne (by decide) h112) hki hsg (xu_ne (by decide) h110) htl hop hdi hA) (fun r' f' hP => ?_)
  obtain ⟨rfl, rfl⟩ := hP
  refine x_ifne (t := 32) rfl rfl ⟨by omega, by omega⟩ (fun hb15 => ?_) (fun hb15 => ?_)
  · refine x_iconst rfl ?_
    refine x_goto (t := 37) rfl rfl ?_
    refine x_ireturn rfl (Or.inr (Or.inl ⟨rfl, by decide⟩)) ⟨_, _, rfl, rfl, ?_⟩
    first | (exfalso; omega) | exact ⟨rfl, xu_eq, xu_ne (by decide) xu_eq, fun p p1 p2 => xu_ne p1 (xu_ne p2 (xu_ne p1 rfl))⟩
  · exfalso; omega
theorem xs_49B {G : Nat → List xBt} {B : List xBt} {v0 : Value} {xs : List Int32} {u : Nat × Nat} {f : Nat → zE} {c : Nat} {op ex bs sl ki st en di sg : Int} {wo : Int64} {tm : List Int} {kp pt : Int} {nm : Nat → Int64} {bc dp : Nat → Int} {av : Nat → Value} {nmd : Int64} {m d : Int} {al : Value} {i : Nat} (h109 : f 109 = xrd c op ex bs sl) (h112 : f 112 = xtk ki st en wo di sg) (hki : 0 ≤ ki ∧ ki ≤ 9) (hsg : ki = 3 → 0 ≤ sg ∧ sg ≤ 65535) (h110 : f 110 = xr 0 tm) (htl : tm.length = 3) (hop : 0 ≤ op ∧ op ≤ 3) (hdi : ki = 2 → -1 ≤ di ∧ di ≤ 100) (hc : c ≤ 12) (h53 : f 53 = xbo (c : Nat) kp pt) (h54 : f 54 = .inr (.inr (.inr (3, xfl)))) (hkf : ∀ i, i < c → xKF (G i) i f (nm i) (bc i) (dp i) (av i)) (hd : xDR B c f nmd m d al) (hdd : -1000 ≤ d ∧ d ≤ 1000) (hdp : ∀ i, i < c → -1000 ≤ dp i ∧ dp i ≤ 1000) (hi : i < c) (hk1 : ki = 1) (hw : xfn nm wo c 0 = (i : Nat)) : xq v0 xs u 49 [(0, .ref 109)] f (fun r f' => r = some (xi 1) ∧ xDR (B ++ (G i).map (xsh m)) c f' nmd (min (m + bc i) 17) (max d (dp i + 1)) al ∧ f' 109 = xrd c op 7 pt sl ∧ ∀ p, p ≠ 109 → p ≠ 57 + 4 * c → p ≠ 58 + 4 * c → p ≠ 59 + 4 * c → p ≠ 60 + 4 * c → f' p = f p) := by
  unfold xq
  have hA : ¬ (ki = 2 ∧ 2 ≤ di ∧ di ≤ 4 ∧ op < 3) := by omega
  refine x_aload_n rfl rfl ?_
  refine x_aload_n rfl rfl ?_
  refine x_getfield rfl (by decide) h109 rfl ?_
  refine x_getfield rfl (by decide) h53 rfl ?_
  refine x_putfield rfl (by decide) h109 (show (8 : Nat) < 10 from by decide) rfl ?_
  refine x_aload_n rfl rfl ?_
  refine x_call [_] rfl rfl (show (0 : Nat) ≤ 8 from by decide) (show (1 : Nat) ≤ 1 from by decide) (x_rcv (by decide) xu_eq) (xs_43f xu_eq (xu_ne (by decide) h112) hki hsg (xu_ne (by decide) h110) htl hop hdi hA) (fun r' f' hP => ?_)
  obtain ⟨rfl, rfl⟩ := hP
  refine x_ifne (t := 32) rfl rfl ⟨by omega, by omega⟩ (fun hb15 => ?_) (fun hb15 => ?_)
  · exfalso; omega
  · refine x_aload_n rfl rfl ?_
    refine x_call [_] rfl rfl (show (0 : Nat) ≤ 8 from by decide) (show (1 : Nat) ≤ 2 from by decide) (x_rcv (by decide) xu_eq) (xs_47t xu_eq (xu_ne (by decide) h112) hki hsg hc (xu_ne (by decide) h53) (xu_ne (by decide) h54) (fun i hi => xKF_mv hi (fun p p1 p2 => xu_ne (by omega) rfl) (hkf i hi)) (xDR_mv (fun p p1 p2 => xu_ne (by omega) rfl) hd) hdd hdp hi hk1 hw) (fun r' f' hP => ?_)
    obtain ⟨rfl, hP1, hP2, hP3⟩ := hP
    refine x_ifne (t := 32) rfl rfl ⟨by omega, by omega⟩ (fun hb22 => ?_) (fun hb22 => ?_)
    · refine x_iconst rfl ?_
      refine x_goto (t := 37) rfl rfl ?_
      refine x_ireturn rfl (Or.inr (Or.inl ⟨rfl, by decide⟩)) ⟨_, _, rfl, rfl, ?_⟩
      first | (exfalso; omega) | exact ⟨rfl, hP1, hP2, fun p hp a1 a2 a3 a4 => (hP3 p hp a1 a2 a3 a4).trans (xu_ne hp rfl)⟩
    · exfalso; omega
theorem xs_49C {G : Nat → List xBt} {v0 : Value} {xs : List Int32} {u : Nat × Nat} {f : Nat → zE} {c : Nat} {op ex bs sl ki st en di sg : Int} {wo : Int64} {tm : List Int} {kp pt : Int} {nm : Nat → Int64} {bc dp : Nat → Int} {av : Nat → Value} (hv : v0 = .null ∨ v0 = .ref 49) (h109 : f 109 = xrd c op ex bs sl) (h112 : f 112 = xtk ki st en wo di sg) (hki : 0 ≤ ki ∧ ki ≤ 9) (hsg : ki = 3 → 0 ≤ sg ∧ sg ≤ 65535) (h110 : f 110 = xr 0 tm) (htl : tm.length = 3) (hop : 0 ≤ op ∧ op ≤ 3) (hdi : ki = 2 → -1 ≤ di ∧ di ≤ 100) (hc : c ≤ 12) (h53 : f 53 = xbo (c : Nat) kp pt) (h54 : f 54 = .inr (.inr (.inr (3, xfl)))) (hkf : ∀ i, i < c → xKF (G i) i f (nm i) (bc i) (dp i) (av i)) (hA : ¬ (ki = 2 ∧ 2 ≤ di ∧ di ≤ 4 ∧ op < 3)) (hw : ¬ (ki = 1 ∧ xfn nm wo c 0 ≠ -1)) (hw2 : (ki = 1 ∧ xS wo ≠ -1)) : xq v0 xs u 49 [(0, .ref 109)] f (fun r f' => r = some (xi 1) ∧ f' 109 = xrd c op 5 pt (xS wo) ∧ ∀ p, p ≠ 109 → f' p = f p) := by
  unfold xq
  refine x_aload_n rfl rfl ?_
  refine x_aload_n rfl rfl ?_
  refine x_getfield rfl (by decide) h109 rfl ?_
  refine x_getfield rfl (by decide) h53 rfl ?_
  refine x_putfield rfl (by decide) h109 (show (8 : Nat) < 10 from by decide) rfl ?_
  refine x_aload_n rfl rfl ?_
  refine x_call [_] rfl rfl (show (0 : Nat) ≤ 8 from by decide) (show (1 : Nat) ≤ 1 from by decide) (x_rcv (by decide) xu_eq) (xs_43f xu_eq (xu_ne (by decide) h112) hki hsg (xu_ne (by decide) h110) htl hop hdi hA) (fun r' f' hP => ?_)
  obtain ⟨rfl, rfl⟩ := hP
  refine x_ifne (t := 32) rfl rfl ⟨by omega, by omega⟩ (fun hb15 => ?_) (fun hb15 => ?_)
  · exfalso; omega
  · refine x_aload_n rfl rfl ?_
    refine x_call [_] rfl rfl (show (0 : Nat) ≤ 8 from by decide) (show (1 : Nat) ≤ 2 from by decide) (x_rcv (by decide) xu_eq) (xs_47f xu_eq (xu_ne (by decide) h112) hki hsg hc (xu_ne (by decide) h53) (xu_ne (by decide) h54) (fun i hi => xKF_mv hi (fun p p1 p2 => xu_ne (by omega) rfl) (hkf i hi)) hw) (fun r' f' hP => ?_)
    obtain ⟨rfl, rfl⟩ := hP
    refine x_ifne (t := 32) rfl rfl ⟨by omega, by omega⟩ (fun hb22 => ?_) (fun hb22 => ?_)
    · exfalso; omega
    · refine x_aload_n rfl rfl ?_
      refine x_call [_] rfl rfl (show (0 : Nat) ≤ 8 from by decide) (show (1 : Nat) ≤ 1 from by decide) (x_rcv (by decide) xu_eq) (xs_48t hv xu_eq (xu_ne (by decide) h112) hki hsg hw2) (fun r' f' hP => ?_)
      obtain ⟨rfl, hP1, hP2⟩ := hP
      refine x_ifeq (t := 36) rfl rfl ⟨by omega, by omega⟩ (fun hb29 => ?_) (fun hb29 => ?_)
      · exfalso; omega
      · refine x_iconst rfl ?_
        refine x_goto (t := 37) rfl rfl ?_
        refine x_ireturn rfl (Or.inr (Or.inl ⟨rfl, by decide⟩)) ⟨_, _, rfl, rfl, ?_⟩
        first | (exfalso; omega) | exact ⟨rfl, hP1, fun p hp => (hP2 p hp).trans (xu_ne hp rfl)⟩
theorem xs_49D {G : Nat → List xBt} {v0 : Value} {xs : List Int32} {u : Nat × Nat} {f : Nat → zE} {c : Nat} {op ex bs sl ki st en di sg : Int} {wo : Int64} {tm : List Int} {kp pt : Int} {nm : Nat → Int64} {bc dp : Nat → Int} {av : Nat → Value} (hv : v0 = .null ∨ v0 = .ref 49) (h109 : f 109 = xrd c op ex bs sl) (h112 : f 112 = xtk ki st en wo di sg) (hki : 0 ≤ ki ∧ ki ≤ 9) (hsg : ki = 3 → 0 ≤ sg ∧ sg ≤ 65535) (h110 : f 110 = xr 0 tm) (htl : tm.length = 3) (hop : 0 ≤ op ∧ op ≤ 3) (hdi : ki = 2 → -1 ≤ di ∧ di ≤ 100) (hc : c ≤ 12) (h53 : f 53 = xbo (c : Nat) kp pt) (h54 : f 54 = .inr (.inr (.inr (3, xfl)))) (hkf : ∀ i, i < c → xKF (G i) i f (nm i) (bc i) (dp i) (av i)) (hA : ¬ (ki = 2 ∧ 2 ≤ di ∧ di ≤ 4 ∧ op < 3)) (hw : ¬ (ki = 1 ∧ xfn nm wo c 0 ≠ -1)) (hw2 : ¬ (ki = 1 ∧ xS wo ≠ -1)) : xq v0 xs u 49 [(0, .ref 109)] f (fun r f' => r = some (xi 0) ∧ (∃ sl', f' 109 = xrd c op 5 pt sl' ∧ sl' = -1) ∧ ∀ p, p ≠ 109 → f' p = f p) := by
  unfold xq
  refine x_aload_n rfl rfl ?_
  refine x_aload_n rfl rfl ?_
  refine x_getfield rfl (by decide) h109 rfl ?_
  refine x_getfield rfl (by decide) h53 rfl ?_
  refine x_putfield rfl (by decide) h109 (show (8 : Nat) < 10 from by decide) rfl ?_
  refine x_aload_n rfl rfl ?_
  refine x_call [_] rfl rfl (show (0 : Nat) ≤ 8 from by decide) (show (1 : Nat) ≤ 1 from by decide) (x_rcv (by decide) xu_eq) (xs_43f xu_eq (xu_ne (by decide) h112) hki hsg (xu_ne (by decide) h110) htl hop hdi hA) (fun r' f' hP => ?_)
  obtain ⟨rfl, rfl⟩ := hP
  refine x_ifne (t := 32) rfl rfl ⟨by omega, by omega⟩ (fun hb15 => ?_) (fun hb15 => ?_)
  · exfalso; omega
  · refine x_aload_n rfl rfl ?_
    refine x_call [_] rfl rfl (show (0 : Nat) ≤ 8 from by decide) (show (1 : Nat) ≤ 2 from by decide) (x_rcv (by decide) xu_eq) (xs_47f xu_eq (xu_ne (by decide) h112) hki hsg hc (xu_ne (by decide) h53) (xu_ne (by decide) h54) (fun i hi => xKF_mv hi (fun p p1 p2 => xu_ne (by omega) rfl) (hkf i hi)) hw) (fun r' f' hP => ?_)
    obtain ⟨rfl, rfl⟩ := hP
    refine x_ifne (t := 32) rfl rfl ⟨by omega, by omega⟩ (fun hb22 => ?_) (fun hb22 => ?_)
    · exfalso; omega
    · refine x_aload_n rfl rfl ?_
      refine x_call [_] rfl rfl (show (0 : Nat) ≤ 8 from by decide) (show (1 : Nat) ≤ 1 from by decide) (x_rcv (by decide) xu_eq) (xs_48f hv xu_eq (xu_ne (by decide) h112) hki hsg hw2) (fun r' f' hP => ?_)
      obtain ⟨rfl, hP1, hP2⟩ := hP
      refine x_ifeq (t := 36) rfl rfl ⟨by omega, by omega⟩ (fun hb29 => ?_) (fun hb29 => ?_)
      · refine x_iconst rfl ?_
        refine x_ireturn rfl (Or.inr (Or.inl ⟨rfl, by decide⟩)) ⟨_, _, rfl, rfl, ?_⟩
        first | (exfalso; omega) | exact ⟨rfl, hP1, fun p hp => (hP2 p hp).trans (xu_ne hp rfl)⟩
      · exfalso; omega
theorem xs_56s {B : List xBt} {v0 : Value} {xs : List Int32} {u : Nat × Nat} {f : Nat → zE} {c : Nat} {op ex bs sl ki st en di sg : Int} {wo : Int64} {kp pt : Int} {tm oa : List Int} {nmd : Int64} {m d : Int} {al : Value} (h109 : f 109 = xrd c op ex bs sl) (h112 : f 112 = xtk ki st en wo di sg) (hki : 0 ≤ ki ∧ ki ≤ 9) (hsg : ki = 3 → 0 ≤ sg ∧ sg ≤ 65535) (hc : c ≤ 12) (h53 : f 53 = xbo (c : Nat) kp pt) (hpt : 0 ≤ pt ∧ pt ≤ 208) (hbs : 0 ≤ bs ∧ bs ≤ 208) (h110 : f 110 = xr 0 tm) (h111 : f 111 = xr 0 oa) (htl : tm.length = 3) (hol : oa.length = 3) (hop : 0 ≤ op ∧ op ≤ 3) (hd : xDR B c f nmd m d al) (hw : ki = 3 ∧ sg = 59) : xq v0 xs u 56 [(0, .ref 109)] f (fun r f' => r = some (xi 1) ∧ f' 109 = xrd c op 2 bs sl ∧ xDR (B ++ [(bs, pt, -1)]) c f' nmd (min (m + 1) 17) d al ∧ ∀ p, p ≠ 109 → p ≠ 57 + 4 * c → p ≠ 58 + 4 * c → p ≠ 59 + 4 * c → p ≠ 60 + 4 * c → f' p = f p) := by
  unfold xq
  have hd0 := hd
  obtain ⟨hm1, hm2, fp, ep, ta, h0, h1, h2, h3, hty⟩ := hd0
  refine x_aload_n rfl rfl ?_
  refine x_getfield rfl (by decide) h109 rfl ?_
  refine x_aload_n rfl rfl ?_
  refine x_getfield rfl (by decide) h109 rfl ?_
  refine x_aload_n rfl rfl ?_
  refine x_getfield rfl (by decide) h109 rfl ?_
  refine x_getfield rfl (by decide) h53 rfl ?_
  refine x_call [_, _, _] rfl rfl (show (0 : Nat) ≤ 8 from by decide) (show (3 : Nat) ≤ 3 from by decide) (x_rcv (by omega) h0) (xs_53 hc hd hbs hpt) (fun r' f' hP => ?_)
  obtain ⟨rfl, hQ1, hQ2⟩ := hP
  refine x_aload_n rfl rfl ?_
  refine x_call [_] rfl rfl (show (0 : Nat) ≤ 8 from by decide) (show (1 : Nat) ≤ 1 from by decide) (x_rcv (by decide) ((hQ2 109 (by omega) (by omega) (by omega) (by omega)).trans h109)) (xs_55s ((hQ2 109 (by omega) (by omega) (by omega) (by omega)).trans h109) ((hQ2 112 (by omega) (by omega) (by omega) (by omega)).trans h112) hki hsg hw) (fun r' f' hP => ?_)
  obtain ⟨rfl, rfl⟩ := hP
  refine x_ireturn rfl (Or.inr (Or.inl ⟨rfl, by decide⟩)) ⟨_, _, rfl, rfl, ?_⟩
  first | (exfalso; omega) | exact ⟨rfl, xu_eq, xDR_mv (fun p p1 p2 => xu_ne (by omega) rfl) hQ1, fun p hp a1 a2 a3 a4 => xu_ne hp (hQ2 p a1 a2 a3 a4)⟩
theorem xs_56f {B : List xBt} {v0 : Value} {xs : List Int32} {u : Nat × Nat} {f : Nat → zE} {c : Nat} {op ex bs sl ki st en di sg : Int} {wo : Int64} {kp pt : Int} {tm oa : List Int} {nmd : Int64} {m d : Int} {al : Value} (h109 : f 109 = xrd c op ex bs sl) (h112 : f 112 = xtk ki st en wo di sg) (hki : 0 ≤ ki ∧ ki ≤ 9) (hsg : ki = 3 → 0 ≤ sg ∧ sg ≤ 65535) (hc : c ≤ 12) (h53 : f 53 = xbo (c : Nat) kp pt) (hpt : 0 ≤ pt ∧ pt ≤ 208) (hbs : 0 ≤ bs ∧ bs ≤ 208) (h110 : f 110 = xr 0 tm) (h111 : f 111 = xr 0 oa) (htl : tm.length = 3) (hol : oa.length = 3) (hop : 0 ≤ op ∧ op ≤ 3) (hd : xDR B c f nmd m d al) (hw : ¬ (ki = 3 ∧ sg = 59)) (hw2 : op = 0 ∨ ¬ (ki = 3 ∧ sg = 41)) : xq v0 xs u 56 [(0, .ref 109)] f (fun r f' => r = some (xi 0) ∧ f' 109 = xrd c op ex bs sl ∧ xDR (B ++ [(bs, pt, -1)]) c f' nmd (min (m + 1) 17) d al ∧ ∀ p, p ≠ 57 + 4 * c → p ≠ 58 + 4 * c → p ≠ 59 + 4 * c → p ≠ 60 + 4 * c → f' p = f p) := by
  unfold xq
  have hd0 := hd
  obtain ⟨hm1, hm2, fp, ep, ta, h0, h1, h2, h3, hty⟩ := hd0
  refine x_aload_n rfl rfl ?_
  refine x_getfield rfl (by decide) h109 rfl ?_
  refine x_aload_n rfl rfl ?_
  refine x_getfield rfl (by decide) h109 rfl ?_
  refine x_aload_n rfl rfl ?_
  refine x_getfield rfl (by decide) h109 rfl ?_
  refine x_getfield rfl (by decide) h53 rfl ?_
  refine x_call [_, _, _] rfl rfl (show (0 : Nat) ≤ 8 from by decide) (show (3 : Nat) ≤ 3 from by decide) (x_rcv (by omega) h0) (xs_53 hc hd hbs hpt) (fun r' f' hP => ?_)
  obtain ⟨rfl, hQ1, hQ2⟩ := hP
  refine x_aload_n rfl rfl ?_
  refine x_call [_] rfl rfl (show (0 : Nat) ≤ 8 from by decide) (show (1 : Nat) ≤ 1 from by decide) (x_rcv (by decide) ((hQ2 109 (by omega) (by omega) (by omega) (by omega)).trans h109)) (xs_55f ((hQ2 109 (by omega) (by omega) (by omega) (by omega)).trans h109) ((hQ2 112 (by omega) (by omega) (by omega) (by omega)).trans h112) hki hsg hop hw hw2) (fun r' f' hP => ?_)
  obtain ⟨rfl, rfl⟩ := hP
  refine x_ireturn rfl (Or.inr (Or.inl ⟨rfl, by decide⟩)) ⟨_, _, rfl, rfl, ?_⟩
  first | (exfalso; omega) | exact ⟨rfl, (hQ2 109 (by omega) (by omega) (by omega) (by omega)).trans h109, hQ1, hQ2⟩
theorem xs_56c {B : List xBt} {v0 : Value} {xs : List Int32} {u : Nat × Nat} {f : Nat → zE} {c : Nat} {op ex bs sl ki st en di sg : Int} {wo : Int64} {kp pt : Int} {tm oa : List Int} {nmd : Int64} {m d : Int} {al : Value} (h109 : f 109 = xrd c op ex bs sl) (h112 : f 112 = xtk ki st en wo di sg) (hki : 0 ≤ ki ∧ ki ≤ 9) (hsg : ki = 3 → 0 ≤ sg ∧ sg ≤ 65535) (hc : c ≤ 12) (h53 : f 53 = xbo (c : Nat) kp pt) (hpt : 0 ≤ pt ∧ pt ≤ 208) (hbs : 0 ≤ bs ∧ bs ≤ 208) (h110 : f 110 = xr 0 tm) (h111 : f 111 = xr 0 oa) (htl : tm.length = 3) (hol : oa.length = 3) (hop : 0 ≤ op ∧ op ≤ 3) (hd : xDR B c f nmd m d al) (hw : ¬ (ki = 3 ∧ sg = 59)) (hw2 : 0 < op) (hw3 : ki = 3 ∧ sg = 41) (hfr0 : 0 ≤ oa.getD (op - 1).toNat 0 ∧ oa.getD (op - 1).toNat 0 ≤ min (m + 1) 17) (hti : 1 ≤ tm.getD (op - 1).toNat 0 ∧ tm.getD (op - 1).toNat 0 ≤ 4) : xq v0 xs u 56 [(0, .ref 109)] f (fun r f' => r = some (xi 1) ∧ f' 109 = xrd c (op - 1) 7 bs sl ∧ xDR ((B ++ [(bs, pt, -1)]) ++ xrd0 (B ++ [(bs, pt, -1)]) (oa.getD (op - 1).toNat 0).toNat (min (m + 1) 17 - oa.getD (op - 1).toNat 0) (tm.getD (op - 1).toNat 0 - 1).toNat) c f' nmd (min (min (m + 1) 17 + (tm.getD (op - 1).toNat 0 - 1) * (min (m + 1) 17 - oa.getD (op - 1).toNat 0)) 17) d al ∧ ∀ p, p ≠ 109 → p ≠ 57 + 4 * c → p ≠ 58 + 4 * c → p ≠ 59 + 4 * c → p ≠ 60 + 4 * c → f' p = f p) := by
  unfold xq
  have hd0 := hd
  obtain ⟨hm1, hm2, fp, ep, ta, h0, h1, h2, h3, hty⟩ := hd0
  refine x_aload_n rfl rfl ?_
  refine x_getfield rfl (by decide) h109 rfl ?_
  refine x_aload_n rfl rfl ?_
  refine x_getfield rfl (by decide) h109 rfl ?_
  refine x_aload_n rfl rfl ?_
  refine x_getfield rfl (by decide) h109 rfl ?_
  refine x_getfield rfl (by decide) h53 rfl ?_
  refine x_call [_, _, _] rfl rfl (show (0 : Nat) ≤ 8 from by decide) (show (3 : Nat) ≤ 3 from by decide) (x_rcv (by omega) h0) (xs_53 hc hd hbs hpt) (fun r' f' hP => ?_)
  obtain ⟨rfl, hQ1, hQ2⟩ := hP
  refine x_aload_n rfl rfl ?_
  refine x_call [_] rfl rfl (show (0 : Nat) ≤ 8 from by decide) (show (1 : Nat) ≤ 1 from by decide) (x_rcv (by decide) ((hQ2 109 (by omega) (by omega) (by omega) (by omega)).trans h109)) (xs_55c ((hQ2 109 (by omega) (by omega) (by omega) (by omega)).trans h109) ((hQ2 112 (by omega) (by omega) (by omega) (by omega)).trans h112) hki hsg hc ((hQ2 110 (by omega) (by omega) (by omega) (by omega)).trans h110) ((hQ2 111 (by omega) (by omega) (by omega) (by omega)).trans h111) htl hol hop hQ1 hw hw2 hw3 hfr0 hti) (fun r' f' hP => ?_)
  obtain ⟨rfl, hP1, hP2, hP3⟩ := hP
  refine x_ireturn rfl (Or.inr (Or.inl ⟨rfl, by decide⟩)) ⟨_, _, rfl, rfl, ?_⟩
  first | (exfalso; omega) | exact ⟨rfl, hP1, hP2, fun p hp a1 a2 a3 a4 => (hP3 p hp a1 a2 a3 a4).trans (hQ2 p a1 a2 a3 a4)⟩
/-- brackets and counts of a state -/
def xbr (q : xA) : Prop := q.1 ≤ 7 ∧ (0 ≤ q.2.1 ∧ q.2.1 ≤ 3) ∧ (q.1 = 3 → q.2.1 < 3 ∧ 2 ≤ q.2.2.1.getD q.2.1.toNat 0) ∧ q.2.2.1.length = 3 ∧ q.2.2.2.1.length = 3 ∧ (∀ j : Nat, 0 ≤ q.2.2.1.getD j 0 ∧ q.2.2.1.getD j 0 ≤ 4) ∧ (∀ j : Nat, 0 ≤ q.2.2.2.1.getD j 0 ∧ q.2.2.2.1.getD j 0 ≤ 17) ∧ (∀ j : Nat, (j : Int) < q.2.1 → 2 ≤ q.2.2.1.getD j 0 ∧ q.2.2.2.1.getD j 0 ≤ q.2.2.2.2.1) ∧ (0 ≤ q.2.2.2.2.1 ∧ q.2.2.2.2.1 ≤ 17) ∧ (1 ≤ q.2.2.2.2.2 ∧ q.2.2.2.2.2 ≤ 7)
def xFR (c : Nat) (f0 f : Nat → zE) : Prop := ∀ p, p ≠ 53 → p ≠ 55 → p ≠ 56 → p ≠ 57 + 4 * c → p ≠ 58 + 4 * c → p ≠ 59 + 4 * c → p ≠ 60 + 4 * c → p ≠ 109 → p ≠ 110 → p ≠ 111 → p ≠ 112 → f p = f0 p
/-- the heap's content beside the grammar's: as long as the parts fit, and the beats are no more than sixteen -/
def xct (K : List (Int × Int)) (B : List xBt) (bs sl : Int) (q : xA) (C : xC) : Prop := (q.1 = 5 → sl = C.2.1) ∧ ((K ++ C.2.2.1).length ≤ 208 → (4 ≤ q.1 → q.1 ≤ 6 → bs = C.1) ∧ (q.2.2.2.2.1 ≤ 16 → B = C.2.2.2))
def xSC (f0 : Nat → zE) (K : List (Int × Int)) (c : Nat) (kp : Int) (f : Nat → zE) (nmd : Int64) (al : Value) (q : xA) (C : xC) : Prop := ∃ (pt bs sl : Int) (B : List xBt), (0 ≤ pt ∧ pt ≤ 208) ∧ (0 ≤ bs ∧ bs ≤ 208) ∧ (-1 ≤ sl ∧ sl ≤ 12 ∧ (q.1 = 5 → 0 ≤ sl)) ∧ f 53 = xbo (c : Nat) kp pt ∧ f 109 = xrd c q.2.1 (q.1 : Nat) bs sl ∧ f 110 = xr 0 q.2.2.1 ∧ f 111 = xr 0 q.2.2.2.1 ∧ xbr q ∧ xDR B c f nmd q.2.2.2.2.1 q.2.2.2.2.2 al ∧ xPT K C.2.2.1 pt f ∧ xct K B bs sl q C ∧ xFR c f0 f
/-- the same without what is expected -/
def xSW (f0 : Nat → zE) (K : List (Int × Int)) (c : Nat) (kp : Int) (f : Nat → zE) (al : Value) : Prop := ∃ (pt op ex bs sl m d : Int) (tm oa : List Int) (nmd : Int64) (E : List (Int × Int)) (B : List xBt), ((0 ≤ pt ∧ pt ≤ 208) ∧ (0 ≤ bs ∧ bs ≤ 208) ∧ -1 ≤ sl ∧ sl ≤ 12) ∧ f 53 = xbo (c : Nat) kp pt ∧ f 109 = xrd c op ex bs sl ∧ f 110 = xr 0 tm ∧ f 111 = xr 0 oa ∧ tm.length = 3 ∧ oa.length = 3 ∧ (∀ j : Nat, 0 ≤ tm.getD j 0 ∧ tm.getD j 0 ≤ 4) ∧ (∀ j : Nat, 0 ≤ oa.getD j 0 ∧ oa.getD j 0 ≤ 17) ∧ xDR B c f nmd m d al ∧ xPT K E pt f ∧ xFR c f0 f
theorem xeos_br {op : Int} {tm oa : List Int} {m d ki sg : Int} {e : Nat} {q : xA} (h : xbr (e, op, tm, oa, m, d)) (hs : xeos op tm oa m d ki sg = some q) : xbr q := by
  obtain ⟨h1, h2, h3, h4, h5, h6, h7, h8, h9, h10⟩ := h
  dsimp only at *
  unfold xeos at hs
  split at hs
  · cases hs
    exact ⟨by dsimp only; decide, h2, fun h => by simp at h, h4, h5, h6, h7, h8, h9, h10⟩
  · split at hs
    · cases hs
    · split at hs
      · cases hs
        have k1 := h8 (op - 1).toNat (by omega)
        have k2 : 0 ≤ (tm.getD (op - 1).toNat 0 - 1) * (m - oa.getD (op - 1).toNat 0) := Int.mul_nonneg (by omega) (by omega)
        refine ⟨by dsimp only; decide, by dsimp only; omega, fun h => by simp at h, h4, h5, h6, h7, fun j hj => ?_, by dsimp only; omega, h10⟩
        dsimp only at hj ⊢
        have := h8 j (by omega)
        omega
      · cases hs
theorem xstep_br {bc dp : Nat → Int} {ki di sg sl at' ol : Int} {lg : Bool} {q q' : xA} (hbd : ki = 1 → ol ≠ -1 → 0 ≤ bc ol.toNat ∧ 1 ≤ dp ol.toNat ∧ dp ol.toNat ≤ 6) (h : xbr q) (hs : xstep bc dp ki di sg sl at' ol lg q = some q') : xbr q' := by
  have h0 := h
  obtain ⟨ex, op, tm, oa, m, d⟩ := q
  obtain ⟨h1, h2, h3, h4, h5, h6, h7, h8, h9, h10⟩ := h
  dsimp only at h1 h2 h3 h4 h5 h6 h7 h8 h9 h10
  match ex, h1 with
  | 0, _ =>
    simp only [xstep] at hs
    split at hs
    · cases hs; exact ⟨by dsimp only; decide, h2, fun h => by simp at h, h4, h5, h6, h7, h8, h9, h10⟩
    · cases hs
  | 1, _ =>
    simp only [xstep] at hs
    split at hs
    · cases hs; exact ⟨by dsimp only; decide, h2, fun h => by simp at h, h4, h5, h6, h7, h8, h9, h10⟩
    · cases hs
  | 2, _ =>
    simp only [xstep] at hs
    split at hs
    · rename_i hA
      cases hs
      refine ⟨by dsimp only; decide, h2, fun _ => ⟨hA.2.2.2, ?_⟩, by rw [List.length_set]; exact h4, h5, fun j => ?_, h7, fun j hj => ?_, h9, h10⟩
      · dsimp only
        rw [x_gset, if_pos ⟨rfl, by omega⟩]
        omega
      · dsimp only
        rw [x_gset]
        split
        · omega
        · exact h6 j
      · dsimp only at hj ⊢
        rw [x_gset, if_neg (by omega)]
        exact h8 j hj
    · split at hs
      · rename_i hB
        cases hs
        have hb := hbd hB.1 hB.2
        refine ⟨by dsimp only; decide, h2, fun h => by simp at h, h4, h5, h6, h7, fun j hj => ?_, by dsimp only; omega, by dsimp only; omega⟩
        dsimp only at hj ⊢
        have := h8 j hj
        omega
      · split at hs
        · cases hs; exact ⟨by dsimp only; decide, h2, fun h => by simp at h, h4, h5, h6, h7, h8, h9, h10⟩
        · cases hs
  | 3, _ =>
    simp only [xstep] at hs
    split at hs
    · cases hs
      obtain ⟨k1, k2⟩ := h3 rfl
      refine ⟨by dsimp only; decide, by dsimp only; omega, fun h => by simp at h, h4, by rw [List.length_set]; exact h5, h6, fun j => ?_, fun j hj => ?_, h9, h10⟩
      · dsimp only
        rw [x_gset]
        split
        · exact h9
        · exact h7 j
      · dsimp only at hj ⊢
        rw [x_gset]
        split
        · rename_i hk
          rw [← hk.1]
          exact ⟨k2, Int.le_refl _⟩
        · rename_i hk
          by_cases e : j = op.toNat
          · exact absurd ⟨e.symm, by omega⟩ hk
          · exact h8 j (by omega)
    · cases hs
  | 4, _ =>
    simp only [xstep] at hs
    split at hs
    · cases hs; exact ⟨by dsimp only; decide, h2, fun h => by simp at h, h4, h5, h6, h7, h8, h9, h10⟩
    · cases hs
  | 5, _ =>
    simp only [xstep] at hs
    split at hs
    · cases hs; exact ⟨by dsimp only; decide, h2, fun h => by simp at h, h4, h5, h6, h7, h8, h9, h10⟩
    · cases hs
  | 6, _ =>
    simp only [xstep] at hs
    split at hs
    · cases hs; exact ⟨by dsimp only; decide, h2, fun h => by simp at h, h4, h5, h6, h7, h8, h9, h10⟩
    · refine xeos_br (e := 6) ⟨by dsimp only; decide, h2, fun h => by simp at h, h4, h5, h6, h7, fun j hj => ?_, by dsimp only; omega, h10⟩ hs
      dsimp only at hj ⊢
      have := h8 j hj
      omega
  | 7, _ =>
    simp only [xstep] at hs
    exact xeos_br h0 hs
theorem xSC_W {f0 : Nat → zE} {K : List (Int × Int)} {c : Nat} {kp : Int} {f : Nat → zE} {nmd : Int64} {al : Value} {q : xA} {C : xC} (h : xSC f0 K c kp f nmd al q C) : xSW f0 K c kp f al := by
  obtain ⟨pt, bs, sl, B, h1, h2, h3, h4, h5, h6, h7, h8, h9, h10, -, h11⟩ := h
  exact ⟨pt, _, _, bs, sl, _, _, _, _, nmd, _, _, ⟨h1, h2, h3.1, h3.2.1⟩, h4, h5, h6, h7, h8.2.2.2.1, h8.2.2.2.2.1, h8.2.2.2.2.2.1, h8.2.2.2.2.2.2.1, h9, h10, h11⟩
theorem xs_57 {K : List (Int × Int)} {G : Nat → List xBt} {C : xC} {v0 : Value} {xs : List Int32} {u : Nat × Nat} {f0 f : Nat → zE} {c : Nat} {kp : Int} {nmd : Int64} {al : Value} {q : xA} {nm : Nat → Int64} {bc dp : Nat → Int} {av : Nat → Value} {ki st en di sg : Int} {wo : Int64} (hv : v0 = .null ∨ v0 = .ref 49) (hc : c ≤ 12) (h54 : f0 54 = .inr (.inr (.inr (3, xfl)))) (hk0 : ∀ i, i < c → xKF (G i) i f0 (nm i) (bc i) (dp i) (av i)) (hdp : ∀ i, i < c → 1 ≤ dp i ∧ dp i ≤ 6) (hsc : xSC f0 K c kp f nmd al q C) (h112 : f 112 = xtk ki st en wo di sg) (hki : 0 ≤ ki ∧ ki ≤ 9) (hsg : ki = 3 → 0 ≤ sg ∧ sg ≤ 65535) (hdi : ki = 2 → -1 ≤ di ∧ di ≤ 100) (hxs : xS wo ≤ 12) (hxa : xAt wo ≤ 6) : xq v0 xs u 57 [(0, .ref 109)] f (fun r f' => (∃ q', xstep bc dp ki di sg (xS wo) (xAt wo) (xfn nm wo c 0) (decide (wo = 0)) q = some q' ∧ r = some (xi 1) ∧ xSC f0 K c kp f' (if q.1 = 0 then wo else nmd) al q' (xcst K G ki di sg (xS wo) (xAt wo) (xfn nm wo c 0) q C) ∧ f' 112 = f 112) ∨ (xstep bc dp ki di sg (xS wo) (xAt wo) (xfn nm wo c 0) (decide (wo = 0)) q = none ∧ r = some (xi 0) ∧ xSW f0 K c kp f' al ∧ f' 112 = f 112)) := by
  unfold xq
  have hsc0 := hsc
  obtain ⟨ex, op, tm, oa, m, d⟩ := q
  obtain ⟨pt, bs, sl, B9, hpt, hbs, hsl, h53, h109, h110, h111, hbr, hd, hPT, hct, hfr⟩ := hsc
  dsimp only at h109 h110 h111 hd hsl
  have hpl : (K ++ C.2.2.1).length ≤ 208 → ((K ++ C.2.2.1).length : Int) = pt := fun hl => by
    obtain ⟨se, at', -, -, -, -, -, -, -, -, h⟩ := hPT
    exact (h hl).1
  have hBl : m ≤ 16 → (B9.length : Int) = m := fun h => by
    obtain ⟨-, -, fp, ep, ta, -, -, -, -, -, h'⟩ := hd
    exact (h' h).1
  have hst := fun q' => xstep_br (q' := q') (ki := ki) (di := di) (sg := sg) (sl := xS wo) (at' := xAt wo) (ol := xfn nm wo c 0) (lg := decide (wo = 0)) (bc := bc) (dp := dp) (fun _ hne => by
    rcases xfn_rg (nm := nm) (g := wo) c 0 with h | ⟨j, h1, h2, h3⟩
    · exact absurd h hne
    · rw [h1, Int.toNat_natCast]; exact ⟨(hk0 j (by omega)).1, hdp j (by omega)⟩) hbr
  have hbr0 := hbr
  obtain ⟨b1, b2, b3, b4, b5, b6, b7, b8, b9, b10⟩ := hbr0
  dsimp only at b1 b2 b3 b4 b5 b6 b7 b8 b9 b10
  have h54f : f 54 = .inr (.inr (.inr (3, xfl))) := (hfr 54 (by decide) (by decide) (by decide) (by omega) (by omega) (by omega) (by omega) (by decide) (by decide) (by decide) (by decide)).trans h54
  have hkf : ∀ i, i < c → xKF (G i) i f (nm i) (bc i) (dp i) (av i) := fun i hi => xKF_mv hi (fun p p1 p2 => hfr p (by omega) (by omega) (by omega) (by omega) (by omega) (by omega) (by omega) (by omega) (by omega) (by omega) (by omega)) (hk0 i hi)
  have hdp2 : ∀ i, i < c → -1000 ≤ dp i ∧ dp i ≤ 1000 := fun i hi => by have := hdp i hi; omega
  match ex, b1 with
  | 0, _ =>
    refine x_aload_n rfl rfl ?_
    refine x_getfield rfl (by decide) h109 rfl ?_
    refine x_sw (t := 48) rfl (by decide) rfl rfl ?_
    refine x_aload_n rfl rfl ?_
    by_cases hw : ki = 1 ∧ ¬ wo = 0 ∧ xfn nm wo c 0 = -1 ∧ xS wo = -1 ∧ xAt wo = -1
    · skip
      refine x_call [_] rfl rfl (show (0 : Nat) ≤ 8 from by decide) (show (1 : Nat) ≤ 1 from by decide) (x_rcv (by decide) h109) (xs_40t hv h109 h112 hki hsg hc h53 h54f hkf hd hw) (fun r' f' hP => ?_)
      obtain ⟨rfl, hP1, hP2, hP3⟩ := hP
      refine x_ireturn rfl (Or.inr (Or.inl ⟨rfl, by decide⟩)) ⟨_, _, rfl, rfl, ?_⟩
      refine Or.inl ⟨(1, op, tm, oa, m, d), ?_, rfl, ⟨pt, bs, sl, _, hpt, hbs, ⟨hsl.1, hsl.2.1, fun h => by simp at h⟩, (hP3 53 (by decide) (by omega)).trans h53, hP2, (hP3 110 (by decide) (by omega)).trans h110, (hP3 111 (by decide) (by omega)).trans h111, hst _ ?_, hP1, xPT_mv (hP3 55 (by decide) (by omega)) (hP3 56 (by decide) (by omega)) hPT, ?_, fun p a1 a2 a3 a4 a5 a6 a7 a8 a9 a10 a11 => (hP3 p a8 a4).trans (hfr p a1 a2 a3 a4 a5 a6 a7 a8 a9 a10 a11)⟩, hP3 112 (by decide) (by omega)⟩
      · simp only [xstep]; rw [if_pos ⟨hw.1, by simpa using hw.2.1, hw.2.2⟩]
      · simp only [xstep]; rw [if_pos ⟨hw.1, by simpa using hw.2.1, hw.2.2⟩]
      · exact ⟨fun h => by dsimp only at h; omega, fun hl => ⟨fun h => by dsimp only at h; omega, fun hm => (hct.2 hl).2 hm⟩⟩
    · skip
      refine x_call [_] rfl rfl (show (0 : Nat) ≤ 8 from by decide) (show (1 : Nat) ≤ 1 from by decide) (x_rcv (by decide) h109) (xs_40f hv h109 h112 hki hsg hc h53 h54f hkf hd hw) (fun r' f' hP => ?_)
      obtain ⟨rfl, rfl⟩ := hP
      refine x_ireturn rfl (Or.inr (Or.inl ⟨rfl, by decide⟩)) ⟨_, _, rfl, rfl, ?_⟩
      refine Or.inr ⟨?_, rfl, xSC_W hsc0, rfl⟩
      simp only [xstep]; rw [if_neg (fun h => hw ⟨h.1, by simpa using h.2.1, h.2.2⟩)]
  | 1, _ =>
    refine x_aload_n rfl rfl ?_
    refine x_getfield rfl (by decide) h109 rfl ?_
    refine x_sw (t := 53) rfl (by decide) rfl rfl ?_
    refine x_aload_n rfl rfl ?_
    refine x_bipush rfl (by decide) ?_
    refine x_iconst rfl ?_
    by_cases hw : ki = 3 ∧ sg = 61
    · skip
      refine x_call [_, _, _] rfl rfl (show (0 : Nat) ≤ 8 from by decide) (show (3 : Nat) ≤ 3 from by decide) (x_rcv (by decide) h109) (xs_42t h109 h112 hki hsg (by decide) hw) (fun r' f' hP => ?_)
      obtain ⟨rfl, rfl⟩ := hP
      refine x_ireturn rfl (Or.inr (Or.inl ⟨rfl, by decide⟩)) ⟨_, _, rfl, rfl, ?_⟩
      refine Or.inl ⟨(2, op, tm, oa, m, d), ?_, rfl, ⟨pt, bs, sl, _, hpt, hbs, ⟨hsl.1, hsl.2.1, fun h => by simp at h⟩, xu_ne (by decide) h53, xu_eq, xu_ne (by decide) h110, xu_ne (by decide) h111, hst _ ?_, xDR_mv (fun p p1 p2 => xu_ne (by omega) rfl) hd, xPT_mv (xu_ne (by decide) rfl) (xu_ne (by decide) rfl) hPT, ?_, fun p a1 a2 a3 a4 a5 a6 a7 a8 a9 a10 a11 => (xu_ne a8 rfl).trans (hfr p a1 a2 a3 a4 a5 a6 a7 a8 a9 a10 a11)⟩, xu_ne (by decide) rfl⟩
      · simp only [xstep]; rw [if_pos hw]
      · simp only [xstep]; rw [if_pos hw]
      · exact ⟨fun h => by dsimp only at h; omega, fun hl => ⟨fun h => by dsimp only at h; omega, fun hm => (hct.2 hl).2 hm⟩⟩
    · skip
      refine x_call [_, _, _] rfl rfl (show (0 : Nat) ≤ 8 from by decide) (show (3 : Nat) ≤ 3 from by decide) (x_rcv (by decide) h109) (xs_42f h109 h112 hki hsg (by decide) hw) (fun r' f' hP => ?_)
      obtain ⟨rfl, rfl⟩ := hP
      refine x_ireturn rfl (Or.inr (Or.inl ⟨rfl, by decide⟩)) ⟨_, _, rfl, rfl, ?_⟩
      refine Or.inr ⟨?_, rfl, xSC_W hsc0, rfl⟩
      simp only [xstep]; rw [if_neg hw]
  | 2, _ =>
    refine x_aload_n rfl rfl ?_
    refine x_getfield rfl (by decide) h109 rfl ?_
    refine x_sw (t := 61) rfl (by decide) rfl rfl ?_
    refine x_aload_n rfl rfl ?_
    by_cases hA : ki = 2 ∧ 2 ≤ di ∧ di ≤ 4 ∧ op < 3
    · skip
      refine x_call [_] rfl rfl (show (0 : Nat) ≤ 8 from by decide) (show (1 : Nat) ≤ 1 from by decide) (x_rcv (by decide) h109) (xs_49A h109 h112 hki hsg h110 b4 b2 hdi hc h53 h54f hkf hA) (fun r' f' hP => ?_)
      obtain ⟨rfl, hP1, hP2, hP3⟩ := hP
      refine x_ireturn rfl (Or.inr (Or.inl ⟨rfl, by decide⟩)) ⟨_, _, rfl, rfl, ?_⟩
      rw [show xcst K G ki di sg (xS wo) (xAt wo) (xfn nm wo c 0) (2, op, tm, oa, m, d) C = C by simp only [xcst]; rw [if_pos hA]]
      refine Or.inl ⟨(3, op, tm.set op.toNat di, oa, m, d), ?_, rfl, ⟨pt, pt, sl, _, hpt, hpt, ⟨hsl.1, hsl.2.1, fun h => by simp at h⟩, (hP3 53 (by decide) (by decide)).trans h53, hP1, hP2, (hP3 111 (by decide) (by decide)).trans h111, hst _ ?_, xDR_mv (fun p p1 p2 => hP3 p (by omega) (by omega)) hd, xPT_mv (hP3 55 (by decide) (by decide)) (hP3 56 (by decide) (by decide)) hPT, ?_, fun p a1 a2 a3 a4 a5 a6 a7 a8 a9 a10 a11 => (hP3 p a8 a9).trans (hfr p a1 a2 a3 a4 a5 a6 a7 a8 a9 a10 a11)⟩, hP3 112 (by decide) (by decide)⟩
      · simp only [xstep]; rw [if_pos hA]
      · simp only [xstep]; rw [if_pos hA]
      · exact ⟨fun h => by dsimp only at h; omega, fun hl => ⟨fun h => by dsimp only at h; omega, fun hm => (hct.2 hl).2 hm⟩⟩
    · by_cases hB : ki = 1 ∧ xfn nm wo c 0 ≠ -1
      · obtain ⟨i, hi1, hi2⟩ : ∃ i : Nat, xfn nm wo c 0 = (i : Nat) ∧ i < c := by
          rcases xfn_rg (nm := nm) (g := wo) c 0 with h | ⟨j, h1, h2, h3⟩
          · exact absurd h hB.2
          · exact ⟨j, h1, by omega⟩
        refine x_call [_] rfl rfl (show (0 : Nat) ≤ 8 from by decide) (show (1 : Nat) ≤ 1 from by decide) (x_rcv (by decide) h109) (xs_49B h109 h112 hki hsg h110 b4 b2 hdi hc h53 h54f hkf hd (by omega) hdp2 hi2 hB.1 hi1) (fun r' f' hP => ?_)
        obtain ⟨rfl, hP1, hP2, hP3⟩ := hP
        refine x_ireturn rfl (Or.inr (Or.inl ⟨rfl, by decide⟩)) ⟨_, _, rfl, rfl, ?_⟩
        rw [show xcst K G ki di sg (xS wo) (xAt wo) (xfn nm wo c 0) (2, op, tm, oa, m, d) C = (C.1, C.2.1, C.2.2.1, C.2.2.2 ++ (G i).map (xsh (C.2.2.2.length : Nat))) by simp only [xcst]; rw [if_neg hA, if_pos hB, hi1, Int.toNat_natCast]]
        refine Or.inl ⟨(7, op, tm, oa, min (m + bc i) 17, max d (dp i + 1)), ?_, rfl, ⟨pt, pt, sl, _, hpt, hpt, ⟨hsl.1, hsl.2.1, fun h => by simp at h⟩, (hP3 53 (by decide) (by omega) (by omega) (by omega) (by omega)).trans h53, hP2, (hP3 110 (by decide) (by omega) (by omega) (by omega) (by omega)).trans h110, (hP3 111 (by decide) (by omega) (by omega) (by omega) (by omega)).trans h111, hst _ ?_, hP1, xPT_mv (hP3 55 (by decide) (by omega) (by omega) (by omega) (by omega)) (hP3 56 (by decide) (by omega) (by omega) (by omega) (by omega)) hPT, ?_, fun p a1 a2 a3 a4 a5 a6 a7 a8 a9 a10 a11 => (hP3 p a8 a4 a5 a6 a7).trans (hfr p a1 a2 a3 a4 a5 a6 a7 a8 a9 a10 a11)⟩, (hP3 112 (by decide) (by omega) (by omega) (by omega) (by omega))⟩
        · simp only [xstep]; rw [if_neg hA, if_pos hB, hi1, Int.toNat_natCast]
        · simp only [xstep]; rw [if_neg hA, if_pos hB, hi1, Int.toNat_natCast]
        · refine ⟨fun h => by dsimp only at h; omega, fun hl => ⟨fun h => by dsimp only at h; omega, fun hm => ?_⟩⟩
          have hb := (hk0 i hi2).1
          dsimp only at hm ⊢
          rw [← (hct.2 hl).2 (show m ≤ 16 by omega), hBl (by omega)]
      · by_cases hC : ki = 1 ∧ xS wo ≠ -1
        · skip
          refine x_call [_] rfl rfl (show (0 : Nat) ≤ 8 from by decide) (show (1 : Nat) ≤ 1 from by decide) (x_rcv (by decide) h109) (xs_49C hv h109 h112 hki hsg h110 b4 b2 hdi hc h53 h54f hkf hA hB hC) (fun r' f' hP => ?_)
          obtain ⟨rfl, hP1, hP2⟩ := hP
          refine x_ireturn rfl (Or.inr (Or.inl ⟨rfl, by decide⟩)) ⟨_, _, rfl, rfl, ?_⟩
          rw [show xcst K G ki di sg (xS wo) (xAt wo) (xfn nm wo c 0) (2, op, tm, oa, m, d) C = ((((K ++ C.2.2.1).length : Nat) : Int), xS wo, C.2.2.1, C.2.2.2) by simp only [xcst]; rw [if_neg hA, if_neg hB, if_pos hC.1]]
          refine Or.inl ⟨(5, op, tm, oa, m, d), ?_, rfl, ⟨pt, pt, xS wo, _, hpt, hpt, (by have := xS_rg wo; exact ⟨this.1, hxs, fun _ => by omega⟩), (hP2 53 (by decide)).trans h53, hP1, (hP2 110 (by decide)).trans h110, (hP2 111 (by decide)).trans h111, hst _ ?_, xDR_mv (fun p p1 p2 => hP2 p (by omega)) hd, xPT_mv (hP2 55 (by decide)) (hP2 56 (by decide)) hPT, ?_, fun p a1 a2 a3 a4 a5 a6 a7 a8 a9 a10 a11 => (hP2 p a8).trans (hfr p a1 a2 a3 a4 a5 a6 a7 a8 a9 a10 a11)⟩, hP2 112 (by decide)⟩
          · simp only [xstep]; rw [if_neg hA, if_neg hB, if_pos hC]
          · simp only [xstep]; rw [if_neg hA, if_neg hB, if_pos hC]
          · exact ⟨fun _ => rfl, fun hl => ⟨fun _ _ => (hpl hl).symm, fun hm => (hct.2 hl).2 hm⟩⟩
        · skip
          refine x_call [_] rfl rfl (show (0 : Nat) ≤ 8 from by decide) (show (1 : Nat) ≤ 1 from by decide) (x_rcv (by decide) h109) (xs_49D hv h109 h112 hki hsg h110 b4 b2 hdi hc h53 h54f hkf hA hB hC) (fun r' f' hP => ?_)
          obtain ⟨rfl, ⟨sl', hP1, hslm⟩, hP2⟩ := hP
          refine x_ireturn rfl (Or.inr (Or.inl ⟨rfl, by decide⟩)) ⟨_, _, rfl, rfl, ?_⟩
          refine Or.inr ⟨?_, rfl, ⟨pt, op, 5, pt, sl', m, d, tm, oa, nmd, _, _, ⟨hpt, by omega, by omega, by omega⟩, (hP2 53 (by decide)).trans h53, hP1, (hP2 110 (by decide)).trans h110, (hP2 111 (by decide)).trans h111, b4, b5, b6, b7, xDR_mv (fun p p1 p2 => hP2 p (by omega)) hd, xPT_mv (hP2 55 (by decide)) (hP2 56 (by decide)) hPT, fun p a1 a2 a3 a4 a5 a6 a7 a8 a9 a10 a11 => (hP2 p a8).trans (hfr p a1 a2 a3 a4 a5 a6 a7 a8 a9 a10 a11)⟩, hP2 112 (by decide)⟩
          simp only [xstep]; rw [if_neg hA, if_neg hB, if_neg hC]
  | 3, _ =>
    refine x_aload_n rfl rfl ?_
    refine x_getfield rfl (by decide) h109 rfl ?_
    refine x_sw (t := 66) rfl (by decide) rfl rfl ?_
    refine x_aload_n rfl rfl ?_
    by_cases hw : ki = 3 ∧ sg = 40
    · skip
      refine x_call [_] rfl rfl (show (0 : Nat) ≤ 8 from by decide) (show (1 : Nat) ≤ 1 from by decide) (x_rcv (by decide) h109) (xs_50t h109 h112 hki hsg hc h111 b5 ⟨b2.1, (b3 rfl).1⟩ hd hw) (fun r' f' hP => ?_)
      obtain ⟨rfl, hP1, hP2, hP3⟩ := hP
      refine x_ireturn rfl (Or.inr (Or.inl ⟨rfl, by decide⟩)) ⟨_, _, rfl, rfl, ?_⟩
      refine Or.inl ⟨(2, op + 1, tm, oa.set op.toNat m, m, d), ?_, rfl, ⟨pt, bs, sl, _, hpt, hbs, ⟨hsl.1, hsl.2.1, fun h => by simp at h⟩, (hP3 53 (by decide) (by decide)).trans h53, hP1, (hP3 110 (by decide) (by decide)).trans h110, hP2, hst _ ?_, xDR_mv (fun p p1 p2 => hP3 p (by omega) (by omega)) hd, xPT_mv (hP3 55 (by decide) (by decide)) (hP3 56 (by decide) (by decide)) hPT, ?_, fun p a1 a2 a3 a4 a5 a6 a7 a8 a9 a10 a11 => (hP3 p a8 a10).trans (hfr p a1 a2 a3 a4 a5 a6 a7 a8 a9 a10 a11)⟩, hP3 112 (by decide) (by decide)⟩
      · simp only [xstep]; rw [if_pos hw]
      · simp only [xstep]; rw [if_pos hw]
      · exact ⟨fun h => by dsimp only at h; omega, fun hl => ⟨fun h => by dsimp only at h; omega, fun hm => (hct.2 hl).2 hm⟩⟩
    · skip
      refine x_call [_] rfl rfl (show (0 : Nat) ≤ 8 from by decide) (show (1 : Nat) ≤ 1 from by decide) (x_rcv (by decide) h109) (xs_50f h109 h112 hki hsg hc h111 b5 ⟨b2.1, (b3 rfl).1⟩ hd hw) (fun r' f' hP => ?_)
      obtain ⟨rfl, rfl⟩ := hP
      refine x_ireturn rfl (Or.inr (Or.inl ⟨rfl, by decide⟩)) ⟨_, _, rfl, rfl, ?_⟩
      refine Or.inr ⟨?_, rfl, xSC_W hsc0, rfl⟩
      simp only [xstep]; rw [if_neg hw]
  | 4, _ =>
    refine x_aload_n rfl rfl ?_
    refine x_getfield rfl (by decide) h109 rfl ?_
    refine x_sw (t := 71) rfl (by decide) rfl rfl ?_
    refine x_aload_n rfl rfl ?_
    by_cases hw : ki = 1 ∧ xS wo ≠ -1
    · skip
      refine x_call [_] rfl rfl (show (0 : Nat) ≤ 8 from by decide) (show (1 : Nat) ≤ 1 from by decide) (x_rcv (by decide) h109) (xs_48t hv h109 h112 hki hsg hw) (fun r' f' hP => ?_)
      obtain ⟨rfl, hP1, hP2⟩ := hP
      refine x_ireturn rfl (Or.inr (Or.inl ⟨rfl, by decide⟩)) ⟨_, _, rfl, rfl, ?_⟩
      rw [show xcst K G ki di sg (xS wo) (xAt wo) (xfn nm wo c 0) (4, op, tm, oa, m, d) C = (C.1, xS wo, C.2.2.1, C.2.2.2) by simp only [xcst]; rw [if_pos hw.1]]
      refine Or.inl ⟨(5, op, tm, oa, m, d), ?_, rfl, ⟨pt, bs, xS wo, _, hpt, hbs, (by have := xS_rg wo; exact ⟨this.1, hxs, fun _ => by omega⟩), (hP2 53 (by decide)).trans h53, hP1, (hP2 110 (by decide)).trans h110, (hP2 111 (by decide)).trans h111, hst _ ?_, xDR_mv (fun p p1 p2 => hP2 p (by omega)) hd, xPT_mv (hP2 55 (by decide)) (hP2 56 (by decide)) hPT, ?_, fun p a1 a2 a3 a4 a5 a6 a7 a8 a9 a10 a11 => (hP2 p a8).trans (hfr p a1 a2 a3 a4 a5 a6 a7 a8 a9 a10 a11)⟩, hP2 112 (by decide)⟩
      · simp only [xstep]; rw [if_pos hw]
      · simp only [xstep]; rw [if_pos hw]
      · exact ⟨fun _ => rfl, fun hl => ⟨fun _ _ => (hct.2 hl).1 (show (4 : Nat) ≤ 4 by omega) (show (4 : Nat) ≤ 6 by omega), fun hm => (hct.2 hl).2 hm⟩⟩
    · skip
      refine x_call [_] rfl rfl (show (0 : Nat) ≤ 8 from by decide) (show (1 : Nat) ≤ 1 from by decide) (x_rcv (by decide) h109) (xs_48f hv h109 h112 hki hsg hw) (fun r' f' hP => ?_)
      obtain ⟨rfl, ⟨sl', hP1, hslm⟩, hP2⟩ := hP
      refine x_ireturn rfl (Or.inr (Or.inl ⟨rfl, by decide⟩)) ⟨_, _, rfl, rfl, ?_⟩
      refine Or.inr ⟨?_, rfl, ⟨pt, op, 5, bs, sl', m, d, tm, oa, nmd, _, _, ⟨hpt, by omega, by omega, by omega⟩, (hP2 53 (by decide)).trans h53, hP1, (hP2 110 (by decide)).trans h110, (hP2 111 (by decide)).trans h111, b4, b5, b6, b7, xDR_mv (fun p p1 p2 => hP2 p (by omega)) hd, xPT_mv (hP2 55 (by decide)) (hP2 56 (by decide)) hPT, fun p a1 a2 a3 a4 a5 a6 a7 a8 a9 a10 a11 => (hP2 p a8).trans (hfr p a1 a2 a3 a4 a5 a6 a7 a8 a9 a10 a11)⟩, hP2 112 (by decide)⟩
      simp only [xstep]; rw [if_neg hw]
  | 5, _ =>
    refine x_aload_n rfl rfl ?_
    refine x_getfield rfl (by decide) h109 rfl ?_
    refine x_sw (t := 76) rfl (by decide) rfl rfl ?_
    refine x_aload_n rfl rfl ?_
    by_cases hw : ki = 1 ∧ xAt wo ≠ -1
    · skip
      refine x_call [_] rfl rfl (show (0 : Nat) ≤ 8 from by decide) (show (1 : Nat) ≤ 2 from by decide) (x_rcv (by decide) h109) (xs_52t hv h109 h112 hki hsg hxa hpt ⟨hsl.2.2 rfl, hsl.2.1⟩ h53 hPT hw) (fun r' f' hP => ?_)
      obtain ⟨rfl, hP1, ⟨pt', hpt', h53', hPT'⟩, hP2⟩ := hP
      refine x_ireturn rfl (Or.inr (Or.inl ⟨rfl, by decide⟩)) ⟨_, _, rfl, rfl, ?_⟩
      rw [show xcst K G ki di sg (xS wo) (xAt wo) (xfn nm wo c 0) (5, op, tm, oa, m, d) C = (C.1, C.2.1, C.2.2.1 ++ [(C.2.1, xAt wo)], C.2.2.2) by simp only [xcst]; rw [if_pos hw.1]]
      refine Or.inl ⟨(6, op, tm, oa, m, d), ?_, rfl, ⟨pt', bs, sl, _, hpt', hbs, ⟨hsl.1, hsl.2.1, fun h => by simp at h⟩, h53', hP1, (hP2 110 (by decide) (by decide) (by decide) (by decide)).trans h110, (hP2 111 (by decide) (by decide) (by decide) (by decide)).trans h111, hst _ ?_, xDR_mv (fun p p1 p2 => hP2 p (by omega) (by omega) (by omega) (by omega)) hd, (by rw [← hct.1 rfl]; exact hPT'), ?_, fun p a1 a2 a3 a4 a5 a6 a7 a8 a9 a10 a11 => (hP2 p a8 a1 a2 a3).trans (hfr p a1 a2 a3 a4 a5 a6 a7 a8 a9 a10 a11)⟩, (hP2 112 (by decide) (by decide) (by decide) (by decide))⟩
      · simp only [xstep]; rw [if_pos hw]
      · simp only [xstep]; rw [if_pos hw]
      · have hle : (K ++ (C.2.2.1 ++ [(C.2.1, xAt wo)])).length ≤ 208 → (K ++ C.2.2.1).length ≤ 208 := fun hl => by rw [← List.append_assoc, List.length_append] at hl; omega
        exact ⟨fun h => by dsimp only at h; omega, fun hl => ⟨fun _ _ => (hct.2 (hle hl)).1 (show (4 : Nat) ≤ 5 by omega) (show (5 : Nat) ≤ 6 by omega), fun hm => (hct.2 (hle hl)).2 hm⟩⟩
    · skip
      refine x_call [_] rfl rfl (show (0 : Nat) ≤ 8 from by decide) (show (1 : Nat) ≤ 2 from by decide) (x_rcv (by decide) h109) (xs_52f (kp := 0) (pt := 0) hv h109 h112 hki hsg hw) (fun r' f' hP => ?_)
      obtain ⟨rfl, rfl⟩ := hP
      refine x_ireturn rfl (Or.inr (Or.inl ⟨rfl, by decide⟩)) ⟨_, _, rfl, rfl, ?_⟩
      refine Or.inr ⟨?_, rfl, xSC_W hsc0, rfl⟩
      simp only [xstep]; rw [if_neg hw]
  | 6, _ =>
    refine x_aload_n rfl rfl ?_
    refine x_getfield rfl (by decide) h109 rfl ?_
    refine x_sw (t := 81) rfl (by decide) rfl rfl ?_
    refine x_aload_n rfl rfl ?_
    refine x_bipush rfl (by decide) ?_
    refine x_iconst rfl ?_
    by_cases hw : ki = 3 ∧ sg = 44
    · skip
      refine x_call [_, _, _] rfl rfl (show (0 : Nat) ≤ 8 from by decide) (show (3 : Nat) ≤ 3 from by decide) (x_rcv (by decide) h109) (xs_42t h109 h112 hki hsg (by decide) hw) (fun r' f' hP => ?_)
      obtain ⟨rfl, rfl⟩ := hP
      refine x_ifne (t := 98) rfl rfl (by decide) (fun _ => ?_) (fun h => absurd h (by decide))
      refine x_iconst rfl ?_
      refine x_goto (t := 103) rfl rfl ?_
      refine x_ireturn rfl (Or.inr (Or.inl ⟨rfl, by decide⟩)) ⟨_, _, rfl, rfl, ?_⟩
      rw [show xcst K G ki di sg (xS wo) (xAt wo) (xfn nm wo c 0) (6, op, tm, oa, m, d) C = C by simp only [xcst]; rw [if_pos hw]]
      refine Or.inl ⟨(4, op, tm, oa, m, d), ?_, rfl, ⟨pt, bs, sl, _, hpt, hbs, ⟨hsl.1, hsl.2.1, fun h => by simp at h⟩, xu_ne (by decide) h53, xu_eq, xu_ne (by decide) h110, xu_ne (by decide) h111, hst _ ?_, xDR_mv (fun p p1 p2 => xu_ne (by omega) rfl) hd, xPT_mv (xu_ne (by decide) rfl) (xu_ne (by decide) rfl) hPT, ?_, fun p a1 a2 a3 a4 a5 a6 a7 a8 a9 a10 a11 => (xu_ne a8 rfl).trans (hfr p a1 a2 a3 a4 a5 a6 a7 a8 a9 a10 a11)⟩, xu_ne (by decide) rfl⟩
      · simp only [xstep]; rw [if_pos hw]
      · simp only [xstep]; rw [if_pos hw]
      · exact ⟨fun h => by dsimp only at h; omega, fun hl => ⟨fun _ _ => (hct.2 hl).1 (show (4 : Nat) ≤ 6 by omega) (show (6 : Nat) ≤ 6 by omega), fun hm => (hct.2 hl).2 hm⟩⟩
    · skip
      refine x_call [_, _, _] rfl rfl (show (0 : Nat) ≤ 8 from by decide) (show (3 : Nat) ≤ 3 from by decide) (x_rcv (by decide) h109) (xs_42f h109 h112 hki hsg (by decide) hw) (fun r' f' hP => ?_)
      obtain ⟨rfl, rfl⟩ := hP
      refine x_ifne (t := 98) rfl rfl (by decide) (fun h => absurd rfl h) (fun _ => ?_)
      refine x_aload_n rfl rfl ?_
      by_cases hs : ki = 3 ∧ sg = 59
      · skip
        refine x_call [_] rfl rfl (show (0 : Nat) ≤ 8 from by decide) (show (1 : Nat) ≤ 1 from by decide) (x_rcv (by decide) h109) (xs_56s h109 h112 hki hsg hc h53 hpt hbs h110 h111 b4 b5 b2 hd hs) (fun r' f' hP => ?_)
        obtain ⟨rfl, hP2, hP1, hP3⟩ := hP
        refine x_ifeq (t := 102) rfl rfl (by decide) (fun h => absurd h (by decide)) (fun _ => ?_)
        refine x_iconst rfl ?_
        refine x_goto (t := 103) rfl rfl ?_
        refine x_ireturn rfl (Or.inr (Or.inl ⟨rfl, by decide⟩)) ⟨_, _, rfl, rfl, ?_⟩
        rw [show xcst K G ki di sg (xS wo) (xAt wo) (xfn nm wo c 0) (6, op, tm, oa, m, d) C = xcap K C by simp only [xcst]; rw [if_neg hw]; unfold xceos; rw [if_pos hs]]
        refine Or.inl ⟨(2, op, tm, oa, min (m + 1) 17, d), ?_, rfl, ⟨pt, bs, sl, _, hpt, hbs, ⟨hsl.1, hsl.2.1, fun h => by simp at h⟩, (hP3 53 (by decide) (by omega) (by omega) (by omega) (by omega)).trans h53, hP2, (hP3 110 (by decide) (by omega) (by omega) (by omega) (by omega)).trans h110, (hP3 111 (by decide) (by omega) (by omega) (by omega) (by omega)).trans h111, hst _ ?_, hP1, xPT_mv (hP3 55 (by decide) (by omega) (by omega) (by omega) (by omega)) (hP3 56 (by decide) (by omega) (by omega) (by omega) (by omega)) hPT, ?_, fun p a1 a2 a3 a4 a5 a6 a7 a8 a9 a10 a11 => (hP3 p a8 a4 a5 a6 a7).trans (hfr p a1 a2 a3 a4 a5 a6 a7 a8 a9 a10 a11)⟩, (hP3 112 (by decide) (by omega) (by omega) (by omega) (by omega))⟩
        · simp only [xstep]; rw [if_neg hw]; unfold xeos; rw [if_pos hs]
        · simp only [xstep]; rw [if_neg hw]; unfold xeos; rw [if_pos hs]
        · refine ⟨fun h => by dsimp only at h; omega, fun hl => ⟨fun h => by dsimp only at h; omega, fun hm => ?_⟩⟩
          have hl2 : (K ++ C.2.2.1).length ≤ 208 := hl
          dsimp only at hm
          show B9 ++ [(bs, pt, -1)] = C.2.2.2 ++ [(C.1, ((K ++ C.2.2.1).length : Int), -1)]
          rw [← (hct.2 hl2).2 (show m ≤ 16 by omega), ← (hct.2 hl2).1 (show (4 : Nat) ≤ 6 by omega) (show (6 : Nat) ≤ 6 by omega), hpl hl2]
      · by_cases hcl : 0 < op ∧ (ki = 3 ∧ sg = 41)
        · have k1 := b8 (op - 1).toNat (by omega)
          have k2 := b6 (op - 1).toNat
          have k3 := b7 (op - 1).toNat
          refine x_call [_] rfl rfl (show (0 : Nat) ≤ 8 from by decide) (show (1 : Nat) ≤ 1 from by decide) (x_rcv (by decide) h109) (xs_56c h109 h112 hki hsg hc h53 hpt hbs h110 h111 b4 b5 b2 hd hs hcl.1 hcl.2 ⟨k3.1, by omega⟩ ⟨by omega, by omega⟩) (fun r' f' hP => ?_)
          obtain ⟨rfl, hP2, hP1, hP3⟩ := hP
          refine x_ifeq (t := 102) rfl rfl (by decide) (fun h => absurd h (by decide)) (fun _ => ?_)
          refine x_iconst rfl ?_
          refine x_goto (t := 103) rfl rfl ?_
          refine x_ireturn rfl (Or.inr (Or.inl ⟨rfl, by decide⟩)) ⟨_, _, rfl, rfl, ?_⟩
          rw [show xcst K G ki di sg (xS wo) (xAt wo) (xfn nm wo c 0) (6, op, tm, oa, m, d) C = xcrp op tm oa (xcap K C) by simp only [xcst]; rw [if_neg hw]; unfold xceos; rw [if_neg hs]]
          refine Or.inl ⟨(7, op - 1, tm, oa, min (min (m + 1) 17 + (tm.getD (op - 1).toNat 0 - 1) * (min (m + 1) 17 - oa.getD (op - 1).toNat 0)) 17, d), ?_, rfl, ⟨pt, bs, sl, _, hpt, hbs, ⟨hsl.1, hsl.2.1, fun h => by simp at h⟩, (hP3 53 (by decide) (by omega) (by omega) (by omega) (by omega)).trans h53, hP2, (hP3 110 (by decide) (by omega) (by omega) (by omega) (by omega)).trans h110, (hP3 111 (by decide) (by omega) (by omega) (by omega) (by omega)).trans h111, hst _ ?_, hP1, xPT_mv (hP3 55 (by decide) (by omega) (by omega) (by omega) (by omega)) (hP3 56 (by decide) (by omega) (by omega) (by omega) (by omega)) hPT, ?_, fun p a1 a2 a3 a4 a5 a6 a7 a8 a9 a10 a11 => (hP3 p a8 a4 a5 a6 a7).trans (hfr p a1 a2 a3 a4 a5 a6 a7 a8 a9 a10 a11)⟩, (hP3 112 (by decide) (by omega) (by omega) (by omega) (by omega))⟩
          · simp only [xstep]; rw [if_neg hw]; unfold xeos; rw [if_neg hs, if_neg (by omega), if_pos hcl.2]
          · simp only [xstep]; rw [if_neg hw]; unfold xeos; rw [if_neg hs, if_neg (by omega), if_pos hcl.2]
          · refine ⟨fun h => by dsimp only at h; omega, fun hl => ⟨fun h => by dsimp only at h; omega, fun hm => ?_⟩⟩
            have hl2 : (K ++ C.2.2.1).length ≤ 208 := hl
            dsimp only at hm
            have hnn : 0 ≤ (tm.getD (op - 1).toNat 0 - 1) * (min (m + 1) 17 - oa.getD (op - 1).toNat 0) := Int.mul_nonneg (by omega) (by omega)
            have hm16 : m ≤ 15 := by omega
            have hB : B9 ++ [(bs, pt, -1)] = C.2.2.2 ++ [(C.1, ((K ++ C.2.2.1).length : Int), -1)] := by rw [← (hct.2 hl2).2 (show m ≤ 16 by omega), ← (hct.2 hl2).1 (show (4 : Nat) ≤ 6 by omega) (show (6 : Nat) ≤ 6 by omega), hpl hl2]
            have hln : ((C.2.2.2 ++ [(C.1, ((K ++ C.2.2.1).length : Int), -1)]).length : Int) = min (m + 1) 17 := by rw [← hB, List.length_append, List.length_singleton]; have := hBl (by omega); omega
            show _ = (C.2.2.2 ++ [(C.1, ((K ++ C.2.2.1).length : Int), -1)]) ++ xrd0 (C.2.2.2 ++ [(C.1, ((K ++ C.2.2.1).length : Int), -1)]) (oa.getD (op - 1).toNat 0).toNat (((C.2.2.2 ++ [(C.1, ((K ++ C.2.2.1).length : Int), -1)]).length : Int) - oa.getD (op - 1).toNat 0) (tm.getD (op - 1).toNat 0 - 1).toNat
            rw [hln, ← hB]
        · skip
          refine x_call [_] rfl rfl (show (0 : Nat) ≤ 8 from by decide) (show (1 : Nat) ≤ 1 from by decide) (x_rcv (by decide) h109) (xs_56f h109 h112 hki hsg hc h53 hpt hbs h110 h111 b4 b5 b2 hd hs (by omega)) (fun r' f' hP => ?_)
          obtain ⟨rfl, hP2, hP1, hP3⟩ := hP
          refine x_ifeq (t := 102) rfl rfl (by decide) (fun _ => ?_) (fun h => absurd rfl h)
          refine x_iconst rfl ?_
          refine x_ireturn rfl (Or.inr (Or.inl ⟨rfl, by decide⟩)) ⟨_, _, rfl, rfl, ?_⟩
          refine Or.inr ⟨?_, rfl, ⟨pt, op, _, bs, sl, _, d, tm, oa, nmd, _, _, ⟨hpt, hbs, hsl.1, hsl.2.1⟩, (hP3 53 (by omega) (by omega) (by omega) (by omega)).trans h53, hP2, (hP3 110 (by omega) (by omega) (by omega) (by omega)).trans h110, (hP3 111 (by omega) (by omega) (by omega) (by omega)).trans h111, b4, b5, b6, b7, hP1, xPT_mv (hP3 55 (by omega) (by omega) (by omega) (by omega)) (hP3 56 (by omega) (by omega) (by omega) (by omega)) hPT, fun p a1 a2 a3 a4 a5 a6 a7 a8 a9 a10 a11 => (hP3 p a4 a5 a6 a7).trans (hfr p a1 a2 a3 a4 a5 a6 a7 a8 a9 a10 a11)⟩, (hP3 112 (by omega) (by omega) (by omega) (by omega))⟩
          simp only [xstep]; rw [if_neg hw]; unfold xeos; rw [if_neg hs]
          by_cases h0 : op = 0
          · rw [if_pos h0]
          · rw [if_neg h0, if_neg (by omega)]
  | 7, _ =>
    refine x_aload_n rfl rfl ?_
    refine x_getfield rfl (by decide) h109 rfl ?_
    refine x_sw (t := 104) rfl (by decide) rfl rfl ?_
    refine x_aload_n rfl rfl ?_
    by_cases hs : ki = 3 ∧ sg = 59
    · skip
      refine x_call [_] rfl rfl (show (0 : Nat) ≤ 8 from by decide) (show (1 : Nat) ≤ 1 from by decide) (x_rcv (by decide) h109) (xs_55s h109 h112 hki hsg hs) (fun r' f' hP => ?_)
      obtain ⟨rfl, rfl⟩ := hP
      refine x_ireturn rfl (Or.inr (Or.inl ⟨rfl, by decide⟩)) ⟨_, _, rfl, rfl, ?_⟩
      rw [show xcst K G ki di sg (xS wo) (xAt wo) (xfn nm wo c 0) (7, op, tm, oa, m, d) C = C by simp only [xcst]; unfold xceos; rw [if_pos hs]]
      refine Or.inl ⟨(2, op, tm, oa, m, d), ?_, rfl, ⟨pt, bs, sl, _, hpt, hbs, ⟨hsl.1, hsl.2.1, fun h => by simp at h⟩, xu_ne (by decide) h53, xu_eq, xu_ne (by decide) h110, xu_ne (by decide) h111, hst _ ?_, xDR_mv (fun p p1 p2 => xu_ne (by omega) rfl) hd, xPT_mv (xu_ne (by decide) rfl) (xu_ne (by decide) rfl) hPT, ?_, fun p a1 a2 a3 a4 a5 a6 a7 a8 a9 a10 a11 => (xu_ne a8 rfl).trans (hfr p a1 a2 a3 a4 a5 a6 a7 a8 a9 a10 a11)⟩, xu_ne (by decide) rfl⟩
      · simp only [xstep]; unfold xeos; rw [if_pos hs]
      · simp only [xstep]; unfold xeos; rw [if_pos hs]
      · exact ⟨fun h => by dsimp only at h; omega, fun hl => ⟨fun h => by dsimp only at h; omega, fun hm => (hct.2 hl).2 hm⟩⟩
    · by_cases hcl : 0 < op ∧ (ki = 3 ∧ sg = 41)
      · have k1 := b8 (op - 1).toNat (by omega)
        have k2 := b6 (op - 1).toNat
        have k3 := b7 (op - 1).toNat
        refine x_call [_] rfl rfl (show (0 : Nat) ≤ 8 from by decide) (show (1 : Nat) ≤ 1 from by decide) (x_rcv (by decide) h109) (xs_55c h109 h112 hki hsg hc h110 h111 b4 b5 b2 hd hs hcl.1 hcl.2 ⟨k3.1, by omega⟩ ⟨by omega, by omega⟩) (fun r' f' hP => ?_)
        obtain ⟨rfl, hP2, hP1, hP3⟩ := hP
        refine x_ireturn rfl (Or.inr (Or.inl ⟨rfl, by decide⟩)) ⟨_, _, rfl, rfl, ?_⟩
        rw [show xcst K G ki di sg (xS wo) (xAt wo) (xfn nm wo c 0) (7, op, tm, oa, m, d) C = xcrp op tm oa C by simp only [xcst]; unfold xceos; rw [if_neg hs]]
        refine Or.inl ⟨(7, op - 1, tm, oa, min (m + (tm.getD (op - 1).toNat 0 - 1) * (m - oa.getD (op - 1).toNat 0)) 17, d), ?_, rfl, ⟨pt, bs, sl, _, hpt, hbs, ⟨hsl.1, hsl.2.1, fun h => by simp at h⟩, (hP3 53 (by decide) (by omega) (by omega) (by omega) (by omega)).trans h53, hP2, (hP3 110 (by decide) (by omega) (by omega) (by omega) (by omega)).trans h110, (hP3 111 (by decide) (by omega) (by omega) (by omega) (by omega)).trans h111, hst _ ?_, hP1, xPT_mv (hP3 55 (by decide) (by omega) (by omega) (by omega) (by omega)) (hP3 56 (by decide) (by omega) (by omega) (by omega) (by omega)) hPT, ?_, fun p a1 a2 a3 a4 a5 a6 a7 a8 a9 a10 a11 => (hP3 p a8 a4 a5 a6 a7).trans (hfr p a1 a2 a3 a4 a5 a6 a7 a8 a9 a10 a11)⟩, (hP3 112 (by decide) (by omega) (by omega) (by omega) (by omega))⟩
        · simp only [xstep]; unfold xeos; rw [if_neg hs, if_neg (by omega), if_pos hcl.2]
        · simp only [xstep]; unfold xeos; rw [if_neg hs, if_neg (by omega), if_pos hcl.2]
        · refine ⟨fun h => by dsimp only at h; omega, fun hl => ⟨fun h => by dsimp only at h; omega, fun hm => ?_⟩⟩
          have hl2 : (K ++ C.2.2.1).length ≤ 208 := hl
          dsimp only at hm
          have hnn : 0 ≤ (tm.getD (op - 1).toNat 0 - 1) * (m - oa.getD (op - 1).toNat 0) := Int.mul_nonneg (by omega) (by omega)
          show _ = C.2.2.2 ++ xrd0 C.2.2.2 (oa.getD (op - 1).toNat 0).toNat ((C.2.2.2.length : Int) - oa.getD (op - 1).toNat 0) (tm.getD (op - 1).toNat 0 - 1).toNat
          rw [← (hct.2 hl2).2 (show m ≤ 16 by omega), hBl (by omega)]
      · skip
        refine x_call [_] rfl rfl (show (0 : Nat) ≤ 8 from by decide) (show (1 : Nat) ≤ 1 from by decide) (x_rcv (by decide) h109) (xs_55f h109 h112 hki hsg b2 hs (by omega)) (fun r' f' hP => ?_)
        obtain ⟨rfl, rfl⟩ := hP
        refine x_ireturn rfl (Or.inr (Or.inl ⟨rfl, by decide⟩)) ⟨_, _, rfl, rfl, ?_⟩
        refine Or.inr ⟨?_, rfl, xSC_W hsc0, rfl⟩
        simp only [xstep]; unfold xeos; rw [if_neg hs]
        by_cases h0 : op = 0
        · rw [if_pos h0]
        · rw [if_neg h0, if_neg (by omega)]
end
section
/-! The class reads a text: the grammar's run. -/
def xtf (cs : List Int) (n p : Nat) : Int × Nat × Nat := if xskip xbl cs n p = n then (0, n, n) else if xlt (cs.getD (xskip xbl cs n p) 0) = true then (1, xskip xbl cs n p, xskip xlt cs n (xskip xbl cs n p)) else if xdg (cs.getD (xskip xbl cs n p) 0) = true then (2, xskip xbl cs n p, xskip xdg cs n (xskip xbl cs n p)) else (3, xskip xbl cs n p, xskip xbl cs n p + 1)
theorem xtf_eq {cs : List Int} {n p : Nat} {ki : Int} {s e : Nat} (h : xTK cs n p ki s e) : xtf cs n p = (ki, s, e) := by
  obtain ⟨h1, h2⟩ := h
  unfold xtf
  rw [← h1]
  rcases h2 with ⟨a, rfl, rfl⟩ | ⟨a, b, rfl, rfl⟩ | ⟨a, b, c, rfl, rfl⟩ | ⟨a, b, c, rfl, rfl⟩
  · rw [if_pos a, a]
  · rw [if_neg (by omega), if_pos b]
  · rw [if_neg (by omega), if_neg (by rw [b]; decide), if_pos c]
  · rw [if_neg (by omega), if_neg (by rw [b]; decide), if_neg (by rw [c]; decide)]
/-- every token but the end takes a character -/
theorem xTK_rg {cs : List Int} {n p : Nat} {ki : Int} {s e : Nat} (h : xTK cs n p ki s e) (hp : p ≤ n) : p ≤ s ∧ s ≤ n ∧ s ≤ e ∧ e ≤ n ∧ (0 ≤ ki ∧ ki ≤ 3) ∧ (ki ≠ 0 → s < e) ∧ (ki = 0 → s = n) := by
  obtain ⟨h1, h2⟩ := h
  have a1 : p ≤ s := by rw [h1]; exact xskip_ge
  have a2 : s ≤ n := by rw [h1]; exact xskip_le hp
  rcases h2 with ⟨a, rfl, rfl⟩ | ⟨a, b, rfl, rfl⟩ | ⟨a, b, c, rfl, rfl⟩ | ⟨a, b, c, rfl, rfl⟩
  · exact ⟨a1, a2, a2, Nat.le_refl _, by decide, fun h => absurd rfl h, fun _ => a⟩
  · have k1 := xskip_s (P := xlt) a b
    have k2 : s + 1 ≤ xskip xlt cs n (s + 1) := xskip_ge
    have k3 : xskip xlt cs n s ≤ n := xskip_le a2
    exact ⟨a1, a2, by omega, k3, by decide, fun _ => by omega, fun h => absurd h (by decide)⟩
  · have k1 := xskip_s (P := xdg) a c
    have k2 : s + 1 ≤ xskip xdg cs n (s + 1) := xskip_ge
    have k3 : xskip xdg cs n s ≤ n := xskip_le a2
    exact ⟨a1, a2, by omega, k3, by decide, fun _ => by omega, fun h => absurd h (by decide)⟩
  · exact ⟨a1, a2, by omega, by omega, by decide, fun _ => by omega, fun h => absurd h (by decide)⟩
def xtq (cs : List Int) (nms : List (List Int)) (bc dp : Nat → Int) (t : Int × Nat × Nat) (q : xA) : Option xA := xstep bc dp t.1 (if t.2.2 - t.2.1 > 1 then -1 else cs.getD t.2.1 0 - 48) (cs.getD t.2.1 0) (xfi (xwd cs t.2.1 t.2.2) selW 0) (xfi (xwd cs t.2.1 t.2.2) atW 0) (xfi (xwd cs t.2.1 t.2.2) nms 0) (xwd cs t.2.1 t.2.2).isNone q
def xfo (n : Nat) (r : Option (Int × Int)) : Int ⊕ (Int × Int) := match r with
  | none => .inl ((n : Nat) : Int)
  | some t => .inr t
def xgo (cs : List Int) (n : Nat) (nms : List (List Int)) (bc dp : Nat → Int) : Nat → Nat → xA → Int ⊕ (Int × Int)
  | 0, _, _ => .inl 0
  | k + 1, p, q => if (xtf cs n p).1 = 0 then xfo n (xfin q) else match xtq cs nms bc dp (xtf cs n p) q with
    | none => .inl (((xtf cs n p).2.1 : Nat) : Int)
    | some q' => xgo cs n nms bc dp k (xtf cs n p).2.2 q'
/-- a token's content -/
def xtc (K : List (Int × Int)) (G : Nat → List xBt) (cs : List Int) (nms : List (List Int)) (t : Int × Nat × Nat) (q : xA) (C : xC) : xC := xcst K G t.1 (if t.2.2 - t.2.1 > 1 then -1 else cs.getD t.2.1 0 - 48) (cs.getD t.2.1 0) (xfi (xwd cs t.2.1 t.2.2) selW 0) (xfi (xwd cs t.2.1 t.2.2) atW 0) (xfi (xwd cs t.2.1 t.2.2) nms 0) q C
/-- a text's content -/
def xgc (K : List (Int × Int)) (G : Nat → List xBt) (cs : List Int) (n : Nat) (nms : List (List Int)) (bc dp : Nat → Int) : Nat → Nat → xA → xC → xC
  | 0, _, _, C => C
  | k + 1, p, q, C => if (xtf cs n p).1 = 0 then (if q.1 = 6 then xcap K C else C) else match xtq cs nms bc dp (xtf cs n p) q with
    | none => (0, 0, [], [])
    | some q' => xgc K G cs n nms bc dp k (xtf cs n p).2.2 q' (xtc K G cs nms (xtf cs n p) q C)
theorem xcst_congr {K : List (Int × Int)} {G : Nat → List xBt} {ki di sg sl at' ol di2 sg2 sl2 at2 ol2 : Int} {q : xA} {C : xC} (h1 : ki = 1 → sl = sl2 ∧ at' = at2 ∧ ol = ol2) (h2 : ki = 2 → di = di2) (h3 : ki = 3 → sg = sg2) : xcst K G ki di sg sl at' ol q C = xcst K G ki di2 sg2 sl2 at2 ol2 q C := by
  by_cases k1 : ki = 1
  · obtain ⟨rfl, rfl, rfl⟩ := h1 k1
    subst k1
    unfold xcst xceos
    split <;> simp
  · by_cases k2 : ki = 2
    · have := h2 k2
      subst this
      subst k2
      unfold xcst xceos
      split <;> simp
    · by_cases k3 : ki = 3
      · have := h3 k3
        subst this
        subst k3
        unfold xcst xceos
        split <;> simp
      · unfold xcst xceos
        split <;> simp [k1, k2, k3]
theorem xstep_congr {bc dp : Nat → Int} {ki di sg sl at' ol di2 sg2 sl2 at2 ol2 : Int} {lg lg2 : Bool} {q : xA} (h1 : ki = 1 → sl = sl2 ∧ at' = at2 ∧ ol = ol2 ∧ lg = lg2) (h2 : ki = 2 → di = di2) (h3 : ki = 3 → sg = sg2) : xstep bc dp ki di sg sl at' ol lg q = xstep bc dp ki di2 sg2 sl2 at2 ol2 lg2 q := by
  by_cases k1 : ki = 1
  · obtain ⟨rfl, rfl, rfl, rfl⟩ := h1 k1
    subst k1
    unfold xstep xeos
    split <;> simp
  · by_cases k2 : ki = 2
    · have := h2 k2
      subst this
      subst k2
      unfold xstep xeos
      split <;> simp
    · by_cases k3 : ki = 3
      · have := h3 k3
        subst this
        subst k3
        unfold xstep xeos
        split <;> simp
      · unfold xstep xeos
        split <;> simp [k1, k2, k3]
theorem xstep_ne0 {bc dp : Nat → Int} {ki di sg sl at' ol : Int} {lg : Bool} {q q' : xA} (h : xstep bc dp ki di sg sl at' ol lg q = some q') : q'.1 ≠ 0 := by
  unfold xstep xeos at h
  split at h
  all_goals (repeat' split at h)
  all_goals first | (cases h; done) | (cases h; dsimp only; decide)
theorem xfL_rg {W : Int64} : ∀ (l : List Int) (i : Int), 0 ≤ i → xfL W l i ≤ i + l.length - 1 ∨ xfL W l i = -1 := by
  intro l
  induction l with
  | nil => intro i _; exact Or.inr rfl
  | cons p r ih =>
    intro i hi
    simp only [xfL, List.length_cons]
    split
    · omega
    · have := ih (i + 1) (by omega)
      omega
theorem xS_12 (wo : Int64) : xS wo ≤ 12 := by
  unfold xS
  rw [xix5]
  have := xfL_rg (W := wo) (selW.map fun w => xpr w.reverse) 0 (by decide)
  have e : (selW.map fun w => xpr w.reverse).length = 13 := rfl
  rw [e] at this
  omega
theorem xAt_6 (wo : Int64) : xAt wo ≤ 6 := by
  unfold xAt
  rw [xix6]
  have := xfL_rg (W := wo) (atW.map fun w => xpr w.reverse) 0 (by decide)
  have e : (atW.map fun w => xpr w.reverse).length = 7 := rfl
  rw [e] at this
  omega
theorem xwd_wo {cs : List Int} {n s : Nat} : xwo (xwd cs s (xskip xlt cs n s)) := by
  intro l hl
  unfold xwd at hl
  split at hl
  · cases hl
  · cases hl
    refine ⟨by simp [xds]; omega, fun d hd => ?_⟩
    obtain ⟨i, h1, rfl⟩ := List.mem_map.mp hd
    have h2 := xlt_iff.mp (xskip_in (P := xlt) (cs := cs) (n := n) (p := s) (j := s + i) (by omega) (by have := List.mem_range.mp h1; omega))
    omega
theorem xwd_L {cs : List Int} {s e : Nat} : (if e - s > 8 then 0 else xpk cs s (e - s)) = xwL (xwd cs s e) := by
  unfold xwd
  split
  · rfl
  · exact xpk_xpr cs s (e - s)
theorem xwd_ne {cs : List Int} {s e : Nat} (h : s < e) : xwd cs s e ≠ some [] := by
  unfold xwd
  split
  · intro h; cases h
  · intro h2
    have : (xds cs s (e - s)).length = 0 := by rw [Option.some.inj h2]; rfl
    simp [xds] at this
    omega
/-- the class's step is the grammar's -/
theorem xtk_C {cs : List Int} {n p s e : Nat} {ki di sg : Int} {wo : Int64} {nms : List (List Int)} {nm : Nat → Int64} (hp : p ≤ n) (ht : xTK cs n p ki s e) (hc : xTC cs ki s e wo di sg) (hw : ∀ w ∈ nms, xwf w) (hnm : ∀ i (h : i < nms.length), nm i = Int64.ofInt (xpr (nms[i]).reverse)) (h1 : ki = 1) : xS wo = xfi (xwd cs s e) selW 0 ∧ xAt wo = xfi (xwd cs s e) atW 0 ∧ xfn nm wo nms.length 0 = xfi (xwd cs s e) nms 0 ∧ decide (wo = 0) = (xwd cs s e).isNone := by
  have hr := xTK_rg ht hp
  have he : e = xskip xlt cs n s := by
    rcases ht.2 with ⟨a, rfl, rfl⟩ | ⟨a, b, rfl, rfl⟩ | ⟨a, b, c, rfl, rfl⟩ | ⟨a, b, c, rfl, rfl⟩
    · exact absurd h1 (by decide)
    · rfl
    · exact absurd h1 (by decide)
    · exact absurd h1 (by decide)
  have hwo : wo = Int64.ofInt (xwL (xwd cs s e)) := by rw [hc.1 h1, xwd_L]
  have hx : xwo (xwd cs s e) := by rw [he]; exact xwd_wo
  have hne := xwd_ne (cs := cs) (hr.2.2.2.2.2.1 (by omega))
  rw [hwo]
  refine ⟨xS_eq hx, xAt_eq hx, ?_, ?_⟩
  · have := xfn_eq hx hw hnm nms.length 0 rfl
    rw [List.drop_zero] at this
    exact this
  · cases hwd : xwd cs s e with
    | none =>
      rw [hwd] at hx hne
      simpa using (xw_0 hx hne).mpr rfl
    | some l =>
      rw [hwd] at hx hne
      simp only [Option.isNone_some, decide_eq_false_iff_not]
      intro h
      exact absurd ((xw_0 hx hne).mp h) (by simp)
theorem xtq_C {cs : List Int} {n p s e : Nat} {ki di sg : Int} {wo : Int64} {nms : List (List Int)} {nm : Nat → Int64} {bc dp : Nat → Int} {q : xA} (hp : p ≤ n) (ht : xTK cs n p ki s e) (hc : xTC cs ki s e wo di sg) (hw : ∀ w ∈ nms, xwf w) (hnm : ∀ i (h : i < nms.length), nm i = Int64.ofInt (xpr (nms[i]).reverse)) : xstep bc dp ki di sg (xS wo) (xAt wo) (xfn nm wo nms.length 0) (decide (wo = 0)) q = xtq cs nms bc dp (ki, s, e) q := by
  unfold xtq
  exact xstep_congr (fun h1 => xtk_C hp ht hc hw hnm h1) (fun h2 => hc.2.1 h2) (fun h3 => hc.2.2 h3)
theorem xtc_C {K : List (Int × Int)} {G : Nat → List xBt} {C : xC} {cs : List Int} {n p s e : Nat} {ki di sg : Int} {wo : Int64} {nms : List (List Int)} {nm : Nat → Int64} {q : xA} (hp : p ≤ n) (ht : xTK cs n p ki s e) (hc : xTC cs ki s e wo di sg) (hw : ∀ w ∈ nms, xwf w) (hnm : ∀ i (h : i < nms.length), nm i = Int64.ofInt (xpr (nms[i]).reverse)) : xcst K G ki di sg (xS wo) (xAt wo) (xfn nm wo nms.length 0) q C = xtc K G cs nms (ki, s, e) q C := by
  unfold xtc
  refine xcst_congr (fun h1 => ?_) (fun h2 => hc.2.1 h2) (fun h3 => hc.2.2 h3)
  obtain ⟨a, b, c, -⟩ := xtk_C hp ht hc hw hnm h1
  exact ⟨a, b, c⟩
theorem xs_58 {K : List (Int × Int)} {C : xC} {v0 : Value} {xs : List Int32} {u : Nat × Nat} {f0 f : Nat → zE} {c : Nat} {kp : Int} {nmd : Int64} {al : Value} {q : xA} (hc : c ≤ 12) (hsc : xSC f0 K c kp f nmd al q C) : xq v0 xs u 58 [(0, .ref 109)] f (fun r f' => f' 112 = f 112 ∧ ∃ q', q' = (if q.1 = 6 then (7, q.2.1, q.2.2.1, q.2.2.2.1, min (q.2.2.2.2.1 + 1) 17, q.2.2.2.2.2) else q) ∧ xSC f0 K c kp f' nmd al q' (if q.1 = 6 then xcap K C else C) ∧ r = some (xi (if q'.1 = 7 ∧ q'.2.1 = 0 then 1 else 0))) := by
  unfold xq
  have hsc0 := hsc
  obtain ⟨ex, op, tm, oa, m, d⟩ := q
  obtain ⟨pt, bs, sl, B9, hpt, hbs, hsl, h53, h109, h110, h111, hbr, hd, hPT, hct, hfr⟩ := hsc
  dsimp only at h109 h110 h111 hd hsl
  have hbr0 := hbr
  obtain ⟨b1, b2, b3, b4, b5, b6, b7, b8, b9, b10⟩ := hbr0
  dsimp only at b1 b2 b3 b4 b5 b6 b7 b8 b9 b10
  have hd0 := hd
  obtain ⟨hm1, hm2, fp, ep, ta, h0, h1, h2, h3, hty⟩ := hd0
  dsimp only
  refine x_aload_n rfl rfl ?_
  refine x_getfield rfl (by decide) h109 rfl ?_
  refine x_bipush rfl (by decide) ?_
  refine x_cne (t := 33) rfl rfl ⟨by omega, by omega⟩ ⟨by omega, by omega⟩ (fun hb6 => ?_) (fun hb6 => ?_)
  · refine x_aload_n rfl rfl ?_
    refine x_getfield rfl (by decide) h109 rfl ?_
    refine x_bipush rfl (by decide) ?_
    refine x_cne (t := 53) rfl rfl ⟨by omega, by omega⟩ ⟨by omega, by omega⟩ (fun hb39 => ?_) (fun hb39 => ?_)
    · refine x_iconst rfl ?_
      refine x_ireturn rfl (Or.inr (Or.inl ⟨rfl, by decide⟩)) ⟨_, _, rfl, rfl, ?_⟩
      refine ⟨rfl, _, rfl, ?_, ?_⟩
      · rw [if_neg (by omega), if_neg (show ¬ ex = 6 by omega)]; exact hsc0
      · rw [if_neg (by omega : ¬ ex = 6)]; dsimp only; rw [if_neg (by omega)]
    · refine x_aload_n rfl rfl ?_
      refine x_getfield rfl (by decide) h109 rfl ?_
      refine x_ifne (t := 53) rfl rfl ⟨by omega, by omega⟩ (fun hb46 => ?_) (fun hb46 => ?_)
      · refine x_iconst rfl ?_
        refine x_ireturn rfl (Or.inr (Or.inl ⟨rfl, by decide⟩)) ⟨_, _, rfl, rfl, ?_⟩
        refine ⟨rfl, _, rfl, ?_, ?_⟩
        · rw [if_neg (by omega), if_neg (show ¬ ex = 6 by omega)]; exact hsc0
        · rw [if_neg (by omega : ¬ ex = 6)]; dsimp only; rw [if_neg (by omega)]
      · refine x_iconst rfl ?_
        refine x_goto (t := 54) rfl rfl ?_
        refine x_ireturn rfl (Or.inr (Or.inl ⟨rfl, by decide⟩)) ⟨_, _, rfl, rfl, ?_⟩
        refine ⟨rfl, _, rfl, ?_, ?_⟩
        · rw [if_neg (by omega), if_neg (show ¬ ex = 6 by omega)]; exact hsc0
        · rw [if_neg (by omega : ¬ ex = 6)]; dsimp only; rw [if_pos (by omega)]
  · refine x_aload_n rfl rfl ?_
    refine x_getfield rfl (by decide) h109 rfl ?_
    refine x_aload_n rfl rfl ?_
    refine x_getfield rfl (by decide) h109 rfl ?_
    refine x_aload_n rfl rfl ?_
    refine x_getfield rfl (by decide) h109 rfl ?_
    refine x_getfield rfl (by decide) h53 rfl ?_
    refine x_call [_, _, _] rfl rfl (show (0 : Nat) ≤ 8 from by decide) (show (3 : Nat) ≤ 3 from by decide) (x_rcv (by omega) h0) (xs_53 hc hd hbs hpt) (fun r' f' hP => ?_)
    obtain ⟨rfl, hQ1, hQ2⟩ := hP
    refine x_aload_n rfl rfl ?_
    refine x_bipush rfl (by decide) ?_
    refine x_putfield rfl (by decide) ((hQ2 109 (by omega) (by omega) (by omega) (by omega)).trans h109) (show (7 : Nat) < 10 from by decide) rfl ?_
    refine x_aload_n rfl rfl ?_
    refine x_getfield rfl (by decide) xu_eq rfl ?_
    refine x_bipush rfl (by decide) ?_
    refine x_cne (t := 53) rfl rfl ⟨by omega, by omega⟩ ⟨by omega, by omega⟩ (fun hb39 => ?_) (fun hb39 => ?_)
    · refine x_iconst rfl ?_
      refine x_ireturn rfl (Or.inr (Or.inl ⟨rfl, by decide⟩)) ⟨_, _, rfl, rfl, ?_⟩
      exfalso; omega
    · refine x_aload_n rfl rfl ?_
      refine x_getfield rfl (by decide) xu_eq rfl ?_
      refine x_ifne (t := 53) rfl rfl ⟨by omega, by omega⟩ (fun hb46 => ?_) (fun hb46 => ?_)
      · refine x_iconst rfl ?_
        refine x_ireturn rfl (Or.inr (Or.inl ⟨rfl, by decide⟩)) ⟨_, _, rfl, rfl, ?_⟩
        refine ⟨xu_ne (by decide) (hQ2 112 (by omega) (by omega) (by omega) (by omega)), _, rfl, ?_, ?_⟩
        · rw [if_pos (by omega), if_pos (show ex = 6 by omega)]
          refine ⟨pt, bs, sl, _, hpt, hbs, ⟨hsl.1, hsl.2.1, fun h => by simp at h⟩, xu_ne (by decide) ((hQ2 53 (by omega) (by omega) (by omega) (by omega)).trans h53), xu_eq, xu_ne (by decide) ((hQ2 110 (by omega) (by omega) (by omega) (by omega)).trans h110), xu_ne (by decide) ((hQ2 111 (by omega) (by omega) (by omega) (by omega)).trans h111), ?_, xDR_mv (fun p p1 p2 => xu_ne (by omega) rfl) hQ1, xPT_mv (xu_ne (by decide) (hQ2 55 (by omega) (by omega) (by omega) (by omega))) (xu_ne (by decide) (hQ2 56 (by omega) (by omega) (by omega) (by omega))) hPT, ?_, fun p a1 a2 a3 a4 a5 a6 a7 a8 a9 a10 a11 => xu_ne a8 ((hQ2 p a4 a5 a6 a7).trans (hfr p a1 a2 a3 a4 a5 a6 a7 a8 a9 a10 a11))⟩
          · refine ⟨by dsimp only; decide, b2, fun h => by simp at h, b4, b5, b6, b7, fun j hj => ?_, by dsimp only; omega, b10⟩
            dsimp only at hj ⊢
            have := b8 j hj
            omega
          · refine ⟨fun h => by dsimp only at h; omega, fun hl => ⟨fun _ h => by dsimp only at h; omega, fun hm => ?_⟩⟩
            have hl2 : (K ++ C.2.2.1).length ≤ 208 := hl
            have hpl : ((K ++ C.2.2.1).length : Int) = pt := by
              obtain ⟨se, at', -, -, -, -, -, -, -, -, h⟩ := hPT
              exact (h hl2).1
            dsimp only at hm
            show B9 ++ [(bs, pt, -1)] = C.2.2.2 ++ [(C.1, ((K ++ C.2.2.1).length : Int), -1)]
            rw [← (hct.2 hl2).2 (show m ≤ 16 by omega), ← (hct.2 hl2).1 (show 4 ≤ ex by omega) (show ex ≤ 6 by omega), hpl]
        · rw [if_pos (by omega : ex = 6)]; dsimp only; rw [if_neg (by omega)]
      · refine x_iconst rfl ?_
        refine x_goto (t := 54) rfl rfl ?_
        refine x_ireturn rfl (Or.inr (Or.inl ⟨rfl, by decide⟩)) ⟨_, _, rfl, rfl, ?_⟩
        refine ⟨xu_ne (by decide) (hQ2 112 (by omega) (by omega) (by omega) (by omega)), _, rfl, ?_, ?_⟩
        · rw [if_pos (by omega), if_pos (show ex = 6 by omega)]
          refine ⟨pt, bs, sl, _, hpt, hbs, ⟨hsl.1, hsl.2.1, fun h => by simp at h⟩, xu_ne (by decide) ((hQ2 53 (by omega) (by omega) (by omega) (by omega)).trans h53), xu_eq, xu_ne (by decide) ((hQ2 110 (by omega) (by omega) (by omega) (by omega)).trans h110), xu_ne (by decide) ((hQ2 111 (by omega) (by omega) (by omega) (by omega)).trans h111), ?_, xDR_mv (fun p p1 p2 => xu_ne (by omega) rfl) hQ1, xPT_mv (xu_ne (by decide) (hQ2 55 (by omega) (by omega) (by omega) (by omega))) (xu_ne (by decide) (hQ2 56 (by omega) (by omega) (by omega) (by omega))) hPT, ?_, fun p a1 a2 a3 a4 a5 a6 a7 a8 a9 a10 a11 => xu_ne a8 ((hQ2 p a4 a5 a6 a7).trans (hfr p a1 a2 a3 a4 a5 a6 a7 a8 a9 a10 a11))⟩
          · refine ⟨by dsimp only; decide, b2, fun h => by simp at h, b4, b5, b6, b7, fun j hj => ?_, by dsimp only; omega, b10⟩
            dsimp only at hj ⊢
            have := b8 j hj
            omega
          · refine ⟨fun h => by dsimp only at h; omega, fun hl => ⟨fun _ h => by dsimp only at h; omega, fun hm => ?_⟩⟩
            have hl2 : (K ++ C.2.2.1).length ≤ 208 := hl
            have hpl : ((K ++ C.2.2.1).length : Int) = pt := by
              obtain ⟨se, at', -, -, -, -, -, -, -, -, h⟩ := hPT
              exact (h hl2).1
            dsimp only at hm
            show B9 ++ [(bs, pt, -1)] = C.2.2.2 ++ [(C.1, ((K ++ C.2.2.1).length : Int), -1)]
            rw [← (hct.2 hl2).2 (show m ≤ 16 by omega), ← (hct.2 hl2).1 (show 4 ≤ ex by omega) (show ex ≤ 6 by omega), hpl]
        · rw [if_pos (by omega : ex = 6)]; dsimp only; rw [if_pos (by omega)]
theorem xs_5 {B : List xBt} {v0 : Value} {xs : List Int32} {u : Nat × Nat} {f : Nat → zE} {c : Nat} {kp pt : Int} {nmd : Int64} {m d : Int} {al : Value} (hc : c ≤ 12) (h53 : f 53 = xbo (c : Nat) kp pt) (h54 : f 54 = .inr (.inr (.inr (3, xfl)))) (hd : xDR B c f nmd m d al) : xq v0 xs u 5 [(0, .ref 53)] f (fun r f' => r = some (.ref (57 + 4 * c)) ∧ f' 53 = xbo (c : Nat) kp kp ∧ xDR [] c f' nmd 0 1 al ∧ ∀ p, p ≠ 53 → p ≠ 57 + 4 * c → p ≠ 58 + 4 * c → p ≠ 59 + 4 * c → p ≠ 60 + 4 * c → f' p = f p) := by
  unfold xq
  have hd0 := hd
  obtain ⟨hm1, hm2, fp, ep, ta, h0, h1, h2, h3, hty⟩ := hd0
  refine x_aload_n rfl rfl ?_
  refine x_aload_n rfl rfl ?_
  refine x_getfield rfl (by decide) h53 rfl ?_
  refine x_putfield rfl (by decide) h53 (show (5 : Nat) < 6 from by decide) rfl ?_
  refine x_aload_n rfl rfl ?_
  refine x_getfield rfl (by decide) xu_eq rfl ?_
  refine x_aload_n rfl rfl ?_
  refine x_getfield rfl (by decide) xu_eq rfl ?_
  refine x_aaload rfl (by decide) (xu_ne (by decide) h54) ⟨by omega, show ((c : Nat) : Int) < (13 : Nat) by omega⟩ (show (13 : Nat) ≤ 5000 by decide) (by rw [Int.toNat_natCast]; exact xfl_at (by omega)) ?_
  refine x_call [_] rfl rfl (show (0 : Nat) ≤ 8 from by decide) (show (1 : Nat) ≤ 1 from by decide) (x_rcv (by omega) (xu_ne (by omega) h0)) (xs_4 hc (xDR_mv (fun p p1 p2 => xu_ne (by omega) rfl) hd)) (fun r' f' hP => ?_)
  obtain ⟨rfl, hQ1, hQ2⟩ := hP
  refine x_aload_n rfl rfl ?_
  refine x_getfield rfl (by decide) ((hQ2 53 (by omega) (by omega) (by omega) (by omega)).trans xu_eq) rfl ?_
  refine x_aload_n rfl rfl ?_
  refine x_getfield rfl (by decide) ((hQ2 53 (by omega) (by omega) (by omega) (by omega)).trans xu_eq) rfl ?_
  refine x_aaload rfl (by decide) ((hQ2 54 (by omega) (by omega) (by omega) (by omega)).trans (xu_ne (by decide) h54)) ⟨by omega, show ((c : Nat) : Int) < (13 : Nat) by omega⟩ (show (13 : Nat) ≤ 5000 by decide) (by rw [Int.toNat_natCast]; exact xfl_at (by omega)) ?_
  refine x_areturn rfl ⟨_, _, rfl, rfl, ?_⟩
  exact ⟨rfl, (hQ2 53 (by omega) (by omega) (by omega) (by omega)).trans xu_eq, hQ1, fun p hp a1 a2 a3 a4 => (hQ2 p a1 a2 a3 a4).trans (xu_ne hp rfl)⟩
theorem xs_60e {K : List (Int × Int)} {C : xC} {v0 : Value} {xs : List Int32} {u : Nat × Nat} {f0 f : Nat → zE} {c n : Nat} {cs : List Int} {kp : Int} {nmd : Int64} {al : Value} {q : xA} {lv : zL} (hc : c ≤ 12) (hn : n ≤ 100) (h51 : f0 51 = .inl (1, [.ref 52, xi (n : Nat)])) (hsc : xSC f0 K c kp f nmd al q C) (h112 : ∃ (ki st en : Int) (wo : Int64) (di sg : Int), f 112 = xtk ki st en wo di sg) (hnm : q.1 ≠ 0 → nmd = (Int64.ofInt (xwL (xwd cs (xtf cs n 0).2.1 (xtf cs n 0).2.2)))) (h0 : zlv lv 0 = some (.ref 109)) : xz v0 xs u (fun o X => ∃ r f', o = .inl r ∧ X = (xh f', u) ∧ (fun r f' => (∃ (ki st en : Int) (wo : Int64) (di sg : Int), f' 112 = xtk ki st en wo di sg) ∧ ((∃ (b e : Int) (tm' oa' : List Int), xfo n (xfin q) = .inr (b, e) ∧ r = some (xi (-1)) ∧ b ≤ 16 ∧ e ≤ 6 ∧ xSC f0 K c kp f' (Int64.ofInt (xwL (xwd cs (xtf cs n 0).2.1 (xtf cs n 0).2.2))) al (7, 0, tm', oa', b, e) (if q.1 = 6 then xcap K C else C)) ∨ (∃ z : Int, xfo n (xfin q) = .inl z ∧ r = some (xi z) ∧ (0 ≤ z ∧ z ≤ 100) ∧ xSW f0 K c kp f' al))) r f') 60 77 lv [] f := by
  have hsc0 := hsc
  obtain ⟨ex, op, tm, oa, m, d⟩ := q
  obtain ⟨pt, bs, sl, B9, hpt, hbs, hsl, h53, h109, h110, h111, hbr, hd, hPT, hct, hfr⟩ := hsc
  dsimp only at h109
  refine x_aload_n rfl h0 ?_
  refine x_call [_] rfl rfl (show (0 : Nat) ≤ 8 from by decide) (show (1 : Nat) ≤ 1 from by decide) (x_rcv (by decide) h109) (xs_58 hc hsc0) (fun r' f' hP => ?_)
  obtain ⟨hk, q2, hq2, hsc2, rfl⟩ := hP
  have x112 : ∃ (ki st en : Int) (wo : Int64) (di sg : Int), f' 112 = xtk ki st en wo di sg := by
    obtain ⟨x1, x2, x3, x4, x5, x6, x7⟩ := h112
    exact ⟨x1, x2, x3, x4, x5, x6, hk.trans x7⟩
  have hsc3 := hsc2
  obtain ⟨ex2, op2, tm2, oa2, m2, d2⟩ := q2
  obtain ⟨pt2, bs2, sl2, B92, hpt2, hbs2, hsl2, g53, g109, g110, g111, gbr, gd, gPT, gct, gfr⟩ := hsc2
  dsimp only at g109 gd gbr ⊢
  have hb10 := gbr.2.2.2.2.2.2.2.2.2
  dsimp only at hb10
  have g51 : f' 51 = .inl (1, [.ref 52, xi (n : Nat)]) := (gfr 51 (by decide) (by decide) (by decide) (by omega) (by omega) (by omega) (by omega) (by decide) (by decide) (by decide) (by decide)).trans h51
  have hfin : xfin (ex, op, tm, oa, m, d) = (if ex2 = 7 ∧ op2 = 0 then (if m2 ≤ 16 ∧ d2 ≤ 6 then some (m2, d2) else none) else none) := by
    unfold xfin
    dsimp only at hq2 ⊢
    by_cases h6 : ex = 6
    · rw [if_pos h6] at hq2
      cases hq2
      simp [h6]
    · rw [if_neg h6] at hq2
      cases hq2
      simp [h6]
  rw [hfin]
  by_cases hw : ex2 = 7 ∧ op2 = 0
  · rw [if_pos hw, if_pos hw]
    refine x_ifeq (t := 98) rfl rfl (by decide) (fun h => absurd h (by decide)) (fun _ => ?_)
    refine x_aload_n rfl h0 ?_
    refine x_getfield rfl (by decide) g109 rfl ?_
    have gd0 := gd
    obtain ⟨hm1, hm2, fp, ep, ta, k0, k1, k2, k3, hty⟩ := gd0
    refine x_call [_] rfl rfl (show (0 : Nat) ≤ 8 from by decide) (show (1 : Nat) ≤ 1 from by decide) (x_rcv (by omega) k0) (xs_59 hc (by omega) gd) (fun r' f' hP => ?_)
    obtain ⟨rfl, rfl⟩ := hP
    by_cases hl : m2 ≤ 16 ∧ d2 ≤ 6
    · rw [if_pos hl, if_neg (show ¬ (16 < m2 ∨ 6 < d2) by omega)]
      refine x_ifne (t := 98) rfl rfl (by decide) (fun h => absurd rfl h) (fun _ => ?_)
      refine x_iconst rfl ?_
      refine x_goto (t := 105) rfl rfl ?_
      refine x_ireturn rfl (Or.inl rfl) ⟨_, _, rfl, rfl, ?_⟩
      obtain ⟨rfl, rfl⟩ := hw
      refine ⟨x112, Or.inl ⟨m2, d2, tm2, oa2, rfl, rfl, hl.1, hl.2, ?_⟩⟩
      have he : nmd = (Int64.ofInt (xwL (xwd cs (xtf cs n 0).2.1 (xtf cs n 0).2.2))) := hnm (by
        intro h0
        dsimp only at h0 hq2
        rw [if_neg (by omega)] at hq2
        cases hq2
        exact absurd h0 (by decide))
      rw [← he]; exact hsc3
    · rw [if_neg hl, if_pos (show 16 < m2 ∨ 6 < d2 by omega)]
      refine x_ifne (t := 98) rfl rfl (by decide) (fun _ => ?_) (fun h => absurd h (by decide))
      refine x_aload_n rfl h0 ?_
      refine x_getfield rfl (by decide) g109 rfl ?_
      refine x_getfield rfl (by decide) g51 rfl ?_
      refine x_ireturn rfl (Or.inl rfl) ⟨_, _, rfl, rfl, ?_⟩
      exact ⟨x112, Or.inr ⟨_, rfl, rfl, by omega, xSC_W hsc3⟩⟩
  · rw [if_neg hw, if_neg hw]
    refine x_ifeq (t := 98) rfl rfl (by decide) (fun _ => ?_) (fun h => absurd rfl h)
    refine x_aload_n rfl h0 ?_
    refine x_getfield rfl (by decide) g109 rfl ?_
    refine x_getfield rfl (by decide) g51 rfl ?_
    refine x_ireturn rfl (Or.inl rfl) ⟨_, _, rfl, rfl, ?_⟩
    exact ⟨x112, Or.inr ⟨_, rfl, rfl, by omega, xSC_W hsc3⟩⟩
theorem xs_60l {K : List (Int × Int)} {G : Nat → List xBt} {v0 : Value} {xs : List Int32} {u : Nat × Nat} {f0 : Nat → zE} {c n : Nat} {cs : List Int} {nms : List (List Int)} {kp : Int} {al : Value} {nm : Nat → Int64} {bc dp : Nat → Int} {av : Nat → Value} (hv : v0 = .null ∨ v0 = .ref 49) (hc : c ≤ 12) (hn : n ≤ 100) (hl : cs.length = 100) (hcs : ∀ j : Nat, 0 ≤ cs.getD j 0 ∧ cs.getD j 0 ≤ 126) (h51 : f0 51 = .inl (1, [.ref 52, xi (n : Nat)])) (h52 : f0 52 = xr 1 cs) (h54 : f0 54 = .inr (.inr (.inr (3, xfl)))) (hk0 : ∀ i, i < c → xKF (G i) i f0 (nm i) (bc i) (dp i) (av i)) (hdp : ∀ i, i < c → 1 ≤ dp i ∧ dp i ≤ 6) (hcl : nms.length = c) (hw : ∀ w ∈ nms, xwf w) (hnmi : ∀ i (h : i < nms.length), nm i = Int64.ofInt (xpr (nms[i]).reverse)) : ∀ (w i p : Nat) (f : Nat → zE) (lv : zL) (q : xA) (C : xC) (nmd : Int64) (ki st : Int) (wo : Int64) (di sg : Int), w + i = 100 → i ≤ p → p ≤ n → zlv lv 0 = some (.ref 109) → zlv lv 1 = some (xi (i : Nat)) → f 112 = xtk ki st (p : Nat) wo di sg → xSC f0 K c kp f nmd al q C → (q.1 = 0 → p = 0) → (q.1 ≠ 0 → nmd = (Int64.ofInt (xwL (xwd cs (xtf cs n 0).2.1 (xtf cs n 0).2.2)))) → xz v0 xs u (fun o X => ∃ r f', o = .inl r ∧ X = (xh f', u) ∧ (fun r f' => (∃ (ki st en : Int) (wo : Int64) (di sg : Int), f' 112 = xtk ki st en wo di sg) ∧ ((∃ (b e : Int) (tm' oa' : List Int), xgo cs n nms bc dp (w + 1) p q = .inr (b, e) ∧ r = some (xi (-1)) ∧ b ≤ 16 ∧ e ≤ 6 ∧ xSC f0 K c kp f' (Int64.ofInt (xwL (xwd cs (xtf cs n 0).2.1 (xtf cs n 0).2.2))) al (7, 0, tm', oa', b, e) (xgc K G cs n nms bc dp (w + 1) p q C)) ∨ (∃ z : Int, xgo cs n nms bc dp (w + 1) p q = .inl z ∧ r = some (xi z) ∧ (0 ≤ z ∧ z ≤ 100) ∧ xSW f0 K c kp f' al))) r f') 60 30 lv [] f := by
  intro w
  induction w with
  | zero =>
    intro i p f lv q C nmd ki st wo di sg hw1 hip hp l0 l1 h112 hsc hq0 hnm
    have e0 : xtf cs n p = (0, n, n) := by unfold xtf; rw [if_pos (by rw [show p = n by omega]; exact xskip_e (by omega))]
    have e1 : xgo cs n nms bc dp 1 p q = xfo n (xfin q) := by rw [xgo, e0]; rfl
    have e2 : xgc K G cs n nms bc dp 1 p q C = if q.1 = 6 then xcap K C else C := by rw [xgc, e0]; rfl
    rw [Nat.zero_add, e1, e2]
    refine x_iload_n rfl l1 ?_
    refine x_bipush rfl (by decide) ?_
    refine x_cge (t := 77) rfl rfl ⟨by omega, by omega⟩ (by decide) (fun _ => ?_) (fun h => by omega)
    exact xs_60e hc hn h51 hsc ⟨_, _, _, _, _, _, h112⟩ hnm l0
  | succ w ih =>
    intro i p f lv q C nmd ki st wo di sg hw1 hip hp l0 l1 h112 hsc hq0 hnm
    have hsc0 := hsc
    obtain ⟨pt, bs, sl, B9, hpt, hbs, hsl, h53, h109, h110, h111, hbr, hd, hPT, hct, hfr⟩ := hsc
    have f51 := (hfr 51 (by decide) (by decide) (by decide) (by omega) (by omega) (by omega) (by omega) (by decide) (by decide) (by decide) (by decide)).trans h51
    have f52 := (hfr 52 (by decide) (by decide) (by decide) (by omega) (by omega) (by omega) (by omega) (by decide) (by decide) (by decide) (by decide)).trans h52
    refine x_iload_n rfl l1 ?_
    refine x_bipush rfl (by decide) ?_
    refine x_cge (t := 77) rfl rfl ⟨by omega, by omega⟩ (by decide) (fun h => by omega) (fun _ => ?_)
    refine x_aload_n rfl l0 ?_
    refine x_getfield rfl (by decide) h109 rfl ?_
    refine x_call [_] rfl rfl (show (0 : Nat) ≤ 8 from by decide) (show (1 : Nat) ≤ 1 from by decide) (x_rcv (by decide) h112) (xs_30 f51 f52 hn hl hcs hp h112) (fun r' f' hP => ?_)
    obtain ⟨rfl, ⟨ki2, s, e, wo2, di2, sg2, g112, hT, hC⟩, hf2⟩ := hP
    have hr := xTK_rg hT hp
    have et := xtf_eq hT
    have hsc2 : xSC f0 K c kp f' nmd al q C := ⟨pt, bs, sl, B9, hpt, hbs, hsl, (hf2 53 (by decide)).trans h53, (hf2 109 (by decide)).trans h109, (hf2 110 (by decide)).trans h110, (hf2 111 (by decide)).trans h111, hbr, xDR_mv (fun p p1 p2 => hf2 p (by omega)) hd, xPT_mv (hf2 55 (by decide)) (hf2 56 (by decide)) hPT, hct, fun p a1 a2 a3 a4 a5 a6 a7 a8 a9 a10 a11 => (hf2 p a11).trans (hfr p a1 a2 a3 a4 a5 a6 a7 a8 a9 a10 a11)⟩
    refine x_aload_n rfl l0 ?_
    refine x_getfield rfl (by decide) ((hf2 109 (by decide)).trans h109) rfl ?_
    refine x_getfield rfl (by decide) g112 rfl ?_
    refine x_ifne (t := 56) rfl rfl ⟨by omega, by omega⟩ (fun hne => ?_) (fun he => ?_)
    · have hch := hcs s
      have hdg0 : ki2 = 2 → 48 ≤ cs.getD s 0 := fun h => by
        rcases hT.2 with ⟨-, h1, -⟩ | ⟨-, -, h1, -⟩ | ⟨-, -, h1, -⟩ | ⟨-, -, -, h1, -⟩
        · omega
        · omega
        · exact (xdg_iff.mp h1).1
        · omega
      have hdig : ki2 = 2 → -1 ≤ di2 ∧ di2 ≤ 100 := fun h => by have := hdg0 h; rw [hC.2.1 h]; split <;> omega
      have hsig : ki2 = 3 → 0 ≤ sg2 ∧ sg2 ≤ 65535 := fun h => by rw [hC.2.2 h]; omega
      have hnew : q.1 = 0 → wo2 = (Int64.ofInt (xwL (xwd cs (xtf cs n 0).2.1 (xtf cs n 0).2.2))) ∨ ki2 ≠ 1 := fun h0 => by
        by_cases h1 : ki2 = 1
        · left
          have hp0 := hq0 h0
          subst hp0
          rw [et]
          dsimp only
          rw [hC.1 h1, xwd_L]
        · right; exact h1
      refine x_aload_n rfl l0 ?_
      refine x_call [_] rfl rfl (show (0 : Nat) ≤ 8 from by decide) (show (1 : Nat) ≤ 1 from by decide) (x_rcv (by decide) ((hf2 109 (by decide)).trans h109)) (xs_57 hv hc h54 hk0 hdp hsc2 g112 (by omega) hsig hdig (xS_12 wo2) (xAt_6 wo2)) (fun r' f2 hP => ?_)
      have hx := xtq_C (q := q) (bc := bc) (dp := dp) hp hT hC hw hnmi
      have hy := xtc_C (K := K) (G := G) (C := C) (q := q) hp hT hC hw hnmi
      rw [hcl] at hx hy
      rw [hx, hy] at hP
      have hgo : xgo cs n nms bc dp (w + 1 + 1) p q = (match xtq cs nms bc dp (ki2, s, e) q with
        | none => .inl ((s : Nat) : Int)
        | some q' => xgo cs n nms bc dp (w + 1) e q') := by
        rw [xgo, et]
        dsimp only
        rw [if_neg hne]
      have hgc : xgc K G cs n nms bc dp (w + 1 + 1) p q C = (match xtq cs nms bc dp (ki2, s, e) q with
        | none => (0, 0, [], [])
        | some q' => xgc K G cs n nms bc dp (w + 1) e q' (xtc K G cs nms (ki2, s, e) q C)) := by
        rw [xgc, et]
        dsimp only
        rw [if_neg hne]
      rcases hP with ⟨q2, e1, rfl, hsc3, hk⟩ | ⟨e1, rfl, hsw, hk⟩
      · refine x_ifne (t := 71) rfl rfl (by decide) (fun _ => ?_) (fun h => absurd h (by decide))
        rw [hgo, hgc, e1]
        dsimp only
        refine x_iinc rfl l1 (show (1 : Nat) < 2 from by decide) ?_
        refine x_goto (t := 30) rfl rfl ?_
        have hs2 := hr.2.2.2.2.2.1 hne
        refine ih (i + 1) e f2 _ q2 _ _ ki2 _ wo2 di2 sg2 (by omega) (by omega) hr.2.2.2.1 (xst_ne (by decide) l0 (Or.inl rfl)) xst_eq (hk.trans g112) hsc3 (fun h => ?_) (fun _ => ?_)
        · have e2 := e1
          unfold xtq at e2
          exact absurd h (xstep_ne0 e2)
        · by_cases h0 : q.1 = 0
          · rw [if_pos h0]
            rcases hnew h0 with h | h
            · exact h
            · exfalso
              obtain ⟨ex, op, tm, oa, m, d⟩ := q
              dsimp only at h0
              subst h0
              unfold xtq at e1
              simp only [xstep] at e1
              rw [if_neg (fun hh => h hh.1)] at e1
              cases e1
          · rw [if_neg h0]; exact hnm h0
      · refine x_ifne (t := 71) rfl rfl (by decide) (fun h => absurd rfl h) (fun _ => ?_)
        rw [hgo, hgc, e1]
        dsimp only
        have hsw0 := hsw
        obtain ⟨pt3, op3, ex3, bs3, sl3, m3, d3, tm3, oa3, nmd3, E3, B3, -, -, k109, -⟩ := hsw0
        refine x_aload_n rfl l0 ?_
        refine x_getfield rfl (by decide) k109 rfl ?_
        refine x_getfield rfl (by decide) (hk.trans g112) rfl ?_
        refine x_ireturn rfl (Or.inl rfl) ⟨_, _, rfl, rfl, ?_⟩
        exact ⟨⟨_, _, _, _, _, _, hk.trans g112⟩, Or.inr ⟨_, rfl, rfl, by omega, hsw⟩⟩
    · refine x_goto (t := 77) rfl rfl ?_
      have e1 : xgo cs n nms bc dp (w + 1 + 1) p q = xfo n (xfin q) := by rw [xgo, et]; dsimp only; rw [if_pos he]
      have e2 : xgc K G cs n nms bc dp (w + 1 + 1) p q C = if q.1 = 6 then xcap K C else C := by rw [xgc, et]; dsimp only; rw [if_pos he]
      rw [e1, e2]
      exact xs_60e hc hn h51 hsc2 ⟨_, _, _, _, _, _, g112⟩ hnm l0
end
section
/-! The class's define. -/
/-- what the class's read begins with -/
def xRD (f : Nat → zE) (K : List (Int × Int)) (c : Nat) (kp : Int) (al : Value) : Prop := (∃ (E : List (Int × Int)) (B : List xBt) (dr : Nat) (op ex bs sl pt : Int) (tm oa : List Int) (ki st en : Int) (wo : Int64) (di sg : Int) (nmd : Int64) (m d : Int), f 109 = .inl (4, [.ref 51, .ref 53, .ref 112, .ref 110, .ref 111, .ref dr, xi op, xi ex, xi bs, xi sl]) ∧ (0 ≤ bs ∧ bs ≤ 208) ∧ (-1 ≤ sl ∧ sl ≤ 12) ∧ f 53 = xbo (c : Nat) kp pt ∧ f 110 = xr 0 tm ∧ f 111 = xr 0 oa ∧ tm.length = 3 ∧ oa.length = 3 ∧ (∀ j : Nat, 0 ≤ tm.getD j 0 ∧ tm.getD j 0 ≤ 4) ∧ (∀ j : Nat, 0 ≤ oa.getD j 0 ∧ oa.getD j 0 ≤ 17) ∧ f 112 = xtk ki st en wo di sg ∧ xDR B c f nmd m d al ∧ xPT K E pt f) ∧ (0 ≤ kp ∧ kp ≤ 208) ∧ (K.length : Int) = kp
abbrev xq0 (tm oa : List Int) : xA := (0, 0, tm, oa, 0, 1)
abbrev xC0 : xC := (0, 0, [], [])
/-- the draft begins again behind the kept parts -/
theorem xPT_K {K E : List (Int × Int)} {pt kp : Int} {f : Nat → zE} (hk : (K.length : Int) = kp) (h : xPT K E pt f) : xPT K [] kp f := by
  obtain ⟨se, at', h1, h2, h3, h4, h5, h6, -, h7, -⟩ := h
  refine ⟨se, at', h1, h2, h3, h4, h5, h6, by omega, h7, fun _ => ?_⟩
  rw [List.append_nil]
  exact ⟨hk, h7⟩
theorem xs_60 {K : List (Int × Int)} {G : Nat → List xBt} {v0 : Value} {xs : List Int32} {u : Nat × Nat} {f : Nat → zE} {c n : Nat} {cs : List Int} {nms : List (List Int)} {kp : Int} {al : Value} {nm : Nat → Int64} {bc dp : Nat → Int} {av : Nat → Value} (hv : v0 = .null ∨ v0 = .ref 49) (hc : c ≤ 12) (hn : n ≤ 100) (hl : cs.length = 100) (hcs : ∀ j : Nat, 0 ≤ cs.getD j 0 ∧ cs.getD j 0 ≤ 126) (h51 : f 51 = .inl (1, [.ref 52, xi (n : Nat)])) (h52 : f 52 = xr 1 cs) (h54 : f 54 = .inr (.inr (.inr (3, xfl)))) (hk0 : ∀ i, i < c → xKF (G i) i f (nm i) (bc i) (dp i) (av i)) (hdp : ∀ i, i < c → 1 ≤ dp i ∧ dp i ≤ 6) (hcl : nms.length = c) (hw : ∀ w ∈ nms, xwf w) (hnmi : ∀ i (h : i < nms.length), nm i = Int64.ofInt (xpr (nms[i]).reverse)) (hrd : xRD f K c kp al) : xq v0 xs u 60 [(0, .ref 109)] f (fun r f' => ∃ tm0 oa0 : List Int, tm0.length = 3 ∧ oa0.length = 3 ∧ (∃ (ki st en : Int) (wo : Int64) (di sg : Int), f' 112 = xtk ki st en wo di sg) ∧ ((∃ (b e : Int) (tm' oa' : List Int), xgo cs n nms bc dp 101 0 (xq0 tm0 oa0) = .inr (b, e) ∧ r = some (xi (-1)) ∧ b ≤ 16 ∧ e ≤ 6 ∧ xSC f K c kp f' (Int64.ofInt (xwL (xwd cs (xtf cs n 0).2.1 (xtf cs n 0).2.2))) al (7, 0, tm', oa', b, e) (xgc K G cs n nms bc dp 101 0 (xq0 tm0 oa0) xC0)) ∨ (∃ z : Int, xgo cs n nms bc dp 101 0 (xq0 tm0 oa0) = .inl z ∧ r = some (xi z) ∧ (0 ≤ z ∧ z ≤ 100) ∧ xSW f K c kp f' al))) := by
  unfold xq
  obtain ⟨⟨E, B, dr, op, ex, bs, sl, pt, tm, oa, ki, st, en, wo, di, sg, nmd, m, d, h109, hbs, hsl, h53, h110, h111, t1, t2, t3, t4, h112, hd, hPT⟩, hkp, hKl⟩ := hrd
  refine x_aload_n rfl rfl ?_
  refine x_aload_n rfl rfl ?_
  refine x_getfield rfl (by decide) h109 rfl ?_
  refine x_call [_] rfl rfl (show (1 : Nat) ≤ 8 from by decide) (show (1 : Nat) ≤ 1 from by decide) (x_rcv (by decide) h53) (xs_5 hc h53 h54 hd) (fun r' f1 hP => ?_)
  obtain ⟨rfl, g53, gd, gf⟩ := hP
  have g109 := (gf 109 (by decide) (by omega) (by omega) (by omega) (by omega)).trans h109
  have g112 := (gf 112 (by decide) (by omega) (by omega) (by omega) (by omega)).trans h112
  refine x_putfield rfl (by decide) g109 (show (5 : Nat) < 10 from by decide) rfl ?_
  refine x_aload_n rfl rfl ?_
  refine x_getfield rfl (by decide) xu_eq rfl ?_
  refine x_call [_] rfl rfl (show (0 : Nat) ≤ 8 from by decide) (show (1 : Nat) ≤ 1 from by decide) (x_rcv (by decide) (xu_ne (by decide) g112)) (xs_25 (xu_ne (by decide) g112)) (fun r' f2 hP => ?_)
  obtain ⟨rfl, rfl⟩ := hP
  refine x_aload_n rfl rfl ?_
  refine x_iconst rfl ?_
  refine x_putfield rfl (by decide) (xu_ne (by decide) xu_eq) (show (6 : Nat) < 10 from by decide) rfl ?_
  refine x_aload_n rfl rfl ?_
  refine x_iconst rfl ?_
  refine x_putfield rfl (by decide) xu_eq (show (7 : Nat) < 10 from by decide) rfl ?_
  refine x_iconst rfl ?_
  refine x_istore_n rfl (show (1 : Nat) < 2 from by decide) ?_
  refine zwp_mono (xs_60l (K := K) (G := G) (f0 := f) (al := al) (kp := kp) hv hc hn hl hcs h51 h52 h54 hk0 hdp hcl hw hnmi 100 0 0 _ _ (xq0 tm oa) xC0 nmd ki st wo di sg rfl (Nat.le_refl _) (Nat.zero_le _) (xst_ne (by decide) rfl (Or.inl rfl)) xst_eq (xu_ne (by decide) (xu_ne (by decide) xu_eq)) ?_ (fun _ => rfl) (fun h => absurd rfl h)) ?_
  · refine ⟨kp, bs, sl, [], hkp, hbs, ⟨hsl.1, hsl.2, fun h => by simp at h⟩, (xu_ne (by decide) (xu_ne (by decide) (xu_ne (by decide) (xu_ne (by decide) g53)))), xu_eq, (xu_ne (by decide) (xu_ne (by decide) (xu_ne (by decide) (xu_ne (by decide) ((gf 110 (by decide) (by omega) (by omega) (by omega) (by omega)).trans h110))))), (xu_ne (by decide) (xu_ne (by decide) (xu_ne (by decide) (xu_ne (by decide) ((gf 111 (by decide) (by omega) (by omega) (by omega) (by omega)).trans h111))))), ?_, ?_, xPT_K hKl (xPT_mv (xu_ne (by decide) (xu_ne (by decide) (xu_ne (by decide) (xu_ne (by decide) (gf 55 (by decide) (by omega) (by omega) (by omega) (by omega)))))) (xu_ne (by decide) (xu_ne (by decide) (xu_ne (by decide) (xu_ne (by decide) (gf 56 (by decide) (by omega) (by omega) (by omega) (by omega)))))) hPT), ⟨fun h => by dsimp only at h; omega, fun _ => ⟨fun h => by dsimp only at h; omega, fun _ => rfl⟩⟩, ?_⟩
    · exact ⟨show (0 : Nat) ≤ 7 by decide, show (0 : Int) ≤ 0 ∧ (0 : Int) ≤ 3 by decide, fun h => by simp at h, t1, t2, t3, t4, fun j hj => by simp at hj; omega, show (0 : Int) ≤ 0 ∧ (0 : Int) ≤ 17 by decide, show (1 : Int) ≤ 1 ∧ (1 : Int) ≤ 7 by decide⟩
    · exact xDR_mv (fun p p1 p2 => xu_ne (by omega) (xu_ne (by omega) (xu_ne (by omega) (xu_ne (by omega) rfl)))) gd
    · intro p a1 a2 a3 a4 a5 a6 a7 a8 a9 a10 a11
      exact xu_ne a8 (xu_ne a8 (xu_ne a11 (xu_ne a8 (gf p a1 a4 a5 a6 a7))))
  · intro oo X' hq
    obtain ⟨r, f', rfl, rfl, hq⟩ := hq
    exact ⟨r, f', rfl, rfl, tm, oa, t1, t2, hq⟩
theorem xs_63 {B : List xBt} {v0 : Value} {xs : List Int32} {u : Nat × Nat} {f : Nat → zE} {c : Nat} {kp pt : Int} {nmd : Int64} {m d : Int} {al : Value} (hc : c ≤ 12) (hm : m ≤ 16) (h53 : f 53 = xbo (c : Nat) kp pt) (h54 : f 54 = .inr (.inr (.inr (3, xfl)))) (hd : xDR B c f nmd m d al) : xq v0 xs u 63 [(0, .ref 53)] f (fun r f' => r = some (xi (c : Nat)) ∧ f' 53 = xbo ((c : Nat) + 1) pt pt ∧ xKF (B.map xse) c f' nmd m d al ∧ ∀ p, p ≠ 53 → p ≠ 57 + 4 * c → p ≠ 58 + 4 * c → p ≠ 59 + 4 * c → p ≠ 60 + 4 * c → f' p = f p) := by
  unfold xq
  have hd0 := hd
  obtain ⟨hm1, hm2, fp, ep, ta, h0, h1, h2, h3, hty⟩ := hd0
  refine x_aload_n rfl rfl ?_
  refine x_getfield rfl (by decide) h53 rfl ?_
  refine x_aload_n rfl rfl ?_
  refine x_getfield rfl (by decide) h53 rfl ?_
  refine x_aaload rfl (by decide) h54 ⟨by omega, show ((c : Nat) : Int) < (13 : Nat) by omega⟩ (show (13 : Nat) ≤ 5000 by decide) (by rw [Int.toNat_natCast]; exact xfl_at (by omega)) ?_
  refine x_call [_] rfl rfl (show (0 : Nat) ≤ 8 from by decide) (show (1 : Nat) ≤ 2 from by decide) (x_rcv (by omega) h0) (xs_62 hc hm hd) (fun r' f' hP => ?_)
  obtain ⟨rfl, hQ1, hQ2⟩ := hP
  refine x_aload_n rfl rfl ?_
  refine x_aload_n rfl rfl ?_
  refine x_getfield rfl (by decide) ((hQ2 53 (by omega) (by omega) (by omega) (by omega)).trans h53) rfl ?_
  refine x_putfield rfl (by decide) ((hQ2 53 (by omega) (by omega) (by omega) (by omega)).trans h53) (show (4 : Nat) < 6 from by decide) rfl ?_
  refine x_aload_n rfl rfl ?_
  refine x_dup rfl ?_
  refine x_getfield rfl (by decide) xu_eq rfl ?_
  refine x_iconst rfl ?_
  refine x_iadd rfl ?_
  refine x_putfield rfl (by decide) xu_eq (show (3 : Nat) < 6 from by decide) rfl ?_
  refine x_aload_n rfl rfl ?_
  refine x_getfield rfl (by decide) xu_eq rfl ?_
  refine x_iconst rfl ?_
  refine x_isub rfl ?_
  refine x_ireturn rfl (Or.inl rfl) ⟨_, _, rfl, rfl, ?_⟩
  refine ⟨by rw [Int.add_sub_cancel], xu_eq, ?_, fun p hp a1 a2 a3 a4 => xu_ne hp (xu_ne hp (hQ2 p a1 a2 a3 a4))⟩
  obtain ⟨k1, k2, fp2, ep2, ta2, k3, k4, k5, k6, k7⟩ := hQ1
  exact ⟨k1, k2, fp2, ep2, ta2, xu_ne (by omega) (xu_ne (by omega) k3), xu_ne (by omega) (xu_ne (by omega) k4), xu_ne (by omega) (xu_ne (by omega) k5), xu_ne (by omega) (xu_ne (by omega) k6), k7⟩
theorem x_throw {v0 : Value} {xs : List Int32} {u : Nat × Nat} {Q : zO → zX → Prop} {mi pc n a b c : Nat} {v : Value} {lv : zL} {st : List Value} {f : Nat → zE} (hc : zcd (zt v0) mi pc = some (.new n, a, b, c, v)) (ha : 100 ≤ a) (ht : zthr (zcd (zt v0)) mi pc a = true) (h4 : zcat st ≤ 4) (k : Q (.inr a) (xh f, u.1 + 1, u.2 + 6)) : xz v0 xs u Q mi pc lv st f := by
  obtain ⟨z1, z2, z3, z4⟩ := zn_za (G := zG xs) (df := zdf (zt v0)) (i := .new n) (b := b) (c := c) (v := v) (nL := znl (zt v0) mi) (pc := pc) (lv := lv) (st := st) (X := (xh f, u)) rfl ha
  exact zwp_thr ⟨hc, z1, z2, z3⟩ z4 rfl ⟨ha, ht, h4⟩ k
/-- behind a define that kept its call -/
def xAC (f : Nat → zE) (K : List (Int × Int)) (C : xC) (c : Nat) (W : Int64) (b e : Int) (al dd lc : Value) (f' : Nat → zE) : Prop := ∃ (pt bs sl : Int) (tm oa : List Int) (B : List xBt), (0 ≤ pt ∧ pt ≤ 208) ∧ (0 ≤ bs ∧ bs ≤ 208) ∧ -1 ≤ sl ∧ sl ≤ 12 ∧ f' 50 = xfc dd (xi (-1)) lc ∧ f' 51 = .inl (1, [.ref 52, xi 0]) ∧ f' 53 = xbo ((c : Nat) + 1) pt pt ∧ xKF (B.map xse) c f' W b e al ∧ ((K ++ C.2.2.1).length ≤ 208 → B = C.2.2.2) ∧ f' 109 = xrd c 0 7 bs sl ∧ f' 110 = xr 0 tm ∧ f' 111 = xr 0 oa ∧ xbr (7, 0, tm, oa, b, e) ∧ xPT K C.2.2.1 pt f' ∧ (∃ (ki st en : Int) (wo : Int64) (di sg : Int), f' 112 = xtk ki st en wo di sg) ∧ ∀ p, p ≠ 50 → p ≠ 51 → p ≠ 53 → p ≠ 55 → p ≠ 56 → p ≠ 57 + 4 * c → p ≠ 58 + 4 * c → p ≠ 59 + 4 * c → p ≠ 60 + 4 * c → p ≠ 109 → p ≠ 110 → p ≠ 111 → p ≠ 112 → f' p = f p
theorem xs_64 {K : List (Int × Int)} {G : Nat → List xBt} {v0 : Value} {xs : List Int32} {u : Nat × Nat} {Q : zO → zX → Prop} {f : Nat → zE} {c n : Nat} {cs : List Int} {nms : List (List Int)} {kp : Int} {al : Value} {nm : Nat → Int64} {bc dp : Nat → Int} {av : Nat → Value} (hv : v0 = .null ∨ v0 = .ref 49) (hc : c ≤ 12) (hn : n ≤ 100) (hl : cs.length = 100) (hcs : ∀ j : Nat, 0 ≤ cs.getD j 0 ∧ cs.getD j 0 ≤ 126) (h51 : f 51 = .inl (1, [.ref 52, xi (n : Nat)])) (h52 : f 52 = xr 1 cs) (h54 : f 54 = .inr (.inr (.inr (3, xfl)))) (hk0 : ∀ i, i < c → xKF (G i) i f (nm i) (bc i) (dp i) (av i)) (hdp : ∀ i, i < c → 1 ≤ dp i ∧ dp i ≤ 6) (hcl : nms.length = c) (hw : ∀ w ∈ nms, xwf w) (hnmi : ∀ i (h : i < nms.length), nm i = Int64.ofInt (xpr (nms[i]).reverse)) (hrd : xRD f K c kp al) {dd lf lc : Value} (h50 : f 50 = xfc dd lf lc)
    (ka : ∀ (tm0 oa0 : List Int) (f' : Nat → zE), tm0.length = 3 → oa0.length = 3 → ∀ b e : Int, xgo cs n nms bc dp 101 0 (xq0 tm0 oa0) = .inr (b, e) → c < 12 → b ≤ 16 → e ≤ 6 → xAC f K (xgc K G cs n nms bc dp 101 0 (xq0 tm0 oa0) xC0) c (Int64.ofInt (xwL (xwd cs (xtf cs n 0).2.1 (xtf cs n 0).2.2))) b e al dd lc f' → Q (.inl (some (xi (c : Nat)))) (xh f', u))
    (kf : ∀ (tm0 oa0 : List Int) (f1 : Nat → zE), tm0.length = 3 → oa0.length = 3 → (∃ (ki st en : Int) (wo : Int64) (di sg : Int), f1 112 = xtk ki st en wo di sg) → ∀ b e : Int, xgo cs n nms bc dp 101 0 (xq0 tm0 oa0) = .inr (b, e) → c = 12 → xSW f K c kp f1 al → Q (.inr 101) (xh (xu f1 50 (xfc dd (xi (-1)) lc)), u.1 + 1, u.2 + 6))
    (kr : ∀ (tm0 oa0 : List Int) (f1 : Nat → zE) (z : Int), tm0.length = 3 → oa0.length = 3 → (∃ (ki st en : Int) (wo : Int64) (di sg : Int), f1 112 = xtk ki st en wo di sg) → xgo cs n nms bc dp 101 0 (xq0 tm0 oa0) = .inl z → (0 ≤ z ∧ z ≤ 100) → xSW f K c kp f1 al → Q (.inr 100) (xh (xu f1 50 (xfc dd (xi z) lc)), u.1 + 1, u.2 + 6)) :
    xz v0 xs u Q 64 0 [(0, .ref 50)] [] f := by
  refine x_aload_n rfl rfl ?_
  refine x_aload_n rfl rfl ?_
  refine x_getfield rfl (by decide) h50 rfl ?_
  have hrd0 := hrd
  obtain ⟨⟨E, B, dr, op, ex, bs, sl, pt, tm, oa, ki, st, en, wo, di, sg, nmd, m, d, h109, -⟩, hkp, hKl⟩ := hrd0
  refine x_call [_] rfl rfl (show (1 : Nat) ≤ 8 from by decide) (show (1 : Nat) ≤ 2 from by decide) (x_rcv (by decide) h109) (xs_60 hv hc hn hl hcs h51 h52 h54 hk0 hdp hcl hw hnmi hrd) (fun r' f1 hP => ?_)
  obtain ⟨tm0, oa0, e1, e2, x112, hP⟩ := hP
  rcases hP with ⟨b, e, tm', oa', hgo, rfl, hb, he, hsc⟩ | ⟨z, hgo, rfl, hz, hsw⟩
  · have hsc0 := hsc
    obtain ⟨pt1, bs1, sl1, B1, hpt1, hbs1, hsl1, g53, g109, g110, g111, gbr, gd, gPT, gct, gfr⟩ := hsc
    dsimp only at gd
    have g50 := (gfr 50 (by decide) (by decide) (by decide) (by omega) (by omega) (by omega) (by omega) (by decide) (by decide) (by decide) (by decide)).trans h50
    have g51 := (gfr 51 (by decide) (by decide) (by decide) (by omega) (by omega) (by omega) (by omega) (by decide) (by decide) (by decide) (by decide)).trans h51
    have g54 := (gfr 54 (by decide) (by decide) (by decide) (by omega) (by omega) (by omega) (by omega) (by decide) (by decide) (by decide) (by decide)).trans h54
    refine x_putfield rfl (by decide) g50 (show (11 : Nat) < 13 from by decide) rfl ?_
    refine x_aload_n rfl rfl ?_
    refine x_getfield rfl (by decide) xu_eq rfl ?_
    refine x_iconst rfl ?_
    refine x_ceq (t := 29) rfl rfl (by decide) (by decide) (fun _ => ?_) (fun h => absurd rfl h)
    refine x_aload_n rfl rfl ?_
    refine x_getfield rfl (by decide) xu_eq rfl ?_
    refine x_call [_] rfl rfl (show (0 : Nat) ≤ 8 from by decide) (show (1 : Nat) ≤ 1 from by decide) (x_rcv (by decide) (xu_ne (by decide) g53)) (xs_61 hc (xu_ne (by decide) g53)) (fun r' f2 hP => ?_)
    obtain ⟨rfl, rfl⟩ := hP
    by_cases h12 : c = 12
    · rw [if_pos h12]
      refine x_ifeq (t := 49) rfl rfl (by decide) (fun h => absurd h (by decide)) (fun _ => ?_)
      refine x_throw rfl (by decide) rfl (show (0 : Nat) ≤ 4 from by decide) ?_
      exact kf tm0 oa0 _ e1 e2 x112 b e hgo h12 (xSC_W hsc0)
    · rw [if_neg h12]
      refine x_ifeq (t := 49) rfl rfl (by decide) (fun _ => ?_) (fun h => absurd rfl h)
      refine x_aload_n rfl rfl ?_
      refine x_getfield rfl (by decide) xu_eq rfl ?_
      refine x_call [_] rfl rfl (show (0 : Nat) ≤ 8 from by decide) (show (1 : Nat) ≤ 2 from by decide) (x_rcv (by decide) (xu_ne (by decide) g51)) (xs_22 (xu_ne (by decide) g51)) (fun r' f2 hP => ?_)
      obtain ⟨rfl, rfl⟩ := hP
      refine x_pop rfl ?_
      refine x_aload_n rfl rfl ?_
      refine x_getfield rfl (by decide) (xu_ne (by decide) xu_eq) rfl ?_
      refine x_call [_] rfl rfl (show (0 : Nat) ≤ 8 from by decide) (show (1 : Nat) ≤ 1 from by decide) (x_rcv (by decide) (xu_ne (by decide) (xu_ne (by decide) g53))) (xs_63 hc hb (xu_ne (by decide) (xu_ne (by decide) g53)) (xu_ne (by decide) (xu_ne (by decide) g54)) (xDR_mv (fun p p1 p2 => xu_ne (by omega) (xu_ne (by omega) rfl)) gd)) (fun r' f2 hP => ?_)
      obtain ⟨rfl, j1, j2, j3⟩ := hP
      refine x_ireturn rfl (Or.inl rfl) ?_
      refine ka tm0 oa0 f2 e1 e2 b e hgo (by omega) hb he ⟨pt1, bs1, sl1, tm', oa', B1, hpt1, hbs1, hsl1.1, hsl1.2.1, ?_, ?_, j1, j2, fun hl => (gct.2 hl).2 hb, ?_, ?_, ?_, gbr, ?_, ?_, ?_⟩
      · exact (j3 50 (by decide) (by omega) (by omega) (by omega) (by omega)).trans (xu_ne (by decide) xu_eq)
      · exact (j3 51 (by decide) (by omega) (by omega) (by omega) (by omega)).trans xu_eq
      · exact (j3 109 (by decide) (by omega) (by omega) (by omega) (by omega)).trans (xu_ne (by decide) (xu_ne (by decide) g109))
      · exact (j3 110 (by decide) (by omega) (by omega) (by omega) (by omega)).trans (xu_ne (by decide) (xu_ne (by decide) g110))
      · exact (j3 111 (by decide) (by omega) (by omega) (by omega) (by omega)).trans (xu_ne (by decide) (xu_ne (by decide) g111))
      · exact xPT_mv ((j3 55 (by decide) (by omega) (by omega) (by omega) (by omega)).trans (xu_ne (by decide) (xu_ne (by decide) rfl))) ((j3 56 (by decide) (by omega) (by omega) (by omega) (by omega)).trans (xu_ne (by decide) (xu_ne (by decide) rfl))) gPT
      · obtain ⟨x1, x2, x3, x4, x5, x6, x7⟩ := x112; exact ⟨x1, x2, x3, x4, x5, x6, (j3 112 (by decide) (by omega) (by omega) (by omega) (by omega)).trans (xu_ne (by decide) (xu_ne (by decide) x7))⟩
      · intro p a0 a01 a1 a2 a3 a4 a5 a6 a7 a8 a9 a10 a11
        exact (j3 p a1 a4 a5 a6 a7).trans (xu_ne a01 (xu_ne a0 (gfr p a1 a2 a3 a4 a5 a6 a7 a8 a9 a10 a11)))
  · have hsw0 := hsw
    obtain ⟨pt3, op3, ex3, bs3, sl3, m3, d3, tm3, oa3, nmd3, E3, B3, -, -, -, -, -, -, -, -, -, -, -, gfr⟩ := hsw0
    have g50 := (gfr 50 (by decide) (by decide) (by decide) (by omega) (by omega) (by omega) (by omega) (by decide) (by decide) (by decide) (by decide)).trans h50
    refine x_putfield rfl (by decide) g50 (show (11 : Nat) < 13 from by decide) rfl ?_
    refine x_aload_n rfl rfl ?_
    refine x_getfield rfl (by decide) xu_eq rfl ?_
    refine x_iconst rfl ?_
    refine x_ceq (t := 29) rfl rfl ⟨by omega, by omega⟩ (by decide) (fun h => by omega) (fun _ => ?_)
    refine x_throw rfl (by decide) rfl (show (0 : Nat) ≤ 4 from by decide) ?_
    exact kr tm0 oa0 f1 z e1 e2 x112 hgo hz hsw
end
