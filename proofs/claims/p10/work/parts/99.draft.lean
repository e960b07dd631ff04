/-! The class's draft: beats, figures, brackets. -/
/-- a draft's rows: lengths, ranges; its beats' 'taken at' is no later than themselves -/
def xty (m : Int) (fp ep ta : List Int) : Prop := fp.length = 16 ∧ ep.length = 16 ∧ ta.length = 16 ∧ (∀ j : Nat, 0 ≤ fp.getD j 0 ∧ fp.getD j 0 ≤ 208) ∧ (∀ j : Nat, 0 ≤ ep.getD j 0 ∧ ep.getD j 0 ≤ 208) ∧ (∀ j : Nat, -1 ≤ ta.getD j 0 ∧ ta.getD j 0 ≤ 15) ∧ ∀ j : Nat, (j : Int) < m → ta.getD j 0 ≤ j
/-- a beat: its first part, the end of its parts, before which beat its selectors are taken -/
abbrev xBt := Int × Int × Int
/-- the rows hold the beats B, as long as they are no more than sixteen -/
def xcb (B : List xBt) (m : Int) (fp ep ta : List Int) : Prop := m ≤ 16 → (B.length : Int) = m ∧ ∀ j, j < B.length → (fp.getD j 0, ep.getD j 0, ta.getD j 0) = B.getD j (0, 0, 0)
def xDR (B : List xBt) (c : Nat) (f : Nat → zE) (nmd : Int64) (m d : Int) (al : Value) : Prop := 0 ≤ m ∧ m ≤ 17 ∧ ∃ fp ep ta : List Int, f (57 + 4 * c) = xfg c nmd (xi m) (xi d) al ∧ f (58 + 4 * c) = xr 0 fp ∧ f (59 + 4 * c) = xr 0 ep ∧ f (60 + 4 * c) = xr 0 ta ∧ xty m fp ep ta ∧ xcb B m fp ep ta
/-- nothing but the draft's four cells has changed -/
def xFD (c : Nat) (f f' : Nat → zE) : Prop := ∀ p, p ≠ 57 + 4 * c → p ≠ 58 + 4 * c → p ≠ 59 + 4 * c → p ≠ 60 + 4 * c → f' p = f p
theorem xFD_0 (c : Nat) (f : Nat → zE) : xFD c f f := fun _ _ _ _ _ => rfl
theorem xFD_t {c : Nat} {f g h : Nat → zE} (h1 : xFD c f g) (h2 : xFD c g h) : xFD c f h := fun p a1 a2 a3 a4 => (h2 p a1 a2 a3 a4).trans (h1 p a1 a2 a3 a4)
theorem x_gset {l : List Int} {k j : Nat} {x : Int} : (l.set k x).getD j 0 = if k = j ∧ j < l.length then x else l.getD j 0 := by
  rw [List.getD_eq_getElem?_getD, List.getD_eq_getElem?_getD, List.getElem?_set]
  by_cases hk : k = j
  · subst hk
    by_cases hl : k < l.length
    · simp [hl]
    · simp [hl, List.getElem?_eq_none (Nat.le_of_not_lt hl)]
  · simp [hk]
theorem xty_set {m : Nat} {fp ep ta : List Int} {a b t : Int} (h : xty (m : Nat) fp ep ta) (ha : 0 ≤ a ∧ a ≤ 208) (hb : 0 ≤ b ∧ b ≤ 208) (ht : -1 ≤ t ∧ t ≤ m) (hm : m < 16) : xty ((m : Nat) + 1) (fp.set m a) (ep.set m b) (ta.set m t) := by
  obtain ⟨h1, h2, h3, h4, h5, h6, h7⟩ := h
  refine ⟨by rw [List.length_set]; exact h1, by rw [List.length_set]; exact h2, by rw [List.length_set]; exact h3, fun j => ?_, fun j => ?_, fun j => ?_, fun j hj => ?_⟩
  · rw [x_gset]
    split
    · exact ha
    · exact h4 j
  · rw [x_gset]
    split
    · exact hb
    · exact h5 j
  · rw [x_gset]
    split
    · omega
    · exact h6 j
  · rw [x_gset]
    split
    · rename_i hk
      have := hk.1
      omega
    · rename_i hk
      by_cases hjm : j = m
      · exact absurd ⟨hjm.symm, by omega⟩ hk
      · exact h7 j (by omega)
theorem xty_mono {m m' : Int} {fp ep ta : List Int} (h : xty m fp ep ta) (hm : m' ≤ m ∨ (m = 16 ∧ m' = 17)) : xty m' fp ep ta := by
  obtain ⟨h1, h2, h3, h4, h5, h6, h7⟩ := h
  refine ⟨h1, h2, h3, h4, h5, h6, fun j hj => ?_⟩
  rcases hm with hm | hm
  · exact h7 j (by omega)
  · by_cases hj16 : (j : Int) < 16
    · exact h7 j (by omega)
    · have := h6 j
      omega
theorem xcb_17 {B : List xBt} {m : Int} {fp ep ta : List Int} (h : 16 < m) : xcb B m fp ep ta := fun h2 => by omega
theorem xcb_set {B : List xBt} {m : Int} {fp ep ta : List Int} {a b t : Int} (h : xcb B m fp ep ta) (hm : 0 ≤ m ∧ m < 16) (h1 : fp.length = 16) (h2 : ep.length = 16) (h3 : ta.length = 16) : xcb (B ++ [(a, b, t)]) (m + 1) (fp.set m.toNat a) (ep.set m.toNat b) (ta.set m.toNat t) := by
  intro _
  obtain ⟨k1, k2⟩ := h (by omega)
  refine ⟨by rw [List.length_append, List.length_singleton]; omega, fun j hj => ?_⟩
  rw [List.length_append, List.length_singleton] at hj
  rw [x_gset, x_gset, x_gset]
  by_cases e : m.toNat = j
  · rw [if_pos ⟨e, by omega⟩, if_pos ⟨e, by omega⟩, if_pos ⟨e, by omega⟩, List.getD_eq_getElem?_getD, List.getElem?_append_right (by omega), show j - B.length = 0 by omega]
    rfl
  · rw [if_neg (fun h => e h.1), if_neg (fun h => e h.1), if_neg (fun h => e h.1), k2 j (by omega), List.getD_eq_getElem?_getD, List.getD_eq_getElem?_getD, List.getElem?_append_left (by omega)]
theorem xs_45 {v0 : Value} {xs : List Int32} {u : Nat × Nat} {B : List xBt} {c : Nat} {f : Nat → zE} {nmd : Int64} {m d : Int} {al : Value} {a b t : Int} (hc : c ≤ 12) (hd : xDR B c f nmd m d al) (ha : 0 ≤ a ∧ a ≤ 208) (hb : 0 ≤ b ∧ b ≤ 208) (ht : -1 ≤ t ∧ (m < 16 → t ≤ m)) : xq v0 xs u 45 [(0, .ref (57 + 4 * c)), (1, xi a), (2, xi b), (3, xi t)] f (fun r f' => r = none ∧ xDR (B ++ [(a, b, t)]) c f' nmd (min (m + 1) 17) d al ∧ xFD c f f') := by
  unfold xq
  obtain ⟨hm1, hm2, fp, ep, ta, h0, h1, h2, h3, hty, hcb⟩ := hd
  have hl1 := hty.1
  have hl2 := hty.2.1
  have hl3 := hty.2.2.1
  refine x_aload_n rfl rfl ?_
  refine x_getfield rfl (by omega) h0 rfl ?_
  refine x_bipush rfl (by decide) ?_
  refine x_cge (t := 39) rfl rfl ⟨by omega, by omega⟩ ⟨by omega, by omega⟩ (fun hb6 => ?_) (fun hb6 => ?_)
  · refine x_aload_n rfl rfl ?_
    refine x_getfield rfl (by omega) h0 rfl ?_
    refine x_bipush rfl (by decide) ?_
    refine x_cgt (t := 58) rfl rfl ⟨by omega, by omega⟩ ⟨by omega, by omega⟩ (fun hb45 => ?_) (fun hb45 => ?_)
    · refine x_return rfl ⟨_, _, rfl, rfl, ?_⟩
      have e1 : m = min (m + 1) 17 := by omega
      exact ⟨rfl, ⟨by omega, by omega, _, _, _, by rw [← e1]; exact h0, h1, h2, h3, xty_mono hty (by omega), xcb_17 (by omega)⟩, xFD_0 c f⟩
    · refine x_aload_n rfl rfl ?_
      refine x_dup rfl ?_
      refine x_getfield rfl (by omega) h0 rfl ?_
      refine x_iconst rfl ?_
      refine x_iadd rfl ?_
      refine x_putfield rfl (by omega) h0 (show (4 : Nat) < 7 from by decide) rfl ?_
      refine x_return rfl ⟨_, _, rfl, rfl, ?_⟩
      have e1 : m + 1 = min (m + 1) 17 := by omega
      refine ⟨rfl, ⟨by omega, by omega, _, _, _, by rw [← e1]; exact xu_eq, (xu_ne (by omega) h1), (xu_ne (by omega) h2), (xu_ne (by omega) h3), xty_mono hty (by omega), xcb_17 (by omega)⟩, ?_⟩
      · intro p a1 a2 a3 a4; exact xu_ne a1 rfl
  · refine x_aload_n rfl rfl ?_
    refine x_getfield rfl (by omega) h0 rfl ?_
    refine x_aload_n rfl rfl ?_
    refine x_getfield rfl (by omega) h0 rfl ?_
    refine x_iload_n rfl rfl ?_
    refine x_iastore rfl (by omega) h1 ⟨by omega, by omega⟩ (by omega) ?_
    refine x_aload_n rfl rfl ?_
    refine x_getfield rfl (by omega) (xu_ne (by omega) h0) rfl ?_
    refine x_aload_n rfl rfl ?_
    refine x_getfield rfl (by omega) (xu_ne (by omega) h0) rfl ?_
    refine x_iload_n rfl rfl ?_
    refine x_iastore rfl (by omega) (xu_ne (by omega) h2) ⟨by omega, by omega⟩ (by omega) ?_
    refine x_aload_n rfl rfl ?_
    refine x_getfield rfl (by omega) (xu_ne (by omega) (xu_ne (by omega) h0)) rfl ?_
    refine x_aload_n rfl rfl ?_
    refine x_getfield rfl (by omega) (xu_ne (by omega) (xu_ne (by omega) h0)) rfl ?_
    refine x_iload_n rfl rfl ?_
    refine x_iastore rfl (by omega) (xu_ne (by omega) (xu_ne (by omega) h3)) ⟨by omega, by omega⟩ (by omega) ?_
    refine x_aload_n rfl rfl ?_
    refine x_getfield rfl (by omega) (xu_ne (by omega) (xu_ne (by omega) (xu_ne (by omega) h0))) rfl ?_
    refine x_bipush rfl (by decide) ?_
    refine x_cgt (t := 58) rfl rfl ⟨by omega, by omega⟩ ⟨by omega, by omega⟩ (fun hb45 => ?_) (fun hb45 => ?_)
    · refine x_return rfl ⟨_, _, rfl, rfl, ?_⟩
      exfalso; omega
    · refine x_aload_n rfl rfl ?_
      refine x_dup rfl ?_
      refine x_getfield rfl (by omega) (xu_ne (by omega) (xu_ne (by omega) (xu_ne (by omega) h0))) rfl ?_
      refine x_iconst rfl ?_
      refine x_iadd rfl ?_
      refine x_putfield rfl (by omega) (xu_ne (by omega) (xu_ne (by omega) (xu_ne (by omega) h0))) (show (4 : Nat) < 7 from by decide) rfl ?_
      refine x_return rfl ⟨_, _, rfl, rfl, ?_⟩
      have e1 : m + 1 = min (m + 1) 17 := by omega
      refine ⟨rfl, ⟨by omega, by omega, _, _, _, by rw [← e1]; exact xu_eq, (xu_ne (by omega) (xu_ne (by omega) (xu_ne (by omega) xu_eq))), (xu_ne (by omega) (xu_ne (by omega) xu_eq)), (xu_ne (by omega) xu_eq), ?_, by rw [← e1]; exact xcb_set hcb (by omega) hl1 hl2 hl3⟩, ?_⟩
      · have hm2 : ((m.toNat : Nat) : Int) = m := by omega
        rw [← e1, ← hm2, Int.toNat_natCast]
        exact xty_set (by rw [hm2]; exact hty) ha hb (by omega) (by omega)
      · intro p a1 a2 a3 a4; exact xu_ne a1 (xu_ne a4 (xu_ne a3 (xu_ne a2 rfl)))
theorem xs_53 {v0 : Value} {xs : List Int32} {u : Nat × Nat} {B : List xBt} {c : Nat} {f : Nat → zE} {nmd : Int64} {m d : Int} {al : Value} {a b : Int} (hc : c ≤ 12) (hd : xDR B c f nmd m d al) (ha : 0 ≤ a ∧ a ≤ 208) (hb : 0 ≤ b ∧ b ≤ 208) : xq v0 xs u 53 [(0, .ref (57 + 4 * c)), (1, xi a), (2, xi b)] f (fun r f' => r = none ∧ xDR (B ++ [(a, b, -1)]) c f' nmd (min (m + 1) 17) d al ∧ xFD c f f') := by
  unfold xq
  have hd0 := hd
  obtain ⟨hm1, hm2, fp, ep, ta, h0, h1, h2, h3, hty⟩ := hd0
  refine x_aload_n rfl rfl ?_
  refine x_iload_n rfl rfl ?_
  refine x_iload_n rfl rfl ?_
  refine x_iconst rfl ?_
  refine x_call [_, _, _, _] rfl rfl (show (0 : Nat) ≤ 8 from by decide) (show (4 : Nat) ≤ 4 from by decide) (x_rcv (by omega) h0) (xs_45 hc hd ha hb ⟨by omega, fun _ => by omega⟩) (fun r' f' hP => ?_)
  obtain ⟨rfl, hP1, hP2⟩ := hP
  refine x_return rfl ⟨_, _, rfl, rfl, ?_⟩
  exact ⟨rfl, hP1, hP2⟩
/-- a kept figure -/
def xKF (B : List xBt) (i : Nat) (f : Nat → zE) (nm : Int64) (b d : Int) (al : Value) : Prop := 0 ≤ b ∧ b ≤ 16 ∧ ∃ (fp ep ta : List Int), f (57 + 4 * i) = xfg i nm (xi b) (xi d) al ∧ f (58 + 4 * i) = xr 0 fp ∧ f (59 + 4 * i) = xr 0 ep ∧ f (60 + 4 * i) = xr 0 ta ∧ xty b fp ep ta ∧ (∀ j : Nat, (j : Int) < b → 0 ≤ ta.getD j 0) ∧ xcb B b fp ep ta
theorem x_max {v0 : Value} {xs : List Int32} {u : Nat × Nat} {Q : zO → zX → Prop} {mi pc n : Nat} {lv : zL} {f : Nat → zE} {c : Nat} {v : Value} {r : List Value} {x y : Int} (hc : zcd (zt v0) mi pc = some (.invokestatic n, 1, 1, c, v)) (h8 : zcat (xi x :: r) ≤ 8) (hx : -2147483648 ≤ x ∧ x ≤ 2147483647) (hy : -2147483648 ≤ y ∧ y ≤ 2147483647) (k : xz v0 xs u Q mi (pc + 3) lv (xi (max x y) :: r) f) : xz v0 xs u Q mi pc lv (xi y :: xi x :: r) f := by
  obtain ⟨z1, z2, z3, z4, z5⟩ := zk_za (G := zG xs) (df := zdf (zt v0)) (i := .invokestatic n) (a := 1) (b := 1) (c := c) (v := v) (nL := znl (zt v0) mi) (pc := pc) (lv := lv) (st := xi y :: xi x :: r) (X := (xh f, u)) rfl
  have e : zd 1 (xi y :: xi x :: r) (xh f, u) = some (xi (max x y) :: r, (xh f, u)) := by
    simp only [zd, xi_lt hx hy]
    by_cases h : x < y
    · rw [if_pos h, show max x y = y by omega]
    · rw [if_neg h, show max x y = x by omega]
  exact zwp_jdk ⟨hc, z1, z2, z3⟩ z4 rfl rfl e h8 k
/-- an older call's beat within a call, at its m-th -/
def xsh (m : Int) (b : xBt) : xBt := (b.1, b.2.1, m + b.2.2)
theorem xtake_s {l : List xBt} {k : Nat} (h : k < l.length) : l.take (k + 1) = l.take k ++ [l.getD k (0, 0, 0)] := by
  rw [List.take_succ_eq_append_getElem h, List.getD_eq_getElem?_getD, List.getElem?_eq_getElem h]
  rfl
theorem xs_46l {v0 : Value} {xs : List Int32} {u : Nat × Nat} {B G : List xBt} {c i : Nat} {f0 : Nat → zE} {nmd nm : Int64} {m d b e : Int} {al ali : Value} (hc : c ≤ 12) (hi : i < c) (hk : xKF G i f0 nm b e ali) (hm0 : 0 ≤ m ∧ m ≤ 17) (hdd : -1000 ≤ d ∧ d ≤ 1000) (hee : -1000 ≤ e ∧ e ≤ 1000) : ∀ (w k : Nat) (lv : zL) (f : Nat → zE), (w + k : Int) = b → zlv lv 0 = some (.ref (57 + 4 * c)) → zlv lv 1 = some (.ref (57 + 4 * i)) → zlv lv 2 = some (xi m) → zlv lv 3 = some (xi (k : Nat)) → xDR (B ++ (G.take k).map (xsh m)) c f nmd (min (m + (k : Nat)) 17) d al → xFD c f0 f → xz v0 xs u (fun o X => ∃ r f', o = .inl r ∧ X = (xh f', u) ∧ (fun r f' => r = none ∧ xDR (B ++ G.map (xsh m)) c f' nmd (min (m + b) 17) (max d (e + 1)) al ∧ xFD c f0 f') r f') 46 7 lv [] f := by
  obtain ⟨hb1, hb2, gp, gq, gt, g0, g1, g2, g3, gty, gta, gcb⟩ := hk
  obtain ⟨gl, gB⟩ := gcb hb2
  have gl1 := gty.1
  have gl2 := gty.2.1
  have gl3 := gty.2.2.1
  intro w
  induction w with
  | zero =>
    intro k lv f hw l0 l1 l2 l3 hd hfr
    have hd0 := hd
    obtain ⟨hm1, hm2, fp, ep, ta, h0, h1, h2, h3, hty, hcb⟩ := hd0
    have g0 := (hfr (57 + 4 * i) (by omega) (by omega) (by omega) (by omega)).trans g0
    have g1 := (hfr (58 + 4 * i) (by omega) (by omega) (by omega) (by omega)).trans g1
    have g2 := (hfr (59 + 4 * i) (by omega) (by omega) (by omega) (by omega)).trans g2
    have g3 := (hfr (60 + 4 * i) (by omega) (by omega) (by omega) (by omega)).trans g3
    refine x_iload_n rfl l3 ?_
    refine x_aload_n rfl l1 ?_
    refine x_getfield rfl (by omega) g0 rfl ?_
    refine x_cge (t := 45) rfl rfl ⟨by omega, by omega⟩ ⟨by omega, by omega⟩ (fun hb12 => ?_) (fun hb12 => ?_)
    · refine x_aload_n rfl l0 ?_
      refine x_aload_n rfl l0 ?_
      refine x_getfield rfl (by omega) h0 rfl ?_
      refine x_aload_n rfl l1 ?_
      refine x_getfield rfl (by omega) g0 rfl ?_
      refine x_iconst rfl ?_
      refine x_iadd rfl ?_
      refine x_max rfl (show (2 : Nat) ≤ 8 from by decide) (by omega) (by omega) ?_
      refine x_putfield rfl (by omega) h0 (show (5 : Nat) < 7 from by decide) rfl ?_
      refine x_return rfl ⟨_, _, rfl, rfl, ?_⟩
      refine ⟨rfl, ?_, fun p a1 a2 a3 a4 => xu_ne a1 (hfr p a1 a2 a3 a4)⟩
      have e1 : min (m + b) 17 = min (m + (k : Nat)) 17 := by omega
      rw [e1]
      rw [List.take_of_length_le (by omega)] at hcb
      exact ⟨by omega, by omega, _, _, _, xu_eq, xu_ne (by omega) h1, xu_ne (by omega) h2, xu_ne (by omega) h3, hty, hcb⟩
    · exfalso; omega
  | succ w ih =>
    intro k lv f hw l0 l1 l2 l3 hd hfr
    have hd0 := hd
    obtain ⟨hm1, hm2, fp, ep, ta, h0, h1, h2, h3, hty, hcb⟩ := hd0
    have g0 := (hfr (57 + 4 * i) (by omega) (by omega) (by omega) (by omega)).trans g0
    have g1 := (hfr (58 + 4 * i) (by omega) (by omega) (by omega) (by omega)).trans g1
    have g2 := (hfr (59 + 4 * i) (by omega) (by omega) (by omega) (by omega)).trans g2
    have g3 := (hfr (60 + 4 * i) (by omega) (by omega) (by omega) (by omega)).trans g3
    refine x_iload_n rfl l3 ?_
    refine x_aload_n rfl l1 ?_
    refine x_getfield rfl (by omega) g0 rfl ?_
    refine x_cge (t := 45) rfl rfl ⟨by omega, by omega⟩ ⟨by omega, by omega⟩ (fun hb12 => ?_) (fun hb12 => ?_)
    · exfalso; omega
    · refine x_aload_n rfl l0 ?_
      refine x_aload_n rfl l1 ?_
      refine x_getfield rfl (by omega) g0 rfl ?_
      refine x_iload_n rfl l3 ?_
      refine x_iaload rfl (by omega) g1 ⟨by omega, by omega⟩ (by omega) ?_
      rw [Int.toNat_natCast]
      refine x_aload_n rfl l1 ?_
      refine x_getfield rfl (by omega) g0 rfl ?_
      refine x_iload_n rfl l3 ?_
      refine x_iaload rfl (by omega) g2 ⟨by omega, by omega⟩ (by omega) ?_
      rw [Int.toNat_natCast]
      refine x_iload_n rfl l2 ?_
      refine x_aload_n rfl l1 ?_
      refine x_getfield rfl (by omega) g0 rfl ?_
      refine x_iload_n rfl l3 ?_
      refine x_iaload rfl (by omega) g3 ⟨by omega, by omega⟩ (by omega) ?_
      rw [Int.toNat_natCast]
      have ht1 := gta k (by omega)
      have ht2 := gty.2.2.2.2.2.2 k (by omega)
      have ht3 := gty.2.2.2.2.2.1 k
      refine x_iadd rfl ?_
      refine x_call [_, _, _, _] rfl rfl (show (0 : Nat) ≤ 8 from by decide) (show (4 : Nat) ≤ 4 from by decide) (x_rcv (by omega) h0) (xs_45 hc hd (gty.2.2.2.1 k) (gty.2.2.2.2.1 k) ⟨by omega, fun _ => by omega⟩) (fun r' f' hP => ?_)
      obtain ⟨rfl, hP1, hP2⟩ := hP
      refine x_iinc rfl l3 (show (3 : Nat) < 4 from by decide) ?_
      refine x_goto (t := 7) rfl rfl ?_
      refine ih (k + 1) _ _ (by omega) (xst_ne (by decide) l0 (Or.inl rfl)) (xst_ne (by decide) l1 (Or.inl rfl)) (xst_ne (by decide) l2 (Or.inl rfl)) xst_eq ?_ (xFD_t hfr hP2)
      rw [show min (m + ((k + 1 : Nat) : Int)) 17 = min (min (m + (k : Nat)) 17 + 1) 17 by omega, xtake_s (by omega), List.map_append, ← List.append_assoc, List.map_singleton, ← gB k (by omega)]
      exact hP1
theorem xs_46 {v0 : Value} {xs : List Int32} {u : Nat × Nat} {B G : List xBt} {c i : Nat} {f : Nat → zE} {nmd nm : Int64} {m d b e : Int} {al ali : Value} (hc : c ≤ 12) (hi : i < c) (hk : xKF G i f nm b e ali) (hdd : -1000 ≤ d ∧ d ≤ 1000) (hee : -1000 ≤ e ∧ e ≤ 1000) (hd : xDR B c f nmd m d al) : xq v0 xs u 46 [(0, .ref (57 + 4 * c)), (1, .ref (57 + 4 * i))] f (fun r f' => r = none ∧ xDR (B ++ G.map (xsh m)) c f' nmd (min (m + b) 17) (max d (e + 1)) al ∧ xFD c f f') := by
  unfold xq
  have hd0 := hd
  obtain ⟨hm1, hm2, fp, ep, ta, h0, h1, h2, h3, hty, hcb⟩ := hd0
  refine x_aload_n rfl rfl ?_
  refine x_getfield rfl (by omega) h0 rfl ?_
  refine x_istore_n rfl (show (2 : Nat) < 4 from by decide) ?_
  refine x_iconst rfl ?_
  refine x_istore_n rfl (show (3 : Nat) < 4 from by decide) ?_
  exact xs_46l hc hi hk ⟨hm1, hm2⟩ hdd hee b.toNat 0 _ _ (by have := hk.1; omega) (xst_ne (by decide) (xst_ne (by decide) rfl (Or.inl rfl)) (Or.inl rfl)) (xst_ne (by decide) (xst_ne (by decide) rfl (Or.inl rfl)) (Or.inl rfl)) (xst_ne (by decide) xst_eq (Or.inl rfl)) xst_eq (by rw [show min (m + ((0 : Nat) : Int)) 17 = m by omega, List.take_zero, List.map_nil, List.append_nil]; exact hd) (xFD_0 c f)
/-- a beat danced anew, L beats later -/
def xrs (L : Int) (b : xBt) : xBt := (b.1, b.2.1, if b.2.2 = -1 then -1 else b.2.2 + L)
/-- the rounds 1 to r of what has come since beat n -/
def xrd0 (B : List xBt) (n : Nat) (w : Int) : Nat → List xBt
  | 0 => []
  | r + 1 => xrd0 B n w r ++ (B.drop n).map (xrs (((r + 1 : Nat) : Int) * w))
theorem xs_54i {v0 : Value} {xs : List Int32} {u : Nat × Nat} {Q : zO → zX → Prop} {B E : List xBt} {c : Nat} {nmd : Int64} {m d fr ti : Int} {al : Value} (hc : c ≤ 12) (hm : 0 ≤ m ∧ m ≤ 17) (hfr0 : 0 ≤ fr ∧ fr ≤ m) (hti : 1 ≤ ti ∧ ti ≤ 4) {f0 : Nat → zE} {K Lt rr : Int} (hK : 0 ≤ K ∧ Lt = K + (m - fr)) (hBm : m ≤ 16 → (B.length : Int) = m) (hk : ∀ (lv : zL) (f : Nat → zE), zlv lv 0 = some (.ref (57 + 4 * c)) → zlv lv 1 = some (xi fr) → zlv lv 2 = some (xi ti) → zlv lv 3 = some (xi m) → zlv lv 4 = some (xi rr) → xDR (B ++ E ++ (B.drop fr.toNat).map (xrs Lt)) c f nmd (min (m + K + (m - fr)) 17) d al → xFD c f0 f → xz v0 xs u Q 54 87 lv [] f) : ∀ (w : Nat) (i : Int) (lv : zL) (f : Nat → zE), (w : Int) + i = m → fr ≤ i → zlv lv 0 = some (.ref (57 + 4 * c)) → zlv lv 1 = some (xi fr) → zlv lv 2 = some (xi ti) → zlv lv 3 = some (xi m) → zlv lv 4 = some (xi rr) → zlv lv 5 = some (xi Lt) → zlv lv 6 = some (xi i) → xDR (B ++ E ++ ((B.drop fr.toNat).take (i - fr).toNat).map (xrs Lt)) c f nmd (min (m + K + (i - fr)) 17) d al → xFD c f0 f → xz v0 xs u Q 54 25 lv [] f := by
  intro w
  induction w with
  | zero =>
    intro i lv f hw hi l0 l1 l2 l3 l4 l5 l6 hd hfr
    refine x_iload rfl l6 ?_
    refine x_iload_n rfl l3 ?_
    refine x_cge (t := 87) rfl rfl ⟨by omega, by omega⟩ ⟨by omega, by omega⟩ (fun hb28 => ?_) (fun hb28 => ?_)
    · refine hk _ _ l0 l1 l2 l3 l4 ?_ hfr
      rw [show min (m + K + (m - fr)) 17 = min (m + K + (i - fr)) 17 by omega]
      by_cases h16 : m ≤ 16
      · have hBm2 := hBm h16
        rw [List.take_of_length_le (by rw [List.length_drop]; omega)] at hd
        exact hd
      · obtain ⟨hm1, hm2, fp, ep, ta, h0, h1, h2, h3, hty, hcb⟩ := hd
        exact ⟨hm1, hm2, fp, ep, ta, h0, h1, h2, h3, hty, xcb_17 (by omega)⟩
    · exfalso; omega
  | succ w ih =>
    intro i lv f hw hi l0 l1 l2 l3 l4 l5 l6 hd hfr
    have hd0 := hd
    obtain ⟨hm1, hm2, fp, ep, ta, h0, h1, h2, h3, hty, hcb⟩ := hd0
    have hl1 := hty.1
    have hl2 := hty.2.1
    have hl3 := hty.2.2.1
    refine x_iload rfl l6 ?_
    refine x_iload_n rfl l3 ?_
    refine x_cge (t := 87) rfl rfl ⟨by omega, by omega⟩ ⟨by omega, by omega⟩ (fun hb28 => ?_) (fun hb28 => ?_)
    · exfalso; omega
    · refine x_iload rfl l6 ?_
      refine x_bipush rfl (by decide) ?_
      refine x_cge (t := 87) rfl rfl ⟨by omega, by omega⟩ ⟨by omega, by omega⟩ (fun hb35 => ?_) (fun hb35 => ?_)
      · refine hk _ _ l0 l1 l2 l3 l4 ?_ hfr
        rw [show min (m + K + (m - fr)) 17 = min (m + K + (i - fr)) 17 by omega]
        exact ⟨hm1, hm2, fp, ep, ta, h0, h1, h2, h3, hty, xcb_17 (by omega)⟩
      · refine x_aload_n rfl l0 ?_
        refine x_aload_n rfl l0 ?_
        refine x_getfield rfl (by omega) h0 rfl ?_
        refine x_iload rfl l6 ?_
        refine x_iaload rfl (by omega) h1 ⟨by omega, by omega⟩ (by omega) ?_
        refine x_aload_n rfl l0 ?_
        refine x_getfield rfl (by omega) h0 rfl ?_
        refine x_iload rfl l6 ?_
        refine x_iaload rfl (by omega) h2 ⟨by omega, by omega⟩ (by omega) ?_
        refine x_aload_n rfl l0 ?_
        refine x_getfield rfl (by omega) h0 rfl ?_
        refine x_iload rfl l6 ?_
        refine x_iaload rfl (by omega) h3 ⟨by omega, by omega⟩ (by omega) ?_
        have ht1 := hty.2.2.2.2.2.1 i.toNat
        have hrd : min (m + K + (i - fr)) 17 ≤ 16 → i.toNat - fr.toNat < (B.drop fr.toNat).length ∧ (fp.getD i.toNat 0, ep.getD i.toNat 0, ta.getD i.toNat 0) = (B.drop fr.toNat).getD (i - fr).toNat (0, 0, 0) := fun h16 => by
          have hBm2 := hBm (by omega)
          obtain ⟨kl, kB⟩ := hcb h16
          refine ⟨by rw [List.length_drop]; omega, ?_⟩
          rw [kB i.toNat (by rw [List.length_append, List.length_append]; omega)]
          rw [List.append_assoc, List.getD_eq_getElem?_getD, List.getElem?_append_left (by omega), List.getD_eq_getElem?_getD, List.getElem?_drop, show fr.toNat + (i - fr).toNat = i.toNat by omega]
        have ht2 := hty.2.2.2.2.2.2 i.toNat (by omega)
        refine x_iconst rfl ?_
        refine x_cne (t := 68) rfl rfl ⟨by omega, by omega⟩ ⟨by omega, by omega⟩ (fun hb61 => ?_) (fun hb61 => ?_)
        · refine x_aload_n rfl l0 ?_
          refine x_getfield rfl (by omega) h0 rfl ?_
          refine x_iload rfl l6 ?_
          refine x_iaload rfl (by omega) h3 ⟨by omega, by omega⟩ (by omega) ?_
          refine x_iload rfl l5 ?_
          refine x_iadd rfl ?_
          refine x_call [_, _, _, _] rfl rfl (show (0 : Nat) ≤ 8 from by decide) (show (4 : Nat) ≤ 4 from by decide) (x_rcv (by omega) h0) (xs_45 hc hd (hty.2.2.2.1 i.toNat) (hty.2.2.2.2.1 i.toNat) ⟨by omega, fun _ => by omega⟩) (fun r' f' hP => ?_)
          obtain ⟨rfl, hP1, hP2⟩ := hP
          refine x_iinc rfl l6 (show (6 : Nat) < 7 from by decide) ?_
          refine x_goto (t := 25) rfl rfl ?_
          refine ih (i + 1) _ _ (by omega) (by omega) (xst_ne (by decide) l0 (Or.inl rfl)) (xst_ne (by decide) l1 (Or.inl rfl)) (xst_ne (by decide) l2 (Or.inl rfl)) (xst_ne (by decide) l3 (Or.inl rfl)) (xst_ne (by decide) l4 (Or.inl rfl)) (xst_ne (by decide) l5 (Or.inl rfl)) xst_eq ?_ (xFD_t hfr hP2)
          rw [show min (m + K + (i + 1 - fr)) 17 = min (min (m + K + (i - fr)) 17 + 1) 17 by omega]
          obtain ⟨n1, n2, gp, gq, gt, n0, n3, n4, n5, nty, ncb⟩ := hP1
          refine ⟨n1, n2, gp, gq, gt, n0, n3, n4, n5, nty, ?_⟩
          by_cases h16 : min (m + K + (i - fr)) 17 ≤ 16
          · obtain ⟨q1, q2⟩ := hrd h16
            have e3 : (i + 1 - fr).toNat = (i - fr).toNat + 1 := by omega
            rw [e3, xtake_s (by omega), List.map_append, ← List.append_assoc, List.map_singleton, ← q2]
            unfold xrs
            dsimp only
            rw [if_neg hb61]
            exact ncb
          · exact xcb_17 (by omega)
        · refine x_iconst rfl ?_
          refine x_goto (t := 78) rfl rfl ?_
          refine x_call [_, _, _, _] rfl rfl (show (0 : Nat) ≤ 8 from by decide) (show (4 : Nat) ≤ 4 from by decide) (x_rcv (by omega) h0) (xs_45 hc hd (hty.2.2.2.1 i.toNat) (hty.2.2.2.2.1 i.toNat) ⟨by omega, fun _ => by omega⟩) (fun r' f' hP => ?_)
          obtain ⟨rfl, hP1, hP2⟩ := hP
          refine x_iinc rfl l6 (show (6 : Nat) < 7 from by decide) ?_
          refine x_goto (t := 25) rfl rfl ?_
          refine ih (i + 1) _ _ (by omega) (by omega) (xst_ne (by decide) l0 (Or.inl rfl)) (xst_ne (by decide) l1 (Or.inl rfl)) (xst_ne (by decide) l2 (Or.inl rfl)) (xst_ne (by decide) l3 (Or.inl rfl)) (xst_ne (by decide) l4 (Or.inl rfl)) (xst_ne (by decide) l5 (Or.inl rfl)) xst_eq ?_ (xFD_t hfr hP2)
          rw [show min (m + K + (i + 1 - fr)) 17 = min (min (m + K + (i - fr)) 17 + 1) 17 by omega]
          obtain ⟨n1, n2, gp, gq, gt, n0, n3, n4, n5, nty, ncb⟩ := hP1
          refine ⟨n1, n2, gp, gq, gt, n0, n3, n4, n5, nty, ?_⟩
          by_cases h16 : min (m + K + (i - fr)) 17 ≤ 16
          · obtain ⟨q1, q2⟩ := hrd h16
            have e3 : (i + 1 - fr).toNat = (i - fr).toNat + 1 := by omega
            rw [e3, xtake_s (by omega), List.map_append, ← List.append_assoc, List.map_singleton, ← q2]
            unfold xrs
            dsimp only
            rw [if_pos hb61]
            exact ncb
          · exact xcb_17 (by omega)
theorem xs_54o {v0 : Value} {xs : List Int32} {u : Nat × Nat} {B : List xBt} {c : Nat} {nmd : Int64} {m d fr ti : Int} {al : Value} (hc : c ≤ 12) (hm : 0 ≤ m ∧ m ≤ 17) (hfr0 : 0 ≤ fr ∧ fr ≤ m) (hti : 1 ≤ ti ∧ ti ≤ 4) (hBm : m ≤ 16 → (B.length : Int) = m) {f0 : Nat → zE} : ∀ (w : Nat) (rr : Int) (lv : zL) (f : Nat → zE), (w : Int) + rr = ti → 1 ≤ rr → zlv lv 0 = some (.ref (57 + 4 * c)) → zlv lv 1 = some (xi fr) → zlv lv 2 = some (xi ti) → zlv lv 3 = some (xi m) → zlv lv 4 = some (xi rr) → xDR (B ++ xrd0 B fr.toNat (m - fr) (rr - 1).toNat) c f nmd (min (m + (rr - 1) * (m - fr)) 17) d al → xFD c f0 f → xz v0 xs u (fun o X => ∃ r f', o = .inl r ∧ X = (xh f', u) ∧ (fun r f' => r = none ∧ xDR (B ++ xrd0 B fr.toNat (m - fr) (ti - 1).toNat) c f' nmd (min (m + (ti - 1) * (m - fr)) 17) d al ∧ xFD c f0 f') r f') 54 8 lv [] f := by
  intro w
  induction w with
  | zero =>
    intro rr lv f hw hr l0 l1 l2 l3 l4 hd hfr
    refine x_iload rfl l4 ?_
    refine x_iload_n rfl l2 ?_
    refine x_cge (t := 93) rfl rfl ⟨by omega, by omega⟩ ⟨by omega, by omega⟩ (fun hb11 => ?_) (fun hb11 => ?_)
    · refine x_return rfl ⟨_, _, rfl, rfl, ?_⟩
      have e1 : rr = ti := by omega
      subst e1
      exact ⟨rfl, hd, hfr⟩
    · exfalso; omega
  | succ w ih =>
    intro rr lv f hw hr l0 l1 l2 l3 l4 hd hfr
    refine x_iload rfl l4 ?_
    refine x_iload_n rfl l2 ?_
    refine x_cge (t := 93) rfl rfl ⟨by omega, by omega⟩ ⟨by omega, by omega⟩ (fun hb11 => ?_) (fun hb11 => ?_)
    · exfalso; omega
    · refine x_iload rfl l4 ?_
      refine x_iload_n rfl l3 ?_
      refine x_iload_n rfl l1 ?_
      refine x_isub rfl ?_
      refine x_imul rfl ?_
      refine x_istore rfl (show (5 : Nat) < 7 from by decide) ?_
      refine x_iload_n rfl (xst_ne (by decide) l1 (Or.inl rfl)) ?_
      refine x_istore rfl (show (6 : Nat) < 7 from by decide) ?_
      refine xs_54i (B := B) (E := xrd0 B fr.toNat (m - fr) (rr - 1).toNat) (nmd := nmd) (d := d) (al := al) hc hm hfr0 hti (K := (rr - 1) * (m - fr)) ⟨Int.mul_nonneg (by omega) (by omega), ?_⟩ hBm (fun lv f k0 k1 k2 k3 k4 kd kfr => ?_) (m - fr).toNat fr _ _ (by omega) (Int.le_refl _) (xst_ne (by decide) (xst_ne (by decide) l0 (Or.inl rfl)) (Or.inl rfl)) (xst_ne (by decide) (xst_ne (by decide) l1 (Or.inl rfl)) (Or.inl rfl)) (xst_ne (by decide) (xst_ne (by decide) l2 (Or.inl rfl)) (Or.inl rfl)) (xst_ne (by decide) (xst_ne (by decide) l3 (Or.inl rfl)) (Or.inl rfl)) (xst_ne (by decide) (xst_ne (by decide) l4 (Or.inl rfl)) (Or.inl rfl)) (xst_ne (by decide) xst_eq (Or.inl rfl)) xst_eq ?_ hfr
      · rw [show rr * (m - fr) = ((rr - 1) + 1) * (m - fr) by rw [Int.sub_add_cancel], Int.add_mul, Int.one_mul]
      · refine x_iinc rfl k4 (show (4 : Nat) < 7 from by decide) ?_
        refine x_goto (t := 8) rfl rfl ?_
        refine ih (rr + 1) _ _ (by omega) (by omega) (xst_ne (by decide) k0 (Or.inl rfl)) (xst_ne (by decide) k1 (Or.inl rfl)) (xst_ne (by decide) k2 (Or.inl rfl)) (xst_ne (by decide) k3 (Or.inl rfl)) xst_eq ?_ kfr
        rw [show (rr + 1 - 1) * (m - fr) = (rr - 1) * (m - fr) + (m - fr) by rw [show rr + 1 - 1 = (rr - 1) + 1 by omega, Int.add_mul, Int.one_mul], ← Int.add_assoc, show (rr + 1 - 1).toNat = (rr - 1).toNat + 1 by omega, xrd0, ← List.append_assoc, show (((rr - 1).toNat + 1 : Nat) : Int) = rr by omega]
        exact kd
      · rw [Int.sub_self, Int.add_zero, show (0 : Int).toNat = 0 from rfl, List.take_zero, List.map_nil, List.append_nil]; exact hd
theorem xs_54 {v0 : Value} {xs : List Int32} {u : Nat × Nat} {f : Nat → zE} {B : List xBt} {c : Nat} {nmd : Int64} {m d fr ti : Int} {al : Value} (hc : c ≤ 12) (hm : 0 ≤ m ∧ m ≤ 17) (hfr0 : 0 ≤ fr ∧ fr ≤ m) (hti : 1 ≤ ti ∧ ti ≤ 4) (hd : xDR B c f nmd m d al) : xq v0 xs u 54 [(0, .ref (57 + 4 * c)), (1, xi fr), (2, xi ti)] f (fun r f' => r = none ∧ xDR (B ++ xrd0 B fr.toNat (m - fr) (ti - 1).toNat) c f' nmd (min (m + (ti - 1) * (m - fr)) 17) d al ∧ xFD c f f') := by
  unfold xq
  have hd0 := hd
  obtain ⟨hm1, hm2, fp, ep, ta, h0, h1, h2, h3, hty, hcb⟩ := hd0
  refine x_aload_n rfl rfl ?_
  refine x_getfield rfl (by omega) h0 rfl ?_
  refine x_istore_n rfl (show (3 : Nat) < 7 from by decide) ?_
  refine x_iconst rfl ?_
  refine x_istore rfl (show (4 : Nat) < 7 from by decide) ?_
  exact xs_54o hc hm hfr0 hti (fun h => (hcb h).1) (ti - 1).toNat 1 _ _ (by omega) (Int.le_refl _) (xst_ne (by decide) (xst_ne (by decide) rfl (Or.inl rfl)) (Or.inl rfl)) (xst_ne (by decide) (xst_ne (by decide) rfl (Or.inl rfl)) (Or.inl rfl)) (xst_ne (by decide) (xst_ne (by decide) rfl (Or.inl rfl)) (Or.inl rfl)) (xst_ne (by decide) xst_eq (Or.inl rfl)) xst_eq (by rw [Int.sub_self, Int.zero_mul, Int.add_zero, show min m 17 = m by omega, show (0 : Int).toNat = 0 from rfl, xrd0, List.append_nil]; exact hd) (xFD_0 c f)
/-- a beat of the call itself is taken at its first -/
def xse (b : xBt) : xBt := (b.1, b.2.1, if b.2.2 = -1 then 0 else b.2.2)
/-- the first n beats are settled -/
def xsn (B : List xBt) (n : Nat) : List xBt := (B.take n).map xse ++ B.drop n
theorem xsn_len (B : List xBt) (n : Nat) : (xsn B n).length = B.length := by
  unfold xsn
  rw [List.length_append, List.length_map, List.length_take, List.length_drop]
  omega
theorem xsn_at (B : List xBt) (n j : Nat) (hj : j < B.length) : (xsn B n).getD j (0, 0, 0) = if j < n then xse (B.getD j (0, 0, 0)) else B.getD j (0, 0, 0) := by
  unfold xsn
  rw [List.getD_eq_getElem?_getD, List.getD_eq_getElem?_getD]
  by_cases h : j < n
  · rw [if_pos h, List.getElem?_append_left (by rw [List.length_map, List.length_take]; omega), List.getElem?_map, List.getElem?_take, if_pos h, List.getElem?_eq_getElem hj]
    rfl
  · rw [if_neg h, List.getElem?_append_right (by rw [List.length_map, List.length_take]; omega), List.length_map, List.length_take, List.getElem?_drop, show n + (j - min n B.length) = j by omega]
theorem xsn_all (B : List xBt) : xsn B B.length = B.map xse := by
  unfold xsn
  rw [List.take_length, List.drop_length, List.append_nil]
theorem xs_62l {v0 : Value} {xs : List Int32} {u : Nat × Nat} {B : List xBt} {c : Nat} {f0 : Nat → zE} {nmd : Int64} {m d : Int} {al : Value} {fp ep : List Int} (hc : c ≤ 12) (hm : 0 ≤ m ∧ m ≤ 16) : ∀ (w : Nat) (i : Int) (lv : zL) (f : Nat → zE) (ta : List Int), (w : Int) + i = m ∧ 0 ≤ i → zlv lv 0 = some (.ref (57 + 4 * c)) → zlv lv 1 = some (xi i) → f (57 + 4 * c) = xfg c nmd (xi m) (xi d) al → f (58 + 4 * c) = xr 0 fp → f (59 + 4 * c) = xr 0 ep → f (60 + 4 * c) = xr 0 ta → xty m fp ep ta → (∀ j : Nat, (j : Int) < i → 0 ≤ ta.getD j 0) → xcb (xsn B i.toNat) m fp ep ta → xFD c f0 f → xz v0 xs u (fun o X => ∃ r f', o = .inl r ∧ X = (xh f', u) ∧ (fun r f' => r = none ∧ xKF (B.map xse) c f' nmd m d al ∧ xFD c f0 f') r f') 62 2 lv [] f := by
  intro w
  induction w with
  | zero =>
    intro i lv f ta hw l0 l1 h0 h1 h2 h3 hty hz hcb hfr
    have hl3 := hty.2.2.1
    refine x_iload_n rfl l1 ?_
    refine x_aload_n rfl l0 ?_
    refine x_getfield rfl (by omega) h0 rfl ?_
    refine x_cge (t := 39) rfl rfl ⟨by omega, by omega⟩ ⟨by omega, by omega⟩ (fun hb7 => ?_) (fun hb7 => ?_)
    · refine x_return rfl ⟨_, _, rfl, rfl, ?_⟩
      have e1 : i = m := by omega
      subst e1
      have hcb2 : xcb (B.map xse) i fp ep ta := by
        have hl := (hcb hm.2).1
        rw [xsn_len] at hl
        rw [show i.toNat = B.length by omega, xsn_all] at hcb
        exact hcb
      exact ⟨rfl, ⟨hm.1, hm.2, _, _, _, h0, h1, h2, h3, hty, hz, hcb2⟩, hfr⟩
    · exfalso; omega
  | succ w ih =>
    intro i lv f ta hw l0 l1 h0 h1 h2 h3 hty hz hcb hfr
    have hl3 := hty.2.2.1
    refine x_iload_n rfl l1 ?_
    refine x_aload_n rfl l0 ?_
    refine x_getfield rfl (by omega) h0 rfl ?_
    refine x_cge (t := 39) rfl rfl ⟨by omega, by omega⟩ ⟨by omega, by omega⟩ (fun hb7 => ?_) (fun hb7 => ?_)
    · exfalso; omega
    · refine x_iload_n rfl l1 ?_
      refine x_bipush rfl (by decide) ?_
      refine x_cge (t := 39) rfl rfl ⟨by omega, by omega⟩ ⟨by omega, by omega⟩ (fun hb13 => ?_) (fun hb13 => ?_)
      · exfalso; omega
      · refine x_aload_n rfl l0 ?_
        refine x_getfield rfl (by omega) h0 rfl ?_
        refine x_iload_n rfl l1 ?_
        refine x_iaload rfl (by omega) h3 ⟨by omega, by omega⟩ (by omega) ?_
        have ht1 := hty.2.2.2.2.2.1 i.toNat
        refine x_iconst rfl ?_
        refine x_cne (t := 33) rfl rfl ⟨by omega, by omega⟩ ⟨by omega, by omega⟩ (fun hb23 => ?_) (fun hb23 => ?_)
        · refine x_iinc rfl l1 (show (1 : Nat) < 2 from by decide) ?_
          refine x_goto (t := 2) rfl rfl ?_
          refine ih (i + 1) _ _ ta (by omega) (xst_ne (by decide) l0 (Or.inl rfl)) xst_eq h0 h1 h2 h3 hty (fun j hj => ?_) ?_ hfr
          · by_cases e : (j : Int) = i
            · have := hty.2.2.2.2.2.1 i.toNat; rw [show j = i.toNat by omega]; omega
            · exact hz j (by omega)
          · intro h16
            obtain ⟨c1, c2⟩ := hcb h16
            rw [xsn_len] at c1
            refine ⟨by rw [xsn_len]; exact c1, fun j hj => ?_⟩
            have hj2 := hj
            rw [xsn_len] at hj2
            rw [c2 j (by rw [xsn_len]; exact hj2), xsn_at B _ j hj2, xsn_at B _ j hj2]
            by_cases e : j = i.toNat
            · have c3 := c2 j (by rw [xsn_len]; exact hj2)
              rw [xsn_at B _ j hj2, if_neg (by omega)] at c3
              rw [if_neg (by omega), if_pos (by omega)]
              have c4 : (B.getD j (0, 0, 0)).2.2 = ta.getD i.toNat 0 := by rw [← c3, e]
              unfold xse
              rw [c4, if_neg hb23, ← c4]
            · by_cases e2 : j < i.toNat
              · rw [if_pos e2, if_pos (by omega)]
              · rw [if_neg e2, if_neg (by omega)]
        · refine x_aload_n rfl l0 ?_
          refine x_getfield rfl (by omega) h0 rfl ?_
          refine x_iload_n rfl l1 ?_
          refine x_iconst rfl ?_
          refine x_iastore rfl (by omega) h3 ⟨by omega, by omega⟩ (by omega) ?_
          refine x_iinc rfl l1 (show (1 : Nat) < 2 from by decide) ?_
          refine x_goto (t := 2) rfl rfl ?_
          refine ih (i + 1) _ _ (ta.set i.toNat 0) (by omega) (xst_ne (by decide) l0 (Or.inl rfl)) xst_eq (xu_ne (by omega) h0) (xu_ne (by omega) h1) (xu_ne (by omega) h2) xu_eq ?_ (fun j hj => ?_) ?_ (fun p a1 a2 a3 a4 => xu_ne a4 (hfr p a1 a2 a3 a4))
          · obtain ⟨t1, t2, t3, t4, t5, t6, t7⟩ := hty
            refine ⟨t1, t2, by rw [List.length_set]; exact t3, t4, t5, fun j => ?_, fun j hj => ?_⟩
            · rw [x_gset]; split
              · omega
              · exact t6 j
            · rw [x_gset]; split
              · omega
              · exact t7 j hj
          · rw [x_gset]; split
            · omega
            · rename_i hne
              have hne2 : ¬ (i.toNat = j) := fun e => hne ⟨e, by omega⟩
              exact hz j (by omega)
          · intro h16
            obtain ⟨c1, c2⟩ := hcb h16
            rw [xsn_len] at c1
            refine ⟨by rw [xsn_len]; exact c1, fun j hj => ?_⟩
            have hj2 := hj
            rw [xsn_len] at hj2
            have c3 := c2 j (by rw [xsn_len]; exact hj2)
            rw [xsn_at B _ j hj2] at c3
            rw [xsn_at B _ j hj2, x_gset]
            by_cases e : i.toNat = j
            · rw [if_neg (by omega)] at c3
              rw [if_pos ⟨e, by omega⟩, if_pos (by omega), ← c3]
              unfold xse
              dsimp only
              rw [← e, if_pos hb23]
            · rw [if_neg (fun h => e h.1), c3]
              by_cases e2 : j < i.toNat
              · rw [if_pos e2, if_pos (by omega)]
              · rw [if_neg e2, if_neg (by omega)]
theorem xs_62 {v0 : Value} {xs : List Int32} {u : Nat × Nat} {B : List xBt} {c : Nat} {f : Nat → zE} {nmd : Int64} {m d : Int} {al : Value} (hc : c ≤ 12) (hm16 : m ≤ 16) (hd : xDR B c f nmd m d al) : xq v0 xs u 62 [(0, .ref (57 + 4 * c))] f (fun r f' => r = none ∧ xKF (B.map xse) c f' nmd m d al ∧ xFD c f f') := by
  unfold xq
  obtain ⟨hm1, hm2, fp, ep, ta, h0, h1, h2, h3, hty, hcb⟩ := hd
  refine x_iconst rfl ?_
  refine x_istore_n rfl (show (1 : Nat) < 2 from by decide) ?_
  exact xs_62l hc ⟨hm1, hm16⟩ m.toNat 0 _ _ ta (by omega) (xst_ne (by decide) rfl (Or.inl rfl)) xst_eq h0 h1 h2 h3 hty (fun j hj => by omega) (by show xcb (xsn B 0) m fp ep ta; unfold xsn; rw [List.take_zero, List.map_nil, List.nil_append, List.drop_zero]; exact hcb) (xFD_0 c f)
theorem xs_59 {v0 : Value} {xs : List Int32} {u : Nat × Nat} {B : List xBt} {c : Nat} {f : Nat → zE} {nmd : Int64} {m d : Int} {al : Value} (hc : c ≤ 12) (hd0 : -1000 ≤ d ∧ d ≤ 1000) (hd : xDR B c f nmd m d al) : xq v0 xs u 59 [(0, .ref (57 + 4 * c))] f (fun r f' => r = some (xi (if 16 < m ∨ 6 < d then 1 else 0)) ∧ f' = f) := by
  unfold xq
  obtain ⟨hm1, hm2, fp, ep, ta, h0, h1, h2, h3, hty, hcb⟩ := hd
  refine x_aload_n rfl rfl ?_
  refine x_getfield rfl (by omega) h0 rfl ?_
  refine x_bipush rfl (by decide) ?_
  refine x_cgt (t := 18) rfl rfl ⟨by omega, by omega⟩ ⟨by omega, by omega⟩ (fun hb6 => ?_) (fun hb6 => ?_)
  · refine x_iconst rfl ?_
    refine x_goto (t := 23) rfl rfl ?_
    refine x_ireturn rfl (Or.inr (Or.inl ⟨rfl, by decide⟩)) ⟨_, _, rfl, rfl, ?_⟩
    exact ⟨by rw [if_pos (by omega)], rfl⟩
  · refine x_aload_n rfl rfl ?_
    refine x_getfield rfl (by omega) h0 rfl ?_
    refine x_bipush rfl (by decide) ?_
    refine x_cle (t := 22) rfl rfl ⟨by omega, by omega⟩ ⟨by omega, by omega⟩ (fun hb15 => ?_) (fun hb15 => ?_)
    · refine x_iconst rfl ?_
      refine x_ireturn rfl (Or.inr (Or.inl ⟨rfl, by decide⟩)) ⟨_, _, rfl, rfl, ?_⟩
      exact ⟨by rw [if_neg (by omega)], rfl⟩
    · refine x_iconst rfl ?_
      refine x_goto (t := 23) rfl rfl ?_
      refine x_ireturn rfl (Or.inr (Or.inl ⟨rfl, by decide⟩)) ⟨_, _, rfl, rfl, ?_⟩
      exact ⟨by rw [if_pos (by omega)], rfl⟩
theorem xs_4 {v0 : Value} {xs : List Int32} {u : Nat × Nat} {B : List xBt} {c : Nat} {f : Nat → zE} {nmd : Int64} {m d : Int} {al : Value} (hc : c ≤ 12) (hd : xDR B c f nmd m d al) : xq v0 xs u 4 [(0, .ref (57 + 4 * c))] f (fun r f' => r = none ∧ xDR [] c f' nmd 0 1 al ∧ xFD c f f') := by
  unfold xq
  obtain ⟨hm1, hm2, fp, ep, ta, h0, h1, h2, h3, hty, hcb⟩ := hd
  refine x_aload_n rfl rfl ?_
  refine x_iconst rfl ?_
  refine x_putfield rfl (by omega) h0 (show (4 : Nat) < 7 from by decide) rfl ?_
  refine x_aload_n rfl rfl ?_
  refine x_iconst rfl ?_
  refine x_putfield rfl (by omega) xu_eq (show (5 : Nat) < 7 from by decide) rfl ?_
  refine x_return rfl ⟨_, _, rfl, rfl, ?_⟩
  exact ⟨rfl, ⟨by decide, by decide, fp, ep, ta, xu_eq, xu_ne (by omega) (xu_ne (by omega) h1), xu_ne (by omega) (xu_ne (by omega) h2), xu_ne (by omega) (xu_ne (by omega) h3), xty_mono hty (Or.inl hm1), fun _ => ⟨rfl, fun j hj => absurd hj (Nat.not_lt_zero j)⟩⟩, fun p a1 a2 a3 a4 => xu_ne a1 (xu_ne a1 rfl)⟩
theorem xs_61 {v0 : Value} {xs : List Int32} {u : Nat × Nat} {f : Nat → zE} {c : Nat} {kp pt : Int} (hc : c ≤ 12) (h53 : f 53 = xbo (c : Nat) kp pt) : xq v0 xs u 61 [(0, .ref 53)] f (fun r f' => r = some (xi (if c = 12 then 1 else 0)) ∧ f' = f) := by
  unfold xq
  refine x_aload_n rfl rfl ?_
  refine x_getfield rfl (by decide) h53 rfl ?_
  refine x_bipush rfl (by decide) ?_
  refine x_clt (t := 13) rfl rfl ⟨by omega, by omega⟩ ⟨by omega, by omega⟩ (fun hb6 => ?_) (fun hb6 => ?_)
  · refine x_iconst rfl ?_
    refine x_ireturn rfl (Or.inr (Or.inl ⟨rfl, by decide⟩)) ⟨_, _, rfl, rfl, ?_⟩
    exact ⟨by rw [if_neg (by omega)], rfl⟩
  · refine x_iconst rfl ?_
    refine x_goto (t := 14) rfl rfl ?_
    refine x_ireturn rfl (Or.inr (Or.inl ⟨rfl, by decide⟩)) ⟨_, _, rfl, rfl, ?_⟩
    exact ⟨by rw [if_pos (by omega)], rfl⟩
theorem xs_44 {v0 : Value} {xs : List Int32} {u : Nat × Nat} {f : Nat → zE} {c i : Nat} {kp pt : Int} (hi : i < 13) (h53 : f 53 = xbo (c : Nat) kp pt) (h54 : f 54 = .inr (.inr (.inr (3, xfl)))) : xq v0 xs u 44 [(0, .ref 53), (1, xi (i : Nat))] f (fun r f' => r = some (.ref (57 + 4 * i)) ∧ f' = f) := by
  unfold xq
  refine x_aload_n rfl rfl ?_
  refine x_getfield rfl (by decide) h53 rfl ?_
  refine x_iload_n rfl rfl ?_
  refine x_aaload rfl (by decide) h54 ⟨by omega, show ((i : Nat) : Int) < (13 : Nat) by omega⟩ (show (13 : Nat) ≤ 5000 by decide) (by rw [Int.toNat_natCast]; exact xfl_at (by omega)) ?_
  refine x_areturn rfl ⟨_, _, rfl, rfl, ?_⟩
  exact ⟨rfl, rfl⟩
/-- the rows of parts -/
def xPT (K E : List (Int × Int)) (pt : Int) (f : Nat → zE) : Prop := ∃ se at' : List Int, f 55 = xr 0 se ∧ f 56 = xr 0 at' ∧ se.length = 208 ∧ at'.length = 208 ∧ (∀ j : Nat, 0 ≤ se.getD j 0 ∧ se.getD j 0 ≤ 12) ∧ (∀ j : Nat, 0 ≤ at'.getD j 0 ∧ at'.getD j 0 ≤ 6) ∧ (K.length : Int) ≤ pt ∧ (∀ j, j < K.length → (se.getD j 0, at'.getD j 0) = K.getD j (0, 0)) ∧ ((K ++ E).length ≤ 208 → ((K ++ E).length : Int) = pt ∧ ∀ j, j < (K ++ E).length → (se.getD j 0, at'.getD j 0) = (K ++ E).getD j (0, 0))
theorem xs_51 {v0 : Value} {xs : List Int32} {u : Nat × Nat} {f : Nat → zE} {K E : List (Int × Int)} {c : Nat} {kp pt s a : Int} (hpt : 0 ≤ pt ∧ pt ≤ 208) (hs : 0 ≤ s ∧ s ≤ 12) (ha : 0 ≤ a ∧ a ≤ 6) (h53 : f 53 = xbo (c : Nat) kp pt) (hP : xPT K E pt f) : xq v0 xs u 51 [(0, .ref 53), (1, xi s), (2, xi a)] f (fun r f' => r = none ∧ ∃ pt' : Int, (0 ≤ pt' ∧ pt' ≤ 208) ∧ f' 53 = xbo (c : Nat) kp pt' ∧ xPT K (E ++ [(s, a)]) pt' f' ∧ ∀ p, p ≠ 53 → p ≠ 55 → p ≠ 56 → f' p = f p) := by
  unfold xq
  obtain ⟨se, at', h55, h56, hl1, hl2, h1, h2, hkp, hK, hcn⟩ := hP
  refine x_aload_n rfl rfl ?_
  refine x_getfield rfl (by decide) h53 rfl ?_
  refine x_aload_n rfl rfl ?_
  refine x_getfield rfl (by decide) h53 rfl ?_
  refine x_len rfl (by decide) h55 ?_
  refine x_cge (t := 42) rfl rfl ⟨by omega, by omega⟩ ⟨by omega, by omega⟩ (fun hb9 => ?_) (fun hb9 => ?_)
  · refine x_return rfl ⟨_, _, rfl, rfl, ?_⟩
    refine ⟨rfl, pt, hpt, h53, ⟨se, at', h55, h56, hl1, hl2, h1, h2, hkp, hK, fun hl => ?_⟩, fun p _ _ _ => rfl⟩
    rw [← List.append_assoc, List.length_append, List.length_singleton] at hl
    have := (hcn (by omega)).1
    omega
  · refine x_aload_n rfl rfl ?_
    refine x_getfield rfl (by decide) h53 rfl ?_
    refine x_aload_n rfl rfl ?_
    refine x_getfield rfl (by decide) h53 rfl ?_
    refine x_iload_n rfl rfl ?_
    refine x_iastore rfl (by decide) h55 ⟨by omega, by omega⟩ (by omega) ?_
    refine x_aload_n rfl rfl ?_
    refine x_getfield rfl (by decide) (xu_ne (by decide) h53) rfl ?_
    refine x_aload_n rfl rfl ?_
    refine x_getfield rfl (by decide) (xu_ne (by decide) h53) rfl ?_
    refine x_iload_n rfl rfl ?_
    refine x_iastore rfl (by decide) (xu_ne (by decide) h56) ⟨by omega, by omega⟩ (by omega) ?_
    refine x_aload_n rfl rfl ?_
    refine x_dup rfl ?_
    refine x_getfield rfl (by decide) (xu_ne (by decide) (xu_ne (by decide) h53)) rfl ?_
    refine x_iconst rfl ?_
    refine x_iadd rfl ?_
    refine x_putfield rfl (by decide) (xu_ne (by decide) (xu_ne (by decide) h53)) (show (5 : Nat) < 6 from by decide) rfl ?_
    refine x_return rfl ⟨_, _, rfl, rfl, ?_⟩
    refine ⟨rfl, pt + 1, by omega, xu_eq, ⟨_, _, xu_ne (by decide) (xu_ne (by decide) xu_eq), xu_ne (by decide) xu_eq, by rw [List.length_set]; exact hl1, by rw [List.length_set]; exact hl2, fun j => ?_, fun j => ?_, by omega, fun j hj => ?_, fun hl => ?_⟩, fun p a1 a2 a3 => xu_ne a1 (xu_ne a3 (xu_ne a2 rfl))⟩
    · rw [x_gset]; split
      · exact hs
      · exact h1 j
    · rw [x_gset]; split
      · exact ha
      · exact h2 j
    · rw [x_gset, x_gset, if_neg (by omega), if_neg (by omega)]
      exact hK j hj
    · rw [← List.append_assoc, List.length_append, List.length_singleton] at hl
      obtain ⟨e1, e2⟩ := hcn (by omega)
      refine ⟨by rw [← List.append_assoc, List.length_append, List.length_singleton]; omega, fun j hj => ?_⟩
      rw [← List.append_assoc, List.length_append, List.length_singleton] at hj
      rw [x_gset, x_gset, ← List.append_assoc]
      by_cases e : pt.toNat = j
      · rw [if_pos ⟨e, by omega⟩, if_pos ⟨e, by omega⟩, List.getD_eq_getElem?_getD, List.getElem?_append_right (by omega), show j - (K ++ E).length = 0 by omega]
        rfl
      · rw [if_neg (fun h => e h.1), if_neg (fun h => e h.1), e2 j (by omega), List.getD_eq_getElem?_getD, List.getD_eq_getElem?_getD, List.getElem?_append_left (l₁ := K ++ E) (l₂ := [(s, a)]) (by omega)]
