/-! The model dances: 124. -/
theorem xs_89 {v0 : Value} {xs : List Int32} {u : Nat × Nat} {f : Nat → zE} {fs : List Value} {ca dn cl c : Int} (hB : sMB f fs ca dn cl) (hc : -2147483648 ≤ c ∧ c ≤ 2147483647) (hca : 0 ≤ ca ∧ ca ≤ 12) : xq v0 xs u 89 [(0, .ref 177), (1, xi c)] f (fun r' f' => r' = some (xi (if 0 ≤ c ∧ c < ca then 1 else 0)) ∧ f' = f) := by
  unfold xq
  obtain ⟨⟨h177, hfl, ⟨f11, f13, f14, f15, f17, f18⟩, h25, h26, h27⟩, ⟨a1, a2, a3, a4, a5, a6⟩, h9, h31, h30⟩ := hB
  refine x_iload_n rfl rfl ?_
  refine x_iflt (t := 16) rfl rfl hc (fun h1 => ?_) (fun h1 => ?_)
  · refine x_iconst rfl ?_
    exact x_ireturn rfl (Or.inr (Or.inl ⟨rfl, by decide⟩)) ⟨_, _, rfl, rfl, by rw [if_neg (by omega)], rfl⟩
  · refine x_iload_n rfl rfl ?_
    refine x_aload_n rfl rfl ?_
    refine x_getfield rfl (by decide) h177 h9 ?_
    refine x_cge (t := 16) rfl rfl hc ⟨by omega, by omega⟩ (fun h2 => ?_) (fun h2 => ?_)
    · refine x_iconst rfl ?_
      exact x_ireturn rfl (Or.inr (Or.inl ⟨rfl, by decide⟩)) ⟨_, _, rfl, rfl, by rw [if_neg (by omega)], rfl⟩
    · refine x_iconst rfl ?_
      refine x_goto (t := 17) rfl rfl ?_
      exact x_ireturn rfl (Or.inr (Or.inl ⟨rfl, by decide⟩)) ⟨_, _, rfl, rfl, by rw [if_pos ⟨h1, h2⟩], rfl⟩
/-- what a dance comes to -/
def sPF (K : List (Int × Int)) (G : Nat → List xBt) (n : Nat) (back : Bool) (c : Int) (S : sS) : Int × Int × sS := if 0 ≤ c ∧ c < (n : Nat) then (if S.2.1.length = 24 then (2, 0, S) else if sres (sbt K (G c.toNat)) back S.1 (G c.toNat).length = 0 then (0, ((G c.toNat).length : Nat), (srow (sbt K (G c.toNat)) back S.1 (G c.toNat).length, S.2.1 ++ [(c.toNat, back, S.1)], 0)) else (2, 0, (S.1, S.2.1, sres (sbt K (G c.toNat)) back S.1 (G c.toNat).length))) else (1, 0, S)
def sMT (f : Nat → zE) (n : Nat) (S : sS) : Prop := (∃ fs : List Value, sMB f fs (n : Nat) (S.2.1.length : Nat) S.2.2) ∧ sMX f S.1 ∧ sMJ f S.2.1 ∧ ∃ ax ay af : List Int, sMC f ax ay af
def sCD (f : Nat → zE) (t : Int) : Prop := ∃ fs : List Value, f 177 = .inl (10, fs) ∧ fs[0]? = some (xi t)
theorem sH_app (H : List sHE) (e : sHE) (i : Nat) : (H ++ [e]).getD i sH0 = if i < H.length then H.getD i sH0 else if i = H.length then e else sH0 := by
  rw [List.getD_eq_getElem?_getD]
  by_cases h : i < H.length
  · rw [if_pos h, List.getElem?_append_left h, ← List.getD_eq_getElem?_getD]
  · rw [if_neg h, List.getElem?_append_right (by omega)]
    by_cases h2 : i = H.length
    · rw [if_pos h2, h2, Nat.sub_self]
      rfl
    · rw [if_neg h2, List.getElem?_eq_none (by simp; omega)]
      rfl
theorem xs_124l {v0 : Value} {xs : List Int32} {u : Nat × Nat} {Q : zO → zX → Prop} {f0 : Nat → zE} {fs : List Value} {ca dn cl c : Int} {back : Bool} {cur : Nat → Int} {be : List Int} (hB : sMB f0 fs ca dn cl) (hX : sMX f0 cur) (hdn : 0 ≤ dn ∧ dn < 24)
    (hkk : ∀ (lv : zL) (f : Nat → zE), zlv lv 0 = some (.ref 177) → zlv lv 1 = some (xi c) → zlv lv 2 = some (xi (if back = true then 1 else 0)) → (∃ bl : List Int, f 197 = xr 0 bl ∧ bl.length = 192 ∧ (∀ j : Nat, (j : Int) < 8 * dn → bl.getD j 0 = be.getD j 0) ∧ ∀ e : Nat, e < 8 → bl.getD (8 * dn + (e : Nat)).toNat 0 = cur e) → (∀ q, q ≠ 197 → f q = f0 q) → xz v0 xs u Q 124 133 lv [] f) : ∀ (w d : Nat) (lv : zL) (f : Nat → zE), w + d = 8 → zlv lv 0 = some (.ref 177) → zlv lv 1 = some (xi c) → zlv lv 2 = some (xi (if back = true then 1 else 0)) → zlv lv 3 = some (xi (d : Nat)) → (∃ bl : List Int, f 197 = xr 0 bl ∧ bl.length = 192 ∧ (∀ j : Nat, (j : Int) < 8 * dn → bl.getD j 0 = be.getD j 0) ∧ ∀ e : Nat, e < d → bl.getD (8 * dn + (e : Nat)).toNat 0 = cur e) → (∀ q, q ≠ 197 → f q = f0 q) → xz v0 xs u Q 124 82 lv [] f := by
  obtain ⟨⟨h177, hfl, ⟨f11, f13, f14, f15, f17, f18⟩, h25, h26, h27⟩, ⟨a1, a2, a3, a4, a5, a6⟩, h9, h31, h30⟩ := hB
  obtain ⟨mx, my, mf, h189, h190, h191, ⟨x1, x2, x3⟩, hxyf⟩ := hX
  intro w
  induction w with
  | zero =>
    intro d lv f hw l0 l1 l2 l3 hbe hfr
    have e8 : d = 8 := by omega
    subst e8
    refine x_iload_n rfl l3 ?_
    refine x_bipush rfl (by decide) ?_
    refine x_cge (t := 133) rfl rfl (by decide) (by decide) (fun _ => ?_) (fun h => absurd h (by decide))
    exact hkk lv f l0 l1 l2 hbe hfr
  | succ w ih =>
    intro d lv f hw l0 l1 l2 l3 hbe hfr
    obtain ⟨bl, w1, w2, w3, w4⟩ := hbe
    have hd : d < 8 := by omega
    obtain ⟨⟨g1, g2, g3⟩, -⟩ := hxyf d hd
    refine x_iload_n rfl l3 ?_
    refine x_bipush rfl (by decide) ?_
    refine x_cge (t := 133) rfl rfl ⟨by omega, by omega⟩ (by decide) (fun h => absurd h (by omega)) (fun _ => ?_)
    refine x_aload_n rfl l0 ?_
    refine x_getfield rfl (by decide) ((hfr 177 (by decide)).trans h177) a6 ?_
    refine x_bipush rfl (by decide) ?_
    refine x_aload_n rfl l0 ?_
    refine x_getfield rfl (by decide) ((hfr 177 (by decide)).trans h177) h31 ?_
    refine x_imul rfl ?_
    refine x_iload_n rfl l3 ?_
    refine x_iadd rfl ?_
    refine x_iconst rfl ?_
    refine x_bipush rfl (by decide) ?_
    refine x_aload_n rfl l0 ?_
    refine x_getfield rfl (by decide) ((hfr 177 (by decide)).trans h177) a2 ?_
    refine x_iload_n rfl l3 ?_
    refine x_iaload rfl (by decide) ((hfr 190 (by decide)).trans h190) ⟨by omega, by omega⟩ (by omega) ?_
    rw [Int.toNat_natCast, g2]
    refine x_imul rfl ?_
    refine x_aload_n rfl l0 ?_
    refine x_getfield rfl (by decide) ((hfr 177 (by decide)).trans h177) a1 ?_
    refine x_iload_n rfl l3 ?_
    refine x_iaload rfl (by decide) ((hfr 189 (by decide)).trans h189) ⟨by omega, by omega⟩ (by omega) ?_
    rw [Int.toNat_natCast, g1]
    refine x_iadd rfl ?_
    refine x_imul rfl ?_
    refine x_aload_n rfl l0 ?_
    refine x_getfield rfl (by decide) ((hfr 177 (by decide)).trans h177) a3 ?_
    refine x_iload_n rfl l3 ?_
    refine x_iaload rfl (by decide) ((hfr 191 (by decide)).trans h191) ⟨by omega, by omega⟩ (by omega) ?_
    rw [Int.toNat_natCast, g3]
    refine x_iadd rfl ?_
    rw [← s_eq (cur d)]
    refine x_iastore rfl (by decide) w1 ⟨by omega, by omega⟩ (by omega) ?_
    refine x_iinc rfl l3 (show (3 : Nat) < 4 from by decide) ?_
    refine x_goto (t := 82) rfl rfl ?_
    refine ih (d + 1) _ _ (by omega) (xst_ne (by decide) l0 (Or.inl rfl)) (xst_ne (by decide) l1 (Or.inl rfl)) (xst_ne (by decide) l2 (Or.inl rfl)) xst_eq ⟨_, xu_eq, by rw [List.length_set]; exact w2, fun j hj => ?_, fun e he => ?_⟩ (fun q b1 => xu_ne b1 (hfr q b1))
    · rw [x_gset, if_neg (by omega)]; exact w3 j hj
    · rw [x_gset]
      by_cases h2 : d = e
      · subst h2
        rw [if_pos ⟨rfl, by omega⟩]
      · rw [if_neg (by omega)]
        exact w4 e (by omega)
theorem xs_124 {v0 : Value} {xs : List Int32} {u : Nat × Nat} {f : Nat → zE} {K : List (Int × Int)} {G : Nat → List xBt} {n : Nat} {back : Bool} {c : Int} {S : sS} (hT : sMT f n S) (hn : n ≤ 12) (hK : ∀ c, c < n → sKM f K c (G c)) (hG : ∀ c, c < n → sGok K (G c)) (hc : -2147483648 ≤ c ∧ c ≤ 2147483647) : xq v0 xs u 124 [(0, .ref 177), (1, xi c), (2, xi (if back = true then 1 else 0))] f (fun r' f' => r' = some (xi (sPF K G n back c S).2.1) ∧ sCD f' (sPF K G n back c S).1 ∧ sMT f' n (sPF K G n back c S).2.2 ∧ ∀ q, q ≠ 177 → ¬ (189 ≤ q ∧ q ≤ 197) → f' q = f q) := by
  unfold xq
  obtain ⟨⟨fs, hB⟩, hX, hJ, ax0, ay0, af0, hmc⟩ := hT
  have hB0 := hB
  obtain ⟨⟨h177, hfl, ⟨f11, f13, f14, f15, f17, f18⟩, h25, h26, h27⟩, ⟨a1, a2, a3, a4, a5, a6⟩, h9, h31, h30⟩ := hB
  have h24 := hJ.1
  refine x_aload_n rfl rfl ?_
  refine x_aload_n rfl rfl ?_
  refine x_iload_n rfl rfl ?_
  refine x_call [_, _] rfl rfl (show (1 : Nat) ≤ 8 from by decide) (show (2 : Nat) ≤ 2 from by decide) (x_rcv (by decide) h177) (xs_89 hB0 hc ⟨by omega, by omega⟩) ?_
  intro r' f1 hP
  obtain ⟨rfl, hPe⟩ := hP
  subst f1
  by_cases hcc : 0 ≤ c ∧ c < ((n : Nat) : Int)
  rotate_left
  · rw [if_neg hcc]
    refine x_ifne (t := 13) rfl rfl (by decide) (fun h => absurd rfl h) (fun _ => ?_)
    refine x_iconst rfl ?_
    refine x_goto (t := 27) rfl rfl ?_
    refine x_putfield rfl (by decide) h177 (show (0 : Nat) < _ from by rw [hfl]; decide) rfl ?_
    refine x_aload_n rfl rfl ?_
    refine x_getfield rfl (by decide) xu_eq (sget_eq (by rw [hfl]; decide)) ?_
    refine x_ifle (t := 39) rfl rfl (by decide) (fun h => absurd h (by decide)) (fun _ => ?_)
    refine x_iconst rfl ?_
    have e : sPF K G n back c S = (1, 0, S) := by unfold sPF; rw [if_neg hcc]
    rw [e]
    exact x_ireturn rfl (Or.inl rfl) ⟨_, _, rfl, rfl, rfl, ⟨_, xu_eq, sget_eq (by rw [hfl]; decide)⟩, ⟨⟨_, sMB_0 hB0 xu_eq⟩, sMX_f hX (fun q _ _ => xu_ne (by omega) rfl), sMJ_f hJ (fun q _ _ => xu_ne (by omega) rfl), ax0, ay0, af0, xu_ne (by decide) hmc.1, xu_ne (by decide) hmc.2.1, xu_ne (by decide) hmc.2.2.1, hmc.2.2.2⟩, fun q b1 _ => xu_ne b1 rfl⟩
  rw [if_pos hcc]
  refine x_ifne (t := 13) rfl rfl (by decide) (fun _ => ?_) (fun h => absurd h (by decide))
  refine x_aload_n rfl rfl ?_
  refine x_getfield rfl (by decide) h177 h31 ?_
  refine x_bipush rfl (by decide) ?_
  refine x_cne (t := 26) rfl rfl ⟨by omega, by omega⟩ (by decide) (fun hd => ?_) (fun hd => ?_)
  rotate_left
  · refine x_iconst rfl ?_
    refine x_goto (t := 27) rfl rfl ?_
    refine x_putfield rfl (by decide) h177 (show (0 : Nat) < _ from by rw [hfl]; decide) rfl ?_
    refine x_aload_n rfl rfl ?_
    refine x_getfield rfl (by decide) xu_eq (sget_eq (by rw [hfl]; decide)) ?_
    refine x_ifle (t := 39) rfl rfl (by decide) (fun h => absurd h (by decide)) (fun _ => ?_)
    refine x_iconst rfl ?_
    have e : sPF K G n back c S = (2, 0, S) := by unfold sPF; rw [if_pos hcc, if_pos (by omega)]
    rw [e]
    exact x_ireturn rfl (Or.inl rfl) ⟨_, _, rfl, rfl, rfl, ⟨_, xu_eq, sget_eq (by rw [hfl]; decide)⟩, ⟨⟨_, sMB_0 hB0 xu_eq⟩, sMX_f hX (fun q _ _ => xu_ne (by omega) rfl), sMJ_f hJ (fun q _ _ => xu_ne (by omega) rfl), ax0, ay0, af0, xu_ne (by decide) hmc.1, xu_ne (by decide) hmc.2.1, xu_ne (by decide) hmc.2.2.1, hmc.2.2.2⟩, fun q b1 _ => xu_ne b1 rfl⟩
  refine x_iconst rfl ?_
  refine x_putfield rfl (by decide) h177 (show (0 : Nat) < _ from by rw [hfl]; decide) rfl ?_
  refine x_aload_n rfl rfl ?_
  refine x_getfield rfl (by decide) xu_eq (sget_eq (by rw [hfl]; decide)) ?_
  refine x_ifle (t := 39) rfl rfl (by decide) (fun _ => ?_) (fun h => absurd h (by decide))
  have h24b : ¬ S.2.1.length = 24 := by omega
  obtain ⟨cn, rfl⟩ : ∃ k : Nat, c = (k : Int) := ⟨c.toNat, by omega⟩
  have hcn : cn < n := by omega
  have hB1 := sMB_0 (f' := xu f 177 (.inl (10, fs.set 0 (xi 0)))) hB0 xu_eq
  have hX1 : sMX (xu f 177 (.inl (10, fs.set 0 (xi 0)))) S.1 := sMX_f hX (fun q _ _ => xu_ne (by omega) rfl)
  have hmc1 : sMC (xu f 177 (.inl (10, fs.set 0 (xi 0)))) ax0 ay0 af0 := ⟨xu_ne (by decide) hmc.1, xu_ne (by decide) hmc.2.1, xu_ne (by decide) hmc.2.2.1, hmc.2.2.2⟩
  refine x_aload_n rfl rfl ?_
  refine x_call [_] rfl rfl (show (0 : Nat) ≤ 8 from by decide) (show (1 : Nat) ≤ 2 from by decide) (x_rcv (by decide) xu_eq) (xs_110 hB1 hX1 hmc1) ?_
  intro r' f2 hP
  obtain ⟨rfl, ⟨ax, ay, af, hmc2, hml⟩, hfr2⟩ := hP
  have e177 : f2 177 = .inl (10, fs.set 0 (xi 0)) := (hfr2 177 (by decide) (by decide) (by decide)).trans xu_eq
  have hB2 := sMB_f hB1 (f' := f2) (hfr2 177 (by decide) (by decide) (by decide))
  have hfa : ∀ q, q ≠ 177 → q ≠ 192 → q ≠ 193 → q ≠ 194 → f2 q = f q := fun q b0 b1 b2 b3 => (hfr2 q b1 b2 b3).trans (xu_ne b0 rfl)
  have hKM2 : sKM f2 K cn (G cn) := sKM_f (hK cn hcn) (fun q _ _ => hfa q (by omega) (by omega) (by omega) (by omega))
  refine x_aload_n rfl rfl ?_
  refine x_iload_n rfl rfl ?_
  refine x_iload_n rfl rfl ?_
  refine x_call [_, _, _] rfl rfl (show (0 : Nat) ≤ 8 from by decide) (show (3 : Nat) ≤ 10 from by decide) (x_rcv (by decide) e177) (xs_122 hKM2 (hG cn hcn) hB2.1 hmc2 hml) ?_
  intro r' f3 hP
  obtain ⟨rfl, ⟨fs3, hm3, hk3, hbad⟩, ⟨bx, bY, bf, hmc3, hgood⟩, hfr3⟩ := hP
  have hB3 := sMB_k hB2 hm3 hk3
  have hfb : ∀ q, q ≠ 177 → q ≠ 192 → q ≠ 193 → q ≠ 194 → f3 q = f q := fun q b0 b1 b2 b3 => (hfr3 q b0 b1 b2 b3).trans (hfa q b0 b1 b2 b3)
  have hX3 : sMX f3 S.1 := sMX_f hX (fun q _ _ => hfb q (by omega) (by omega) (by omega) (by omega))
  have hJ3 : sMJ f3 S.2.1 := sMJ_f hJ (fun q _ _ => hfb q (by omega) (by omega) (by omega) (by omega))
  have hB30 := hB3
  obtain ⟨⟨gh177, ghfl, ⟨gf11, gf13, gf14, gf15, gf17, gf18⟩, gh25, gh26, gh27⟩, ⟨ga1, ga2, ga3, ga4, ga5, ga6⟩, gh9, gh31, gh30⟩ := hB3
  have hlen16 := (hG cn hcn).1
  by_cases hs : sres (sbt K (G cn)) back S.1 (G cn).length = 0
  rotate_left
  · rw [if_neg hs]
    obtain ⟨b, k, q1, q2, q3⟩ := hbad hs
    refine x_ifne (t := 75) rfl rfl (by decide) (fun h => absurd rfl h) (fun _ => ?_)
    refine x_aload_n rfl rfl ?_
    refine x_bipush rfl (by decide) ?_
    refine x_aload_n rfl rfl ?_
    refine x_getfield rfl (by decide) gh177 q1 ?_
    refine x_imul rfl ?_
    refine x_aload_n rfl rfl ?_
    refine x_getfield rfl (by decide) gh177 q2 ?_
    refine x_iadd rfl ?_
    rw [q3]
    refine x_putfield rfl (by decide) gh177 (show (30 : Nat) < _ from by rw [ghfl]; decide) rfl ?_
    refine x_aload_n rfl rfl ?_
    refine x_iconst rfl ?_
    refine x_putfield rfl (by decide) xu_eq (show (0 : Nat) < _ from by rw [(slen ghfl)]; decide) rfl ?_
    refine x_iconst rfl ?_
    have e : sPF K G n back (cn : Nat) S = (2, 0, (S.1, S.2.1, sres (sbt K (G cn)) back S.1 (G cn).length)) := by unfold sPF; rw [if_pos hcc, if_neg h24b, Int.toNat_natCast, if_neg hs]
    rw [e]
    refine x_ireturn rfl (Or.inl rfl) ⟨_, _, rfl, rfl, rfl, ⟨_, xu_eq, sget_eq (by rw [slen ghfl]; decide)⟩, ⟨⟨_, sMB_0 (sMB_30 (f' := fun _ => .inl (10, fs3.set 30 (xi (sres (sbt K (G cn)) back S.1 (G cn).length)))) hB30 rfl) xu_eq⟩, sMX_f hX3 (fun q _ _ => xu_ne (by omega) (xu_ne (by omega) rfl)), sMJ_f hJ3 (fun q _ _ => xu_ne (by omega) (xu_ne (by omega) rfl)), bx, bY, bf, xu_ne (by decide) (xu_ne (by decide) hmc3.1), xu_ne (by decide) (xu_ne (by decide) hmc3.2.1), xu_ne (by decide) (xu_ne (by decide) hmc3.2.2.1), hmc3.2.2.2⟩, fun q b1 b2 => xu_ne b1 (xu_ne b1 (hfb q b1 (by omega) (by omega) (by omega)))⟩
  rw [if_pos hs]
  have hrows := hgood hs
  obtain ⟨hj24, wl, bl, be, j195, j196, j197, ⟨y1, y2, y3⟩, hji⟩ := id hJ3
  refine x_ifne (t := 75) rfl rfl (by decide) (fun _ => ?_) (fun h => absurd h (by decide))
  refine x_aload_n rfl rfl ?_
  refine x_iconst rfl ?_
  refine x_putfield rfl (by decide) gh177 (show (30 : Nat) < _ from by rw [ghfl]; decide) rfl ?_
  refine x_iconst rfl ?_
  refine x_istore_n rfl (show (3 : Nat) < 4 from by decide) ?_
  have hB4 := sMB_30 (f' := xu f3 177 (.inl (10, fs3.set 30 (xi 0)))) hB30 xu_eq
  have hX4 : sMX (xu f3 177 (.inl (10, fs3.set 30 (xi 0)))) S.1 := sMX_f hX3 (fun q _ _ => xu_ne (by omega) rfl)
  refine xs_124l (be := be) hB4 hX4 ⟨by omega, by omega⟩ (fun lv2 f4 m0 m1 m2 hbe hfr4 => ?_) 8 0 _ _ rfl (xst_ne (by decide) rfl (Or.inl rfl)) (xst_ne (by decide) rfl (Or.inl rfl)) (xst_ne (by decide) rfl (Or.inl rfl)) xst_eq ⟨be, xu_ne (by decide) j197, y3, fun _ _ => rfl, fun e he => absurd he (Nat.not_lt_zero _)⟩ (fun _ _ => rfl)
  obtain ⟨be4, e197, e1, e2, e3⟩ := hbe
  have e177b : f4 177 = .inl (10, fs3.set 30 (xi 0)) := (hfr4 177 (by decide)).trans xu_eq
  have e195 : f4 195 = xr 0 wl := (hfr4 195 (by decide)).trans (xu_ne (by decide) j195)
  have e196 : f4 196 = xr 2 bl := (hfr4 196 (by decide)).trans (xu_ne (by decide) j196)
  have hfc : ∀ q, q ≠ 177 → q ≠ 197 → q ≠ 192 → q ≠ 193 → q ≠ 194 → f4 q = f q := fun q b0 b4 b1 b2 b3 => (hfr4 q b4).trans (xu_ne b0 (hfb q b0 b1 b2 b3))
  obtain ⟨-, cnl, tk, pf, pq, se, at', k180, -, -, -, -, -, ⟨kl, -⟩, hcnt, -⟩ := hK cn hcn
  have e180 : f4 180 = xr 0 cnl := (hfc 180 (by decide) (by decide) (by decide) (by decide) (by decide)).trans k180
  refine x_aload_n rfl m0 ?_
  refine x_getfield rfl (by decide) e177b (sget_ne (by decide) ga4) ?_
  refine x_aload_n rfl m0 ?_
  refine x_getfield rfl (by decide) e177b (sget_ne (by decide) gh31) ?_
  refine x_iload_n rfl m1 ?_
  refine x_iastore rfl (by decide) e195 ⟨by omega, by omega⟩ (by omega) ?_
  refine x_aload_n rfl m0 ?_
  refine x_getfield rfl (by decide) (xu_ne (by decide) e177b) (sget_ne (by decide) ga5) ?_
  refine x_aload_n rfl m0 ?_
  refine x_getfield rfl (by decide) (xu_ne (by decide) e177b) (sget_ne (by decide) gh31) ?_
  refine x_iload_n rfl m2 ?_
  refine x_bastore rfl (by decide) (xu_ne (by decide) e196) ⟨by omega, by omega⟩ (by omega) (by cases back <;> decide) ?_
  refine x_aload_n rfl m0 ?_
  refine x_dup rfl ?_
  refine x_getfield rfl (by decide) (xu_ne (by decide) (xu_ne (by decide) e177b)) (sget_ne (by decide) gh31) ?_
  refine x_iconst rfl ?_
  refine x_iadd rfl ?_
  refine x_putfield rfl (by decide) (xu_ne (by decide) (xu_ne (by decide) e177b)) (show (31 : Nat) < _ from by rw [(slen ghfl)]; decide) rfl ?_
  generalize hf5 : xu (xu (xu f4 195 _) 196 _) 177 _ = f5
  have g177 : f5 177 = .inl (10, (fs3.set 30 (xi 0)).set 31 (xi ((S.2.1.length : Nat) + 1))) := by rw [← hf5]; exact xu_eq
  have g195 : f5 195 = xr 0 (wl.set S.2.1.length (cn : Nat)) := by rw [← hf5]; exact xu_ne (by decide) (xu_ne (by decide) xu_eq)
  have g196 : f5 196 = xr 2 (bl.set S.2.1.length (if back = true then 1 else 0)) := by rw [← hf5]; exact xu_ne (by decide) xu_eq
  have hfd : ∀ q, q ≠ 177 → q ≠ 195 → q ≠ 196 → f5 q = f4 q := fun q b0 b1 b2 => by rw [← hf5]; exact xu_ne b0 (xu_ne b2 (xu_ne b1 rfl))
  have g197 : f5 197 = xr 0 be4 := (hfd 197 (by decide) (by decide) (by decide)).trans e197
  have g180 : f5 180 = xr 0 cnl := (hfd 180 (by decide) (by decide) (by decide)).trans e180
  have hfe : ∀ q, q ≠ 177 → q ≠ 197 → q ≠ 195 → q ≠ 196 → f5 q = f3 q := fun q b0 b4 b1 b2 => (hfd q b0 b1 b2).trans ((hfr4 q b4).trans (xu_ne b0 rfl))
  have hB5 := sMB_31 hB4 g177
  have hmc5 : sMC f5 bx bY bf := ⟨(hfe 192 (by decide) (by decide) (by decide) (by decide)).trans hmc3.1, (hfe 193 (by decide) (by decide) (by decide) (by decide)).trans hmc3.2.1, (hfe 194 (by decide) (by decide) (by decide) (by decide)).trans hmc3.2.2.1, hmc3.2.2.2⟩
  have hX5 : sMX f5 S.1 := sMX_f hX3 (fun q _ _ => hfe q (by omega) (by omega) (by omega) (by omega))
  have hJ5 : sMJ f5 (S.2.1 ++ [(cn, back, S.1)]) := by
    refine ⟨by rw [List.length_append]; simp only [List.length_singleton]; omega, _, _, _, g195, g196, g197, ⟨by rw [List.length_set]; exact y1, by rw [List.length_set]; exact y2, e1⟩, fun i hi => ?_⟩
    rw [List.length_append, List.length_singleton] at hi
    rw [sH_app, x_gset, x_gset]
    by_cases h2 : S.2.1.length = i
    · subst h2
      rw [if_neg (Nat.lt_irrefl _), if_pos rfl, if_pos ⟨rfl, by omega⟩, if_pos ⟨rfl, by omega⟩]
      refine ⟨rfl, rfl, fun d hd => ⟨?_, ?_⟩⟩
      · show be4.getD (8 * S.2.1.length + d) 0 = S.1 d
        rw [← e3 d hd]
        exact congrArg (fun k => be4.getD k 0) (by omega)
      · obtain ⟨_, _, _, -, -, -, -, hxx⟩ := hX
        exact (hxx d hd).2
    · rw [if_pos (show i < S.2.1.length by omega), if_neg (fun h => h2 h.1), if_neg (fun h => h2 h.1)]
      obtain ⟨t1, t2, t3⟩ := hji i (by omega)
      refine ⟨t1, t2, fun d hd => ?_⟩
      rw [e2 _ (by omega)]
      exact t3 d hd
  have hml5 : sML bx bY bf (8 * ((G cn).length : Nat)) (srow (sbt K (G cn)) back S.1 (G cn).length) := hrows _ (Nat.le_refl _)
  refine x_aload_n rfl m0 ?_
  refine x_aload_n rfl m0 ?_
  refine x_getfield rfl (by decide) g177 (sget_ne (by decide) (sget_ne (by decide) gf11)) ?_
  refine x_iload_n rfl m1 ?_
  refine x_iaload rfl (by decide) g180 ⟨by omega, by omega⟩ (by omega) ?_
  rw [Int.toNat_natCast, hcnt]
  refine x_call [_, _] rfl rfl (show (0 : Nat) ≤ 8 from by decide) (show (2 : Nat) ≤ 3 from by decide) (x_rcv (by decide) g177) (xs_123 hB5 hX5 hmc5 ⟨by omega, by omega⟩ hml5) ?_
  intro r' f6 hP
  obtain ⟨rfl, hX6, hfr6⟩ := hP
  refine x_aload_n rfl m0 ?_
  refine x_getfield rfl (by decide) ((hfr6 177 (by decide) (by decide) (by decide)).trans g177) (sget_ne (by decide) (sget_ne (by decide) gf11)) ?_
  refine x_iload_n rfl m1 ?_
  refine x_iaload rfl (by decide) ((hfr6 180 (by decide) (by decide) (by decide)).trans g180) ⟨by omega, by omega⟩ (by omega) ?_
  rw [Int.toNat_natCast, hcnt]
  have e : sPF K G n back (cn : Nat) S = (0, (((G cn).length : Nat) : Int), (srow (sbt K (G cn)) back S.1 (G cn).length, S.2.1 ++ [(cn, back, S.1)], 0)) := by unfold sPF; rw [if_pos hcc, if_neg h24b, Int.toNat_natCast, if_pos hs]
  rw [e]
  refine x_ireturn rfl (Or.inl rfl) ⟨_, _, rfl, rfl, rfl, ⟨_, (hfr6 177 (by decide) (by decide) (by decide)).trans g177, sget_ne (by decide) (sget_ne (by decide) ((hk3 0 (by decide) (by decide)).trans (sget_eq (by rw [hfl]; decide))))⟩, ⟨⟨(fs3.set 30 (xi 0)).set 31 (xi ((S.2.1.length : Nat) + 1)), ?_⟩, hX6, sMJ_f hJ5 (fun q _ _ => hfr6 q (by omega) (by omega) (by omega)), bx, bY, bf, (hfr6 _ (by decide) (by decide) (by decide)).trans hmc5.1, (hfr6 _ (by decide) (by decide) (by decide)).trans hmc5.2.1, (hfr6 _ (by decide) (by decide) (by decide)).trans hmc5.2.2.1, hmc5.2.2.2⟩, fun q b1 b2 => (hfr6 q (by omega) (by omega) (by omega)).trans ((hfe q b1 (by omega) (by omega) (by omega)).trans (hfb q b1 (by omega) (by omega) (by omega)))⟩
  rw [List.length_append, List.length_singleton]
  exact sMB_f hB5 (hfr6 177 (by decide) (by decide) (by decide))
