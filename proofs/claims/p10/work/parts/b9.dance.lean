/-! The class gives the atoms: 98. -/
/-- what dancing reads of the heap, but the rows -/
def sDN (f : Nat → zE) : Prop := f 113 = .inl (6, [.ref 53, .ref 114, .ref 116]) ∧ f 114 = .inl (7, [.ref 115]) ∧ (∃ dl : List Int, f 115 = xr 0 dl ∧ dl.length = 8) ∧ ∃ al : List Int, f 116 = xr 0 al ∧ al.length = 8 ∧ ∀ d, d < 8 → 0 ≤ al.getD d 0 ∧ al.getD d 0 ≤ 6
/-- the parts from F on are L -/
def sPL (f : Nat → zE) (F : Int) (L : List (Int × Int)) : Prop := (∃ c kp pt : Value, f 53 = .inl (2, [.ref 54, .ref 55, .ref 56, c, kp, pt])) ∧ ∃ se at' : List Int, f 55 = xr 0 se ∧ f 56 = xr 0 at' ∧ se.length ≤ 5000 ∧ at'.length ≤ 5000 ∧ 0 ≤ F ∧ F + (L.length : Nat) ≤ (se.length : Nat) ∧ F + (L.length : Nat) ≤ (at'.length : Nat) ∧ ∀ k, k < L.length → (se.getD (F + (k : Nat)).toNat 0 = (L.getD k (0, 0)).1 ∧ at'.getD (F + (k : Nat)).toNat 0 = (L.getD k (0, 0)).2) ∧ (0 ≤ (L.getD k (0, 0)).1 ∧ (L.getD k (0, 0)).1 ≤ 12) ∧ 0 ≤ (L.getD k (0, 0)).2 ∧ (L.getD k (0, 0)).2 ≤ 6
theorem stake_s {L : List (Int × Int)} {k : Nat} (h : k < L.length) : L.take (k + 1) = L.take k ++ [L.getD k (0, 0)] := by
  rw [List.take_succ_eq_append_getElem h, List.getD_eq_getElem?_getD, List.getElem?_eq_getElem h]
  rfl
/-- the atoms of all are in their array -/
def sAM (f : Nat → zE) (am : Nat → Int) (k : Nat) : Prop := ∃ al : List Int, f 116 = xr 0 al ∧ al.length = 8 ∧ (∀ d, d < 8 → 0 ≤ al.getD d 0 ∧ al.getD d 0 ≤ 6) ∧ ∀ d, d < k → al.getD d 0 = am d
theorem xs_98i {v0 : Value} {xs : List Int32} {u : Nat × Nat} {Q : zO → zX → Prop} {f0 : Nat → zE} {am : Nat → Int} {P : Nat → Bool} {F : Int} {L : List (Int × Int)} {k : Nat} {t fg : Nat} {bt tk wt : Int} (h113 : f0 113 = .inl (6, [.ref 53, .ref 114, .ref 116])) (hP : sPL f0 F L) (hk : k < L.length) (hF5 : F + (L.length : Nat) ≤ 5000)
    (hkk : ∀ (lv : zL) (f : Nat → zE), zlv lv 0 = some (.ref 113) → zlv lv 1 = some (.ref t) → zlv lv 2 = some (.ref fg) → zlv lv 3 = some (xi bt) → zlv lv 4 = some (xi tk) → zlv lv 5 = some (xi wt) → zlv lv 6 = some (xi (F + (k : Nat))) → zlv lv 7 = some (xi (smk P 8)) → sAM f (fun d => if P d = true then (L.getD k (0, 0)).2 else am d) 8 → (∀ q, q ≠ 116 → f q = f0 q) → xz v0 xs u Q 98 123 lv [] f) : ∀ (j d : Nat) (lv : zL) (f : Nat → zE), j + d = 8 → zlv lv 0 = some (.ref 113) → zlv lv 1 = some (.ref t) → zlv lv 2 = some (.ref fg) → zlv lv 3 = some (xi bt) → zlv lv 4 = some (xi tk) → zlv lv 5 = some (xi wt) → zlv lv 6 = some (xi (F + (k : Nat))) → zlv lv 7 = some (xi (smk P 8)) → zlv lv 8 = some (xi (d : Nat)) → sAM f (fun e => if e < d ∧ P e = true then (L.getD k (0, 0)).2 else am e) 8 → (∀ q, q ≠ 116 → f q = f0 q) → xz v0 xs u Q 98 82 lv [] f := by
  obtain ⟨⟨c1, c2, c3, h53⟩, se, at', h55, h56, hs1, hs2, hF0, hF1, hF2, hL⟩ := hP
  obtain ⟨⟨b1, b2⟩, b3, b4⟩ := hL k hk
  intro j
  induction j with
  | zero =>
    intro d lv f hj l0 l1 l2 l3 l4 l5 l6 l7 l8 hA hfr
    have e : d = 8 := by omega
    subst e
    refine x_iload rfl l8 ?_
    refine x_bipush rfl (by decide) ?_
    refine x_cge (t := 123) rfl rfl (by decide) (by decide) (fun _ => ?_) (fun h => absurd h (by decide))
    refine hkk lv f l0 l1 l2 l3 l4 l5 l6 l7 ?_ hfr
    obtain ⟨al, a1, a2, a3, a4⟩ := hA
    refine ⟨al, a1, a2, a3, fun d hd => ?_⟩
    rw [a4 d hd]
    dsimp only
    by_cases h : P d = true
    · rw [if_pos ⟨hd, h⟩, if_pos h]
    · rw [if_neg (fun h2 => h h2.2), if_neg h]
  | succ j ih =>
    intro d lv f hj l0 l1 l2 l3 l4 l5 l6 l7 l8 hA hfr
    have hd : d < 8 := by omega
    obtain ⟨al, a1, a2, a3, a4⟩ := hA
    refine x_iload rfl l8 ?_
    refine x_bipush rfl (by decide) ?_
    refine x_cge (t := 123) rfl rfl ⟨by omega, by omega⟩ (by decide) (fun h => by omega) (fun _ => ?_)
    refine x_iload rfl l7 ?_
    refine x_iload rfl l8 ?_
    refine x_ishr rfl ?_
    refine x_iconst rfl ?_
    refine x_iandg2 rfl (sm_bit P hd) ?_
    refine x_iconst rfl ?_
    by_cases h : P d = true
    · rw [if_pos h]
      refine x_cne (t := 117) rfl rfl (by decide) (by decide) (fun h => absurd rfl h) (fun _ => ?_)
      refine x_aload_n rfl l0 ?_
      refine x_getfield rfl (by decide) ((hfr 113 (by decide)).trans h113) rfl ?_
      refine x_iload rfl l8 ?_
      refine x_aload_n rfl l0 ?_
      refine x_getfield rfl (by decide) ((hfr 113 (by decide)).trans h113) rfl ?_
      refine x_getfield rfl (by decide) ((hfr 53 (by decide)).trans h53) rfl ?_
      refine x_iload rfl l6 ?_
      refine x_iaload rfl (by decide) ((hfr 56 (by decide)).trans h56) ⟨by omega, by omega⟩ hs2 ?_
      rw [b2]
      refine x_iastore rfl (by decide) a1 ⟨by omega, by omega⟩ (by omega) ?_
      refine x_iinc rfl l8 (show (8 : Nat) < 9 from by decide) ?_
      refine x_goto (t := 82) rfl rfl ?_
      rw [Int.toNat_natCast]
      refine ih (d + 1) _ _ (by omega) (xst_ne (by decide) l0 (Or.inl rfl)) (xst_ne (by decide) l1 (Or.inl rfl)) (xst_ne (by decide) l2 (Or.inl rfl)) (xst_ne (by decide) l3 (Or.inl rfl)) (xst_ne (by decide) l4 (Or.inl rfl)) (xst_ne (by decide) l5 (Or.inl rfl)) (xst_ne (by decide) l6 (Or.inl rfl)) (xst_ne (by decide) l7 (Or.inl rfl)) xst_eq ⟨_, xu_eq, by rw [List.length_set]; exact a2, fun e he => ?_, fun e he => ?_⟩ (fun q hq => xu_ne hq (hfr q hq))
      · rw [x_gset]
        split
        · exact b4
        · exact a3 e he
      · rw [x_gset]
        dsimp only
        by_cases e9 : d = e
        · subst e9
          rw [if_pos ⟨rfl, by omega⟩, if_pos ⟨by omega, h⟩]
        · rw [if_neg (fun h => e9 h.1), a4 e he]
          dsimp only
          by_cases h5 : e < d ∧ P e = true
          · rw [if_pos h5, if_pos ⟨by omega, h5.2⟩]
          · rw [if_neg h5, if_neg (fun h6 => h5 ⟨by omega, h6.2⟩)]
    · rw [if_neg h]
      refine x_cne (t := 117) rfl rfl (by decide) (by decide) (fun _ => ?_) (fun h => absurd h (by decide))
      refine x_iinc rfl l8 (show (8 : Nat) < 9 from by decide) ?_
      refine x_goto (t := 82) rfl rfl ?_
      refine ih (d + 1) _ _ (by omega) (xst_ne (by decide) l0 (Or.inl rfl)) (xst_ne (by decide) l1 (Or.inl rfl)) (xst_ne (by decide) l2 (Or.inl rfl)) (xst_ne (by decide) l3 (Or.inl rfl)) (xst_ne (by decide) l4 (Or.inl rfl)) (xst_ne (by decide) l5 (Or.inl rfl)) (xst_ne (by decide) l6 (Or.inl rfl)) (xst_ne (by decide) l7 (Or.inl rfl)) xst_eq ⟨al, a1, a2, a3, fun e he => ?_⟩ hfr
      rw [a4 e he]
      dsimp only
      by_cases h5 : e < d ∧ P e = true
      · rw [if_pos h5, if_pos ⟨by omega, h5.2⟩]
      · rw [if_neg h5, if_neg (fun h6 => ?_)]
        by_cases e9 : e = d
        · rw [e9] at h6; exact h h6.2
        · exact h5 ⟨by omega, h6.2⟩
theorem xs_98p {v0 : Value} {xs : List Int32} {u : Nat × Nat} {f0 : Nat → zE} {r : Nat → Int} {F : Int} {L : List (Int × Int)} {t fg : Nat} {bt tk : Int} {fp ep : List Int} (h113 : f0 113 = .inl (6, [.ref 53, .ref 114, .ref 116])) (h114 : f0 114 = .inl (7, [.ref 115])) (hP : sPL f0 F L) (hF5 : F + (L.length : Nat) ≤ 5000) (hfg : (57 ≤ fg ∧ fg ≤ 105) ∧ ∃ (c2 c3 c4 c5 c6 : Value), f0 fg = .inl (3, [.ref (fg + 1), .ref (fg + 2), c2, c3, c4, c5, c6])) (hfp : f0 (fg + 1) = xr 0 fp) (hep : f0 (fg + 2) = xr 0 ep) (hfl : fp.length = 16) (hel : ep.length = 16) (hbt : 0 ≤ bt ∧ bt < 16) (hF : fp.getD bt.toNat 0 = F) (hE : ep.getD bt.toNat 0 = F + (L.length : Nat)) (ht : (123 ≤ t ∧ t ≤ 173) ∧ ∃ c : Value, f0 t = .inl (9, [.ref (t + 1), c])) (hr : sRW f0 (t + 1) (tk * 8) r) : ∀ (j k : Nat) (lv : zL) (f : Nat → zE), j + k = L.length → zlv lv 0 = some (.ref 113) → zlv lv 1 = some (.ref t) → zlv lv 2 = some (.ref fg) → zlv lv 3 = some (xi bt) → zlv lv 4 = some (xi tk) → zlv lv 5 = some (xi (smk (sfree r (L.take k)) 8)) → zlv lv 6 = some (xi (F + (k : Nat))) → sAM f (sat r (L.take k)) 8 → (∃ dl : List Int, f 115 = xr 0 dl ∧ dl.length = 8) → (∀ q, q ≠ 115 → q ≠ 116 → f q = f0 q) → xz v0 xs u (fun o X => ∃ r' f', o = .inl r' ∧ X = (xh f', u) ∧ (fun r' f' => r' = none ∧ sAM f' (sat r L) 8 ∧ (∃ dl : List Int, f' 115 = xr 0 dl ∧ dl.length = 8) ∧ ∀ q, q ≠ 115 → q ≠ 116 → f' q = f0 q) r' f') 98 37 lv [] f := by
  obtain ⟨hfgr, c2, c3, c4, c5, c6, hfg⟩ := hfg
  obtain ⟨htr, ct, ht⟩ := ht
  have hP0 := hP
  obtain ⟨⟨d1, d2, d3, h53⟩, se, at', h55, h56, hs1, hs2, hF0, hF1, hF2, hL⟩ := hP0
  intro j
  induction j with
  | zero =>
    intro k lv f hj l0 l1 l2 l3 l4 l5 l6 hA hD hfr
    have e : k = L.length := by omega
    subst e
    have gfg := (hfr fg (by omega) (by omega)).trans hfg
    refine x_iload rfl l6 ?_
    refine x_aload_n rfl l2 ?_
    refine x_getfield rfl (by omega) gfg rfl ?_
    refine x_iload_n rfl l3 ?_
    refine x_iaload rfl (by omega) ((hfr (fg + 2) (by omega) (by omega)).trans hep) ⟨by omega, by omega⟩ (by omega) ?_
    rw [hE]
    refine x_cge (t := 136) rfl rfl ⟨by omega, by omega⟩ ⟨by omega, by omega⟩ (fun _ => ?_) (fun h => by omega)
    rw [List.take_length] at hA
    exact x_return rfl ⟨_, _, rfl, rfl, rfl, hA, hD, hfr⟩
  | succ j ih =>
    intro k lv f hj l0 l1 l2 l3 l4 l5 l6 hA hD hfr
    have hk : k < L.length := by omega
    obtain ⟨⟨b1, b2⟩, b3, b4⟩ := hL k hk
    obtain ⟨dl, hdl, hdn⟩ := hD
    have gfg := (hfr fg (by omega) (by omega)).trans hfg
    have g113 := (hfr 113 (by decide) (by decide)).trans h113
    have g114 := (hfr 114 (by decide) (by decide)).trans h114
    refine x_iload rfl l6 ?_
    refine x_aload_n rfl l2 ?_
    refine x_getfield rfl (by omega) gfg rfl ?_
    refine x_iload_n rfl l3 ?_
    refine x_iaload rfl (by omega) ((hfr (fg + 2) (by omega) (by omega)).trans hep) ⟨by omega, by omega⟩ (by omega) ?_
    rw [hE]
    refine x_cge (t := 136) rfl rfl ⟨by omega, by omega⟩ ⟨by omega, by omega⟩ (fun h => by omega) (fun _ => ?_)
    refine x_iload rfl l5 ?_
    refine x_aload_n rfl l0 ?_
    refine x_getfield rfl (by decide) g113 rfl ?_
    refine x_aload_n rfl l0 ?_
    refine x_getfield rfl (by decide) g113 rfl ?_
    refine x_getfield rfl (by decide) ((hfr 53 (by decide) (by decide)).trans h53) rfl ?_
    refine x_iload rfl l6 ?_
    refine x_iaload rfl (by decide) ((hfr 55 (by decide) (by decide)).trans h55) ⟨by omega, by omega⟩ hs1 ?_
    rw [b1]
    refine x_aload_n rfl l1 ?_
    refine x_getfield rfl (by omega) ((hfr t (by omega) (by omega)).trans ht) rfl ?_
    refine x_iload rfl l4 ?_
    refine x_bipush rfl (by decide) ?_
    refine x_imul rfl ?_
    refine x_call [_, _, _, _] rfl rfl (show (1 : Nat) ≤ 8 from by decide) (show (4 : Nat) ≤ 4 from by decide) (x_rcv (by decide) g114) (xs_97 (by omega) g114 hdl hdn b3 (sRW_mv (hfr (t + 1) (by omega) (by omega)) hr)) (fun r' f1 hQ => ?_)
    obtain ⟨rfl, hD1, hfr1⟩ := hQ
    refine x_iandg2 rfl (sm_and _ _) ?_
    refine x_istore rfl (show (7 : Nat) < 9 from by decide) ?_
    refine x_iconst rfl ?_
    refine x_istore rfl (show (8 : Nat) < 9 from by decide) ?_
    have hA1 : sAM f1 (fun e => if e < 0 ∧ (sfree r (L.take k) e && shas (L.getD k (0, 0)).1 r e) = true then (L.getD k (0, 0)).2 else sat r (L.take k) e) 8 := by
      obtain ⟨al, a1, a2, a3, a4⟩ := hA
      exact ⟨al, (hfr1 116 (by decide)).trans a1, a2, a3, fun d hd => by dsimp only; rw [if_neg (fun h => absurd h.1 (Nat.not_lt_zero d))]; exact a4 d hd⟩
    have hP1 : sPL f1 F L := ⟨⟨d1, d2, d3, (hfr1 53 (by decide)).trans ((hfr 53 (by decide) (by decide)).trans h53)⟩, se, at', (hfr1 55 (by decide)).trans ((hfr 55 (by decide) (by decide)).trans h55), (hfr1 56 (by decide)).trans ((hfr 56 (by decide) (by decide)).trans h56), hs1, hs2, hF0, hF1, hF2, hL⟩
    refine xs_98i (P := fun e => sfree r (L.take k) e && shas (L.getD k (0, 0)).1 r e) (am := sat r (L.take k)) ((hfr1 113 (by decide)).trans g113) hP1 hk hF5 (fun lv2 f2 m0 m1 m2 m3 m4 m5 m6 m7 hA2 hfr2 => ?_) 8 0 _ f1 rfl (xst_ne (by decide) (xst_ne (by decide) l0 (Or.inl rfl)) (Or.inl rfl)) (xst_ne (by decide) (xst_ne (by decide) l1 (Or.inl rfl)) (Or.inl rfl)) (xst_ne (by decide) (xst_ne (by decide) l2 (Or.inl rfl)) (Or.inl rfl)) (xst_ne (by decide) (xst_ne (by decide) l3 (Or.inl rfl)) (Or.inl rfl)) (xst_ne (by decide) (xst_ne (by decide) l4 (Or.inl rfl)) (Or.inl rfl)) (xst_ne (by decide) (xst_ne (by decide) l5 (Or.inl rfl)) (Or.inl rfl)) (xst_ne (by decide) (xst_ne (by decide) l6 (Or.inl rfl)) (Or.inl rfl)) (xst_ne (by decide) xst_eq (Or.inl rfl)) xst_eq hA1 (fun _ _ => rfl)
    refine x_iload rfl m5 ?_
    refine x_iload rfl m7 ?_
    refine x_ixorg rfl (sm_xor _ _) ?_
    refine x_istore rfl (show (5 : Nat) < 9 from by decide) ?_
    refine x_iinc rfl (xst_ne (by decide) m6 (Or.inl rfl)) (show (6 : Nat) < 9 from by decide) ?_
    refine x_goto (t := 37) rfl rfl ?_
    refine ih (k + 1) _ f2 (by omega) (xst_ne (by decide) (xst_ne (by decide) m0 (Or.inl rfl)) (Or.inl rfl)) (xst_ne (by decide) (xst_ne (by decide) m1 (Or.inl rfl)) (Or.inl rfl)) (xst_ne (by decide) (xst_ne (by decide) m2 (Or.inl rfl)) (Or.inl rfl)) (xst_ne (by decide) (xst_ne (by decide) m3 (Or.inl rfl)) (Or.inl rfl)) (xst_ne (by decide) (xst_ne (by decide) m4 (Or.inl rfl)) (Or.inl rfl)) ?_ ?_ ?_ ?_ ?_
    · have es : smk (sfree r (L.take k ++ [L.getD k (0, 0)])) 8 = smk (fun d => sfree r (L.take k) d != (sfree r (L.take k) d && shas (L.getD k (0, 0)).1 r d)) 8 := smk_congr 8 (fun d hd => by
        rw [sfree_app]
        cases sfree r (L.take k) d <;> cases shas (L.getD k (0, 0)).1 r d <;> rfl)
      rw [stake_s hk, es]
      exact xst_ne (by decide) xst_eq (Or.inl rfl)
    · rw [show F + ((k + 1 : Nat) : Int) = F + (k : Nat) + 1 by omega]
      exact xst_eq
    · obtain ⟨al, a1, a2, a3, a4⟩ := hA2
      refine ⟨al, a1, a2, a3, fun d hd => ?_⟩
      rw [a4 d hd, stake_s hk, sat_app]
      simp only [Bool.and_eq_true]
    · obtain ⟨dl1, e1, e2⟩ := hD1
      exact ⟨dl1, (hfr2 115 (by decide)).trans e1, e2⟩
    · exact fun q h1 h2 => (hfr2 q h2).trans ((hfr1 q h1).trans (hfr q h1 h2))
theorem xs_98 {v0 : Value} {xs : List Int32} {u : Nat × Nat} {f0 : Nat → zE} {r : Nat → Int} {F : Int} {L : List (Int × Int)} {t fg : Nat} {bt tk : Int} {fp ep : List Int} (h113 : f0 113 = .inl (6, [.ref 53, .ref 114, .ref 116])) (h114 : f0 114 = .inl (7, [.ref 115])) (hP : sPL f0 F L) (hF5 : F + (L.length : Nat) ≤ 5000) (hfg : (57 ≤ fg ∧ fg ≤ 105) ∧ ∃ (c2 c3 c4 c5 c6 : Value), f0 fg = .inl (3, [.ref (fg + 1), .ref (fg + 2), c2, c3, c4, c5, c6])) (hfp : f0 (fg + 1) = xr 0 fp) (hep : f0 (fg + 2) = xr 0 ep) (hfl : fp.length = 16) (hel : ep.length = 16) (hbt : 0 ≤ bt ∧ bt < 16) (hF : fp.getD bt.toNat 0 = F) (hE : ep.getD bt.toNat 0 = F + (L.length : Nat)) (ht : (123 ≤ t ∧ t ≤ 173) ∧ ∃ c : Value, f0 t = .inl (9, [.ref (t + 1), c])) (hr : sRW f0 (t + 1) (tk * 8) r) (hDN : sDN f0) : xq v0 xs u 98 [(0, .ref 113), (1, .ref t), (2, .ref fg), (3, xi bt), (4, xi tk)] f0 (fun r' f' => r' = none ∧ sAM f' (sat r L) 8 ∧ (∃ dl : List Int, f' 115 = xr 0 dl ∧ dl.length = 8) ∧ ∀ q, q ≠ 115 → q ≠ 116 → f' q = f0 q) := by
  unfold xq
  obtain ⟨-, -, hD, al0, h116, hal0, hal1⟩ := hDN
  have hfg0 := hfg
  have hP0 := hP
  obtain ⟨hfgr, c2, c3, c4, c5, c6, hfg1⟩ := hfg0
  obtain ⟨-, se, at', -, -, -, -, hF0, -, -, -⟩ := hP0
  have zero : ∀ (j d : Nat) (lv : zL) (f : Nat → zE), j + d = 8 → zlv lv 0 = some (.ref 113) → zlv lv 1 = some (.ref t) → zlv lv 2 = some (.ref fg) → zlv lv 3 = some (xi bt) → zlv lv 4 = some (xi tk) → zlv lv 5 = some (xi (d : Nat)) → sAM f (fun _ => 0) d → (∀ q, q ≠ 116 → f q = f0 q) → xz v0 xs u (fun o X => ∃ r' f', o = .inl r' ∧ X = (xh f', u) ∧ (fun r' f' => r' = none ∧ sAM f' (sat r L) 8 ∧ (∃ dl : List Int, f' 115 = xr 0 dl ∧ dl.length = 8) ∧ ∀ q, q ≠ 115 → q ≠ 116 → f' q = f0 q) r' f') 98 3 lv [] f := by
    intro j
    induction j with
    | zero =>
      intro d lv f hj l0 l1 l2 l3 l4 l5 hA hfr
      have e : d = 8 := by omega
      subst e
      refine x_iload rfl l5 ?_
      refine x_bipush rfl (by decide) ?_
      refine x_cge (t := 24) rfl rfl (by decide) (by decide) (fun _ => ?_) (fun h => absurd h (by decide))
      refine x_sipush rfl (by decide) ?_
      refine x_istore rfl (show (5 : Nat) < 9 from by decide) ?_
      refine x_aload_n rfl (xst_ne (by decide) l2 (Or.inl rfl)) ?_
      refine x_getfield rfl (by omega) ((hfr fg (by omega)).trans hfg1) rfl ?_
      refine x_iload_n rfl (xst_ne (by decide) l3 (Or.inl rfl)) ?_
      refine x_iaload rfl (by omega) ((hfr (fg + 1) (by omega)).trans hfp) ⟨by omega, by omega⟩ (by omega) ?_
      rw [hF]
      refine x_istore rfl (show (6 : Nat) < 9 from by decide) ?_
      obtain ⟨dl, e1, e2⟩ := hD
      refine xs_98p h113 h114 hP hF5 hfg hfp hep hfl hel hbt hF hE ht hr L.length 0 _ f rfl (xst_ne (by decide) (xst_ne (by decide) l0 (Or.inl rfl)) (Or.inl rfl)) (xst_ne (by decide) (xst_ne (by decide) l1 (Or.inl rfl)) (Or.inl rfl)) (xst_ne (by decide) (xst_ne (by decide) l2 (Or.inl rfl)) (Or.inl rfl)) (xst_ne (by decide) (xst_ne (by decide) l3 (Or.inl rfl)) (Or.inl rfl)) (xst_ne (by decide) (xst_ne (by decide) l4 (Or.inl rfl)) (Or.inl rfl)) (by rw [List.take_zero]; exact xst_ne (by decide) xst_eq (Or.inl rfl)) (by rw [show F + ((0 : Nat) : Int) = F by omega]; exact xst_eq) (by rw [List.take_zero]; exact hA) ⟨dl, (hfr 115 (by decide)).trans e1, e2⟩ (fun q h1 h2 => hfr q h2)
    | succ j ih =>
      intro d lv f hj l0 l1 l2 l3 l4 l5 hA hfr
      have hd : d < 8 := by omega
      obtain ⟨al, a1, a2, a3, a4⟩ := hA
      refine x_iload rfl l5 ?_
      refine x_bipush rfl (by decide) ?_
      refine x_cge (t := 24) rfl rfl ⟨by omega, by omega⟩ (by decide) (fun h => by omega) (fun _ => ?_)
      refine x_aload_n rfl l0 ?_
      refine x_getfield rfl (by decide) ((hfr 113 (by decide)).trans h113) rfl ?_
      refine x_iload rfl l5 ?_
      refine x_iconst rfl ?_
      refine x_iastore rfl (by decide) a1 ⟨by omega, by omega⟩ (by omega) ?_
      refine x_iinc rfl l5 (show (5 : Nat) < 9 from by decide) ?_
      refine x_goto (t := 3) rfl rfl ?_
      rw [Int.toNat_natCast]
      refine ih (d + 1) _ _ (by omega) (xst_ne (by decide) l0 (Or.inl rfl)) (xst_ne (by decide) l1 (Or.inl rfl)) (xst_ne (by decide) l2 (Or.inl rfl)) (xst_ne (by decide) l3 (Or.inl rfl)) (xst_ne (by decide) l4 (Or.inl rfl)) xst_eq ⟨_, xu_eq, by rw [List.length_set]; exact a2, fun e he => ?_, fun e he => ?_⟩ (fun q hq => xu_ne hq (hfr q hq))
      · rw [x_gset]
        split
        · omega
        · exact a3 e he
      · rw [x_gset]
        by_cases e9 : d = e
        · rw [if_pos ⟨e9, by omega⟩]
        · rw [if_neg (fun h => e9 h.1)]
          exact a4 e (by omega)
  refine x_iconst rfl ?_
  refine x_istore rfl (show (5 : Nat) < 9 from by decide) ?_
  exact zero 8 0 _ f0 rfl (xst_ne (by decide) rfl (Or.inl rfl)) (xst_ne (by decide) rfl (Or.inl rfl)) (xst_ne (by decide) rfl (Or.inl rfl)) (xst_ne (by decide) rfl (Or.inl rfl)) (xst_ne (by decide) rfl (Or.inl rfl)) xst_eq ⟨al0, h116, hal0, hal1, fun e he => absurd he (Nat.not_lt_zero e)⟩ (fun _ _ => rfl)
/-! The class exchanges the atoms: 99. -/
theorem xs_99 {v0 : Value} {xs : List Int32} {u : Nat × Nat} {f0 : Nat → zE} {am : Nat → Int} (h113 : f0 113 = .inl (6, [.ref 53, .ref 114, .ref 116])) (hA : sAM f0 am 8) : xq v0 xs u 99 [(0, .ref 113)] f0 (fun r' f' => r' = none ∧ sAM f' (fun d => sexch (am d)) 8 ∧ ∀ q, q ≠ 116 → f' q = f0 q) := by
  unfold xq
  have lp : ∀ (j d : Nat) (lv : zL) (f : Nat → zE), j + d = 8 → zlv lv 0 = some (.ref 113) → zlv lv 1 = some (xi (d : Nat)) → sAM f (fun e => if e < d then sexch (am e) else am e) 8 → (∀ q, q ≠ 116 → f q = f0 q) → xz v0 xs u (fun o X => ∃ r' f', o = .inl r' ∧ X = (xh f', u) ∧ (fun r' f' => r' = none ∧ sAM f' (fun d => sexch (am d)) 8 ∧ ∀ q, q ≠ 116 → f' q = f0 q) r' f') 99 2 lv [] f := by
    intro j
    induction j with
    | zero =>
      intro d lv f hj l0 l1 hA hfr
      have e : d = 8 := by omega
      subst e
      refine x_iload_n rfl l1 ?_
      refine x_bipush rfl (by decide) ?_
      refine x_cge (t := 30) rfl rfl (by decide) (by decide) (fun _ => ?_) (fun h => absurd h (by decide))
      obtain ⟨al, a1, a2, a3, a4⟩ := hA
      exact x_return rfl ⟨_, _, rfl, rfl, rfl, ⟨al, a1, a2, a3, fun d hd => by rw [a4 d hd]; dsimp only; rw [if_pos hd]⟩, hfr⟩
    | succ j ih =>
      intro d lv f hj l0 l1 hA hfr
      have hd : d < 8 := by omega
      obtain ⟨al, a1, a2, a3, a4⟩ := hA
      have v1 := a4 d hd
      dsimp only at v1
      rw [if_neg (by omega)] at v1
      have v2 := a3 d hd
      refine x_iload_n rfl l1 ?_
      refine x_bipush rfl (by decide) ?_
      refine x_cge (t := 30) rfl rfl ⟨by omega, by omega⟩ (by decide) (fun h => by omega) (fun _ => ?_)
      refine x_aload_n rfl l0 ?_
      refine x_getfield rfl (by decide) ((hfr 113 (by decide)).trans h113) rfl ?_
      refine x_iload_n rfl l1 ?_
      refine x_gets rfl ?_
      refine x_aload_n rfl l0 ?_
      refine x_getfield rfl (by decide) ((hfr 113 (by decide)).trans h113) rfl ?_
      refine x_iload_n rfl l1 ?_
      refine x_iaload rfl (by decide) a1 ⟨by omega, by omega⟩ (by omega) ?_
      rw [Int.toNat_natCast, v1]
      rw [v1] at v2
      refine x_gar (ys := zg3) rfl rfl ⟨by omega, by rw [zg3_len]; omega⟩ (by decide) ?_
      rw [zg3_at (am d).toNat (by omega), show (((am d).toNat : Nat) : Int) = am d by omega]
      refine x_iastore rfl (by decide) a1 ⟨by omega, by omega⟩ (by omega) ?_
      refine x_iinc rfl l1 (show (1 : Nat) < 2 from by decide) ?_
      refine x_goto (t := 2) rfl rfl ?_
      rw [Int.toNat_natCast]
      have hx : 0 ≤ sexch (am d) ∧ sexch (am d) ≤ 6 := by
        rcases (show am d = 0 ∨ am d = 1 ∨ am d = 2 ∨ am d = 3 ∨ am d = 4 ∨ am d = 5 ∨ am d = 6 by omega) with e | e | e | e | e | e | e <;> rw [e] <;> decide
      refine ih (d + 1) _ _ (by omega) (xst_ne (by decide) l0 (Or.inl rfl)) xst_eq ⟨_, xu_eq, by rw [List.length_set]; exact a2, fun e he => ?_, fun e he => ?_⟩ (fun q hq => xu_ne hq (hfr q hq))
      · rw [x_gset]
        split
        · exact hx
        · exact a3 e he
      · rw [x_gset]
        by_cases e9 : d = e
        · rw [if_pos ⟨e9, by omega⟩, ← e9]
          dsimp only
          rw [if_pos (by omega)]
        · rw [if_neg (fun h => e9 h.1), a4 e he]
          dsimp only
          by_cases h5 : e < d
          · rw [if_pos h5, if_pos (by omega)]
          · rw [if_neg h5, if_neg (by omega)]
  refine x_iconst rfl ?_
  refine x_istore_n rfl (show (1 : Nat) < 2 from by decide) ?_
  obtain ⟨al, a1, a2, a3, a4⟩ := hA
  exact lp 8 0 _ f0 rfl (xst_ne (by decide) rfl (Or.inl rfl)) xst_eq ⟨al, a1, a2, a3, fun d hd => by dsimp only; rw [if_neg (Nat.not_lt_zero d)]; exact a4 d hd⟩ (fun _ _ => rfl)
