/-! The model's resolve. -/
theorem sMB_36 {f f' : Nat → zE} {fs : List Value} {ca dn cl : Int} {v : Value} (h : sMB f fs ca dn cl) (hf : f' 177 = .inl (10, fs.set 36 v)) : sMB f' (fs.set 36 v) ca dn cl := by
  obtain ⟨⟨h177, hfl, ⟨f11, f13, f14, f15, f17, f18⟩, h25, h26, h27⟩, ⟨a1, a2, a3, a4, a5, a6⟩, h2, h3, h4⟩ := h
  exact ⟨⟨hf, by rw [List.length_set]; exact hfl, ⟨sget_ne (by decide) f11, sget_ne (by decide) f13, sget_ne (by decide) f14, sget_ne (by decide) f15, sget_ne (by decide) f17, sget_ne (by decide) f18⟩, sget_ne (by decide) h25, sget_ne (by decide) h26, sget_ne (by decide) h27⟩, ⟨sget_ne (by decide) a1, sget_ne (by decide) a2, sget_ne (by decide) a3, sget_ne (by decide) a4, sget_ne (by decide) a5, sget_ne (by decide) a6⟩, sget_ne (by decide) h2, sget_ne (by decide) h3, sget_ne (by decide) h4⟩
theorem wMF_36 {f : Nat → zE} {n : Nat} {S : sS} {fo v : Int} {fs : List Value} (h : sMB f fs (n : Nat) (S.2.1.length : Nat) S.2.2) (g : fs[0]? = some (xi 0) ∧ fs[35]? = some (.ref 198) ∧ fs[36]? = some (xi fo) ∧ fs[37]? = some (.ref 199) ∧ fs[38]? = some (.ref 200) ∧ fs[39]? = some (.ref 201)) : wMF (xu f 177 (.inl (10, fs.set 36 (xi v)))) n S v := by
  obtain ⟨g0, g1, g2, g3, g4, g5⟩ := g
  exact ⟨_, sMB_36 h xu_eq, sget_ne (by decide) g0, sget_ne (by decide) g1, sget_eq (by rw [h.1.2.1]; decide), sget_ne (by decide) g3, sget_ne (by decide) g4, sget_ne (by decide) g5⟩
theorem xs_168a {v0 : Value} {xs : List Int32} {u : Nat × Nat} {Q : zO → zX → Prop} {f0 : Nat → zE} {fs : List Value} {mx my mf : List Int} {r : Nat → Int} (h177 : f0 177 = .inl (10, fs)) (a1 : fs[22]? = some (.ref 189)) (a2 : fs[23]? = some (.ref 190)) (a3 : fs[24]? = some (.ref 191)) (h39 : fs[39]? = some (.ref 201)) (x1 : f0 189 = xr 0 mx) (x2 : f0 190 = xr 0 my) (x3 : f0 191 = xr 0 mf) (y1 : mx.length = 8) (y2 : my.length = 8) (y3 : mf.length = 8) (hx : ∀ d, d < 8 → (mx.getD d 0 = sX (r d) ∧ my.getD d 0 = sY (r d) ∧ mf.getD d 0 = sF (r d)) ∧ sok (r d))
    (hk : ∀ (lv : zL) (f : Nat → zE) (sl : List Int), zlv lv 0 = some (.ref 177) → f 201 = xr 0 sl → sl.length = 40 → (∀ d, d < 8 → sl.getD d 0 = r d) → (∀ q, q ≠ 201 → f q = f0 q) → xz v0 xs u Q 168 55 lv [] f) : ∀ (w d : Nat) (lv : zL) (f : Nat → zE) (sl : List Int), w + d = 8 → zlv lv 0 = some (.ref 177) → zlv lv 1 = some (xi (d : Nat)) → f 201 = xr 0 sl → sl.length = 40 → (∀ e, e < d → sl.getD e 0 = r e) → (∀ q, q ≠ 201 → f q = f0 q) → xz v0 xs u Q 168 12 lv [] f := by
  intro w
  induction w with
  | zero =>
    intro d lv f sl hw l0 l1 g201 gl hv hfr
    have e8 : d = 8 := by omega
    subst e8
    refine x_iload_n rfl l1 ?_
    refine x_bipush rfl (by decide) ?_
    refine x_cge (t := 55) rfl rfl (by decide) (by decide) (fun _ => ?_) (fun h => absurd h (by decide))
    exact hk lv f sl l0 g201 gl hv hfr
  | succ w ih =>
    intro d lv f sl hw l0 l1 g201 gl hv hfr
    have hd : d < 8 := by omega
    obtain ⟨⟨q1, q2, q3⟩, q4⟩ := hx d hd
    have b6 := s_eq (r d)
    refine x_iload_n rfl l1 ?_
    refine x_bipush rfl (by decide) ?_
    refine x_cge (t := 55) rfl rfl ⟨by omega, by omega⟩ (by decide) (fun h => absurd h (by omega)) (fun _ => ?_)
    refine x_aload_n rfl l0 ?_
    refine x_getfield rfl (by decide) ((hfr 177 (by decide)).trans h177) h39 ?_
    refine x_iload_n rfl l1 ?_
    refine x_iconst rfl ?_
    refine x_bipush rfl (by decide) ?_
    refine x_aload_n rfl l0 ?_
    refine x_getfield rfl (by decide) ((hfr 177 (by decide)).trans h177) a2 ?_
    refine x_iload_n rfl l1 ?_
    refine x_iaload rfl (by decide) ((hfr 190 (by decide)).trans x2) ⟨by omega, by omega⟩ (by omega) ?_
    rw [Int.toNat_natCast, q2]
    refine x_imul rfl ?_
    refine x_aload_n rfl l0 ?_
    refine x_getfield rfl (by decide) ((hfr 177 (by decide)).trans h177) a1 ?_
    refine x_iload_n rfl l1 ?_
    refine x_iaload rfl (by decide) ((hfr 189 (by decide)).trans x1) ⟨by omega, by omega⟩ (by omega) ?_
    rw [Int.toNat_natCast, q1]
    refine x_iadd rfl ?_
    refine x_imul rfl ?_
    refine x_aload_n rfl l0 ?_
    refine x_getfield rfl (by decide) ((hfr 177 (by decide)).trans h177) a3 ?_
    refine x_iload_n rfl l1 ?_
    refine x_iaload rfl (by decide) ((hfr 191 (by decide)).trans x3) ⟨by omega, by omega⟩ (by omega) ?_
    rw [Int.toNat_natCast, q3]
    refine x_iadd rfl ?_
    rw [← b6]
    refine x_iastore rfl (by decide) g201 ⟨by omega, by omega⟩ (by omega) ?_
    refine x_iinc rfl l1 (show (1 : Nat) < 2 from by decide) ?_
    refine x_goto (t := 12) rfl rfl ?_
    rw [Int.toNat_natCast]
    refine ih (d + 1) _ _ _ (by omega) (xst_ne (by decide) l0 (Or.inl rfl)) xst_eq xu_eq (by rw [List.length_set]; exact gl) (fun e he => ?_) (fun q b1 => xu_ne b1 (hfr q b1))
    rw [x_gset]
    by_cases h2 : d = e
    · subst h2
      rw [if_pos ⟨rfl, by omega⟩]
    · rw [if_neg (fun h => h2 h.1)]
      exact hv e (by omega)
theorem xs_168c {v0 : Value} {xs : List Int32} {u : Nat × Nat} {f0 : Nat → zE} {n : Nat} {S : sS} {F : Int} {p : List Nat} (hX : sMX f0 S.1) (hJ : sMJ f0 S.2.1) (hF4 : -1 ≤ F ∧ F ≤ 4) : ∀ (w k : Nat) (lv : zL) (f : Nat → zE) (tl wl : List Int), (w : Int) + (k : Nat) = max F 0 → zlv lv 0 = some (.ref 177) → zlv lv 1 = some (xi (k : Nat)) → wMF f n S F → (∃ ax ay af : List Int, sMC f ax ay af) → f 200 = xr 0 tl → tl.length = 5 → (∀ i : Nat, ((i : Nat) : Int) < F → tl.getD i 0 = ((p.getD i 0 : Nat) : Int)) → f 199 = xr 0 wl → wl.length = 4 → (∀ i, i < k → wl.getD i 0 = ((p.getD i 0 : Nat) : Int)) → (∀ q, q ≠ 177 → ¬ (192 ≤ q ∧ q ≤ 194) → ¬ (199 ≤ q ∧ q ≤ 201) → f q = f0 q) → xz v0 xs u (fun o X => ∃ r' f', o = .inl r' ∧ X = (xh f', u) ∧ (fun r' f' => r' = some (xi F) ∧ sCD f' 0 ∧ sMT f' n S ∧ sWD f' F (fun i => ((p.getD i 0 : Nat) : Int)) ∧ ∀ q, q ≠ 177 → ¬ (192 ≤ q ∧ q ≤ 194) → ¬ (199 ≤ q ∧ q ≤ 201) → f' q = f0 q) r' f') 168 107 lv [] f := by
  intro w
  induction w with
  | zero =>
    intro k lv f tl wl hw l0 l1 hM1 hC g200 gl gv g199 gwl gw hfr
    obtain ⟨fs, hB, h0, h35, h36, h37, h38, h39⟩ := id hM1
    have h177 := hB.1.1
    refine x_iload_n rfl l1 ?_
    refine x_aload_n rfl l0 ?_
    refine x_getfield rfl (by decide) h177 h36 ?_
    refine x_cge (t := 133) rfl rfl ⟨by omega, by omega⟩ ⟨by omega, by omega⟩ (fun _ => ?_) (fun h => absurd h (by omega))
    refine x_aload_n rfl l0 ?_
    refine x_getfield rfl (by decide) h177 h36 ?_
    exact x_ireturn rfl (Or.inl rfl) ⟨_, _, rfl, rfl, rfl, ⟨fs, h177, h0⟩, ⟨⟨fs, hB⟩, sMX_f hX (fun q b1 b2 => hfr q (by omega) (by omega) (by omega)), sMJ_f hJ (fun q b1 b2 => hfr q (by omega) (by omega) (by omega)), hC⟩, ⟨⟨fs, h177, h36⟩, wl, g199, gwl, fun i hi => gw i (by omega)⟩, hfr⟩
  | succ w ih =>
    intro k lv f tl wl hw l0 l1 hM1 hC g200 gl gv g199 gwl gw hfr
    obtain ⟨fs, hB, h0, h35, h36, h37, h38, h39⟩ := id hM1
    have h177 := hB.1.1
    have gvk := gv k (by omega)
    refine x_iload_n rfl l1 ?_
    refine x_aload_n rfl l0 ?_
    refine x_getfield rfl (by decide) h177 h36 ?_
    refine x_cge (t := 133) rfl rfl ⟨by omega, by omega⟩ ⟨by omega, by omega⟩ (fun h => absurd h (by omega)) (fun _ => ?_)
    refine x_aload_n rfl l0 ?_
    refine x_getfield rfl (by decide) h177 h37 ?_
    refine x_iload_n rfl l1 ?_
    refine x_aload_n rfl l0 ?_
    refine x_getfield rfl (by decide) h177 h38 ?_
    refine x_iload_n rfl l1 ?_
    refine x_iaload rfl (by decide) g200 ⟨by omega, by omega⟩ (by omega) ?_
    rw [Int.toNat_natCast, gvk]
    refine x_iastore rfl (by decide) g199 ⟨by omega, by omega⟩ (by omega) ?_
    refine x_iinc rfl l1 (show (1 : Nat) < 2 from by decide) ?_
    refine x_goto (t := 107) rfl rfl ?_
    rw [Int.toNat_natCast]
    obtain ⟨ax, ay, af, c1, c2, c3, c4⟩ := hC
    refine ih (k + 1) _ _ tl _ (by omega) (xst_ne (by decide) l0 (Or.inl rfl)) xst_eq ⟨fs, sMB_f hB (xu_ne (by decide) rfl), h0, h35, h36, h37, h38, h39⟩ ⟨ax, ay, af, xu_ne (by decide) c1, xu_ne (by decide) c2, xu_ne (by decide) c3, c4⟩ (xu_ne (by decide) g200) gl gv xu_eq (by rw [List.length_set]; exact gwl) (fun i hi => ?_) (fun q b1 b2 b3 => xu_ne (by omega) (hfr q b1 b2 b3))
    rw [x_gset]
    by_cases h2 : k = i
    · subst h2
      rw [if_pos ⟨rfl, by omega⟩]
    · rw [if_neg (fun h => h2 h.1)]
      exact gw i (by omega)
theorem xs_168d {v0 : Value} {xs : List Int32} {u : Nat × Nat} {f0 : Nat → zE} {n : Nat} {S : sS} {F : Int} {p : List Nat} (hX : sMX f0 S.1) (hJ : sMJ f0 S.2.1) (hF4 : -1 ≤ F ∧ F ≤ 4) {lv : zL} {f : Nat → zE} {tl wl : List Int} (l0 : zlv lv 0 = some (.ref 177)) (hM1 : wMF f n S F) (hC : ∃ ax ay af : List Int, sMC f ax ay af) (g200 : f 200 = xr 0 tl) (gl : tl.length = 5) (gv : ∀ i : Nat, ((i : Nat) : Int) < F → tl.getD i 0 = ((p.getD i 0 : Nat) : Int)) (g199 : f 199 = xr 0 wl) (gwl : wl.length = 4) (hfr : ∀ q, q ≠ 177 → ¬ (192 ≤ q ∧ q ≤ 194) → ¬ (199 ≤ q ∧ q ≤ 201) → f q = f0 q) : xz v0 xs u (fun o X => ∃ r' f', o = .inl r' ∧ X = (xh f', u) ∧ (fun r' f' => r' = some (xi F) ∧ sCD f' 0 ∧ sMT f' n S ∧ sWD f' F (fun i => ((p.getD i 0 : Nat) : Int)) ∧ ∀ q, q ≠ 177 → ¬ (192 ≤ q ∧ q ≤ 194) → ¬ (199 ≤ q ∧ q ≤ 201) → f' q = f0 q) r' f') 168 105 lv [] f := by
  refine x_iconst rfl ?_
  refine x_istore_n rfl (show (1 : Nat) < 2 from by decide) ?_
  exact xs_168c hX hJ hF4 (max F 0).toNat 0 _ f tl wl (by omega) (xst_ne (by decide) l0 (Or.inl rfl)) xst_eq hM1 hC g200 gl gv g199 gwl (fun i hi => absurd hi (Nat.not_lt_zero i)) hfr
theorem xs_168m {v0 : Value} {xs : List Int32} {u : Nat × Nat} {f0 : Nat → zE} {K : List (Int × Int)} {G : Nat → List xBt} {n : Nat} {S : sS} {al : Nat → Bool} {R : Nat → Nat → Int} {wl : List Int} (hX : sMX f0 S.1) (hJ : sMJ f0 S.2.1) (hK : ∀ c, c < n → sKM f0 K c (G c)) (hG : ∀ c, c < n → sGok K (G c)) (hA : sAD f0 al) (hn : n ≤ 12) (hR : R 0 = S.1) (h199 : f0 199 = xr 0 wl) (hwl : wl.length = 4) : ∀ (w many : Nat) (lv : zL) (f : Nat → zE), w + many = 5 → 1 ≤ many → zlv lv 0 = some (.ref 177) → zlv lv 1 = some (xi (many : Nat)) → wDI f0 f n S 0 R [] (fun _ => True) → xz v0 xs u (fun o X => ∃ r' f', o = .inl r' ∧ X = (xh f', u) ∧ (fun r' f' => r' = some (xi (wrs (fun c => sbt K (G c)) al n S.1 (5 - many) many).1) ∧ sCD f' 0 ∧ sMT f' n S ∧ sWD f' (wrs (fun c => sbt K (G c)) al n S.1 (5 - many) many).1 (fun i => (((wrs (fun c => sbt K (G c)) al n S.1 (5 - many) many).2.getD i 0 : Nat) : Int)) ∧ ∀ q, q ≠ 177 → ¬ (192 ≤ q ∧ q ≤ 194) → ¬ (199 ≤ q ∧ q ≤ 201) → f' q = f0 q) r' f') 168 70 lv [] f := by
  intro w
  induction w with
  | zero =>
    intro many lv f hw h1 l0 l1 hI
    have e5 : many = 5 := by omega
    subst e5
    obtain ⟨hF, hC, ⟨tl, g200, gl, -, -⟩, -, hfr⟩ := hI
    refine x_iload_n rfl l1 ?_
    refine x_iconst rfl ?_
    refine x_cgt (t := 105) rfl rfl (by decide) (by decide) (fun _ => ?_) (fun h => absurd h (by decide))
    exact xs_168d hX hJ (show -1 ≤ (-1 : Int) ∧ (-1 : Int) ≤ 4 by decide) l0 hF hC g200 gl (fun i hi => by omega) ((hfr 199 (by decide) (by decide) (by decide) (by decide)).trans h199) hwl (fun q b1 b2 b3 => hfr q b1 b2 (by omega) (by omega))
  | succ w ih =>
    intro many lv f hw h1 l0 l1 hI
    obtain ⟨hF, hC, -⟩ := id hI
    obtain ⟨fs, hB, h0, h35, h36, h37, h38, h39⟩ := id hF
    refine x_iload_n rfl l1 ?_
    refine x_iconst rfl ?_
    refine x_cgt (t := 105) rfl rfl ⟨by omega, by omega⟩ (by decide) (fun h => by omega) (fun _ => ?_)
    refine x_aload_n rfl l0 ?_
    refine x_getfield rfl (by decide) hB.1.1 h36 ?_
    refine x_ifge (t := 105) rfl rfl (by decide) (fun h => absurd h (by decide)) (fun _ => ?_)
    refine x_aload_n rfl l0 ?_
    refine x_aload_n rfl l0 ?_
    refine x_iload_n rfl l1 ?_
    refine x_call [_, _] rfl rfl (show (1 : Nat) ≤ 8 from by decide) (show (2 : Nat) ≤ 3 from by decide) (x_rcv (by decide) hB.1.1) (xs_167 hK hG hA hn ⟨h1, by omega⟩ hI) (fun r' f1 hP => ?_)
    rw [hR] at hP
    rcases hP with ⟨y, hy, rfl, hF1, hC1, ⟨tl, g200, gl, gv⟩, -, hfr1⟩ | ⟨hy, rfl, hI1⟩
    · have ew : wrs (fun c => sbt K (G c)) al n S.1 (5 - many) many = (((many : Nat) : Int), y.1) := by
        rw [show 5 - many = (4 - many) + 1 by omega]
        show (match wfd (fun c => sbt K (G c)) al n S.1 many with
          | some x => (((many : Nat) : Int), x.1)
          | none => wrs (fun c => sbt K (G c)) al n S.1 (4 - many) (many + 1)) = _
        rw [hy]
      obtain ⟨fs1, hB1, k0⟩ := hF1
      rw [ew]
      refine x_ifeq (t := 95) rfl rfl (by decide) (fun h => absurd h (by decide)) (fun _ => ?_)
      refine x_iload_n rfl l1 ?_
      refine x_goto (t := 96) rfl rfl ?_
      refine x_putfield rfl (by decide) hB1.1.1 (show (36 : Nat) < _ from by rw [hB1.1.2.1]; decide) rfl ?_
      refine x_iinc rfl l1 (show (1 : Nat) < 2 from by decide) ?_
      refine x_goto (t := 70) rfl rfl ?_
      obtain ⟨ax, ay, af, c1, c2, c3, c4⟩ := hC1
      have hF2 : wMF (xu f1 177 (.inl (10, fs1.set 36 (xi (many : Nat))))) n S ((many : Nat) : Int) := wMF_36 hB1 k0
      have fin := fun (lv9 : zL) (m0 : zlv lv9 0 = some (.ref 177)) => xs_168d (v0 := v0) (xs := xs) (u := u) (p := y.1) (lv := lv9) hX hJ (show -1 ≤ ((many : Nat) : Int) ∧ ((many : Nat) : Int) ≤ 4 by omega) m0 hF2 ⟨ax, ay, af, xu_ne (by decide) c1, xu_ne (by decide) c2, xu_ne (by decide) c3, c4⟩ (xu_ne (by decide) g200) gl (fun i hi => gv i (by omega)) (xu_ne (by decide) ((hfr1 199 (by decide) (by decide) (by decide) (by decide)).trans h199)) hwl (fun q b1 b2 b3 => xu_ne b1 (hfr1 q b1 b2 (by omega) (by omega)))
      obtain ⟨fs2, hB2, -, -, e36, -⟩ := id hF2
      refine x_iload_n rfl xst_eq ?_
      refine x_iconst rfl ?_
      refine x_cgt (t := 105) rfl rfl ⟨by omega, by omega⟩ (by decide) (fun h => fin _ (xst_ne (by decide) l0 (Or.inl rfl))) (fun h => ?_)
      refine x_aload_n rfl (xst_ne (by decide) l0 (Or.inl rfl)) ?_
      refine x_getfield rfl (by decide) hB2.1.1 e36 ?_
      refine x_ifge (t := 105) rfl rfl ⟨by omega, by omega⟩ (fun _ => fin _ (xst_ne (by decide) l0 (Or.inl rfl))) (fun h => by omega)
    · have ew : wrs (fun c => sbt K (G c)) al n S.1 (5 - many) many = wrs (fun c => sbt K (G c)) al n S.1 (5 - (many + 1)) (many + 1) := by
        rw [show 5 - many = (5 - (many + 1)) + 1 by omega]
        show (match wfd (fun c => sbt K (G c)) al n S.1 many with
          | some x => (((many : Nat) : Int), x.1)
          | none => wrs (fun c => sbt K (G c)) al n S.1 (5 - (many + 1)) (many + 1)) = _
        rw [hy]
      obtain ⟨⟨fs1, hB1, k0⟩, ⟨ax, ay, af, c1, c2, c3, c4⟩, ⟨tl, g200, gl, gv, -⟩, ⟨sl, s1, s2⟩, hfr1⟩ := hI1
      rw [ew]
      refine x_ifeq (t := 95) rfl rfl (by decide) (fun _ => ?_) (fun h => absurd rfl h)
      refine x_iconst rfl ?_
      refine x_putfield rfl (by decide) hB1.1.1 (show (36 : Nat) < _ from by rw [hB1.1.2.1]; decide) rfl ?_
      refine x_iinc rfl l1 (show (1 : Nat) < 2 from by decide) ?_
      refine x_goto (t := 70) rfl rfl ?_
      exact ih (many + 1) _ _ (by omega) (by omega) (xst_ne (by decide) l0 (Or.inl rfl)) xst_eq ⟨wMF_36 hB1 k0, ⟨ax, ay, af, xu_ne (by decide) c1, xu_ne (by decide) c2, xu_ne (by decide) c3, c4⟩, ⟨tl, xu_ne (by decide) g200, gl, gv, trivial⟩, ⟨sl, xu_ne (by decide) s1, s2⟩, fun q b1 b2 b3 b4 => xu_ne b1 (hfr1 q b1 b2 b3 b4)⟩
theorem xs_168 {v0 : Value} {xs : List Int32} {u : Nat × Nat} {f : Nat → zE} {K : List (Int × Int)} {G : Nat → List xBt} {n : Nat} {S : sS} {al : Nat → Bool} (hM : yM yT2 (xh f)) (hT : sMT f n S) (hn : n ≤ 12) (hK : ∀ c, c < n → sKM f K c (G c)) (hG : ∀ c, c < n → sGok K (G c)) (hA : sAD f al) : xq v0 xs u 168 [(0, .ref 177)] f (fun r' f' => r' = some (xi (wres (fun c => sbt K (G c)) al n S.1).1) ∧ sCD f' 0 ∧ sMT f' n S ∧ sWD f' (wres (fun c => sbt K (G c)) al n S.1).1 (fun i => (((wres (fun c => sbt K (G c)) al n S.1).2.getD i 0 : Nat) : Int)) ∧ ∀ q, q ≠ 177 → ¬ (192 ≤ q ∧ q ≤ 194) → ¬ (199 ≤ q ∧ q ≤ 201) → f' q = f q) := by
  unfold xq
  obtain ⟨⟨fs, hB⟩, hX, hJ, hC⟩ := id hT
  have hfl := hB.1.2.1
  have T : ∀ j p : Nat, ([.inl ytop, .inl (0, 100), .inr (.inr [178]), .inl ytop, .inl ytop, .inl ytop, .inl ytop, ylong, .inl ytop, .inl (0, 12), .inr (.inr [179]), .inr (.inr [180]), .inr (.inr [181]), .inr (.inr [182]), .inr (.inr [183]), .inr (.inr [184]), .inl ytop, .inr (.inr [185]), .inr (.inr [186]), .inl ytop, .inr (.inr [187]), .inr (.inr [188]), .inr (.inr [189]), .inr (.inr [190]), .inr (.inr [191]), .inr (.inr [192]), .inr (.inr [193]), .inr (.inr [194]), .inl ytop, .inl ytop, .inl ytop, .inl (0, 24), .inr (.inr [195]), .inr (.inr [196]), .inr (.inr [197]), .inr (.inr [198]), .inl (-1, 4), .inr (.inr [199]), .inr (.inr [200]), .inr (.inr [201]), .inr (.inr [202])] : List yA)[j]? = some (.inr (.inr [p])) → fs[j]? = some (.ref p) := by
    intro j p hj
    obtain ⟨fs', e1, -, e3⟩ := xT_o (p := 177) hM (by decide) yT2_177
    rw [hB.1.1] at e1
    cases e1
    obtain ⟨v, hv, hg⟩ := e3 j _ hj
    rw [hv, yg_rf hg]
  have h35 := T 35 198 rfl
  have h37 := T 37 199 rfl
  have h38 := T 38 200 rfl
  have h39 := T 39 201 rfl
  have a1 := T 22 189 rfl
  have a2 := T 23 190 rfl
  have a3 := T 24 191 rfl
  obtain ⟨wl, e199, el199, -⟩ := xT_a (p := 199) hM (by decide) (show yT2[199 - 50]? = some (.inr (.inl (0, [(4, ytop)]))) from rfl)
  obtain ⟨tl, e200, el200, -⟩ := xT_a (p := 200) hM (by decide) (show yT2[200 - 50]? = some (.inr (.inl (0, [(5, -1, 11)]))) from rfl)
  obtain ⟨sl, e201, el201, -⟩ := xT_a (p := 201) hM (by decide) (show yT2[201 - 50]? = some (.inr (.inl (0, [(40, ytop)]))) from rfl)
  have hwl : wl.length = 4 := el199
  have htl : tl.length = 5 := el200
  have hsl : sl.length = 40 := el201
  obtain ⟨mx, my, mf, x1, x2, x3, ⟨y1, y2, y3⟩, hx⟩ := id hX
  obtain ⟨ax, ay, af, c1, c2, c3, c4⟩ := hC
  refine x_aload_n rfl rfl ?_
  refine x_iconst rfl ?_
  refine x_putfield rfl (by decide) hB.1.1 (show (0 : Nat) < _ from by rw [hfl]; decide) rfl ?_
  refine x_aload_n rfl rfl ?_
  refine x_iconst rfl ?_
  refine x_putfield rfl (by decide) xu_eq (show (36 : Nat) < _ from by rw [slen hfl]; decide) rfl ?_
  refine x_iconst rfl ?_
  refine x_istore_n rfl (show (1 : Nat) < 2 from by decide) ?_
  generalize hf2 : xu (xu f 177 _) 177 _ = f2
  have g177 : f2 177 = .inl (10, (fs.set 0 (xi 0)).set 36 (xi (-1))) := by rw [← hf2]; exact xu_eq
  have hfa : ∀ q, q ≠ 177 → f2 q = f q := fun q b => by rw [← hf2]; exact xu_ne b (xu_ne b rfl)
  have hB2 := sMB_36 (sMB_0 (f' := fun _ => .inl (10, fs.set 0 (xi 0))) hB rfl) g177
  have Gf : ∀ j v, j ≠ 0 → j ≠ 36 → fs[j]? = some v → ((fs.set 0 (xi 0)).set 36 (xi (-1)))[j]? = some v := fun j v b1 b2 e => sget_ne (by omega) (sget_ne (by omega) e)
  refine xs_168a (r := S.1) g177 (Gf 22 _ (by decide) (by decide) a1) (Gf 23 _ (by decide) (by decide) a2) (Gf 24 _ (by decide) (by decide) a3) (Gf 39 _ (by decide) (by decide) h39) ((hfa 189 (by decide)).trans x1) ((hfa 190 (by decide)).trans x2) ((hfa 191 (by decide)).trans x3) y1 y2 y3 hx (fun lv f3 sl3 m0 g201 gl hv hfr => ?_) 8 0 _ f2 sl rfl (xst_ne (by decide) rfl (Or.inl rfl)) xst_eq ((hfa 201 (by decide)).trans e201) hsl (fun e he => absurd he (Nat.not_lt_zero e)) (fun _ _ => rfl)
  have k177 : f3 177 = _ := (hfr 177 (by decide)).trans g177
  have hB3 := sMB_f hB2 (f' := f3) (hfr 177 (by decide))
  have k0 : ((fs.set 0 (xi 0)).set 36 (xi (-1)))[0]? = some (xi 0) ∧ ((fs.set 0 (xi 0)).set 36 (xi (-1)))[35]? = some (.ref 198) ∧ ((fs.set 0 (xi 0)).set 36 (xi (-1)))[36]? = some (xi (-1)) ∧ ((fs.set 0 (xi 0)).set 36 (xi (-1)))[37]? = some (.ref 199) ∧ ((fs.set 0 (xi 0)).set 36 (xi (-1)))[38]? = some (.ref 200) ∧ ((fs.set 0 (xi 0)).set 36 (xi (-1)))[39]? = some (.ref 201) := ⟨sget_ne (by decide) (sget_eq (by rw [hfl]; decide)), Gf 35 _ (by decide) (by decide) h35, sget_eq (by rw [slen hfl]; decide), Gf 37 _ (by decide) (by decide) h37, Gf 38 _ (by decide) (by decide) h38, Gf 39 _ (by decide) (by decide) h39⟩
  have hff : ∀ q, q ≠ 177 → q ≠ 201 → f3 q = f q := fun q b1 b2 => (hfr q b2).trans (hfa q b1)
  have hr0 : ∀ d, d < 8 → sl3.getD (8 * 0 + d) 0 = S.1 d ∧ sok (S.1 d) := fun d hd => ⟨by rw [show 8 * 0 + d = d by omega]; exact hv d hd, (hx d hd).2⟩
  have hI3 : wDI f f3 n S 0 (fun _ => S.1) [] (fun _ => True) := ⟨⟨_, hB3, k0⟩, ⟨ax, ay, af, (hff 192 (by decide) (by decide)).trans c1, (hff 193 (by decide) (by decide)).trans c2, (hff 194 (by decide) (by decide)).trans c3, c4⟩, ⟨tl, (hff 200 (by decide) (by decide)).trans e200, htl, fun i hi => absurd hi (Nat.not_lt_zero i), trivial⟩, ⟨sl3, g201, gl, fun i hi => by rw [show i = 0 by omega]; exact hr0⟩, fun q b1 b2 b3 b4 => hff q b1 b4⟩
  refine x_aload_n rfl m0 ?_
  refine x_iconst rfl ?_
  refine x_call [_, _] rfl rfl (show (0 : Nat) ≤ 8 from by decide) (show (2 : Nat) ≤ 4 from by decide) (x_rcv (by decide) k177) (xs_164 (k := 0) (r := S.1) k177 k0.2.2.2.2.2 g201 gl (by decide) hr0) (fun r' f' hP => ?_)
  obtain ⟨rfl, hPe⟩ := hP
  subst f'
  have hwh : whm ([], S.1) = sall (fun d => S.1 d == shome d) 8 := rfl
  rw [← hwh]
  by_cases hh : whm ([], S.1) = true
  · rw [if_pos hh]
    refine x_ifeq (t := 68) rfl rfl (by decide) (fun h => absurd h (by decide)) (fun _ => ?_)
    have ew : (wres (fun c => sbt K (G c)) al n S.1) = (0, []) := by unfold wres; rw [if_pos hh]
    rw [ew]
    refine x_aload_n rfl m0 ?_
    refine x_iconst rfl ?_
    refine x_putfield rfl (by decide) k177 (show (36 : Nat) < _ from by rw [slen (slen hfl)]; decide) rfl ?_
    refine x_iconst rfl ?_
    refine x_istore_n rfl (show (1 : Nat) < 2 from by decide) ?_
    refine x_iload_n rfl xst_eq ?_
    refine x_iconst rfl ?_
    refine x_cgt (t := 105) rfl rfl (by decide) (by decide) (fun h => absurd h (by decide)) (fun _ => ?_)
    refine x_aload_n rfl (xst_ne (by decide) m0 (Or.inl rfl)) ?_
    refine x_getfield rfl (by decide) xu_eq (sget_eq (by rw [slen (slen hfl)]; decide)) ?_
    refine x_ifge (t := 105) rfl rfl (by decide) (fun _ => ?_) (fun h => absurd h (by decide))
    exact xs_168d (F := 0) (p := []) (tl := tl) (wl := wl) hX hJ (by decide) (xst_ne (by decide) m0 (Or.inl rfl)) (wMF_36 hB3 k0) ⟨ax, ay, af, xu_ne (by decide) ((hff 192 (by decide) (by decide)).trans c1), xu_ne (by decide) ((hff 193 (by decide) (by decide)).trans c2), xu_ne (by decide) ((hff 194 (by decide) (by decide)).trans c3), c4⟩ (xu_ne (by decide) ((hff 200 (by decide) (by decide)).trans e200)) htl (fun i hi => by omega) (xu_ne (by decide) ((hff 199 (by decide) (by decide)).trans e199)) hwl (fun q b1 b2 b3 => xu_ne b1 (hff q b1 (by omega)))
  rw [if_neg hh]
  refine x_ifeq (t := 68) rfl rfl (by decide) (fun _ => ?_) (fun h => absurd rfl h)
  have ew : (wres (fun c => sbt K (G c)) al n S.1) = wrs (fun c => sbt K (G c)) al n S.1 4 1 := by unfold wres; rw [if_neg hh]
  rw [ew]
  refine x_iconst rfl ?_
  refine x_istore_n rfl (show (1 : Nat) < 2 from by decide) ?_
  exact xs_168m hX hJ hK hG hA hn rfl e199 hwl 4 1 _ f3 rfl (by decide) (xst_ne (by decide) m0 (Or.inl rfl)) xst_eq hI3
