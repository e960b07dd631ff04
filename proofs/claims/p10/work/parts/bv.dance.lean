/-! Branches and search of the class. -/
def wFr (f0 f : Nat → zE) : Prop := ∀ q, ¬ (115 ≤ q ∧ q ≤ 121) → q ≠ 171 → q ≠ 172 → f q = f0 q
def wIn (f : Nat → zE) : Prop := sDN f ∧ (∃ (w : Value) (l : List Int), f 171 = .inl (9, [.ref (171 + 1), w]) ∧ f (171 + 1) = xr 0 l ∧ l.length = 136) ∧ ∃ k0 : List Int, f 121 = xr 0 k0 ∧ k0.length = 4
theorem wkT_pre (b : Nat → List sB) (al : Nat → Bool) (x : sNd) (c : Nat) : ∀ k, ∃ rest, wkT b al x (c + k) = wkT b al x c ++ rest := by
  intro k
  induction k with
  | zero => exact ⟨[], (List.append_nil _).symm⟩
  | succ k ih =>
    obtain ⟨rest, e⟩ := ih
    refine ⟨rest ++ wk1 b al x (c + k), ?_⟩
    show wkT b al x (c + k) ++ wk1 b al x (c + k) = _
    rw [e, List.append_assoc]
/-- what branches comes to -/
def wBQ (f0 : Nat → zE) (b : Nat → List sB) (al : Nat → Bool) (n : Nat) (T0 : List sNd) (x : sNd) (L : Nat) (r' : Option Value) (f' : Nat → zE) : Prop := wFr f0 f' ∧ wIn f' ∧ ((∃ y : sNd, (wkT b al x n).find? whm = some y ∧ r' = some (xi 1) ∧ (∃ nd : Int, wHO f' nd (L : Nat)) ∧ ∃ cl : List Int, f' 121 = xr 0 cl ∧ cl.length = 4 ∧ ∀ i, i < L → cl.getD i 0 = ((y.1.getD i 0 : Nat) : Int)) ∨ ((wkT b al x n).find? whm = none ∧ r' = some (xi 0) ∧ wHO f' ((T0 ++ if L < 4 then wkT b al x n else []).length : Nat) 0 ∧ wNT f' (T0 ++ if L < 4 then wkT b al x n else [])))
set_option maxRecDepth 20000 in
theorem xs_161l {v0 : Value} {xs : List Int32} {u : Nat × Nat} {f0 : Nat → zE} {K : List (Int × Int)} {G : Nat → List xBt} {n : Nat} {al : Nat → Bool} {T0 : List sNd} {node L : Nat} {x : sNd} (hCK : sCK f0 K G n) (hAC : sAC f0 al) (hx : T0.getD node wN0 = x) (hnode : node < T0.length) (hL : 1 ≤ L ∧ L ≤ 4) (hpath : x.1.length + 1 = L) (hroom : L < 4 → T0.length + (wkT (fun c => sbt K (G c)) al x n).length ≤ 156) : ∀ (w c : Nat) (lv : zL) (f : Nat → zE), w + c = n → zlv lv 0 = some (.ref 117) → zlv lv 1 = some (xi (node : Nat)) → zlv lv 2 = some (xi (L : Nat)) → zlv lv 3 = some (.ref 171) → zlv lv 4 = some (xi (c : Nat)) → wFr f0 f → wIn f → wHO f ((T0 ++ if L < 4 then wkT (fun c => sbt K (G c)) al x c else []).length : Nat) 0 → wNT f (T0 ++ if L < 4 then wkT (fun c => sbt K (G c)) al x c else []) → (wkT (fun c => sbt K (G c)) al x c).find? whm = none → xz v0 xs u (fun o X => ∃ r' f', o = .inl r' ∧ X = (xh f', u) ∧ wBQ f0 (fun c => sbt K (G c)) al n T0 x L r' f') 161 3 lv [] f := by
  obtain ⟨hn, -, -, -, -, hG⟩ := id hCK
  intro w
  induction w with
  | zero =>
    intro c lv f hw l0 l1 l2 l3 l4 hfr hin hH hT hfd
    have ec : c = n := by omega
    subst ec
    have hCKf : sCK f K G c := sCK_f hCK fun q b1 b2 => hfr q (by omega) (by omega) (by omega)
    obtain ⟨-, ⟨kp, pt, h53⟩, -⟩ := hCKf
    refine x_iload rfl l4 ?_
    refine x_aload_n rfl l0 ?_
    refine x_getfield rfl (by decide) hH rfl ?_
    refine x_getfield rfl (by decide) h53 rfl ?_
    refine x_cge (t := 101) rfl rfl ⟨by omega, by omega⟩ ⟨by omega, by omega⟩ (fun _ => ?_) (fun h => by omega)
    refine x_iconst rfl ?_
    exact x_ireturn rfl (Or.inr (Or.inl ⟨rfl, by decide⟩)) ⟨_, _, rfl, rfl, hfr, hin, Or.inr ⟨hfd, rfl, hH, hT⟩⟩
  | succ w ih =>
    intro c lv f hw l0 l1 l2 l3 l4 hfr hin hH hT hfd
    have hcn : c < n := by omega
    have hla := (hG c hcn).1
    have hlA : (sbt K (G c)).length ≤ 16 := by rw [sbt_len]; exact hla
    have hCKf : sCK f K G n := sCK_f hCK fun q b1 b2 => hfr q (by omega) (by omega) (by omega)
    obtain ⟨-, ⟨kp, pt, h53⟩, h54, hPK, hFG, -⟩ := id hCKf
    obtain ⟨nm, bb, dd, hfig0⟩ := hAC c (by omega)
    have hfig := (hfr (57 + 4 * c) (by omega) (by omega) (by omega)).trans hfig0
    obtain ⟨hDN, ⟨wt, lt, t1, t2, t3⟩, k0, g121, gk0⟩ := id hin
    obtain ⟨rl, pl, cl, e1, e2, e3, ⟨el1, el2, el3⟩, hT156, hTk⟩ := id hT
    have eT : wkT (fun c => sbt K (G c)) al x (c + 1) = wkT (fun c => sbt K (G c)) al x c ++ wk1 (fun c => sbt K (G c)) al x c := rfl
    have hTx : (T0 ++ if L < 4 then wkT (fun c => sbt K (G c)) al x c else []).getD node wN0 = x := by
      rw [List.getD_eq_getElem?_getD, List.getElem?_append_left hnode, ← List.getD_eq_getElem?_getD]
      exact hx
    have hnT : node < (T0 ++ if L < 4 then wkT (fun c => sbt K (G c)) al x c else []).length := by rw [List.length_append]; omega
    have hrow := (hTk node hnT).1
    rw [hTx] at hrow
    refine x_iload rfl l4 ?_
    refine x_aload_n rfl l0 ?_
    refine x_getfield rfl (by decide) hH rfl ?_
    refine x_getfield rfl (by decide) h53 rfl ?_
    refine x_cge (t := 101) rfl rfl ⟨by omega, by omega⟩ ⟨by omega, by omega⟩ (fun h => by omega) (fun _ => ?_)
    refine x_aload_n rfl l0 ?_
    refine x_getfield rfl (by decide) hH rfl ?_
    refine x_getfield rfl (by decide) h53 rfl ?_
    refine x_iload rfl l4 ?_
    refine x_aaload rfl (by decide) h54 ⟨by omega, by rw [show xfl.length = 13 from rfl]; omega⟩ (by decide) (o := 57 + 4 * c) (by rw [Int.toNat_natCast]; exact xfl_at (by omega)) ?_
    refine x_getfield rfl (by omega) hfig rfl ?_
    have skip : ∀ f5 : Nat → zE, wk1 (fun c => sbt K (G c)) al x c = [] → wFr f0 f5 → wIn f5 → (∀ q, 117 ≤ q → q ≤ 120 → f5 q = f q) → xz v0 xs u (fun o X => ∃ r' f', o = .inl r' ∧ X = (xh f', u) ∧ wBQ f0 (fun c => sbt K (G c)) al n T0 x L r' f') 161 95 lv [] f5 := by
      intro f5 hk hfr5 hin5 he5
      refine x_iinc rfl l4 (show (4 : Nat) < 5 from by decide) ?_
      refine x_goto (t := 3) rfl rfl ?_
      refine ih (c + 1) _ _ (by omega) (xst_ne (by decide) l0 (Or.inl rfl)) (xst_ne (by decide) l1 (Or.inl rfl)) (xst_ne (by decide) l2 (Or.inl rfl)) (xst_ne (by decide) l3 (Or.inl rfl)) xst_eq hfr5 hin5 ?_ ?_ ?_
      · rw [eT, hk, List.append_nil]
        exact (he5 117 (by decide) (by decide)).trans hH
      · rw [eT, hk, List.append_nil]
        exact wNT_f hT fun q b1 b2 => he5 q (by omega) b2
      · rw [eT, hk, List.append_nil]
        exact hfd
    cases ha : al c with
    | false =>
      refine x_ifeq (t := 95) rfl rfl (by decide) (fun _ => ?_) (fun h => absurd rfl h)
      refine skip f ?_ hfr hin (fun _ _ _ => rfl)
      unfold wk1
      rw [if_neg (fun h => by rw [ha] at h; exact absurd h.1 (by decide))]
    | true =>
      refine x_ifeq (t := 95) rfl rfl (by decide) (fun h => absurd h (by decide)) (fun _ => ?_)
      refine x_aload_n rfl l3 ?_
      refine x_aload_n rfl l0 ?_
      refine x_getfield rfl (by decide) hH rfl ?_
      refine x_iload_n rfl l1 ?_
      refine x_bipush rfl (by decide) ?_
      refine x_imul rfl ?_
      refine x_call [_, _, _] rfl rfl (show (0 : Nat) ≤ 8 from by decide) (show (3 : Nat) ≤ 3 from by decide) (x_rcv (by decide) t1) (xs_91 (t := 171) (p := 118) (o := (node : Nat) * 8) (by decide) t1 t2 t3 (by decide) (by decide) e1 (by omega) ⟨by omega, by omega⟩) (fun r' f1 hP => ?_)
      obtain ⟨rfl, p1, ⟨l1a, p2, p3, p4⟩, p5⟩ := hP
      have hr1 : sRL l1a 0 x.2 := by
        refine ⟨by omega, by omega, fun d hd => ?_⟩
        obtain ⟨a1, a2⟩ := hrow.2.2 d hd
        refine ⟨?_, a2⟩
        rw [show ((0 : Int) + (d : Nat)).toNat = d by omega, p4 d hd]
        exact a1
      have hH1 : f1 117 = _ := (p5 117 (by decide) (by decide)).trans hH
      have hCK1 : sCK f1 K G n := sCK_f hCKf fun q b1 b2 => p5 q (by omega) (by omega)
      obtain ⟨-, ⟨kp1, pt1, c53⟩, c54, cPK, cFG, -⟩ := id hCK1
      have hDN1 : sDN f1 := sDN_f hDN fun q b1 b2 => p5 q (by omega) (by omega)
      refine x_aload_n rfl l0 ?_
      refine x_getfield rfl (by decide) hH1 rfl ?_
      refine x_aload_n rfl l3 ?_
      refine x_aload_n rfl l0 ?_
      refine x_getfield rfl (by decide) hH1 rfl ?_
      refine x_getfield rfl (by decide) c53 rfl ?_
      refine x_iload rfl l4 ?_
      refine x_aaload rfl (by decide) c54 ⟨by omega, by rw [show xfl.length = 13 from rfl]; omega⟩ (by decide) (o := 57 + 4 * c) (by rw [Int.toNat_natCast]; exact xfl_at (by omega)) ?_
      refine x_iconst rfl ?_
      refine x_call [_, _, _, _] rfl rfl (show (0 : Nat) ≤ 8 from by decide) (show (4 : Nat) ≤ 6 from by decide) (x_rcv (by decide) hDN1.1) (xs_105 (t := 171) (fg := 57 + 4 * c) (back := false) (r0 := x.2) hDN1 cPK (hG c hcn) (cFG c hcn) (by decide) p1 p2 p3 hr1) (fun r' f2 hP => ?_)
      obtain ⟨rfl, ⟨l2a, u1, u2, u3⟩, ⟨ca, u4, u5, u6⟩, hDN2, u7⟩ := hP
      rw [show (G c).length = (sbt K (G c)).length from (sbt_len K (G c)).symm] at u3 u6 ⊢
      have hrg := sres_rg (bt := sbt K (G c)) (back := false) (r0 := x.2) (sbt K (G c)).length
      have hfr2 : wFr f0 f2 := fun q b1 b2 b3 => (u7 q (by omega) (by omega) b2 b3).trans ((p5 q b2 b3).trans (hfr q b1 b2 b3))
      have he2 : ∀ q, 117 ≤ q → q ≤ 121 → f2 q = f q := fun q b1 b2 => (u7 q (by omega) (by omega) (by omega) (by omega)).trans (p5 q (by omega) (by omega))
      have hin2 : wIn f2 := ⟨hDN2, ⟨_, l2a, u4, u1, u2⟩, k0, (he2 121 (by decide) (by decide)).trans g121, gk0⟩
      refine x_ifne (t := 95) rfl rfl ⟨by omega, by omega⟩ (fun hz => ?_) (fun hz => ?_)
      · refine skip f2 ?_ hfr2 hin2 (fun q b1 b2 => he2 q b1 (by omega))
        unfold wk1
        rw [if_neg (fun h => hz h.2)]
      have hk1 : wk1 (fun c => sbt K (G c)) al x c = [(x.1 ++ [c], srow (sbt K (G c)) false x.2 (sbt K (G c)).length)] := by
        unfold wk1
        rw [if_pos ⟨ha, hz⟩]
      have hca := u6 hz
      subst hca
      have hTR := (u3 hz).2 _ (Nat.le_refl _)
      have hH2 : wHO f2 ((T0 ++ if L < 4 then wkT (fun c => sbt K (G c)) al x c else []).length : Nat) 0 := (he2 117 (by decide) (by decide)).trans hH
      have hT2 : wNT f2 (T0 ++ if L < 4 then wkT (fun c => sbt K (G c)) al x c else []) := wNT_f hT fun q b1 b2 => he2 q (by omega) (by omega)
      refine x_aload_n rfl l3 ?_
      refine x_call [_] rfl rfl (show (0 : Nat) ≤ 8 from by decide) (show (1 : Nat) ≤ 1 from by decide) (x_rcv (by decide) u4) (xs_158 (t := 171) (by decide) u4 u1 u2 hTR) (fun r' f' hP => ?_)
      obtain ⟨rfl, hPe⟩ := hP
      subst f'
      have hwh : whm (x.1 ++ [c], srow (sbt K (G c)) false x.2 (sbt K (G c)).length) = sall (fun d => srow (sbt K (G c)) false x.2 (sbt K (G c)).length d == shome d) 8 := rfl
      rw [← hwh]
      by_cases hh : whm (x.1 ++ [c], srow (sbt K (G c)) false x.2 (sbt K (G c)).length) = true
      · rw [if_pos hh]
        refine x_ifeq (t := 82) rfl rfl (by decide) (fun h => absurd h (by decide)) (fun _ => ?_)
        refine x_aload_n rfl l0 ?_
        refine x_iload_n rfl l1 ?_
        refine x_iload rfl l4 ?_
        refine x_iload_n rfl l2 ?_
        refine x_call [_, _, _, _] rfl rfl (show (0 : Nat) ≤ 8 from by decide) (show (4 : Nat) ≤ 6 from by decide) (x_rcv (by decide) hH2) (xs_159 hH2 hT2 hnT hL (by rw [hTx]; exact hpath) ((he2 121 (by decide) (by decide)).trans g121) gk0) (fun r' f3 hP => ?_)
        obtain ⟨rfl, r1, ⟨cl3, r2, r3, r4⟩, r5⟩ := hP
        refine x_iconst rfl ?_
        refine x_ireturn rfl (Or.inr (Or.inl ⟨rfl, by decide⟩)) ⟨_, _, rfl, rfl, fun q b1 b2 b3 => (r5 q (by omega) (by omega)).trans (hfr2 q b1 b2 b3), ⟨sDN_f hDN2 fun q b1 b2 => r5 q (by omega) (by omega), ⟨_, l2a, (r5 171 (by decide) (by decide)).trans u4, (r5 (171 + 1) (by decide) (by decide)).trans u1, u2⟩, cl3, r2, r3⟩, Or.inl ⟨(x.1 ++ [c], srow (sbt K (G c)) false x.2 (sbt K (G c)).length), ?_, rfl, ⟨_, r1⟩, cl3, r2, r3, fun i hi => by rw [r4 i hi, hTx]⟩⟩
        obtain ⟨rest, erest⟩ := wkT_pre (fun c => sbt K (G c)) al x (c + 1) (n - (c + 1))
        rw [show c + 1 + (n - (c + 1)) = n by omega] at erest
        rw [erest, eT, hk1]
        refine find_app_some _ _ ?_
        rw [find_app _ _ hfd, List.find?_cons, hh]
      · rw [if_neg hh]
        refine x_ifeq (t := 82) rfl rfl (by decide) (fun _ => ?_) (fun h => absurd rfl h)
        have hfd2 : (wkT (fun c => sbt K (G c)) al x (c + 1)).find? whm = none := by
          rw [eT, hk1, find_app _ _ hfd, List.find?_cons, bool_f hh]
          rfl
        refine x_iload_n rfl l2 ?_
        refine x_iconst rfl ?_
        refine x_cge (t := 95) rfl rfl ⟨by omega, by omega⟩ (by decide) (fun h4 => ?_) (fun h4 => ?_)
        · have hL4 : ¬ L < 4 := by omega
          rw [if_neg hL4] at hH2 hT2
          refine x_iinc rfl l4 (show (4 : Nat) < 5 from by decide) ?_
          refine x_goto (t := 3) rfl rfl ?_
          refine ih (c + 1) _ _ (by omega) (xst_ne (by decide) l0 (Or.inl rfl)) (xst_ne (by decide) l1 (Or.inl rfl)) (xst_ne (by decide) l2 (Or.inl rfl)) (xst_ne (by decide) l3 (Or.inl rfl)) xst_eq hfr2 hin2 ?_ ?_ hfd2
          · rw [if_neg hL4]
            exact hH2
          · rw [if_neg hL4]
            exact hT2
        · have hL4 : L < 4 := by omega
          have hrm := hroom hL4
          obtain ⟨rest, erest⟩ := wkT_pre (fun c => sbt K (G c)) al x (c + 1) (n - (c + 1))
          rw [show c + 1 + (n - (c + 1)) = n by omega] at erest
          rw [erest, eT, hk1, List.length_append, List.length_append, List.length_singleton] at hrm
          rw [if_pos hL4] at hH2 hT2 hnT hTx
          refine x_aload_n rfl l0 ?_
          refine x_iload_n rfl l1 ?_
          refine x_iload rfl l4 ?_
          refine x_aload_n rfl l3 ?_
          refine x_call [_, _, _, _] rfl rfl (show (0 : Nat) ≤ 8 from by decide) (show (4 : Nat) ≤ 4 from by decide) (x_rcv (by decide) hH2) (xs_160 (c := c) hH2 hT2 (by rw [List.length_append]; omega) hnT u4 u1 u2 hlA hTR) (fun r' f3 hP => ?_)
          obtain ⟨rfl, r1, r2, r3⟩ := hP
          rw [hTx, List.append_assoc] at r2
          refine x_iinc rfl l4 (show (4 : Nat) < 5 from by decide) ?_
          refine x_goto (t := 3) rfl rfl ?_
          refine ih (c + 1) _ _ (by omega) (xst_ne (by decide) l0 (Or.inl rfl)) (xst_ne (by decide) l1 (Or.inl rfl)) (xst_ne (by decide) l2 (Or.inl rfl)) (xst_ne (by decide) l3 (Or.inl rfl)) xst_eq (fun q b1 b2 b3 => (r3 q (by omega)).trans (hfr2 q b1 b2 b3)) ⟨sDN_f hDN2 fun q b1 b2 => r3 q (by omega), ⟨_, l2a, (r3 171 (by decide)).trans u4, (r3 (171 + 1) (by decide)).trans u1, u2⟩, k0, (r3 121 (by decide)).trans ((he2 121 (by decide) (by decide)).trans g121), gk0⟩ ?_ ?_ hfd2
          · rw [if_pos hL4, eT, hk1, ← List.append_assoc, List.length_append, List.length_singleton]
            exact r1
          · rw [if_pos hL4, eT, hk1]
            exact r2
theorem xs_161 {v0 : Value} {xs : List Int32} {u : Nat × Nat} {f0 f : Nat → zE} {K : List (Int × Int)} {G : Nat → List xBt} {n : Nat} {al : Nat → Bool} {T0 : List sNd} {node L : Nat} {x : sNd} (hCK : sCK f0 K G n) (hAC : sAC f0 al) (hx : T0.getD node wN0 = x) (hnode : node < T0.length) (hL : 1 ≤ L ∧ L ≤ 4) (hpath : x.1.length + 1 = L) (hroom : L < 4 → T0.length + (wkT (fun c => sbt K (G c)) al x n).length ≤ 156) (hfr : wFr f0 f) (hin : wIn f) (hH : wHO f (T0.length : Nat) 0) (hT : wNT f T0) : xq v0 xs u 161 [(0, .ref 117), (1, xi (node : Nat)), (2, xi (L : Nat)), (3, .ref 171)] f (wBQ f0 (fun c => sbt K (G c)) al n T0 x L) := by
  unfold xq
  refine x_iconst rfl ?_
  refine x_istore rfl (show (4 : Nat) < 5 from by decide) ?_
  have e0 : (T0 ++ if L < 4 then wkT (fun c => sbt K (G c)) al x 0 else []) = T0 := by
    split
    · exact List.append_nil _
    · exact List.append_nil _
  exact xs_161l hCK hAC hx hnode hL hpath hroom n 0 _ f (by omega) (xst_ne (by decide) rfl (Or.inl rfl)) (xst_ne (by decide) rfl (Or.inl rfl)) (xst_ne (by decide) rfl (Or.inl rfl)) (xst_ne (by decide) rfl (Or.inl rfl)) xst_eq hfr hin (by rw [e0]; exact hH) (by rw [e0]; exact hT) rfl
