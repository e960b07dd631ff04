/-! Same: the class. -/
theorem x_dia1 {v0 : Value} {xs : List Int32} {u : Nat × Nat} {Q : zO → zX → Prop} {mi pc : Nat} {lv : zL} {w : Value} {st : List Value} {f : Nat → zE} (v : Int) (pj : Nat) (h : xz v0 xs u Q mi pj lv (xi v :: st) f → xz v0 xs u Q mi pc lv (w :: st) f) (k : xz v0 xs u Q mi pj lv (xi v :: st) f) : xz v0 xs u Q mi pc lv (w :: st) f := h k
def sgd (bt : List sB) (r : Nat → Int) : Bool := sres bt false r bt.length == 0
def seq1 (ba bb : List sB) (r : Nat → Int) : Bool := (sgd ba r == sgd bb r) && (!sgd ba r || sall (fun d => srow ba false r ba.length d == srow bb false r bb.length d) 8)
def sSM (K : List (Int × Int)) (G : Nat → List xBt) (n : Nat) (S : sS) (a b : Int) : Int × Int × sS := if (0 ≤ a ∧ a < (n : Nat)) ∧ 0 ≤ b ∧ b < (n : Nat) then (0, if sall (fun t => seq1 (sbt K (G a.toNat)) (sbt K (G b.toNat)) (shomeT (t : Nat))) 4 = true then 1 else 0, S) else (1, 0, S)
theorem seq1_n {ba bb : List sB} {r : Nat → Int} (h : (sres ba false r ba.length = 0 ∧ ¬ sres bb false r bb.length = 0) ∨ (¬ sres ba false r ba.length = 0 ∧ sres bb false r bb.length = 0)) : seq1 ba bb r = false := by
  unfold seq1 sgd
  rcases h with ⟨h1, h2⟩ | ⟨h1, h2⟩
  · rw [beq_iff_eq.mpr h1, beq_eq_false_iff_ne.mpr h2]
    rfl
  · rw [beq_iff_eq.mpr h2, beq_eq_false_iff_ne.mpr h1]
    rfl
theorem seq1_f {ba bb : List sB} {r : Nat → Int} (h1 : ¬ sres ba false r ba.length = 0) (h2 : ¬ sres bb false r bb.length = 0) : seq1 ba bb r = true := by
  unfold seq1 sgd
  rw [beq_eq_false_iff_ne.mpr h1, beq_eq_false_iff_ne.mpr h2]
  rfl
theorem seq1_t {ba bb : List sB} {r : Nat → Int} (h1 : sres ba false r ba.length = 0) (h2 : sres bb false r bb.length = 0) : seq1 ba bb r = sall (fun d => srow ba false r ba.length d == srow bb false r bb.length d) 8 := by
  unfold seq1 sgd
  rw [beq_iff_eq.mpr h1, beq_iff_eq.mpr h2]
  rfl
theorem xs_172 {v0 : Value} {xs : List Int32} {u : Nat × Nat} {f : Nat → zE} {t1 t2 c1 c2 : Nat} {l1 l2 : List Int} {r1 r2 : Nat → Int} (ht1 : 50 ≤ t1 ∧ t1 < 203) (ht2 : 50 ≤ t2 ∧ t2 < 203) (h1 : f t1 = .inl (9, [.ref (t1 + 1), xi (c1 : Nat)])) (h2 : f (t1 + 1) = xr 0 l1) (hl1 : l1.length = 136) (hc1 : c1 ≤ 16) (k1 : f t2 = .inl (9, [.ref (t2 + 1), xi (c2 : Nat)])) (k2 : f (t2 + 1) = xr 0 l2) (hl2 : l2.length = 136) (hc2 : c2 ≤ 16) (hr1 : sRL l1 ((c1 : Nat) * 8) r1) (hr2 : sRL l2 ((c2 : Nat) * 8) r2) : xq v0 xs u 172 [(0, .ref t1), (1, .ref t2)] f (fun r' f' => r' = some (xi (if sall (fun d => r1 d == r2 d) 8 = true then 1 else 0)) ∧ f' = f) := by
  unfold xq
  have lp : ∀ (w d : Nat) (lv : zL), w + d = 8 → zlv lv 0 = some (.ref t1) → zlv lv 1 = some (.ref t2) → zlv lv 2 = some (xi (d : Nat)) → sall (fun d => r1 d == r2 d) d = true → xz v0 xs u (fun o X => ∃ r' f', o = .inl r' ∧ X = (xh f', u) ∧ (fun r' f' => r' = some (xi (if sall (fun d => r1 d == r2 d) 8 = true then 1 else 0)) ∧ f' = f) r' f') 172 2 lv [] f := by
    intro w
    induction w with
    | zero =>
      intro d lv hw l0 l1' l2' hs
      have e8 : d = 8 := by omega
      subst e8
      refine x_iload_n rfl l2' ?_
      refine x_bipush rfl (by decide) ?_
      refine x_cge (t := 37) rfl rfl (by decide) (by decide) (fun _ => ?_) (fun h => absurd h (by decide))
      refine x_iconst rfl ?_
      exact x_ireturn rfl (Or.inr (Or.inl ⟨rfl, by decide⟩)) ⟨_, _, rfl, rfl, by rw [if_pos hs], rfl⟩
    | succ w ih =>
      intro d lv hw l0 l1' l2' hs
      have hd : d < 8 := by omega
      obtain ⟨a1, a2⟩ := hr1.2.2 d hd
      obtain ⟨b1, b2⟩ := hr2.2.2 d hd
      have a3 : 0 ≤ r1 d ∧ r1 d < 400 := a2
      have b3 : 0 ≤ r2 d ∧ r2 d < 400 := b2
      refine x_iload_n rfl l2' ?_
      refine x_bipush rfl (by decide) ?_
      refine x_cge (t := 37) rfl rfl ⟨by omega, by omega⟩ (by decide) (fun h => by omega) (fun _ => ?_)
      refine x_aload_n rfl l0 ?_
      refine x_aload_n rfl l0 ?_
      refine x_getfield rfl ⟨by omega, by omega⟩ h1 rfl ?_
      refine x_iload_n rfl l2' ?_
      refine x_call [_, _, _] rfl rfl (show (0 : Nat) ≤ 8 from by decide) (show (3 : Nat) ≤ 3 from by decide) (x_rcv ⟨by omega, by omega⟩ h1) (xs_142 (b := (c1 : Nat)) ht1 h1 h2 hl1 ⟨by omega, by omega⟩ hd) (fun r' f' hP => ?_)
      obtain ⟨rfl, hPe⟩ := hP
      subst f'
      rw [a1]
      refine x_aload_n rfl l1' ?_
      refine x_aload_n rfl l1' ?_
      refine x_getfield rfl ⟨by omega, by omega⟩ k1 rfl ?_
      refine x_iload_n rfl l2' ?_
      refine x_call [_, _, _] rfl rfl (show (1 : Nat) ≤ 8 from by decide) (show (3 : Nat) ≤ 3 from by decide) (x_rcv ⟨by omega, by omega⟩ k1) (xs_142 (b := (c2 : Nat)) ht2 k1 k2 hl2 ⟨by omega, by omega⟩ hd) (fun r' f' hP => ?_)
      obtain ⟨rfl, hPe⟩ := hP
      subst f'
      rw [b1]
      have es : sall (fun d => r1 d == r2 d) (d + 1) = (sall (fun d => r1 d == r2 d) d && (r1 d == r2 d)) := rfl
      refine x_ceq (t := 31) rfl rfl ⟨by omega, by omega⟩ ⟨by omega, by omega⟩ (fun he => ?_) (fun he => ?_)
      · refine x_iinc rfl l2' (show (2 : Nat) < 3 from by decide) ?_
        refine x_goto (t := 2) rfl rfl ?_
        exact ih (d + 1) _ (by omega) (xst_ne (by decide) l0 (Or.inl rfl)) (xst_ne (by decide) l1' (Or.inl rfl)) xst_eq (by rw [es, hs, beq_iff_eq.mpr he]; rfl)
      · refine x_iconst rfl ?_
        refine x_ireturn rfl (Or.inr (Or.inl ⟨rfl, by decide⟩)) ⟨_, _, rfl, rfl, ?_, rfl⟩
        have ef : sall (fun d => r1 d == r2 d) 8 = false := sall_f (e := d + 1) (by rw [es, beq_eq_false_iff_ne.mpr he, Bool.and_false]) (by omega)
        rw [ef]
        rfl
  refine x_iconst rfl ?_
  refine x_istore_n rfl (show (2 : Nat) < 3 from by decide) ?_
  exact lp 8 0 _ rfl (xst_ne (by decide) rfl (Or.inl rfl)) (xst_ne (by decide) rfl (Or.inl rfl)) xst_eq rfl
theorem sCT_f2 {f f' : Nat → zE} {K : List (Int × Int)} {G : Nat → List xBt} {S : sS} (h : sCT f K G S) (h50 : f' 50 = f 50) (h175' : f' 175 = f 175) (hfr : ∀ q, 123 ≤ q → q ≤ 170 → f' q = f q) : sCT f' K G S := by
  obtain ⟨⟨lf, k50⟩, ⟨pl, h175, hpl⟩, h24, hJ⟩ := h
  refine ⟨⟨lf, h50.trans k50⟩, ⟨pl, h175'.trans h175, hpl⟩, h24, fun i hi => ?_⟩
  obtain ⟨j1, l, j2, j3⟩ := hJ i hi
  exact ⟨(hfr _ (by omega) (by omega)).trans j1, l, (hfr _ (by omega) (by omega)).trans j2, j3⟩
/-- what stays while same goes on -/
def sSI (f0 f : Nat → zE) : Prop := (∀ q, q ≠ 115 → q ≠ 116 → ¬ (171 ≤ q ∧ q ≤ 174) → q ≠ 176 → f q = f0 q) ∧ sDN f ∧ (∃ (w : Value) (l : List Int), f 171 = .inl (9, [.ref (171 + 1), w]) ∧ f (171 + 1) = xr 0 l ∧ l.length = 136) ∧ (∃ (w : Value) (l : List Int), f 173 = .inl (9, [.ref (173 + 1), w]) ∧ f (173 + 1) = xr 0 l ∧ l.length = 136) ∧ ∃ l : List Int, f 176 = xr 0 l ∧ l.length = 8
theorem sDN_f {f f' : Nat → zE} (h : sDN f) (e : ∀ q, 113 ≤ q → q ≤ 116 → f' q = f q) : sDN f' := by
  obtain ⟨a1, a2, ⟨dl, a3, a4⟩, al, a5, a6⟩ := h
  exact ⟨(e _ (by decide) (by decide)).trans a1, (e _ (by decide) (by decide)).trans a2, ⟨dl, (e _ (by decide) (by decide)).trans a3, a4⟩, al, (e _ (by decide) (by decide)).trans a5, a6⟩
theorem sSI_0 {f : Nat → zE} (hM : yM yT2 (xh f)) : sSI f f := by
  obtain ⟨z, l, k1, -, k3, k4, -⟩ := sTk hM (i := 24) (by decide)
  obtain ⟨z', l', k1', -, k3', k4', -⟩ := sTk hM (i := 25) (by decide)
  obtain ⟨m, e1, e2, -⟩ := xT_a (p := 176) hM (by decide) (show yT2[176 - 50]? = some (.inr (.inl (0, [(8, 0, 399)]))) from rfl)
  exact ⟨fun _ _ _ _ _ => rfl, sDN_M hM, ⟨_, l, k1, k3, k4⟩, ⟨_, l', k1', k3', k4'⟩, m, e1, e2⟩
theorem sRL_b {l pl : List Int} {r : Nat → Int} (hl : l.length = 136) (hr : sRL pl 0 r) (h : ∀ d : Nat, d < 8 → l.getD d 0 = pl.getD (0 + (d : Nat) : Int).toNat 0) : sRL l 0 r := by
  refine ⟨by omega, by omega, fun d hd => ?_⟩
  obtain ⟨a1, a2⟩ := hr.2.2 d hd
  refine ⟨?_, a2⟩
  rw [show ((0 : Int) + (d : Nat)).toNat = d by omega, h d hd]
  exact a1
set_option maxRecDepth 20000 in
theorem xs_173l {v0 : Value} {xs : List Int32} {u : Nat × Nat} {f0 : Nat → zE} {K : List (Int × Int)} {G : Nat → List xBt} {n i j : Nat} {S : sS} (hT : sCT f0 K G S) (hCK0 : sCK f0 K G n) (hi : i < n) (hj : j < n) : ∀ (w t : Nat) (lv : zL) (f : Nat → zE), w + t = 4 → zlv lv 0 = some (.ref 50) → zlv lv 1 = some (xi (i : Nat)) → zlv lv 2 = some (xi (j : Nat)) → zlv lv 3 = some (xi (t : Nat)) → sSI f0 f → sall (fun t => seq1 (sbt K (G i)) (sbt K (G j)) (shomeT (t : Nat))) t = true → xz v0 xs u (sCQ f0 u K G exW (0, if sall (fun t => seq1 (sbt K (G i)) (sbt K (G j)) (shomeT (t : Nat))) 4 = true then 1 else 0, S)) 173 12 lv [] f := by
  obtain ⟨⟨lf, k50⟩, -⟩ := id hT
  obtain ⟨hn, -, -, -, -, hG⟩ := id hCK0
  have hla := (hG i hi).1
  have hlb := (hG j hj).1
  have done : ∀ {f : Nat → zE} {y : Int}, sSI f0 f → y = (if sall (fun t => seq1 (sbt K (G i)) (sbt K (G j)) (shomeT (t : Nat))) 4 = true then 1 else 0) → sCQ f0 u K G exW (0, if sall (fun t => seq1 (sbt K (G i)) (sbt K (G j)) (shomeT (t : Nat))) 4 = true then 1 else 0, S) (.inl (some (xi y))) (xh f, u) := by
    intro f y hI hy
    rw [← hy]
    exact ⟨f, Or.inl ⟨rfl, rfl, rfl⟩, sCT_f2 hT (hI.1 50 (by decide) (by decide) (by decide) (by decide)) (hI.1 175 (by decide) (by decide) (by decide) (by decide)) (fun q b1 b2 => hI.1 q (by omega) (by omega) (by omega) (by omega)), fun q b1 b2 b3 b4 => hI.1 q b2 b3 (by omega) (by omega)⟩
  intro w
  induction w with
  | zero =>
    intro t lv f hw l0 l1 l2 l3 hI hs
    have e4 : t = 4 := by omega
    subst e4
    refine x_iload_n rfl l3 ?_
    refine x_iconst rfl ?_
    refine x_cge (t := 143) rfl rfl (by decide) (by decide) (fun _ => ?_) (fun h => absurd h (by decide))
    refine x_iconst rfl ?_
    exact x_ireturn rfl (Or.inr (Or.inl ⟨rfl, by decide⟩)) (done hI (by rw [if_pos hs]))
  | succ w ih =>
    intro t lv f hw l0 l1 l2 l3 hI hs
    have h50 : f 50 = _ := (hI.1 50 (by decide) (by decide) (by decide) (by decide)).trans k50
    obtain ⟨hfr, hDN, ⟨wa, la, ha1, ha2, ha3⟩, ⟨wb, lb, hb1, hb2, hb3⟩, ls, hs1, hs2⟩ := id hI
    have es : sall (fun t => seq1 (sbt K (G i)) (sbt K (G j)) (shomeT (t : Nat))) (t + 1) = (sall (fun t => seq1 (sbt K (G i)) (sbt K (G j)) (shomeT (t : Nat))) t && seq1 (sbt K (G i)) (sbt K (G j)) (shomeT (t : Nat))) := rfl
    refine x_iload_n rfl l3 ?_
    refine x_iconst rfl ?_
    refine x_cge (t := 143) rfl rfl ⟨by omega, by omega⟩ (by decide) (fun h => by omega) (fun _ => ?_)
    refine x_aload_n rfl l0 ?_
    refine x_getfield rfl (by decide) h50 rfl ?_
    refine x_iload_n rfl l3 ?_
    refine x_call [_, _] rfl rfl (show (0 : Nat) ≤ 8 from by decide) (show (2 : Nat) ≤ 3 from by decide) rfl (xs_11 (p := 176) (t := (t : Nat)) (by decide) ⟨by omega, by omega⟩ hs1 hs2) (fun r' f1 hP => ?_)
    obtain ⟨rfl, ⟨ls1, s1, s2, s3⟩, s4⟩ := hP
    refine x_aload_n rfl l0 ?_
    refine x_getfield rfl (by decide) ((s4 50 (by decide)).trans h50) rfl ?_
    refine x_aload_n rfl l0 ?_
    refine x_getfield rfl (by decide) ((s4 50 (by decide)).trans h50) rfl ?_
    refine x_iconst rfl ?_
    refine x_call [_, _, _] rfl rfl (show (0 : Nat) ≤ 8 from by decide) (show (3 : Nat) ≤ 3 from by decide) (x_rcv (by decide) ((s4 171 (by decide)).trans ha1)) (xs_91 (t := 171) (p := 176) (by decide) ((s4 171 (by decide)).trans ha1) ((s4 (171 + 1) (by decide)).trans ha2) ha3 (by decide) (by decide) s1 (by omega) ⟨by omega, by omega⟩) (fun r' f2 hP => ?_)
    obtain ⟨rfl, p1, ⟨la2, p2, p3, p4⟩, p5⟩ := hP
    have g50 : f2 50 = _ := (p5 50 (by decide) (by decide)).trans ((s4 50 (by decide)).trans h50)
    refine x_aload_n rfl l0 ?_
    refine x_getfield rfl (by decide) g50 rfl ?_
    refine x_aload_n rfl l0 ?_
    refine x_getfield rfl (by decide) g50 rfl ?_
    refine x_iconst rfl ?_
    refine x_call [_, _, _] rfl rfl (show (0 : Nat) ≤ 8 from by decide) (show (3 : Nat) ≤ 3 from by decide) (x_rcv (by decide) ((p5 173 (by decide) (by decide)).trans ((s4 173 (by decide)).trans hb1))) (xs_91 (t := 173) (p := 176) (by decide) ((p5 173 (by decide) (by decide)).trans ((s4 173 (by decide)).trans hb1)) ((p5 (173 + 1) (by decide) (by decide)).trans ((s4 (173 + 1) (by decide)).trans hb2)) hb3 (by decide) (by decide) ((p5 176 (by decide) (by decide)).trans s1) (by omega) ⟨by omega, by omega⟩) (fun r' f3 hP => ?_)
    obtain ⟨rfl, q1, ⟨lb2, q2, q3, q4⟩, q5⟩ := hP
    have hfr3 : ∀ q, ¬ (171 ≤ q ∧ q ≤ 174) → q ≠ 176 → f3 q = f q := fun q b1 b2 => (q5 q (by omega) (by omega)).trans ((p5 q (by omega) (by omega)).trans (s4 q b2))
    have k50' : f3 50 = _ := (hfr3 50 (by decide) (by decide)).trans h50
    have hra : sRL la2 0 (shomeT (t : Nat)) := sRL_b p3 s3 p4
    have hrb : sRL lb2 0 (shomeT (t : Nat)) := sRL_b q3 s3 q4
    have hCK3 : sCK f3 K G n := sCK_f hCK0 fun q b1 b2 => (hfr3 q (by omega) (by omega)).trans (hfr q (by omega) (by omega) (by omega) (by omega))
    obtain ⟨-, ⟨kp3, pt3, c53⟩, c54, cPK, cFG, -⟩ := id hCK3
    have hDN3 : sDN f3 := sDN_f hDN fun q b1 b2 => hfr3 q (by omega) (by omega)
    have t171 : f3 171 = _ := (q5 171 (by decide) (by decide)).trans p1
    have t172 : f3 (171 + 1) = _ := (q5 (171 + 1) (by decide) (by decide)).trans p2
    refine x_aload_n rfl l0 ?_
    refine x_getfield rfl (by decide) k50' rfl ?_
    refine x_aload_n rfl l0 ?_
    refine x_getfield rfl (by decide) k50' rfl ?_
    refine x_aload_n rfl l0 ?_
    refine x_getfield rfl (by decide) k50' rfl ?_
    refine x_iload_n rfl l1 ?_
    refine x_call [_, _] rfl rfl (show (2 : Nat) ≤ 8 from by decide) (show (2 : Nat) ≤ 2 from by decide) (x_rcv (by decide) c53) (xs_44 (by omega) c53 c54) (fun r' f' hP => ?_)
    obtain ⟨rfl, hPe⟩ := hP
    subst f'
    refine x_iconst rfl ?_
    refine x_call [_, _, _, _] rfl rfl (show (0 : Nat) ≤ 8 from by decide) (show (4 : Nat) ≤ 6 from by decide) (x_rcv (by decide) hDN3.1) (xs_105 (t := 171) (fg := 57 + 4 * i) (back := false) (r0 := shomeT (t : Nat)) hDN3 cPK (hG i hi) (cFG i hi) (by decide) t171 t172 p3 hra) (fun r' f4 hP => ?_)
    obtain ⟨rfl, ⟨la4, u1, u2, u3⟩, ⟨ca, u4, u5, u6⟩, hDN4, u7⟩ := hP
    rw [show (G i).length = (sbt K (G i)).length from (sbt_len K (G i)).symm] at u3 u6 ⊢
    have hrg4 := sres_rg (bt := sbt K (G i)) (back := false) (r0 := shomeT (t : Nat)) (sbt K (G i)).length
    have hlA : (sbt K (G i)).length ≤ 16 := by rw [sbt_len]; exact hla
    have hlB : (sbt K (G j)).length ≤ 16 := by rw [sbt_len]; exact hlb
    generalize hsa : sres (sbt K (G i)) false (shomeT (t : Nat)) (sbt K (G i)).length = sa at u3 u6 hrg4 ⊢
    show xz v0 xs u _ 173 69 lv [_] f4
    refine x_dia1 (if sa = 0 then 0 else 1) 77 (fun k => ?_) ?_
    · refine x_ifeq (t := 76) rfl rfl ⟨by omega, by omega⟩ (fun h => ?_) (fun h => ?_)
      · refine x_iconst rfl ?_
        rw [if_pos h] at k
        exact k
      · refine x_iconst rfl ?_
        refine x_goto (t := 77) rfl rfl ?_
        rw [if_neg h] at k
        exact k
    refine x_istore rfl (show (4 : Nat) < 6 from by decide) ?_
    have hfr4 : ∀ q, q ≠ 115 → q ≠ 116 → ¬ (171 ≤ q ∧ q ≤ 174) → q ≠ 176 → f4 q = f q := fun q b1 b2 b3 b4 => (u7 q b1 b2 (by omega) (by omega)).trans (hfr3 q b3 b4)
    have k50'' : f4 50 = _ := (hfr4 50 (by decide) (by decide) (by decide) (by decide)).trans h50
    have hCK4 : sCK f4 K G n := sCK_f hCK3 fun q b1 b2 => u7 q (by omega) (by omega) (by omega) (by omega)
    obtain ⟨-, ⟨kp4, pt4, d53⟩, d54, dPK, dFG, -⟩ := id hCK4
    have v173 : f4 173 = _ := (u7 173 (by decide) (by decide) (by decide) (by decide)).trans q1
    have v174 : f4 (173 + 1) = _ := (u7 (173 + 1) (by decide) (by decide) (by decide) (by decide)).trans q2
    refine x_aload_n rfl (xst_ne (by decide) l0 (Or.inl rfl)) ?_
    refine x_getfield rfl (by decide) k50'' rfl ?_
    refine x_aload_n rfl (xst_ne (by decide) l0 (Or.inl rfl)) ?_
    refine x_getfield rfl (by decide) k50'' rfl ?_
    refine x_aload_n rfl (xst_ne (by decide) l0 (Or.inl rfl)) ?_
    refine x_getfield rfl (by decide) k50'' rfl ?_
    refine x_iload_n rfl (xst_ne (by decide) l2 (Or.inl rfl)) ?_
    refine x_call [_, _] rfl rfl (show (2 : Nat) ≤ 8 from by decide) (show (2 : Nat) ≤ 2 from by decide) (x_rcv (by decide) d53) (xs_44 (by omega) d53 d54) (fun r' f' hP => ?_)
    obtain ⟨rfl, hPe⟩ := hP
    subst f'
    refine x_iconst rfl ?_
    refine x_call [_, _, _, _] rfl rfl (show (0 : Nat) ≤ 8 from by decide) (show (4 : Nat) ≤ 6 from by decide) (x_rcv (by decide) hDN4.1) (xs_105 (t := 173) (fg := 57 + 4 * j) (back := false) (r0 := shomeT (t : Nat)) hDN4 dPK (hG j hj) (dFG j hj) (by decide) v173 v174 q3 hrb) (fun r' f5 hP => ?_)
    obtain ⟨rfl, ⟨lb5, w1, w2, w3⟩, ⟨cb, w4, w5, w6⟩, hDN5, w7⟩ := hP
    rw [show (G j).length = (sbt K (G j)).length from (sbt_len K (G j)).symm] at w3 w6 ⊢
    have hrg5 := sres_rg (bt := sbt K (G j)) (back := false) (r0 := shomeT (t : Nat)) (sbt K (G j)).length
    generalize hsb : sres (sbt K (G j)) false (shomeT (t : Nat)) (sbt K (G j)).length = sb at w3 w6 hrg5 ⊢
    show xz v0 xs u _ 173 99 _ [_] f5
    refine x_dia1 (if sb = 0 then 0 else 1) 107 (fun k => ?_) ?_
    · refine x_ifeq (t := 106) rfl rfl ⟨by omega, by omega⟩ (fun h => ?_) (fun h => ?_)
      · refine x_iconst rfl ?_
        rw [if_pos h] at k
        exact k
      · refine x_iconst rfl ?_
        refine x_goto (t := 107) rfl rfl ?_
        rw [if_neg h] at k
        exact k
    refine x_istore rfl (show (5 : Nat) < 6 from by decide) ?_
    have hfr5 : ∀ q, q ≠ 115 → q ≠ 116 → ¬ (171 ≤ q ∧ q ≤ 174) → q ≠ 176 → f5 q = f q := fun q b1 b2 b3 b4 => (w7 q b1 b2 (by omega) (by omega)).trans (hfr4 q b1 b2 b3 b4)
    have x171 : f5 171 = _ := (w7 171 (by decide) (by decide) (by decide) (by decide)).trans u4
    have x172 : f5 (171 + 1) = _ := (w7 (171 + 1) (by decide) (by decide) (by decide) (by decide)).trans u1
    have x176 : f5 176 = _ := (w7 176 (by decide) (by decide) (by decide) (by decide)).trans ((u7 176 (by decide) (by decide) (by decide) (by decide)).trans ((q5 176 (by decide) (by decide)).trans ((p5 176 (by decide) (by decide)).trans s1)))
    have hI5 : sSI f0 f5 := ⟨fun q b1 b2 b3 b4 => (hfr5 q b1 b2 b3 b4).trans (hfr q b1 b2 b3 b4), hDN5, ⟨_, la4, x171, x172, u2⟩, ⟨_, lb5, w4, w1, w2⟩, ls1, x176, s2⟩
    have m0 : zlv (xst 5 (xi (if sb = 0 then 0 else 1)) (xst 4 (xi (if sa = 0 then 0 else 1)) lv)) 0 = some (.ref 50) := xst_ne (by decide) (xst_ne (by decide) l0 (Or.inl rfl)) (Or.inl rfl)
    have m1 : zlv (xst 5 (xi (if sb = 0 then 0 else 1)) (xst 4 (xi (if sa = 0 then 0 else 1)) lv)) 1 = some (xi (i : Nat)) := xst_ne (by decide) (xst_ne (by decide) l1 (Or.inl rfl)) (Or.inl rfl)
    have m2 : zlv (xst 5 (xi (if sb = 0 then 0 else 1)) (xst 4 (xi (if sa = 0 then 0 else 1)) lv)) 2 = some (xi (j : Nat)) := xst_ne (by decide) (xst_ne (by decide) l2 (Or.inl rfl)) (Or.inl rfl)
    have m3 : zlv (xst 5 (xi (if sb = 0 then 0 else 1)) (xst 4 (xi (if sa = 0 then 0 else 1)) lv)) 3 = some (xi (t : Nat)) := xst_ne (by decide) (xst_ne (by decide) l3 (Or.inl rfl)) (Or.inl rfl)
    have m4 : zlv (xst 5 (xi (if sb = 0 then 0 else 1)) (xst 4 (xi (if sa = 0 then 0 else 1)) lv)) 4 = some (xi (if sa = 0 then 0 else 1)) := xst_ne (by decide) xst_eq (Or.inl rfl)
    have m5 : zlv (xst 5 (xi (if sb = 0 then 0 else 1)) (xst 4 (xi (if sa = 0 then 0 else 1)) lv)) 5 = some (xi (if sb = 0 then 0 else 1)) := xst_eq
    generalize xst 5 (xi (if sb = 0 then 0 else 1)) (xst 4 (xi (if sa = 0 then 0 else 1)) lv) = lv2 at m0 m1 m2 m3 m4 m5 ⊢
    have next : seq1 (sbt K (G i)) (sbt K (G j)) (shomeT (t : Nat)) = true → xz v0 xs u (sCQ f0 u K G exW (0, if sall (fun t => seq1 (sbt K (G i)) (sbt K (G j)) (shomeT (t : Nat))) 4 = true then 1 else 0, S)) 173 137 lv2 [] f5 := by
      intro hq
      refine x_iinc rfl m3 (show (3 : Nat) < 6 from by decide) ?_
      refine x_goto (t := 12) rfl rfl ?_
      exact ih (t + 1) _ _ (by omega) (xst_ne (by decide) m0 (Or.inl rfl)) (xst_ne (by decide) m1 (Or.inl rfl)) (xst_ne (by decide) m2 (Or.inl rfl)) xst_eq hI5 (by rw [es, hs, hq]; rfl)
    have stop : seq1 (sbt K (G i)) (sbt K (G j)) (shomeT (t : Nat)) = false → xz v0 xs u (sCQ f0 u K G exW (0, if sall (fun t => seq1 (sbt K (G i)) (sbt K (G j)) (shomeT (t : Nat))) 4 = true then 1 else 0, S)) 173 135 lv2 [] f5 := by
      intro hq
      refine x_iconst rfl ?_
      refine x_ireturn rfl (Or.inr (Or.inl ⟨rfl, by decide⟩)) (done hI5 ?_)
      have ef : sall (fun t => seq1 (sbt K (G i)) (sbt K (G j)) (shomeT (t : Nat))) 4 = false := sall_f (e := t + 1) (by rw [es, hq, Bool.and_false]) (by omega)
      rw [ef]
      rfl
    refine x_iload rfl m4 ?_
    refine x_iload rfl m5 ?_
    by_cases ha0 : sa = 0
    · by_cases hb0 : sb = 0
      · rw [if_pos ha0, if_pos hb0]
        rw [if_pos ha0] at m4
        refine x_cne (t := 135) rfl rfl (by decide) (by decide) (fun h => absurd rfl h) (fun _ => ?_)
        refine x_iload rfl m4 ?_
        refine x_ifne (t := 137) rfl rfl (by decide) (fun h => absurd rfl h) (fun _ => ?_)
        have y50 : f5 50 = _ := (hfr5 50 (by decide) (by decide) (by decide) (by decide)).trans h50
        refine x_aload_n rfl m0 ?_
        refine x_getfield rfl (by decide) y50 rfl ?_
        refine x_aload_n rfl m0 ?_
        refine x_getfield rfl (by decide) y50 rfl ?_
        have hca := u6 ha0
        have hcb := w6 hb0
        subst hca
        subst hcb
        refine x_call [_, _] rfl rfl (show (0 : Nat) ≤ 8 from by decide) (show (2 : Nat) ≤ 3 from by decide) (x_rcv (by decide) x171) (xs_172 (t1 := 171) (t2 := 173) (by decide) (by decide) x171 x172 u2 hlA w4 w1 w2 hlB ((u3 ha0).2 _ (Nat.le_refl _)) ((w3 hb0).2 _ (Nat.le_refl _))) (fun r' f' hP => ?_)
        obtain ⟨rfl, hPe⟩ := hP
        subst f'
        rw [← seq1_t (hsa.trans ha0) (hsb.trans hb0)]
        by_cases hq : seq1 (sbt K (G i)) (sbt K (G j)) (shomeT (t : Nat)) = true
        · rw [if_pos hq]
          exact x_ifne (t := 137) rfl rfl (by decide) (fun _ => next hq) (fun h => absurd h (by decide))
        · rw [if_neg hq]
          exact x_ifne (t := 137) rfl rfl (by decide) (fun h => absurd rfl h) (fun _ => stop (bool_f hq))
      · rw [if_pos ha0, if_neg hb0]
        exact x_cne (t := 135) rfl rfl (by decide) (by decide) (fun _ => stop (seq1_n (Or.inl ⟨hsa.trans ha0, fun h => hb0 (hsb.symm.trans h)⟩))) (fun h => absurd h (by decide))
    · by_cases hb0 : sb = 0
      · rw [if_neg ha0, if_pos hb0]
        exact x_cne (t := 135) rfl rfl (by decide) (by decide) (fun _ => stop (seq1_n (Or.inr ⟨fun h => ha0 (hsa.symm.trans h), hsb.trans hb0⟩))) (fun h => absurd h (by decide))
      · rw [if_neg ha0, if_neg hb0]
        rw [if_neg ha0] at m4
        refine x_cne (t := 135) rfl rfl (by decide) (by decide) (fun h => absurd rfl h) (fun _ => ?_)
        refine x_iload rfl m4 ?_
        exact x_ifne (t := 137) rfl rfl (by decide) (fun _ => next (seq1_f (fun h => ha0 (hsa.symm.trans h)) (fun h => hb0 (hsb.symm.trans h)))) (fun h => absurd h (by decide))
theorem xs_173 {v0 : Value} {xs : List Int32} {u : Nat × Nat} {f : Nat → zE} {K : List (Int × Int)} {G : Nat → List xBt} {n : Nat} {a b : Int} {S : sS} (hM : yM yT2 (xh f)) (hT : sCT f K G S) (hCK : sCK f K G n) (ha : -2147483648 ≤ a ∧ a ≤ 2147483647) (hb : -2147483648 ≤ b ∧ b ≤ 2147483647) : xz v0 xs u (sCQ f u K G exW (sSM K G n S a b)) 173 0 [(0, .ref 50), (1, xi a), (2, xi b)] [] f := by
  obtain ⟨⟨lf, h50⟩, -⟩ := id hT
  obtain ⟨hn, ⟨kp, pt, h53⟩, -⟩ := id hCK
  have bad : ¬ ((0 ≤ a ∧ a < (n : Nat)) ∧ 0 ≤ b ∧ b < (n : Nat)) → sCQ f u K G exW (sSM K G n S a b) (.inr 100) (xh f, u.1 + 1, u.2 + 6) := by
    intro hbad
    have eR : sSM K G n S a b = (1, 0, S) := by unfold sSM; rw [if_neg hbad]
    rw [eR]
    exact ⟨f, Or.inr ⟨(show (1 : Int) ≠ 0 from by decide), rfl, rfl⟩, hT, fun _ _ _ _ _ => rfl⟩
  refine x_aload_n rfl rfl ?_
  refine x_iload_n rfl rfl ?_
  refine x_callU [_, _] rfl rfl (show (0 : Nat) ≤ 8 from by decide) (show (2 : Nat) ≤ 2 from by decide) (x_rcv (by decide) h50) (Q2 := fun o X => (o = .inl none ∧ X = (xh f, u) ∧ 0 ≤ a ∧ a < (n : Nat)) ∨ (o = .inr 100 ∧ X = (xh f, u.1 + 1, u.2 + 6) ∧ ¬ (0 ≤ a ∧ a < (n : Nat)))) (xs_86 hn ha h50 h53 (fun h1 h2 => Or.inl ⟨rfl, rfl, h1, h2⟩) (fun h => Or.inr ⟨rfl, rfl, h⟩)) (fun r' X' hq => ?_) (fun x X' hq => ?_)
  rotate_left
  · rcases hq with ⟨e1, -⟩ | ⟨e1, e2, h⟩
    · cases e1
    · cases e1
      subst e2
      exact ⟨rfl, bad fun hh => h hh.1⟩
  rcases hq with ⟨e1, e2, h1, h2⟩ | ⟨e1, -⟩
  rotate_left
  · cases e1
  cases e1
  subst e2
  show xz v0 xs u _ 173 5 _ [] f
  refine x_aload_n rfl rfl ?_
  refine x_iload_n rfl rfl ?_
  refine x_callU [_, _] rfl rfl (show (0 : Nat) ≤ 8 from by decide) (show (2 : Nat) ≤ 2 from by decide) (x_rcv (by decide) h50) (Q2 := fun o X => (o = .inl none ∧ X = (xh f, u) ∧ 0 ≤ b ∧ b < (n : Nat)) ∨ (o = .inr 100 ∧ X = (xh f, u.1 + 1, u.2 + 6) ∧ ¬ (0 ≤ b ∧ b < (n : Nat)))) (xs_86 hn hb h50 h53 (fun h1 h2 => Or.inl ⟨rfl, rfl, h1, h2⟩) (fun h => Or.inr ⟨rfl, rfl, h⟩)) (fun r' X' hq => ?_) (fun x X' hq => ?_)
  rotate_left
  · rcases hq with ⟨e1, -⟩ | ⟨e1, e2, h⟩
    · cases e1
    · cases e1
      subst e2
      exact ⟨rfl, bad fun hh => h hh.2⟩
  rcases hq with ⟨e1, e2, h3, h4⟩ | ⟨e1, -⟩
  rotate_left
  · cases e1
  cases e1
  subst e2
  show xz v0 xs u _ 173 10 _ [] f
  obtain ⟨i, rfl⟩ : ∃ i : Nat, a = (i : Nat) := ⟨a.toNat, by omega⟩
  obtain ⟨j, rfl⟩ : ∃ j : Nat, b = (j : Nat) := ⟨b.toNat, by omega⟩
  have eR : sSM K G n S (i : Nat) (j : Nat) = (0, if sall (fun t => seq1 (sbt K (G i)) (sbt K (G j)) (shomeT (t : Nat))) 4 = true then 1 else 0, S) := by
    unfold sSM
    rw [if_pos ⟨⟨h1, h2⟩, h3, h4⟩]
    simp only [Int.toNat_natCast]
  rw [eR]
  refine x_iconst rfl ?_
  refine x_istore_n rfl (show (3 : Nat) < 6 from by decide) ?_
  exact xs_173l hT hCK (by omega) (by omega) 4 0 _ _ rfl (xst_ne (by decide) rfl (Or.inl rfl)) (xst_ne (by decide) rfl (Or.inl rfl)) (xst_ne (by decide) rfl (Or.inl rfl)) xst_eq (sSI_0 hM) rfl
