/-! The class's define. -/
/-- what the class's read begins with -/
def xRD (f : Nat → zE) (K : List (Int × Int)) (c : Nat) (kp : Int) (al : Value) : Prop := (∃ (E : List (Int × Int)) (B : List xBt) (dr : Nat) (op ex bs sl pt : Int) (tm oa : List Int) (ki st en : Int) (wo : Int64) (di sg : Int) (nmd : Int64) (m d : Int), f 109 = .inl (4, [.ref 51, .ref 53, .ref 112, .ref 110, .ref 111, .ref dr, xi op, xi ex, xi bs, xi sl]) ∧ (0 ≤ bs ∧ bs ≤ 208) ∧ (-1 ≤ sl ∧ sl ≤ 12) ∧ f 53 = xbo (c : Nat) kp pt ∧ f 110 = xr 0 tm ∧ f 111 = xr 0 oa ∧ tm.length = 3 ∧ oa.length = 3 ∧ (∀ j : Nat, 0 ≤ tm.getD j 0 ∧ tm.getD j 0 ≤ 4) ∧ (∀ j : Nat, 0 ≤ oa.getD j 0 ∧ oa.getD j 0 ≤ 17) ∧ f 112 = xtk ki st en wo di sg ∧ xDR B c f nmd m d al ∧ xPT K E pt f) ∧ (0 ≤ kp ∧ kp ≤ 208) ∧ (K.length : Int) = kp
abbrev xq0 (tm oa : List Int) : xA := (0, 0, tm, oa, 0, 1)
abbrev xC0 : xC := (0, 0, [], [])
/-- the draft begins again behind the kept parts -/
theorem xPT_K {K E : List (Int × Int)} {pt kp : Int} {f : Nat → zE} (hk : (K.length : Int) = kp) (h : xPT K E pt f) : xPT K [] kp f := by
  obtain ⟨se, at', h1, h2, h3, h4, h5, h6, -, h7, -⟩ := h
  refine ⟨se, at', h1, h2, h3, h4, h5, h6, by omega, h7, fun _ => ?_⟩
  rw [List.append_nil]
  exact ⟨hk, h7⟩
theorem xs_60 {K : List (Int × Int)} {G : Nat → List xBt} {v0 : Value} {xs : List Int32} {u : Nat × Nat} {f : Nat → zE} {c n : Nat} {cs : List Int} {nms : List (List Int)} {kp : Int} {al : Value} {nm : Nat → Int64} {bc dp : Nat → Int} {av : Nat → Value} (hv : v0 = .null ∨ v0 = .ref 49) (hc : c ≤ 12) (hn : n ≤ 100) (hl : cs.length = 100) (hcs : ∀ j : Nat, 0 ≤ cs.getD j 0 ∧ cs.getD j 0 ≤ 126) (h51 : f 51 = .inl (1, [.ref 52, xi (n : Nat)])) (h52 : f 52 = xr 1 cs) (h54 : f 54 = .inr (.inr (.inr (3, xfl)))) (hk0 : ∀ i, i < c → xKF (G i) i f (nm i) (bc i) (dp i) (av i)) (hdp : ∀ i, i < c → 1 ≤ dp i ∧ dp i ≤ 6) (hcl : nms.length = c) (hw : ∀ w ∈ nms, xwf w) (hnmi : ∀ i (h : i < nms.length), nm i = Int64.ofInt (xpr (nms[i]).reverse)) (hrd : xRD f K c kp al) : xq v0 xs u 60 [(0, .ref 109)] f (fun r f' => ∃ tm0 oa0 : List Int, tm0.length = 3 ∧ oa0.length = 3 ∧ (∃ (ki st en : Int) (wo : Int64) (di sg : Int), f' 112 = xtk ki st en wo di sg) ∧ ((∃ (b e : Int) (tm' oa' : List Int), xgo cs n nms bc dp 101 0 (xq0 tm0 oa0) = .inr (b, e) ∧ r = some (xi (-1)) ∧ b ≤ 16 ∧ e ≤ 6 ∧ xSC f K c kp f' (Int64.ofInt (xwL (xwd cs (xtf cs n 0).2.1 (xtf cs n 0).2.2))) al (7, 0, tm', oa', b, e) (xgc K G cs n nms bc dp 101 0 (xq0 tm0 oa0) xC0)) ∨ (∃ z : Int, xgo cs n nms bc dp 101 0 (xq0 tm0 oa0) = .inl z ∧ r = some (xi z) ∧ (0 ≤ z ∧ z ≤ 100) ∧ xSW f K c kp f' al))) := by
  unfold xq
  obtain ⟨⟨E, B, dr, op, ex, bs, sl, pt, tm, oa, ki, st, en, wo, di, sg, nmd, m, d, h109, hbs, hsl, h53, h110, h111, t1, t2, t3, t4, h112, hd, hPT⟩, hkp, hKl⟩ := hrd
  refine x_aload_n rfl rfl ?_
  refine x_aload_n rfl rfl ?_
  refine x_getfield rfl (by decide) h109 rfl ?_
  refine x_call [_] rfl rfl (show (1 : Nat) ≤ 8 from by decide) (show (1 : Nat) ≤ 1 from by decide) (x_rcv (by decide) h53) (xs_5 hc h53 h54 hd) (fun r' f1 hP => ?_)
  obtain ⟨rfl, g53, gd, gf⟩ := hP
  have g109 := (gf 109 (by decide) (by omega) (by omega) (by omega) (by omega)).trans h109
  have g112 := (gf 112 (by decide) (by omega) (by omega) (by omega) (by omega)).trans h112
  refine x_putfield rfl (by decide) g109 (show (5 : Nat) < 10 from by decide) rfl ?_
  refine x_aload_n rfl rfl ?_
  refine x_getfield rfl (by decide) xu_eq rfl ?_
  refine x_call [_] rfl rfl (show (0 : Nat) ≤ 8 from by decide) (show (1 : Nat) ≤ 1 from by decide) (x_rcv (by decide) (xu_ne (by decide) g112)) (xs_25 (xu_ne (by decide) g112)) (fun r' f2 hP => ?_)
  obtain ⟨rfl, rfl⟩ := hP
  refine x_aload_n rfl rfl ?_
  refine x_iconst rfl ?_
  refine x_putfield rfl (by decide) (xu_ne (by decide) xu_eq) (show (6 : Nat) < 10 from by decide) rfl ?_
  refine x_aload_n rfl rfl ?_
  refine x_iconst rfl ?_
  refine x_putfield rfl (by decide) xu_eq (show (7 : Nat) < 10 from by decide) rfl ?_
  refine x_iconst rfl ?_
  refine x_istore_n rfl (show (1 : Nat) < 2 from by decide) ?_
  refine zwp_mono (xs_60l (K := K) (G := G) (f0 := f) (al := al) (kp := kp) hv hc hn hl hcs h51 h52 h54 hk0 hdp hcl hw hnmi 100 0 0 _ _ (xq0 tm oa) xC0 nmd ki st wo di sg rfl (Nat.le_refl _) (Nat.zero_le _) (xst_ne (by decide) rfl (Or.inl rfl)) xst_eq (xu_ne (by decide) (xu_ne (by decide) xu_eq)) ?_ (fun _ => rfl) (fun h => absurd rfl h)) ?_
  · refine ⟨kp, bs, sl, [], hkp, hbs, ⟨hsl.1, hsl.2, fun h => by simp at h⟩, (xu_ne (by decide) (xu_ne (by decide) (xu_ne (by decide) (xu_ne (by decide) g53)))), xu_eq, (xu_ne (by decide) (xu_ne (by decide) (xu_ne (by decide) (xu_ne (by decide) ((gf 110 (by decide) (by omega) (by omega) (by omega) (by omega)).trans h110))))), (xu_ne (by decide) (xu_ne (by decide) (xu_ne (by decide) (xu_ne (by decide) ((gf 111 (by decide) (by omega) (by omega) (by omega) (by omega)).trans h111))))), ?_, ?_, xPT_K hKl (xPT_mv (xu_ne (by decide) (xu_ne (by decide) (xu_ne (by decide) (xu_ne (by decide) (gf 55 (by decide) (by omega) (by omega) (by omega) (by omega)))))) (xu_ne (by decide) (xu_ne (by decide) (xu_ne (by decide) (xu_ne (by decide) (gf 56 (by decide) (by omega) (by omega) (by omega) (by omega)))))) hPT), ⟨fun h => by dsimp only at h; omega, fun _ => ⟨fun h => by dsimp only at h; omega, fun _ => rfl⟩⟩, ?_⟩
    · exact ⟨show (0 : Nat) ≤ 7 by decide, show (0 : Int) ≤ 0 ∧ (0 : Int) ≤ 3 by decide, fun h => by simp at h, t1, t2, t3, t4, fun j hj => by simp at hj; omega, show (0 : Int) ≤ 0 ∧ (0 : Int) ≤ 17 by decide, show (1 : Int) ≤ 1 ∧ (1 : Int) ≤ 7 by decide⟩
    · exact xDR_mv (fun p p1 p2 => xu_ne (by omega) (xu_ne (by omega) (xu_ne (by omega) (xu_ne (by omega) rfl)))) gd
    · intro p a1 a2 a3 a4 a5 a6 a7 a8 a9 a10 a11
      exact xu_ne a8 (xu_ne a8 (xu_ne a11 (xu_ne a8 (gf p a1 a4 a5 a6 a7))))
  · intro oo X' hq
    obtain ⟨r, f', rfl, rfl, hq⟩ := hq
    exact ⟨r, f', rfl, rfl, tm, oa, t1, t2, hq⟩
theorem xs_63 {B : List xBt} {v0 : Value} {xs : List Int32} {u : Nat × Nat} {f : Nat → zE} {c : Nat} {kp pt : Int} {nmd : Int64} {m d : Int} {al : Value} (hc : c ≤ 12) (hm : m ≤ 16) (h53 : f 53 = xbo (c : Nat) kp pt) (h54 : f 54 = .inr (.inr (.inr (3, xfl)))) (hd : xDR B c f nmd m d al) : xq v0 xs u 63 [(0, .ref 53)] f (fun r f' => r = some (xi (c : Nat)) ∧ f' 53 = xbo ((c : Nat) + 1) pt pt ∧ xKF (B.map xse) c f' nmd m d al ∧ ∀ p, p ≠ 53 → p ≠ 57 + 4 * c → p ≠ 58 + 4 * c → p ≠ 59 + 4 * c → p ≠ 60 + 4 * c → f' p = f p) := by
  unfold xq
  have hd0 := hd
  obtain ⟨hm1, hm2, fp, ep, ta, h0, h1, h2, h3, hty⟩ := hd0
  refine x_aload_n rfl rfl ?_
  refine x_getfield rfl (by decide) h53 rfl ?_
  refine x_aload_n rfl rfl ?_
  refine x_getfield rfl (by decide) h53 rfl ?_
  refine x_aaload rfl (by decide) h54 ⟨by omega, show ((c : Nat) : Int) < (13 : Nat) by omega⟩ (show (13 : Nat) ≤ 5000 by decide) (by rw [Int.toNat_natCast]; exact xfl_at (by omega)) ?_
  refine x_call [_] rfl rfl (show (0 : Nat) ≤ 8 from by decide) (show (1 : Nat) ≤ 2 from by decide) (x_rcv (by omega) h0) (xs_62 hc hm hd) (fun r' f' hP => ?_)
  obtain ⟨rfl, hQ1, hQ2⟩ := hP
  refine x_aload_n rfl rfl ?_
  refine x_aload_n rfl rfl ?_
  refine x_getfield rfl (by decide) ((hQ2 53 (by omega) (by omega) (by omega) (by omega)).trans h53) rfl ?_
  refine x_putfield rfl (by decide) ((hQ2 53 (by omega) (by omega) (by omega) (by omega)).trans h53) (show (4 : Nat) < 6 from by decide) rfl ?_
  refine x_aload_n rfl rfl ?_
  refine x_dup rfl ?_
  refine x_getfield rfl (by decide) xu_eq rfl ?_
  refine x_iconst rfl ?_
  refine x_iadd rfl ?_
  refine x_putfield rfl (by decide) xu_eq (show (3 : Nat) < 6 from by decide) rfl ?_
  refine x_aload_n rfl rfl ?_
  refine x_getfield rfl (by decide) xu_eq rfl ?_
  refine x_iconst rfl ?_
  refine x_isub rfl ?_
  refine x_ireturn rfl (Or.inl rfl) ⟨_, _, rfl, rfl, ?_⟩
  refine ⟨by rw [Int.add_sub_cancel], xu_eq, ?_, fun p hp a1 a2 a3 a4 => xu_ne hp (xu_ne hp (hQ2 p a1 a2 a3 a4))⟩
  obtain ⟨k1, k2, fp2, ep2, ta2, k3, k4, k5, k6, k7⟩ := hQ1
  exact ⟨k1, k2, fp2, ep2, ta2, xu_ne (by omega) (xu_ne (by omega) k3), xu_ne (by omega) (xu_ne (by omega) k4), xu_ne (by omega) (xu_ne (by omega) k5), xu_ne (by omega) (xu_ne (by omega) k6), k7⟩
theorem x_throw {v0 : Value} {xs : List Int32} {u : Nat × Nat} {Q : zO → zX → Prop} {mi pc n a b c : Nat} {v : Value} {lv : zL} {st : List Value} {f : Nat → zE} (hc : zcd (zt v0) mi pc = some (.new n, a, b, c, v)) (ha : 100 ≤ a) (ht : zthr (zcd (zt v0)) mi pc a = true) (h4 : zcat st ≤ 4) (k : Q (.inr a) (xh f, u.1 + 1, u.2 + 6)) : xz v0 xs u Q mi pc lv st f := by
  obtain ⟨z1, z2, z3, z4⟩ := zn_za (G := zG xs) (df := zdf (zt v0)) (i := .new n) (b := b) (c := c) (v := v) (nL := znl (zt v0) mi) (pc := pc) (lv := lv) (st := st) (X := (xh f, u)) rfl ha
  exact zwp_thr ⟨hc, z1, z2, z3⟩ z4 rfl ⟨ha, ht, h4⟩ k
/-- behind a define that kept its call -/
def xAC (f : Nat → zE) (K : List (Int × Int)) (C : xC) (c : Nat) (W : Int64) (b e : Int) (al dd lc : Value) (f' : Nat → zE) : Prop := ∃ (pt bs sl : Int) (tm oa : List Int) (B : List xBt), (0 ≤ pt ∧ pt ≤ 208) ∧ (0 ≤ bs ∧ bs ≤ 208) ∧ -1 ≤ sl ∧ sl ≤ 12 ∧ f' 50 = xfc dd (xi (-1)) lc ∧ f' 51 = .inl (1, [.ref 52, xi 0]) ∧ f' 53 = xbo ((c : Nat) + 1) pt pt ∧ xKF (B.map xse) c f' W b e al ∧ ((K ++ C.2.2.1).length ≤ 208 → B = C.2.2.2) ∧ f' 109 = xrd c 0 7 bs sl ∧ f' 110 = xr 0 tm ∧ f' 111 = xr 0 oa ∧ xbr (7, 0, tm, oa, b, e) ∧ xPT K C.2.2.1 pt f' ∧ (∃ (ki st en : Int) (wo : Int64) (di sg : Int), f' 112 = xtk ki st en wo di sg) ∧ ∀ p, p ≠ 50 → p ≠ 51 → p ≠ 53 → p ≠ 55 → p ≠ 56 → p ≠ 57 + 4 * c → p ≠ 58 + 4 * c → p ≠ 59 + 4 * c → p ≠ 60 + 4 * c → p ≠ 109 → p ≠ 110 → p ≠ 111 → p ≠ 112 → f' p = f p
theorem xs_64 {K : List (Int × Int)} {G : Nat → List xBt} {v0 : Value} {xs : List Int32} {u : Nat × Nat} {Q : zO → zX → Prop} {f : Nat → zE} {c n : Nat} {cs : List Int} {nms : List (List Int)} {kp : Int} {al : Value} {nm : Nat → Int64} {bc dp : Nat → Int} {av : Nat → Value} (hv : v0 = .null ∨ v0 = .ref 49) (hc : c ≤ 12) (hn : n ≤ 100) (hl : cs.length = 100) (hcs : ∀ j : Nat, 0 ≤ cs.getD j 0 ∧ cs.getD j 0 ≤ 126) (h51 : f 51 = .inl (1, [.ref 52, xi (n : Nat)])) (h52 : f 52 = xr 1 cs) (h54 : f 54 = .inr (.inr (.inr (3, xfl)))) (hk0 : ∀ i, i < c → xKF (G i) i f (nm i) (bc i) (dp i) (av i)) (hdp : ∀ i, i < c → 1 ≤ dp i ∧ dp i ≤ 6) (hcl : nms.length = c) (hw : ∀ w ∈ nms, xwf w) (hnmi : ∀ i (h : i < nms.length), nm i = Int64.ofInt (xpr (nms[i]).reverse)) (hrd : xRD f K c kp al) {dd lf lc : Value} (h50 : f 50 = xfc dd lf lc)
    (ka : ∀ (tm0 oa0 : List Int) (f' : Nat → zE), tm0.length = 3 → oa0.length = 3 → ∀ b e : Int, xgo cs n nms bc dp 101 0 (xq0 tm0 oa0) = .inr (b, e) → c < 12 → b ≤ 16 → e ≤ 6 → xAC f K (xgc K G cs n nms bc dp 101 0 (xq0 tm0 oa0) xC0) c (Int64.ofInt (xwL (xwd cs (xtf cs n 0).2.1 (xtf cs n 0).2.2))) b e al dd lc f' → Q (.inl (some (xi (c : Nat)))) (xh f', u))
    (kf : ∀ (tm0 oa0 : List Int) (f1 : Nat → zE), tm0.length = 3 → oa0.length = 3 → (∃ (ki st en : Int) (wo : Int64) (di sg : Int), f1 112 = xtk ki st en wo di sg) → ∀ b e : Int, xgo cs n nms bc dp 101 0 (xq0 tm0 oa0) = .inr (b, e) → c = 12 → xSW f K c kp f1 al → Q (.inr 101) (xh (xu f1 50 (xfc dd (xi (-1)) lc)), u.1 + 1, u.2 + 6))
    (kr : ∀ (tm0 oa0 : List Int) (f1 : Nat → zE) (z : Int), tm0.length = 3 → oa0.length = 3 → (∃ (ki st en : Int) (wo : Int64) (di sg : Int), f1 112 = xtk ki st en wo di sg) → xgo cs n nms bc dp 101 0 (xq0 tm0 oa0) = .inl z → (0 ≤ z ∧ z ≤ 100) → xSW f K c kp f1 al → Q (.inr 100) (xh (xu f1 50 (xfc dd (xi z) lc)), u.1 + 1, u.2 + 6)) :
    xz v0 xs u Q 64 0 [(0, .ref 50)] [] f := by
  refine x_aload_n rfl rfl ?_
  refine x_aload_n rfl rfl ?_
  refine x_getfield rfl (by decide) h50 rfl ?_
  have hrd0 := hrd
  obtain ⟨⟨E, B, dr, op, ex, bs, sl, pt, tm, oa, ki, st, en, wo, di, sg, nmd, m, d, h109, -⟩, hkp, hKl⟩ := hrd0
  refine x_call [_] rfl rfl (show (1 : Nat) ≤ 8 from by decide) (show (1 : Nat) ≤ 2 from by decide) (x_rcv (by decide) h109) (xs_60 hv hc hn hl hcs h51 h52 h54 hk0 hdp hcl hw hnmi hrd) (fun r' f1 hP => ?_)
  obtain ⟨tm0, oa0, e1, e2, x112, hP⟩ := hP
  rcases hP with ⟨b, e, tm', oa', hgo, rfl, hb, he, hsc⟩ | ⟨z, hgo, rfl, hz, hsw⟩
  · have hsc0 := hsc
    obtain ⟨pt1, bs1, sl1, B1, hpt1, hbs1, hsl1, g53, g109, g110, g111, gbr, gd, gPT, gct, gfr⟩ := hsc
    dsimp only at gd
    have g50 := (gfr 50 (by decide) (by decide) (by decide) (by omega) (by omega) (by omega) (by omega) (by decide) (by decide) (by decide) (by decide)).trans h50
    have g51 := (gfr 51 (by decide) (by decide) (by decide) (by omega) (by omega) (by omega) (by omega) (by decide) (by decide) (by decide) (by decide)).trans h51
    have g54 := (gfr 54 (by decide) (by decide) (by decide) (by omega) (by omega) (by omega) (by omega) (by decide) (by decide) (by decide) (by decide)).trans h54
    refine x_putfield rfl (by decide) g50 (show (11 : Nat) < 13 from by decide) rfl ?_
    refine x_aload_n rfl rfl ?_
    refine x_getfield rfl (by decide) xu_eq rfl ?_
    refine x_iconst rfl ?_
    refine x_ceq (t := 29) rfl rfl (by decide) (by decide) (fun _ => ?_) (fun h => absurd rfl h)
    refine x_aload_n rfl rfl ?_
    refine x_getfield rfl (by decide) xu_eq rfl ?_
    refine x_call [_] rfl rfl (show (0 : Nat) ≤ 8 from by decide) (show (1 : Nat) ≤ 1 from by decide) (x_rcv (by decide) (xu_ne (by decide) g53)) (xs_61 hc (xu_ne (by decide) g53)) (fun r' f2 hP => ?_)
    obtain ⟨rfl, rfl⟩ := hP
    by_cases h12 : c = 12
    · rw [if_pos h12]
      refine x_ifeq (t := 49) rfl rfl (by decide) (fun h => absurd h (by decide)) (fun _ => ?_)
      refine x_throw rfl (by decide) rfl (show (0 : Nat) ≤ 4 from by decide) ?_
      exact kf tm0 oa0 _ e1 e2 x112 b e hgo h12 (xSC_W hsc0)
    · rw [if_neg h12]
      refine x_ifeq (t := 49) rfl rfl (by decide) (fun _ => ?_) (fun h => absurd rfl h)
      refine x_aload_n rfl rfl ?_
      refine x_getfield rfl (by decide) xu_eq rfl ?_
      refine x_call [_] rfl rfl (show (0 : Nat) ≤ 8 from by decide) (show (1 : Nat) ≤ 2 from by decide) (x_rcv (by decide) (xu_ne (by decide) g51)) (xs_22 (xu_ne (by decide) g51)) (fun r' f2 hP => ?_)
      obtain ⟨rfl, rfl⟩ := hP
      refine x_pop rfl ?_
      refine x_aload_n rfl rfl ?_
      refine x_getfield rfl (by decide) (xu_ne (by decide) xu_eq) rfl ?_
      refine x_call [_] rfl rfl (show (0 : Nat) ≤ 8 from by decide) (show (1 : Nat) ≤ 1 from by decide) (x_rcv (by decide) (xu_ne (by decide) (xu_ne (by decide) g53))) (xs_63 hc hb (xu_ne (by decide) (xu_ne (by decide) g53)) (xu_ne (by decide) (xu_ne (by decide) g54)) (xDR_mv (fun p p1 p2 => xu_ne (by omega) (xu_ne (by omega) rfl)) gd)) (fun r' f2 hP => ?_)
      obtain ⟨rfl, j1, j2, j3⟩ := hP
      refine x_ireturn rfl (Or.inl rfl) ?_
      refine ka tm0 oa0 f2 e1 e2 b e hgo (by omega) hb he ⟨pt1, bs1, sl1, tm', oa', B1, hpt1, hbs1, hsl1.1, hsl1.2.1, ?_, ?_, j1, j2, fun hl => (gct.2 hl).2 hb, ?_, ?_, ?_, gbr, ?_, ?_, ?_⟩
      · exact (j3 50 (by decide) (by omega) (by omega) (by omega) (by omega)).trans (xu_ne (by decide) xu_eq)
      · exact (j3 51 (by decide) (by omega) (by omega) (by omega) (by omega)).trans xu_eq
      · exact (j3 109 (by decide) (by omega) (by omega) (by omega) (by omega)).trans (xu_ne (by decide) (xu_ne (by decide) g109))
      · exact (j3 110 (by decide) (by omega) (by omega) (by omega) (by omega)).trans (xu_ne (by decide) (xu_ne (by decide) g110))
      · exact (j3 111 (by decide) (by omega) (by omega) (by omega) (by omega)).trans (xu_ne (by decide) (xu_ne (by decide) g111))
      · exact xPT_mv ((j3 55 (by decide) (by omega) (by omega) (by omega) (by omega)).trans (xu_ne (by decide) (xu_ne (by decide) rfl))) ((j3 56 (by decide) (by omega) (by omega) (by omega) (by omega)).trans (xu_ne (by decide) (xu_ne (by decide) rfl))) gPT
      · obtain ⟨x1, x2, x3, x4, x5, x6, x7⟩ := x112; exact ⟨x1, x2, x3, x4, x5, x6, (j3 112 (by decide) (by omega) (by omega) (by omega) (by omega)).trans (xu_ne (by decide) (xu_ne (by decide) x7))⟩
      · intro p a0 a01 a1 a2 a3 a4 a5 a6 a7 a8 a9 a10 a11
        exact (j3 p a1 a4 a5 a6 a7).trans (xu_ne a01 (xu_ne a0 (gfr p a1 a2 a3 a4 a5 a6 a7 a8 a9 a10 a11)))
  · have hsw0 := hsw
    obtain ⟨pt3, op3, ex3, bs3, sl3, m3, d3, tm3, oa3, nmd3, E3, B3, -, -, -, -, -, -, -, -, -, -, -, gfr⟩ := hsw0
    have g50 := (gfr 50 (by decide) (by decide) (by decide) (by omega) (by omega) (by omega) (by omega) (by decide) (by decide) (by decide) (by decide)).trans h50
    refine x_putfield rfl (by decide) g50 (show (11 : Nat) < 13 from by decide) rfl ?_
    refine x_aload_n rfl rfl ?_
    refine x_getfield rfl (by decide) xu_eq rfl ?_
    refine x_iconst rfl ?_
    refine x_ceq (t := 29) rfl rfl ⟨by omega, by omega⟩ (by decide) (fun h => by omega) (fun _ => ?_)
    refine x_throw rfl (by decide) rfl (show (0 : Nat) ≤ 4 from by decide) ?_
    exact kr tm0 oa0 f1 z e1 e2 x112 hgo hz hsw
