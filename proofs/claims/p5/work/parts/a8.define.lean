/-! The law's define. -/
/-- both sides remember the same fault -/
def xFT (f : Nat → zE) : Prop := ∃ z : Int, (-1 ≤ z ∧ z ≤ 100) ∧ (∃ fs : List Value, f 50 = .inl (0, fs) ∧ fs[11]? = some (xi z)) ∧ ∃ fs : List Value, f 177 = .inl (10, fs) ∧ fs[3]? = some (xi z)
theorem xFT_D {f f' : Nat → zE} (h : xFT f) (hD : xD f f') : xFT f' := by
  obtain ⟨z, hz, ⟨fs, h50, h11⟩, gs, h177, h3⟩ := h
  refine ⟨z, hz, ?_, ?_⟩
  · have e := xh_at (f := f) (p := 50) (by decide) (by decide)
    rw [h50] at e
    obtain ⟨fs', he, hk⟩ := hD.2.2 _ _ _ e
    have e' := xh_at (f := f') (p := 50) (by decide) (by decide)
    rw [he] at e'
    exact ⟨fs', (Option.some.inj e').symm, (hk 11 (by decide)).trans h11⟩
  · have e := xh_at (f := f) (p := 177) (by decide) (by decide)
    rw [h177] at e
    obtain ⟨fs', he, hk⟩ := hD.2.2 _ _ _ e
    have e' := xh_at (f := f') (p := 177) (by decide) (by decide)
    rw [he] at e'
    exact ⟨fs', (Option.some.inj e').symm, (hk 3 (by decide)).trans h3⟩
theorem xFT_tx {f f2 : Nat → zE} {v w : Value} {gs : List Value} (h : xFT f) (h50 : f2 50 = f 50) (h177 : f 177 = .inl (10, gs)) (g177 : f2 177 = .inl (10, (gs.set 0 v).set 1 w)) : xFT f2 := by
  obtain ⟨z, hz, ⟨fs, k50, k11⟩, gs', k177, k3⟩ := h
  rw [h177] at k177
  cases k177
  refine ⟨z, hz, ⟨fs, h50.trans k50, k11⟩, _, g177, ?_⟩
  rw [List.getElem?_set_ne (by decide), List.getElem?_set_ne (by decide)]
  exact k3
theorem xFT_cd {f : Nat → zE} {v : Value} {gs : List Value} (h : xFT f) (h177 : f 177 = .inl (10, gs)) : xFT (xu f 177 (.inl (10, gs.set 0 v))) := by
  obtain ⟨z, hz, ⟨fs, k50, k11⟩, gs', k177, k3⟩ := h
  rw [h177] at k177
  cases k177
  refine ⟨z, hz, ⟨fs, xu_ne (by decide) k50, k11⟩, _, xu_eq, ?_⟩
  rw [List.getElem?_set_ne (by decide)]
  exact k3
def xav (f : Nat → zE) (i : Nat) : Value := match f (57 + 4 * i) with
  | .inl q => q.2.getD 6 .null
  | _ => .null
def xQ64 (f : Nat → zE) (n : Nat) (cs : List Int) (nms : List (List Int)) (bc dp : Nat → Int) (u : Nat × Nat) (dd lc al : Value) (kp : Int) (o : zO) (X : zX) : Prop := (∃ (tm oa : List Int) (b e : Int) (f1 : Nat → zE), o = .inl (some (xi (nms.length : Nat))) ∧ X = (xh f1, u) ∧ tm.length = 3 ∧ oa.length = 3 ∧ xgo cs n nms bc dp 101 0 (xq0 tm oa) = .inr (b, e) ∧ nms.length < 12 ∧ xAC f nms.length (Int64.ofInt (xwL (xwd cs (xtf cs n 0).2.1 (xtf cs n 0).2.2))) b e al dd lc f1) ∨ (∃ (tm oa : List Int) (x : Nat) (f1 : Nat → zE) (z kt stt ent : Int) (wot : Int64) (dit sgt : Int), o = .inr x ∧ ((x = 100 ∧ (0 ≤ z ∧ z ≤ 100) ∧ xgo cs n nms bc dp 101 0 (xq0 tm oa) = .inl z) ∨ (x = 101 ∧ z = -1 ∧ (∃ b e : Int, xgo cs n nms bc dp 101 0 (xq0 tm oa) = .inr (b, e)) ∧ nms.length = 12)) ∧ X = (xh (xu f1 50 (xfc dd (xi z) lc)), u.1 + 1, u.2 + 6) ∧ tm.length = 3 ∧ oa.length = 3 ∧ xSW f nms.length kp f1 al ∧ f1 112 = xtk kt stt ent wot dit sgt)
def xDQ (f : Nat → zE) (n : Nat) (cs : List Int) (nms : List (List Int)) (bc dp : Nat → Int) (u : Nat × Nat) (o : zO) (X : zX) : Prop := ∃ (z : Int) (f' : Nat → zE) (u' : Nat × Nat) (tm oa : List Int) (dd lc al : Value) (kp : Int), o = .inl (some (xi z)) ∧ X = (xh f', u') ∧ u'.1 ≤ u.1 + 1 ∧ u'.2 ≤ u.2 + 6 ∧ tm.length = 3 ∧ oa.length = 3 ∧ yg (.inl (0, 24)) dd ∧ yg (.inl ytop) lc ∧ yg (.inl (0, 1)) al ∧ (0 ≤ kp ∧ kp ≤ 208) ∧ ((∃ (b e : Int) (f1 : Nat → zE), z = 0 ∧ xgo cs n nms bc dp 101 0 (xq0 tm oa) = .inr (b, e) ∧ nms.length < 12 ∧ xAC f nms.length (Int64.ofInt (xwL (xwd cs (xtf cs n 0).2.1 (xtf cs n 0).2.2))) b e al dd lc f1 ∧ (∀ p, p ≠ 203 → f' p = f1 p) ∧ f' 203 = .inr (.inr (.inl [(Int32.ofInt (nms.length : Nat)).toInt64]))) ∨ (∃ (f1 : Nat → zE) (y kt stt ent : Int) (wot : Int64) (dit sgt : Int), ((z = 1 ∧ (0 ≤ y ∧ y ≤ 100) ∧ xgo cs n nms bc dp 101 0 (xq0 tm oa) = .inl y) ∨ (z = 2 ∧ y = -1 ∧ (∃ b e : Int, xgo cs n nms bc dp 101 0 (xq0 tm oa) = .inr (b, e)) ∧ nms.length = 12)) ∧ xSW f nms.length kp f1 al ∧ f1 112 = xtk kt stt ent wot dit sgt ∧ f' = xu f1 50 (xfc dd (xi y) lc)))
theorem xs_64i {v0 : Value} {xs : List Int32} {u : Nat × Nat} {f : Nat → zE} {n : Nat} {cs : List Int} {nms : List (List Int)} {bc dp tk0 : Nat → Int} (hv : v0 = .null ∨ v0 = .ref 49) (h : xINV f n cs nms bc dp tk0) : ∃ (dd : Int) (lf lc al : Value) (kp : Int), f 50 = xfc (xi dd) lf lc ∧ yg (.inl (0, 24)) (xi dd) ∧ yg (.inl ytop) lc ∧ yg (.inl (0, 1)) al ∧ (0 ≤ kp ∧ kp ≤ 208) ∧ xz v0 xs u (xQ64 f n cs nms bc dp u (xi dd) lc al kp) 64 0 [(0, .ref 50)] [] f := by
  obtain ⟨hM, ⟨t1, t2, t3, t4, t5, t6⟩, ⟨n1, n2, n3, n4⟩, ⟨c1, c2, c3, kp, al, hrd⟩, hMO, hTZ⟩ := h
  obtain ⟨dd, lf, lc, h50, hdd, hlf, hlc⟩ := xINV_50 hM
  have hkp := hrd.2
  have hal : yg (.inl (0, 1)) al := by
    obtain ⟨⟨dr, op, ex, bs, sl, pt, tm, oa, ki, st, en, wo, di, sg, nmd, m, d, h109, hbs, hsl, h53, h110, h111, q1, q2, q3, q4, h112, ⟨a1, a2, fp, ep, ta, a3, a4⟩, -⟩, -⟩ := hrd
    have h0 := xM_at hM (p := 57 + 4 * nms.length) (by omega) (by rw [show 57 + 4 * nms.length - 50 = 7 + 4 * nms.length by omega]; exact (yT2_fig nms.length (by omega)).1)
    rw [a3] at h0
    exact h0.2.2 6 _ _ rfl rfl
  have hk0 : ∀ i, i < nms.length → xKF i f (Int64.ofInt (xpr (nms.getD i []).reverse)) (bc i) (dp i) (xav f i) := by
    intro i hi
    obtain ⟨al2, hk⟩ := c2 i hi
    have e : xav f i = al2 := by
      obtain ⟨a1, a2, fp, ep, ta, a3, -⟩ := hk
      unfold xav
      rw [a3]
      rfl
    rw [e]
    exact hk
  have hnmi : ∀ i (hi : i < nms.length), Int64.ofInt (xpr (nms.getD i []).reverse) = Int64.ofInt (xpr (nms[i]).reverse) := by
    intro i hi
    rw [List.getD_eq_getElem?_getD, List.getElem?_eq_getElem hi]
    rfl
  refine ⟨dd, lf, lc, al, kp, h50, ygi hdd.1 hdd.2 (by omega) (by omega), hlc, hal, hkp, ?_⟩
  refine xs_64 (nm := fun i => Int64.ofInt (xpr (nms.getD i []).reverse)) hv n1 t1 t2 t3 t4 t5 (xINV_54 hM) hk0 c1 rfl n2 hnmi hrd h50 ?_ ?_ ?_
  · intro tm oa f1 l1 l2 b e hg hc _ _ hAC
    exact Or.inl ⟨tm, oa, b, e, f1, rfl, rfl, l1, l2, hg, hc, hAC⟩
  · intro tm oa f1 l1 l2 h112 b e hg hc hSW
    obtain ⟨kt, stt, ent, wot, dit, sgt, h112⟩ := h112
    exact Or.inr ⟨tm, oa, 101, f1, -1, kt, stt, ent, wot, dit, sgt, rfl, Or.inr ⟨rfl, rfl, ⟨b, e, hg⟩, hc⟩, rfl, l1, l2, hSW, h112⟩
  · intro tm oa f1 z l1 l2 h112 hg hz hSW
    obtain ⟨kt, stt, ent, wot, dit, sgt, h112⟩ := h112
    exact Or.inr ⟨tm, oa, 100, f1, z, kt, stt, ent, wot, dit, sgt, rfl, Or.inl ⟨rfl, hz, hg⟩, rfl, l1, l2, hSW, h112⟩
theorem xH65 {v0 : Value} {xs : List Int32} {u : Nat × Nat} {f : Nat → zE} {n : Nat} {cs : List Int} {nms : List (List Int)} {bc dp tk0 : Nat → Int} (hv : v0 = .null ∨ v0 = .ref 49) (h : xINV f n cs nms bc dp tk0) : xz v0 xs u (xDQ f n cs nms bc dp u) 65 0 [(0, .ref 50), (1, .ref 203)] [] f := by
  obtain ⟨dd, lf, lc, al, kp, h50, hdd, hlc, hal, hkp, hs⟩ := xs_64i (xs := xs) (u := u) hv h
  obtain ⟨l, h203, hl, -⟩ := xD_203 h.1
  refine x_aload_n rfl rfl ?_
  refine x_iconst rfl ?_
  refine x_aload_n rfl rfl ?_
  refine x_callT [_] rfl rfl (show (2 : Nat) ≤ 8 from by decide) (show (1 : Nat) ≤ 1 from by decide) (x_rcv (by decide) h50) hs (fun r' X' hq => ?_) (fun x X' hq => ?_)
  · rcases hq with ⟨tm, oa, b, e, f1, e1, e2, l1, l2, hg, hc, hAC⟩ | ⟨tm, oa, x, f1, z, kt, stt, ent, wot, dit, sgt, e1, -⟩
    · cases e1
      subst e2
      have h203' : f1 203 = .inr (.inr (.inl l)) := by
        obtain ⟨pt, bs, sl, tm', oa', -, -, -, -, -, -, -, -, -, -, -, -, -, -, hfr⟩ := hAC
        exact (hfr 203 (by decide) (by decide) (by decide) (by decide) (by decide) (by omega) (by omega) (by omega) (by omega) (by decide) (by decide) (by decide) (by decide)).trans h203
      show xz v0 xs u (xDQ f n cs nms bc dp u) 65 6 _ [xi (nms.length : Nat), xi 0, .ref 203] f1
      refine x_i2l rfl ?_
      refine x_lastore rfl (by decide) h203' ⟨by omega, by omega⟩ (by omega) ?_
      refine x_goto (t := 17) rfl rfl ?_
      refine x_iconst rfl ?_
      refine x_ireturn rfl (Or.inl rfl) ?_
      match l, hl with
      | [g0], _ => exact ⟨0, _, u, tm, oa, xi dd, lc, al, kp, rfl, rfl, by omega, by omega, l1, l2, hdd, hlc, hal, hkp, Or.inl ⟨b, e, f1, rfl, hg, hc, hAC, fun p hp => xu_ne hp rfl, xu_eq⟩⟩
    · cases e1
  · rcases hq with ⟨tm, oa, b, e, f1, e1, -⟩ | ⟨tm, oa, x', f1, z, kt, stt, ent, wot, dit, sgt, e1, hx, e2, l1, l2, hSW, h112⟩
    · cases e1
    · cases e1
      subst e2
      rcases hx with ⟨rfl, hx⟩ | ⟨rfl, hx⟩
      · refine ⟨(11, 2), (show zHN 65 3 100 ≠ none from by decide), rfl, ?_⟩
        show xz v0 xs (u.1 + 1, u.2 + 6) (xDQ f n cs nms bc dp u) 65 12 _ [] _
        refine x_iconst rfl ?_
        refine x_ireturn rfl (Or.inl rfl) ?_
        exact ⟨1, _, _, tm, oa, xi dd, lc, al, kp, rfl, rfl, Nat.le_refl _, Nat.le_refl _, l1, l2, hdd, hlc, hal, hkp, Or.inr ⟨f1, z, kt, stt, ent, wot, dit, sgt, Or.inl ⟨rfl, hx⟩, hSW, h112, rfl⟩⟩
      · refine ⟨(14, 2), (show zHN 65 3 101 ≠ none from by decide), rfl, ?_⟩
        show xz v0 xs (u.1 + 1, u.2 + 6) (xDQ f n cs nms bc dp u) 65 15 _ [] _
        refine x_iconst rfl ?_
        refine x_ireturn rfl (Or.inl rfl) ?_
        exact ⟨2, _, _, tm, oa, xi dd, lc, al, kp, rfl, rfl, Nat.le_refl _, Nat.le_refl _, l1, l2, hdd, hlc, hal, hkp, Or.inr ⟨f1, z, kt, stt, ent, wot, dit, sgt, Or.inr ⟨rfl, hx⟩, hSW, h112, rfl⟩⟩
/-- where every case of the law goes on -/
def xKN (v0 : Value) (xs : List Int32) (u : Nat × Nat) (Q : zO → zX → Prop) (i : Nat) : Prop := ∀ (lv : zL) (f : Nat → zE) (u' : Nat × Nat) (n : Nat) (cs : List Int) (nms : List (List Int)) (bc dp tk0 : Nat → Int), zlv lv 0 = some (.ref 0) → zlv lv 1 = some (.ref 50) → zlv lv 2 = some (.ref 177) → zlv lv 3 = some (.ref 203) → zlv lv 4 = some (xi (i : Nat)) → xINV f n cs nms bc dp tk0 → xFT f → u'.1 ≤ u.1 + 1 → u'.2 ≤ u.2 + 6 → xz v0 xs u' Q 177 616 lv [] f
/-- the model's code is k, and if it is 0, 'out' holds y -/
def xCP (f : Nat → zE) (k y : Int) : Prop := (0 ≤ k ∧ k ≤ 2) ∧ (∃ fs : List Value, f 177 = .inl (10, fs) ∧ fs[0]? = some (xi k)) ∧ (k = 0 → f 203 = .inr (.inr (.inl [(Int32.ofInt y).toInt64])))
theorem xK2 {v0 : Value} {xs : List Int32} {u : Nat × Nat} {Q : zO → zX → Prop} {f : Nat → zE} {lv : zL} {i : Nat} {n : Nat} {cs : List Int} {nms : List (List Int)} {bc dp tk0 : Nat → Int} (hv : v0 = .null ∨ v0 = .ref 49) (l0 : zlv lv 0 = some (.ref 0)) (l1 : zlv lv 1 = some (.ref 50)) (l2 : zlv lv 2 = some (.ref 177)) (l3 : zlv lv 3 = some (.ref 203)) (l4 : zlv lv 4 = some (xi (i : Nat))) (hI : xINV f n cs nms bc dp tk0) (K : xKN v0 xs u Q i) : xz v0 xs u Q 177 194 lv [] f := by
  refine x_aload_n rfl l1 ?_
  refine x_aload_n rfl l3 ?_
  refine x_callT [_, _] rfl rfl (show (0 : Nat) ≤ 8 from by decide) (show (2 : Nat) ≤ 3 from by decide) rfl (xH65 hv hI) (fun r' X' hq => ?_) (fun x X' hq => ?_)
  · obtain ⟨z, f', u', tm, oa, dd, lc, al, kp, e1, e2, b1, b2, ht, ho, hdd, hlc, hal, hkp, hq⟩ := hq
    cases e1
    subst e2
    show xz v0 xs u' Q 177 199 lv [xi z] f'
    refine x_istore rfl (show (5 : Nat) < 7 from by decide) ?_
    refine x_aload_n rfl (xst_ne (by decide) l2 (Or.inl rfl)) ?_
    have hI0 := hI
    obtain ⟨hM, ⟨t1, t2, t3, t4, t5, t6⟩, ⟨n1, n2, n3, n4⟩, ⟨c1, c2, c3, -⟩, ⟨cd, fa, ki, be, en, wo, nu, pa0, op, q, nl, m0, d0, tmM, oaM, k177, hpa, k179, hnl, hnm, ⟨cn, dn, tk, pf, pq, k0, k1, k2, k3, k4, hmd⟩, k187, k188, kl1, kl2, se, at', k185, k186, hms⟩, ⟨z1, z2, z3⟩⟩ := hI
    have PM : ∀ p, 177 ≤ p → p ≤ 188 → f' p = f p := by
      intro p p1 p2
      rcases hq with ⟨b, e, f1, -, -, hc, hAC, h2, -⟩ | ⟨f1, z', kt, stt, ent, wot, dit, sgt, -, hSW, -, rfl⟩
      · obtain ⟨pt, bs, sl, tm', oa', -, -, -, -, -, -, -, -, -, -, -, -, -, -, hfr⟩ := hAC
        exact (h2 p (by omega)).trans (hfr p (by omega) (by omega) (by omega) (by omega) (by omega) (by omega) (by omega) (by omega) (by omega) (by omega) (by omega) (by omega) (by omega))
      · obtain ⟨pt, op1, ex, bs, sl, m, d, tm', oa', nmd, -, -, -, -, -, -, -, -, -, -, -, hfr⟩ := hSW
        exact (xu_ne (by omega) rfl).trans (hfr p (by omega) (by omega) (by omega) (by omega) (by omega) (by omega) (by omega) (by omega) (by omega) (by omega) (by omega))
    have hmd' : xMD bc dp tk0 f' m0 d0 := ⟨cn, dn, tk, pf, pq, (PM 180 (by decide) (by decide)).trans k0, (PM 181 (by decide) (by decide)).trans k1, (PM 182 (by decide) (by decide)).trans k2, (PM 183 (by decide) (by decide)).trans k3, (PM 184 (by decide) (by decide)).trans k4, hmd⟩
    have hms' : xMS f' := ⟨se, at', (PM 185 (by decide) (by decide)).trans k185, (PM 186 (by decide) (by decide)).trans k186, hms⟩
    refine x_call [_] rfl rfl (show (0 : Nat) ≤ 8 from by decide) (show (1 : Nat) ≤ 4 from by decide) (x_rcv (by decide) ((PM 177 (by decide) (by decide)).trans k177)) (xs_82 (tm := tm) (oa := oa) t1 t2 t3 ((PM 179 (by decide) (by decide)).trans k179) hnl n1 n2 hnm n3 n4 (fun i hi => z1 i (by omega)) c1 z2 (by omega) ((PM 178 (by decide) (by decide)).trans t6) ((PM 177 (by decide) (by decide)).trans k177) hmd' ((PM 187 (by decide) (by decide)).trans k187) ((PM 188 (by decide) (by decide)).trans k188) kl1 kl2 hms' ht ho z3) (fun r2 f3 hP => ?_)
    have hfu : xG cs n nms bc dp 0 (0, 0, tm, oa, 0, 1) = xgo cs n nms bc dp 101 0 (xq0 tm oa) := xgo_fuel _ _ _ _ (by omega) (by omega) (by omega)
    have fin : ∀ (y : Int) (n' : Nat) (nms' : List (List Int)) (bc' dp' tk' : Nat → Int), xINV f3 n' cs nms' bc' dp' tk' → xFT f3 → xCP f3 z y → xz v0 xs u' Q 177 205 (xst 5 (xi z) lv) [xi y] f3 := by
      intro y n' nms' bc' dp' tk' hI3 hF3 hcp
      refine x_istore rfl (show (6 : Nat) < 7 from by decide) ?_
      refine x_goto (t := 616) rfl rfl ?_
      exact K _ _ _ _ _ _ _ _ _ (xst_ne (by decide) (xst_ne (by decide) l0 (Or.inl rfl)) (Or.inl rfl)) (xst_ne (by decide) (xst_ne (by decide) l1 (Or.inl rfl)) (Or.inl rfl)) (xst_ne (by decide) (xst_ne (by decide) l2 (Or.inl rfl)) (Or.inl rfl)) (xst_ne (by decide) (xst_ne (by decide) l3 (Or.inl rfl)) (Or.inl rfl)) (xst_ne (by decide) (xst_ne (by decide) l4 (Or.inl rfl)) (Or.inl rfl)) hI3 hF3 b1 b2
    rcases hP with ⟨b, e, hg, hlt, rfl, hMK⟩ | ⟨rfl, hP⟩
    · rcases hq with ⟨b', e', f1, hz, hg', hc, hAC, h2, h203⟩ | ⟨f1, y', kt, stt, ent, wot, dit, sgt, hg', hSW, h112, e5⟩
      · rw [hfu, hg'] at hg
        cases hg
        obtain ⟨w, hw1, hw2, hw3, hw4⟩ := xgo_name hg'
        rw [hw1] at hAC hMK
        obtain ⟨bc', dp', tk', hI3⟩ := xINV_acc hI0 hc hw2 hw3 hw4 hAC hdd hlc hal h2 h203 k177 hpa hnl hnm hMK
        obtain ⟨pt, bs, sl, tm', oa', -, -, -, -, a50, -⟩ := hAC
        obtain ⟨-, -, kM', be', en', wo', nu', pa', op', tmM', oaM', tk1, m177, -, -, -, -, -, -, -, -, -, -, -, mfr⟩ := hMK
        refine fin _ _ _ _ _ _ hI3 ⟨-1, by decide, ⟨_, (mfr 50 (by decide) (by decide) (by decide) (by decide) (by decide) (by decide) (by decide) (by decide) (by decide) (by decide) (by decide)).trans ((h2 50 (by decide)).trans a50), rfl⟩, _, m177, rfl⟩ ⟨by omega, ⟨_, m177, by rw [hz]; rfl⟩, fun _ => ?_⟩
        exact (mfr 203 (by decide) (by decide) (by decide) (by decide) (by decide) (by decide) (by decide) (by decide) (by decide) (by decide) (by decide)).trans h203
      · rw [hfu] at hg
        rcases hg' with ⟨-, -, hg'⟩ | ⟨-, -, -, hg'⟩
        · rw [hg'] at hg; cases hg
        · omega
    · rcases hq with ⟨b', e', f1, hz, hg', hc, hAC, h2, h203⟩ | ⟨f1, y', kt, stt, ent, wot, dit, sgt, hg', hSW, h112, e5⟩
      · rcases hP with ⟨z9, hno, -⟩ | ⟨-, hno, -⟩
        · rw [hfu, hg'] at hno; cases hno
        · omega
      · subst e5
        rcases hP with ⟨z9, hno, hz9, hMN⟩ | ⟨⟨b9, e9, hno⟩, -, hMN⟩
        · rw [hfu] at hno
          rcases hg' with ⟨hz, hy, hg'⟩ | ⟨-, -, ⟨b8, e8, hg'⟩, -⟩
          · rw [hg'] at hno
            cases hno
            have hI3 := xINV_ref hI0 hSW hkp h112 xu_eq (fun p hp => xu_ne hp rfl) hdd ygt hlc hal k177 hpa hnl hnm hMN
            obtain ⟨W, kM', be', en', wo', nu', op', mt, d', tmM', oaM', m177, -, -, -, -, -, -, -, mfr⟩ := hMN
            exact fin _ _ _ _ _ _ hI3 ⟨y', by omega, ⟨_, (mfr 50 (by decide) (by decide) (by decide) (by decide) (by decide) (by decide) (by decide) (by decide) (by decide) (by decide) (by decide)).trans xu_eq, rfl⟩, _, m177, rfl⟩ ⟨by omega, ⟨_, m177, by rw [hz]; rfl⟩, fun h => by omega⟩
          · rw [hg'] at hno; cases hno
        · rw [hfu] at hno
          rcases hg' with ⟨-, -, hg'⟩ | ⟨hz, hy, -, -⟩
          · rw [hg'] at hno; cases hno
          · subst hy
            have hI3 := xINV_ref hI0 hSW hkp h112 xu_eq (fun p hp => xu_ne hp rfl) hdd ygt hlc hal k177 hpa hnl hnm hMN
            obtain ⟨W, kM', be', en', wo', nu', op', mt, d', tmM', oaM', m177, -, -, -, -, -, -, -, mfr⟩ := hMN
            exact fin _ _ _ _ _ _ hI3 ⟨-1, by decide, ⟨_, (mfr 50 (by decide) (by decide) (by decide) (by decide) (by decide) (by decide) (by decide) (by decide) (by decide) (by decide) (by decide)).trans xu_eq, rfl⟩, _, m177, rfl⟩ ⟨by omega, ⟨_, m177, by rw [hz]; rfl⟩, fun h => by omega⟩
  · obtain ⟨z, f', u', tm, oa, dd, lc, al, kp, e1, -⟩ := hq
    cases e1
