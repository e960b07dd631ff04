/-! The law: where its cases go on, and how it compares. -/
def sKN (v0 : Value) (xs : List Int32) (u : Nat × Nat) (Q : zO → zX → Prop) (i : Nat) : Prop := ∀ (lv : zL) (f : Nat → zE) (u' : Nat × Nat), zlv lv 0 = some (.ref 0) → zlv lv 1 = some (.ref 50) → zlv lv 2 = some (.ref 177) → zlv lv 3 = some (.ref 203) → zlv lv 4 = some (xi (i : Nat)) → sA f → u'.1 ≤ u.1 + 1 → u'.2 ≤ u.2 + 6 → xz v0 xs u' Q 177 651 lv [] f
/-- the model's code is k, and if it is 0, 'out' holds y -/
def xCP (f : Nat → zE) (k y : Int) : Prop := (0 ≤ k ∧ k ≤ 2) ∧ sCD f k ∧ (k = 0 → f 203 = .inr (.inr (.inl [(Int32.ofInt y).toInt64])))
theorem xs_178 {v0 : Value} {xs : List Int32} {u : Nat × Nat} {f : Nat → zE} {k : Int} {fs : List Value} (h : f 177 = .inl (10, fs)) (h0 : fs[0]? = some (xi k)) : xq v0 xs u 178 [(0, .ref 177)] f (fun r f' => r = some (xi k) ∧ f' = f) := by
  unfold xq
  refine x_aload_n rfl rfl ?_
  refine x_getfield rfl (by decide) h h0 ?_
  exact x_ireturn rfl (Or.inl rfl) ⟨_, _, rfl, rfl, rfl, rfl⟩
theorem x_ceqs {v0 : Value} {xs : List Int32} {u : Nat × Nat} {Q : zO → zX → Prop} {mi pc a b c t : Nat} {v : Value} {e : Int} {lv : zL} {r : List Value} {f : Nat → zE} {y : Int} (hc : zcd (zt v0) mi pc = some (.if_icmp .eq e, a, b, c, v)) (ht : ztgt pc e = some t) (k : xz v0 xs u Q mi t lv r f) : xz v0 xs u Q mi pc lv (xi y :: xi y :: r) f := by
  have e1 : xi y = xi (Int32.ofInt y).toInt := xi_of (Int32.ofInt y)
  rw [e1]
  exact x_ceq hc ht ⟨y_lo _, y_hi _⟩ ⟨y_lo _, y_hi _⟩ (fun _ => k) (fun h => absurd rfl h)
set_option maxRecDepth 20000 in
theorem xcmp {v0 : Value} {xs : List Int32} {u u' : Nat × Nat} {Q : zO → zX → Prop} {f : Nat → zE} {lv : zL} {i : Nat} {k y : Int} (l0 : zlv lv 0 = some (.ref 0)) (l1 : zlv lv 1 = some (.ref 50)) (l2 : zlv lv 2 = some (.ref 177)) (l3 : zlv lv 3 = some (.ref 203)) (l4 : zlv lv 4 = some (xi (i : Nat))) (l5 : zlv lv 5 = some (xi k)) (l6 : zlv lv 6 = some (xi y)) (hA : sA f) (b1 : u'.1 ≤ u.1 + 1) (b2 : u'.2 ≤ u.2 + 6) (K : sKN v0 xs u Q i) (hc : xCP f k y) (hB : y = 0 ∨ y = 1) : xz v0 xs u' Q 177 613 lv [] f := by
  obtain ⟨hk, ⟨fs, h177, hcd⟩, hout⟩ := hc
  refine x_aload_n rfl l2 ?_
  refine x_call [_] rfl rfl (show (0 : Nat) ≤ 8 from by decide) (show (1 : Nat) ≤ 1 from by decide) (x_rcv (by decide) h177) (xs_178 h177 hcd) (fun r1 f1 hP => ?_)
  obtain ⟨rfl, rfl⟩ := hP
  refine x_iload rfl l5 ?_
  refine x_ceq (t := 624) rfl rfl ⟨by omega, by omega⟩ ⟨by omega, by omega⟩ (fun _ => ?_) (fun h => absurd rfl h)
  refine x_iload rfl l5 ?_
  refine x_ifne (t := 648) rfl rfl ⟨by omega, by omega⟩ (fun _ => ?_) (fun hk0 => ?_)
  · refine x_goto (t := 651) rfl rfl ?_
    exact K _ _ _ l0 l1 l2 l3 l4 hA b1 b2
  · refine x_aload_n rfl l3 ?_
    refine x_iconst rfl ?_
    refine x_laload rfl (by decide) (hout hk0) ⟨by omega, (by show (0 : Int) < ((1 : Nat) : Int); omega)⟩ (show (1 : Nat) ≤ 5000 from by decide) ?_
    refine x_iload rfl l6 ?_
    rcases hB with rfl | rfl
    · refine x_ifeq (t := 641) rfl rfl (by decide) (fun _ => ?_) (fun h => absurd rfl h)
      refine x_lconst rfl ?_
      refine x_lcmp rfl ?_
      refine x_leq (t := 648) rfl rfl (fun _ => ?_) (fun h => (h (by decide)).elim)
      refine x_goto (t := 651) rfl rfl ?_
      exact K _ _ _ l0 l1 l2 l3 l4 hA b1 b2
    · refine x_ifeq (t := 641) rfl rfl (by decide) (fun h => absurd h (by decide)) (fun _ => ?_)
      refine x_lconst rfl ?_
      refine x_goto (t := 642) rfl rfl ?_
      refine x_lcmp rfl ?_
      refine x_leq (t := 648) rfl rfl (fun _ => ?_) (fun h => (h (by decide)).elim)
      refine x_goto (t := 651) rfl rfl ?_
      exact K _ _ _ l0 l1 l2 l3 l4 hA b1 b2
def xQ64 (f : Nat → zE) (n : Nat) (cs : List Int) (nms : List (List Int)) (bc dp : Nat → Int) (K : List (Int × Int)) (G : Nat → List xBt) (u : Nat × Nat) (dd lc al : Value) (kp : Int) (o : zO) (X : zX) : Prop := (∃ (tm oa : List Int) (b e : Int) (f1 : Nat → zE), o = .inl (some (xi (nms.length : Nat))) ∧ X = (xh f1, u) ∧ tm.length = 3 ∧ oa.length = 3 ∧ xgo cs n nms bc dp 101 0 (xq0 tm oa) = .inr (b, e) ∧ nms.length < 12 ∧ xAC f K (xgc K G cs n nms bc dp 101 0 (xq0 tm oa) xC0) nms.length (Int64.ofInt (xwL (xwd cs (xtf cs n 0).2.1 (xtf cs n 0).2.2))) b e al dd lc f1) ∨ (∃ (tm oa : List Int) (x : Nat) (f1 : Nat → zE) (z kt stt ent : Int) (wot : Int64) (dit sgt : Int), o = .inr x ∧ ((x = 100 ∧ (0 ≤ z ∧ z ≤ 100) ∧ xgo cs n nms bc dp 101 0 (xq0 tm oa) = .inl z) ∨ (x = 101 ∧ z = -1 ∧ (∃ b e : Int, xgo cs n nms bc dp 101 0 (xq0 tm oa) = .inr (b, e)) ∧ nms.length = 12)) ∧ X = (xh (xu f1 50 (xfc dd (xi z) lc)), u.1 + 1, u.2 + 6) ∧ tm.length = 3 ∧ oa.length = 3 ∧ xSW f K nms.length kp f1 al ∧ f1 112 = xtk kt stt ent wot dit sgt)
def xDQ (f : Nat → zE) (n : Nat) (cs : List Int) (nms : List (List Int)) (bc dp : Nat → Int) (K : List (Int × Int)) (G : Nat → List xBt) (u : Nat × Nat) (o : zO) (X : zX) : Prop := ∃ (z : Int) (f' : Nat → zE) (u' : Nat × Nat) (tm oa : List Int) (dd lc al : Value) (kp : Int), o = .inl (some (xi z)) ∧ X = (xh f', u') ∧ (u'.1 ≤ u.1 + 1 ∧ u'.2 ≤ u.2 + 6) ∧ tm.length = 3 ∧ oa.length = 3 ∧ (yg (.inl (0, 24)) dd ∧ yg (.inl ytop) lc ∧ yg (.inl (0, 1)) al ∧ (0 ≤ kp ∧ kp ≤ 208) ∧ (K.length : Int) = kp ∧ (∃ lf, f 50 = xfc dd lf lc) ∧ ∃ (nm : Int64) (b d : Value), f (57 + 4 * nms.length) = xfg nms.length nm b d al) ∧ ((∃ (b e : Int) (f1 : Nat → zE), z = 0 ∧ xgo cs n nms bc dp 101 0 (xq0 tm oa) = .inr (b, e) ∧ nms.length < 12 ∧ xAC f K (xgc K G cs n nms bc dp 101 0 (xq0 tm oa) xC0) nms.length (Int64.ofInt (xwL (xwd cs (xtf cs n 0).2.1 (xtf cs n 0).2.2))) b e al dd lc f1 ∧ (∀ p, p ≠ 203 → f' p = f1 p) ∧ f' 203 = .inr (.inr (.inl [(Int32.ofInt (nms.length : Nat)).toInt64]))) ∨ (∃ (f1 : Nat → zE) (y kt stt ent : Int) (wot : Int64) (dit sgt : Int), ((z = 1 ∧ (0 ≤ y ∧ y ≤ 100) ∧ xgo cs n nms bc dp 101 0 (xq0 tm oa) = .inl y) ∨ (z = 2 ∧ y = -1 ∧ (∃ b e : Int, xgo cs n nms bc dp 101 0 (xq0 tm oa) = .inr (b, e)) ∧ nms.length = 12)) ∧ xSW f K nms.length kp f1 al ∧ f1 112 = xtk kt stt ent wot dit sgt ∧ f' = xu f1 50 (xfc dd (xi y) lc)))
def xav (f : Nat → zE) (i : Nat) : Value := match f (57 + 4 * i) with
  | .inl q => q.2.getD 6 .null
  | _ => .null
theorem xs_64i {v0 : Value} {xs : List Int32} {u : Nat × Nat} {f : Nat → zE} {n : Nat} {cs : List Int} {nms : List (List Int)} {bc dp tk0 : Nat → Int} {K : List (Int × Int)} {G : Nat → List xBt} {R0 : Nat → Int × Int} (hv : v0 = .null ∨ v0 = .ref 49) (h : xINV f n cs nms bc dp tk0 K G R0) : ∃ (dd : Int) (lf lc al : Value) (kp : Int), f 50 = xfc (xi dd) lf lc ∧ yg (.inl (0, 24)) (xi dd) ∧ yg (.inl ytop) lc ∧ yg (.inl (0, 1)) al ∧ ((0 ≤ kp ∧ kp ≤ 208) ∧ (K.length : Int) = kp ∧ ∃ (nm : Int64) (b d : Value), f (57 + 4 * nms.length) = xfg nms.length nm b d al) ∧ xz v0 xs u (xQ64 f n cs nms bc dp K G u (xi dd) lc al kp) 64 0 [(0, .ref 50)] [] f := by
  obtain ⟨hM, ⟨t1, t2, t3, t4, t5, t6⟩, ⟨n1, n2, n3, n4⟩, ⟨c1, c2, c3, kp, al, hrd⟩, hMO, hTZ⟩ := h
  obtain ⟨dd, lf, lc, h50, hdd, hlf, hlc⟩ := xINV_50 hM
  have hkp := hrd.2
  have hal : yg (.inl (0, 1)) al ∧ ∃ (nm : Int64) (b d : Value), f (57 + 4 * nms.length) = xfg nms.length nm b d al := by
    obtain ⟨⟨E, B, dr, op, ex, bs, sl, pt, tm, oa, ki, st, en, wo, di, sg, nmd, m, d, h109, hbs, hsl, h53, h110, h111, q1, q2, q3, q4, h112, ⟨a1, a2, fp, ep, ta, a3, a4⟩, -⟩, -⟩ := hrd
    have h0 := xM_at hM (p := 57 + 4 * nms.length) (by omega) (by rw [show 57 + 4 * nms.length - 50 = 7 + 4 * nms.length by omega]; exact (yT2_fig nms.length (by omega)).1)
    rw [a3] at h0
    exact ⟨h0.2.2 6 _ _ rfl rfl, _, _, _, a3⟩
  have hk0 : ∀ i, i < nms.length → xKF (G i) i f (Int64.ofInt (xpr (nms.getD i []).reverse)) (bc i) (dp i) (xav f i) := by
    intro i hi
    obtain ⟨al2, hk⟩ := c2 i hi
    have e : xav f i = al2 := by
      obtain ⟨a1, a2, fp, ep, ta, a3, -⟩ := hk
      unfold xav
      rw [a3]
      rfl
    rw [e]
    exact hk
  have hnmi : ∀ i (hi : i < nms.length), Int64.ofInt (xpr (nms.getD i []).reverse) = Int64.ofInt (xpr (nms[i]).reverse) := by
    intro i hi
    rw [List.getD_eq_getElem?_getD, List.getElem?_eq_getElem hi]
    rfl
  refine ⟨dd, lf, lc, al, kp, h50, ygi hdd.1 hdd.2 (by omega) (by omega), hlc, hal.1, ⟨hkp.1, hkp.2, hal.2⟩, ?_⟩
  refine xs_64 (nm := fun i => Int64.ofInt (xpr (nms.getD i []).reverse)) hv n1 t1 t2 t3 t4 t5 (xINV_54 hM) hk0 c1 rfl n2 hnmi hrd h50 ?_ ?_ ?_
  · intro tm oa f1 l1 l2 b e hg hc _ _ hAC
    exact Or.inl ⟨tm, oa, b, e, f1, rfl, rfl, l1, l2, hg, hc, hAC⟩
  · intro tm oa f1 l1 l2 h112 b e hg hc hSW
    obtain ⟨kt, stt, ent, wot, dit, sgt, h112⟩ := h112
    exact Or.inr ⟨tm, oa, 101, f1, -1, kt, stt, ent, wot, dit, sgt, rfl, Or.inr ⟨rfl, rfl, ⟨b, e, hg⟩, hc⟩, rfl, l1, l2, hSW, h112⟩
  · intro tm oa f1 z l1 l2 h112 hg hz hSW
    obtain ⟨kt, stt, ent, wot, dit, sgt, h112⟩ := h112
    exact Or.inr ⟨tm, oa, 100, f1, z, kt, stt, ent, wot, dit, sgt, rfl, Or.inl ⟨rfl, hz, hg⟩, rfl, l1, l2, hSW, h112⟩
theorem xH65 {v0 : Value} {xs : List Int32} {u : Nat × Nat} {f : Nat → zE} {n : Nat} {cs : List Int} {nms : List (List Int)} {bc dp tk0 : Nat → Int} {K : List (Int × Int)} {G : Nat → List xBt} {R0 : Nat → Int × Int} (hv : v0 = .null ∨ v0 = .ref 49) (h : xINV f n cs nms bc dp tk0 K G R0) : xz v0 xs u (xDQ f n cs nms bc dp K G u) 65 0 [(0, .ref 50), (1, .ref 203)] [] f := by
  obtain ⟨dd, lf, lc, al, kp, h50, hdd, hlc, hal, ⟨hkp, hKk, h57⟩, hs⟩ := xs_64i (xs := xs) (u := u) hv h
  obtain ⟨l, h203, hl, -⟩ := xD_203 h.1
  have hall : yg (.inl (0, 24)) (xi dd) ∧ yg (.inl ytop) lc ∧ yg (.inl (0, 1)) al ∧ (0 ≤ kp ∧ kp ≤ 208) ∧ (K.length : Int) = kp ∧ (∃ lf, f 50 = xfc (xi dd) lf lc) ∧ ∃ (nm : Int64) (b d : Value), f (57 + 4 * nms.length) = xfg nms.length nm b d al := ⟨hdd, hlc, hal, hkp, hKk, ⟨lf, h50⟩, h57⟩
  refine x_aload_n rfl rfl ?_
  refine x_iconst rfl ?_
  refine x_aload_n rfl rfl ?_
  refine x_callT [_] rfl rfl (show (2 : Nat) ≤ 8 from by decide) (show (1 : Nat) ≤ 1 from by decide) (x_rcv (by decide) h50) hs (fun r' X' hq => ?_) (fun x X' hq => ?_)
  · rcases hq with ⟨tm, oa, b, e, f1, e1, e2, l1, l2, hg, hc, hAC⟩ | ⟨tm, oa, x, f1, z, kt, stt, ent, wot, dit, sgt, e1, -⟩
    · cases e1
      subst e2
      have h203' : f1 203 = .inr (.inr (.inl l)) := by
        obtain ⟨pt, bs, sl, tm', oa', B', -, -, -, -, -, -, -, -, -, -, -, -, -, -, -, hfr⟩ := hAC
        exact (hfr 203 (by decide) (by decide) (by decide) (by decide) (by decide) (by omega) (by omega) (by omega) (by omega) (by decide) (by decide) (by decide) (by decide)).trans h203
      show xz v0 xs u (xDQ f n cs nms bc dp K G u) 65 6 _ [xi (nms.length : Nat), xi 0, .ref 203] f1
      refine x_i2l rfl ?_
      refine x_lastore rfl (by decide) h203' ⟨by omega, by omega⟩ (by omega) ?_
      refine x_goto (t := 17) rfl rfl ?_
      refine x_iconst rfl ?_
      refine x_ireturn rfl (Or.inl rfl) ?_
      match l, hl with
      | [g0], _ => exact ⟨0, _, u, tm, oa, xi dd, lc, al, kp, rfl, rfl, ⟨by omega, by omega⟩, l1, l2, hall, Or.inl ⟨b, e, f1, rfl, hg, hc, hAC, fun p hp => xu_ne hp rfl, xu_eq⟩⟩
    · cases e1
  · rcases hq with ⟨tm, oa, b, e, f1, e1, -⟩ | ⟨tm, oa, x', f1, z, kt, stt, ent, wot, dit, sgt, e1, hx, e2, l1, l2, hSW, h112⟩
    · cases e1
    · cases e1
      subst e2
      rcases hx with ⟨rfl, hx⟩ | ⟨rfl, hx⟩
      · refine ⟨(11, 2), (show zHN 65 3 100 ≠ none from by decide), rfl, ?_⟩
        show xz v0 xs (u.1 + 1, u.2 + 6) (xDQ f n cs nms bc dp K G u) 65 12 _ [] _
        refine x_iconst rfl ?_
        refine x_ireturn rfl (Or.inl rfl) ?_
        exact ⟨1, _, _, tm, oa, xi dd, lc, al, kp, rfl, rfl, ⟨Nat.le_refl _, Nat.le_refl _⟩, l1, l2, hall, Or.inr ⟨f1, z, kt, stt, ent, wot, dit, sgt, Or.inl ⟨rfl, hx⟩, hSW, h112, rfl⟩⟩
      · refine ⟨(14, 2), (show zHN 65 3 101 ≠ none from by decide), rfl, ?_⟩
        show xz v0 xs (u.1 + 1, u.2 + 6) (xDQ f n cs nms bc dp K G u) 65 15 _ [] _
        refine x_iconst rfl ?_
        refine x_ireturn rfl (Or.inl rfl) ?_
        exact ⟨2, _, _, tm, oa, xi dd, lc, al, kp, rfl, rfl, ⟨Nat.le_refl _, Nat.le_refl _⟩, l1, l2, hall, Or.inr ⟨f1, z, kt, stt, ent, wot, dit, sgt, Or.inr ⟨rfl, hx⟩, hSW, h112, rfl⟩⟩
/-! The rest of the state over a define. -/
theorem sMT_xm {f f3 : Nat → zE} {n n' : Nat} {S : sS} {cd ty fa ki be en nu ca pa op cd' ty' fa' ki' be' en' nu' pa' op' : Int} {wo wo' : Int64} {q : Nat → Value} (h : sMT f n S) (h177 : f 177 = xmo cd ty fa ki be en wo nu ca pa op q) (k177 : f3 177 = xmo cd' ty' fa' ki' be' en' wo' nu' (n' : Nat) pa' op' q) (hfr : ∀ p, 189 ≤ p → p ≤ 197 → f3 p = f p) : sMT f3 n' S := by
  obtain ⟨⟨fs, ⟨hM1, hl, -, -, -, -⟩, -, -, h31, h30⟩, hX, hJ, ax, ay, af, c1, c2, c3, c4⟩ := h
  rw [h177] at hM1
  cases hM1
  exact ⟨⟨_, ⟨k177, rfl, ⟨rfl, rfl, rfl, rfl, rfl, rfl⟩, rfl, rfl, rfl⟩, ⟨rfl, rfl, rfl, rfl, rfl, rfl⟩, rfl, h31, h30⟩, sMX_f hX (fun p a b => hfr p a (by omega)), sMJ_f hJ (fun p a b => hfr p (by omega) b), ax, ay, af, (hfr _ (by decide) (by decide)).trans c1, (hfr _ (by decide) (by decide)).trans c2, (hfr _ (by decide) (by decide)).trans c3, c4⟩
theorem sWD_xm {f f3 : Nat → zE} {F : Int} {wy : Nat → Int} {cd ty fa ki be en nu ca pa op cd' ty' fa' ki' be' en' nu' ca' pa' op' : Int} {wo wo' : Int64} {q : Nat → Value} (h : sWD f F wy) (h177 : f 177 = xmo cd ty fa ki be en wo nu ca pa op q) (k177 : f3 177 = xmo cd' ty' fa' ki' be' en' wo' nu' ca' pa' op' q) (e : f3 199 = f 199) : sWD f3 F wy := by
  obtain ⟨⟨fs, h1, h36⟩, wl, h2, h3⟩ := h
  rw [h177] at h1
  cases h1
  exact ⟨⟨_, k177, h36⟩, wl, e.trans h2, h3⟩
theorem sCT_k {f f' : Nat → zE} {K K' : List (Int × Int)} {G G' : Nat → List xBt} {S : sS} {dd lf lf' lc : Value} (h : sCT f K G S) (h50 : f 50 = xfc dd lf lc) (k50 : f' 50 = xfc dd lf' lc) (hfr : ∀ q, 123 ≤ q → q ≤ 175 → f' q = f q) (hG : ∀ i, i < S.2.1.length → G' (S.2.1.getD i sH0).1 = G (S.2.1.getD i sH0).1 ∧ sbt K' (G (S.2.1.getD i sH0).1) = sbt K (G (S.2.1.getD i sH0).1)) : sCT f' K' G' S := by
  obtain ⟨⟨lf0, j50⟩, ⟨pl, h175, hpl⟩, h24, hJ⟩ := h
  rw [h50] at j50
  cases j50
  refine ⟨⟨lf', k50⟩, ⟨pl, (hfr _ (by decide) (by decide)).trans h175, hpl⟩, h24, fun i hi => ?_⟩
  obtain ⟨j1, l, j2, j3⟩ := hJ i hi
  obtain ⟨g1, g2⟩ := hG i hi
  rw [g1, g2]
  exact ⟨(hfr _ (by omega) (by omega)).trans j1, l, (hfr _ (by omega) (by omega)).trans j2, j3⟩
theorem sHK_k {K K' : List (Int × Int)} {G G' : Nat → List xBt} {n n' : Nat} {S : sS} (h : sHK K G n S) (hn : n ≤ n') (hG : ∀ c, c < n → G' c = G c ∧ sbt K' (G c) = sbt K (G c)) : sHK K' G' n' S := by
  intro i hi
  obtain ⟨h1, h2⟩ := h i hi
  obtain ⟨g1, g2⟩ := hG _ h1
  rw [g1, g2]
  exact ⟨by omega, h2⟩
theorem sAC_k {f f' : Nat → zE} {al : Nat → Bool} {c : Nat} {nm nm' : Int64} {b d b' d' av : Value} (h : sAC f al) (h57 : f (57 + 4 * c) = xfg c nm b d av) (k57 : f' (57 + 4 * c) = xfg c nm' b' d' av) (hfr : ∀ i, i < 12 → i ≠ c → f' (57 + 4 * i) = f (57 + 4 * i)) : sAC f' al := by
  intro i hi
  by_cases e : i = c
  · subst e
    obtain ⟨nm0, b0, d0, e0⟩ := h i hi
    rw [h57] at e0
    cases e0
    exact ⟨_, _, _, k57⟩
  · obtain ⟨nm0, b0, d0, e0⟩ := h i hi
    exact ⟨nm0, b0, d0, (hfr i hi e).trans e0⟩
set_option maxRecDepth 20000 in
theorem xK2 {v0 : Value} {xs : List Int32} {u : Nat × Nat} {Q : zO → zX → Prop} {f : Nat → zE} {lv : zL} {i : Nat} (hv : v0 = .null ∨ v0 = .ref 49) (l0 : zlv lv 0 = some (.ref 0)) (l1 : zlv lv 1 = some (.ref 50)) (l2 : zlv lv 2 = some (.ref 177)) (l3 : zlv lv 3 = some (.ref 203)) (l4 : zlv lv 4 = some (xi (i : Nat))) (hA : sA f) (Kn : sKN v0 xs u Q i) : xz v0 xs u Q 177 194 lv [] f := by
  obtain ⟨n, cs, nms, bc, dp, tk0, K, G, R0, S, al, F, wy, hI, hF, hT, hMT, hH, ⟨hA1, hA2, hA3, hA4⟩, hF4, hWC, hWD⟩ := hA
  refine x_aload_n rfl l1 ?_
  refine x_aload_n rfl l3 ?_
  refine x_callT [_, _] rfl rfl (show (0 : Nat) ≤ 8 from by decide) (show (2 : Nat) ≤ 3 from by decide) rfl (xH65 hv hI) (fun r' X' hq => ?_) (fun x X' hq => ?_)
  · obtain ⟨z, f', u', tm, oa, dd, lc, av, kp, e1, e2, ⟨b1, b2⟩, ht, ho, ⟨hdd, hlc, hal, hkp, hKk, ⟨lf, h50⟩, nm57, b57, d57, h57⟩, hq⟩ := hq
    cases e1
    subst e2
    show xz v0 xs u' Q 177 199 lv [xi z] f'
    refine x_istore rfl (show (5 : Nat) < 7 from by decide) ?_
    refine x_aload_n rfl (xst_ne (by decide) l2 (Or.inl rfl)) ?_
    have hI0 := hI
    obtain ⟨hM, ⟨t1, t2, t3, t4, t5, t6⟩, ⟨n1, n2, n3, n4⟩, ⟨c1, c2, c3, -⟩, ⟨cd, fa, ki, be, en, wo, nu, pa0, op, q, nl, m0, d0, tmM, oaM, Ee, Bb, k177, ⟨hpa, hKp⟩, k179, hnl, hnm, ⟨cn, dn, tk, pf, pq, k0, k1, k2, k3, k4, hmd⟩, k187, k188, kl1, kl2, se, at', k185, k186, hms⟩, ⟨z1, z2, z3⟩, z4, z5⟩ := hI
    have PM : ∀ p, 113 ≤ p → p ≤ 202 → f' p = f p := by
      intro p p1 p2
      rcases hq with ⟨b, e, f1, -, -, hc, hAC, h2, -⟩ | ⟨f1, z', kt, stt, ent, wot, dit, sgt, -, hSW, -, rfl⟩
      · obtain ⟨pt, bs, sl, tm', oa', B', -, -, -, -, -, -, -, -, -, -, -, -, -, -, -, hfr⟩ := hAC
        exact (h2 p (by omega)).trans (hfr p (by omega) (by omega) (by omega) (by omega) (by omega) (by omega) (by omega) (by omega) (by omega) (by omega) (by omega) (by omega) (by omega))
      · obtain ⟨pt, op1, ex, bs, sl, m, d, tm', oa', nmd, E', B', -, -, -, -, -, -, -, -, -, -, -, hfr⟩ := hSW
        exact (xu_ne (by omega) rfl).trans (hfr p (by omega) (by omega) (by omega) (by omega) (by omega) (by omega) (by omega) (by omega) (by omega) (by omega) (by omega))
    have hmd' : xMD R0 Bb bc dp tk0 f' m0 d0 := ⟨cn, dn, tk, pf, pq, (PM 180 (by decide) (by decide)).trans k0, (PM 181 (by decide) (by decide)).trans k1, (PM 182 (by decide) (by decide)).trans k2, (PM 183 (by decide) (by decide)).trans k3, (PM 184 (by decide) (by decide)).trans k4, hmd⟩
    have hms' : xMS K Ee f' := ⟨se, at', (PM 185 (by decide) (by decide)).trans k185, (PM 186 (by decide) (by decide)).trans k186, hms⟩
    refine x_call [_] rfl rfl (show (0 : Nat) ≤ 8 from by decide) (show (1 : Nat) ≤ 4 from by decide) (x_rcv (by decide) ((PM 177 (by decide) (by decide)).trans k177)) (xs_82 (tm := tm) (oa := oa) t1 t2 t3 ((PM 179 (by decide) (by decide)).trans k179) hnl n1 n2 hnm n3 n4 (fun i hi => z1 i (by omega)) c1 z2 (by omega) ((PM 178 (by decide) (by decide)).trans t6) ((PM 177 (by decide) (by decide)).trans k177) z4 hKp hmd' ((PM 187 (by decide) (by decide)).trans k187) ((PM 188 (by decide) (by decide)).trans k188) kl1 kl2 hms' ht ho z3) (fun r2 f3 hP => ?_)
    have hfu : xG cs n nms bc dp 0 (0, 0, tm, oa, 0, 1) = xgo cs n nms bc dp 101 0 (xq0 tm oa) := xgo_fuel _ _ _ _ (by omega) (by omega) (by omega)
    have hfc : xGC K G cs n nms bc dp 0 (0, 0, tm, oa, 0, 1) xC0 = xgc K G cs n nms bc dp 101 0 (xq0 tm oa) xC0 := xgc_fuel _ _ _ _ _ (by omega) (by omega) (by omega)
    have fin : ∀ y : Int, sA f3 → xCP f3 z y → xz v0 xs u' Q 177 205 (xst 5 (xi z) lv) [xi y] f3 := by
      intro y hA3 hcp
      refine x_istore rfl (show (6 : Nat) < 7 from by decide) ?_
      refine x_goto (t := 651) rfl rfl ?_
      exact Kn _ _ _ (xst_ne (by decide) (xst_ne (by decide) l0 (Or.inl rfl)) (Or.inl rfl)) (xst_ne (by decide) (xst_ne (by decide) l1 (Or.inl rfl)) (Or.inl rfl)) (xst_ne (by decide) (xst_ne (by decide) l2 (Or.inl rfl)) (Or.inl rfl)) (xst_ne (by decide) (xst_ne (by decide) l3 (Or.inl rfl)) (Or.inl rfl)) (xst_ne (by decide) (xst_ne (by decide) l4 (Or.inl rfl)) (Or.inl rfl)) hA3 b1 b2
    rcases hP with ⟨b, e, hg, hlt, rfl, hMK⟩ | ⟨rfl, hP⟩
    · rcases hq with ⟨b', e', f1, hz, hg', hc, hAC, h2, h203⟩ | ⟨f1, y', kt, stt, ent, wot, dit, sgt, hg', hSW, h112, e5⟩
      · rw [hfu, hg'] at hg
        cases hg
        rw [hfc] at hMK
        have hgC := xgk_gc (cs := cs) (n := n) (nms := nms) (bc := bc) (dp := dp) (k := 101) (p := 0) (q := xq0 tm oa) z5 rfl
        obtain ⟨w, hw1, hw2, hw3, hw4⟩ := xgo_name hg'
        rw [hw1] at hAC hMK
        generalize xgc K G cs n nms bc dp 101 0 (xq0 tm oa) xC0 = C at hAC hMK hgC
        obtain ⟨bc', dp', tk', RR', hI3⟩ := xINV_acc hI0 hc hw2 hw3 hw4 hAC hgC hKp hdd hlc hal h2 h203 k177 hpa hnl hnm hMK
        obtain ⟨pt, bs, sl, tm', oa', B', -, -, -, -, a50, -, -, aKF, -, -, -, -, -, -, -, afr⟩ := hAC
        obtain ⟨-, -, kM', be', en', wo', nu', pa', op', tmM', oaM', tk1, R1, m177, -, -, -, -, -, -, -, -, -, -, -, -, -, mfr⟩ := hMK
        obtain ⟨-, -, fp', ep', ta', a57, -⟩ := aKF
        rw [show ((nms.length : Nat) : Int) + 1 = ((nms.length + 1 : Nat) : Int) by omega] at m177
        have P3 : ∀ p, p ≠ 50 → p ≠ 51 → p ≠ 53 → p ≠ 55 → p ≠ 56 → p ≠ 57 + 4 * nms.length → p ≠ 58 + 4 * nms.length → p ≠ 59 + 4 * nms.length → p ≠ 60 + 4 * nms.length → ¬ (109 ≤ p ∧ p ≤ 112) → ¬ (177 ≤ p ∧ p ≤ 188) → p ≠ 203 → f3 p = f p := by
          intro p y1 y2 y3 y4 y5 y6 y7 y8 y9 y10 y11 y12
          exact (mfr p (by omega) (by omega) (by omega) (by omega) (by omega) (by omega) (by omega) (by omega) (by omega) (by omega) (by omega)).trans ((h2 p y12).trans (afr p (by omega) (by omega) (by omega) (by omega) (by omega) (by omega) (by omega) (by omega) (by omega) (by omega) (by omega) (by omega) (by omega)))
        have g50 : f3 50 = xfc dd (xi (-1)) lc := (mfr 50 (by decide) (by decide) (by decide) (by decide) (by decide) (by decide) (by decide) (by decide) (by decide) (by decide) (by decide)).trans ((h2 50 (by decide)).trans a50)
        have hGs : ∀ c, c < nms.length → (fun i => if i = nms.length then C.2.2.2.map xse else G i) c = G c ∧ sbt (K ++ C.2.2.1) (G c) = sbt K (G c) := fun c hc2 => ⟨if_neg (by omega), sbt_app (z5 c)⟩
        have hln : (nms ++ [w]).length = nms.length + 1 := by rw [List.length_append, List.length_singleton]
        refine fin _ ⟨0, cs, nms ++ [w], bc', dp', tk', K ++ C.2.2.1, _, RR', S, al, F, wy, hI3, ⟨-1, by decide, ⟨_, g50, rfl⟩, _, m177, rfl⟩, sCT_k hT h50 g50 (fun p y1 y2 => P3 p (by omega) (by omega) (by omega) (by omega) (by omega) (by omega) (by omega) (by omega) (by omega) (by omega) (by omega) (by omega)) (fun i hi => hGs _ (hH i hi).1), ?_, sHK_k hH (by omega) hGs, ⟨sAC_k hA1 h57 ((mfr _ (by omega) (by omega) (by omega) (by omega) (by omega) (by omega) (by omega) (by omega) (by omega) (by omega) (by omega)).trans ((h2 _ (by omega)).trans a57)) (fun i hi hne => P3 _ (by omega) (by omega) (by omega) (by omega) (by omega) (by omega) (by omega) (by omega) (by omega) (by omega) (by omega) (by omega)), sAD_fr hA2 (P3 198 (by decide) (by decide) (by decide) (by decide) (by decide) (by omega) (by omega) (by omega) (by omega) (by decide) (by decide) (by decide)), fun i hi => hA3 i (by omega), ?_⟩, hF4, sWC_fr hWC (P3 117 (by decide) (by decide) (by decide) (by decide) (by decide) (by omega) (by omega) (by omega) (by omega) (by decide) (by decide) (by decide)) (P3 121 (by decide) (by decide) (by decide) (by decide) (by decide) (by omega) (by omega) (by omega) (by omega) (by decide) (by decide) (by decide)), sWD_xm hWD k177 m177 (P3 199 (by decide) (by decide) (by decide) (by decide) (by decide) (by omega) (by omega) (by omega) (by omega) (by decide) (by decide) (by decide))⟩ ⟨by omega, ⟨_, m177, by rw [hz]; rfl⟩, fun _ => ?_⟩
        · rw [hln]
          exact sMT_xm hMT k177 m177 (fun p y1 y2 => P3 p (by omega) (by omega) (by omega) (by omega) (by omega) (by omega) (by omega) (by omega) (by omega) (by omega) (by omega) (by omega))
        · rw [hln]
          show scnt al nms.length + (if al nms.length = true then 1 else 0) ≤ 5
          rw [hA3 nms.length (Nat.le_refl _), if_neg (by decide)]
          omega
        · exact (mfr 203 (by decide) (by decide) (by decide) (by decide) (by decide) (by decide) (by decide) (by decide) (by decide) (by decide) (by decide)).trans h203
      · rw [hfu] at hg
        rcases hg' with ⟨-, -, hg'⟩ | ⟨-, -, -, hg'⟩
        · rw [hg'] at hg; cases hg
        · omega
    · rcases hq with ⟨b', e', f1, hz, hg', hc, hAC, h2, h203⟩ | ⟨f1, y', kt, stt, ent, wot, dit, sgt, hg', hSW, h112, e5⟩
      · rcases hP with ⟨z9, hno, -⟩ | ⟨-, hno, -⟩
        · rw [hfu, hg'] at hno; cases hno
        · omega
      · subst e5
        have key : ∀ (cd' fa' : Int), (-1 ≤ fa' ∧ fa' ≤ 100) → fa' = y' → xMN K R0 n nms bc dp tk0 pa0 q nl (xu f1 50 (xfc dd (xi y') lc)) f3 cd' fa' → sA f3 ∧ sCD f3 cd' := by
          intro cd' fa' hfa hy hMN
          subst hy
          have hI3 := xINV_ref hI0 hSW hKk hKp hkp h112 xu_eq (fun p hp => xu_ne hp rfl) hdd ygt hlc hal k177 hpa hnl hnm hMN
          obtain ⟨W, kM', be', en', wo', nu', op', mt, d', tmM', oaM', E9, B9, m177, -, -, -, -, -, -, -, mfr⟩ := hMN
          obtain ⟨pt, op1, ex, bs, sl, m, d, tm', oa', nmd, E', B', -, -, -, -, -, -, -, -, -, aDR, -, afr⟩ := hSW
          obtain ⟨-, -, fp', ep', ta', a57, -⟩ := aDR
          have g50 : f3 50 = xfc dd (xi fa') lc := (mfr 50 (by decide) (by decide) (by decide) (by decide) (by decide) (by decide) (by decide) (by decide) (by decide) (by decide) (by decide)).trans xu_eq
          have P3 : ∀ p, p ≠ 50 → p ≠ 53 → p ≠ 55 → p ≠ 56 → p ≠ 57 + 4 * nms.length → p ≠ 58 + 4 * nms.length → p ≠ 59 + 4 * nms.length → p ≠ 60 + 4 * nms.length → ¬ (109 ≤ p ∧ p ≤ 112) → ¬ (177 ≤ p ∧ p ≤ 188) → f3 p = f p := by
            intro p y1 y3 y4 y5 y6 y7 y8 y9 y10 y11
            exact (mfr p (by omega) (by omega) (by omega) (by omega) (by omega) (by omega) (by omega) (by omega) (by omega) (by omega) (by omega)).trans ((xu_ne y1 rfl).trans (afr p (by omega) (by omega) (by omega) (by omega) (by omega) (by omega) (by omega) (by omega) (by omega) (by omega) (by omega)))
          refine ⟨⟨n, cs, nms, bc, dp, tk0, K, G, R0, S, al, F, wy, hI3, ⟨fa', hfa, ⟨_, g50, rfl⟩, _, m177, rfl⟩, sCT_k hT h50 g50 (fun p y1 y2 => P3 p (by omega) (by omega) (by omega) (by omega) (by omega) (by omega) (by omega) (by omega) (by omega) (by omega)) (fun i hi => ⟨rfl, rfl⟩), sMT_xm hMT k177 m177 (fun p y1 y2 => P3 p (by omega) (by omega) (by omega) (by omega) (by omega) (by omega) (by omega) (by omega) (by omega) (by omega)), hH, ⟨sAC_k hA1 h57 ((mfr _ (by omega) (by omega) (by omega) (by omega) (by omega) (by omega) (by omega) (by omega) (by omega) (by omega) (by omega)).trans ((xu_ne (by omega) rfl).trans a57)) (fun i hi hne => P3 _ (by omega) (by omega) (by omega) (by omega) (by omega) (by omega) (by omega) (by omega) (by omega) (by omega)), sAD_fr hA2 (P3 198 (by decide) (by decide) (by decide) (by decide) (by omega) (by omega) (by omega) (by omega) (by decide) (by decide)), hA3, hA4⟩, hF4, sWC_fr hWC (P3 117 (by decide) (by decide) (by decide) (by decide) (by omega) (by omega) (by omega) (by omega) (by decide) (by decide)) (P3 121 (by decide) (by decide) (by decide) (by decide) (by omega) (by omega) (by omega) (by omega) (by decide) (by decide)), sWD_xm hWD k177 m177 (P3 199 (by decide) (by decide) (by decide) (by decide) (by omega) (by omega) (by omega) (by omega) (by decide) (by decide))⟩, _, m177, rfl⟩
        rcases hP with ⟨z9, hno, hz9, hMN⟩ | ⟨⟨b9, e9, hno⟩, -, hMN⟩
        · rw [hfu] at hno
          rcases hg' with ⟨hz, hy, hg'⟩ | ⟨-, -, ⟨b8, e8, hg'⟩, -⟩
          · rw [hg'] at hno
            cases hno
            obtain ⟨hA9, hc9⟩ := key _ _ (by omega) rfl hMN
            exact fin _ hA9 ⟨by omega, by rw [hz]; exact hc9, fun h => by omega⟩
          · rw [hg'] at hno; cases hno
        · rw [hfu] at hno
          rcases hg' with ⟨-, -, hg'⟩ | ⟨hz, hy, -, -⟩
          · rw [hg'] at hno; cases hno
          · obtain ⟨hA9, hc9⟩ := key _ _ (by omega) hy.symm hMN
            exact fin _ hA9 ⟨by omega, by rw [hz]; exact hc9, fun h => by omega⟩
  · obtain ⟨z, f', u', tm, oa, dd, lc, al, kp, e1, -⟩ := hq
    cases e1
