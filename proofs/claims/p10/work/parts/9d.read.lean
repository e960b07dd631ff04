/-! The class reads a text: the grammar's run. -/
def xtf (cs : List Int) (n p : Nat) : Int × Nat × Nat := if xskip xbl cs n p = n then (0, n, n) else if xlt (cs.getD (xskip xbl cs n p) 0) = true then (1, xskip xbl cs n p, xskip xlt cs n (xskip xbl cs n p)) else if xdg (cs.getD (xskip xbl cs n p) 0) = true then (2, xskip xbl cs n p, xskip xdg cs n (xskip xbl cs n p)) else (3, xskip xbl cs n p, xskip xbl cs n p + 1)
theorem xtf_eq {cs : List Int} {n p : Nat} {ki : Int} {s e : Nat} (h : xTK cs n p ki s e) : xtf cs n p = (ki, s, e) := by
  obtain ⟨h1, h2⟩ := h
  unfold xtf
  rw [← h1]
  rcases h2 with ⟨a, rfl, rfl⟩ | ⟨a, b, rfl, rfl⟩ | ⟨a, b, c, rfl, rfl⟩ | ⟨a, b, c, rfl, rfl⟩
  · rw [if_pos a, a]
  · rw [if_neg (by omega), if_pos b]
  · rw [if_neg (by omega), if_neg (by rw [b]; decide), if_pos c]
  · rw [if_neg (by omega), if_neg (by rw [b]; decide), if_neg (by rw [c]; decide)]
/-- every token but the end takes a character -/
theorem xTK_rg {cs : List Int} {n p : Nat} {ki : Int} {s e : Nat} (h : xTK cs n p ki s e) (hp : p ≤ n) : p ≤ s ∧ s ≤ n ∧ s ≤ e ∧ e ≤ n ∧ (0 ≤ ki ∧ ki ≤ 3) ∧ (ki ≠ 0 → s < e) ∧ (ki = 0 → s = n) := by
  obtain ⟨h1, h2⟩ := h
  have a1 : p ≤ s := by rw [h1]; exact xskip_ge
  have a2 : s ≤ n := by rw [h1]; exact xskip_le hp
  rcases h2 with ⟨a, rfl, rfl⟩ | ⟨a, b, rfl, rfl⟩ | ⟨a, b, c, rfl, rfl⟩ | ⟨a, b, c, rfl, rfl⟩
  · exact ⟨a1, a2, a2, Nat.le_refl _, by decide, fun h => absurd rfl h, fun _ => a⟩
  · have k1 := xskip_s (P := xlt) a b
    have k2 : s + 1 ≤ xskip xlt cs n (s + 1) := xskip_ge
    have k3 : xskip xlt cs n s ≤ n := xskip_le a2
    exact ⟨a1, a2, by omega, k3, by decide, fun _ => by omega, fun h => absurd h (by decide)⟩
  · have k1 := xskip_s (P := xdg) a c
    have k2 : s + 1 ≤ xskip xdg cs n (s + 1) := xskip_ge
    have k3 : xskip xdg cs n s ≤ n := xskip_le a2
    exact ⟨a1, a2, by omega, k3, by decide, fun _ => by omega, fun h => absurd h (by decide)⟩
  · exact ⟨a1, a2, by omega, by omega, by decide, fun _ => by omega, fun h => absurd h (by decide)⟩
def xtq (cs : List Int) (nms : List (List Int)) (bc dp : Nat → Int) (t : Int × Nat × Nat) (q : xA) : Option xA := xstep bc dp t.1 (if t.2.2 - t.2.1 > 1 then -1 else cs.getD t.2.1 0 - 48) (cs.getD t.2.1 0) (xfi (xwd cs t.2.1 t.2.2) selW 0) (xfi (xwd cs t.2.1 t.2.2) atW 0) (xfi (xwd cs t.2.1 t.2.2) nms 0) (xwd cs t.2.1 t.2.2).isNone q
def xfo (n : Nat) (r : Option (Int × Int)) : Int ⊕ (Int × Int) := match r with
  | none => .inl ((n : Nat) : Int)
  | some t => .inr t
def xgo (cs : List Int) (n : Nat) (nms : List (List Int)) (bc dp : Nat → Int) : Nat → Nat → xA → Int ⊕ (Int × Int)
  | 0, _, _ => .inl 0
  | k + 1, p, q => if (xtf cs n p).1 = 0 then xfo n (xfin q) else match xtq cs nms bc dp (xtf cs n p) q with
    | none => .inl (((xtf cs n p).2.1 : Nat) : Int)
    | some q' => xgo cs n nms bc dp k (xtf cs n p).2.2 q'
/-- a token's content -/
def xtc (K : List (Int × Int)) (G : Nat → List xBt) (cs : List Int) (nms : List (List Int)) (t : Int × Nat × Nat) (q : xA) (C : xC) : xC := xcst K G t.1 (if t.2.2 - t.2.1 > 1 then -1 else cs.getD t.2.1 0 - 48) (cs.getD t.2.1 0) (xfi (xwd cs t.2.1 t.2.2) selW 0) (xfi (xwd cs t.2.1 t.2.2) atW 0) (xfi (xwd cs t.2.1 t.2.2) nms 0) q C
/-- a text's content -/
def xgc (K : List (Int × Int)) (G : Nat → List xBt) (cs : List Int) (n : Nat) (nms : List (List Int)) (bc dp : Nat → Int) : Nat → Nat → xA → xC → xC
  | 0, _, _, C => C
  | k + 1, p, q, C => if (xtf cs n p).1 = 0 then (if q.1 = 6 then xcap K C else C) else match xtq cs nms bc dp (xtf cs n p) q with
    | none => (0, 0, [], [])
    | some q' => xgc K G cs n nms bc dp k (xtf cs n p).2.2 q' (xtc K G cs nms (xtf cs n p) q C)
theorem xcst_congr {K : List (Int × Int)} {G : Nat → List xBt} {ki di sg sl at' ol di2 sg2 sl2 at2 ol2 : Int} {q : xA} {C : xC} (h1 : ki = 1 → sl = sl2 ∧ at' = at2 ∧ ol = ol2) (h2 : ki = 2 → di = di2) (h3 : ki = 3 → sg = sg2) : xcst K G ki di sg sl at' ol q C = xcst K G ki di2 sg2 sl2 at2 ol2 q C := by
  by_cases k1 : ki = 1
  · obtain ⟨rfl, rfl, rfl⟩ := h1 k1
    subst k1
    unfold xcst xceos
    split <;> simp
  · by_cases k2 : ki = 2
    · have := h2 k2
      subst this
      subst k2
      unfold xcst xceos
      split <;> simp
    · by_cases k3 : ki = 3
      · have := h3 k3
        subst this
        subst k3
        unfold xcst xceos
        split <;> simp
      · unfold xcst xceos
        split <;> simp [k1, k2, k3]
theorem xstep_congr {bc dp : Nat → Int} {ki di sg sl at' ol di2 sg2 sl2 at2 ol2 : Int} {lg lg2 : Bool} {q : xA} (h1 : ki = 1 → sl = sl2 ∧ at' = at2 ∧ ol = ol2 ∧ lg = lg2) (h2 : ki = 2 → di = di2) (h3 : ki = 3 → sg = sg2) : xstep bc dp ki di sg sl at' ol lg q = xstep bc dp ki di2 sg2 sl2 at2 ol2 lg2 q := by
  by_cases k1 : ki = 1
  · obtain ⟨rfl, rfl, rfl, rfl⟩ := h1 k1
    subst k1
    unfold xstep xeos
    split <;> simp
  · by_cases k2 : ki = 2
    · have := h2 k2
      subst this
      subst k2
      unfold xstep xeos
      split <;> simp
    · by_cases k3 : ki = 3
      · have := h3 k3
        subst this
        subst k3
        unfold xstep xeos
        split <;> simp
      · unfold xstep xeos
        split <;> simp [k1, k2, k3]
theorem xstep_ne0 {bc dp : Nat → Int} {ki di sg sl at' ol : Int} {lg : Bool} {q q' : xA} (h : xstep bc dp ki di sg sl at' ol lg q = some q') : q'.1 ≠ 0 := by
  unfold xstep xeos at h
  split at h
  all_goals (repeat' split at h)
  all_goals first | (cases h; done) | (cases h; dsimp only; decide)
theorem xfL_rg {W : Int64} : ∀ (l : List Int) (i : Int), 0 ≤ i → xfL W l i ≤ i + l.length - 1 ∨ xfL W l i = -1 := by
  intro l
  induction l with
  | nil => intro i _; exact Or.inr rfl
  | cons p r ih =>
    intro i hi
    simp only [xfL, List.length_cons]
    split
    · omega
    · have := ih (i + 1) (by omega)
      omega
theorem xS_12 (wo : Int64) : xS wo ≤ 12 := by
  unfold xS
  rw [xix5]
  have := xfL_rg (W := wo) (selW.map fun w => xpr w.reverse) 0 (by decide)
  have e : (selW.map fun w => xpr w.reverse).length = 13 := rfl
  rw [e] at this
  omega
theorem xAt_6 (wo : Int64) : xAt wo ≤ 6 := by
  unfold xAt
  rw [xix6]
  have := xfL_rg (W := wo) (atW.map fun w => xpr w.reverse) 0 (by decide)
  have e : (atW.map fun w => xpr w.reverse).length = 7 := rfl
  rw [e] at this
  omega
theorem xwd_wo {cs : List Int} {n s : Nat} : xwo (xwd cs s (xskip xlt cs n s)) := by
  intro l hl
  unfold xwd at hl
  split at hl
  · cases hl
  · cases hl
    refine ⟨by simp [xds]; omega, fun d hd => ?_⟩
    obtain ⟨i, h1, rfl⟩ := List.mem_map.mp hd
    have h2 := xlt_iff.mp (xskip_in (P := xlt) (cs := cs) (n := n) (p := s) (j := s + i) (by omega) (by have := List.mem_range.mp h1; omega))
    omega
theorem xwd_L {cs : List Int} {s e : Nat} : (if e - s > 8 then 0 else xpk cs s (e - s)) = xwL (xwd cs s e) := by
  unfold xwd
  split
  · rfl
  · exact xpk_xpr cs s (e - s)
theorem xwd_ne {cs : List Int} {s e : Nat} (h : s < e) : xwd cs s e ≠ some [] := by
  unfold xwd
  split
  · intro h; cases h
  · intro h2
    have : (xds cs s (e - s)).length = 0 := by rw [Option.some.inj h2]; rfl
    simp [xds] at this
    omega
/-- the class's step is the grammar's -/
theorem xtk_C {cs : List Int} {n p s e : Nat} {ki di sg : Int} {wo : Int64} {nms : List (List Int)} {nm : Nat → Int64} (hp : p ≤ n) (ht : xTK cs n p ki s e) (hc : xTC cs ki s e wo di sg) (hw : ∀ w ∈ nms, xwf w) (hnm : ∀ i (h : i < nms.length), nm i = Int64.ofInt (xpr (nms[i]).reverse)) (h1 : ki = 1) : xS wo = xfi (xwd cs s e) selW 0 ∧ xAt wo = xfi (xwd cs s e) atW 0 ∧ xfn nm wo nms.length 0 = xfi (xwd cs s e) nms 0 ∧ decide (wo = 0) = (xwd cs s e).isNone := by
  have hr := xTK_rg ht hp
  have he : e = xskip xlt cs n s := by
    rcases ht.2 with ⟨a, rfl, rfl⟩ | ⟨a, b, rfl, rfl⟩ | ⟨a, b, c, rfl, rfl⟩ | ⟨a, b, c, rfl, rfl⟩
    · exact absurd h1 (by decide)
    · rfl
    · exact absurd h1 (by decide)
    · exact absurd h1 (by decide)
  have hwo : wo = Int64.ofInt (xwL (xwd cs s e)) := by rw [hc.1 h1, xwd_L]
  have hx : xwo (xwd cs s e) := by rw [he]; exact xwd_wo
  have hne := xwd_ne (cs := cs) (hr.2.2.2.2.2.1 (by omega))
  rw [hwo]
  refine ⟨xS_eq hx, xAt_eq hx, ?_, ?_⟩
  · have := xfn_eq hx hw hnm nms.length 0 rfl
    rw [List.drop_zero] at this
    exact this
  · cases hwd : xwd cs s e with
    | none =>
      rw [hwd] at hx hne
      simpa using (xw_0 hx hne).mpr rfl
    | some l =>
      rw [hwd] at hx hne
      simp only [Option.isNone_some, decide_eq_false_iff_not]
      intro h
      exact absurd ((xw_0 hx hne).mp h) (by simp)
theorem xtq_C {cs : List Int} {n p s e : Nat} {ki di sg : Int} {wo : Int64} {nms : List (List Int)} {nm : Nat → Int64} {bc dp : Nat → Int} {q : xA} (hp : p ≤ n) (ht : xTK cs n p ki s e) (hc : xTC cs ki s e wo di sg) (hw : ∀ w ∈ nms, xwf w) (hnm : ∀ i (h : i < nms.length), nm i = Int64.ofInt (xpr (nms[i]).reverse)) : xstep bc dp ki di sg (xS wo) (xAt wo) (xfn nm wo nms.length 0) (decide (wo = 0)) q = xtq cs nms bc dp (ki, s, e) q := by
  unfold xtq
  exact xstep_congr (fun h1 => xtk_C hp ht hc hw hnm h1) (fun h2 => hc.2.1 h2) (fun h3 => hc.2.2 h3)
theorem xtc_C {K : List (Int × Int)} {G : Nat → List xBt} {C : xC} {cs : List Int} {n p s e : Nat} {ki di sg : Int} {wo : Int64} {nms : List (List Int)} {nm : Nat → Int64} {q : xA} (hp : p ≤ n) (ht : xTK cs n p ki s e) (hc : xTC cs ki s e wo di sg) (hw : ∀ w ∈ nms, xwf w) (hnm : ∀ i (h : i < nms.length), nm i = Int64.ofInt (xpr (nms[i]).reverse)) : xcst K G ki di sg (xS wo) (xAt wo) (xfn nm wo nms.length 0) q C = xtc K G cs nms (ki, s, e) q C := by
  unfold xtc
  refine xcst_congr (fun h1 => ?_) (fun h2 => hc.2.1 h2) (fun h3 => hc.2.2 h3)
  obtain ⟨a, b, c, -⟩ := xtk_C hp ht hc hw hnm h1
  exact ⟨a, b, c⟩
theorem xs_58 {K : List (Int × Int)} {C : xC} {v0 : Value} {xs : List Int32} {u : Nat × Nat} {f0 f : Nat → zE} {c : Nat} {kp : Int} {nmd : Int64} {al : Value} {q : xA} (hc : c ≤ 12) (hsc : xSC f0 K c kp f nmd al q C) : xq v0 xs u 58 [(0, .ref 109)] f (fun r f' => f' 112 = f 112 ∧ ∃ q', q' = (if q.1 = 6 then (7, q.2.1, q.2.2.1, q.2.2.2.1, min (q.2.2.2.2.1 + 1) 17, q.2.2.2.2.2) else q) ∧ xSC f0 K c kp f' nmd al q' (if q.1 = 6 then xcap K C else C) ∧ r = some (xi (if q'.1 = 7 ∧ q'.2.1 = 0 then 1 else 0))) := by
  unfold xq
  have hsc0 := hsc
  obtain ⟨ex, op, tm, oa, m, d⟩ := q
  obtain ⟨pt, bs, sl, B9, hpt, hbs, hsl, h53, h109, h110, h111, hbr, hd, hPT, hct, hfr⟩ := hsc
  dsimp only at h109 h110 h111 hd hsl
  have hbr0 := hbr
  obtain ⟨b1, b2, b3, b4, b5, b6, b7, b8, b9, b10⟩ := hbr0
  dsimp only at b1 b2 b3 b4 b5 b6 b7 b8 b9 b10
  have hd0 := hd
  obtain ⟨hm1, hm2, fp, ep, ta, h0, h1, h2, h3, hty⟩ := hd0
  dsimp only
  refine x_aload_n rfl rfl ?_
  refine x_getfield rfl (by decide) h109 rfl ?_
  refine x_bipush rfl (by decide) ?_
  refine x_cne (t := 33) rfl rfl ⟨by omega, by omega⟩ ⟨by omega, by omega⟩ (fun hb6 => ?_) (fun hb6 => ?_)
  · refine x_aload_n rfl rfl ?_
    refine x_getfield rfl (by decide) h109 rfl ?_
    refine x_bipush rfl (by decide) ?_
    refine x_cne (t := 53) rfl rfl ⟨by omega, by omega⟩ ⟨by omega, by omega⟩ (fun hb39 => ?_) (fun hb39 => ?_)
    · refine x_iconst rfl ?_
      refine x_ireturn rfl (Or.inr (Or.inl ⟨rfl, by decide⟩)) ⟨_, _, rfl, rfl, ?_⟩
      refine ⟨rfl, _, rfl, ?_, ?_⟩
      · rw [if_neg (by omega), if_neg (show ¬ ex = 6 by omega)]; exact hsc0
      · rw [if_neg (by omega : ¬ ex = 6)]; dsimp only; rw [if_neg (by omega)]
    · refine x_aload_n rfl rfl ?_
      refine x_getfield rfl (by decide) h109 rfl ?_
      refine x_ifne (t := 53) rfl rfl ⟨by omega, by omega⟩ (fun hb46 => ?_) (fun hb46 => ?_)
      · refine x_iconst rfl ?_
        refine x_ireturn rfl (Or.inr (Or.inl ⟨rfl, by decide⟩)) ⟨_, _, rfl, rfl, ?_⟩
        refine ⟨rfl, _, rfl, ?_, ?_⟩
        · rw [if_neg (by omega), if_neg (show ¬ ex = 6 by omega)]; exact hsc0
        · rw [if_neg (by omega : ¬ ex = 6)]; dsimp only; rw [if_neg (by omega)]
      · refine x_iconst rfl ?_
        refine x_goto (t := 54) rfl rfl ?_
        refine x_ireturn rfl (Or.inr (Or.inl ⟨rfl, by decide⟩)) ⟨_, _, rfl, rfl, ?_⟩
        refine ⟨rfl, _, rfl, ?_, ?_⟩
        · rw [if_neg (by omega), if_neg (show ¬ ex = 6 by omega)]; exact hsc0
        · rw [if_neg (by omega : ¬ ex = 6)]; dsimp only; rw [if_pos (by omega)]
  · refine x_aload_n rfl rfl ?_
    refine x_getfield rfl (by decide) h109 rfl ?_
    refine x_aload_n rfl rfl ?_
    refine x_getfield rfl (by decide) h109 rfl ?_
    refine x_aload_n rfl rfl ?_
    refine x_getfield rfl (by decide) h109 rfl ?_
    refine x_getfield rfl (by decide) h53 rfl ?_
    refine x_call [_, _, _] rfl rfl (show (0 : Nat) ≤ 8 from by decide) (show (3 : Nat) ≤ 3 from by decide) (x_rcv (by omega) h0) (xs_53 hc hd hbs hpt) (fun r' f' hP => ?_)
    obtain ⟨rfl, hQ1, hQ2⟩ := hP
    refine x_aload_n rfl rfl ?_
    refine x_bipush rfl (by decide) ?_
    refine x_putfield rfl (by decide) ((hQ2 109 (by omega) (by omega) (by omega) (by omega)).trans h109) (show (7 : Nat) < 10 from by decide) rfl ?_
    refine x_aload_n rfl rfl ?_
    refine x_getfield rfl (by decide) xu_eq rfl ?_
    refine x_bipush rfl (by decide) ?_
    refine x_cne (t := 53) rfl rfl ⟨by omega, by omega⟩ ⟨by omega, by omega⟩ (fun hb39 => ?_) (fun hb39 => ?_)
    · refine x_iconst rfl ?_
      refine x_ireturn rfl (Or.inr (Or.inl ⟨rfl, by decide⟩)) ⟨_, _, rfl, rfl, ?_⟩
      exfalso; omega
    · refine x_aload_n rfl rfl ?_
      refine x_getfield rfl (by decide) xu_eq rfl ?_
      refine x_ifne (t := 53) rfl rfl ⟨by omega, by omega⟩ (fun hb46 => ?_) (fun hb46 => ?_)
      · refine x_iconst rfl ?_
        refine x_ireturn rfl (Or.inr (Or.inl ⟨rfl, by decide⟩)) ⟨_, _, rfl, rfl, ?_⟩
        refine ⟨xu_ne (by decide) (hQ2 112 (by omega) (by omega) (by omega) (by omega)), _, rfl, ?_, ?_⟩
        · rw [if_pos (by omega), if_pos (show ex = 6 by omega)]
          refine ⟨pt, bs, sl, _, hpt, hbs, ⟨hsl.1, hsl.2.1, fun h => by simp at h⟩, xu_ne (by decide) ((hQ2 53 (by omega) (by omega) (by omega) (by omega)).trans h53), xu_eq, xu_ne (by decide) ((hQ2 110 (by omega) (by omega) (by omega) (by omega)).trans h110), xu_ne (by decide) ((hQ2 111 (by omega) (by omega) (by omega) (by omega)).trans h111), ?_, xDR_mv (fun p p1 p2 => xu_ne (by omega) rfl) hQ1, xPT_mv (xu_ne (by decide) (hQ2 55 (by omega) (by omega) (by omega) (by omega))) (xu_ne (by decide) (hQ2 56 (by omega) (by omega) (by omega) (by omega))) hPT, ?_, fun p a1 a2 a3 a4 a5 a6 a7 a8 a9 a10 a11 => xu_ne a8 ((hQ2 p a4 a5 a6 a7).trans (hfr p a1 a2 a3 a4 a5 a6 a7 a8 a9 a10 a11))⟩
          · refine ⟨by dsimp only; decide, b2, fun h => by simp at h, b4, b5, b6, b7, fun j hj => ?_, by dsimp only; omega, b10⟩
            dsimp only at hj ⊢
            have := b8 j hj
            omega
          · refine ⟨fun h => by dsimp only at h; omega, fun hl => ⟨fun _ h => by dsimp only at h; omega, fun hm => ?_⟩⟩
            have hl2 : (K ++ C.2.2.1).length ≤ 208 := hl
            have hpl : ((K ++ C.2.2.1).length : Int) = pt := by
              obtain ⟨se, at', -, -, -, -, -, -, -, -, h⟩ := hPT
              exact (h hl2).1
            dsimp only at hm
            show B9 ++ [(bs, pt, -1)] = C.2.2.2 ++ [(C.1, ((K ++ C.2.2.1).length : Int), -1)]
            rw [← (hct.2 hl2).2 (show m ≤ 16 by omega), ← (hct.2 hl2).1 (show 4 ≤ ex by omega) (show ex ≤ 6 by omega), hpl]
        · rw [if_pos (by omega : ex = 6)]; dsimp only; rw [if_neg (by omega)]
      · refine x_iconst rfl ?_
        refine x_goto (t := 54) rfl rfl ?_
        refine x_ireturn rfl (Or.inr (Or.inl ⟨rfl, by decide⟩)) ⟨_, _, rfl, rfl, ?_⟩
        refine ⟨xu_ne (by decide) (hQ2 112 (by omega) (by omega) (by omega) (by omega)), _, rfl, ?_, ?_⟩
        · rw [if_pos (by omega), if_pos (show ex = 6 by omega)]
          refine ⟨pt, bs, sl, _, hpt, hbs, ⟨hsl.1, hsl.2.1, fun h => by simp at h⟩, xu_ne (by decide) ((hQ2 53 (by omega) (by omega) (by omega) (by omega)).trans h53), xu_eq, xu_ne (by decide) ((hQ2 110 (by omega) (by omega) (by omega) (by omega)).trans h110), xu_ne (by decide) ((hQ2 111 (by omega) (by omega) (by omega) (by omega)).trans h111), ?_, xDR_mv (fun p p1 p2 => xu_ne (by omega) rfl) hQ1, xPT_mv (xu_ne (by decide) (hQ2 55 (by omega) (by omega) (by omega) (by omega))) (xu_ne (by decide) (hQ2 56 (by omega) (by omega) (by omega) (by omega))) hPT, ?_, fun p a1 a2 a3 a4 a5 a6 a7 a8 a9 a10 a11 => xu_ne a8 ((hQ2 p a4 a5 a6 a7).trans (hfr p a1 a2 a3 a4 a5 a6 a7 a8 a9 a10 a11))⟩
          · refine ⟨by dsimp only; decide, b2, fun h => by simp at h, b4, b5, b6, b7, fun j hj => ?_, by dsimp only; omega, b10⟩
            dsimp only at hj ⊢
            have := b8 j hj
            omega
          · refine ⟨fun h => by dsimp only at h; omega, fun hl => ⟨fun _ h => by dsimp only at h; omega, fun hm => ?_⟩⟩
            have hl2 : (K ++ C.2.2.1).length ≤ 208 := hl
            have hpl : ((K ++ C.2.2.1).length : Int) = pt := by
              obtain ⟨se, at', -, -, -, -, -, -, -, -, h⟩ := hPT
              exact (h hl2).1
            dsimp only at hm
            show B9 ++ [(bs, pt, -1)] = C.2.2.2 ++ [(C.1, ((K ++ C.2.2.1).length : Int), -1)]
            rw [← (hct.2 hl2).2 (show m ≤ 16 by omega), ← (hct.2 hl2).1 (show 4 ≤ ex by omega) (show ex ≤ 6 by omega), hpl]
        · rw [if_pos (by omega : ex = 6)]; dsimp only; rw [if_pos (by omega)]
theorem xs_5 {B : List xBt} {v0 : Value} {xs : List Int32} {u : Nat × Nat} {f : Nat → zE} {c : Nat} {kp pt : Int} {nmd : Int64} {m d : Int} {al : Value} (hc : c ≤ 12) (h53 : f 53 = xbo (c : Nat) kp pt) (h54 : f 54 = .inr (.inr (.inr (3, xfl)))) (hd : xDR B c f nmd m d al) : xq v0 xs u 5 [(0, .ref 53)] f (fun r f' => r = some (.ref (57 + 4 * c)) ∧ f' 53 = xbo (c : Nat) kp kp ∧ xDR [] c f' nmd 0 1 al ∧ ∀ p, p ≠ 53 → p ≠ 57 + 4 * c → p ≠ 58 + 4 * c → p ≠ 59 + 4 * c → p ≠ 60 + 4 * c → f' p = f p) := by
  unfold xq
  have hd0 := hd
  obtain ⟨hm1, hm2, fp, ep, ta, h0, h1, h2, h3, hty⟩ := hd0
  refine x_aload_n rfl rfl ?_
  refine x_aload_n rfl rfl ?_
  refine x_getfield rfl (by decide) h53 rfl ?_
  refine x_putfield rfl (by decide) h53 (show (5 : Nat) < 6 from by decide) rfl ?_
  refine x_aload_n rfl rfl ?_
  refine x_getfield rfl (by decide) xu_eq rfl ?_
  refine x_aload_n rfl rfl ?_
  refine x_getfield rfl (by decide) xu_eq rfl ?_
  refine x_aaload rfl (by decide) (xu_ne (by decide) h54) ⟨by omega, show ((c : Nat) : Int) < (13 : Nat) by omega⟩ (show (13 : Nat) ≤ 5000 by decide) (by rw [Int.toNat_natCast]; exact xfl_at (by omega)) ?_
  refine x_call [_] rfl rfl (show (0 : Nat) ≤ 8 from by decide) (show (1 : Nat) ≤ 1 from by decide) (x_rcv (by omega) (xu_ne (by omega) h0)) (xs_4 hc (xDR_mv (fun p p1 p2 => xu_ne (by omega) rfl) hd)) (fun r' f' hP => ?_)
  obtain ⟨rfl, hQ1, hQ2⟩ := hP
  refine x_aload_n rfl rfl ?_
  refine x_getfield rfl (by decide) ((hQ2 53 (by omega) (by omega) (by omega) (by omega)).trans xu_eq) rfl ?_
  refine x_aload_n rfl rfl ?_
  refine x_getfield rfl (by decide) ((hQ2 53 (by omega) (by omega) (by omega) (by omega)).trans xu_eq) rfl ?_
  refine x_aaload rfl (by decide) ((hQ2 54 (by omega) (by omega) (by omega) (by omega)).trans (xu_ne (by decide) h54)) ⟨by omega, show ((c : Nat) : Int) < (13 : Nat) by omega⟩ (show (13 : Nat) ≤ 5000 by decide) (by rw [Int.toNat_natCast]; exact xfl_at (by omega)) ?_
  refine x_areturn rfl ⟨_, _, rfl, rfl, ?_⟩
  exact ⟨rfl, (hQ2 53 (by omega) (by omega) (by omega) (by omega)).trans xu_eq, hQ1, fun p hp a1 a2 a3 a4 => (hQ2 p a1 a2 a3 a4).trans (xu_ne hp rfl)⟩
theorem xs_60e {K : List (Int × Int)} {C : xC} {v0 : Value} {xs : List Int32} {u : Nat × Nat} {f0 f : Nat → zE} {c n : Nat} {cs : List Int} {kp : Int} {nmd : Int64} {al : Value} {q : xA} {lv : zL} (hc : c ≤ 12) (hn : n ≤ 100) (h51 : f0 51 = .inl (1, [.ref 52, xi (n : Nat)])) (hsc : xSC f0 K c kp f nmd al q C) (h112 : ∃ (ki st en : Int) (wo : Int64) (di sg : Int), f 112 = xtk ki st en wo di sg) (hnm : q.1 ≠ 0 → nmd = (Int64.ofInt (xwL (xwd cs (xtf cs n 0).2.1 (xtf cs n 0).2.2)))) (h0 : zlv lv 0 = some (.ref 109)) : xz v0 xs u (fun o X => ∃ r f', o = .inl r ∧ X = (xh f', u) ∧ (fun r f' => (∃ (ki st en : Int) (wo : Int64) (di sg : Int), f' 112 = xtk ki st en wo di sg) ∧ ((∃ (b e : Int) (tm' oa' : List Int), xfo n (xfin q) = .inr (b, e) ∧ r = some (xi (-1)) ∧ b ≤ 16 ∧ e ≤ 6 ∧ xSC f0 K c kp f' (Int64.ofInt (xwL (xwd cs (xtf cs n 0).2.1 (xtf cs n 0).2.2))) al (7, 0, tm', oa', b, e) (if q.1 = 6 then xcap K C else C)) ∨ (∃ z : Int, xfo n (xfin q) = .inl z ∧ r = some (xi z) ∧ (0 ≤ z ∧ z ≤ 100) ∧ xSW f0 K c kp f' al))) r f') 60 77 lv [] f := by
  have hsc0 := hsc
  obtain ⟨ex, op, tm, oa, m, d⟩ := q
  obtain ⟨pt, bs, sl, B9, hpt, hbs, hsl, h53, h109, h110, h111, hbr, hd, hPT, hct, hfr⟩ := hsc
  dsimp only at h109
  refine x_aload_n rfl h0 ?_
  refine x_call [_] rfl rfl (show (0 : Nat) ≤ 8 from by decide) (show (1 : Nat) ≤ 1 from by decide) (x_rcv (by decide) h109) (xs_58 hc hsc0) (fun r' f' hP => ?_)
  obtain ⟨hk, q2, hq2, hsc2, rfl⟩ := hP
  have x112 : ∃ (ki st en : Int) (wo : Int64) (di sg : Int), f' 112 = xtk ki st en wo di sg := by
    obtain ⟨x1, x2, x3, x4, x5, x6, x7⟩ := h112
    exact ⟨x1, x2, x3, x4, x5, x6, hk.trans x7⟩
  have hsc3 := hsc2
  obtain ⟨ex2, op2, tm2, oa2, m2, d2⟩ := q2
  obtain ⟨pt2, bs2, sl2, B92, hpt2, hbs2, hsl2, g53, g109, g110, g111, gbr, gd, gPT, gct, gfr⟩ := hsc2
  dsimp only at g109 gd gbr ⊢
  have hb10 := gbr.2.2.2.2.2.2.2.2.2
  dsimp only at hb10
  have g51 : f' 51 = .inl (1, [.ref 52, xi (n : Nat)]) := (gfr 51 (by decide) (by decide) (by decide) (by omega) (by omega) (by omega) (by omega) (by decide) (by decide) (by decide) (by decide)).trans h51
  have hfin : xfin (ex, op, tm, oa, m, d) = (if ex2 = 7 ∧ op2 = 0 then (if m2 ≤ 16 ∧ d2 ≤ 6 then some (m2, d2) else none) else none) := by
    unfold xfin
    dsimp only at hq2 ⊢
    by_cases h6 : ex = 6
    · rw [if_pos h6] at hq2
      cases hq2
      simp [h6]
    · rw [if_neg h6] at hq2
      cases hq2
      simp [h6]
  rw [hfin]
  by_cases hw : ex2 = 7 ∧ op2 = 0
  · rw [if_pos hw, if_pos hw]
    refine x_ifeq (t := 98) rfl rfl (by decide) (fun h => absurd h (by decide)) (fun _ => ?_)
    refine x_aload_n rfl h0 ?_
    refine x_getfield rfl (by decide) g109 rfl ?_
    have gd0 := gd
    obtain ⟨hm1, hm2, fp, ep, ta, k0, k1, k2, k3, hty⟩ := gd0
    refine x_call [_] rfl rfl (show (0 : Nat) ≤ 8 from by decide) (show (1 : Nat) ≤ 1 from by decide) (x_rcv (by omega) k0) (xs_59 hc (by omega) gd) (fun r' f' hP => ?_)
    obtain ⟨rfl, rfl⟩ := hP
    by_cases hl : m2 ≤ 16 ∧ d2 ≤ 6
    · rw [if_pos hl, if_neg (show ¬ (16 < m2 ∨ 6 < d2) by omega)]
      refine x_ifne (t := 98) rfl rfl (by decide) (fun h => absurd rfl h) (fun _ => ?_)
      refine x_iconst rfl ?_
      refine x_goto (t := 105) rfl rfl ?_
      refine x_ireturn rfl (Or.inl rfl) ⟨_, _, rfl, rfl, ?_⟩
      obtain ⟨rfl, rfl⟩ := hw
      refine ⟨x112, Or.inl ⟨m2, d2, tm2, oa2, rfl, rfl, hl.1, hl.2, ?_⟩⟩
      have he : nmd = (Int64.ofInt (xwL (xwd cs (xtf cs n 0).2.1 (xtf cs n 0).2.2))) := hnm (by
        intro h0
        dsimp only at h0 hq2
        rw [if_neg (by omega)] at hq2
        cases hq2
        exact absurd h0 (by decide))
      rw [← he]; exact hsc3
    · rw [if_neg hl, if_pos (show 16 < m2 ∨ 6 < d2 by omega)]
      refine x_ifne (t := 98) rfl rfl (by decide) (fun _ => ?_) (fun h => absurd h (by decide))
      refine x_aload_n rfl h0 ?_
      refine x_getfield rfl (by decide) g109 rfl ?_
      refine x_getfield rfl (by decide) g51 rfl ?_
      refine x_ireturn rfl (Or.inl rfl) ⟨_, _, rfl, rfl, ?_⟩
      exact ⟨x112, Or.inr ⟨_, rfl, rfl, by omega, xSC_W hsc3⟩⟩
  · rw [if_neg hw, if_neg hw]
    refine x_ifeq (t := 98) rfl rfl (by decide) (fun _ => ?_) (fun h => absurd rfl h)
    refine x_aload_n rfl h0 ?_
    refine x_getfield rfl (by decide) g109 rfl ?_
    refine x_getfield rfl (by decide) g51 rfl ?_
    refine x_ireturn rfl (Or.inl rfl) ⟨_, _, rfl, rfl, ?_⟩
    exact ⟨x112, Or.inr ⟨_, rfl, rfl, by omega, xSC_W hsc3⟩⟩
theorem xs_60l {K : List (Int × Int)} {G : Nat → List xBt} {v0 : Value} {xs : List Int32} {u : Nat × Nat} {f0 : Nat → zE} {c n : Nat} {cs : List Int} {nms : List (List Int)} {kp : Int} {al : Value} {nm : Nat → Int64} {bc dp : Nat → Int} {av : Nat → Value} (hv : v0 = .null ∨ v0 = .ref 49) (hc : c ≤ 12) (hn : n ≤ 100) (hl : cs.length = 100) (hcs : ∀ j : Nat, 0 ≤ cs.getD j 0 ∧ cs.getD j 0 ≤ 126) (h51 : f0 51 = .inl (1, [.ref 52, xi (n : Nat)])) (h52 : f0 52 = xr 1 cs) (h54 : f0 54 = .inr (.inr (.inr (3, xfl)))) (hk0 : ∀ i, i < c → xKF (G i) i f0 (nm i) (bc i) (dp i) (av i)) (hdp : ∀ i, i < c → 1 ≤ dp i ∧ dp i ≤ 6) (hcl : nms.length = c) (hw : ∀ w ∈ nms, xwf w) (hnmi : ∀ i (h : i < nms.length), nm i = Int64.ofInt (xpr (nms[i]).reverse)) : ∀ (w i p : Nat) (f : Nat → zE) (lv : zL) (q : xA) (C : xC) (nmd : Int64) (ki st : Int) (wo : Int64) (di sg : Int), w + i = 100 → i ≤ p → p ≤ n → zlv lv 0 = some (.ref 109) → zlv lv 1 = some (xi (i : Nat)) → f 112 = xtk ki st (p : Nat) wo di sg → xSC f0 K c kp f nmd al q C → (q.1 = 0 → p = 0) → (q.1 ≠ 0 → nmd = (Int64.ofInt (xwL (xwd cs (xtf cs n 0).2.1 (xtf cs n 0).2.2)))) → xz v0 xs u (fun o X => ∃ r f', o = .inl r ∧ X = (xh f', u) ∧ (fun r f' => (∃ (ki st en : Int) (wo : Int64) (di sg : Int), f' 112 = xtk ki st en wo di sg) ∧ ((∃ (b e : Int) (tm' oa' : List Int), xgo cs n nms bc dp (w + 1) p q = .inr (b, e) ∧ r = some (xi (-1)) ∧ b ≤ 16 ∧ e ≤ 6 ∧ xSC f0 K c kp f' (Int64.ofInt (xwL (xwd cs (xtf cs n 0).2.1 (xtf cs n 0).2.2))) al (7, 0, tm', oa', b, e) (xgc K G cs n nms bc dp (w + 1) p q C)) ∨ (∃ z : Int, xgo cs n nms bc dp (w + 1) p q = .inl z ∧ r = some (xi z) ∧ (0 ≤ z ∧ z ≤ 100) ∧ xSW f0 K c kp f' al))) r f') 60 30 lv [] f := by
  intro w
  induction w with
  | zero =>
    intro i p f lv q C nmd ki st wo di sg hw1 hip hp l0 l1 h112 hsc hq0 hnm
    have e0 : xtf cs n p = (0, n, n) := by unfold xtf; rw [if_pos (by rw [show p = n by omega]; exact xskip_e (by omega))]
    have e1 : xgo cs n nms bc dp 1 p q = xfo n (xfin q) := by rw [xgo, e0]; rfl
    have e2 : xgc K G cs n nms bc dp 1 p q C = if q.1 = 6 then xcap K C else C := by rw [xgc, e0]; rfl
    rw [Nat.zero_add, e1, e2]
    refine x_iload_n rfl l1 ?_
    refine x_bipush rfl (by decide) ?_
    refine x_cge (t := 77) rfl rfl ⟨by omega, by omega⟩ (by decide) (fun _ => ?_) (fun h => by omega)
    exact xs_60e hc hn h51 hsc ⟨_, _, _, _, _, _, h112⟩ hnm l0
  | succ w ih =>
    intro i p f lv q C nmd ki st wo di sg hw1 hip hp l0 l1 h112 hsc hq0 hnm
    have hsc0 := hsc
    obtain ⟨pt, bs, sl, B9, hpt, hbs, hsl, h53, h109, h110, h111, hbr, hd, hPT, hct, hfr⟩ := hsc
    have f51 := (hfr 51 (by decide) (by decide) (by decide) (by omega) (by omega) (by omega) (by omega) (by decide) (by decide) (by decide) (by decide)).trans h51
    have f52 := (hfr 52 (by decide) (by decide) (by decide) (by omega) (by omega) (by omega) (by omega) (by decide) (by decide) (by decide) (by decide)).trans h52
    refine x_iload_n rfl l1 ?_
    refine x_bipush rfl (by decide) ?_
    refine x_cge (t := 77) rfl rfl ⟨by omega, by omega⟩ (by decide) (fun h => by omega) (fun _ => ?_)
    refine x_aload_n rfl l0 ?_
    refine x_getfield rfl (by decide) h109 rfl ?_
    refine x_call [_] rfl rfl (show (0 : Nat) ≤ 8 from by decide) (show (1 : Nat) ≤ 1 from by decide) (x_rcv (by decide) h112) (xs_30 f51 f52 hn hl hcs hp h112) (fun r' f' hP => ?_)
    obtain ⟨rfl, ⟨ki2, s, e, wo2, di2, sg2, g112, hT, hC⟩, hf2⟩ := hP
    have hr := xTK_rg hT hp
    have et := xtf_eq hT
    have hsc2 : xSC f0 K c kp f' nmd al q C := ⟨pt, bs, sl, B9, hpt, hbs, hsl, (hf2 53 (by decide)).trans h53, (hf2 109 (by decide)).trans h109, (hf2 110 (by decide)).trans h110, (hf2 111 (by decide)).trans h111, hbr, xDR_mv (fun p p1 p2 => hf2 p (by omega)) hd, xPT_mv (hf2 55 (by decide)) (hf2 56 (by decide)) hPT, hct, fun p a1 a2 a3 a4 a5 a6 a7 a8 a9 a10 a11 => (hf2 p a11).trans (hfr p a1 a2 a3 a4 a5 a6 a7 a8 a9 a10 a11)⟩
    refine x_aload_n rfl l0 ?_
    refine x_getfield rfl (by decide) ((hf2 109 (by decide)).trans h109) rfl ?_
    refine x_getfield rfl (by decide) g112 rfl ?_
    refine x_ifne (t := 56) rfl rfl ⟨by omega, by omega⟩ (fun hne => ?_) (fun he => ?_)
    · have hch := hcs s
      have hdg0 : ki2 = 2 → 48 ≤ cs.getD s 0 := fun h => by
        rcases hT.2 with ⟨-, h1, -⟩ | ⟨-, -, h1, -⟩ | ⟨-, -, h1, -⟩ | ⟨-, -, -, h1, -⟩
        · omega
        · omega
        · exact (xdg_iff.mp h1).1
        · omega
      have hdig : ki2 = 2 → -1 ≤ di2 ∧ di2 ≤ 100 := fun h => by have := hdg0 h; rw [hC.2.1 h]; split <;> omega
      have hsig : ki2 = 3 → 0 ≤ sg2 ∧ sg2 ≤ 65535 := fun h => by rw [hC.2.2 h]; omega
      have hnew : q.1 = 0 → wo2 = (Int64.ofInt (xwL (xwd cs (xtf cs n 0).2.1 (xtf cs n 0).2.2))) ∨ ki2 ≠ 1 := fun h0 => by
        by_cases h1 : ki2 = 1
        · left
          have hp0 := hq0 h0
          subst hp0
          rw [et]
          dsimp only
          rw [hC.1 h1, xwd_L]
        · right; exact h1
      refine x_aload_n rfl l0 ?_
      refine x_call [_] rfl rfl (show (0 : Nat) ≤ 8 from by decide) (show (1 : Nat) ≤ 1 from by decide) (x_rcv (by decide) ((hf2 109 (by decide)).trans h109)) (xs_57 hv hc h54 hk0 hdp hsc2 g112 (by omega) hsig hdig (xS_12 wo2) (xAt_6 wo2)) (fun r' f2 hP => ?_)
      have hx := xtq_C (q := q) (bc := bc) (dp := dp) hp hT hC hw hnmi
      have hy := xtc_C (K := K) (G := G) (C := C) (q := q) hp hT hC hw hnmi
      rw [hcl] at hx hy
      rw [hx, hy] at hP
      have hgo : xgo cs n nms bc dp (w + 1 + 1) p q = (match xtq cs nms bc dp (ki2, s, e) q with
        | none => .inl ((s : Nat) : Int)
        | some q' => xgo cs n nms bc dp (w + 1) e q') := by
        rw [xgo, et]
        dsimp only
        rw [if_neg hne]
      have hgc : xgc K G cs n nms bc dp (w + 1 + 1) p q C = (match xtq cs nms bc dp (ki2, s, e) q with
        | none => (0, 0, [], [])
        | some q' => xgc K G cs n nms bc dp (w + 1) e q' (xtc K G cs nms (ki2, s, e) q C)) := by
        rw [xgc, et]
        dsimp only
        rw [if_neg hne]
      rcases hP with ⟨q2, e1, rfl, hsc3, hk⟩ | ⟨e1, rfl, hsw, hk⟩
      · refine x_ifne (t := 71) rfl rfl (by decide) (fun _ => ?_) (fun h => absurd h (by decide))
        rw [hgo, hgc, e1]
        dsimp only
        refine x_iinc rfl l1 (show (1 : Nat) < 2 from by decide) ?_
        refine x_goto (t := 30) rfl rfl ?_
        have hs2 := hr.2.2.2.2.2.1 hne
        refine ih (i + 1) e f2 _ q2 _ _ ki2 _ wo2 di2 sg2 (by omega) (by omega) hr.2.2.2.1 (xst_ne (by decide) l0 (Or.inl rfl)) xst_eq (hk.trans g112) hsc3 (fun h => ?_) (fun _ => ?_)
        · have e2 := e1
          unfold xtq at e2
          exact absurd h (xstep_ne0 e2)
        · by_cases h0 : q.1 = 0
          · rw [if_pos h0]
            rcases hnew h0 with h | h
            · exact h
            · exfalso
              obtain ⟨ex, op, tm, oa, m, d⟩ := q
              dsimp only at h0
              subst h0
              unfold xtq at e1
              simp only [xstep] at e1
              rw [if_neg (fun hh => h hh.1)] at e1
              cases e1
          · rw [if_neg h0]; exact hnm h0
      · refine x_ifne (t := 71) rfl rfl (by decide) (fun h => absurd rfl h) (fun _ => ?_)
        rw [hgo, hgc, e1]
        dsimp only
        have hsw0 := hsw
        obtain ⟨pt3, op3, ex3, bs3, sl3, m3, d3, tm3, oa3, nmd3, E3, B3, -, -, k109, -⟩ := hsw0
        refine x_aload_n rfl l0 ?_
        refine x_getfield rfl (by decide) k109 rfl ?_
        refine x_getfield rfl (by decide) (hk.trans g112) rfl ?_
        refine x_ireturn rfl (Or.inl rfl) ⟨_, _, rfl, rfl, ?_⟩
        exact ⟨⟨_, _, _, _, _, _, hk.trans g112⟩, Or.inr ⟨_, rfl, rfl, by omega, hsw⟩⟩
    · refine x_goto (t := 77) rfl rfl ?_
      have e1 : xgo cs n nms bc dp (w + 1 + 1) p q = xfo n (xfin q) := by rw [xgo, et]; dsimp only; rw [if_pos he]
      have e2 : xgc K G cs n nms bc dp (w + 1 + 1) p q C = if q.1 = 6 then xcap K C else C := by rw [xgc, et]; dsimp only; rw [if_pos he]
      rw [e1, e2]
      exact xs_60e hc hn h51 hsc2 ⟨_, _, _, _, _, _, g112⟩ hnm l0
