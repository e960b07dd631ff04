section
/-! The class's state of dancing; perform. -/
def sCT (f : Nat → zE) (K : List (Int × Int)) (G : Nat → List xBt) (S : sS) : Prop := (∃ lf : Value, f 50 = xfc (xi (S.2.1.length : Nat)) lf (xi S.2.2)) ∧ (∃ pl : List Int, f 175 = xr 0 pl ∧ pl.length = 8 ∧ sRL pl 0 S.1) ∧ S.2.1.length ≤ 24 ∧ ∀ i, i < S.2.1.length → f (123 + 2 * i) = .inl (9, [.ref (123 + 2 * i + 1), xi ((G (S.2.1.getD i sH0).1).length : Nat)]) ∧ ∃ l : List Int, f (123 + 2 * i + 1) = xr 0 l ∧ sTR l (sbt K (G (S.2.1.getD i sH0).1)) (S.2.1.getD i sH0).2.1 (S.2.1.getD i sH0).2.2 (G (S.2.1.getD i sH0).1).length
/-- a method of the class: its answer or its throw, and its state -/
def sCQ (f : Nat → zE) (u : Nat × Nat) (K : List (Int × Int)) (G : Nat → List xBt) (ex : Int → Nat) (R : Int × Int × sS) (o : zO) (X : zX) : Prop := ∃ f' : Nat → zE, ((R.1 = 0 ∧ o = .inl (some (xi R.2.1)) ∧ X = (xh f', u)) ∨ (R.1 ≠ 0 ∧ o = .inr (ex R.1) ∧ X = (xh f', u.1 + 1, u.2 + 6))) ∧ sCT f' K G R.2.2 ∧ ∀ q, q ≠ 50 → q ≠ 115 → q ≠ 116 → ¬ (123 ≤ q ∧ q ≤ 176) → f' q = f q
def exD (k : Int) : Nat := if k = 1 then 100 else 101
def exU (k : Int) : Nat := if k = 1 then 101 else 101
def exW (k : Int) : Nat := if k = 1 then 100 else 100
def exS (k : Int) : Nat := if k = 1 then 100 else 102
theorem sCT_f {f f' : Nat → zE} {K : List (Int × Int)} {G : Nat → List xBt} {S : sS} (h : sCT f K G S) (h50 : f' 50 = f 50) (hfr : ∀ q, 123 ≤ q → q ≤ 175 → f' q = f q) : sCT f' K G S := by
  obtain ⟨⟨lf, k50⟩, ⟨pl, h175, hpl⟩, h24, hJ⟩ := h
  refine ⟨⟨lf, h50.trans k50⟩, ⟨pl, (hfr 175 (by decide) (by decide)).trans h175, hpl⟩, h24, fun i hi => ?_⟩
  obtain ⟨j1, l, j2, j3⟩ := hJ i hi
  exact ⟨(hfr _ (by omega) (by omega)).trans j1, l, (hfr _ (by omega) (by omega)).trans j2, j3⟩
theorem sres_rg {bt : List sB} {back : Bool} {r0 : Nat → Int} : ∀ i : Nat, 0 ≤ sres bt back r0 i ∧ sres bt back r0 i ≤ 10 * (i : Nat) + 3 := by
  intro i
  induction i with
  | zero => exact ⟨Int.le_refl _, by show (0 : Int) ≤ _; omega⟩
  | succ i ih =>
    have hc := sclash_rg (srow bt back r0 i) (srow bt back r0 (i + 1))
    simp only [sres]
    split
    · omega
    · split
      · omega
      · omega
theorem sRL_copy {l l' : List Int} {k : Nat} {r : Nat → Int} (h : sRL l ((k : Nat) * 8) r) (hl : l'.length = 8) (h' : ∀ j : Nat, l'.getD j 0 = if (0 : Int).toNat ≤ j ∧ j < (0 : Int).toNat + 8 then l.getD ((((k : Nat) : Int) * 8).toNat + (j - (0 : Int).toNat)) 0 else 0) : sRL l' 0 r := by
  refine ⟨by omega, by omega, fun d hd => ?_⟩
  obtain ⟨h1, h2⟩ := h.2.2 d hd
  refine ⟨?_, h2⟩
  rw [show ((0 : Int) + (d : Nat)).toNat = d by omega, h' d, if_pos ⟨by omega, by omega⟩, ← h1]
  congr 1
theorem x_callU {v0 : Value} {xs : List Int32} {u : Nat × Nat} {Q : zO → zX → Prop} {mi pc b : Nat} {v : Value} {lv : zL} {f : Nat → zE} {r : List Value} {i : Instr} {Q2 : zO → zX → Prop} (as : List Value) (hc : zcd (zt v0) mi pc = some (i, 0, b, as.length, v)) (hki : zki i = 2) (h8 : zcat r ≤ 8) (hn : zcat as ≤ znl (zt v0) b) (hrc : zrcv (zG xs) (xh f, u) v as.reverse = true) (hs : zwp (zt v0) (zG xs) b 0 (lv_args 0 as.reverse) [] (xh f, u) Q2)
    (k1 : ∀ r' X', Q2 (.inl r') X' → zwp (zt v0) (zG xs) mi (pc + 3) lv (r'.toList ++ r) X' Q) (k2 : ∀ x X', Q2 (.inr x) X' → zhn (zt v0) mi pc x = none ∧ Q (.inr x) X') : xz v0 xs u Q mi pc lv (as ++ r) f := by
  obtain ⟨z1, z2, z3, z4, z5⟩ := zk_za (G := zG xs) (df := zdf (zt v0)) (a := 0) (b := b) (c := as.length) (v := v) (nL := znl (zt v0) mi) (pc := pc) (lv := lv) (st := as ++ r) (X := (xh f, u)) hki
  have e1 : (as ++ r).take as.length = as := List.take_left
  have e2 : (as ++ r).drop as.length = r := List.drop_left
  refine zwp_call ⟨hc, z1, z2, z3⟩ z4 hki ⟨rfl, by simp, by rw [e2]; exact h8, by rw [e1]; exact hn, by rw [e1]; exact hrc⟩ ?_
  rw [e1, e2]
  refine zwp_mono hs fun o X' hq => ?_
  cases o with
  | inl r' => exact k1 r' X' hq
  | inr x => exact Or.inl (k2 x X' hq)
theorem xs_85 {v0 : Value} {xs : List Int32} {u : Nat × Nat} {f : Nat → zE} {c : Nat} {kp pt z : Int} (hc : c ≤ 12) (hz : -2147483648 ≤ z ∧ z ≤ 2147483647) (h53 : f 53 = xbo (c : Nat) kp pt) : xq v0 xs u 85 [(0, .ref 53), (1, xi z)] f (fun r f' => f' = f ∧ ((r = some (xi 1) ∧ 0 ≤ z ∧ z < (c : Nat)) ∨ (r = some (xi 0) ∧ ¬ (0 ≤ z ∧ z < (c : Nat))))) := by
  unfold xq
  refine x_iload_n rfl rfl ?_
  refine x_iflt (t := 16) rfl rfl hz (fun h => ?_) (fun h => ?_)
  · refine x_iconst rfl ?_
    exact x_ireturn rfl (Or.inr (Or.inl ⟨rfl, by decide⟩)) ⟨_, _, rfl, rfl, rfl, Or.inr ⟨rfl, by omega⟩⟩
  · refine x_iload_n rfl rfl ?_
    refine x_aload_n rfl rfl ?_
    refine x_getfield rfl (by decide) h53 rfl ?_
    refine x_cge (t := 16) rfl rfl hz ⟨by omega, by omega⟩ (fun h2 => ?_) (fun h2 => ?_)
    · refine x_iconst rfl ?_
      exact x_ireturn rfl (Or.inr (Or.inl ⟨rfl, by decide⟩)) ⟨_, _, rfl, rfl, rfl, Or.inr ⟨rfl, by omega⟩⟩
    · refine x_iconst rfl ?_
      refine x_goto (t := 17) rfl rfl ?_
      exact x_ireturn rfl (Or.inr (Or.inl ⟨rfl, by decide⟩)) ⟨_, _, rfl, rfl, rfl, Or.inl ⟨rfl, by omega, by omega⟩⟩
theorem xs_86 {v0 : Value} {xs : List Int32} {u : Nat × Nat} {Q : zO → zX → Prop} {f : Nat → zE} {c : Nat} {kp pt z : Int} {dd lf lc : Value} (hc : c ≤ 12) (hz : -2147483648 ≤ z ∧ z ≤ 2147483647) (h50 : f 50 = xfc dd lf lc) (h53 : f 53 = xbo (c : Nat) kp pt) (k1 : 0 ≤ z → z < (c : Nat) → Q (.inl none) (xh f, u)) (k2 : ¬ (0 ≤ z ∧ z < (c : Nat)) → Q (.inr 100) (xh f, u.1 + 1, u.2 + 6)) : xz v0 xs u Q 86 0 [(0, .ref 50), (1, xi z)] [] f := by
  refine x_aload_n rfl rfl ?_
  refine x_getfield rfl (by decide) h50 rfl ?_
  refine x_iload_n rfl rfl ?_
  refine x_call [_, _] rfl rfl (show (0 : Nat) ≤ 8 from by decide) (show (2 : Nat) ≤ 2 from by decide) (x_rcv (by decide) h53) (xs_85 hc hz h53) (fun r' f' hP => ?_)
  obtain ⟨rfl, hP⟩ := hP
  rcases hP with ⟨rfl, h1, h2⟩ | ⟨rfl, h⟩
  · refine x_ifne (t := 21) rfl rfl (by decide) (fun _ => ?_) (fun h => absurd h (by decide))
    exact x_return rfl (k1 h1 h2)
  · refine x_ifne (t := 21) rfl rfl (by decide) (fun h => absurd rfl h) (fun _ => ?_)
    exact x_throw rfl (by decide) rfl (show (0 : Nat) ≤ 4 from by decide) (k2 h)
/-- what the class knows of its calls -/
def sCK (f : Nat → zE) (K : List (Int × Int)) (G : Nat → List xBt) (n : Nat) : Prop := n ≤ 12 ∧ (∃ kp pt : Int, f 53 = xbo (n : Nat) kp pt) ∧ f 54 = .inr (.inr (.inr (3, xfl))) ∧ sPK f K ∧ (∀ c, c < n → sFG f (57 + 4 * c) (G c)) ∧ ∀ c, c < n → sGok K (G c)
theorem sCK_f {f f' : Nat → zE} {K : List (Int × Int)} {G : Nat → List xBt} {n : Nat} (h : sCK f K G n) (hfr : ∀ q, 53 ≤ q → q ≤ 108 → f' q = f q) : sCK f' K G n := by
  obtain ⟨hn, ⟨kp, pt, h53⟩, h54, ⟨⟨a, b, c, p53⟩, se, at', p55, p56, hp⟩, hF, hG⟩ := h
  refine ⟨hn, ⟨kp, pt, (hfr 53 (by decide) (by decide)).trans h53⟩, (hfr 54 (by decide) (by decide)).trans h54, ⟨⟨a, b, c, (hfr 53 (by decide) (by decide)).trans p53⟩, se, at', (hfr 55 (by decide) (by decide)).trans p55, (hfr 56 (by decide) (by decide)).trans p56, hp⟩, fun i hi => ?_, hG⟩
  obtain ⟨r1, ⟨c3, c5, c6, g0⟩, fp, ep, ta, g1, g2, g3, g4⟩ := hF i hi
  exact ⟨r1, ⟨c3, c5, c6, (hfr _ (by omega) (by omega)).trans g0⟩, fp, ep, ta, (hfr _ (by omega) (by omega)).trans g1, (hfr _ (by omega) (by omega)).trans g2, (hfr _ (by omega) (by omega)).trans g3, g4⟩
set_option maxRecDepth 20000 in
theorem xs_107 {v0 : Value} {xs : List Int32} {u : Nat × Nat} {f : Nat → zE} {K : List (Int × Int)} {G : Nat → List xBt} {n : Nat} {back : Bool} {c : Int} {S : sS} (hM : yM yT2 (xh f)) (hT : sCT f K G S) (hCK : sCK f K G n) (hc : -2147483648 ≤ c ∧ c ≤ 2147483647) : xz v0 xs u (sCQ f u K G exD (sPF K G n back c S)) 107 0 [(0, .ref 50), (1, xi c), (2, xi (if back = true then 1 else 0))] [] f := by
  obtain ⟨⟨lf, h50⟩, ⟨pl, h175, hpl, hrl⟩, h24, hJ⟩ := id hT
  obtain ⟨hn, ⟨kp, pt, h53⟩, h54, hPK, hFG, hG⟩ := id hCK
  refine x_aload_n rfl rfl ?_
  refine x_iload_n rfl rfl ?_
  refine x_callU [_, _] rfl rfl (show (0 : Nat) ≤ 8 from by decide) (show (2 : Nat) ≤ 2 from by decide) (x_rcv (by decide) h50) (Q2 := fun o X => (o = .inl none ∧ X = (xh f, u) ∧ 0 ≤ c ∧ c < (n : Nat)) ∨ (o = .inr 100 ∧ X = (xh f, u.1 + 1, u.2 + 6) ∧ ¬ (0 ≤ c ∧ c < (n : Nat)))) (xs_86 hn hc h50 h53 (fun h1 h2 => Or.inl ⟨rfl, rfl, h1, h2⟩) (fun h => Or.inr ⟨rfl, rfl, h⟩)) (fun r' X' hq => ?_) (fun x X' hq => ?_)
  rotate_left
  · rcases hq with ⟨e1, -⟩ | ⟨e1, e2, h⟩
    · cases e1
    · cases e1
      subst e2
      have eR : sPF K G n back c S = (1, 0, S) := by unfold sPF; rw [if_neg h]
      rw [eR]
      exact ⟨rfl, f, Or.inr ⟨(show (1 : Int) ≠ 0 from by decide), rfl, rfl⟩, hT, fun _ _ _ _ _ => rfl⟩
  rcases hq with ⟨e1, e2, h1, h2⟩ | ⟨e1, -⟩
  rotate_left
  · cases e1
  cases e1
  subst e2
  show xz v0 xs u _ 107 5 _ [] f
  obtain ⟨i, rfl⟩ : ∃ i : Nat, c = (i : Nat) := ⟨c.toNat, by omega⟩
  have hi : i < n := by omega
  have hlen : (G i).length ≤ 16 := (hG i hi).1
  refine x_aload_n rfl rfl ?_
  refine x_getfield rfl (by decide) h50 rfl ?_
  refine x_bipush rfl (by decide) ?_
  refine x_clt (t := 24) rfl rfl ⟨by omega, by omega⟩ (by decide) (fun hd => ?_) (fun hd => ?_)
  rotate_left
  · refine x_throw rfl (by decide) rfl (show (0 : Nat) ≤ 4 from by decide) ?_
    have eR : sPF K G n back (i : Nat) S = (2, 0, S) := by unfold sPF; rw [if_pos ⟨h1, h2⟩, if_pos (by omega)]
    rw [eR]
    exact ⟨f, Or.inr ⟨(show (2 : Int) ≠ 0 from by decide), rfl, rfl⟩, hT, fun _ _ _ _ _ => rfl⟩
  obtain ⟨z, l, k1, k2, k3, k4, k5⟩ := sTk hM (i := S.2.1.length) (by omega)
  refine x_aload_n rfl rfl ?_
  refine x_getfield rfl (by decide) h50 rfl ?_
  refine x_aload_n rfl rfl ?_
  refine x_getfield rfl (by decide) h50 rfl ?_
  refine x_aaload rfl (by decide) (s122 hM) ⟨by omega, by rw [show xjl.length = 24 from rfl]; omega⟩ (by decide) (o := 123 + 2 * S.2.1.length) (by rw [Int.toNat_natCast]; exact xjl_at _ (by omega)) ?_
  refine x_astore_n rfl (show (3 : Nat) < 4 from by decide) ?_
  refine x_aload_n rfl xst_eq ?_
  refine x_aload_n rfl (xst_ne (by decide) rfl (Or.inl rfl)) ?_
  refine x_getfield rfl (by decide) h50 rfl ?_
  refine x_iconst rfl ?_
  refine x_call [_, _, _] rfl rfl (show (0 : Nat) ≤ 8 from by decide) (show (3 : Nat) ≤ 3 from by decide) (x_rcv (by omega) k1) (xs_91 (t := 123 + 2 * S.2.1.length) (p := 175) ⟨by omega, by omega⟩ k1 k3 k4 (by decide) (by omega) h175 (by omega) ⟨by omega, by omega⟩) (fun r' f1 hP => ?_)
  obtain ⟨rfl, g1, ⟨l1, g2, g3, g4⟩, g5⟩ := hP
  have hr1 : sRL l1 0 S.1 := by
    refine ⟨by omega, by omega, fun d hd => ?_⟩
    obtain ⟨a1, a2⟩ := hrl.2.2 d hd
    refine ⟨?_, a2⟩
    rw [show ((0 : Int) + (d : Nat)).toNat = d by omega, g4 d hd]
    exact a1
  have g50 : f1 50 = _ := (g5 50 (by omega) (by omega)).trans h50
  have hCK1 : sCK f1 K G n := sCK_f hCK fun q b1 b2 => g5 q (by omega) (by omega)
  obtain ⟨-, ⟨kp1, pt1, g53⟩, g54, gPK, gFG, -⟩ := hCK1
  have hDN := sDN_M hM
  have hDN1 : sDN f1 := by
    obtain ⟨a1, a2, ⟨dl, a3, a4⟩, al, a5, a6⟩ := hDN
    exact ⟨(g5 _ (by omega) (by omega)).trans a1, (g5 _ (by omega) (by omega)).trans a2, ⟨dl, (g5 _ (by omega) (by omega)).trans a3, a4⟩, al, (g5 _ (by omega) (by omega)).trans a5, a6⟩
  refine x_aload_n rfl (xst_ne (by decide) rfl (Or.inl rfl)) ?_
  refine x_aload_n rfl (xst_ne (by decide) rfl (Or.inl rfl)) ?_
  refine x_getfield rfl (by decide) g50 rfl ?_
  refine x_aload_n rfl xst_eq ?_
  refine x_aload_n rfl (xst_ne (by decide) rfl (Or.inl rfl)) ?_
  refine x_getfield rfl (by decide) g50 rfl ?_
  refine x_iload_n rfl (xst_ne (by decide) rfl (Or.inl rfl)) ?_
  refine x_call [_, _] rfl rfl (show (3 : Nat) ≤ 8 from by decide) (show (2 : Nat) ≤ 2 from by decide) (x_rcv (by decide) g53) (xs_44 (by omega) g53 g54) (fun r' f' hP => ?_)
  obtain ⟨rfl, hPe⟩ := hP
  subst f'
  refine x_iload_n rfl (xst_ne (by decide) rfl (Or.inl rfl)) ?_
  refine x_call [_, _, _, _] rfl rfl (show (1 : Nat) ≤ 8 from by decide) (show (4 : Nat) ≤ 6 from by decide) (x_rcv (by decide) hDN1.1) (xs_105 (t := 123 + 2 * S.2.1.length) (fg := 57 + 4 * i) (r0 := S.1) hDN1 gPK (hG i hi) (gFG i hi) ⟨by omega, by omega⟩ g1 g2 g3 hr1) (fun r' f2 hP => ?_)
  obtain ⟨rfl, ⟨l2, q1, q2, q3⟩, ⟨cn, q4, q5, q6⟩, -, q7⟩ := hP
  have hrg := sres_rg (bt := sbt K (G i)) (back := back) (r0 := S.1) (G i).length
  have q50 : f2 50 = _ := (q7 50 (by decide) (by decide) (by omega) (by omega)).trans g50
  have hfr2 : ∀ q, q ≠ 115 → q ≠ 116 → ¬ (123 ≤ q ∧ q ≤ 176) → f2 q = f q := fun q b1 b2 b3 => (q7 q b1 b2 (by omega) (by omega)).trans (g5 q (by omega) (by omega))
  have hfr3 : ∀ q, 123 ≤ q → q ≠ 123 + 2 * S.2.1.length → q ≠ 123 + 2 * S.2.1.length + 1 → f2 q = f q := fun q b0 b1 b2 => (q7 q (by omega) (by omega) b1 b2).trans (g5 q b1 b2)
  refine x_putfield rfl (by decide) q50 (show (12 : Nat) < 13 from by decide) rfl ?_
  refine x_aload_n rfl (xst_ne (by decide) rfl (Or.inl rfl)) ?_
  refine x_getfield rfl (by decide) xu_eq rfl ?_
  refine x_ifeq (t := 81) rfl rfl ⟨by omega, by omega⟩ (fun hz => ?_) (fun hz => ?_)
  rotate_left
  · refine x_throw rfl (by decide) rfl (show (0 : Nat) ≤ 4 from by decide) ?_
    have eR : sPF K G n back (i : Nat) S = (2, 0, (S.1, S.2.1, sres (sbt K (G i)) back S.1 (G i).length)) := by
      unfold sPF
      rw [if_pos ⟨h1, h2⟩, if_neg (by omega)]
      simp only [Int.toNat_natCast]
      rw [if_neg hz]
    rw [eR]
    refine ⟨_, Or.inr ⟨(show (2 : Int) ≠ 0 from by decide), rfl, rfl⟩, ⟨⟨lf, xu_eq⟩, ⟨pl, xu_ne (by decide) ((hfr3 175 (by decide) (by omega) (by omega)).trans h175), hpl, hrl⟩, h24, fun j hj => ?_⟩, fun q b1 b2 b3 b4 => xu_ne b1 (hfr2 q b2 b3 b4)⟩
    obtain ⟨j1, lj, j2, j3⟩ := hJ j hj
    have hj' : j < S.2.1.length := hj
    exact ⟨xu_ne (by omega) ((hfr3 _ (by omega) (by omega) (by omega)).trans j1), lj, xu_ne (by omega) ((hfr3 _ (by omega) (by omega) (by omega)).trans j2), j3⟩
  refine x_aload_n rfl (xst_ne (by decide) rfl (Or.inl rfl)) ?_
  refine x_dup rfl ?_
  refine x_getfield rfl (by decide) xu_eq rfl ?_
  refine x_iconst rfl ?_
  refine x_iadd rfl ?_
  refine x_putfield rfl (by decide) xu_eq (show (10 : Nat) < 13 from by decide) rfl ?_
  generalize hf3 : xu (xu f2 50 _) 50 _ = f3
  have k50 : f3 50 = xfc (xi ((S.2.1.length : Nat) + 1)) lf (xi (sres (sbt K (G i)) back S.1 (G i).length)) := by rw [← hf3]; exact xu_eq
  have hfa : ∀ q, q ≠ 50 → f3 q = f2 q := fun q b => by rw [← hf3]; exact xu_ne b (xu_ne b rfl)
  have hcn := q6 hz
  subst hcn
  have k4' := (hfa (123 + 2 * S.2.1.length) (by omega)).trans q4
  have k1' := (hfa (123 + 2 * S.2.1.length + 1) (by omega)).trans q1
  have k175 := (hfa 175 (by decide)).trans ((hfr3 175 (by decide) (by omega) (by omega)).trans h175)
  refine x_aload_n rfl xst_eq ?_
  refine x_aload_n rfl xst_eq ?_
  refine x_getfield rfl (by omega) k4' rfl ?_
  refine x_aload_n rfl (xst_ne (by decide) rfl (Or.inl rfl)) ?_
  refine x_getfield rfl (by decide) k50 rfl ?_
  refine x_iconst rfl ?_
  refine x_call [_, _, _, _] rfl rfl (show (0 : Nat) ≤ 8 from by decide) (show (4 : Nat) ≤ 4 from by decide) (x_rcv (by omega) k4') (xs_106 (t := 123 + 2 * S.2.1.length) (p := 175) ⟨by omega, by omega⟩ k4' k1' q2 ⟨by omega, by omega⟩ (by decide) (by omega) k175 (by omega) ⟨by omega, by omega⟩) (fun r' f4 hP => ?_)
  obtain ⟨rfl, ⟨l3, w1, w2, w3⟩, w4⟩ := hP
  refine x_aload_n rfl xst_eq ?_
  refine x_getfield rfl (by omega) ((w4 _ (by omega)).trans k4') rfl ?_
  have eR : sPF K G n back (i : Nat) S = (0, (((G i).length : Nat) : Int), (srow (sbt K (G i)) back S.1 (G i).length, S.2.1 ++ [(i, back, S.1)], 0)) := by
    unfold sPF
    rw [if_pos ⟨h1, h2⟩, if_neg (by omega)]
    simp only [Int.toNat_natCast]
    rw [if_pos hz]
  rw [eR]
  have hTR := q3 hz
  refine x_ireturn rfl (Or.inl rfl) ⟨f4, Or.inl ⟨rfl, rfl, rfl⟩, ⟨⟨lf, ?_⟩, ⟨l3, w1, w2.trans hpl, ?_⟩, ?_, fun j hj => ?_⟩, fun q b1 b2 b3 b4 => (w4 q (by omega)).trans ((hfa q b1).trans (hfr2 q b2 b3 b4))⟩
  · rw [(w4 50 (by decide)).trans k50, hz]
    dsimp only
    rw [List.length_append, List.length_singleton]
    rfl
  · refine sRL_copy (hTR.2 (G i).length (Nat.le_refl _)) (w2.trans hpl) fun j => ?_
    rw [w3 j]
    split
    · rfl
    · rename_i hj
      rw [List.getD_eq_getElem?_getD, List.getElem?_eq_none (by omega)]
      rfl
  · dsimp only
    rw [List.length_append, List.length_singleton]
    omega
  · dsimp only at hj ⊢
    rw [List.length_append, List.length_singleton] at hj
    rw [sH_app]
    by_cases hjl : j < S.2.1.length
    · rw [if_pos hjl]
      obtain ⟨j1, lj, j2, j3⟩ := hJ j hjl
      exact ⟨(w4 _ (by omega)).trans ((hfa _ (by omega)).trans ((hfr3 _ (by omega) (by omega) (by omega)).trans j1)), lj, (w4 _ (by omega)).trans ((hfa _ (by omega)).trans ((hfr3 _ (by omega) (by omega) (by omega)).trans j2)), j3⟩
    · have hje : j = S.2.1.length := by omega
      rw [if_neg hjl, if_pos hje]
      subst hje
      exact ⟨(w4 _ (by omega)).trans k4', l2, (w4 _ (by omega)).trans k1', hTR⟩
theorem xs_108 {v0 : Value} {xs : List Int32} {u : Nat × Nat} {f : Nat → zE} {K : List (Int × Int)} {G : Nat → List xBt} {n : Nat} {c : Int} {S : sS} (hM : yM yT2 (xh f)) (hT : sCT f K G S) (hCK : sCK f K G n) (hc : -2147483648 ≤ c ∧ c ≤ 2147483647) : xz v0 xs u (sCQ f u K G exD (sPF K G n false c S)) 108 0 [(0, .ref 50), (1, xi c)] [] f := by
  obtain ⟨⟨lf, h50⟩, -⟩ := id hT
  refine x_aload_n rfl rfl ?_
  refine x_iload_n rfl rfl ?_
  refine x_iconst rfl ?_
  refine x_callU [_, _, _] rfl rfl (show (0 : Nat) ≤ 8 from by decide) (show (3 : Nat) ≤ 4 from by decide) (x_rcv (by decide) h50) (xs_107 (back := false) hM hT hCK hc) (fun r' X' hq => ?_) (fun x X' hq => ?_)
  · obtain ⟨f', ⟨hz, e1, e2⟩ | ⟨hz, e1, e2⟩, hT', hfr⟩ := hq
    · cases e1
      subst e2
      show xz v0 xs u _ 108 6 _ [_] f'
      exact x_ireturn rfl (Or.inl rfl) ⟨f', Or.inl ⟨hz, rfl, rfl⟩, hT', hfr⟩
    · cases e1
  · obtain ⟨f', ⟨hz, e1, e2⟩ | ⟨hz, e1, e2⟩, hT', hfr⟩ := hq
    · cases e1
    · cases e1
      exact ⟨rfl, f', Or.inr ⟨hz, rfl, e2⟩, hT', hfr⟩
theorem xs_126 {v0 : Value} {xs : List Int32} {u : Nat × Nat} {f : Nat → zE} {K : List (Int × Int)} {G : Nat → List xBt} {n : Nat} {c : Int} {S : sS} (hM : yM yT2 (xh f)) (hT : sCT f K G S) (hCK : sCK f K G n) (hc : -2147483648 ≤ c ∧ c ≤ 2147483647) : xz v0 xs u (sCQ f u K G exD (sPF K G n true c S)) 126 0 [(0, .ref 50), (1, xi c)] [] f := by
  obtain ⟨⟨lf, h50⟩, -⟩ := id hT
  refine x_aload_n rfl rfl ?_
  refine x_iload_n rfl rfl ?_
  refine x_iconst rfl ?_
  refine x_callU [_, _, _] rfl rfl (show (0 : Nat) ≤ 8 from by decide) (show (3 : Nat) ≤ 4 from by decide) (x_rcv (by decide) h50) (xs_107 (back := true) hM hT hCK hc) (fun r' X' hq => ?_) (fun x X' hq => ?_)
  · obtain ⟨f', ⟨hz, e1, e2⟩ | ⟨hz, e1, e2⟩, hT', hfr⟩ := hq
    · cases e1
      subst e2
      show xz v0 xs u _ 126 6 _ [_] f'
      exact x_ireturn rfl (Or.inl rfl) ⟨f', Or.inl ⟨hz, rfl, rfl⟩, hT', hfr⟩
    · cases e1
  · obtain ⟨f', ⟨hz, e1, e2⟩ | ⟨hz, e1, e2⟩, hT', hfr⟩ := hq
    · cases e1
    · cases e1
      exact ⟨rfl, f', Or.inr ⟨hz, rfl, e2⟩, hT', hfr⟩
end
section
/-! The class's other methods of dancing. -/
theorem xs_129 {v0 : Value} {xs : List Int32} {u : Nat × Nat} {f : Nat → zE} {K : List (Int × Int)} {G : Nat → List xBt} {S : sS} (hT : sCT f K G S) : xz v0 xs u (sCQ f u K G exD (0, S.2.2, S)) 129 0 [(0, .ref 50)] [] f := by
  obtain ⟨⟨lf, h50⟩, -⟩ := id hT
  refine x_aload_n rfl rfl ?_
  refine x_getfield rfl (by decide) h50 rfl ?_
  exact x_ireturn rfl (Or.inl rfl) ⟨f, Or.inl ⟨rfl, rfl, rfl⟩, hT, fun _ _ _ _ _ => rfl⟩
theorem xs_131 {v0 : Value} {xs : List Int32} {u : Nat × Nat} {f : Nat → zE} {K : List (Int × Int)} {G : Nat → List xBt} {S : sS} (hM : yM yT2 (xh f)) (hT : sCT f K G S) (hG : ∀ i, i < S.2.1.length → (G (S.2.1.getD i sH0).1).length ≤ 16) : xz v0 xs u (sCQ f u K G exU (sUN G S)) 131 0 [(0, .ref 50)] [] f := by
  obtain ⟨⟨lf, h50⟩, ⟨pl, h175, hpl, hrl⟩, h24, hJ⟩ := id hT
  refine x_aload_n rfl rfl ?_
  refine x_getfield rfl (by decide) h50 rfl ?_
  refine x_ifne (t := 17) rfl rfl ⟨by omega, by omega⟩ (fun hd => ?_) (fun hd => ?_)
  rotate_left
  · refine x_throw rfl (by decide) rfl (show (0 : Nat) ≤ 4 from by decide) ?_
    have eR : sUN G S = (1, 0, S) := by unfold sUN; rw [if_pos (by omega)]
    rw [eR]
    exact ⟨f, Or.inr ⟨(show (1 : Int) ≠ 0 from by decide), rfl, rfl⟩, hT, fun _ _ _ _ _ => rfl⟩
  obtain ⟨m, hm⟩ : ∃ m : Nat, S.2.1.length = m + 1 := ⟨S.2.1.length - 1, by omega⟩
  have eR : sUN G S = (0, (((G (S.2.1.getD m sH0).1).length : Nat) : Int), ((S.2.1.getD m sH0).2.2, S.2.1.take m, S.2.2)) := by
    unfold sUN
    rw [if_neg (by omega), hm, Nat.add_sub_cancel]
  have hlm : (S.2.1.take m).length = m := by rw [List.length_take]; omega
  obtain ⟨j1, l, j2, j3⟩ := hJ m (by omega)
  have hgl := hG m (by omega)
  rw [eR]
  refine x_aload_n rfl rfl ?_
  refine x_dup rfl ?_
  refine x_getfield rfl (by decide) h50 rfl ?_
  refine x_iconst rfl ?_
  refine x_isub rfl ?_
  rw [show ((S.2.1.length : Nat) : Int) - 1 = (m : Nat) from by omega]
  refine x_putfield rfl (by decide) h50 (show (10 : Nat) < 13 from by decide) rfl ?_
  generalize hf3 : xu f 50 _ = f3
  have k50 : f3 50 = xfc (xi (m : Nat)) lf (xi S.2.2) := by rw [← hf3]; exact xu_eq
  have hfa : ∀ q, q ≠ 50 → f3 q = f q := fun q b => by rw [← hf3]; exact xu_ne b rfl
  have k122 : f3 122 = .inr (.inr (.inr (9, xjl))) := (hfa 122 (by decide)).trans (s122 hM)
  have k1 := (hfa (123 + 2 * m) (by omega)).trans j1
  have k2 := (hfa (123 + 2 * m + 1) (by omega)).trans j2
  have k175 := (hfa 175 (by decide)).trans h175
  refine x_aload_n rfl rfl ?_
  refine x_getfield rfl (by decide) k50 rfl ?_
  refine x_aload_n rfl rfl ?_
  refine x_getfield rfl (by decide) k50 rfl ?_
  refine x_aaload rfl (by decide) k122 ⟨by omega, by rw [show xjl.length = 24 from rfl]; omega⟩ (by decide) (o := 123 + 2 * m) (by rw [Int.toNat_natCast]; exact xjl_at _ (by omega)) ?_
  refine x_astore_n rfl (show (1 : Nat) < 2 from by decide) ?_
  refine x_aload_n rfl xst_eq ?_
  refine x_iconst rfl ?_
  refine x_aload_n rfl (xst_ne (by decide) rfl (Or.inl rfl)) ?_
  refine x_getfield rfl (by decide) k50 rfl ?_
  refine x_iconst rfl ?_
  refine x_call [_, _, _, _] rfl rfl (show (0 : Nat) ≤ 8 from by decide) (show (4 : Nat) ≤ 4 from by decide) (x_rcv (by omega) k1) (xs_106 (t := 123 + 2 * m) (p := 175) ⟨by omega, by omega⟩ k1 k2 j3.1 (by decide) (by decide) (by omega) k175 (by omega) ⟨by omega, by omega⟩) (fun r' f4 hP => ?_)
  obtain ⟨rfl, ⟨l3, w1, w2, w3⟩, w4⟩ := hP
  refine x_aload_n rfl xst_eq ?_
  refine x_getfield rfl (by omega) ((w4 _ (by omega)).trans k1) rfl ?_
  refine x_ireturn rfl (Or.inl rfl) ⟨f4, Or.inl ⟨rfl, rfl, rfl⟩, ⟨⟨lf, ?_⟩, ⟨l3, w1, w2.trans hpl, ?_⟩, ?_, fun j hj => ?_⟩, fun q b1 b2 b3 b4 => (w4 q (by omega)).trans (hfa q b1)⟩
  · rw [(w4 50 (by decide)).trans k50]
    dsimp only
    rw [hlm]
  · refine sRL_copy (k := 0) (j3.2 0 (Nat.zero_le _)) (w2.trans hpl) fun j => ?_
    rw [w3 j]
    split
    · rfl
    · rename_i hj
      rw [List.getD_eq_getElem?_getD, List.getElem?_eq_none (by omega)]
      rfl
  · dsimp only
    rw [hlm]
    omega
  · dsimp only at hj ⊢
    rw [hlm] at hj
    have e5 : (S.2.1.take m).getD j sH0 = S.2.1.getD j sH0 := by rw [List.getD_eq_getElem?_getD, List.getElem?_take, if_pos hj, ← List.getD_eq_getElem?_getD]
    rw [e5]
    obtain ⟨a1, la, a2, a3⟩ := hJ j (by omega)
    exact ⟨(w4 _ (by omega)).trans ((hfa _ (by omega)).trans a1), la, (w4 _ (by omega)).trans ((hfa _ (by omega)).trans a2), a3⟩
/-! Home. -/
def shomeT (t : Int) (d : Nat) : Int := 4 * (shome d / 4) + (shome d % 4 + t) % 4
theorem shomeT_0 (d : Nat) : shomeT 0 d = shome d := by
  unfold shomeT
  omega
theorem shomeT_ok {t : Int} (d : Nat) (ht : 0 ≤ t ∧ t ≤ 3) : sok (shomeT t d) := by
  have h := shome_ok d
  unfold sok at h ⊢
  unfold shomeT
  omega
theorem zg1_at : ∀ d : Nat, d < 8 → zg1.getD d 0 = Int32.ofInt (shome d / 4) := by decide
theorem zg2_at : ∀ d : Nat, d < 8 → zg2.getD d 0 = Int32.ofInt (shome d % 4) := by decide
theorem zg1_len : zg1.length = 8 := rfl
theorem zg2_len : zg2.length = 8 := rfl
theorem xs_11 {v0 : Value} {xs : List Int32} {u : Nat × Nat} {f0 : Nat → zE} {p : Nat} {t : Int} {l : List Int} (hp : 50 ≤ p ∧ p < 204) (ht : 0 ≤ t ∧ t ≤ 3) (h : f0 p = xr 0 l) (hl : l.length = 8) : xq v0 xs u 11 [(0, .ref p), (1, xi t)] f0 (fun r' f' => r' = none ∧ (∃ l' : List Int, f' p = xr 0 l' ∧ l'.length = 8 ∧ sRL l' 0 (shomeT t)) ∧ ∀ q, q ≠ p → f' q = f0 q) := by
  unfold xq
  have lp : ∀ (j d : Nat) (lv : zL) (f : Nat → zE), j + d = 8 → zlv lv 0 = some (.ref p) → zlv lv 1 = some (xi t) → zlv lv 2 = some (xi (d : Nat)) → (∃ l' : List Int, f p = xr 0 l' ∧ l'.length = 8 ∧ ∀ e, e < d → l'.getD e 0 = shomeT t e) → (∀ q, q ≠ p → f q = f0 q) → xz v0 xs u (fun o X => ∃ r' f', o = .inl r' ∧ X = (xh f', u) ∧ (fun r' f' => r' = none ∧ (∃ l' : List Int, f' p = xr 0 l' ∧ l'.length = 8 ∧ sRL l' 0 (shomeT t)) ∧ ∀ q, q ≠ p → f' q = f0 q) r' f') 11 2 lv [] f := by
    intro j
    induction j with
    | zero =>
      intro d lv f hj l0 l1 l2 hA hfr
      have e : d = 8 := by omega
      subst e
      refine x_iload_n rfl l2 ?_
      refine x_bipush rfl (by decide) ?_
      refine x_cge (t := 34) rfl rfl (by decide) (by decide) (fun _ => ?_) (fun h => absurd h (by decide))
      obtain ⟨la, a1, a2, a3⟩ := hA
      refine x_return rfl ⟨_, _, rfl, rfl, rfl, ⟨la, a1, a2, by omega, by omega, fun d hd => ⟨?_, shomeT_ok d ht⟩⟩, hfr⟩
      rw [show ((0 : Int) + (d : Nat)).toNat = d by omega]
      exact a3 d hd
    | succ j ih =>
      intro d lv f hj l0 l1 l2 hA hfr
      have hd : d < 8 := by omega
      obtain ⟨la, a1, a2, a3⟩ := hA
      have hs := shome_ok d
      unfold sok at hs
      refine x_iload_n rfl l2 ?_
      refine x_bipush rfl (by decide) ?_
      refine x_cge (t := 34) rfl rfl ⟨by omega, by omega⟩ (by decide) (fun h => by omega) (fun _ => ?_)
      refine x_aload_n rfl l0 ?_
      refine x_iload_n rfl l2 ?_
      refine x_iconst rfl ?_
      refine x_gets rfl ?_
      refine x_iload_n rfl l2 ?_
      refine x_gar (ys := zg1) rfl rfl ⟨by omega, by rw [zg1_len]; omega⟩ (by decide) ?_
      rw [Int.toNat_natCast, zg1_at d hd]
      refine x_imul rfl ?_
      refine x_gets rfl ?_
      refine x_iload_n rfl l2 ?_
      refine x_gar (ys := zg2) rfl rfl ⟨by omega, by rw [zg2_len]; omega⟩ (by decide) ?_
      rw [Int.toNat_natCast, zg2_at d hd]
      refine x_iload_n rfl l1 ?_
      refine x_iadd rfl ?_
      refine x_iconst rfl ?_
      refine x_irem rfl ⟨by omega, by omega⟩ (by decide) ?_
      refine x_iadd rfl ?_
      refine x_iastore rfl hp a1 ⟨by omega, by omega⟩ (by omega) ?_
      refine x_iinc rfl l2 (show (2 : Nat) < 3 from by decide) ?_
      refine x_goto (t := 2) rfl rfl ?_
      rw [Int.toNat_natCast]
      refine ih (d + 1) _ _ (by omega) (xst_ne (by decide) l0 (Or.inl rfl)) (xst_ne (by decide) l1 (Or.inl rfl)) xst_eq ⟨_, xu_eq, by rw [List.length_set]; exact a2, fun e he => ?_⟩ (fun q hq => xu_ne hq (hfr q hq))
      rw [x_gset]
      by_cases e9 : d = e
      · rw [if_pos ⟨e9, by omega⟩, ← e9]
        rfl
      · rw [if_neg (fun h => e9 h.1)]
        exact a3 e (by omega)
  refine x_iconst rfl ?_
  refine x_istore_n rfl (show (2 : Nat) < 3 from by decide) ?_
  exact lp 8 0 _ f0 rfl (xst_ne (by decide) rfl (Or.inl rfl)) (xst_ne (by decide) rfl (Or.inl rfl)) xst_eq ⟨l, h, hl, fun e he => absurd he (Nat.not_lt_zero e)⟩ (fun _ _ => rfl)
theorem sRL_eq {l : List Int} {o : Int} {r r' : Nat → Int} (h : sRL l o r) (e : ∀ d, d < 8 → r d = r' d) : sRL l o r' := ⟨h.1, h.2.1, fun d hd => by rw [← e d hd]; exact h.2.2 d hd⟩
theorem xs_135 {v0 : Value} {xs : List Int32} {u : Nat × Nat} {f : Nat → zE} {K : List (Int × Int)} {G : Nat → List xBt} {S : sS} (hT : sCT f K G S) : xz v0 xs u (sCQ f u K G exD (0, (S.2.1.length : Nat), (shome, [], S.2.2))) 135 0 [(0, .ref 50)] [] f := by
  obtain ⟨⟨lf, h50⟩, ⟨pl, h175, hpl, hrl⟩, h24, hJ⟩ := id hT
  refine x_aload_n rfl rfl ?_
  refine x_getfield rfl (by decide) h50 rfl ?_
  refine x_istore_n rfl (show (1 : Nat) < 2 from by decide) ?_
  refine x_aload_n rfl (xst_ne (by decide) rfl (Or.inl rfl)) ?_
  refine x_iconst rfl ?_
  refine x_putfield rfl (by decide) h50 (show (10 : Nat) < 13 from by decide) rfl ?_
  refine x_aload_n rfl (xst_ne (by decide) rfl (Or.inl rfl)) ?_
  refine x_getfield rfl (by decide) xu_eq rfl ?_
  refine x_iconst rfl ?_
  refine x_call [_, _] rfl rfl (show (0 : Nat) ≤ 8 from by decide) (show (2 : Nat) ≤ 3 from by decide) rfl (xs_11 (p := 175) (by decide) (by decide) (xu_ne (by decide) h175) hpl) (fun r' f4 hP => ?_)
  obtain ⟨rfl, ⟨l3, w1, w2, w3⟩, w4⟩ := hP
  refine x_iload_n rfl xst_eq ?_
  exact x_ireturn rfl (Or.inl rfl) ⟨f4, Or.inl ⟨rfl, rfl, rfl⟩, ⟨⟨lf, (w4 50 (by decide)).trans xu_eq⟩, ⟨l3, w1, w2, sRL_eq w3 fun d _ => shomeT_0 d⟩, Nat.zero_le _, fun j hj => absurd hj (Nat.not_lt_zero j)⟩, fun q b1 b2 b3 b4 => (w4 q (by omega)).trans (xu_ne b1 rfl)⟩
/-! Where, stood, select. -/
theorem xs_137 {v0 : Value} {xs : List Int32} {u : Nat × Nat} {Q : zO → zX → Prop} {f : Nat → zE} {z : Int} (hz : -2147483648 ≤ z ∧ z ≤ 2147483647) (k1 : 0 ≤ z → z < 8 → Q (.inl none) (xh f, u)) (k2 : ¬ (0 ≤ z ∧ z < 8) → Q (.inr 100) (xh f, u.1 + 1, u.2 + 6)) : xz v0 xs u Q 137 0 [(0, xi z)] [] f := by
  refine x_iload_n rfl rfl ?_
  refine x_iflt (t := 10) rfl rfl hz (fun h => ?_) (fun h => ?_)
  · exact x_throw rfl (by decide) rfl (show (0 : Nat) ≤ 4 from by decide) (k2 (by omega))
  · refine x_iload_n rfl rfl ?_
    refine x_bipush rfl (by decide) ?_
    refine x_clt (t := 20) rfl rfl hz (by decide) (fun h2 => ?_) (fun h2 => ?_)
    · exact x_return rfl (k1 h h2)
    · exact x_throw rfl (by decide) rfl (show (0 : Nat) ≤ 4 from by decide) (k2 (by omega))
def sQ137 (f : Nat → zE) (u : Nat × Nat) (z : Int) (o : zO) (X : zX) : Prop := (o = .inl none ∧ X = (xh f, u) ∧ 0 ≤ z ∧ z < 8) ∨ (o = .inr 100 ∧ X = (xh f, u.1 + 1, u.2 + 6) ∧ ¬ (0 ≤ z ∧ z < 8))
theorem xs_137q {v0 : Value} {xs : List Int32} {u : Nat × Nat} {f : Nat → zE} {z : Int} (hz : -2147483648 ≤ z ∧ z ≤ 2147483647) : xz v0 xs u (sQ137 f u z) 137 0 [(0, xi z)] [] f := xs_137 hz (fun h1 h2 => Or.inl ⟨rfl, rfl, h1, h2⟩) (fun h => Or.inr ⟨rfl, rfl, h⟩)
theorem xs_138 {v0 : Value} {xs : List Int32} {u : Nat × Nat} {f : Nat → zE} {K : List (Int × Int)} {G : Nat → List xBt} {S : sS} {d w : Int} (hT : sCT f K G S) (hd : -2147483648 ≤ d ∧ d ≤ 2147483647) (hw : -2147483648 ≤ w ∧ w ≤ 2147483647) : xz v0 xs u (sCQ f u K G exW (sWH S d w)) 138 0 [(0, .ref 50), (1, xi d), (2, xi w)] [] f := by
  obtain ⟨⟨lf, h50⟩, ⟨pl, h175, hpl, hrl⟩, h24, hJ⟩ := id hT
  refine x_iload_n rfl rfl ?_
  refine x_callU [_] rfl rfl (show (0 : Nat) ≤ 8 from by decide) (show (1 : Nat) ≤ 1 from by decide) rfl (xs_137q (z := d) hd) (fun r' X' hq => ?_) (fun x X' hq => ?_)
  rotate_left
  · rcases hq with ⟨e1, -⟩ | ⟨e1, e2, h⟩
    · cases e1
    · cases e1
      subst e2
      have eR : sWH S d w = (1, 0, S) := by unfold sWH; rw [if_neg (fun hh => h hh.1)]
      rw [eR]
      exact ⟨rfl, f, Or.inr ⟨(show (1 : Int) ≠ 0 from by decide), rfl, rfl⟩, hT, fun _ _ _ _ _ => rfl⟩
  rcases hq with ⟨e1, e2, h1, h2⟩ | ⟨e1, -⟩
  rotate_left
  · cases e1
  cases e1
  subst e2
  show xz v0 xs u _ 138 4 _ [] f
  obtain ⟨e, rfl⟩ : ∃ e : Nat, d = (e : Nat) := ⟨d.toNat, by omega⟩
  obtain ⟨a1, a2⟩ := hrl.2.2 e (by omega)
  rw [show ((0 : Int) + (e : Nat)).toNat = e by omega] at a1
  have a3 : 0 ≤ S.1 e ∧ S.1 e < 400 := a2
  have D : ∀ {y : Int}, (0 ≤ w ∧ w ≤ 2) → y = (if w = 0 then sX (S.1 e) else if w = 1 then sY (S.1 e) else sF (S.1 e)) → sCQ f u K G exW (sWH S (e : Nat) w) (.inl (some (xi y))) (xh f, u) := by
    intro y hw2 hy
    have eR : sWH S (e : Nat) w = (0, y, S) := by unfold sWH; rw [if_pos ⟨⟨h1, h2⟩, hw2⟩, hy, Int.toNat_natCast]
    rw [eR]
    exact ⟨f, Or.inl ⟨rfl, rfl, rfl⟩, hT, fun _ _ _ _ _ => rfl⟩
  refine x_aload_n rfl rfl ?_
  refine x_getfield rfl (by decide) h50 rfl ?_
  refine x_iload_n rfl rfl ?_
  refine x_iaload rfl (by decide) h175 ⟨by omega, by omega⟩ (by omega) ?_
  rw [Int.toNat_natCast, a1]
  refine x_istore_n rfl (show (3 : Nat) < 4 from by decide) ?_
  refine x_iload_n rfl (xst_ne (by decide) rfl (Or.inl rfl)) ?_
  by_cases hw2 : 0 ≤ w ∧ w ≤ 2
  rotate_left
  · refine x_sw (t := 58) rfl hw (if_pos (by omega)) rfl ?_
    refine x_throw rfl (by decide) rfl (show (0 : Nat) ≤ 4 from by decide) ?_
    have eR : sWH S (e : Nat) w = (1, 0, S) := by unfold sWH; rw [if_neg (fun hh => hw2 hh.2)]
    rw [eR]
    exact ⟨f, Or.inr ⟨(show (1 : Int) ≠ 0 from by decide), rfl, rfl⟩, hT, fun _ _ _ _ _ => rfl⟩
  rcases (show w = 0 ∨ w = 1 ∨ w = 2 by omega) with rfl | rfl | rfl
  · refine x_sw (t := 40) rfl (by decide) (e := 28) (by decide) rfl ?_
    refine x_iload_n rfl xst_eq ?_
    refine x_iconst rfl ?_
    refine x_idiv rfl ⟨by omega, by omega⟩ (by decide) ?_
    refine x_bipush rfl (by decide) ?_
    refine x_irem rfl ⟨by omega, by omega⟩ (by decide) ?_
    exact x_ireturn rfl (Or.inl rfl) (D hw2 rfl)
  · refine x_sw (t := 47) rfl (by decide) (e := 35) (by decide) rfl ?_
    refine x_iload_n rfl xst_eq ?_
    refine x_iconst rfl ?_
    refine x_idiv rfl ⟨by omega, by omega⟩ (by decide) ?_
    refine x_bipush rfl (by decide) ?_
    refine x_idiv rfl ⟨by omega, by omega⟩ (by decide) ?_
    exact x_ireturn rfl (Or.inl rfl) (D hw2 (by rw [if_neg (by decide), if_pos rfl]; unfold sY; omega))
  · refine x_sw (t := 54) rfl (by decide) (e := 42) (by decide) rfl ?_
    refine x_iload_n rfl xst_eq ?_
    refine x_iconst rfl ?_
    refine x_irem rfl ⟨by omega, by omega⟩ (by decide) ?_
    exact x_ireturn rfl (Or.inl rfl) (D hw2 (by rw [if_neg (by decide), if_neg (by decide)]; rfl))
theorem xs_142 {v0 : Value} {xs : List Int32} {u : Nat × Nat} {f : Nat → zE} {t : Nat} {w : Value} {l : List Int} {b : Int} {d : Nat} (ht : 50 ≤ t ∧ t < 203) (h1 : f t = .inl (9, [.ref (t + 1), w])) (h2 : f (t + 1) = xr 0 l) (hl : l.length = 136) (hb : 0 ≤ b ∧ b ≤ 16) (hd : d < 8) : xq v0 xs u 142 [(0, .ref t), (1, xi b), (2, xi (d : Nat))] f (fun r' f' => r' = some (xi (l.getD (b * 8 + (d : Nat)).toNat 0)) ∧ f' = f) := by
  unfold xq
  refine x_aload_n rfl rfl ?_
  refine x_getfield rfl ⟨by omega, by omega⟩ h1 rfl ?_
  refine x_iload_n rfl rfl ?_
  refine x_bipush rfl (by decide) ?_
  refine x_imul rfl ?_
  refine x_iload_n rfl rfl ?_
  refine x_iadd rfl ?_
  refine x_iaload rfl ⟨by omega, by omega⟩ h2 ⟨by omega, by omega⟩ (by omega) ?_
  exact x_ireturn rfl (Or.inl rfl) ⟨_, _, rfl, rfl, rfl, rfl⟩
theorem xs_143 {v0 : Value} {xs : List Int32} {u : Nat × Nat} {f : Nat → zE} {K : List (Int × Int)} {G : Nat → List xBt} {S : sS} {b d : Int} (hM : yM yT2 (xh f)) (hT : sCT f K G S) (hG : ∀ i, i < S.2.1.length → (G (S.2.1.getD i sH0).1).length ≤ 16) (hb : -2147483648 ≤ b ∧ b ≤ 2147483647) (hd : -2147483648 ≤ d ∧ d ≤ 2147483647) : xz v0 xs u (sCQ f u K G exS (sSD K G S b d)) 143 0 [(0, .ref 50), (1, xi b), (2, xi d)] [] f := by
  obtain ⟨⟨lf, h50⟩, ⟨pl, h175, hpl, hrl⟩, h24, hJ⟩ := id hT
  refine x_iload_n rfl rfl ?_
  refine x_callU [_] rfl rfl (show (0 : Nat) ≤ 8 from by decide) (show (1 : Nat) ≤ 1 from by decide) rfl (xs_137q (z := d) hd) (fun r' X' hq => ?_) (fun x X' hq => ?_)
  rotate_left
  · rcases hq with ⟨e1, -⟩ | ⟨e1, e2, h⟩
    · cases e1
    · cases e1
      subst e2
      have eR : sSD K G S b d = (1, 0, S) := by unfold sSD; rw [if_neg h]
      rw [eR]
      exact ⟨rfl, f, Or.inr ⟨(show (1 : Int) ≠ 0 from by decide), rfl, rfl⟩, hT, fun _ _ _ _ _ => rfl⟩
  rcases hq with ⟨e1, e2, h1, h2⟩ | ⟨e1, -⟩
  rotate_left
  · cases e1
  cases e1
  subst e2
  show xz v0 xs u _ 143 4 _ [] f
  obtain ⟨e, rfl⟩ : ∃ e : Nat, d = (e : Nat) := ⟨d.toNat, by omega⟩
  have bad : (S.2.1.length = 0 ∨ b < 0 ∨ ((G (S.2.1.getD (S.2.1.length - 1) sH0).1).length : Nat) < b) → sCQ f u K G exS (sSD K G S b (e : Nat)) (.inr 102) (xh f, u.1 + 1, u.2 + 6) := by
    intro hbad
    have eR : sSD K G S b (e : Nat) = (2, 0, S) := by unfold sSD; rw [if_pos ⟨h1, h2⟩, if_pos hbad]
    rw [eR]
    exact ⟨f, Or.inr ⟨(show (2 : Int) ≠ 0 from by decide), rfl, rfl⟩, hT, fun _ _ _ _ _ => rfl⟩
  refine x_aload_n rfl rfl ?_
  refine x_getfield rfl (by decide) h50 rfl ?_
  refine x_ifne (t := 21) rfl rfl ⟨by omega, by omega⟩ (fun hn0 => ?_) (fun hn0 => ?_)
  rotate_left
  · exact x_throw rfl (by decide) rfl (show (0 : Nat) ≤ 4 from by decide) (bad (Or.inl (by omega)))
  obtain ⟨m, hm⟩ : ∃ m : Nat, S.2.1.length = m + 1 := ⟨S.2.1.length - 1, by omega⟩
  have hm1 : S.2.1.length - 1 = m := by omega
  rw [hm1] at bad
  obtain ⟨j1, l, j2, j3⟩ := hJ m (by omega)
  have hgl := hG m (by omega)
  refine x_aload_n rfl rfl ?_
  refine x_getfield rfl (by decide) h50 rfl ?_
  refine x_aload_n rfl rfl ?_
  refine x_getfield rfl (by decide) h50 rfl ?_
  refine x_iconst rfl ?_
  refine x_isub rfl ?_
  rw [show ((S.2.1.length : Nat) : Int) - 1 = (m : Nat) from by omega]
  refine x_aaload rfl (by decide) (s122 hM) ⟨by omega, by rw [show xjl.length = 24 from rfl]; omega⟩ (by decide) (o := 123 + 2 * m) (by rw [Int.toNat_natCast]; exact xjl_at _ (by omega)) ?_
  refine x_astore_n rfl (show (3 : Nat) < 4 from by decide) ?_
  refine x_iload_n rfl (xst_ne (by decide) rfl (Or.inl rfl)) ?_
  refine x_iflt (t := 45) rfl rfl hb (fun hb0 => ?_) (fun hb0 => ?_)
  · exact x_throw rfl (by decide) rfl (show (0 : Nat) ≤ 4 from by decide) (bad (Or.inr (Or.inl hb0)))
  refine x_iload_n rfl (xst_ne (by decide) rfl (Or.inl rfl)) ?_
  refine x_aload_n rfl xst_eq ?_
  refine x_getfield rfl (by omega) j1 rfl ?_
  refine x_cle (t := 55) rfl rfl hb ⟨by omega, by omega⟩ (fun hb1 => ?_) (fun hb1 => ?_)
  rotate_left
  · exact x_throw rfl (by decide) rfl (show (0 : Nat) ≤ 4 from by decide) (bad (Or.inr (Or.inr hb1)))
  obtain ⟨k, rfl⟩ : ∃ k : Nat, b = (k : Nat) := ⟨b.toNat, by omega⟩
  obtain ⟨a1, a2⟩ := (j3.2 k (by omega)).2.2 e (by omega)
  have a3 : 0 ≤ srow (sbt K (G (S.2.1.getD m sH0).1)) (S.2.1.getD m sH0).2.1 (S.2.1.getD m sH0).2.2 k e ∧ srow (sbt K (G (S.2.1.getD m sH0).1)) (S.2.1.getD m sH0).2.1 (S.2.1.getD m sH0).2.2 k e < 400 := a2
  refine x_aload_n rfl xst_eq ?_
  refine x_iload_n rfl (xst_ne (by decide) rfl (Or.inl rfl)) ?_
  refine x_iload_n rfl (xst_ne (by decide) rfl (Or.inl rfl)) ?_
  refine x_call [_, _, _] rfl rfl (show (0 : Nat) ≤ 8 from by decide) (show (3 : Nat) ≤ 3 from by decide) (x_rcv (by omega) j1) (xs_142 (t := 123 + 2 * m) ⟨by omega, by omega⟩ j1 j2 j3.1 ⟨by omega, by omega⟩ (by omega)) (fun r' f' hP => ?_)
  obtain ⟨rfl, hPe⟩ := hP
  subst f'
  rw [a1]
  refine x_iconst rfl ?_
  refine x_idiv rfl ⟨by omega, by omega⟩ (by decide) ?_
  have eR : sSD K G S (k : Nat) (e : Nat) = (0, srow (sbt K (G (S.2.1.getD m sH0).1)) (S.2.1.getD m sH0).2.1 (S.2.1.getD m sH0).2.2 k e / 4, S) := by
    unfold sSD
    rw [if_pos ⟨h1, h2⟩, hm1, if_neg (by omega), Int.toNat_natCast, Int.toNat_natCast]
  rw [eR]
  exact x_ireturn rfl (Or.inl rfl) ⟨f, Or.inl ⟨rfl, rfl, rfl⟩, hT, fun _ _ _ _ _ => rfl⟩
theorem xs_146 {v0 : Value} {xs : List Int32} {u : Nat × Nat} {f : Nat → zE} {K : List (Int × Int)} {G : Nat → List xBt} {S : sS} {s d : Int} (hM : yM yT2 (xh f)) (hT : sCT f K G S) (hs : -2147483648 ≤ s ∧ s ≤ 2147483647) (hd : -2147483648 ≤ d ∧ d ≤ 2147483647) : xz v0 xs u (sCQ f u K G exW (sSL S s d)) 146 0 [(0, .ref 50), (1, xi s), (2, xi d)] [] f := by
  obtain ⟨⟨lf, h50⟩, ⟨pl, h175, hpl, hrl⟩, h24, hJ⟩ := id hT
  have bad : ¬ ((0 ≤ s ∧ s ≤ 12) ∧ 0 ≤ d ∧ d < 8) → sCQ f u K G exW (sSL S s d) (.inr 100) (xh f, u.1 + 1, u.2 + 6) := by
    intro hbad
    have eR : sSL S s d = (1, 0, S) := by unfold sSL; rw [if_neg hbad]
    rw [eR]
    exact ⟨f, Or.inr ⟨(show (1 : Int) ≠ 0 from by decide), rfl, rfl⟩, hT, fun _ _ _ _ _ => rfl⟩
  refine x_iload_n rfl rfl ?_
  refine x_iflt (t := 10) rfl rfl hs (fun hs0 => ?_) (fun hs0 => ?_)
  · exact x_throw rfl (by decide) rfl (show (0 : Nat) ≤ 4 from by decide) (bad (by omega))
  refine x_iload_n rfl rfl ?_
  refine x_bipush rfl (by decide) ?_
  refine x_clt (t := 20) rfl rfl hs (by decide) (fun hs1 => ?_) (fun hs1 => ?_)
  rotate_left
  · exact x_throw rfl (by decide) rfl (show (0 : Nat) ≤ 4 from by decide) (bad (by omega))
  refine x_iload_n rfl rfl ?_
  refine x_callU [_] rfl rfl (show (0 : Nat) ≤ 8 from by decide) (show (1 : Nat) ≤ 1 from by decide) rfl (xs_137q (z := d) hd) (fun r' X' hq => ?_) (fun x X' hq => ?_)
  rotate_left
  · rcases hq with ⟨e1, -⟩ | ⟨e1, e2, h⟩
    · cases e1
    · cases e1
      subst e2
      have eR : sSL S s d = (1, 0, S) := by unfold sSL; rw [if_neg (fun hh => h hh.2)]
      rw [eR]
      exact ⟨rfl, f, Or.inr ⟨(show (1 : Int) ≠ 0 from by decide), rfl, rfl⟩, hT, fun _ _ _ _ _ => rfl⟩
  rcases hq with ⟨e1, e2, h1, h2⟩ | ⟨e1, -⟩
  rotate_left
  · cases e1
  cases e1
  subst e2
  show xz v0 xs u _ 146 24 _ [] f
  obtain ⟨e, rfl⟩ : ∃ e : Nat, d = (e : Nat) := ⟨d.toNat, by omega⟩
  obtain ⟨n113, n114, ⟨dl, n115, n1⟩, -⟩ := sDN_M hM
  refine x_aload_n rfl rfl ?_
  refine x_getfield rfl (by decide) h50 rfl ?_
  refine x_getfield rfl (by decide) n113 rfl ?_
  refine x_iload_n rfl rfl ?_
  refine x_aload_n rfl rfl ?_
  refine x_getfield rfl (by decide) h50 rfl ?_
  refine x_iconst rfl ?_
  refine x_call [_, _, _, _] rfl rfl (show (0 : Nat) ≤ 8 from by decide) (show (4 : Nat) ≤ 4 from by decide) (x_rcv (by decide) n114) (xs_97 (p := 175) (fr := 0) (by decide) n114 n115 n1 ⟨by omega, by omega⟩ (sRL_RW (by decide) h175 (by omega) hrl)) (fun r' f1 hP => ?_)
  obtain ⟨rfl, -, hfr⟩ := hP
  refine x_iload_n rfl rfl ?_
  refine x_ishr rfl ?_
  refine x_iconst rfl ?_
  refine x_iandg2 rfl (sm_bit (shas s S.1) (by omega)) ?_
  refine x_iconst rfl ?_
  have fin : ∀ {y : Int}, y = (if shas s S.1 e = true then 1 else 0) → sCQ f u K G exW (sSL S s (e : Nat)) (.inl (some (xi y))) (xh f1, u) := by
    intro y hy
    have eR : sSL S s (e : Nat) = (0, y, S) := by unfold sSL; rw [if_pos ⟨⟨by omega, by omega⟩, h1, h2⟩, Int.toNat_natCast, hy]
    rw [eR]
    exact ⟨f1, Or.inl ⟨rfl, rfl, rfl⟩, sCT_f hT (hfr 50 (by decide)) (fun q b1 b2 => hfr q (by omega)), fun q b1 b2 b3 b4 => hfr q b2⟩
  by_cases hh : shas s S.1 e = true
  · rw [if_pos hh]
    refine x_cne (t := 52) rfl rfl (by decide) (by decide) (fun h => absurd rfl h) (fun _ => ?_)
    refine x_iconst rfl ?_
    refine x_goto (t := 53) rfl rfl ?_
    exact x_ireturn rfl (Or.inr (Or.inl ⟨rfl, by decide⟩)) (fin (by rw [if_pos hh]))
  · rw [if_neg hh]
    refine x_cne (t := 52) rfl rfl (by decide) (by decide) (fun _ => ?_) (fun h => absurd h (by decide))
    refine x_iconst rfl ?_
    exact x_ireturn rfl (Or.inr (Or.inl ⟨rfl, by decide⟩)) (fin (by rw [if_neg hh]))
end
section
/-! Shape. -/
theorem x_dia {v0 : Value} {xs : List Int32} {u : Nat × Nat} {Q : zO → zX → Prop} {mi pc : Nat} {lv : zL} {st : List Value} {f : Nat → zE} (v : Int) (pj : Nat) (h : xz v0 xs u Q mi pj lv (xi v :: st) f → xz v0 xs u Q mi pc lv st f) (k : xz v0 xs u Q mi pj lv (xi v :: st) f) : xz v0 xs u Q mi pc lv st f := h k
theorem x_maxi {v0 : Value} {xs : List Int32} {u : Nat × Nat} {Q : zO → zX → Prop} {mi pc n : Nat} {lv : zL} {f : Nat → zE} {c : Nat} {v : Value} {r : List Value} {x y : Int} (hc : zcd (zt v0) mi pc = some (.invokestatic n, 1, 1, c, v)) (h8 : zcat (xi x :: r) ≤ 8) (hx : -2147483648 ≤ x ∧ x ≤ 2147483647) (hy : -2147483648 ≤ y ∧ y ≤ 2147483647) (k : xz v0 xs u Q mi (pc + 3) lv (xi (if x < y then y else x) :: r) f) : xz v0 xs u Q mi pc lv (xi y :: xi x :: r) f := by
  obtain ⟨z1, z2, z3, z4, z5⟩ := zk_za (G := zG xs) (df := zdf (zt v0)) (i := .invokestatic n) (a := 1) (b := 1) (c := c) (v := v) (nL := znl (zt v0) mi) (pc := pc) (lv := lv) (st := xi y :: xi x :: r) (X := (xh f, u)) rfl
  have e : zd 1 (xi y :: xi x :: r) (xh f, u) = some (xi (if x < y then y else x) :: r, (xh f, u)) := by
    simp only [zd, xi_lt hx hy]
    by_cases h : x < y
    · rw [if_pos h, if_pos h]
    · rw [if_neg h, if_neg h]
  exact zwp_jdk ⟨hc, z1, z2, z3⟩ z4 rfl rfl e h8 k
theorem x_mini {v0 : Value} {xs : List Int32} {u : Nat × Nat} {Q : zO → zX → Prop} {mi pc n : Nat} {lv : zL} {f : Nat → zE} {c : Nat} {v : Value} {r : List Value} {x y : Int} (hc : zcd (zt v0) mi pc = some (.invokestatic n, 1, 2, c, v)) (h8 : zcat (xi x :: r) ≤ 8) (hx : -2147483648 ≤ x ∧ x ≤ 2147483647) (hy : -2147483648 ≤ y ∧ y ≤ 2147483647) (k : xz v0 xs u Q mi (pc + 3) lv (xi (if y < x then y else x) :: r) f) : xz v0 xs u Q mi pc lv (xi y :: xi x :: r) f := by
  obtain ⟨z1, z2, z3, z4, z5⟩ := zk_za (G := zG xs) (df := zdf (zt v0)) (i := .invokestatic n) (a := 1) (b := 2) (c := c) (v := v) (nL := znl (zt v0) mi) (pc := pc) (lv := lv) (st := xi y :: xi x :: r) (X := (xh f, u)) rfl
  have e : zd 2 (xi y :: xi x :: r) (xh f, u) = some (xi (if y < x then y else x) :: r, (xh f, u)) := by
    simp only [zd, xi_lt hy hx]
    by_cases h : y < x
    · rw [if_pos h, if_pos h]
    · rw [if_neg h, if_neg h]
  exact zwp_jdk ⟨hc, z1, z2, z3⟩ z4 rfl rfl e h8 k
def slo (i : Int) (g : Nat → Int) : Nat → Int
  | 0 => i
  | k + 1 => if g k < slo i g k then g k else slo i g k
def shi (g : Nat → Int) : Nat → Int
  | 0 => 0
  | k + 1 => if shi g k < g k then g k else shi g k
theorem slo_rg {i : Int} {g : Nat → Int} (hi : 0 ≤ i) (h : ∀ e, e < 8 → 0 ≤ g e ∧ g e ≤ 9) : ∀ k, k ≤ 8 → 0 ≤ slo i g k ∧ slo i g k ≤ i := by
  intro k
  induction k with
  | zero => intro _; exact ⟨hi, Int.le_refl _⟩
  | succ k ih =>
    intro hk
    have := ih (by omega)
    have := h k (by omega)
    simp only [slo]
    split <;> omega
theorem shi_rg {g : Nat → Int} (h : ∀ e, e < 8 → 0 ≤ g e ∧ g e ≤ 9) : ∀ k, k ≤ 8 → 0 ≤ shi g k ∧ shi g k ≤ 9 := by
  intro k
  induction k with
  | zero => intro _; exact ⟨by show (0 : Int) ≤ 0; omega, by show (0 : Int) ≤ 9; omega⟩
  | succ k ih =>
    intro hk
    have := ih (by omega)
    have := h k (by omega)
    simp only [shi]
    split <;> omega
theorem slo_10 {g : Nat → Int} (h : ∀ e, e < 8 → 0 ≤ g e ∧ g e ≤ 9) : ∀ k, k < 8 → slo 10 g (k + 1) = slo 9 g (k + 1) := by
  intro k
  induction k with
  | zero =>
    intro hk
    have := h 0 (by omega)
    show (if g 0 < 10 then g 0 else 10) = (if g 0 < 9 then g 0 else 9)
    split <;> split <;> omega
  | succ k ih =>
    intro hk
    have e := ih (by omega)
    show (if g (k + 1) < slo 10 g (k + 1) then g (k + 1) else slo 10 g (k + 1)) = (if g (k + 1) < slo 9 g (k + 1) then g (k + 1) else slo 9 g (k + 1))
    rw [e]
theorem slo_le {i : Int} {g : Nat → Int} : ∀ k d, d < k → slo i g k ≤ g d := by
  intro k
  induction k with
  | zero => intro d h; omega
  | succ k ih =>
    intro d h
    simp only [slo]
    by_cases e : d = k
    · subst e
      split <;> omega
    · have := ih d (by omega)
      split <;> omega
theorem shi_ge {g : Nat → Int} : ∀ k d, d < k → g d ≤ shi g k := by
  intro k
  induction k with
  | zero => intro d h; omega
  | succ k ih =>
    intro d h
    simp only [shi]
    by_cases e : d = k
    · subst e
      split <;> omega
    · have := ih d (by omega)
      split <;> omega
def sedge (p w s z : Int) : Int := (if sX p - w = 0 ∨ sX p - w = z - 1 then 1 else 0) + (if sY p - s = 0 ∨ sY p - s = z - 1 then 1 else 0)
def slx (r : Nat → Int) : Int := slo 9 (fun e => sX (r e)) 8
def shx (r : Nat → Int) : Int := shi (fun e => sX (r e)) 8
def sly (r : Nat → Int) : Int := slo 9 (fun e => sY (r e)) 8
def shy (r : Nat → Int) : Int := shi (fun e => sY (r e)) 8
def sside (a lo hi : Int) : Bool := decide (a = lo ∨ a = hi)
def shol (r : Nat → Int) (d : Nat) : Bool := if shx r - slx r + 1 = 4 then sside (sX (r d)) (slx r) (shx r) != sside (sY (r d)) (sly r) (shy r) else sside (sX (r d)) (slx r) (shx r) || sside (sY (r d)) (sly r) (shy r)
def shf (r : Nat → Int) : Int := if sall (shol r) 8 = true then 1 else 0
def sshape (r : Nat → Int) : Int := if (shx r - slx r + 1) * (shy r - sly r + 1) = 8 then (if shx r - slx r + 1 = 1 ∨ shy r - sly r + 1 = 1 then 1 else 2) else if shx r - slx r + 1 ≠ shy r - sly r + 1 ∨ shf r = 0 ∨ shx r - slx r + 1 < 3 ∨ 4 < shx r - slx r + 1 then 0 else if shx r - slx r + 1 = 4 then 3 else 4
def sshC (r : Nat → Int) (a b : Int) : Int := if a = 1 ∧ b = 8 then 1 else if a = 2 ∧ b = 4 then 2 else if a = 4 ∧ b = 4 ∧ scnt (fun d => sedge (r d) (slx r) (sly r) 4 == 1) 8 = 8 then 3 else if a = 3 ∧ b = 3 ∧ scnt (fun d => sedge (r d) (slx r) (sly r) 3 == 0) 8 = 0 then 4 else 0
theorem scnt_full (P : Nat → Bool) : ∀ k, scnt P k = (k : Nat) ↔ sall P k = true := by
  intro k
  induction k with
  | zero => simp [scnt, sall]
  | succ k ih =>
    have hr := scnt_rg P k
    simp only [scnt, sall, Bool.and_eq_true]
    cases hp : P k with
    | true =>
      rw [if_pos rfl, ← ih]
      constructor
      · intro h; exact ⟨by omega, rfl⟩
      · intro h; omega
    | false =>
      rw [if_neg (by decide)]
      constructor
      · intro h; omega
      · intro h; exact absurd h.2 (by decide)
theorem scnt_none (P : Nat → Bool) : ∀ k, scnt P k = 0 ↔ sall (fun d => !P d) k = true := by
  intro k
  induction k with
  | zero => simp [scnt, sall]
  | succ k ih =>
    have hr := scnt_rg P k
    simp only [scnt, sall, Bool.and_eq_true]
    cases hp : P k with
    | true =>
      rw [if_pos rfl]
      constructor
      · intro h; omega
      · intro h; exact absurd h.2 (by decide)
    | false =>
      rw [if_neg (by decide), ← ih]
      constructor
      · intro h; exact ⟨by omega, rfl⟩
      · intro h; omega
theorem sall_congr {P P' : Nat → Bool} : ∀ k, (∀ d, d < k → P d = P' d) → sall P k = sall P' k := by
  intro k
  induction k with
  | zero => intro _; rfl
  | succ k ih => intro h; simp only [sall]; rw [ih (fun d hd => h d (by omega)), h k (by omega)]
theorem sedge_4 {r : Nat → Int} (hx : shx r = slx r + 3) (hy : shy r = sly r + 3) (d : Nat) : (sedge (r d) (slx r) (sly r) 4 == 1) = shol r d := by
  have e : shol r d = (decide (sX (r d) = slx r ∨ sX (r d) = shx r) != decide (sY (r d) = sly r ∨ sY (r d) = shy r)) := by
    unfold shol
    rw [if_pos (show shx r - slx r + 1 = 4 by omega)]
    rfl
  rw [e]
  unfold sedge
  by_cases h1 : sX (r d) - slx r = 0 ∨ sX (r d) - slx r = 4 - 1 <;> by_cases h2 : sY (r d) - sly r = 0 ∨ sY (r d) - sly r = 4 - 1
  · rw [if_pos h1, if_pos h2, decide_eq_true (show sX (r d) = slx r ∨ sX (r d) = shx r by omega), decide_eq_true (show sY (r d) = sly r ∨ sY (r d) = shy r by omega)]; rfl
  · rw [if_pos h1, if_neg h2, decide_eq_true (show sX (r d) = slx r ∨ sX (r d) = shx r by omega), decide_eq_false (show ¬ (sY (r d) = sly r ∨ sY (r d) = shy r) by omega)]; rfl
  · rw [if_neg h1, if_pos h2, decide_eq_false (show ¬ (sX (r d) = slx r ∨ sX (r d) = shx r) by omega), decide_eq_true (show sY (r d) = sly r ∨ sY (r d) = shy r by omega)]; rfl
  · rw [if_neg h1, if_neg h2, decide_eq_false (show ¬ (sX (r d) = slx r ∨ sX (r d) = shx r) by omega), decide_eq_false (show ¬ (sY (r d) = sly r ∨ sY (r d) = shy r) by omega)]; rfl
theorem sedge_3 {r : Nat → Int} (hx : shx r = slx r + 2) (hy : shy r = sly r + 2) (d : Nat) : (!(sedge (r d) (slx r) (sly r) 3 == 0)) = shol r d := by
  have e : shol r d = (decide (sX (r d) = slx r ∨ sX (r d) = shx r) || decide (sY (r d) = sly r ∨ sY (r d) = shy r)) := by
    unfold shol
    rw [if_neg (show ¬ shx r - slx r + 1 = 4 by omega)]
    rfl
  rw [e]
  unfold sedge
  by_cases h1 : sX (r d) - slx r = 0 ∨ sX (r d) - slx r = 3 - 1 <;> by_cases h2 : sY (r d) - sly r = 0 ∨ sY (r d) - sly r = 3 - 1
  · rw [if_pos h1, if_pos h2, decide_eq_true (show sX (r d) = slx r ∨ sX (r d) = shx r by omega), decide_eq_true (show sY (r d) = sly r ∨ sY (r d) = shy r by omega)]; rfl
  · rw [if_pos h1, if_neg h2, decide_eq_true (show sX (r d) = slx r ∨ sX (r d) = shx r by omega), decide_eq_false (show ¬ (sY (r d) = sly r ∨ sY (r d) = shy r) by omega)]; rfl
  · rw [if_neg h1, if_pos h2, decide_eq_false (show ¬ (sX (r d) = slx r ∨ sX (r d) = shx r) by omega), decide_eq_true (show sY (r d) = sly r ∨ sY (r d) = shy r by omega)]; rfl
  · rw [if_neg h1, if_neg h2, decide_eq_false (show ¬ (sX (r d) = slx r ∨ sX (r d) = shx r) by omega), decide_eq_false (show ¬ (sY (r d) = sly r ∨ sY (r d) = shy r) by omega)]; rfl
theorem sshape_rg {r : Nat → Int} (h : ∀ e, e < 8 → sok (r e)) : (0 ≤ slx r ∧ slx r ≤ shx r ∧ shx r ≤ 9) ∧ 0 ≤ sly r ∧ sly r ≤ shy r ∧ shy r ≤ 9 := by
  have hX : ∀ e, e < 8 → 0 ≤ sX (r e) ∧ sX (r e) ≤ 9 := fun e he => sX_rg (h e he)
  have hY : ∀ e, e < 8 → 0 ≤ sY (r e) ∧ sY (r e) ≤ 9 := fun e he => sY_rg (h e he)
  have a1 := slo_rg (i := 9) (by decide) hX 8 (Nat.le_refl _)
  have a2 := shi_rg hX 8 (Nat.le_refl _)
  have a3 := slo_rg (i := 9) (by decide) hY 8 (Nat.le_refl _)
  have a4 := shi_rg hY 8 (Nat.le_refl _)
  have b1 := slo_le (i := 9) (g := fun e => sX (r e)) 8 0 (by decide)
  have b2 := shi_ge (g := fun e => sX (r e)) 8 0 (by decide)
  have b3 := slo_le (i := 9) (g := fun e => sY (r e)) 8 0 (by decide)
  have b4 := shi_ge (g := fun e => sY (r e)) 8 0 (by decide)
  unfold slx shx sly shy
  exact ⟨⟨a1.1, Int.le_trans b1 b2, a2.2⟩, a3.1, Int.le_trans b3 b4, a4.2⟩
theorem shf_rg (r : Nat → Int) : 0 ≤ shf r ∧ shf r ≤ 1 := by
  unfold shf
  split <;> omega
theorem sshape_s {r : Nat → Int} {k : Int} (hk : k = 3 ∨ k = 2) (h1 : shx r - slx r = k) (h2 : shy r - sly r = k) : sshape r = if shf r = 0 then 0 else if k = 3 then 3 else 4 := by
  have hf := shf_rg r
  unfold sshape
  rw [h1, h2]
  rcases hk with rfl | rfl
  · rw [if_neg (by decide)]
    by_cases h : shf r = 0
    · rw [if_pos (Or.inr (Or.inl h)), if_pos h]
    · rw [if_neg (by omega), if_neg h, if_pos (by decide), if_pos rfl]
  · rw [if_neg (by decide)]
    by_cases h : shf r = 0
    · rw [if_pos (Or.inr (Or.inl h)), if_pos h]
    · rw [if_neg (by omega), if_neg h, if_neg (by decide), if_neg (by decide)]
theorem sshC_eq {r : Nat → Int} {a b : Int} (h : ∀ e, e < 8 → sok (r e)) (ha : a = (if shy r - sly r < shx r - slx r then shy r - sly r else shx r - slx r) + 1) (hb : b = (if shx r - slx r < shy r - sly r then shy r - sly r else shx r - slx r) + 1) : sshC r a b = sshape r := by
  obtain ⟨⟨x1, x2, x3⟩, y1, y2, y3⟩ := sshape_rg h
  have ha2 : (shy r - sly r < shx r - slx r ∧ a = shy r - sly r + 1) ∨ (¬ shy r - sly r < shx r - slx r ∧ a = shx r - slx r + 1) := by rw [ha]; split <;> omega
  have hb2 : (shx r - slx r < shy r - sly r ∧ b = shy r - sly r + 1) ∨ (¬ shx r - slx r < shy r - sly r ∧ b = shx r - slx r + 1) := by rw [hb]; split <;> omega
  clear ha hb
  by_cases c4 : shx r - slx r = 3 ∧ shy r - sly r = 3
  · have ea : a = 4 := by omega
    have eb : b = 4 := by omega
    subst ea
    subst eb
    have e := sall_congr 8 fun d _ => sedge_4 (r := r) (by omega) (by omega) d
    have ef := scnt_full (fun d => sedge (r d) (slx r) (sly r) 4 == 1) 8
    rw [e] at ef
    rw [sshape_s (Or.inl rfl) c4.1 c4.2]
    unfold sshC shf
    rw [if_neg (by decide), if_neg (by decide)]
    by_cases hh : sall (shol r) 8 = true
    · rw [if_pos ⟨rfl, rfl, ef.mpr hh⟩, if_pos hh]
      rfl
    · rw [if_neg (fun hc => hh (ef.mp hc.2.2)), if_neg (fun hc => absurd hc.1 (by decide)), if_neg hh]
      rfl
  · by_cases c3 : shx r - slx r = 2 ∧ shy r - sly r = 2
    · have ea : a = 3 := by omega
      have eb : b = 3 := by omega
      subst ea
      subst eb
      have e := sall_congr 8 fun d _ => sedge_3 (r := r) (by omega) (by omega) d
      have ef := scnt_none (fun d => sedge (r d) (slx r) (sly r) 3 == 0) 8
      rw [e] at ef
      rw [sshape_s (Or.inr rfl) c3.1 c3.2]
      unfold sshC shf
      rw [if_neg (by decide), if_neg (by decide), if_neg (fun hc => absurd hc.1 (by decide))]
      by_cases hh : sall (shol r) 8 = true
      · rw [if_pos ⟨rfl, rfl, ef.mpr hh⟩, if_pos hh]
        rfl
      · rw [if_neg (fun hc => hh (ef.mp hc.2.2)), if_neg hh]
        rfl
    · have e0 : (if shx r - slx r + 1 ≠ shy r - sly r + 1 ∨ shf r = 0 ∨ shx r - slx r + 1 < 3 ∨ 4 < shx r - slx r + 1 then (0 : Int) else if shx r - slx r + 1 = 4 then 3 else 4) = 0 := by
        by_cases ew : shx r - slx r + 1 ≠ shy r - sly r + 1
        · rw [if_pos (Or.inl ew)]
        · rw [if_pos (Or.inr (Or.inr (by omega)))]
      have e3 : ¬ (a = 4 ∧ b = 4 ∧ scnt (fun d => sedge (r d) (slx r) (sly r) 4 == 1) 8 = 8) := fun hc => by omega
      have e4 : ¬ (a = 3 ∧ b = 3 ∧ scnt (fun d => sedge (r d) (slx r) (sly r) 3 == 0) 8 = 0) := fun hc => by omega
      unfold sshape
      rw [e0]
      unfold sshC
      simp only [if_neg e3, if_neg e4]
      clear e0 e3 e4
      have hA9 : 0 ≤ shx r - slx r ∧ shx r - slx r ≤ 9 := by omega
      have hB9 : 0 ≤ shy r - sly r ∧ shy r - sly r ≤ 9 := by omega
      generalize shx r - slx r = A at *
      generalize shy r - sly r = B at *
      rcases (show A = 0 ∨ A = 1 ∨ A = 2 ∨ A = 3 ∨ A = 4 ∨ A = 5 ∨ A = 6 ∨ A = 7 ∨ A = 8 ∨ A = 9 by omega) with e | e | e | e | e | e | e | e | e | e <;> subst e <;> (repeat' split) <;> omega
theorem shol_s {r : Nat → Int} {d : Nat} {a b s : Int} (ha : (a = 1 ∧ (sX (r d) = slx r ∨ sX (r d) = shx r)) ∨ (a = 0 ∧ ¬ (sX (r d) = slx r ∨ sX (r d) = shx r))) (hb : (b = 1 ∧ (sY (r d) = sly r ∨ sY (r d) = shy r)) ∨ (b = 0 ∧ ¬ (sY (r d) = sly r ∨ sY (r d) = shy r))) (hs : s = if sall (shol r) d = true then 1 else 0) : (if s = 1 ∧ ((shx r - slx r + 1 = 4 ∧ a ≠ b) ∨ (shx r - slx r + 1 ≠ 4 ∧ (a = 1 ∨ b = 1))) then (1 : Int) else 0) = if sall (shol r) (d + 1) = true then 1 else 0 := by
  have e1 : sall (shol r) (d + 1) = (sall (shol r) d && shol r d) := rfl
  have e2 : shol r d = if shx r - slx r + 1 = 4 then (decide (sX (r d) = slx r ∨ sX (r d) = shx r) != decide (sY (r d) = sly r ∨ sY (r d) = shy r)) else (decide (sX (r d) = slx r ∨ sX (r d) = shx r) || decide (sY (r d) = sly r ∨ sY (r d) = shy r)) := rfl
  rw [e1, e2, hs]
  generalize sall (shol r) d = bb
  generalize shx r - slx r + 1 = W
  have hd : ∀ {p : Prop} [Decidable p], p → decide p = true := fun h => decide_eq_true h
  have hn : ∀ {p : Prop} [Decidable p], ¬ p → decide p = false := fun h => decide_eq_false h
  rcases ha with ⟨rfl, hA⟩ | ⟨rfl, hA⟩ <;> rcases hb with ⟨rfl, hB⟩ | ⟨rfl, hB⟩
  · rw [hd hA, hd hB]
    by_cases h4 : W = 4 <;> cases bb <;> simp [h4]
  · rw [hd hA, hn hB]
    by_cases h4 : W = 4 <;> cases bb <;> simp [h4]
  · rw [hn hA, hd hB]
    by_cases h4 : W = 4 <;> cases bb <;> simp [h4]
  · rw [hn hA, hn hB]
    by_cases h4 : W = 4 <;> cases bb <;> simp [h4]
end
section
/-! Shape: the class. -/
theorem sRL_at {pl : List Int} {r : Nat → Int} (h : sRL pl 0 r) {d : Nat} (hd : d < 8) : pl.getD d 0 = r d ∧ sok (r d) := by
  obtain ⟨a1, a2⟩ := h.2.2 d hd
  rw [show ((0 : Int) + (d : Nat)).toNat = d by omega] at a1
  exact ⟨a1, a2⟩
theorem xs_149l {v0 : Value} {xs : List Int32} {u : Nat × Nat} {f : Nat → zE} {pl : List Int} {r : Nat → Int} (h175 : f 175 = xr 0 pl) (hpl : pl.length = 8) (hrl : sRL pl 0 r) {W So z wt : Int} (hW : 0 ≤ W ∧ W ≤ 10) (hS : 0 ≤ So ∧ So ≤ 10) (hz : 1 ≤ z ∧ z ≤ 4) (hwt : 0 ≤ wt ∧ wt ≤ 2) : ∀ (w d : Nat) (lv : zL), w + d = 8 → zlv lv 0 = some (.ref 175) → zlv lv 1 = some (xi W) → zlv lv 2 = some (xi So) → zlv lv 3 = some (xi z) → zlv lv 4 = some (xi wt) → zlv lv 5 = some (xi (scnt (fun d => sedge (r d) W So z == wt) d)) → zlv lv 6 = some (xi (d : Nat)) → xz v0 xs u (fun o X => ∃ r' f', o = .inl r' ∧ X = (xh f', u) ∧ (fun r' f' => r' = some (xi (scnt (fun d => sedge (r d) W So z == wt) 8)) ∧ f' = f) r' f') 149 6 lv [] f := by
  intro w
  induction w with
  | zero =>
    intro d lv hw l0 l1 l2 l3 l4 l5 l6
    have e8 : d = 8 := by omega
    subst e8
    refine x_iload rfl l6 ?_
    refine x_bipush rfl (by decide) ?_
    refine x_cge (t := 94) rfl rfl (by decide) (by decide) (fun _ => ?_) (fun h => absurd h (by decide))
    refine x_iload rfl l5 ?_
    exact x_ireturn rfl (Or.inl rfl) ⟨_, _, rfl, rfl, rfl, rfl⟩
  | succ w ih =>
    intro d lv hw l0 l1 l2 l3 l4 l5 l6
    have hd : d < 8 := by omega
    obtain ⟨a1, a2⟩ := sRL_at hrl hd
    have hc := scnt_rg (fun d => sedge (r d) W So z == wt) d
    have hX := sX_rg a2
    have hY := sY_rg a2
    have a3 : 0 ≤ r d ∧ r d < 400 := a2
    refine x_iload rfl l6 ?_
    refine x_bipush rfl (by decide) ?_
    refine x_cge (t := 94) rfl rfl ⟨by omega, by omega⟩ (by decide) (fun h => absurd h (by omega)) (fun _ => ?_)
    refine x_aload_n rfl l0 ?_
    refine x_iload rfl l6 ?_
    refine x_iaload rfl (by decide) h175 ⟨by omega, by omega⟩ (by omega) ?_
    rw [Int.toNat_natCast, a1]
    refine x_iconst rfl ?_
    refine x_idiv rfl ⟨by omega, by omega⟩ (by decide) ?_
    refine x_bipush rfl (by decide) ?_
    refine x_irem rfl ⟨by omega, by omega⟩ (by decide) ?_
    rw [show r d / 4 % 10 = sX (r d) from rfl]
    refine x_iload_n rfl l1 ?_
    refine x_isub rfl ?_
    refine x_istore rfl (show (7 : Nat) < 10 from by decide) ?_
    refine x_aload_n rfl (xst_ne (by decide) l0 (Or.inl rfl)) ?_
    refine x_iload rfl (xst_ne (by decide) l6 (Or.inl rfl)) ?_
    refine x_iaload rfl (by decide) h175 ⟨by omega, by omega⟩ (by omega) ?_
    rw [Int.toNat_natCast, a1]
    refine x_iconst rfl ?_
    refine x_idiv rfl ⟨by omega, by omega⟩ (by decide) ?_
    refine x_bipush rfl (by decide) ?_
    refine x_idiv rfl ⟨by omega, by omega⟩ (by decide) ?_
    rw [show r d / 4 / 10 = sY (r d) by unfold sY; omega]
    refine x_iload_n rfl (xst_ne (by decide) l2 (Or.inl rfl)) ?_
    refine x_isub rfl ?_
    refine x_istore rfl (show (8 : Nat) < 10 from by decide) ?_
    refine x_dia (if sX (r d) - W = 0 ∨ sX (r d) - W = z - 1 then 1 else 0) 57 (fun k => ?_) ?_
    · refine x_iload rfl (xst_ne (by decide) xst_eq (Or.inl rfl)) ?_
      refine x_ifeq (t := 52) rfl rfl ⟨by omega, by omega⟩ (fun h41 => ?_) (fun h41 => ?_)
      · refine x_iconst rfl ?_
        refine x_goto (t := 57) rfl rfl ?_
        first | exact k | (rw [if_pos (by omega)] at k; exact k) | (rw [if_neg (by omega)] at k; exact k)
      · refine x_iload rfl (xst_ne (by decide) xst_eq (Or.inl rfl)) ?_
        refine x_iload_n rfl (xst_ne (by decide) (xst_ne (by decide) l3 (Or.inl rfl)) (Or.inl rfl)) ?_
        refine x_iconst rfl ?_
        refine x_isub rfl ?_
        refine x_cne (t := 56) rfl rfl ⟨by omega, by omega⟩ ⟨by omega, by omega⟩ (fun h49 => ?_) (fun h49 => ?_)
        · refine x_iconst rfl ?_
          first | exact k | (rw [if_pos (by omega)] at k; exact k) | (rw [if_neg (by omega)] at k; exact k)
        · refine x_iconst rfl ?_
          refine x_goto (t := 57) rfl rfl ?_
          first | exact k | (rw [if_pos (by omega)] at k; exact k) | (rw [if_neg (by omega)] at k; exact k)
    refine x_dia (if sY (r d) - So = 0 ∨ sY (r d) - So = z - 1 then 1 else 0) 75 (fun k => ?_) ?_
    · refine x_iload rfl xst_eq ?_
      refine x_ifeq (t := 70) rfl rfl ⟨by omega, by omega⟩ (fun h59 => ?_) (fun h59 => ?_)
      · refine x_iconst rfl ?_
        refine x_goto (t := 75) rfl rfl ?_
        first | exact k | (rw [if_pos (by omega)] at k; exact k) | (rw [if_neg (by omega)] at k; exact k)
      · refine x_iload rfl xst_eq ?_
        refine x_iload_n rfl (xst_ne (by decide) (xst_ne (by decide) l3 (Or.inl rfl)) (Or.inl rfl)) ?_
        refine x_iconst rfl ?_
        refine x_isub rfl ?_
        refine x_cne (t := 74) rfl rfl ⟨by omega, by omega⟩ ⟨by omega, by omega⟩ (fun h67 => ?_) (fun h67 => ?_)
        · refine x_iconst rfl ?_
          first | exact k | (rw [if_pos (by omega)] at k; exact k) | (rw [if_neg (by omega)] at k; exact k)
        · refine x_iconst rfl ?_
          refine x_goto (t := 75) rfl rfl ?_
          first | exact k | (rw [if_pos (by omega)] at k; exact k) | (rw [if_neg (by omega)] at k; exact k)
    refine x_iadd rfl ?_
    rw [show (if sX (r d) - W = 0 ∨ sX (r d) - W = z - 1 then (1 : Int) else 0) + (if sY (r d) - So = 0 ∨ sY (r d) - So = z - 1 then 1 else 0) = sedge (r d) W So z from rfl]
    have he : 0 ≤ sedge (r d) W So z ∧ sedge (r d) W So z ≤ 2 := by unfold sedge; split <;> split <;> omega
    refine x_istore rfl (show (9 : Nat) < 10 from by decide) ?_
    refine x_iload rfl xst_eq ?_
    refine x_iload rfl (xst_ne (by decide) (xst_ne (by decide) (xst_ne (by decide) l4 (Or.inl rfl)) (Or.inl rfl)) (Or.inl rfl)) ?_
    refine x_cne (t := 88) rfl rfl ⟨by omega, by omega⟩ ⟨by omega, by omega⟩ (fun h82 => ?_) (fun h82 => ?_)
    · refine x_iinc rfl (xst_ne (by decide) (xst_ne (by decide) (xst_ne (by decide) l6 (Or.inl rfl)) (Or.inl rfl)) (Or.inl rfl)) (show (6 : Nat) < 10 from by decide) ?_
      refine x_goto (t := 6) rfl rfl ?_
      have e9 : scnt (fun d => sedge (r d) W So z == wt) (d + 1) = scnt (fun d => sedge (r d) W So z == wt) d := by
        show scnt (fun d => sedge (r d) W So z == wt) d + (if (sedge (r d) W So z == wt) = true then 1 else 0) = _
        rw [if_neg (by rw [beq_iff_eq]; exact h82)]; omega
      refine ih (d + 1) _ (by omega) (xst_ne (by decide) (xst_ne (by decide) (xst_ne (by decide) (xst_ne (by decide) l0 (Or.inl rfl)) (Or.inl rfl)) (Or.inl rfl)) (Or.inl rfl)) (xst_ne (by decide) (xst_ne (by decide) (xst_ne (by decide) (xst_ne (by decide) l1 (Or.inl rfl)) (Or.inl rfl)) (Or.inl rfl)) (Or.inl rfl)) (xst_ne (by decide) (xst_ne (by decide) (xst_ne (by decide) (xst_ne (by decide) l2 (Or.inl rfl)) (Or.inl rfl)) (Or.inl rfl)) (Or.inl rfl)) (xst_ne (by decide) (xst_ne (by decide) (xst_ne (by decide) (xst_ne (by decide) l3 (Or.inl rfl)) (Or.inl rfl)) (Or.inl rfl)) (Or.inl rfl)) (xst_ne (by decide) (xst_ne (by decide) (xst_ne (by decide) (xst_ne (by decide) l4 (Or.inl rfl)) (Or.inl rfl)) (Or.inl rfl)) (Or.inl rfl)) ?_ xst_eq
      rw [e9]
      exact (xst_ne (by decide) (xst_ne (by decide) (xst_ne (by decide) (xst_ne (by decide) l5 (Or.inl rfl)) (Or.inl rfl)) (Or.inl rfl)) (Or.inl rfl))
    · refine x_iinc rfl (xst_ne (by decide) (xst_ne (by decide) (xst_ne (by decide) l5 (Or.inl rfl)) (Or.inl rfl)) (Or.inl rfl)) (show (5 : Nat) < 10 from by decide) ?_
      refine x_iinc rfl (xst_ne (by decide) (xst_ne (by decide) (xst_ne (by decide) (xst_ne (by decide) l6 (Or.inl rfl)) (Or.inl rfl)) (Or.inl rfl)) (Or.inl rfl)) (show (6 : Nat) < 10 from by decide) ?_
      refine x_goto (t := 6) rfl rfl ?_
      have e9 : scnt (fun d => sedge (r d) W So z == wt) (d + 1) = scnt (fun d => sedge (r d) W So z == wt) d + 1 := by
        show scnt (fun d => sedge (r d) W So z == wt) d + (if (sedge (r d) W So z == wt) = true then 1 else 0) = _
        rw [if_pos (by rw [beq_iff_eq]; exact h82)]
      refine ih (d + 1) _ (by omega) (xst_ne (by decide) (xst_ne (by decide) (xst_ne (by decide) (xst_ne (by decide) (xst_ne (by decide) l0 (Or.inl rfl)) (Or.inl rfl)) (Or.inl rfl)) (Or.inl rfl)) (Or.inl rfl)) (xst_ne (by decide) (xst_ne (by decide) (xst_ne (by decide) (xst_ne (by decide) (xst_ne (by decide) l1 (Or.inl rfl)) (Or.inl rfl)) (Or.inl rfl)) (Or.inl rfl)) (Or.inl rfl)) (xst_ne (by decide) (xst_ne (by decide) (xst_ne (by decide) (xst_ne (by decide) (xst_ne (by decide) l2 (Or.inl rfl)) (Or.inl rfl)) (Or.inl rfl)) (Or.inl rfl)) (Or.inl rfl)) (xst_ne (by decide) (xst_ne (by decide) (xst_ne (by decide) (xst_ne (by decide) (xst_ne (by decide) l3 (Or.inl rfl)) (Or.inl rfl)) (Or.inl rfl)) (Or.inl rfl)) (Or.inl rfl)) (xst_ne (by decide) (xst_ne (by decide) (xst_ne (by decide) (xst_ne (by decide) (xst_ne (by decide) l4 (Or.inl rfl)) (Or.inl rfl)) (Or.inl rfl)) (Or.inl rfl)) (Or.inl rfl)) ?_ xst_eq
      rw [e9]
      exact (xst_ne (by decide) xst_eq (Or.inl rfl))
theorem xs_149 {v0 : Value} {xs : List Int32} {u : Nat × Nat} {f : Nat → zE} {pl : List Int} {r : Nat → Int} (h175 : f 175 = xr 0 pl) (hpl : pl.length = 8) (hrl : sRL pl 0 r) {W So z wt : Int} (hW : 0 ≤ W ∧ W ≤ 10) (hS : 0 ≤ So ∧ So ≤ 10) (hz : 1 ≤ z ∧ z ≤ 4) (hwt : 0 ≤ wt ∧ wt ≤ 2) : xq v0 xs u 149 [(0, .ref 175), (1, xi W), (2, xi So), (3, xi z), (4, xi wt)] f (fun r' f' => r' = some (xi (scnt (fun d => sedge (r d) W So z == wt) 8)) ∧ f' = f) := by
  unfold xq
  refine x_iconst rfl ?_
  refine x_istore rfl (show (5 : Nat) < 10 from by decide) ?_
  refine x_iconst rfl ?_
  refine x_istore rfl (show (6 : Nat) < 10 from by decide) ?_
  exact xs_149l h175 hpl hrl hW hS hz hwt 8 0 _ rfl (xst_ne (by decide) (xst_ne (by decide) rfl (Or.inl rfl)) (Or.inl rfl)) (xst_ne (by decide) (xst_ne (by decide) rfl (Or.inl rfl)) (Or.inl rfl)) (xst_ne (by decide) (xst_ne (by decide) rfl (Or.inl rfl)) (Or.inl rfl)) (xst_ne (by decide) (xst_ne (by decide) rfl (Or.inl rfl)) (Or.inl rfl)) (xst_ne (by decide) (xst_ne (by decide) rfl (Or.inl rfl)) (Or.inl rfl)) (xst_ne (by decide) xst_eq (Or.inl rfl)) xst_eq
theorem xs_150l {v0 : Value} {xs : List Int32} {u : Nat × Nat} {Q : zO → zX → Prop} {f : Nat → zE} {pl : List Int} {r : Nat → Int} (h175 : f 175 = xr 0 pl) (hpl : pl.length = 8) (hrl : sRL pl 0 r) (hk : ∀ lv : zL, zlv lv 0 = some (.ref 175) → zlv lv 1 = some (xi (slo 10 (fun e => sX (r e)) 8)) → zlv lv 2 = some (xi (shi (fun e => sX (r e)) 8)) → zlv lv 3 = some (xi (slo 10 (fun e => sY (r e)) 8)) → zlv lv 4 = some (xi (shi (fun e => sY (r e)) 8)) → xz v0 xs u Q 150 77 lv [] f) : ∀ (w d : Nat) (lv : zL), w + d = 8 → zlv lv 0 = some (.ref 175) → zlv lv 1 = some (xi (slo 10 (fun e => sX (r e)) d)) → zlv lv 2 = some (xi (shi (fun e => sX (r e)) d)) → zlv lv 3 = some (xi (slo 10 (fun e => sY (r e)) d)) → zlv lv 4 = some (xi (shi (fun e => sY (r e)) d)) → zlv lv 5 = some (xi (d : Nat)) → xz v0 xs u Q 150 14 lv [] f := by
  have hX : ∀ e, e < 8 → 0 ≤ sX (r e) ∧ sX (r e) ≤ 9 := fun e he => sX_rg (sRL_at hrl he).2
  have hY : ∀ e, e < 8 → 0 ≤ sY (r e) ∧ sY (r e) ≤ 9 := fun e he => sY_rg (sRL_at hrl he).2
  intro w
  induction w with
  | zero =>
    intro d lv hw l0 l1 l2 l3 l4 l5
    have e8 : d = 8 := by omega
    subst e8
    refine x_iload rfl l5 ?_
    refine x_bipush rfl (by decide) ?_
    refine x_cge (t := 77) rfl rfl (by decide) (by decide) (fun _ => ?_) (fun h => absurd h (by decide))
    exact hk lv l0 l1 l2 l3 l4
  | succ w ih =>
    intro d lv hw l0 l1 l2 l3 l4 l5
    have hd : d < 8 := by omega
    obtain ⟨a1, a2⟩ := sRL_at hrl hd
    have x1 := slo_rg (i := 10) (by decide) hX d (by omega)
    have x2 := shi_rg hX d (by omega)
    have x3 := slo_rg (i := 10) (by decide) hY d (by omega)
    have x4 := shi_rg hY d (by omega)
    have y1 := hX d hd
    have y2 := hY d hd
    have a3 : 0 ≤ r d ∧ r d < 400 := a2
    refine x_iload rfl l5 ?_
    refine x_bipush rfl (by decide) ?_
    refine x_cge (t := 77) rfl rfl ⟨by omega, by omega⟩ (by decide) (fun h => absurd h (by omega)) (fun _ => ?_)
    refine x_aload_n rfl l0 ?_
    refine x_iload rfl l5 ?_
    refine x_iaload rfl (by decide) h175 ⟨by omega, by omega⟩ (by omega) ?_
    rw [Int.toNat_natCast, a1]
    refine x_iconst rfl ?_
    refine x_idiv rfl ⟨by omega, by omega⟩ (by decide) ?_
    refine x_istore rfl (show (6 : Nat) < 7 from by decide) ?_
    refine x_iload_n rfl (xst_ne (by decide) l1 (Or.inl rfl)) ?_
    refine x_iload rfl xst_eq ?_
    refine x_bipush rfl (by decide) ?_
    refine x_irem rfl ⟨by omega, by omega⟩ (by decide) ?_
    rw [show r d / 4 % 10 = sX (r d) from rfl]
    refine x_mini rfl (show (1 : Nat) ≤ 8 from by decide) ⟨by omega, by omega⟩ ⟨by omega, by omega⟩ ?_
    refine x_istore_n rfl (show (1 : Nat) < 7 from by decide) ?_
    refine x_iload_n rfl (xst_ne (by decide) (xst_ne (by decide) l2 (Or.inl rfl)) (Or.inl rfl)) ?_
    refine x_iload rfl (xst_ne (by decide) xst_eq (Or.inl rfl)) ?_
    refine x_bipush rfl (by decide) ?_
    refine x_irem rfl ⟨by omega, by omega⟩ (by decide) ?_
    rw [show r d / 4 % 10 = sX (r d) from rfl]
    refine x_maxi rfl (show (1 : Nat) ≤ 8 from by decide) ⟨by omega, by omega⟩ ⟨by omega, by omega⟩ ?_
    refine x_istore_n rfl (show (2 : Nat) < 7 from by decide) ?_
    refine x_iload_n rfl (xst_ne (by decide) (xst_ne (by decide) (xst_ne (by decide) l3 (Or.inl rfl)) (Or.inl rfl)) (Or.inl rfl)) ?_
    refine x_iload rfl (xst_ne (by decide) (xst_ne (by decide) xst_eq (Or.inl rfl)) (Or.inl rfl)) ?_
    refine x_bipush rfl (by decide) ?_
    refine x_idiv rfl ⟨by omega, by omega⟩ (by decide) ?_
    rw [show r d / 4 / 10 = sY (r d) by unfold sY; omega]
    refine x_mini rfl (show (1 : Nat) ≤ 8 from by decide) ⟨by omega, by omega⟩ ⟨by omega, by omega⟩ ?_
    refine x_istore_n rfl (show (3 : Nat) < 7 from by decide) ?_
    refine x_iload rfl (xst_ne (by decide) (xst_ne (by decide) (xst_ne (by decide) (xst_ne (by decide) l4 (Or.inl rfl)) (Or.inl rfl)) (Or.inl rfl)) (Or.inl rfl)) ?_
    refine x_iload rfl (xst_ne (by decide) (xst_ne (by decide) (xst_ne (by decide) xst_eq (Or.inl rfl)) (Or.inl rfl)) (Or.inl rfl)) ?_
    refine x_bipush rfl (by decide) ?_
    refine x_idiv rfl ⟨by omega, by omega⟩ (by decide) ?_
    rw [show r d / 4 / 10 = sY (r d) by unfold sY; omega]
    refine x_maxi rfl (show (1 : Nat) ≤ 8 from by decide) ⟨by omega, by omega⟩ ⟨by omega, by omega⟩ ?_
    refine x_istore rfl (show (4 : Nat) < 7 from by decide) ?_
    refine x_iinc rfl (xst_ne (by decide) (xst_ne (by decide) (xst_ne (by decide) (xst_ne (by decide) (xst_ne (by decide) l5 (Or.inl rfl)) (Or.inl rfl)) (Or.inl rfl)) (Or.inl rfl)) (Or.inl rfl)) (show (5 : Nat) < 7 from by decide) ?_
    refine x_goto (t := 14) rfl rfl ?_
    exact ih (d + 1) _ (by omega) (xst_ne (by decide) (xst_ne (by decide) (xst_ne (by decide) (xst_ne (by decide) (xst_ne (by decide) (xst_ne (by decide) l0 (Or.inl rfl)) (Or.inl rfl)) (Or.inl rfl)) (Or.inl rfl)) (Or.inl rfl)) (Or.inl rfl)) (xst_ne (by decide) (xst_ne (by decide) (xst_ne (by decide) (xst_ne (by decide) xst_eq (Or.inl rfl)) (Or.inl rfl)) (Or.inl rfl)) (Or.inl rfl)) (xst_ne (by decide) (xst_ne (by decide) (xst_ne (by decide) xst_eq (Or.inl rfl)) (Or.inl rfl)) (Or.inl rfl)) (xst_ne (by decide) (xst_ne (by decide) xst_eq (Or.inl rfl)) (Or.inl rfl)) (xst_ne (by decide) xst_eq (Or.inl rfl)) xst_eq
set_option maxRecDepth 20000 in
theorem xs_150 {v0 : Value} {xs : List Int32} {u : Nat × Nat} {f : Nat → zE} {pl : List Int} {r : Nat → Int} (h175 : f 175 = xr 0 pl) (hpl : pl.length = 8) (hrl : sRL pl 0 r) : xq v0 xs u 150 [(0, .ref 175)] f (fun r' f' => r' = some (xi (sshape r)) ∧ f' = f) := by
  unfold xq
  refine x_bipush rfl (by decide) ?_
  refine x_istore_n rfl (show (1 : Nat) < 7 from by decide) ?_
  refine x_iconst rfl ?_
  refine x_istore_n rfl (show (2 : Nat) < 7 from by decide) ?_
  refine x_bipush rfl (by decide) ?_
  refine x_istore_n rfl (show (3 : Nat) < 7 from by decide) ?_
  refine x_iconst rfl ?_
  refine x_istore rfl (show (4 : Nat) < 7 from by decide) ?_
  refine x_iconst rfl ?_
  refine x_istore rfl (show (5 : Nat) < 7 from by decide) ?_
  have hsok : ∀ e, e < 8 → sok (r e) := fun e he => (sRL_at hrl he).2
  have hX : ∀ e, e < 8 → 0 ≤ sX (r e) ∧ sX (r e) ≤ 9 := fun e he => sX_rg (hsok e he)
  have hY : ∀ e, e < 8 → 0 ≤ sY (r e) ∧ sY (r e) ≤ 9 := fun e he => sY_rg (hsok e he)
  obtain ⟨⟨x1, x2, x3⟩, y1, y2, y3⟩ := sshape_rg hsok
  refine xs_150l h175 hpl hrl (fun lv m0 m1 m2 m3 m4 => ?_) 8 0 _ rfl (xst_ne (by decide) (xst_ne (by decide) (xst_ne (by decide) (xst_ne (by decide) (xst_ne (by decide) rfl (Or.inl rfl)) (Or.inl rfl)) (Or.inl rfl)) (Or.inl rfl)) (Or.inl rfl)) (xst_ne (by decide) (xst_ne (by decide) (xst_ne (by decide) (xst_ne (by decide) xst_eq (Or.inl rfl)) (Or.inl rfl)) (Or.inl rfl)) (Or.inl rfl)) (xst_ne (by decide) (xst_ne (by decide) (xst_ne (by decide) xst_eq (Or.inl rfl)) (Or.inl rfl)) (Or.inl rfl)) (xst_ne (by decide) (xst_ne (by decide) xst_eq (Or.inl rfl)) (Or.inl rfl)) (xst_ne (by decide) xst_eq (Or.inl rfl)) xst_eq
  rw [slo_10 hX 7 (by decide)] at m1
  rw [slo_10 hY 7 (by decide)] at m3
  have m1 : zlv lv 1 = some (xi (slx r)) := m1
  have m2 : zlv lv 2 = some (xi (shx r)) := m2
  have m3 : zlv lv 3 = some (xi (sly r)) := m3
  have m4 : zlv lv 4 = some (xi (shy r)) := m4
  refine x_iload_n rfl m2 ?_
  refine x_iload_n rfl m1 ?_
  refine x_isub rfl ?_
  refine x_iload rfl m4 ?_
  refine x_iload_n rfl m3 ?_
  refine x_isub rfl ?_
  refine x_maxi rfl (show (1 : Nat) ≤ 8 from by decide) ⟨by omega, by omega⟩ ⟨by omega, by omega⟩ ?_
  refine x_iconst rfl ?_
  refine x_iadd rfl ?_
  refine x_istore rfl (show (5 : Nat) < 7 from by decide) ?_
  refine x_iload_n rfl (xst_ne (by decide) m2 (Or.inl rfl)) ?_
  refine x_iload_n rfl (xst_ne (by decide) m1 (Or.inl rfl)) ?_
  refine x_isub rfl ?_
  refine x_iload rfl (xst_ne (by decide) m4 (Or.inl rfl)) ?_
  refine x_iload_n rfl (xst_ne (by decide) m3 (Or.inl rfl)) ?_
  refine x_isub rfl ?_
  refine x_mini rfl (show (1 : Nat) ≤ 8 from by decide) ⟨by omega, by omega⟩ ⟨by omega, by omega⟩ ?_
  refine x_iconst rfl ?_
  refine x_iadd rfl ?_
  obtain ⟨b, hb9⟩ : ∃ b : Int, b = (if shx r - slx r < shy r - sly r then shy r - sly r else shx r - slx r) + 1 := ⟨_, rfl⟩
  obtain ⟨a, ha9⟩ : ∃ a : Int, a = (if shy r - sly r < shx r - slx r then shy r - sly r else shx r - slx r) + 1 := ⟨_, rfl⟩
  rw [← hb9, ← ha9, ← sshC_eq hsok ha9 hb9]
  have hb10 : 1 ≤ b ∧ b ≤ 10 := by rw [hb9]; split <;> omega
  have ha10 : 1 ≤ a ∧ a ≤ 10 := by rw [ha9]; split <;> omega
  clear ha9 hb9
  refine x_istore rfl (show (6 : Nat) < 7 from by decide) ?_
  have c4 := scnt_rg (fun d => sedge (r d) (slx r) (sly r) 4 == 1) 8
  have c3 := scnt_rg (fun d => sedge (r d) (slx r) (sly r) 3 == 0) 8
  refine x_iload rfl xst_eq ?_
  refine x_iconst rfl ?_
  refine x_cne (t := 120) rfl rfl ⟨by omega, by omega⟩ ⟨by omega, by omega⟩ (fun h108 => ?_) (fun h108 => ?_)
  · refine x_iload rfl xst_eq ?_
    refine x_iconst rfl ?_
    refine x_cne (t := 134) rfl rfl ⟨by omega, by omega⟩ ⟨by omega, by omega⟩ (fun h123 => ?_) (fun h123 => ?_)
    · refine x_iload rfl xst_eq ?_
      refine x_iconst rfl ?_
      refine x_cne (t := 161) rfl rfl ⟨by omega, by omega⟩ ⟨by omega, by omega⟩ (fun h137 => ?_) (fun h137 => ?_)
      · refine x_iload rfl xst_eq ?_
        refine x_iconst rfl ?_
        refine x_cne (t := 186) rfl rfl ⟨by omega, by omega⟩ ⟨by omega, by omega⟩ (fun h164 => ?_) (fun h164 => ?_)
        · refine x_iconst rfl ?_
          refine x_ireturn rfl (Or.inl rfl) ⟨_, _, rfl, rfl, ?_, rfl⟩
          first | (exfalso; omega) | (congr 2; unfold sshC; first | rw [if_pos (by omega)] | rw [if_neg (by omega), if_pos (by omega)] | rw [if_neg (by omega), if_neg (by omega), if_pos (by omega)] | rw [if_neg (by omega), if_neg (by omega), if_neg (by omega), if_pos (by omega)] | rw [if_neg (by omega), if_neg (by omega), if_neg (by omega), if_neg (by omega)])
        · refine x_iload rfl (xst_ne (by decide) xst_eq (Or.inl rfl)) ?_
          refine x_iconst rfl ?_
          refine x_cne (t := 186) rfl rfl ⟨by omega, by omega⟩ ⟨by omega, by omega⟩ (fun h170 => ?_) (fun h170 => ?_)
          · refine x_iconst rfl ?_
            refine x_ireturn rfl (Or.inl rfl) ⟨_, _, rfl, rfl, ?_, rfl⟩
            first | (exfalso; omega) | (congr 2; unfold sshC; first | rw [if_pos (by omega)] | rw [if_neg (by omega), if_pos (by omega)] | rw [if_neg (by omega), if_neg (by omega), if_pos (by omega)] | rw [if_neg (by omega), if_neg (by omega), if_neg (by omega), if_pos (by omega)] | rw [if_neg (by omega), if_neg (by omega), if_neg (by omega), if_neg (by omega)])
          · refine x_aload_n rfl (xst_ne (by decide) (xst_ne (by decide) m0 (Or.inl rfl)) (Or.inl rfl)) ?_
            refine x_iload_n rfl (xst_ne (by decide) (xst_ne (by decide) m1 (Or.inl rfl)) (Or.inl rfl)) ?_
            refine x_iload_n rfl (xst_ne (by decide) (xst_ne (by decide) m3 (Or.inl rfl)) (Or.inl rfl)) ?_
            refine x_iconst rfl ?_
            refine x_iconst rfl ?_
            refine x_call [_, _, _, _, _] rfl rfl (show (0 : Nat) ≤ 8 from by decide) (show (5 : Nat) ≤ 10 from by decide) rfl (xs_149 h175 hpl hrl (W := slx r) (So := sly r) (z := 3) (wt := 0) ⟨by omega, by omega⟩ ⟨by omega, by omega⟩ (by decide) (by decide)) ?_
            intro r' f9 hP
            obtain ⟨rfl, hPe⟩ := hP
            subst f9
            refine x_ifne (t := 186) rfl rfl ⟨by omega, by omega⟩ (fun h181 => ?_) (fun h181 => ?_)
            · refine x_iconst rfl ?_
              refine x_ireturn rfl (Or.inl rfl) ⟨_, _, rfl, rfl, ?_, rfl⟩
              first | (exfalso; omega) | (congr 2; unfold sshC; first | rw [if_pos (by omega)] | rw [if_neg (by omega), if_pos (by omega)] | rw [if_neg (by omega), if_neg (by omega), if_pos (by omega)] | rw [if_neg (by omega), if_neg (by omega), if_neg (by omega), if_pos (by omega)] | rw [if_neg (by omega), if_neg (by omega), if_neg (by omega), if_neg (by omega)])
            · refine x_iconst rfl ?_
              refine x_ireturn rfl (Or.inl rfl) ⟨_, _, rfl, rfl, ?_, rfl⟩
              first | (exfalso; omega) | (congr 2; unfold sshC; first | rw [if_pos (by omega)] | rw [if_neg (by omega), if_pos (by omega)] | rw [if_neg (by omega), if_neg (by omega), if_pos (by omega)] | rw [if_neg (by omega), if_neg (by omega), if_neg (by omega), if_pos (by omega)] | rw [if_neg (by omega), if_neg (by omega), if_neg (by omega), if_neg (by omega)])
      · refine x_iload rfl (xst_ne (by decide) xst_eq (Or.inl rfl)) ?_
        refine x_iconst rfl ?_
        refine x_cne (t := 161) rfl rfl ⟨by omega, by omega⟩ ⟨by omega, by omega⟩ (fun h143 => ?_) (fun h143 => ?_)
        · refine x_iload rfl xst_eq ?_
          refine x_iconst rfl ?_
          refine x_cne (t := 186) rfl rfl ⟨by omega, by omega⟩ ⟨by omega, by omega⟩ (fun h164 => ?_) (fun h164 => ?_)
          · refine x_iconst rfl ?_
            refine x_ireturn rfl (Or.inl rfl) ⟨_, _, rfl, rfl, ?_, rfl⟩
            first | (exfalso; omega) | (congr 2; unfold sshC; first | rw [if_pos (by omega)] | rw [if_neg (by omega), if_pos (by omega)] | rw [if_neg (by omega), if_neg (by omega), if_pos (by omega)] | rw [if_neg (by omega), if_neg (by omega), if_neg (by omega), if_pos (by omega)] | rw [if_neg (by omega), if_neg (by omega), if_neg (by omega), if_neg (by omega)])
          · refine x_iload rfl (xst_ne (by decide) xst_eq (Or.inl rfl)) ?_
            refine x_iconst rfl ?_
            refine x_cne (t := 186) rfl rfl ⟨by omega, by omega⟩ ⟨by omega, by omega⟩ (fun h170 => ?_) (fun h170 => ?_)
            · refine x_iconst rfl ?_
              refine x_ireturn rfl (Or.inl rfl) ⟨_, _, rfl, rfl, ?_, rfl⟩
              first | (exfalso; omega) | (congr 2; unfold sshC; first | rw [if_pos (by omega)] | rw [if_neg (by omega), if_pos (by omega)] | rw [if_neg (by omega), if_neg (by omega), if_pos (by omega)] | rw [if_neg (by omega), if_neg (by omega), if_neg (by omega), if_pos (by omega)] | rw [if_neg (by omega), if_neg (by omega), if_neg (by omega), if_neg (by omega)])
            · refine x_aload_n rfl (xst_ne (by decide) (xst_ne (by decide) m0 (Or.inl rfl)) (Or.inl rfl)) ?_
              refine x_iload_n rfl (xst_ne (by decide) (xst_ne (by decide) m1 (Or.inl rfl)) (Or.inl rfl)) ?_
              refine x_iload_n rfl (xst_ne (by decide) (xst_ne (by decide) m3 (Or.inl rfl)) (Or.inl rfl)) ?_
              refine x_iconst rfl ?_
              refine x_iconst rfl ?_
              refine x_call [_, _, _, _, _] rfl rfl (show (0 : Nat) ≤ 8 from by decide) (show (5 : Nat) ≤ 10 from by decide) rfl (xs_149 h175 hpl hrl (W := slx r) (So := sly r) (z := 3) (wt := 0) ⟨by omega, by omega⟩ ⟨by omega, by omega⟩ (by decide) (by decide)) ?_
              intro r' f9 hP
              obtain ⟨rfl, hPe⟩ := hP
              subst f9
              refine x_ifne (t := 186) rfl rfl ⟨by omega, by omega⟩ (fun h181 => ?_) (fun h181 => ?_)
              · refine x_iconst rfl ?_
                refine x_ireturn rfl (Or.inl rfl) ⟨_, _, rfl, rfl, ?_, rfl⟩
                first | (exfalso; omega) | (congr 2; unfold sshC; first | rw [if_pos (by omega)] | rw [if_neg (by omega), if_pos (by omega)] | rw [if_neg (by omega), if_neg (by omega), if_pos (by omega)] | rw [if_neg (by omega), if_neg (by omega), if_neg (by omega), if_pos (by omega)] | rw [if_neg (by omega), if_neg (by omega), if_neg (by omega), if_neg (by omega)])
              · refine x_iconst rfl ?_
                refine x_ireturn rfl (Or.inl rfl) ⟨_, _, rfl, rfl, ?_, rfl⟩
                first | (exfalso; omega) | (congr 2; unfold sshC; first | rw [if_pos (by omega)] | rw [if_neg (by omega), if_pos (by omega)] | rw [if_neg (by omega), if_neg (by omega), if_pos (by omega)] | rw [if_neg (by omega), if_neg (by omega), if_neg (by omega), if_pos (by omega)] | rw [if_neg (by omega), if_neg (by omega), if_neg (by omega), if_neg (by omega)])
        · refine x_aload_n rfl (xst_ne (by decide) (xst_ne (by decide) m0 (Or.inl rfl)) (Or.inl rfl)) ?_
          refine x_iload_n rfl (xst_ne (by decide) (xst_ne (by decide) m1 (Or.inl rfl)) (Or.inl rfl)) ?_
          refine x_iload_n rfl (xst_ne (by decide) (xst_ne (by decide) m3 (Or.inl rfl)) (Or.inl rfl)) ?_
          refine x_iconst rfl ?_
          refine x_iconst rfl ?_
          refine x_call [_, _, _, _, _] rfl rfl (show (0 : Nat) ≤ 8 from by decide) (show (5 : Nat) ≤ 10 from by decide) rfl (xs_149 h175 hpl hrl (W := slx r) (So := sly r) (z := 4) (wt := 1) ⟨by omega, by omega⟩ ⟨by omega, by omega⟩ (by decide) (by decide)) ?_
          intro r' f9 hP
          obtain ⟨rfl, hPe⟩ := hP
          subst f9
          refine x_bipush rfl (by decide) ?_
          refine x_cne (t := 161) rfl rfl ⟨by omega, by omega⟩ ⟨by omega, by omega⟩ (fun h156 => ?_) (fun h156 => ?_)
          · refine x_iload rfl xst_eq ?_
            refine x_iconst rfl ?_
            refine x_cne (t := 186) rfl rfl ⟨by omega, by omega⟩ ⟨by omega, by omega⟩ (fun h164 => ?_) (fun h164 => ?_)
            · refine x_iconst rfl ?_
              refine x_ireturn rfl (Or.inl rfl) ⟨_, _, rfl, rfl, ?_, rfl⟩
              first | (exfalso; omega) | (congr 2; unfold sshC; first | rw [if_pos (by omega)] | rw [if_neg (by omega), if_pos (by omega)] | rw [if_neg (by omega), if_neg (by omega), if_pos (by omega)] | rw [if_neg (by omega), if_neg (by omega), if_neg (by omega), if_pos (by omega)] | rw [if_neg (by omega), if_neg (by omega), if_neg (by omega), if_neg (by omega)])
            · refine x_iload rfl (xst_ne (by decide) xst_eq (Or.inl rfl)) ?_
              refine x_iconst rfl ?_
              refine x_cne (t := 186) rfl rfl ⟨by omega, by omega⟩ ⟨by omega, by omega⟩ (fun h170 => ?_) (fun h170 => ?_)
              · refine x_iconst rfl ?_
                refine x_ireturn rfl (Or.inl rfl) ⟨_, _, rfl, rfl, ?_, rfl⟩
                first | (exfalso; omega) | (congr 2; unfold sshC; first | rw [if_pos (by omega)] | rw [if_neg (by omega), if_pos (by omega)] | rw [if_neg (by omega), if_neg (by omega), if_pos (by omega)] | rw [if_neg (by omega), if_neg (by omega), if_neg (by omega), if_pos (by omega)] | rw [if_neg (by omega), if_neg (by omega), if_neg (by omega), if_neg (by omega)])
              · refine x_aload_n rfl (xst_ne (by decide) (xst_ne (by decide) m0 (Or.inl rfl)) (Or.inl rfl)) ?_
                refine x_iload_n rfl (xst_ne (by decide) (xst_ne (by decide) m1 (Or.inl rfl)) (Or.inl rfl)) ?_
                refine x_iload_n rfl (xst_ne (by decide) (xst_ne (by decide) m3 (Or.inl rfl)) (Or.inl rfl)) ?_
                refine x_iconst rfl ?_
                refine x_iconst rfl ?_
                refine x_call [_, _, _, _, _] rfl rfl (show (0 : Nat) ≤ 8 from by decide) (show (5 : Nat) ≤ 10 from by decide) rfl (xs_149 h175 hpl hrl (W := slx r) (So := sly r) (z := 3) (wt := 0) ⟨by omega, by omega⟩ ⟨by omega, by omega⟩ (by decide) (by decide)) ?_
                intro r' f9 hP
                obtain ⟨rfl, hPe⟩ := hP
                subst f9
                refine x_ifne (t := 186) rfl rfl ⟨by omega, by omega⟩ (fun h181 => ?_) (fun h181 => ?_)
                · refine x_iconst rfl ?_
                  refine x_ireturn rfl (Or.inl rfl) ⟨_, _, rfl, rfl, ?_, rfl⟩
                  first | (exfalso; omega) | (congr 2; unfold sshC; first | rw [if_pos (by omega)] | rw [if_neg (by omega), if_pos (by omega)] | rw [if_neg (by omega), if_neg (by omega), if_pos (by omega)] | rw [if_neg (by omega), if_neg (by omega), if_neg (by omega), if_pos (by omega)] | rw [if_neg (by omega), if_neg (by omega), if_neg (by omega), if_neg (by omega)])
                · refine x_iconst rfl ?_
                  refine x_ireturn rfl (Or.inl rfl) ⟨_, _, rfl, rfl, ?_, rfl⟩
                  first | (exfalso; omega) | (congr 2; unfold sshC; first | rw [if_pos (by omega)] | rw [if_neg (by omega), if_pos (by omega)] | rw [if_neg (by omega), if_neg (by omega), if_pos (by omega)] | rw [if_neg (by omega), if_neg (by omega), if_neg (by omega), if_pos (by omega)] | rw [if_neg (by omega), if_neg (by omega), if_neg (by omega), if_neg (by omega)])
          · refine x_iconst rfl ?_
            refine x_ireturn rfl (Or.inl rfl) ⟨_, _, rfl, rfl, ?_, rfl⟩
            first | (exfalso; omega) | (congr 2; unfold sshC; first | rw [if_pos (by omega)] | rw [if_neg (by omega), if_pos (by omega)] | rw [if_neg (by omega), if_neg (by omega), if_pos (by omega)] | rw [if_neg (by omega), if_neg (by omega), if_neg (by omega), if_pos (by omega)] | rw [if_neg (by omega), if_neg (by omega), if_neg (by omega), if_neg (by omega)])
    · refine x_iload rfl (xst_ne (by decide) xst_eq (Or.inl rfl)) ?_
      refine x_iconst rfl ?_
      refine x_cne (t := 134) rfl rfl ⟨by omega, by omega⟩ ⟨by omega, by omega⟩ (fun h129 => ?_) (fun h129 => ?_)
      · refine x_iload rfl xst_eq ?_
        refine x_iconst rfl ?_
        refine x_cne (t := 161) rfl rfl ⟨by omega, by omega⟩ ⟨by omega, by omega⟩ (fun h137 => ?_) (fun h137 => ?_)
        · refine x_iload rfl xst_eq ?_
          refine x_iconst rfl ?_
          refine x_cne (t := 186) rfl rfl ⟨by omega, by omega⟩ ⟨by omega, by omega⟩ (fun h164 => ?_) (fun h164 => ?_)
          · refine x_iconst rfl ?_
            refine x_ireturn rfl (Or.inl rfl) ⟨_, _, rfl, rfl, ?_, rfl⟩
            first | (exfalso; omega) | (congr 2; unfold sshC; first | rw [if_pos (by omega)] | rw [if_neg (by omega), if_pos (by omega)] | rw [if_neg (by omega), if_neg (by omega), if_pos (by omega)] | rw [if_neg (by omega), if_neg (by omega), if_neg (by omega), if_pos (by omega)] | rw [if_neg (by omega), if_neg (by omega), if_neg (by omega), if_neg (by omega)])
          · refine x_iload rfl (xst_ne (by decide) xst_eq (Or.inl rfl)) ?_
            refine x_iconst rfl ?_
            refine x_cne (t := 186) rfl rfl ⟨by omega, by omega⟩ ⟨by omega, by omega⟩ (fun h170 => ?_) (fun h170 => ?_)
            · refine x_iconst rfl ?_
              refine x_ireturn rfl (Or.inl rfl) ⟨_, _, rfl, rfl, ?_, rfl⟩
              first | (exfalso; omega) | (congr 2; unfold sshC; first | rw [if_pos (by omega)] | rw [if_neg (by omega), if_pos (by omega)] | rw [if_neg (by omega), if_neg (by omega), if_pos (by omega)] | rw [if_neg (by omega), if_neg (by omega), if_neg (by omega), if_pos (by omega)] | rw [if_neg (by omega), if_neg (by omega), if_neg (by omega), if_neg (by omega)])
            · refine x_aload_n rfl (xst_ne (by decide) (xst_ne (by decide) m0 (Or.inl rfl)) (Or.inl rfl)) ?_
              refine x_iload_n rfl (xst_ne (by decide) (xst_ne (by decide) m1 (Or.inl rfl)) (Or.inl rfl)) ?_
              refine x_iload_n rfl (xst_ne (by decide) (xst_ne (by decide) m3 (Or.inl rfl)) (Or.inl rfl)) ?_
              refine x_iconst rfl ?_
              refine x_iconst rfl ?_
              refine x_call [_, _, _, _, _] rfl rfl (show (0 : Nat) ≤ 8 from by decide) (show (5 : Nat) ≤ 10 from by decide) rfl (xs_149 h175 hpl hrl (W := slx r) (So := sly r) (z := 3) (wt := 0) ⟨by omega, by omega⟩ ⟨by omega, by omega⟩ (by decide) (by decide)) ?_
              intro r' f9 hP
              obtain ⟨rfl, hPe⟩ := hP
              subst f9
              refine x_ifne (t := 186) rfl rfl ⟨by omega, by omega⟩ (fun h181 => ?_) (fun h181 => ?_)
              · refine x_iconst rfl ?_
                refine x_ireturn rfl (Or.inl rfl) ⟨_, _, rfl, rfl, ?_, rfl⟩
                first | (exfalso; omega) | (congr 2; unfold sshC; first | rw [if_pos (by omega)] | rw [if_neg (by omega), if_pos (by omega)] | rw [if_neg (by omega), if_neg (by omega), if_pos (by omega)] | rw [if_neg (by omega), if_neg (by omega), if_neg (by omega), if_pos (by omega)] | rw [if_neg (by omega), if_neg (by omega), if_neg (by omega), if_neg (by omega)])
              · refine x_iconst rfl ?_
                refine x_ireturn rfl (Or.inl rfl) ⟨_, _, rfl, rfl, ?_, rfl⟩
                first | (exfalso; omega) | (congr 2; unfold sshC; first | rw [if_pos (by omega)] | rw [if_neg (by omega), if_pos (by omega)] | rw [if_neg (by omega), if_neg (by omega), if_pos (by omega)] | rw [if_neg (by omega), if_neg (by omega), if_neg (by omega), if_pos (by omega)] | rw [if_neg (by omega), if_neg (by omega), if_neg (by omega), if_neg (by omega)])
        · refine x_iload rfl (xst_ne (by decide) xst_eq (Or.inl rfl)) ?_
          refine x_iconst rfl ?_
          refine x_cne (t := 161) rfl rfl ⟨by omega, by omega⟩ ⟨by omega, by omega⟩ (fun h143 => ?_) (fun h143 => ?_)
          · refine x_iload rfl xst_eq ?_
            refine x_iconst rfl ?_
            refine x_cne (t := 186) rfl rfl ⟨by omega, by omega⟩ ⟨by omega, by omega⟩ (fun h164 => ?_) (fun h164 => ?_)
            · refine x_iconst rfl ?_
              refine x_ireturn rfl (Or.inl rfl) ⟨_, _, rfl, rfl, ?_, rfl⟩
              first | (exfalso; omega) | (congr 2; unfold sshC; first | rw [if_pos (by omega)] | rw [if_neg (by omega), if_pos (by omega)] | rw [if_neg (by omega), if_neg (by omega), if_pos (by omega)] | rw [if_neg (by omega), if_neg (by omega), if_neg (by omega), if_pos (by omega)] | rw [if_neg (by omega), if_neg (by omega), if_neg (by omega), if_neg (by omega)])
            · refine x_iload rfl (xst_ne (by decide) xst_eq (Or.inl rfl)) ?_
              refine x_iconst rfl ?_
              refine x_cne (t := 186) rfl rfl ⟨by omega, by omega⟩ ⟨by omega, by omega⟩ (fun h170 => ?_) (fun h170 => ?_)
              · refine x_iconst rfl ?_
                refine x_ireturn rfl (Or.inl rfl) ⟨_, _, rfl, rfl, ?_, rfl⟩
                first | (exfalso; omega) | (congr 2; unfold sshC; first | rw [if_pos (by omega)] | rw [if_neg (by omega), if_pos (by omega)] | rw [if_neg (by omega), if_neg (by omega), if_pos (by omega)] | rw [if_neg (by omega), if_neg (by omega), if_neg (by omega), if_pos (by omega)] | rw [if_neg (by omega), if_neg (by omega), if_neg (by omega), if_neg (by omega)])
              · refine x_aload_n rfl (xst_ne (by decide) (xst_ne (by decide) m0 (Or.inl rfl)) (Or.inl rfl)) ?_
                refine x_iload_n rfl (xst_ne (by decide) (xst_ne (by decide) m1 (Or.inl rfl)) (Or.inl rfl)) ?_
                refine x_iload_n rfl (xst_ne (by decide) (xst_ne (by decide) m3 (Or.inl rfl)) (Or.inl rfl)) ?_
                refine x_iconst rfl ?_
                refine x_iconst rfl ?_
                refine x_call [_, _, _, _, _] rfl rfl (show (0 : Nat) ≤ 8 from by decide) (show (5 : Nat) ≤ 10 from by decide) rfl (xs_149 h175 hpl hrl (W := slx r) (So := sly r) (z := 3) (wt := 0) ⟨by omega, by omega⟩ ⟨by omega, by omega⟩ (by decide) (by decide)) ?_
                intro r' f9 hP
                obtain ⟨rfl, hPe⟩ := hP
                subst f9
                refine x_ifne (t := 186) rfl rfl ⟨by omega, by omega⟩ (fun h181 => ?_) (fun h181 => ?_)
                · refine x_iconst rfl ?_
                  refine x_ireturn rfl (Or.inl rfl) ⟨_, _, rfl, rfl, ?_, rfl⟩
                  first | (exfalso; omega) | (congr 2; unfold sshC; first | rw [if_pos (by omega)] | rw [if_neg (by omega), if_pos (by omega)] | rw [if_neg (by omega), if_neg (by omega), if_pos (by omega)] | rw [if_neg (by omega), if_neg (by omega), if_neg (by omega), if_pos (by omega)] | rw [if_neg (by omega), if_neg (by omega), if_neg (by omega), if_neg (by omega)])
                · refine x_iconst rfl ?_
                  refine x_ireturn rfl (Or.inl rfl) ⟨_, _, rfl, rfl, ?_, rfl⟩
                  first | (exfalso; omega) | (congr 2; unfold sshC; first | rw [if_pos (by omega)] | rw [if_neg (by omega), if_pos (by omega)] | rw [if_neg (by omega), if_neg (by omega), if_pos (by omega)] | rw [if_neg (by omega), if_neg (by omega), if_neg (by omega), if_pos (by omega)] | rw [if_neg (by omega), if_neg (by omega), if_neg (by omega), if_neg (by omega)])
          · refine x_aload_n rfl (xst_ne (by decide) (xst_ne (by decide) m0 (Or.inl rfl)) (Or.inl rfl)) ?_
            refine x_iload_n rfl (xst_ne (by decide) (xst_ne (by decide) m1 (Or.inl rfl)) (Or.inl rfl)) ?_
            refine x_iload_n rfl (xst_ne (by decide) (xst_ne (by decide) m3 (Or.inl rfl)) (Or.inl rfl)) ?_
            refine x_iconst rfl ?_
            refine x_iconst rfl ?_
            refine x_call [_, _, _, _, _] rfl rfl (show (0 : Nat) ≤ 8 from by decide) (show (5 : Nat) ≤ 10 from by decide) rfl (xs_149 h175 hpl hrl (W := slx r) (So := sly r) (z := 4) (wt := 1) ⟨by omega, by omega⟩ ⟨by omega, by omega⟩ (by decide) (by decide)) ?_
            intro r' f9 hP
            obtain ⟨rfl, hPe⟩ := hP
            subst f9
            refine x_bipush rfl (by decide) ?_
            refine x_cne (t := 161) rfl rfl ⟨by omega, by omega⟩ ⟨by omega, by omega⟩ (fun h156 => ?_) (fun h156 => ?_)
            · refine x_iload rfl xst_eq ?_
              refine x_iconst rfl ?_
              refine x_cne (t := 186) rfl rfl ⟨by omega, by omega⟩ ⟨by omega, by omega⟩ (fun h164 => ?_) (fun h164 => ?_)
              · refine x_iconst rfl ?_
                refine x_ireturn rfl (Or.inl rfl) ⟨_, _, rfl, rfl, ?_, rfl⟩
                first | (exfalso; omega) | (congr 2; unfold sshC; first | rw [if_pos (by omega)] | rw [if_neg (by omega), if_pos (by omega)] | rw [if_neg (by omega), if_neg (by omega), if_pos (by omega)] | rw [if_neg (by omega), if_neg (by omega), if_neg (by omega), if_pos (by omega)] | rw [if_neg (by omega), if_neg (by omega), if_neg (by omega), if_neg (by omega)])
              · refine x_iload rfl (xst_ne (by decide) xst_eq (Or.inl rfl)) ?_
                refine x_iconst rfl ?_
                refine x_cne (t := 186) rfl rfl ⟨by omega, by omega⟩ ⟨by omega, by omega⟩ (fun h170 => ?_) (fun h170 => ?_)
                · refine x_iconst rfl ?_
                  refine x_ireturn rfl (Or.inl rfl) ⟨_, _, rfl, rfl, ?_, rfl⟩
                  first | (exfalso; omega) | (congr 2; unfold sshC; first | rw [if_pos (by omega)] | rw [if_neg (by omega), if_pos (by omega)] | rw [if_neg (by omega), if_neg (by omega), if_pos (by omega)] | rw [if_neg (by omega), if_neg (by omega), if_neg (by omega), if_pos (by omega)] | rw [if_neg (by omega), if_neg (by omega), if_neg (by omega), if_neg (by omega)])
                · refine x_aload_n rfl (xst_ne (by decide) (xst_ne (by decide) m0 (Or.inl rfl)) (Or.inl rfl)) ?_
                  refine x_iload_n rfl (xst_ne (by decide) (xst_ne (by decide) m1 (Or.inl rfl)) (Or.inl rfl)) ?_
                  refine x_iload_n rfl (xst_ne (by decide) (xst_ne (by decide) m3 (Or.inl rfl)) (Or.inl rfl)) ?_
                  refine x_iconst rfl ?_
                  refine x_iconst rfl ?_
                  refine x_call [_, _, _, _, _] rfl rfl (show (0 : Nat) ≤ 8 from by decide) (show (5 : Nat) ≤ 10 from by decide) rfl (xs_149 h175 hpl hrl (W := slx r) (So := sly r) (z := 3) (wt := 0) ⟨by omega, by omega⟩ ⟨by omega, by omega⟩ (by decide) (by decide)) ?_
                  intro r' f9 hP
                  obtain ⟨rfl, hPe⟩ := hP
                  subst f9
                  refine x_ifne (t := 186) rfl rfl ⟨by omega, by omega⟩ (fun h181 => ?_) (fun h181 => ?_)
                  · refine x_iconst rfl ?_
                    refine x_ireturn rfl (Or.inl rfl) ⟨_, _, rfl, rfl, ?_, rfl⟩
                    first | (exfalso; omega) | (congr 2; unfold sshC; first | rw [if_pos (by omega)] | rw [if_neg (by omega), if_pos (by omega)] | rw [if_neg (by omega), if_neg (by omega), if_pos (by omega)] | rw [if_neg (by omega), if_neg (by omega), if_neg (by omega), if_pos (by omega)] | rw [if_neg (by omega), if_neg (by omega), if_neg (by omega), if_neg (by omega)])
                  · refine x_iconst rfl ?_
                    refine x_ireturn rfl (Or.inl rfl) ⟨_, _, rfl, rfl, ?_, rfl⟩
                    first | (exfalso; omega) | (congr 2; unfold sshC; first | rw [if_pos (by omega)] | rw [if_neg (by omega), if_pos (by omega)] | rw [if_neg (by omega), if_neg (by omega), if_pos (by omega)] | rw [if_neg (by omega), if_neg (by omega), if_neg (by omega), if_pos (by omega)] | rw [if_neg (by omega), if_neg (by omega), if_neg (by omega), if_neg (by omega)])
            · refine x_iconst rfl ?_
              refine x_ireturn rfl (Or.inl rfl) ⟨_, _, rfl, rfl, ?_, rfl⟩
              first | (exfalso; omega) | (congr 2; unfold sshC; first | rw [if_pos (by omega)] | rw [if_neg (by omega), if_pos (by omega)] | rw [if_neg (by omega), if_neg (by omega), if_pos (by omega)] | rw [if_neg (by omega), if_neg (by omega), if_neg (by omega), if_pos (by omega)] | rw [if_neg (by omega), if_neg (by omega), if_neg (by omega), if_neg (by omega)])
      · refine x_iconst rfl ?_
        refine x_ireturn rfl (Or.inl rfl) ⟨_, _, rfl, rfl, ?_, rfl⟩
        first | (exfalso; omega) | (congr 2; unfold sshC; first | rw [if_pos (by omega)] | rw [if_neg (by omega), if_pos (by omega)] | rw [if_neg (by omega), if_neg (by omega), if_pos (by omega)] | rw [if_neg (by omega), if_neg (by omega), if_neg (by omega), if_pos (by omega)] | rw [if_neg (by omega), if_neg (by omega), if_neg (by omega), if_neg (by omega)])
  · refine x_iload rfl (xst_ne (by decide) xst_eq (Or.inl rfl)) ?_
    refine x_bipush rfl (by decide) ?_
    refine x_cne (t := 120) rfl rfl ⟨by omega, by omega⟩ ⟨by omega, by omega⟩ (fun h115 => ?_) (fun h115 => ?_)
    · refine x_iload rfl xst_eq ?_
      refine x_iconst rfl ?_
      refine x_cne (t := 134) rfl rfl ⟨by omega, by omega⟩ ⟨by omega, by omega⟩ (fun h123 => ?_) (fun h123 => ?_)
      · refine x_iload rfl xst_eq ?_
        refine x_iconst rfl ?_
        refine x_cne (t := 161) rfl rfl ⟨by omega, by omega⟩ ⟨by omega, by omega⟩ (fun h137 => ?_) (fun h137 => ?_)
        · refine x_iload rfl xst_eq ?_
          refine x_iconst rfl ?_
          refine x_cne (t := 186) rfl rfl ⟨by omega, by omega⟩ ⟨by omega, by omega⟩ (fun h164 => ?_) (fun h164 => ?_)
          · refine x_iconst rfl ?_
            refine x_ireturn rfl (Or.inl rfl) ⟨_, _, rfl, rfl, ?_, rfl⟩
            first | (exfalso; omega) | (congr 2; unfold sshC; first | rw [if_pos (by omega)] | rw [if_neg (by omega), if_pos (by omega)] | rw [if_neg (by omega), if_neg (by omega), if_pos (by omega)] | rw [if_neg (by omega), if_neg (by omega), if_neg (by omega), if_pos (by omega)] | rw [if_neg (by omega), if_neg (by omega), if_neg (by omega), if_neg (by omega)])
          · refine x_iload rfl (xst_ne (by decide) xst_eq (Or.inl rfl)) ?_
            refine x_iconst rfl ?_
            refine x_cne (t := 186) rfl rfl ⟨by omega, by omega⟩ ⟨by omega, by omega⟩ (fun h170 => ?_) (fun h170 => ?_)
            · refine x_iconst rfl ?_
              refine x_ireturn rfl (Or.inl rfl) ⟨_, _, rfl, rfl, ?_, rfl⟩
              first | (exfalso; omega) | (congr 2; unfold sshC; first | rw [if_pos (by omega)] | rw [if_neg (by omega), if_pos (by omega)] | rw [if_neg (by omega), if_neg (by omega), if_pos (by omega)] | rw [if_neg (by omega), if_neg (by omega), if_neg (by omega), if_pos (by omega)] | rw [if_neg (by omega), if_neg (by omega), if_neg (by omega), if_neg (by omega)])
            · refine x_aload_n rfl (xst_ne (by decide) (xst_ne (by decide) m0 (Or.inl rfl)) (Or.inl rfl)) ?_
              refine x_iload_n rfl (xst_ne (by decide) (xst_ne (by decide) m1 (Or.inl rfl)) (Or.inl rfl)) ?_
              refine x_iload_n rfl (xst_ne (by decide) (xst_ne (by decide) m3 (Or.inl rfl)) (Or.inl rfl)) ?_
              refine x_iconst rfl ?_
              refine x_iconst rfl ?_
              refine x_call [_, _, _, _, _] rfl rfl (show (0 : Nat) ≤ 8 from by decide) (show (5 : Nat) ≤ 10 from by decide) rfl (xs_149 h175 hpl hrl (W := slx r) (So := sly r) (z := 3) (wt := 0) ⟨by omega, by omega⟩ ⟨by omega, by omega⟩ (by decide) (by decide)) ?_
              intro r' f9 hP
              obtain ⟨rfl, hPe⟩ := hP
              subst f9
              refine x_ifne (t := 186) rfl rfl ⟨by omega, by omega⟩ (fun h181 => ?_) (fun h181 => ?_)
              · refine x_iconst rfl ?_
                refine x_ireturn rfl (Or.inl rfl) ⟨_, _, rfl, rfl, ?_, rfl⟩
                first | (exfalso; omega) | (congr 2; unfold sshC; first | rw [if_pos (by omega)] | rw [if_neg (by omega), if_pos (by omega)] | rw [if_neg (by omega), if_neg (by omega), if_pos (by omega)] | rw [if_neg (by omega), if_neg (by omega), if_neg (by omega), if_pos (by omega)] | rw [if_neg (by omega), if_neg (by omega), if_neg (by omega), if_neg (by omega)])
              · refine x_iconst rfl ?_
                refine x_ireturn rfl (Or.inl rfl) ⟨_, _, rfl, rfl, ?_, rfl⟩
                first | (exfalso; omega) | (congr 2; unfold sshC; first | rw [if_pos (by omega)] | rw [if_neg (by omega), if_pos (by omega)] | rw [if_neg (by omega), if_neg (by omega), if_pos (by omega)] | rw [if_neg (by omega), if_neg (by omega), if_neg (by omega), if_pos (by omega)] | rw [if_neg (by omega), if_neg (by omega), if_neg (by omega), if_neg (by omega)])
        · refine x_iload rfl (xst_ne (by decide) xst_eq (Or.inl rfl)) ?_
          refine x_iconst rfl ?_
          refine x_cne (t := 161) rfl rfl ⟨by omega, by omega⟩ ⟨by omega, by omega⟩ (fun h143 => ?_) (fun h143 => ?_)
          · refine x_iload rfl xst_eq ?_
            refine x_iconst rfl ?_
            refine x_cne (t := 186) rfl rfl ⟨by omega, by omega⟩ ⟨by omega, by omega⟩ (fun h164 => ?_) (fun h164 => ?_)
            · refine x_iconst rfl ?_
              refine x_ireturn rfl (Or.inl rfl) ⟨_, _, rfl, rfl, ?_, rfl⟩
              first | (exfalso; omega) | (congr 2; unfold sshC; first | rw [if_pos (by omega)] | rw [if_neg (by omega), if_pos (by omega)] | rw [if_neg (by omega), if_neg (by omega), if_pos (by omega)] | rw [if_neg (by omega), if_neg (by omega), if_neg (by omega), if_pos (by omega)] | rw [if_neg (by omega), if_neg (by omega), if_neg (by omega), if_neg (by omega)])
            · refine x_iload rfl (xst_ne (by decide) xst_eq (Or.inl rfl)) ?_
              refine x_iconst rfl ?_
              refine x_cne (t := 186) rfl rfl ⟨by omega, by omega⟩ ⟨by omega, by omega⟩ (fun h170 => ?_) (fun h170 => ?_)
              · refine x_iconst rfl ?_
                refine x_ireturn rfl (Or.inl rfl) ⟨_, _, rfl, rfl, ?_, rfl⟩
                first | (exfalso; omega) | (congr 2; unfold sshC; first | rw [if_pos (by omega)] | rw [if_neg (by omega), if_pos (by omega)] | rw [if_neg (by omega), if_neg (by omega), if_pos (by omega)] | rw [if_neg (by omega), if_neg (by omega), if_neg (by omega), if_pos (by omega)] | rw [if_neg (by omega), if_neg (by omega), if_neg (by omega), if_neg (by omega)])
              · refine x_aload_n rfl (xst_ne (by decide) (xst_ne (by decide) m0 (Or.inl rfl)) (Or.inl rfl)) ?_
                refine x_iload_n rfl (xst_ne (by decide) (xst_ne (by decide) m1 (Or.inl rfl)) (Or.inl rfl)) ?_
                refine x_iload_n rfl (xst_ne (by decide) (xst_ne (by decide) m3 (Or.inl rfl)) (Or.inl rfl)) ?_
                refine x_iconst rfl ?_
                refine x_iconst rfl ?_
                refine x_call [_, _, _, _, _] rfl rfl (show (0 : Nat) ≤ 8 from by decide) (show (5 : Nat) ≤ 10 from by decide) rfl (xs_149 h175 hpl hrl (W := slx r) (So := sly r) (z := 3) (wt := 0) ⟨by omega, by omega⟩ ⟨by omega, by omega⟩ (by decide) (by decide)) ?_
                intro r' f9 hP
                obtain ⟨rfl, hPe⟩ := hP
                subst f9
                refine x_ifne (t := 186) rfl rfl ⟨by omega, by omega⟩ (fun h181 => ?_) (fun h181 => ?_)
                · refine x_iconst rfl ?_
                  refine x_ireturn rfl (Or.inl rfl) ⟨_, _, rfl, rfl, ?_, rfl⟩
                  first | (exfalso; omega) | (congr 2; unfold sshC; first | rw [if_pos (by omega)] | rw [if_neg (by omega), if_pos (by omega)] | rw [if_neg (by omega), if_neg (by omega), if_pos (by omega)] | rw [if_neg (by omega), if_neg (by omega), if_neg (by omega), if_pos (by omega)] | rw [if_neg (by omega), if_neg (by omega), if_neg (by omega), if_neg (by omega)])
                · refine x_iconst rfl ?_
                  refine x_ireturn rfl (Or.inl rfl) ⟨_, _, rfl, rfl, ?_, rfl⟩
                  first | (exfalso; omega) | (congr 2; unfold sshC; first | rw [if_pos (by omega)] | rw [if_neg (by omega), if_pos (by omega)] | rw [if_neg (by omega), if_neg (by omega), if_pos (by omega)] | rw [if_neg (by omega), if_neg (by omega), if_neg (by omega), if_pos (by omega)] | rw [if_neg (by omega), if_neg (by omega), if_neg (by omega), if_neg (by omega)])
          · refine x_aload_n rfl (xst_ne (by decide) (xst_ne (by decide) m0 (Or.inl rfl)) (Or.inl rfl)) ?_
            refine x_iload_n rfl (xst_ne (by decide) (xst_ne (by decide) m1 (Or.inl rfl)) (Or.inl rfl)) ?_
            refine x_iload_n rfl (xst_ne (by decide) (xst_ne (by decide) m3 (Or.inl rfl)) (Or.inl rfl)) ?_
            refine x_iconst rfl ?_
            refine x_iconst rfl ?_
            refine x_call [_, _, _, _, _] rfl rfl (show (0 : Nat) ≤ 8 from by decide) (show (5 : Nat) ≤ 10 from by decide) rfl (xs_149 h175 hpl hrl (W := slx r) (So := sly r) (z := 4) (wt := 1) ⟨by omega, by omega⟩ ⟨by omega, by omega⟩ (by decide) (by decide)) ?_
            intro r' f9 hP
            obtain ⟨rfl, hPe⟩ := hP
            subst f9
            refine x_bipush rfl (by decide) ?_
            refine x_cne (t := 161) rfl rfl ⟨by omega, by omega⟩ ⟨by omega, by omega⟩ (fun h156 => ?_) (fun h156 => ?_)
            · refine x_iload rfl xst_eq ?_
              refine x_iconst rfl ?_
              refine x_cne (t := 186) rfl rfl ⟨by omega, by omega⟩ ⟨by omega, by omega⟩ (fun h164 => ?_) (fun h164 => ?_)
              · refine x_iconst rfl ?_
                refine x_ireturn rfl (Or.inl rfl) ⟨_, _, rfl, rfl, ?_, rfl⟩
                first | (exfalso; omega) | (congr 2; unfold sshC; first | rw [if_pos (by omega)] | rw [if_neg (by omega), if_pos (by omega)] | rw [if_neg (by omega), if_neg (by omega), if_pos (by omega)] | rw [if_neg (by omega), if_neg (by omega), if_neg (by omega), if_pos (by omega)] | rw [if_neg (by omega), if_neg (by omega), if_neg (by omega), if_neg (by omega)])
              · refine x_iload rfl (xst_ne (by decide) xst_eq (Or.inl rfl)) ?_
                refine x_iconst rfl ?_
                refine x_cne (t := 186) rfl rfl ⟨by omega, by omega⟩ ⟨by omega, by omega⟩ (fun h170 => ?_) (fun h170 => ?_)
                · refine x_iconst rfl ?_
                  refine x_ireturn rfl (Or.inl rfl) ⟨_, _, rfl, rfl, ?_, rfl⟩
                  first | (exfalso; omega) | (congr 2; unfold sshC; first | rw [if_pos (by omega)] | rw [if_neg (by omega), if_pos (by omega)] | rw [if_neg (by omega), if_neg (by omega), if_pos (by omega)] | rw [if_neg (by omega), if_neg (by omega), if_neg (by omega), if_pos (by omega)] | rw [if_neg (by omega), if_neg (by omega), if_neg (by omega), if_neg (by omega)])
                · refine x_aload_n rfl (xst_ne (by decide) (xst_ne (by decide) m0 (Or.inl rfl)) (Or.inl rfl)) ?_
                  refine x_iload_n rfl (xst_ne (by decide) (xst_ne (by decide) m1 (Or.inl rfl)) (Or.inl rfl)) ?_
                  refine x_iload_n rfl (xst_ne (by decide) (xst_ne (by decide) m3 (Or.inl rfl)) (Or.inl rfl)) ?_
                  refine x_iconst rfl ?_
                  refine x_iconst rfl ?_
                  refine x_call [_, _, _, _, _] rfl rfl (show (0 : Nat) ≤ 8 from by decide) (show (5 : Nat) ≤ 10 from by decide) rfl (xs_149 h175 hpl hrl (W := slx r) (So := sly r) (z := 3) (wt := 0) ⟨by omega, by omega⟩ ⟨by omega, by omega⟩ (by decide) (by decide)) ?_
                  intro r' f9 hP
                  obtain ⟨rfl, hPe⟩ := hP
                  subst f9
                  refine x_ifne (t := 186) rfl rfl ⟨by omega, by omega⟩ (fun h181 => ?_) (fun h181 => ?_)
                  · refine x_iconst rfl ?_
                    refine x_ireturn rfl (Or.inl rfl) ⟨_, _, rfl, rfl, ?_, rfl⟩
                    first | (exfalso; omega) | (congr 2; unfold sshC; first | rw [if_pos (by omega)] | rw [if_neg (by omega), if_pos (by omega)] | rw [if_neg (by omega), if_neg (by omega), if_pos (by omega)] | rw [if_neg (by omega), if_neg (by omega), if_neg (by omega), if_pos (by omega)] | rw [if_neg (by omega), if_neg (by omega), if_neg (by omega), if_neg (by omega)])
                  · refine x_iconst rfl ?_
                    refine x_ireturn rfl (Or.inl rfl) ⟨_, _, rfl, rfl, ?_, rfl⟩
                    first | (exfalso; omega) | (congr 2; unfold sshC; first | rw [if_pos (by omega)] | rw [if_neg (by omega), if_pos (by omega)] | rw [if_neg (by omega), if_neg (by omega), if_pos (by omega)] | rw [if_neg (by omega), if_neg (by omega), if_neg (by omega), if_pos (by omega)] | rw [if_neg (by omega), if_neg (by omega), if_neg (by omega), if_neg (by omega)])
            · refine x_iconst rfl ?_
              refine x_ireturn rfl (Or.inl rfl) ⟨_, _, rfl, rfl, ?_, rfl⟩
              first | (exfalso; omega) | (congr 2; unfold sshC; first | rw [if_pos (by omega)] | rw [if_neg (by omega), if_pos (by omega)] | rw [if_neg (by omega), if_neg (by omega), if_pos (by omega)] | rw [if_neg (by omega), if_neg (by omega), if_neg (by omega), if_pos (by omega)] | rw [if_neg (by omega), if_neg (by omega), if_neg (by omega), if_neg (by omega)])
      · refine x_iload rfl (xst_ne (by decide) xst_eq (Or.inl rfl)) ?_
        refine x_iconst rfl ?_
        refine x_cne (t := 134) rfl rfl ⟨by omega, by omega⟩ ⟨by omega, by omega⟩ (fun h129 => ?_) (fun h129 => ?_)
        · refine x_iload rfl xst_eq ?_
          refine x_iconst rfl ?_
          refine x_cne (t := 161) rfl rfl ⟨by omega, by omega⟩ ⟨by omega, by omega⟩ (fun h137 => ?_) (fun h137 => ?_)
          · refine x_iload rfl xst_eq ?_
            refine x_iconst rfl ?_
            refine x_cne (t := 186) rfl rfl ⟨by omega, by omega⟩ ⟨by omega, by omega⟩ (fun h164 => ?_) (fun h164 => ?_)
            · refine x_iconst rfl ?_
              refine x_ireturn rfl (Or.inl rfl) ⟨_, _, rfl, rfl, ?_, rfl⟩
              first | (exfalso; omega) | (congr 2; unfold sshC; first | rw [if_pos (by omega)] | rw [if_neg (by omega), if_pos (by omega)] | rw [if_neg (by omega), if_neg (by omega), if_pos (by omega)] | rw [if_neg (by omega), if_neg (by omega), if_neg (by omega), if_pos (by omega)] | rw [if_neg (by omega), if_neg (by omega), if_neg (by omega), if_neg (by omega)])
            · refine x_iload rfl (xst_ne (by decide) xst_eq (Or.inl rfl)) ?_
              refine x_iconst rfl ?_
              refine x_cne (t := 186) rfl rfl ⟨by omega, by omega⟩ ⟨by omega, by omega⟩ (fun h170 => ?_) (fun h170 => ?_)
              · refine x_iconst rfl ?_
                refine x_ireturn rfl (Or.inl rfl) ⟨_, _, rfl, rfl, ?_, rfl⟩
                first | (exfalso; omega) | (congr 2; unfold sshC; first | rw [if_pos (by omega)] | rw [if_neg (by omega), if_pos (by omega)] | rw [if_neg (by omega), if_neg (by omega), if_pos (by omega)] | rw [if_neg (by omega), if_neg (by omega), if_neg (by omega), if_pos (by omega)] | rw [if_neg (by omega), if_neg (by omega), if_neg (by omega), if_neg (by omega)])
              · refine x_aload_n rfl (xst_ne (by decide) (xst_ne (by decide) m0 (Or.inl rfl)) (Or.inl rfl)) ?_
                refine x_iload_n rfl (xst_ne (by decide) (xst_ne (by decide) m1 (Or.inl rfl)) (Or.inl rfl)) ?_
                refine x_iload_n rfl (xst_ne (by decide) (xst_ne (by decide) m3 (Or.inl rfl)) (Or.inl rfl)) ?_
                refine x_iconst rfl ?_
                refine x_iconst rfl ?_
                refine x_call [_, _, _, _, _] rfl rfl (show (0 : Nat) ≤ 8 from by decide) (show (5 : Nat) ≤ 10 from by decide) rfl (xs_149 h175 hpl hrl (W := slx r) (So := sly r) (z := 3) (wt := 0) ⟨by omega, by omega⟩ ⟨by omega, by omega⟩ (by decide) (by decide)) ?_
                intro r' f9 hP
                obtain ⟨rfl, hPe⟩ := hP
                subst f9
                refine x_ifne (t := 186) rfl rfl ⟨by omega, by omega⟩ (fun h181 => ?_) (fun h181 => ?_)
                · refine x_iconst rfl ?_
                  refine x_ireturn rfl (Or.inl rfl) ⟨_, _, rfl, rfl, ?_, rfl⟩
                  first | (exfalso; omega) | (congr 2; unfold sshC; first | rw [if_pos (by omega)] | rw [if_neg (by omega), if_pos (by omega)] | rw [if_neg (by omega), if_neg (by omega), if_pos (by omega)] | rw [if_neg (by omega), if_neg (by omega), if_neg (by omega), if_pos (by omega)] | rw [if_neg (by omega), if_neg (by omega), if_neg (by omega), if_neg (by omega)])
                · refine x_iconst rfl ?_
                  refine x_ireturn rfl (Or.inl rfl) ⟨_, _, rfl, rfl, ?_, rfl⟩
                  first | (exfalso; omega) | (congr 2; unfold sshC; first | rw [if_pos (by omega)] | rw [if_neg (by omega), if_pos (by omega)] | rw [if_neg (by omega), if_neg (by omega), if_pos (by omega)] | rw [if_neg (by omega), if_neg (by omega), if_neg (by omega), if_pos (by omega)] | rw [if_neg (by omega), if_neg (by omega), if_neg (by omega), if_neg (by omega)])
          · refine x_iload rfl (xst_ne (by decide) xst_eq (Or.inl rfl)) ?_
            refine x_iconst rfl ?_
            refine x_cne (t := 161) rfl rfl ⟨by omega, by omega⟩ ⟨by omega, by omega⟩ (fun h143 => ?_) (fun h143 => ?_)
            · refine x_iload rfl xst_eq ?_
              refine x_iconst rfl ?_
              refine x_cne (t := 186) rfl rfl ⟨by omega, by omega⟩ ⟨by omega, by omega⟩ (fun h164 => ?_) (fun h164 => ?_)
              · refine x_iconst rfl ?_
                refine x_ireturn rfl (Or.inl rfl) ⟨_, _, rfl, rfl, ?_, rfl⟩
                first | (exfalso; omega) | (congr 2; unfold sshC; first | rw [if_pos (by omega)] | rw [if_neg (by omega), if_pos (by omega)] | rw [if_neg (by omega), if_neg (by omega), if_pos (by omega)] | rw [if_neg (by omega), if_neg (by omega), if_neg (by omega), if_pos (by omega)] | rw [if_neg (by omega), if_neg (by omega), if_neg (by omega), if_neg (by omega)])
              · refine x_iload rfl (xst_ne (by decide) xst_eq (Or.inl rfl)) ?_
                refine x_iconst rfl ?_
                refine x_cne (t := 186) rfl rfl ⟨by omega, by omega⟩ ⟨by omega, by omega⟩ (fun h170 => ?_) (fun h170 => ?_)
                · refine x_iconst rfl ?_
                  refine x_ireturn rfl (Or.inl rfl) ⟨_, _, rfl, rfl, ?_, rfl⟩
                  first | (exfalso; omega) | (congr 2; unfold sshC; first | rw [if_pos (by omega)] | rw [if_neg (by omega), if_pos (by omega)] | rw [if_neg (by omega), if_neg (by omega), if_pos (by omega)] | rw [if_neg (by omega), if_neg (by omega), if_neg (by omega), if_pos (by omega)] | rw [if_neg (by omega), if_neg (by omega), if_neg (by omega), if_neg (by omega)])
                · refine x_aload_n rfl (xst_ne (by decide) (xst_ne (by decide) m0 (Or.inl rfl)) (Or.inl rfl)) ?_
                  refine x_iload_n rfl (xst_ne (by decide) (xst_ne (by decide) m1 (Or.inl rfl)) (Or.inl rfl)) ?_
                  refine x_iload_n rfl (xst_ne (by decide) (xst_ne (by decide) m3 (Or.inl rfl)) (Or.inl rfl)) ?_
                  refine x_iconst rfl ?_
                  refine x_iconst rfl ?_
                  refine x_call [_, _, _, _, _] rfl rfl (show (0 : Nat) ≤ 8 from by decide) (show (5 : Nat) ≤ 10 from by decide) rfl (xs_149 h175 hpl hrl (W := slx r) (So := sly r) (z := 3) (wt := 0) ⟨by omega, by omega⟩ ⟨by omega, by omega⟩ (by decide) (by decide)) ?_
                  intro r' f9 hP
                  obtain ⟨rfl, hPe⟩ := hP
                  subst f9
                  refine x_ifne (t := 186) rfl rfl ⟨by omega, by omega⟩ (fun h181 => ?_) (fun h181 => ?_)
                  · refine x_iconst rfl ?_
                    refine x_ireturn rfl (Or.inl rfl) ⟨_, _, rfl, rfl, ?_, rfl⟩
                    first | (exfalso; omega) | (congr 2; unfold sshC; first | rw [if_pos (by omega)] | rw [if_neg (by omega), if_pos (by omega)] | rw [if_neg (by omega), if_neg (by omega), if_pos (by omega)] | rw [if_neg (by omega), if_neg (by omega), if_neg (by omega), if_pos (by omega)] | rw [if_neg (by omega), if_neg (by omega), if_neg (by omega), if_neg (by omega)])
                  · refine x_iconst rfl ?_
                    refine x_ireturn rfl (Or.inl rfl) ⟨_, _, rfl, rfl, ?_, rfl⟩
                    first | (exfalso; omega) | (congr 2; unfold sshC; first | rw [if_pos (by omega)] | rw [if_neg (by omega), if_pos (by omega)] | rw [if_neg (by omega), if_neg (by omega), if_pos (by omega)] | rw [if_neg (by omega), if_neg (by omega), if_neg (by omega), if_pos (by omega)] | rw [if_neg (by omega), if_neg (by omega), if_neg (by omega), if_neg (by omega)])
            · refine x_aload_n rfl (xst_ne (by decide) (xst_ne (by decide) m0 (Or.inl rfl)) (Or.inl rfl)) ?_
              refine x_iload_n rfl (xst_ne (by decide) (xst_ne (by decide) m1 (Or.inl rfl)) (Or.inl rfl)) ?_
              refine x_iload_n rfl (xst_ne (by decide) (xst_ne (by decide) m3 (Or.inl rfl)) (Or.inl rfl)) ?_
              refine x_iconst rfl ?_
              refine x_iconst rfl ?_
              refine x_call [_, _, _, _, _] rfl rfl (show (0 : Nat) ≤ 8 from by decide) (show (5 : Nat) ≤ 10 from by decide) rfl (xs_149 h175 hpl hrl (W := slx r) (So := sly r) (z := 4) (wt := 1) ⟨by omega, by omega⟩ ⟨by omega, by omega⟩ (by decide) (by decide)) ?_
              intro r' f9 hP
              obtain ⟨rfl, hPe⟩ := hP
              subst f9
              refine x_bipush rfl (by decide) ?_
              refine x_cne (t := 161) rfl rfl ⟨by omega, by omega⟩ ⟨by omega, by omega⟩ (fun h156 => ?_) (fun h156 => ?_)
              · refine x_iload rfl xst_eq ?_
                refine x_iconst rfl ?_
                refine x_cne (t := 186) rfl rfl ⟨by omega, by omega⟩ ⟨by omega, by omega⟩ (fun h164 => ?_) (fun h164 => ?_)
                · refine x_iconst rfl ?_
                  refine x_ireturn rfl (Or.inl rfl) ⟨_, _, rfl, rfl, ?_, rfl⟩
                  first | (exfalso; omega) | (congr 2; unfold sshC; first | rw [if_pos (by omega)] | rw [if_neg (by omega), if_pos (by omega)] | rw [if_neg (by omega), if_neg (by omega), if_pos (by omega)] | rw [if_neg (by omega), if_neg (by omega), if_neg (by omega), if_pos (by omega)] | rw [if_neg (by omega), if_neg (by omega), if_neg (by omega), if_neg (by omega)])
                · refine x_iload rfl (xst_ne (by decide) xst_eq (Or.inl rfl)) ?_
                  refine x_iconst rfl ?_
                  refine x_cne (t := 186) rfl rfl ⟨by omega, by omega⟩ ⟨by omega, by omega⟩ (fun h170 => ?_) (fun h170 => ?_)
                  · refine x_iconst rfl ?_
                    refine x_ireturn rfl (Or.inl rfl) ⟨_, _, rfl, rfl, ?_, rfl⟩
                    first | (exfalso; omega) | (congr 2; unfold sshC; first | rw [if_pos (by omega)] | rw [if_neg (by omega), if_pos (by omega)] | rw [if_neg (by omega), if_neg (by omega), if_pos (by omega)] | rw [if_neg (by omega), if_neg (by omega), if_neg (by omega), if_pos (by omega)] | rw [if_neg (by omega), if_neg (by omega), if_neg (by omega), if_neg (by omega)])
                  · refine x_aload_n rfl (xst_ne (by decide) (xst_ne (by decide) m0 (Or.inl rfl)) (Or.inl rfl)) ?_
                    refine x_iload_n rfl (xst_ne (by decide) (xst_ne (by decide) m1 (Or.inl rfl)) (Or.inl rfl)) ?_
                    refine x_iload_n rfl (xst_ne (by decide) (xst_ne (by decide) m3 (Or.inl rfl)) (Or.inl rfl)) ?_
                    refine x_iconst rfl ?_
                    refine x_iconst rfl ?_
                    refine x_call [_, _, _, _, _] rfl rfl (show (0 : Nat) ≤ 8 from by decide) (show (5 : Nat) ≤ 10 from by decide) rfl (xs_149 h175 hpl hrl (W := slx r) (So := sly r) (z := 3) (wt := 0) ⟨by omega, by omega⟩ ⟨by omega, by omega⟩ (by decide) (by decide)) ?_
                    intro r' f9 hP
                    obtain ⟨rfl, hPe⟩ := hP
                    subst f9
                    refine x_ifne (t := 186) rfl rfl ⟨by omega, by omega⟩ (fun h181 => ?_) (fun h181 => ?_)
                    · refine x_iconst rfl ?_
                      refine x_ireturn rfl (Or.inl rfl) ⟨_, _, rfl, rfl, ?_, rfl⟩
                      first | (exfalso; omega) | (congr 2; unfold sshC; first | rw [if_pos (by omega)] | rw [if_neg (by omega), if_pos (by omega)] | rw [if_neg (by omega), if_neg (by omega), if_pos (by omega)] | rw [if_neg (by omega), if_neg (by omega), if_neg (by omega), if_pos (by omega)] | rw [if_neg (by omega), if_neg (by omega), if_neg (by omega), if_neg (by omega)])
                    · refine x_iconst rfl ?_
                      refine x_ireturn rfl (Or.inl rfl) ⟨_, _, rfl, rfl, ?_, rfl⟩
                      first | (exfalso; omega) | (congr 2; unfold sshC; first | rw [if_pos (by omega)] | rw [if_neg (by omega), if_pos (by omega)] | rw [if_neg (by omega), if_neg (by omega), if_pos (by omega)] | rw [if_neg (by omega), if_neg (by omega), if_neg (by omega), if_pos (by omega)] | rw [if_neg (by omega), if_neg (by omega), if_neg (by omega), if_neg (by omega)])
              · refine x_iconst rfl ?_
                refine x_ireturn rfl (Or.inl rfl) ⟨_, _, rfl, rfl, ?_, rfl⟩
                first | (exfalso; omega) | (congr 2; unfold sshC; first | rw [if_pos (by omega)] | rw [if_neg (by omega), if_pos (by omega)] | rw [if_neg (by omega), if_neg (by omega), if_pos (by omega)] | rw [if_neg (by omega), if_neg (by omega), if_neg (by omega), if_pos (by omega)] | rw [if_neg (by omega), if_neg (by omega), if_neg (by omega), if_neg (by omega)])
        · refine x_iconst rfl ?_
          refine x_ireturn rfl (Or.inl rfl) ⟨_, _, rfl, rfl, ?_, rfl⟩
          first | (exfalso; omega) | (congr 2; unfold sshC; first | rw [if_pos (by omega)] | rw [if_neg (by omega), if_pos (by omega)] | rw [if_neg (by omega), if_neg (by omega), if_pos (by omega)] | rw [if_neg (by omega), if_neg (by omega), if_neg (by omega), if_pos (by omega)] | rw [if_neg (by omega), if_neg (by omega), if_neg (by omega), if_neg (by omega)])
    · refine x_iconst rfl ?_
      refine x_ireturn rfl (Or.inl rfl) ⟨_, _, rfl, rfl, ?_, rfl⟩
      first | (exfalso; omega) | (congr 2; unfold sshC; first | rw [if_pos (by omega)] | rw [if_neg (by omega), if_pos (by omega)] | rw [if_neg (by omega), if_neg (by omega), if_pos (by omega)] | rw [if_neg (by omega), if_neg (by omega), if_neg (by omega), if_pos (by omega)] | rw [if_neg (by omega), if_neg (by omega), if_neg (by omega), if_neg (by omega)])
theorem xs_151 {v0 : Value} {xs : List Int32} {u : Nat × Nat} {f : Nat → zE} {K : List (Int × Int)} {G : Nat → List xBt} {S : sS} (hT : sCT f K G S) : xz v0 xs u (sCQ f u K G exD (0, sshape S.1, S)) 151 0 [(0, .ref 50)] [] f := by
  obtain ⟨⟨lf, h50⟩, ⟨pl, h175, hpl, hrl⟩, -⟩ := id hT
  refine x_aload_n rfl rfl ?_
  refine x_getfield rfl (by decide) h50 rfl ?_
  refine x_call [_] rfl rfl (show (0 : Nat) ≤ 8 from by decide) (show (1 : Nat) ≤ 7 from by decide) rfl (xs_150 h175 hpl hrl) (fun r' f9 hP => ?_)
  obtain ⟨rfl, hPe⟩ := hP
  subst f9
  exact x_ireturn rfl (Or.inl rfl) ⟨f, Or.inl ⟨rfl, rfl, rfl⟩, hT, fun _ _ _ _ _ => rfl⟩
end
section
/-! Shape: the model. -/
theorem xs_152a {v0 : Value} {xs : List Int32} {u : Nat × Nat} {Q : zO → zX → Prop} {f : Nat → zE} {fs : List Value} {mx my : List Int} {r : Nat → Int} (h177 : f 177 = .inl (10, fs)) (a1 : fs[22]? = some (.ref 189)) (a2 : fs[23]? = some (.ref 190)) (x1 : f 189 = xr 0 mx) (x2 : f 190 = xr 0 my) (y1 : mx.length = 8) (y2 : my.length = 8) (hx : ∀ d, d < 8 → (mx.getD d 0 = sX (r d) ∧ my.getD d 0 = sY (r d)) ∧ sok (r d)) (hk : ∀ lv : zL, zlv lv 0 = some (.ref 177) → zlv lv 1 = some (xi (slx r)) → zlv lv 2 = some (xi (shx r)) → zlv lv 3 = some (xi (sly r)) → zlv lv 4 = some (xi (shy r)) → xz v0 xs u Q 152 127 lv [] f) : ∀ (w d : Nat) (lv : zL), w + d = 8 → zlv lv 0 = some (.ref 177) → zlv lv 1 = some (xi (slo 9 (fun e => sX (r e)) d)) → zlv lv 2 = some (xi (shi (fun e => sX (r e)) d)) → zlv lv 3 = some (xi (slo 9 (fun e => sY (r e)) d)) → zlv lv 4 = some (xi (shi (fun e => sY (r e)) d)) → zlv lv 5 = some (xi (d : Nat)) → xz v0 xs u Q 152 19 lv [] f := by
  have hX : ∀ e, e < 8 → 0 ≤ sX (r e) ∧ sX (r e) ≤ 9 := fun e he => sX_rg (hx e he).2
  have hY : ∀ e, e < 8 → 0 ≤ sY (r e) ∧ sY (r e) ≤ 9 := fun e he => sY_rg (hx e he).2
  intro w
  induction w with
  | zero =>
    intro d lv hw l0 l1 l2 l3 l4 l5
    have e8 : d = 8 := by omega
    subst e8
    refine x_iload rfl l5 ?_
    refine x_bipush rfl (by decide) ?_
    refine x_cge (t := 127) rfl rfl (by decide) (by decide) (fun _ => ?_) (fun h => absurd h (by decide))
    exact hk lv l0 l1 l2 l3 l4
  | succ w ih =>
    intro d lv hw l0 l1 l2 l3 l4 l5
    have hd : d < 8 := by omega
    obtain ⟨⟨q1, q2⟩, -⟩ := hx d hd
    have z1 := slo_rg (i := 9) (by decide) hX d (by omega)
    have z2 := shi_rg hX d (by omega)
    have z3 := slo_rg (i := 9) (by decide) hY d (by omega)
    have z4 := shi_rg hY d (by omega)
    have z5 := hX d hd
    have z6 := hY d hd
    refine x_iload rfl l5 ?_
    refine x_bipush rfl (by decide) ?_
    refine x_cge (t := 127) rfl rfl ⟨by omega, by omega⟩ (by decide) (fun h => absurd h (by omega)) (fun _ => ?_)
    refine x_dia (slo 9 (fun e => sX (r e)) (d + 1)) 48 (fun k => ?_) ?_
    · refine x_aload_n rfl l0 ?_
      refine x_getfield rfl (by decide) h177 a1 ?_
      refine x_iload rfl l5 ?_
      refine x_iaload rfl (by decide) x1 ⟨by omega, by omega⟩ (by omega) ?_
      rw [Int.toNat_natCast, q1]
      refine x_iload_n rfl l1 ?_
      refine x_cge (t := 47) rfl rfl ⟨by omega, by omega⟩ ⟨by omega, by omega⟩ (fun h34 => ?_) (fun h34 => ?_)
      · refine x_iload_n rfl l1 ?_
        first | (rw [show slo 9 (fun e => sX (r e)) (d + 1) = sX (r d) from if_pos (show sX (r d) < slo 9 (fun e => sX (r e)) d by omega)] at k; exact k) | (rw [show slo 9 (fun e => sX (r e)) (d + 1) = slo 9 (fun e => sX (r e)) d from if_neg (show ¬ sX (r d) < slo 9 (fun e => sX (r e)) d by omega)] at k; exact k)
      · refine x_aload_n rfl l0 ?_
        refine x_getfield rfl (by decide) h177 a1 ?_
        refine x_iload rfl l5 ?_
        refine x_iaload rfl (by decide) x1 ⟨by omega, by omega⟩ (by omega) ?_
        rw [Int.toNat_natCast, q1]
        refine x_goto (t := 48) rfl rfl ?_
        first | (rw [show slo 9 (fun e => sX (r e)) (d + 1) = sX (r d) from if_pos (show sX (r d) < slo 9 (fun e => sX (r e)) d by omega)] at k; exact k) | (rw [show slo 9 (fun e => sX (r e)) (d + 1) = slo 9 (fun e => sX (r e)) d from if_neg (show ¬ sX (r d) < slo 9 (fun e => sX (r e)) d by omega)] at k; exact k)
    refine x_istore_n rfl (show (1 : Nat) < 11 from by decide) ?_
    refine x_dia (shi (fun e => sX (r e)) (d + 1)) 71 (fun k => ?_) ?_
    · refine x_aload_n rfl (xst_ne (by decide) l0 (Or.inl rfl)) ?_
      refine x_getfield rfl (by decide) h177 a1 ?_
      refine x_iload rfl (xst_ne (by decide) l5 (Or.inl rfl)) ?_
      refine x_iaload rfl (by decide) x1 ⟨by omega, by omega⟩ (by omega) ?_
      rw [Int.toNat_natCast, q1]
      refine x_iload_n rfl (xst_ne (by decide) l2 (Or.inl rfl)) ?_
      refine x_cle (t := 70) rfl rfl ⟨by omega, by omega⟩ ⟨by omega, by omega⟩ (fun h57 => ?_) (fun h57 => ?_)
      · refine x_iload_n rfl (xst_ne (by decide) l2 (Or.inl rfl)) ?_
        first | (rw [show shi (fun e => sX (r e)) (d + 1) = sX (r d) from if_pos (show shi (fun e => sX (r e)) d < sX (r d) by omega)] at k; exact k) | (rw [show shi (fun e => sX (r e)) (d + 1) = shi (fun e => sX (r e)) d from if_neg (show ¬ shi (fun e => sX (r e)) d < sX (r d) by omega)] at k; exact k)
      · refine x_aload_n rfl (xst_ne (by decide) l0 (Or.inl rfl)) ?_
        refine x_getfield rfl (by decide) h177 a1 ?_
        refine x_iload rfl (xst_ne (by decide) l5 (Or.inl rfl)) ?_
        refine x_iaload rfl (by decide) x1 ⟨by omega, by omega⟩ (by omega) ?_
        rw [Int.toNat_natCast, q1]
        refine x_goto (t := 71) rfl rfl ?_
        first | (rw [show shi (fun e => sX (r e)) (d + 1) = sX (r d) from if_pos (show shi (fun e => sX (r e)) d < sX (r d) by omega)] at k; exact k) | (rw [show shi (fun e => sX (r e)) (d + 1) = shi (fun e => sX (r e)) d from if_neg (show ¬ shi (fun e => sX (r e)) d < sX (r d) by omega)] at k; exact k)
    refine x_istore_n rfl (show (2 : Nat) < 11 from by decide) ?_
    refine x_dia (slo 9 (fun e => sY (r e)) (d + 1)) 94 (fun k => ?_) ?_
    · refine x_aload_n rfl (xst_ne (by decide) (xst_ne (by decide) l0 (Or.inl rfl)) (Or.inl rfl)) ?_
      refine x_getfield rfl (by decide) h177 a2 ?_
      refine x_iload rfl (xst_ne (by decide) (xst_ne (by decide) l5 (Or.inl rfl)) (Or.inl rfl)) ?_
      refine x_iaload rfl (by decide) x2 ⟨by omega, by omega⟩ (by omega) ?_
      rw [Int.toNat_natCast, q2]
      refine x_iload_n rfl (xst_ne (by decide) (xst_ne (by decide) l3 (Or.inl rfl)) (Or.inl rfl)) ?_
      refine x_cge (t := 93) rfl rfl ⟨by omega, by omega⟩ ⟨by omega, by omega⟩ (fun h80 => ?_) (fun h80 => ?_)
      · refine x_iload_n rfl (xst_ne (by decide) (xst_ne (by decide) l3 (Or.inl rfl)) (Or.inl rfl)) ?_
        first | (rw [show slo 9 (fun e => sY (r e)) (d + 1) = sY (r d) from if_pos (show sY (r d) < slo 9 (fun e => sY (r e)) d by omega)] at k; exact k) | (rw [show slo 9 (fun e => sY (r e)) (d + 1) = slo 9 (fun e => sY (r e)) d from if_neg (show ¬ sY (r d) < slo 9 (fun e => sY (r e)) d by omega)] at k; exact k)
      · refine x_aload_n rfl (xst_ne (by decide) (xst_ne (by decide) l0 (Or.inl rfl)) (Or.inl rfl)) ?_
        refine x_getfield rfl (by decide) h177 a2 ?_
        refine x_iload rfl (xst_ne (by decide) (xst_ne (by decide) l5 (Or.inl rfl)) (Or.inl rfl)) ?_
        refine x_iaload rfl (by decide) x2 ⟨by omega, by omega⟩ (by omega) ?_
        rw [Int.toNat_natCast, q2]
        refine x_goto (t := 94) rfl rfl ?_
        first | (rw [show slo 9 (fun e => sY (r e)) (d + 1) = sY (r d) from if_pos (show sY (r d) < slo 9 (fun e => sY (r e)) d by omega)] at k; exact k) | (rw [show slo 9 (fun e => sY (r e)) (d + 1) = slo 9 (fun e => sY (r e)) d from if_neg (show ¬ sY (r d) < slo 9 (fun e => sY (r e)) d by omega)] at k; exact k)
    refine x_istore_n rfl (show (3 : Nat) < 11 from by decide) ?_
    refine x_dia (shi (fun e => sY (r e)) (d + 1)) 119 (fun k => ?_) ?_
    · refine x_aload_n rfl (xst_ne (by decide) (xst_ne (by decide) (xst_ne (by decide) l0 (Or.inl rfl)) (Or.inl rfl)) (Or.inl rfl)) ?_
      refine x_getfield rfl (by decide) h177 a2 ?_
      refine x_iload rfl (xst_ne (by decide) (xst_ne (by decide) (xst_ne (by decide) l5 (Or.inl rfl)) (Or.inl rfl)) (Or.inl rfl)) ?_
      refine x_iaload rfl (by decide) x2 ⟨by omega, by omega⟩ (by omega) ?_
      rw [Int.toNat_natCast, q2]
      refine x_iload rfl (xst_ne (by decide) (xst_ne (by decide) (xst_ne (by decide) l4 (Or.inl rfl)) (Or.inl rfl)) (Or.inl rfl)) ?_
      refine x_cle (t := 117) rfl rfl ⟨by omega, by omega⟩ ⟨by omega, by omega⟩ (fun h104 => ?_) (fun h104 => ?_)
      · refine x_iload rfl (xst_ne (by decide) (xst_ne (by decide) (xst_ne (by decide) l4 (Or.inl rfl)) (Or.inl rfl)) (Or.inl rfl)) ?_
        first | (rw [show shi (fun e => sY (r e)) (d + 1) = sY (r d) from if_pos (show shi (fun e => sY (r e)) d < sY (r d) by omega)] at k; exact k) | (rw [show shi (fun e => sY (r e)) (d + 1) = shi (fun e => sY (r e)) d from if_neg (show ¬ shi (fun e => sY (r e)) d < sY (r d) by omega)] at k; exact k)
      · refine x_aload_n rfl (xst_ne (by decide) (xst_ne (by decide) (xst_ne (by decide) l0 (Or.inl rfl)) (Or.inl rfl)) (Or.inl rfl)) ?_
        refine x_getfield rfl (by decide) h177 a2 ?_
        refine x_iload rfl (xst_ne (by decide) (xst_ne (by decide) (xst_ne (by decide) l5 (Or.inl rfl)) (Or.inl rfl)) (Or.inl rfl)) ?_
        refine x_iaload rfl (by decide) x2 ⟨by omega, by omega⟩ (by omega) ?_
        rw [Int.toNat_natCast, q2]
        refine x_goto (t := 119) rfl rfl ?_
        first | (rw [show shi (fun e => sY (r e)) (d + 1) = sY (r d) from if_pos (show shi (fun e => sY (r e)) d < sY (r d) by omega)] at k; exact k) | (rw [show shi (fun e => sY (r e)) (d + 1) = shi (fun e => sY (r e)) d from if_neg (show ¬ shi (fun e => sY (r e)) d < sY (r d) by omega)] at k; exact k)
    refine x_istore rfl (show (4 : Nat) < 11 from by decide) ?_
    refine x_iinc rfl (xst_ne (by decide) (xst_ne (by decide) (xst_ne (by decide) (xst_ne (by decide) l5 (Or.inl rfl)) (Or.inl rfl)) (Or.inl rfl)) (Or.inl rfl)) (show (5 : Nat) < 11 from by decide) ?_
    refine x_goto (t := 19) rfl rfl ?_
    exact ih (d + 1) _ (by omega) (xst_ne (by decide) (xst_ne (by decide) (xst_ne (by decide) (xst_ne (by decide) (xst_ne (by decide) l0 (Or.inl rfl)) (Or.inl rfl)) (Or.inl rfl)) (Or.inl rfl)) (Or.inl rfl)) (xst_ne (by decide) (xst_ne (by decide) (xst_ne (by decide) (xst_ne (by decide) xst_eq (Or.inl rfl)) (Or.inl rfl)) (Or.inl rfl)) (Or.inl rfl)) (xst_ne (by decide) (xst_ne (by decide) (xst_ne (by decide) xst_eq (Or.inl rfl)) (Or.inl rfl)) (Or.inl rfl)) (xst_ne (by decide) (xst_ne (by decide) xst_eq (Or.inl rfl)) (Or.inl rfl)) (xst_ne (by decide) xst_eq (Or.inl rfl)) xst_eq
theorem xs_152b {v0 : Value} {xs : List Int32} {u : Nat × Nat} {Q : zO → zX → Prop} {f : Nat → zE} {fs : List Value} {mx my : List Int} {r : Nat → Int} (h177 : f 177 = .inl (10, fs)) (a1 : fs[22]? = some (.ref 189)) (a2 : fs[23]? = some (.ref 190)) (x1 : f 189 = xr 0 mx) (x2 : f 190 = xr 0 my) (y1 : mx.length = 8) (y2 : my.length = 8) (hx : ∀ d, d < 8 → (mx.getD d 0 = sX (r d) ∧ my.getD d 0 = sY (r d)) ∧ sok (r d)) {H : Int} (hk : ∀ lv : zL, zlv lv 0 = some (.ref 177) → zlv lv 5 = some (xi (shx r - slx r + 1)) → zlv lv 6 = some (xi H) → zlv lv 7 = some (xi (shf r)) → xz v0 xs u Q 152 286 lv [] f) : ∀ (w d : Nat) (lv : zL), w + d = 8 → zlv lv 0 = some (.ref 177) → zlv lv 1 = some (xi (slx r)) → zlv lv 2 = some (xi (shx r)) → zlv lv 3 = some (xi (sly r)) → zlv lv 4 = some (xi (shy r)) → zlv lv 5 = some (xi (shx r - slx r + 1)) → zlv lv 6 = some (xi H) → zlv lv 7 = some (xi (if sall (shol r) d = true then 1 else 0)) → zlv lv 8 = some (xi (d : Nat)) → xz v0 xs u Q 152 176 lv [] f := by
  obtain ⟨⟨s1, s2, s3⟩, s4, s5, s6⟩ := sshape_rg (r := r) fun e he => (hx e he).2
  intro w
  induction w with
  | zero =>
    intro d lv hw l0 l1 l2 l3 l4 l5 l6 l7 l8
    have e8 : d = 8 := by omega
    subst e8
    refine x_iload rfl l8 ?_
    refine x_bipush rfl (by decide) ?_
    refine x_cge (t := 286) rfl rfl (by decide) (by decide) (fun _ => ?_) (fun h => absurd h (by decide))
    exact hk lv l0 l5 l6 l7
  | succ w ih =>
    intro d lv hw l0 l1 l2 l3 l4 l5 l6 l7 l8
    have hd : d < 8 := by omega
    obtain ⟨⟨q1, q2⟩, q3⟩ := hx d hd
    have z5 := sX_rg q3
    have z6 := sY_rg q3
    obtain ⟨s, hs⟩ : ∃ s : Int, s = if sall (shol r) d = true then 1 else 0 := ⟨_, rfl⟩
    have hs1 : 0 ≤ s ∧ s ≤ 1 := by rw [hs]; split <;> omega
    rw [← hs] at l7
    obtain ⟨a, ha0, ha⟩ : ∃ a : Int, (if sX (r d) = slx r ∨ sX (r d) = shx r then 1 else 0) = a ∧ ((a = 1 ∧ (sX (r d) = slx r ∨ sX (r d) = shx r)) ∨ (a = 0 ∧ ¬ (sX (r d) = slx r ∨ sX (r d) = shx r))) := by
      by_cases h : sX (r d) = slx r ∨ sX (r d) = shx r
      · exact ⟨1, if_pos h, Or.inl ⟨rfl, h⟩⟩
      · exact ⟨0, if_neg h, Or.inr ⟨rfl, h⟩⟩
    obtain ⟨b, hb0, hb⟩ : ∃ b : Int, (if sY (r d) = sly r ∨ sY (r d) = shy r then 1 else 0) = b ∧ ((b = 1 ∧ (sY (r d) = sly r ∨ sY (r d) = shy r)) ∨ (b = 0 ∧ ¬ (sY (r d) = sly r ∨ sY (r d) = shy r))) := by
      by_cases h : sY (r d) = sly r ∨ sY (r d) = shy r
      · exact ⟨1, if_pos h, Or.inl ⟨rfl, h⟩⟩
      · exact ⟨0, if_neg h, Or.inr ⟨rfl, h⟩⟩
    have hab : (0 ≤ a ∧ a ≤ 1) ∧ 0 ≤ b ∧ b ≤ 1 := by omega
    have hS := shol_s ha hb hs
    refine x_iload rfl l8 ?_
    refine x_bipush rfl (by decide) ?_
    refine x_cge (t := 286) rfl rfl ⟨by omega, by omega⟩ (by decide) (fun h => absurd h (by omega)) (fun _ => ?_)
    refine x_dia (if sX (r d) = slx r ∨ sX (r d) = shx r then 1 else 0) 210 (fun k => ?_) ?_
    · refine x_aload_n rfl l0 ?_
      refine x_getfield rfl (by decide) h177 a1 ?_
      refine x_iload rfl l8 ?_
      refine x_iaload rfl (by decide) x1 ⟨by omega, by omega⟩ (by omega) ?_
      rw [Int.toNat_natCast, q1]
      refine x_iload_n rfl l1 ?_
      refine x_ceq (t := 205) rfl rfl ⟨by omega, by omega⟩ ⟨by omega, by omega⟩ (fun h191 => ?_) (fun h191 => ?_)
      · refine x_iconst rfl ?_
        refine x_goto (t := 210) rfl rfl ?_
        first | exact k | (rw [if_pos (by omega)] at k; exact k) | (rw [if_neg (by omega)] at k; exact k)
      · refine x_aload_n rfl l0 ?_
        refine x_getfield rfl (by decide) h177 a1 ?_
        refine x_iload rfl l8 ?_
        refine x_iaload rfl (by decide) x1 ⟨by omega, by omega⟩ (by omega) ?_
        rw [Int.toNat_natCast, q1]
        refine x_iload_n rfl l2 ?_
        refine x_cne (t := 209) rfl rfl ⟨by omega, by omega⟩ ⟨by omega, by omega⟩ (fun h202 => ?_) (fun h202 => ?_)
        · refine x_iconst rfl ?_
          first | exact k | (rw [if_pos (by omega)] at k; exact k) | (rw [if_neg (by omega)] at k; exact k)
        · refine x_iconst rfl ?_
          refine x_goto (t := 210) rfl rfl ?_
          first | exact k | (rw [if_pos (by omega)] at k; exact k) | (rw [if_neg (by omega)] at k; exact k)
    rw [ha0]
    refine x_istore rfl (show (9 : Nat) < 11 from by decide) ?_
    refine x_dia (if sY (r d) = sly r ∨ sY (r d) = shy r then 1 else 0) 240 (fun k => ?_) ?_
    · refine x_aload_n rfl (xst_ne (by decide) l0 (Or.inl rfl)) ?_
      refine x_getfield rfl (by decide) h177 a2 ?_
      refine x_iload rfl (xst_ne (by decide) l8 (Or.inl rfl)) ?_
      refine x_iaload rfl (by decide) x2 ⟨by omega, by omega⟩ (by omega) ?_
      rw [Int.toNat_natCast, q2]
      refine x_iload_n rfl (xst_ne (by decide) l3 (Or.inl rfl)) ?_
      refine x_ceq (t := 235) rfl rfl ⟨by omega, by omega⟩ ⟨by omega, by omega⟩ (fun h220 => ?_) (fun h220 => ?_)
      · refine x_iconst rfl ?_
        refine x_goto (t := 240) rfl rfl ?_
        first | exact k | (rw [if_pos (by omega)] at k; exact k) | (rw [if_neg (by omega)] at k; exact k)
      · refine x_aload_n rfl (xst_ne (by decide) l0 (Or.inl rfl)) ?_
        refine x_getfield rfl (by decide) h177 a2 ?_
        refine x_iload rfl (xst_ne (by decide) l8 (Or.inl rfl)) ?_
        refine x_iaload rfl (by decide) x2 ⟨by omega, by omega⟩ (by omega) ?_
        rw [Int.toNat_natCast, q2]
        refine x_iload rfl (xst_ne (by decide) l4 (Or.inl rfl)) ?_
        refine x_cne (t := 239) rfl rfl ⟨by omega, by omega⟩ ⟨by omega, by omega⟩ (fun h232 => ?_) (fun h232 => ?_)
        · refine x_iconst rfl ?_
          first | exact k | (rw [if_pos (by omega)] at k; exact k) | (rw [if_neg (by omega)] at k; exact k)
        · refine x_iconst rfl ?_
          refine x_goto (t := 240) rfl rfl ?_
          first | exact k | (rw [if_pos (by omega)] at k; exact k) | (rw [if_neg (by omega)] at k; exact k)
    rw [hb0]
    refine x_istore rfl (show (10 : Nat) < 11 from by decide) ?_
    refine x_dia (if s = 1 ∧ ((shx r - slx r + 1 = 4 ∧ a ≠ b) ∨ (shx r - slx r + 1 ≠ 4 ∧ (a = 1 ∨ b = 1))) then 1 else 0) 278 (fun k => ?_) ?_
    · refine x_iload rfl (xst_ne (by decide) (xst_ne (by decide) l7 (Or.inl rfl)) (Or.inl rfl)) ?_
      refine x_ifeq (t := 277) rfl rfl ⟨by omega, by omega⟩ (fun h244 => ?_) (fun h244 => ?_)
      · refine x_iconst rfl ?_
        first | exact k | (rw [if_pos (by omega)] at k; exact k) | (rw [if_neg (by omega)] at k; exact k)
      · refine x_iload rfl (xst_ne (by decide) (xst_ne (by decide) l5 (Or.inl rfl)) (Or.inl rfl)) ?_
        refine x_iconst rfl ?_
        refine x_cne (t := 263) rfl rfl ⟨by omega, by omega⟩ ⟨by omega, by omega⟩ (fun h250 => ?_) (fun h250 => ?_)
        · refine x_iload rfl (xst_ne (by decide) xst_eq (Or.inl rfl)) ?_
          refine x_ifne (t := 273) rfl rfl ⟨by omega, by omega⟩ (fun h265 => ?_) (fun h265 => ?_)
          · refine x_iconst rfl ?_
            refine x_goto (t := 278) rfl rfl ?_
            first | exact k | (rw [if_pos (by omega)] at k; exact k) | (rw [if_neg (by omega)] at k; exact k)
          · refine x_iload rfl xst_eq ?_
            refine x_ifeq (t := 277) rfl rfl ⟨by omega, by omega⟩ (fun h270 => ?_) (fun h270 => ?_)
            · refine x_iconst rfl ?_
              first | exact k | (rw [if_pos (by omega)] at k; exact k) | (rw [if_neg (by omega)] at k; exact k)
            · refine x_iconst rfl ?_
              refine x_goto (t := 278) rfl rfl ?_
              first | exact k | (rw [if_pos (by omega)] at k; exact k) | (rw [if_neg (by omega)] at k; exact k)
        · refine x_iload rfl (xst_ne (by decide) xst_eq (Or.inl rfl)) ?_
          refine x_iload rfl xst_eq ?_
          refine x_ceq (t := 277) rfl rfl ⟨by omega, by omega⟩ ⟨by omega, by omega⟩ (fun h257 => ?_) (fun h257 => ?_)
          · refine x_iconst rfl ?_
            first | exact k | (rw [if_pos (by omega)] at k; exact k) | (rw [if_neg (by omega)] at k; exact k)
          · refine x_goto (t := 273) rfl rfl ?_
            refine x_iconst rfl ?_
            refine x_goto (t := 278) rfl rfl ?_
            first | exact k | (rw [if_pos (by omega)] at k; exact k) | (rw [if_neg (by omega)] at k; exact k)
    rw [hS]
    refine x_istore rfl (show (7 : Nat) < 11 from by decide) ?_
    refine x_iinc rfl (xst_ne (by decide) (xst_ne (by decide) (xst_ne (by decide) l8 (Or.inl rfl)) (Or.inl rfl)) (Or.inl rfl)) (show (8 : Nat) < 11 from by decide) ?_
    refine x_goto (t := 176) rfl rfl ?_
    exact ih (d + 1) _ (by omega) (xst_ne (by decide) (xst_ne (by decide) (xst_ne (by decide) (xst_ne (by decide) l0 (Or.inl rfl)) (Or.inl rfl)) (Or.inl rfl)) (Or.inl rfl)) (xst_ne (by decide) (xst_ne (by decide) (xst_ne (by decide) (xst_ne (by decide) l1 (Or.inl rfl)) (Or.inl rfl)) (Or.inl rfl)) (Or.inl rfl)) (xst_ne (by decide) (xst_ne (by decide) (xst_ne (by decide) (xst_ne (by decide) l2 (Or.inl rfl)) (Or.inl rfl)) (Or.inl rfl)) (Or.inl rfl)) (xst_ne (by decide) (xst_ne (by decide) (xst_ne (by decide) (xst_ne (by decide) l3 (Or.inl rfl)) (Or.inl rfl)) (Or.inl rfl)) (Or.inl rfl)) (xst_ne (by decide) (xst_ne (by decide) (xst_ne (by decide) (xst_ne (by decide) l4 (Or.inl rfl)) (Or.inl rfl)) (Or.inl rfl)) (Or.inl rfl)) (xst_ne (by decide) (xst_ne (by decide) (xst_ne (by decide) (xst_ne (by decide) l5 (Or.inl rfl)) (Or.inl rfl)) (Or.inl rfl)) (Or.inl rfl)) (xst_ne (by decide) (xst_ne (by decide) (xst_ne (by decide) (xst_ne (by decide) l6 (Or.inl rfl)) (Or.inl rfl)) (Or.inl rfl)) (Or.inl rfl)) (xst_ne (by decide) xst_eq (Or.inl rfl)) xst_eq
set_option maxRecDepth 20000 in
theorem xs_152 {v0 : Value} {xs : List Int32} {u : Nat × Nat} {f : Nat → zE} {n : Nat} {S : sS} (hT : sMT f n S) : sMq v0 xs u 152 [(0, .ref 177)] f n (0, sshape S.1, S) := by
  unfold sMq xq
  obtain ⟨⟨fs, hB⟩, hX, hJ, hC⟩ := hT
  have hB0 := hB
  obtain ⟨⟨h177, hfl, ⟨f11, f13, f14, f15, f17, f18⟩, h25, h26, h27⟩, ⟨a1, a2, a3, a4, a5, a6⟩, h9, h31, h30⟩ := hB
  obtain ⟨mx, my, mf, x1, x2, x3, ⟨y1, y2, y3⟩, hx⟩ := id hX
  have hx2 : ∀ d, d < 8 → (mx.getD d 0 = sX (S.1 d) ∧ my.getD d 0 = sY (S.1 d)) ∧ sok (S.1 d) := fun d hd => ⟨⟨(hx d hd).1.1, (hx d hd).1.2.1⟩, (hx d hd).2⟩
  obtain ⟨⟨s1, s2, s3⟩, s4, s5, s6⟩ := sshape_rg (r := S.1) fun e he => (hx e he).2
  have hf := shf_rg S.1
  refine x_aload_n rfl rfl ?_
  refine x_iconst rfl ?_
  refine x_putfield rfl (by decide) h177 (show (0 : Nat) < _ from by rw [hfl]; decide) rfl ?_
  refine x_bipush rfl (by decide) ?_
  refine x_istore_n rfl (show (1 : Nat) < 11 from by decide) ?_
  refine x_iconst rfl ?_
  refine x_istore_n rfl (show (2 : Nat) < 11 from by decide) ?_
  refine x_bipush rfl (by decide) ?_
  refine x_istore_n rfl (show (3 : Nat) < 11 from by decide) ?_
  refine x_iconst rfl ?_
  refine x_istore rfl (show (4 : Nat) < 11 from by decide) ?_
  refine x_iconst rfl ?_
  refine x_istore rfl (show (5 : Nat) < 11 from by decide) ?_
  have g1 : (fs.set 0 (xi 0))[22]? = some (.ref 189) := sget_ne (by decide) a1
  have g2 : (fs.set 0 (xi 0))[23]? = some (.ref 190) := sget_ne (by decide) a2
  have done : ∀ y : Int, y = sshape S.1 → ∃ r' f', (.inl (some (xi y)) : zO) = .inl r' ∧ ((xh (xu f 177 (.inl (10, fs.set 0 (xi 0)))), u) : zX) = (xh f', u) ∧ (r' = some (xi (sshape S.1)) ∧ sCD f' 0 ∧ sMT f' n S ∧ ∀ q, q ≠ 177 → ¬ (189 ≤ q ∧ q ≤ 197) → f' q = f q) := fun y hy => ⟨_, _, rfl, rfl, by rw [hy], ⟨_, xu_eq, sget_eq (by rw [hfl]; decide)⟩, sMT_0 hB0 hX hJ hC, fun q b1 _ => xu_ne b1 rfl⟩
  refine xs_152a xu_eq g1 g2 (xu_ne (by decide) x1) (xu_ne (by decide) x2) y1 y2 hx2 (fun lv m0 m1 m2 m3 m4 => ?_) 8 0 _ rfl (xst_ne (by decide) (xst_ne (by decide) (xst_ne (by decide) (xst_ne (by decide) (xst_ne (by decide) rfl (Or.inl rfl)) (Or.inl rfl)) (Or.inl rfl)) (Or.inl rfl)) (Or.inl rfl)) (xst_ne (by decide) (xst_ne (by decide) (xst_ne (by decide) (xst_ne (by decide) xst_eq (Or.inl rfl)) (Or.inl rfl)) (Or.inl rfl)) (Or.inl rfl)) (xst_ne (by decide) (xst_ne (by decide) (xst_ne (by decide) xst_eq (Or.inl rfl)) (Or.inl rfl)) (Or.inl rfl)) (xst_ne (by decide) (xst_ne (by decide) xst_eq (Or.inl rfl)) (Or.inl rfl)) (xst_ne (by decide) xst_eq (Or.inl rfl)) xst_eq
  refine x_iload_n rfl m2 ?_
  refine x_iload_n rfl m1 ?_
  refine x_isub rfl ?_
  refine x_iconst rfl ?_
  refine x_iadd rfl ?_
  refine x_istore rfl (show (5 : Nat) < 11 from by decide) ?_
  refine x_iload rfl (xst_ne (by decide) m4 (Or.inl rfl)) ?_
  refine x_iload_n rfl (xst_ne (by decide) m3 (Or.inl rfl)) ?_
  refine x_isub rfl ?_
  refine x_iconst rfl ?_
  refine x_iadd rfl ?_
  refine x_istore rfl (show (6 : Nat) < 11 from by decide) ?_
  refine x_iload rfl (xst_ne (by decide) xst_eq (Or.inl rfl)) ?_
  refine x_iload rfl xst_eq ?_
  refine x_imul rfl ?_
  obtain ⟨P, hP⟩ : ∃ P : Int, P = (shx S.1 - slx S.1 + 1) * (shy S.1 - sly S.1 + 1) := ⟨_, rfl⟩
  have hP2 : 1 ≤ P ∧ P ≤ 100 := by
    rw [hP]
    have k1 := Int.mul_le_mul (show shx S.1 - slx S.1 + 1 ≤ 10 by omega) (show shy S.1 - sly S.1 + 1 ≤ 10 by omega) (by omega) (by decide : (0 : Int) ≤ 10)
    have k2 := Int.mul_pos (show 0 < shx S.1 - slx S.1 + 1 by omega) (show 0 < shy S.1 - sly S.1 + 1 by omega)
    omega
  have hE : sshape S.1 = if P = 8 then (if shx S.1 - slx S.1 + 1 = 1 ∨ shy S.1 - sly S.1 + 1 = 1 then 1 else 2) else if shx S.1 - slx S.1 + 1 ≠ shy S.1 - sly S.1 + 1 ∨ shf S.1 = 0 ∨ shx S.1 - slx S.1 + 1 < 3 ∨ 4 < shx S.1 - slx S.1 + 1 then 0 else if shx S.1 - slx S.1 + 1 = 4 then 3 else 4 := by rw [hP]; rfl
  rw [← hP]
  refine x_bipush rfl (by decide) ?_
  refine x_cne (t := 170) rfl rfl ⟨by omega, by omega⟩ ⟨by omega, by omega⟩ (fun h149 => ?_) (fun h149 => ?_)
  · refine x_iconst rfl ?_
    refine x_istore rfl (show (7 : Nat) < 11 from by decide) ?_
    refine x_iconst rfl ?_
    refine x_istore rfl (show (8 : Nat) < 11 from by decide) ?_
    have e0 : (1 : Int) = if sall (shol S.1) 0 = true then 1 else 0 := rfl
    refine xs_152b (H := shy S.1 - sly S.1 + 1) xu_eq g1 g2 (xu_ne (by decide) x1) (xu_ne (by decide) x2) y1 y2 hx2 (fun lv n0 n5 n6 n7 => ?_) 8 0 _ rfl (xst_ne (by decide) (xst_ne (by decide) (xst_ne (by decide) (xst_ne (by decide) m0 (Or.inl rfl)) (Or.inl rfl)) (Or.inl rfl)) (Or.inl rfl)) (xst_ne (by decide) (xst_ne (by decide) (xst_ne (by decide) (xst_ne (by decide) m1 (Or.inl rfl)) (Or.inl rfl)) (Or.inl rfl)) (Or.inl rfl)) (xst_ne (by decide) (xst_ne (by decide) (xst_ne (by decide) (xst_ne (by decide) m2 (Or.inl rfl)) (Or.inl rfl)) (Or.inl rfl)) (Or.inl rfl)) (xst_ne (by decide) (xst_ne (by decide) (xst_ne (by decide) (xst_ne (by decide) m3 (Or.inl rfl)) (Or.inl rfl)) (Or.inl rfl)) (Or.inl rfl)) (xst_ne (by decide) (xst_ne (by decide) (xst_ne (by decide) (xst_ne (by decide) m4 (Or.inl rfl)) (Or.inl rfl)) (Or.inl rfl)) (Or.inl rfl)) (xst_ne (by decide) (xst_ne (by decide) (xst_ne (by decide) xst_eq (Or.inl rfl)) (Or.inl rfl)) (Or.inl rfl)) (xst_ne (by decide) (xst_ne (by decide) xst_eq (Or.inl rfl)) (Or.inl rfl)) (xst_ne (by decide) xst_eq (Or.inl rfl)) xst_eq
    refine x_iload rfl n5 ?_
    refine x_iload rfl n6 ?_
    refine x_cne (t := 310) rfl rfl ⟨by omega, by omega⟩ ⟨by omega, by omega⟩ (fun h290 => ?_) (fun h290 => ?_)
    · refine x_iconst rfl ?_
      refine x_goto (t := 325) rfl rfl ?_
      refine x_ireturn rfl (Or.inl rfl) (done _ ?_)
      rw [hE]
      first | (exfalso; omega) | rw [if_pos (by omega), if_pos (by omega)] | rw [if_pos (by omega), if_neg (by omega)] | rw [if_neg (by omega), if_pos (by omega)] | rw [if_neg (by omega), if_neg (by omega), if_pos (by omega)] | rw [if_neg (by omega), if_neg (by omega), if_neg (by omega)]
    · refine x_iload rfl n7 ?_
      refine x_ifeq (t := 310) rfl rfl ⟨by omega, by omega⟩ (fun h295 => ?_) (fun h295 => ?_)
      · refine x_iconst rfl ?_
        refine x_goto (t := 325) rfl rfl ?_
        refine x_ireturn rfl (Or.inl rfl) (done _ ?_)
        rw [hE]
        first | (exfalso; omega) | rw [if_pos (by omega), if_pos (by omega)] | rw [if_pos (by omega), if_neg (by omega)] | rw [if_neg (by omega), if_pos (by omega)] | rw [if_neg (by omega), if_neg (by omega), if_pos (by omega)] | rw [if_neg (by omega), if_neg (by omega), if_neg (by omega)]
      · refine x_iload rfl n5 ?_
        refine x_iconst rfl ?_
        refine x_clt (t := 310) rfl rfl ⟨by omega, by omega⟩ ⟨by omega, by omega⟩ (fun h301 => ?_) (fun h301 => ?_)
        · refine x_iconst rfl ?_
          refine x_goto (t := 325) rfl rfl ?_
          refine x_ireturn rfl (Or.inl rfl) (done _ ?_)
          rw [hE]
          first | (exfalso; omega) | rw [if_pos (by omega), if_pos (by omega)] | rw [if_pos (by omega), if_neg (by omega)] | rw [if_neg (by omega), if_pos (by omega)] | rw [if_neg (by omega), if_neg (by omega), if_pos (by omega)] | rw [if_neg (by omega), if_neg (by omega), if_neg (by omega)]
        · refine x_iload rfl n5 ?_
          refine x_iconst rfl ?_
          refine x_cle (t := 314) rfl rfl ⟨by omega, by omega⟩ ⟨by omega, by omega⟩ (fun h307 => ?_) (fun h307 => ?_)
          · refine x_iload rfl n5 ?_
            refine x_iconst rfl ?_
            refine x_cne (t := 324) rfl rfl ⟨by omega, by omega⟩ ⟨by omega, by omega⟩ (fun h317 => ?_) (fun h317 => ?_)
            · refine x_iconst rfl ?_
              refine x_ireturn rfl (Or.inl rfl) (done _ ?_)
              rw [hE]
              first | (exfalso; omega) | rw [if_pos (by omega), if_pos (by omega)] | rw [if_pos (by omega), if_neg (by omega)] | rw [if_neg (by omega), if_pos (by omega)] | rw [if_neg (by omega), if_neg (by omega), if_pos (by omega)] | rw [if_neg (by omega), if_neg (by omega), if_neg (by omega)]
            · refine x_iconst rfl ?_
              refine x_goto (t := 325) rfl rfl ?_
              refine x_ireturn rfl (Or.inl rfl) (done _ ?_)
              rw [hE]
              first | (exfalso; omega) | rw [if_pos (by omega), if_pos (by omega)] | rw [if_pos (by omega), if_neg (by omega)] | rw [if_neg (by omega), if_pos (by omega)] | rw [if_neg (by omega), if_neg (by omega), if_pos (by omega)] | rw [if_neg (by omega), if_neg (by omega), if_neg (by omega)]
          · refine x_iconst rfl ?_
            refine x_goto (t := 325) rfl rfl ?_
            refine x_ireturn rfl (Or.inl rfl) (done _ ?_)
            rw [hE]
            first | (exfalso; omega) | rw [if_pos (by omega), if_pos (by omega)] | rw [if_pos (by omega), if_neg (by omega)] | rw [if_neg (by omega), if_pos (by omega)] | rw [if_neg (by omega), if_neg (by omega), if_pos (by omega)] | rw [if_neg (by omega), if_neg (by omega), if_neg (by omega)]
  · refine x_iload rfl (xst_ne (by decide) xst_eq (Or.inl rfl)) ?_
    refine x_iconst rfl ?_
    refine x_ceq (t := 164) rfl rfl ⟨by omega, by omega⟩ ⟨by omega, by omega⟩ (fun h155 => ?_) (fun h155 => ?_)
    · refine x_iconst rfl ?_
      refine x_goto (t := 169) rfl rfl ?_
      refine x_ireturn rfl (Or.inl rfl) (done _ ?_)
      rw [hE]
      first | (exfalso; omega) | rw [if_pos (by omega), if_pos (by omega)] | rw [if_pos (by omega), if_neg (by omega)] | rw [if_neg (by omega), if_pos (by omega)] | rw [if_neg (by omega), if_neg (by omega), if_pos (by omega)] | rw [if_neg (by omega), if_neg (by omega), if_neg (by omega)]
    · refine x_iload rfl xst_eq ?_
      refine x_iconst rfl ?_
      refine x_cne (t := 168) rfl rfl ⟨by omega, by omega⟩ ⟨by omega, by omega⟩ (fun h161 => ?_) (fun h161 => ?_)
      · refine x_iconst rfl ?_
        refine x_ireturn rfl (Or.inl rfl) (done _ ?_)
        rw [hE]
        first | (exfalso; omega) | rw [if_pos (by omega), if_pos (by omega)] | rw [if_pos (by omega), if_neg (by omega)] | rw [if_neg (by omega), if_pos (by omega)] | rw [if_neg (by omega), if_neg (by omega), if_pos (by omega)] | rw [if_neg (by omega), if_neg (by omega), if_neg (by omega)]
      · refine x_iconst rfl ?_
        refine x_goto (t := 169) rfl rfl ?_
        refine x_ireturn rfl (Or.inl rfl) (done _ ?_)
        rw [hE]
        first | (exfalso; omega) | rw [if_pos (by omega), if_pos (by omega)] | rw [if_pos (by omega), if_neg (by omega)] | rw [if_neg (by omega), if_pos (by omega)] | rw [if_neg (by omega), if_neg (by omega), if_pos (by omega)] | rw [if_neg (by omega), if_neg (by omega), if_neg (by omega)]
end
section
/-! Same: the class. -/
theorem x_dia1 {v0 : Value} {xs : List Int32} {u : Nat × Nat} {Q : zO → zX → Prop} {mi pc : Nat} {lv : zL} {w : Value} {st : List Value} {f : Nat → zE} (v : Int) (pj : Nat) (h : xz v0 xs u Q mi pj lv (xi v :: st) f → xz v0 xs u Q mi pc lv (w :: st) f) (k : xz v0 xs u Q mi pj lv (xi v :: st) f) : xz v0 xs u Q mi pc lv (w :: st) f := h k
def sgd (bt : List sB) (r : Nat → Int) : Bool := sres bt false r bt.length == 0
def seq1 (ba bb : List sB) (r : Nat → Int) : Bool := (sgd ba r == sgd bb r) && (!sgd ba r || sall (fun d => srow ba false r ba.length d == srow bb false r bb.length d) 8)
def sSM (K : List (Int × Int)) (G : Nat → List xBt) (n : Nat) (S : sS) (a b : Int) : Int × Int × sS := if (0 ≤ a ∧ a < (n : Nat)) ∧ 0 ≤ b ∧ b < (n : Nat) then (0, if sall (fun t => seq1 (sbt K (G a.toNat)) (sbt K (G b.toNat)) (shomeT (t : Nat))) 4 = true then 1 else 0, S) else (1, 0, S)
theorem seq1_n {ba bb : List sB} {r : Nat → Int} (h : (sres ba false r ba.length = 0 ∧ ¬ sres bb false r bb.length = 0) ∨ (¬ sres ba false r ba.length = 0 ∧ sres bb false r bb.length = 0)) : seq1 ba bb r = false := by
  unfold seq1 sgd
  rcases h with ⟨h1, h2⟩ | ⟨h1, h2⟩
  · rw [beq_iff_eq.mpr h1, beq_eq_false_iff_ne.mpr h2]
    rfl
  · rw [beq_iff_eq.mpr h2, beq_eq_false_iff_ne.mpr h1]
    rfl
theorem seq1_f {ba bb : List sB} {r : Nat → Int} (h1 : ¬ sres ba false r ba.length = 0) (h2 : ¬ sres bb false r bb.length = 0) : seq1 ba bb r = true := by
  unfold seq1 sgd
  rw [beq_eq_false_iff_ne.mpr h1, beq_eq_false_iff_ne.mpr h2]
  rfl
theorem seq1_t {ba bb : List sB} {r : Nat → Int} (h1 : sres ba false r ba.length = 0) (h2 : sres bb false r bb.length = 0) : seq1 ba bb r = sall (fun d => srow ba false r ba.length d == srow bb false r bb.length d) 8 := by
  unfold seq1 sgd
  rw [beq_iff_eq.mpr h1, beq_iff_eq.mpr h2]
  rfl
theorem xs_172 {v0 : Value} {xs : List Int32} {u : Nat × Nat} {f : Nat → zE} {t1 t2 c1 c2 : Nat} {l1 l2 : List Int} {r1 r2 : Nat → Int} (ht1 : 50 ≤ t1 ∧ t1 < 203) (ht2 : 50 ≤ t2 ∧ t2 < 203) (h1 : f t1 = .inl (9, [.ref (t1 + 1), xi (c1 : Nat)])) (h2 : f (t1 + 1) = xr 0 l1) (hl1 : l1.length = 136) (hc1 : c1 ≤ 16) (k1 : f t2 = .inl (9, [.ref (t2 + 1), xi (c2 : Nat)])) (k2 : f (t2 + 1) = xr 0 l2) (hl2 : l2.length = 136) (hc2 : c2 ≤ 16) (hr1 : sRL l1 ((c1 : Nat) * 8) r1) (hr2 : sRL l2 ((c2 : Nat) * 8) r2) : xq v0 xs u 172 [(0, .ref t1), (1, .ref t2)] f (fun r' f' => r' = some (xi (if sall (fun d => r1 d == r2 d) 8 = true then 1 else 0)) ∧ f' = f) := by
  unfold xq
  have lp : ∀ (w d : Nat) (lv : zL), w + d = 8 → zlv lv 0 = some (.ref t1) → zlv lv 1 = some (.ref t2) → zlv lv 2 = some (xi (d : Nat)) → sall (fun d => r1 d == r2 d) d = true → xz v0 xs u (fun o X => ∃ r' f', o = .inl r' ∧ X = (xh f', u) ∧ (fun r' f' => r' = some (xi (if sall (fun d => r1 d == r2 d) 8 = true then 1 else 0)) ∧ f' = f) r' f') 172 2 lv [] f := by
    intro w
    induction w with
    | zero =>
      intro d lv hw l0 l1' l2' hs
      have e8 : d = 8 := by omega
      subst e8
      refine x_iload_n rfl l2' ?_
      refine x_bipush rfl (by decide) ?_
      refine x_cge (t := 37) rfl rfl (by decide) (by decide) (fun _ => ?_) (fun h => absurd h (by decide))
      refine x_iconst rfl ?_
      exact x_ireturn rfl (Or.inr (Or.inl ⟨rfl, by decide⟩)) ⟨_, _, rfl, rfl, by rw [if_pos hs], rfl⟩
    | succ w ih =>
      intro d lv hw l0 l1' l2' hs
      have hd : d < 8 := by omega
      obtain ⟨a1, a2⟩ := hr1.2.2 d hd
      obtain ⟨b1, b2⟩ := hr2.2.2 d hd
      have a3 : 0 ≤ r1 d ∧ r1 d < 400 := a2
      have b3 : 0 ≤ r2 d ∧ r2 d < 400 := b2
      refine x_iload_n rfl l2' ?_
      refine x_bipush rfl (by decide) ?_
      refine x_cge (t := 37) rfl rfl ⟨by omega, by omega⟩ (by decide) (fun h => by omega) (fun _ => ?_)
      refine x_aload_n rfl l0 ?_
      refine x_aload_n rfl l0 ?_
      refine x_getfield rfl ⟨by omega, by omega⟩ h1 rfl ?_
      refine x_iload_n rfl l2' ?_
      refine x_call [_, _, _] rfl rfl (show (0 : Nat) ≤ 8 from by decide) (show (3 : Nat) ≤ 3 from by decide) (x_rcv ⟨by omega, by omega⟩ h1) (xs_142 (b := (c1 : Nat)) ht1 h1 h2 hl1 ⟨by omega, by omega⟩ hd) (fun r' f' hP => ?_)
      obtain ⟨rfl, hPe⟩ := hP
      subst f'
      rw [a1]
      refine x_aload_n rfl l1' ?_
      refine x_aload_n rfl l1' ?_
      refine x_getfield rfl ⟨by omega, by omega⟩ k1 rfl ?_
      refine x_iload_n rfl l2' ?_
      refine x_call [_, _, _] rfl rfl (show (1 : Nat) ≤ 8 from by decide) (show (3 : Nat) ≤ 3 from by decide) (x_rcv ⟨by omega, by omega⟩ k1) (xs_142 (b := (c2 : Nat)) ht2 k1 k2 hl2 ⟨by omega, by omega⟩ hd) (fun r' f' hP => ?_)
      obtain ⟨rfl, hPe⟩ := hP
      subst f'
      rw [b1]
      have es : sall (fun d => r1 d == r2 d) (d + 1) = (sall (fun d => r1 d == r2 d) d && (r1 d == r2 d)) := rfl
      refine x_ceq (t := 31) rfl rfl ⟨by omega, by omega⟩ ⟨by omega, by omega⟩ (fun he => ?_) (fun he => ?_)
      · refine x_iinc rfl l2' (show (2 : Nat) < 3 from by decide) ?_
        refine x_goto (t := 2) rfl rfl ?_
        exact ih (d + 1) _ (by omega) (xst_ne (by decide) l0 (Or.inl rfl)) (xst_ne (by decide) l1' (Or.inl rfl)) xst_eq (by rw [es, hs, beq_iff_eq.mpr he]; rfl)
      · refine x_iconst rfl ?_
        refine x_ireturn rfl (Or.inr (Or.inl ⟨rfl, by decide⟩)) ⟨_, _, rfl, rfl, ?_, rfl⟩
        have ef : sall (fun d => r1 d == r2 d) 8 = false := sall_f (e := d + 1) (by rw [es, beq_eq_false_iff_ne.mpr he, Bool.and_false]) (by omega)
        rw [ef]
        rfl
  refine x_iconst rfl ?_
  refine x_istore_n rfl (show (2 : Nat) < 3 from by decide) ?_
  exact lp 8 0 _ rfl (xst_ne (by decide) rfl (Or.inl rfl)) (xst_ne (by decide) rfl (Or.inl rfl)) xst_eq rfl
theorem sCT_f2 {f f' : Nat → zE} {K : List (Int × Int)} {G : Nat → List xBt} {S : sS} (h : sCT f K G S) (h50 : f' 50 = f 50) (h175' : f' 175 = f 175) (hfr : ∀ q, 123 ≤ q → q ≤ 170 → f' q = f q) : sCT f' K G S := by
  obtain ⟨⟨lf, k50⟩, ⟨pl, h175, hpl⟩, h24, hJ⟩ := h
  refine ⟨⟨lf, h50.trans k50⟩, ⟨pl, h175'.trans h175, hpl⟩, h24, fun i hi => ?_⟩
  obtain ⟨j1, l, j2, j3⟩ := hJ i hi
  exact ⟨(hfr _ (by omega) (by omega)).trans j1, l, (hfr _ (by omega) (by omega)).trans j2, j3⟩
/-- what stays while same goes on -/
def sSI (f0 f : Nat → zE) : Prop := (∀ q, q ≠ 115 → q ≠ 116 → ¬ (171 ≤ q ∧ q ≤ 174) → q ≠ 176 → f q = f0 q) ∧ sDN f ∧ (∃ (w : Value) (l : List Int), f 171 = .inl (9, [.ref (171 + 1), w]) ∧ f (171 + 1) = xr 0 l ∧ l.length = 136) ∧ (∃ (w : Value) (l : List Int), f 173 = .inl (9, [.ref (173 + 1), w]) ∧ f (173 + 1) = xr 0 l ∧ l.length = 136) ∧ ∃ l : List Int, f 176 = xr 0 l ∧ l.length = 8
theorem sDN_f {f f' : Nat → zE} (h : sDN f) (e : ∀ q, 113 ≤ q → q ≤ 116 → f' q = f q) : sDN f' := by
  obtain ⟨a1, a2, ⟨dl, a3, a4⟩, al, a5, a6⟩ := h
  exact ⟨(e _ (by decide) (by decide)).trans a1, (e _ (by decide) (by decide)).trans a2, ⟨dl, (e _ (by decide) (by decide)).trans a3, a4⟩, al, (e _ (by decide) (by decide)).trans a5, a6⟩
theorem sSI_0 {f : Nat → zE} (hM : yM yT2 (xh f)) : sSI f f := by
  obtain ⟨z, l, k1, -, k3, k4, -⟩ := sTk hM (i := 24) (by decide)
  obtain ⟨z', l', k1', -, k3', k4', -⟩ := sTk hM (i := 25) (by decide)
  obtain ⟨m, e1, e2, -⟩ := xT_a (p := 176) hM (by decide) (show yT2[176 - 50]? = some (.inr (.inl (0, [(8, 0, 399)]))) from rfl)
  exact ⟨fun _ _ _ _ _ => rfl, sDN_M hM, ⟨_, l, k1, k3, k4⟩, ⟨_, l', k1', k3', k4'⟩, m, e1, e2⟩
theorem sRL_b {l pl : List Int} {r : Nat → Int} (hl : l.length = 136) (hr : sRL pl 0 r) (h : ∀ d : Nat, d < 8 → l.getD d 0 = pl.getD (0 + (d : Nat) : Int).toNat 0) : sRL l 0 r := by
  refine ⟨by omega, by omega, fun d hd => ?_⟩
  obtain ⟨a1, a2⟩ := hr.2.2 d hd
  refine ⟨?_, a2⟩
  rw [show ((0 : Int) + (d : Nat)).toNat = d by omega, h d hd]
  exact a1
set_option maxRecDepth 20000 in
theorem xs_173l {v0 : Value} {xs : List Int32} {u : Nat × Nat} {f0 : Nat → zE} {K : List (Int × Int)} {G : Nat → List xBt} {n i j : Nat} {S : sS} (hT : sCT f0 K G S) (hCK0 : sCK f0 K G n) (hi : i < n) (hj : j < n) : ∀ (w t : Nat) (lv : zL) (f : Nat → zE), w + t = 4 → zlv lv 0 = some (.ref 50) → zlv lv 1 = some (xi (i : Nat)) → zlv lv 2 = some (xi (j : Nat)) → zlv lv 3 = some (xi (t : Nat)) → sSI f0 f → sall (fun t => seq1 (sbt K (G i)) (sbt K (G j)) (shomeT (t : Nat))) t = true → xz v0 xs u (sCQ f0 u K G exW (0, if sall (fun t => seq1 (sbt K (G i)) (sbt K (G j)) (shomeT (t : Nat))) 4 = true then 1 else 0, S)) 173 12 lv [] f := by
  obtain ⟨⟨lf, k50⟩, -⟩ := id hT
  obtain ⟨hn, -, -, -, -, hG⟩ := id hCK0
  have hla := (hG i hi).1
  have hlb := (hG j hj).1
  have done : ∀ {f : Nat → zE} {y : Int}, sSI f0 f → y = (if sall (fun t => seq1 (sbt K (G i)) (sbt K (G j)) (shomeT (t : Nat))) 4 = true then 1 else 0) → sCQ f0 u K G exW (0, if sall (fun t => seq1 (sbt K (G i)) (sbt K (G j)) (shomeT (t : Nat))) 4 = true then 1 else 0, S) (.inl (some (xi y))) (xh f, u) := by
    intro f y hI hy
    rw [← hy]
    exact ⟨f, Or.inl ⟨rfl, rfl, rfl⟩, sCT_f2 hT (hI.1 50 (by decide) (by decide) (by decide) (by decide)) (hI.1 175 (by decide) (by decide) (by decide) (by decide)) (fun q b1 b2 => hI.1 q (by omega) (by omega) (by omega) (by omega)), fun q b1 b2 b3 b4 => hI.1 q b2 b3 (by omega) (by omega)⟩
  intro w
  induction w with
  | zero =>
    intro t lv f hw l0 l1 l2 l3 hI hs
    have e4 : t = 4 := by omega
    subst e4
    refine x_iload_n rfl l3 ?_
    refine x_iconst rfl ?_
    refine x_cge (t := 143) rfl rfl (by decide) (by decide) (fun _ => ?_) (fun h => absurd h (by decide))
    refine x_iconst rfl ?_
    exact x_ireturn rfl (Or.inr (Or.inl ⟨rfl, by decide⟩)) (done hI (by rw [if_pos hs]))
  | succ w ih =>
    intro t lv f hw l0 l1 l2 l3 hI hs
    have h50 : f 50 = _ := (hI.1 50 (by decide) (by decide) (by decide) (by decide)).trans k50
    obtain ⟨hfr, hDN, ⟨wa, la, ha1, ha2, ha3⟩, ⟨wb, lb, hb1, hb2, hb3⟩, ls, hs1, hs2⟩ := id hI
    have es : sall (fun t => seq1 (sbt K (G i)) (sbt K (G j)) (shomeT (t : Nat))) (t + 1) = (sall (fun t => seq1 (sbt K (G i)) (sbt K (G j)) (shomeT (t : Nat))) t && seq1 (sbt K (G i)) (sbt K (G j)) (shomeT (t : Nat))) := rfl
    refine x_iload_n rfl l3 ?_
    refine x_iconst rfl ?_
    refine x_cge (t := 143) rfl rfl ⟨by omega, by omega⟩ (by decide) (fun h => by omega) (fun _ => ?_)
    refine x_aload_n rfl l0 ?_
    refine x_getfield rfl (by decide) h50 rfl ?_
    refine x_iload_n rfl l3 ?_
    refine x_call [_, _] rfl rfl (show (0 : Nat) ≤ 8 from by decide) (show (2 : Nat) ≤ 3 from by decide) rfl (xs_11 (p := 176) (t := (t : Nat)) (by decide) ⟨by omega, by omega⟩ hs1 hs2) (fun r' f1 hP => ?_)
    obtain ⟨rfl, ⟨ls1, s1, s2, s3⟩, s4⟩ := hP
    refine x_aload_n rfl l0 ?_
    refine x_getfield rfl (by decide) ((s4 50 (by decide)).trans h50) rfl ?_
    refine x_aload_n rfl l0 ?_
    refine x_getfield rfl (by decide) ((s4 50 (by decide)).trans h50) rfl ?_
    refine x_iconst rfl ?_
    refine x_call [_, _, _] rfl rfl (show (0 : Nat) ≤ 8 from by decide) (show (3 : Nat) ≤ 3 from by decide) (x_rcv (by decide) ((s4 171 (by decide)).trans ha1)) (xs_91 (t := 171) (p := 176) (by decide) ((s4 171 (by decide)).trans ha1) ((s4 (171 + 1) (by decide)).trans ha2) ha3 (by decide) (by decide) s1 (by omega) ⟨by omega, by omega⟩) (fun r' f2 hP => ?_)
    obtain ⟨rfl, p1, ⟨la2, p2, p3, p4⟩, p5⟩ := hP
    have g50 : f2 50 = _ := (p5 50 (by decide) (by decide)).trans ((s4 50 (by decide)).trans h50)
    refine x_aload_n rfl l0 ?_
    refine x_getfield rfl (by decide) g50 rfl ?_
    refine x_aload_n rfl l0 ?_
    refine x_getfield rfl (by decide) g50 rfl ?_
    refine x_iconst rfl ?_
    refine x_call [_, _, _] rfl rfl (show (0 : Nat) ≤ 8 from by decide) (show (3 : Nat) ≤ 3 from by decide) (x_rcv (by decide) ((p5 173 (by decide) (by decide)).trans ((s4 173 (by decide)).trans hb1))) (xs_91 (t := 173) (p := 176) (by decide) ((p5 173 (by decide) (by decide)).trans ((s4 173 (by decide)).trans hb1)) ((p5 (173 + 1) (by decide) (by decide)).trans ((s4 (173 + 1) (by decide)).trans hb2)) hb3 (by decide) (by decide) ((p5 176 (by decide) (by decide)).trans s1) (by omega) ⟨by omega, by omega⟩) (fun r' f3 hP => ?_)
    obtain ⟨rfl, q1, ⟨lb2, q2, q3, q4⟩, q5⟩ := hP
    have hfr3 : ∀ q, ¬ (171 ≤ q ∧ q ≤ 174) → q ≠ 176 → f3 q = f q := fun q b1 b2 => (q5 q (by omega) (by omega)).trans ((p5 q (by omega) (by omega)).trans (s4 q b2))
    have k50' : f3 50 = _ := (hfr3 50 (by decide) (by decide)).trans h50
    have hra : sRL la2 0 (shomeT (t : Nat)) := sRL_b p3 s3 p4
    have hrb : sRL lb2 0 (shomeT (t : Nat)) := sRL_b q3 s3 q4
    have hCK3 : sCK f3 K G n := sCK_f hCK0 fun q b1 b2 => (hfr3 q (by omega) (by omega)).trans (hfr q (by omega) (by omega) (by omega) (by omega))
    obtain ⟨-, ⟨kp3, pt3, c53⟩, c54, cPK, cFG, -⟩ := id hCK3
    have hDN3 : sDN f3 := sDN_f hDN fun q b1 b2 => hfr3 q (by omega) (by omega)
    have t171 : f3 171 = _ := (q5 171 (by decide) (by decide)).trans p1
    have t172 : f3 (171 + 1) = _ := (q5 (171 + 1) (by decide) (by decide)).trans p2
    refine x_aload_n rfl l0 ?_
    refine x_getfield rfl (by decide) k50' rfl ?_
    refine x_aload_n rfl l0 ?_
    refine x_getfield rfl (by decide) k50' rfl ?_
    refine x_aload_n rfl l0 ?_
    refine x_getfield rfl (by decide) k50' rfl ?_
    refine x_iload_n rfl l1 ?_
    refine x_call [_, _] rfl rfl (show (2 : Nat) ≤ 8 from by decide) (show (2 : Nat) ≤ 2 from by decide) (x_rcv (by decide) c53) (xs_44 (by omega) c53 c54) (fun r' f' hP => ?_)
    obtain ⟨rfl, hPe⟩ := hP
    subst f'
    refine x_iconst rfl ?_
    refine x_call [_, _, _, _] rfl rfl (show (0 : Nat) ≤ 8 from by decide) (show (4 : Nat) ≤ 6 from by decide) (x_rcv (by decide) hDN3.1) (xs_105 (t := 171) (fg := 57 + 4 * i) (back := false) (r0 := shomeT (t : Nat)) hDN3 cPK (hG i hi) (cFG i hi) (by decide) t171 t172 p3 hra) (fun r' f4 hP => ?_)
    obtain ⟨rfl, ⟨la4, u1, u2, u3⟩, ⟨ca, u4, u5, u6⟩, hDN4, u7⟩ := hP
    rw [show (G i).length = (sbt K (G i)).length from (sbt_len K (G i)).symm] at u3 u6 ⊢
    have hrg4 := sres_rg (bt := sbt K (G i)) (back := false) (r0 := shomeT (t : Nat)) (sbt K (G i)).length
    have hlA : (sbt K (G i)).length ≤ 16 := by rw [sbt_len]; exact hla
    have hlB : (sbt K (G j)).length ≤ 16 := by rw [sbt_len]; exact hlb
    generalize hsa : sres (sbt K (G i)) false (shomeT (t : Nat)) (sbt K (G i)).length = sa at u3 u6 hrg4 ⊢
    show xz v0 xs u _ 173 69 lv [_] f4
    refine x_dia1 (if sa = 0 then 0 else 1) 77 (fun k => ?_) ?_
    · refine x_ifeq (t := 76) rfl rfl ⟨by omega, by omega⟩ (fun h => ?_) (fun h => ?_)
      · refine x_iconst rfl ?_
        rw [if_pos h] at k
        exact k
      · refine x_iconst rfl ?_
        refine x_goto (t := 77) rfl rfl ?_
        rw [if_neg h] at k
        exact k
    refine x_istore rfl (show (4 : Nat) < 6 from by decide) ?_
    have hfr4 : ∀ q, q ≠ 115 → q ≠ 116 → ¬ (171 ≤ q ∧ q ≤ 174) → q ≠ 176 → f4 q = f q := fun q b1 b2 b3 b4 => (u7 q b1 b2 (by omega) (by omega)).trans (hfr3 q b3 b4)
    have k50'' : f4 50 = _ := (hfr4 50 (by decide) (by decide) (by decide) (by decide)).trans h50
    have hCK4 : sCK f4 K G n := sCK_f hCK3 fun q b1 b2 => u7 q (by omega) (by omega) (by omega) (by omega)
    obtain ⟨-, ⟨kp4, pt4, d53⟩, d54, dPK, dFG, -⟩ := id hCK4
    have v173 : f4 173 = _ := (u7 173 (by decide) (by decide) (by decide) (by decide)).trans q1
    have v174 : f4 (173 + 1) = _ := (u7 (173 + 1) (by decide) (by decide) (by decide) (by decide)).trans q2
    refine x_aload_n rfl (xst_ne (by decide) l0 (Or.inl rfl)) ?_
    refine x_getfield rfl (by decide) k50'' rfl ?_
    refine x_aload_n rfl (xst_ne (by decide) l0 (Or.inl rfl)) ?_
    refine x_getfield rfl (by decide) k50'' rfl ?_
    refine x_aload_n rfl (xst_ne (by decide) l0 (Or.inl rfl)) ?_
    refine x_getfield rfl (by decide) k50'' rfl ?_
    refine x_iload_n rfl (xst_ne (by decide) l2 (Or.inl rfl)) ?_
    refine x_call [_, _] rfl rfl (show (2 : Nat) ≤ 8 from by decide) (show (2 : Nat) ≤ 2 from by decide) (x_rcv (by decide) d53) (xs_44 (by omega) d53 d54) (fun r' f' hP => ?_)
    obtain ⟨rfl, hPe⟩ := hP
    subst f'
    refine x_iconst rfl ?_
    refine x_call [_, _, _, _] rfl rfl (show (0 : Nat) ≤ 8 from by decide) (show (4 : Nat) ≤ 6 from by decide) (x_rcv (by decide) hDN4.1) (xs_105 (t := 173) (fg := 57 + 4 * j) (back := false) (r0 := shomeT (t : Nat)) hDN4 dPK (hG j hj) (dFG j hj) (by decide) v173 v174 q3 hrb) (fun r' f5 hP => ?_)
    obtain ⟨rfl, ⟨lb5, w1, w2, w3⟩, ⟨cb, w4, w5, w6⟩, hDN5, w7⟩ := hP
    rw [show (G j).length = (sbt K (G j)).length from (sbt_len K (G j)).symm] at w3 w6 ⊢
    have hrg5 := sres_rg (bt := sbt K (G j)) (back := false) (r0 := shomeT (t : Nat)) (sbt K (G j)).length
    generalize hsb : sres (sbt K (G j)) false (shomeT (t : Nat)) (sbt K (G j)).length = sb at w3 w6 hrg5 ⊢
    show xz v0 xs u _ 173 99 _ [_] f5
    refine x_dia1 (if sb = 0 then 0 else 1) 107 (fun k => ?_) ?_
    · refine x_ifeq (t := 106) rfl rfl ⟨by omega, by omega⟩ (fun h => ?_) (fun h => ?_)
      · refine x_iconst rfl ?_
        rw [if_pos h] at k
        exact k
      · refine x_iconst rfl ?_
        refine x_goto (t := 107) rfl rfl ?_
        rw [if_neg h] at k
        exact k
    refine x_istore rfl (show (5 : Nat) < 6 from by decide) ?_
    have hfr5 : ∀ q, q ≠ 115 → q ≠ 116 → ¬ (171 ≤ q ∧ q ≤ 174) → q ≠ 176 → f5 q = f q := fun q b1 b2 b3 b4 => (w7 q b1 b2 (by omega) (by omega)).trans (hfr4 q b1 b2 b3 b4)
    have x171 : f5 171 = _ := (w7 171 (by decide) (by decide) (by decide) (by decide)).trans u4
    have x172 : f5 (171 + 1) = _ := (w7 (171 + 1) (by decide) (by decide) (by decide) (by decide)).trans u1
    have x176 : f5 176 = _ := (w7 176 (by decide) (by decide) (by decide) (by decide)).trans ((u7 176 (by decide) (by decide) (by decide) (by decide)).trans ((q5 176 (by decide) (by decide)).trans ((p5 176 (by decide) (by decide)).trans s1)))
    have hI5 : sSI f0 f5 := ⟨fun q b1 b2 b3 b4 => (hfr5 q b1 b2 b3 b4).trans (hfr q b1 b2 b3 b4), hDN5, ⟨_, la4, x171, x172, u2⟩, ⟨_, lb5, w4, w1, w2⟩, ls1, x176, s2⟩
    have m0 : zlv (xst 5 (xi (if sb = 0 then 0 else 1)) (xst 4 (xi (if sa = 0 then 0 else 1)) lv)) 0 = some (.ref 50) := xst_ne (by decide) (xst_ne (by decide) l0 (Or.inl rfl)) (Or.inl rfl)
    have m1 : zlv (xst 5 (xi (if sb = 0 then 0 else 1)) (xst 4 (xi (if sa = 0 then 0 else 1)) lv)) 1 = some (xi (i : Nat)) := xst_ne (by decide) (xst_ne (by decide) l1 (Or.inl rfl)) (Or.inl rfl)
    have m2 : zlv (xst 5 (xi (if sb = 0 then 0 else 1)) (xst 4 (xi (if sa = 0 then 0 else 1)) lv)) 2 = some (xi (j : Nat)) := xst_ne (by decide) (xst_ne (by decide) l2 (Or.inl rfl)) (Or.inl rfl)
    have m3 : zlv (xst 5 (xi (if sb = 0 then 0 else 1)) (xst 4 (xi (if sa = 0 then 0 else 1)) lv)) 3 = some (xi (t : Nat)) := xst_ne (by decide) (xst_ne (by decide) l3 (Or.inl rfl)) (Or.inl rfl)
    have m4 : zlv (xst 5 (xi (if sb = 0 then 0 else 1)) (xst 4 (xi (if sa = 0 then 0 else 1)) lv)) 4 = some (xi (if sa = 0 then 0 else 1)) := xst_ne (by decide) xst_eq (Or.inl rfl)
    have m5 : zlv (xst 5 (xi (if sb = 0 then 0 else 1)) (xst 4 (xi (if sa = 0 then 0 else 1)) lv)) 5 = some (xi (if sb = 0 then 0 else 1)) := xst_eq
    generalize xst 5 (xi (if sb = 0 then 0 else 1)) (xst 4 (xi (if sa = 0 then 0 else 1)) lv) = lv2 at m0 m1 m2 m3 m4 m5 ⊢
    have next : seq1 (sbt K (G i)) (sbt K (G j)) (shomeT (t : Nat)) = true → xz v0 xs u (sCQ f0 u K G exW (0, if sall (fun t => seq1 (sbt K (G i)) (sbt K (G j)) (shomeT (t : Nat))) 4 = true then 1 else 0, S)) 173 137 lv2 [] f5 := by
      intro hq
      refine x_iinc rfl m3 (show (3 : Nat) < 6 from by decide) ?_
      refine x_goto (t := 12) rfl rfl ?_
      exact ih (t + 1) _ _ (by omega) (xst_ne (by decide) m0 (Or.inl rfl)) (xst_ne (by decide) m1 (Or.inl rfl)) (xst_ne (by decide) m2 (Or.inl rfl)) xst_eq hI5 (by rw [es, hs, hq]; rfl)
    have stop : seq1 (sbt K (G i)) (sbt K (G j)) (shomeT (t : Nat)) = false → xz v0 xs u (sCQ f0 u K G exW (0, if sall (fun t => seq1 (sbt K (G i)) (sbt K (G j)) (shomeT (t : Nat))) 4 = true then 1 else 0, S)) 173 135 lv2 [] f5 := by
      intro hq
      refine x_iconst rfl ?_
      refine x_ireturn rfl (Or.inr (Or.inl ⟨rfl, by decide⟩)) (done hI5 ?_)
      have ef : sall (fun t => seq1 (sbt K (G i)) (sbt K (G j)) (shomeT (t : Nat))) 4 = false := sall_f (e := t + 1) (by rw [es, hq, Bool.and_false]) (by omega)
      rw [ef]
      rfl
    refine x_iload rfl m4 ?_
    refine x_iload rfl m5 ?_
    by_cases ha0 : sa = 0
    · by_cases hb0 : sb = 0
      · rw [if_pos ha0, if_pos hb0]
        rw [if_pos ha0] at m4
        refine x_cne (t := 135) rfl rfl (by decide) (by decide) (fun h => absurd rfl h) (fun _ => ?_)
        refine x_iload rfl m4 ?_
        refine x_ifne (t := 137) rfl rfl (by decide) (fun h => absurd rfl h) (fun _ => ?_)
        have y50 : f5 50 = _ := (hfr5 50 (by decide) (by decide) (by decide) (by decide)).trans h50
        refine x_aload_n rfl m0 ?_
        refine x_getfield rfl (by decide) y50 rfl ?_
        refine x_aload_n rfl m0 ?_
        refine x_getfield rfl (by decide) y50 rfl ?_
        have hca := u6 ha0
        have hcb := w6 hb0
        subst hca
        subst hcb
        refine x_call [_, _] rfl rfl (show (0 : Nat) ≤ 8 from by decide) (show (2 : Nat) ≤ 3 from by decide) (x_rcv (by decide) x171) (xs_172 (t1 := 171) (t2 := 173) (by decide) (by decide) x171 x172 u2 hlA w4 w1 w2 hlB ((u3 ha0).2 _ (Nat.le_refl _)) ((w3 hb0).2 _ (Nat.le_refl _))) (fun r' f' hP => ?_)
        obtain ⟨rfl, hPe⟩ := hP
        subst f'
        rw [← seq1_t (hsa.trans ha0) (hsb.trans hb0)]
        by_cases hq : seq1 (sbt K (G i)) (sbt K (G j)) (shomeT (t : Nat)) = true
        · rw [if_pos hq]
          exact x_ifne (t := 137) rfl rfl (by decide) (fun _ => next hq) (fun h => absurd h (by decide))
        · rw [if_neg hq]
          exact x_ifne (t := 137) rfl rfl (by decide) (fun h => absurd rfl h) (fun _ => stop (bool_f hq))
      · rw [if_pos ha0, if_neg hb0]
        exact x_cne (t := 135) rfl rfl (by decide) (by decide) (fun _ => stop (seq1_n (Or.inl ⟨hsa.trans ha0, fun h => hb0 (hsb.symm.trans h)⟩))) (fun h => absurd h (by decide))
    · by_cases hb0 : sb = 0
      · rw [if_neg ha0, if_pos hb0]
        exact x_cne (t := 135) rfl rfl (by decide) (by decide) (fun _ => stop (seq1_n (Or.inr ⟨fun h => ha0 (hsa.symm.trans h), hsb.trans hb0⟩))) (fun h => absurd h (by decide))
      · rw [if_neg ha0, if_neg hb0]
        rw [if_neg ha0] at m4
        refine x_cne (t := 135) rfl rfl (by decide) (by decide) (fun h => absurd rfl h) (fun _ => ?_)
        refine x_iload rfl m4 ?_
        exact x_ifne (t := 137) rfl rfl (by decide) (fun _ => next (seq1_f (fun h => ha0 (hsa.symm.trans h)) (fun h => hb0 (hsb.symm.trans h)))) (fun h => absurd h (by decide))
theorem xs_173 {v0 : Value} {xs : List Int32} {u : Nat × Nat} {f : Nat → zE} {K : List (Int × Int)} {G : Nat → List xBt} {n : Nat} {a b : Int} {S : sS} (hM : yM yT2 (xh f)) (hT : sCT f K G S) (hCK : sCK f K G n) (ha : -2147483648 ≤ a ∧ a ≤ 2147483647) (hb : -2147483648 ≤ b ∧ b ≤ 2147483647) : xz v0 xs u (sCQ f u K G exW (sSM K G n S a b)) 173 0 [(0, .ref 50), (1, xi a), (2, xi b)] [] f := by
  obtain ⟨⟨lf, h50⟩, -⟩ := id hT
  obtain ⟨hn, ⟨kp, pt, h53⟩, -⟩ := id hCK
  have bad : ¬ ((0 ≤ a ∧ a < (n : Nat)) ∧ 0 ≤ b ∧ b < (n : Nat)) → sCQ f u K G exW (sSM K G n S a b) (.inr 100) (xh f, u.1 + 1, u.2 + 6) := by
    intro hbad
    have eR : sSM K G n S a b = (1, 0, S) := by unfold sSM; rw [if_neg hbad]
    rw [eR]
    exact ⟨f, Or.inr ⟨(show (1 : Int) ≠ 0 from by decide), rfl, rfl⟩, hT, fun _ _ _ _ _ => rfl⟩
  refine x_aload_n rfl rfl ?_
  refine x_iload_n rfl rfl ?_
  refine x_callU [_, _] rfl rfl (show (0 : Nat) ≤ 8 from by decide) (show (2 : Nat) ≤ 2 from by decide) (x_rcv (by decide) h50) (Q2 := fun o X => (o = .inl none ∧ X = (xh f, u) ∧ 0 ≤ a ∧ a < (n : Nat)) ∨ (o = .inr 100 ∧ X = (xh f, u.1 + 1, u.2 + 6) ∧ ¬ (0 ≤ a ∧ a < (n : Nat)))) (xs_86 hn ha h50 h53 (fun h1 h2 => Or.inl ⟨rfl, rfl, h1, h2⟩) (fun h => Or.inr ⟨rfl, rfl, h⟩)) (fun r' X' hq => ?_) (fun x X' hq => ?_)
  rotate_left
  · rcases hq with ⟨e1, -⟩ | ⟨e1, e2, h⟩
    · cases e1
    · cases e1
      subst e2
      exact ⟨rfl, bad fun hh => h hh.1⟩
  rcases hq with ⟨e1, e2, h1, h2⟩ | ⟨e1, -⟩
  rotate_left
  · cases e1
  cases e1
  subst e2
  show xz v0 xs u _ 173 5 _ [] f
  refine x_aload_n rfl rfl ?_
  refine x_iload_n rfl rfl ?_
  refine x_callU [_, _] rfl rfl (show (0 : Nat) ≤ 8 from by decide) (show (2 : Nat) ≤ 2 from by decide) (x_rcv (by decide) h50) (Q2 := fun o X => (o = .inl none ∧ X = (xh f, u) ∧ 0 ≤ b ∧ b < (n : Nat)) ∨ (o = .inr 100 ∧ X = (xh f, u.1 + 1, u.2 + 6) ∧ ¬ (0 ≤ b ∧ b < (n : Nat)))) (xs_86 hn hb h50 h53 (fun h1 h2 => Or.inl ⟨rfl, rfl, h1, h2⟩) (fun h => Or.inr ⟨rfl, rfl, h⟩)) (fun r' X' hq => ?_) (fun x X' hq => ?_)
  rotate_left
  · rcases hq with ⟨e1, -⟩ | ⟨e1, e2, h⟩
    · cases e1
    · cases e1
      subst e2
      exact ⟨rfl, bad fun hh => h hh.2⟩
  rcases hq with ⟨e1, e2, h3, h4⟩ | ⟨e1, -⟩
  rotate_left
  · cases e1
  cases e1
  subst e2
  show xz v0 xs u _ 173 10 _ [] f
  obtain ⟨i, rfl⟩ : ∃ i : Nat, a = (i : Nat) := ⟨a.toNat, by omega⟩
  obtain ⟨j, rfl⟩ : ∃ j : Nat, b = (j : Nat) := ⟨b.toNat, by omega⟩
  have eR : sSM K G n S (i : Nat) (j : Nat) = (0, if sall (fun t => seq1 (sbt K (G i)) (sbt K (G j)) (shomeT (t : Nat))) 4 = true then 1 else 0, S) := by
    unfold sSM
    rw [if_pos ⟨⟨h1, h2⟩, h3, h4⟩]
    simp only [Int.toNat_natCast]
  rw [eR]
  refine x_iconst rfl ?_
  refine x_istore_n rfl (show (3 : Nat) < 6 from by decide) ?_
  exact xs_173l hT hCK (by omega) (by omega) 4 0 _ _ rfl (xst_ne (by decide) rfl (Or.inl rfl)) (xst_ne (by decide) rfl (Or.inl rfl)) (xst_ne (by decide) rfl (Or.inl rfl)) xst_eq (sSI_0 hM) rfl
end
section
/-! Same: the model. -/
theorem shomeT_xyf {t : Int} (d : Nat) (ht : 0 ≤ t ∧ t ≤ 3) : sX (shomeT t d) = sX (shome d) ∧ sY (shomeT t d) = sY (shome d) ∧ sF (shomeT t d) = (sF (shome d) + t) % 4 := by
  have h := shome_ok d
  unfold sok at h
  unfold shomeT sX sY sF
  refine ⟨?_, ?_, ?_⟩ <;> omega
theorem xs_175l {v0 : Value} {xs : List Int32} {u : Nat × Nat} {f0 : Nat → zE} {fs : List Value} {t : Int} (h177 : f0 177 = .inl (10, fs)) (h25 : fs[25]? = some (.ref 192)) (h26 : fs[26]? = some (.ref 193)) (h27 : fs[27]? = some (.ref 194)) (ht : 0 ≤ t ∧ t ≤ 3) : ∀ (w d : Nat) (lv : zL) (f : Nat → zE), w + d = 8 → zlv lv 0 = some (.ref 177) → zlv lv 1 = some (xi t) → zlv lv 2 = some (xi (d : Nat)) → (∃ ax ay af : List Int, sMC f ax ay af ∧ ∀ e, e < d → sMP ax ay af ((e : Nat) : Int) (shomeT t e)) → (∀ q, q ≠ 192 → q ≠ 193 → q ≠ 194 → f q = f0 q) → xz v0 xs u (fun o X => ∃ r' f', o = .inl r' ∧ X = (xh f', u) ∧ (fun r' f' => r' = none ∧ (∃ ax ay af : List Int, sMC f' ax ay af ∧ sML ax ay af 0 (shomeT t)) ∧ (∀ q, q ≠ 192 → q ≠ 193 → q ≠ 194 → f' q = f0 q)) r' f') 175 2 lv [] f := by
  intro w
  induction w with
  | zero =>
    intro d lv f hw l0 l1 l2 hrow hfr
    have e8 : d = 8 := by omega
    subst e8
    obtain ⟨ax, ay, af, hmc, hrow⟩ := hrow
    refine x_iload_n rfl l2 ?_
    refine x_bipush rfl (by decide) ?_
    refine x_cge (t := 48) rfl rfl (by decide) (by decide) (fun _ => ?_) (fun h => absurd h (by decide))
    exact x_return rfl ⟨_, _, rfl, rfl, rfl, ⟨ax, ay, af, hmc, sML_of hrow fun d _ => shomeT_ok d ht⟩, hfr⟩
  | succ w ih =>
    intro d lv f hw l0 l1 l2 hrow hfr
    obtain ⟨ax, ay, af, hmc, hrow⟩ := hrow
    have hd : d < 8 := by omega
    obtain ⟨e1, e2, e3⟩ := shomeT_xyf d ht
    have hsf := sF_rg (shome d)
    obtain ⟨y1, y2, y3⟩ := id hmc.2.2.2
    refine x_iload_n rfl l2 ?_
    refine x_bipush rfl (by decide) ?_
    refine x_cge (t := 48) rfl rfl ⟨by omega, by omega⟩ (by decide) (fun h => absurd h (by omega)) (fun _ => ?_)
    refine x_aload_n rfl l0 ?_
    refine x_getfield rfl (by decide) ((hfr 177 (by decide) (by decide) (by decide)).trans h177) h25 ?_
    refine x_iload_n rfl l2 ?_
    refine x_iload_n rfl l2 ?_
    refine x_call [_] rfl rfl (show (2 : Nat) ≤ 8 from by decide) (show (1 : Nat) ≤ 1 from by decide) rfl (xs_13 hd) ?_
    intro r' f9 hP
    obtain ⟨rfl, hPe⟩ := hP
    subst f9
    refine x_iastore rfl (by decide) hmc.1 ⟨by omega, by omega⟩ (by omega) ?_
    refine x_aload_n rfl l0 ?_
    refine x_getfield rfl (by decide) (xu_ne (by decide) ((hfr 177 (by decide) (by decide) (by decide)).trans h177)) h26 ?_
    refine x_iload_n rfl l2 ?_
    refine x_iload_n rfl l2 ?_
    refine x_call [_] rfl rfl (show (2 : Nat) ≤ 8 from by decide) (show (1 : Nat) ≤ 1 from by decide) rfl (xs_14 hd) ?_
    intro r' f9 hP
    obtain ⟨rfl, hPe⟩ := hP
    subst f9
    refine x_iastore rfl (by decide) (xu_ne (by decide) hmc.2.1) ⟨by omega, by omega⟩ (by omega) ?_
    refine x_aload_n rfl l0 ?_
    refine x_getfield rfl (by decide) (xu_ne (by decide) (xu_ne (by decide) ((hfr 177 (by decide) (by decide) (by decide)).trans h177))) h27 ?_
    refine x_iload_n rfl l2 ?_
    refine x_iload_n rfl l2 ?_
    refine x_call [_] rfl rfl (show (2 : Nat) ≤ 8 from by decide) (show (1 : Nat) ≤ 1 from by decide) rfl (xs_15 hd) ?_
    intro r' f9 hP
    obtain ⟨rfl, hPe⟩ := hP
    subst f9
    refine x_iload_n rfl l1 ?_
    refine x_iadd rfl ?_
    refine x_iconst rfl ?_
    refine x_irem rfl ⟨by omega, by omega⟩ (by decide) ?_
    refine x_iastore rfl (by decide) (xu_ne (by decide) (xu_ne (by decide) hmc.2.2.1)) ⟨by omega, by omega⟩ (by omega) ?_
    refine x_iinc rfl l2 (show (2 : Nat) < 3 from by decide) ?_
    refine x_goto (t := 2) rfl rfl ?_
    refine ih (d + 1) _ _ (by omega) (xst_ne (by decide) l0 (Or.inl rfl)) (xst_ne (by decide) l1 (Or.inl rfl)) xst_eq ⟨_, _, _, ⟨(xu_ne (by decide) (xu_ne (by decide) xu_eq)), (xu_ne (by decide) xu_eq), xu_eq, by rw [List.length_set]; exact y1, by rw [List.length_set]; exact y2, by rw [List.length_set]; exact y3⟩, ?_⟩ (fun q b1 b2 b3 => xu_ne b3 (xu_ne b2 (xu_ne b1 (hfr q b1 b2 b3))))
    rw [Int.toNat_natCast]
    exact sMP_set (n := 8) hmc.2.2.2 (by omega) hrow e1.symm e2.symm e3.symm
theorem xs_175 {v0 : Value} {xs : List Int32} {u : Nat × Nat} {f0 : Nat → zE} {fs : List Value} {t : Int} (h177 : f0 177 = .inl (10, fs)) (h25 : fs[25]? = some (.ref 192)) (h26 : fs[26]? = some (.ref 193)) (h27 : fs[27]? = some (.ref 194)) (ht : 0 ≤ t ∧ t ≤ 3) {ax ay af : List Int} (hmc : sMC f0 ax ay af) : xq v0 xs u 175 [(0, .ref 177), (1, xi t)] f0 (fun r' f' => r' = none ∧ (∃ ax ay af : List Int, sMC f' ax ay af ∧ sML ax ay af 0 (shomeT t)) ∧ (∀ q, q ≠ 192 → q ≠ 193 → q ≠ 194 → f' q = f0 q)) := by
  unfold xq
  refine x_iconst rfl ?_
  refine x_istore_n rfl (show (2 : Nat) < 3 from by decide) ?_
  exact xs_175l h177 h25 h26 h27 ht 8 0 _ _ rfl (xst_ne (by decide) rfl (Or.inl rfl)) (xst_ne (by decide) rfl (Or.inl rfl)) xst_eq ⟨ax, ay, af, hmc, fun e he => absurd he (Nat.not_lt_zero _)⟩ (fun _ _ _ _ => rfl)
theorem xs_176k {v0 : Value} {xs : List Int32} {u : Nat × Nat} {Q : zO → zX → Prop} {f0 : Nat → zE} {fs : List Value} {ax ay af cn : List Int} {a L : Nat} (h177 : f0 177 = .inl (10, fs)) (f11 : fs[11]? = some (.ref 180)) (h25 : fs[25]? = some (.ref 192)) (h26 : fs[26]? = some (.ref 193)) (h27 : fs[27]? = some (.ref 194)) (h40 : fs[40]? = some (.ref 202)) (h180 : f0 180 = xr 0 cn) (hcl : cn.length = 13) (ha : a < 12) (hcn : cn.getD a 0 = (L : Nat)) (hL : L ≤ 16) (hmc : sMC f0 ax ay af) {i3 i4 i5 : Int} {b : Nat}
    (hk : ∀ (lv : zL) (f : Nat → zE) (kp : List Int), zlv lv 0 = some (.ref 177) → zlv lv 1 = some (xi (a : Nat)) → zlv lv 2 = some (xi (b : Nat)) → zlv lv 3 = some (xi i3) → zlv lv 4 = some (xi i4) → zlv lv 5 = some (xi i5) → f 202 = xr 0 kp → kp.length = 8 → (∀ e, e < 8 → kp.getD e 0 = 4 * (10 * ay.getD (8 * (L : Nat) + (e : Nat) : Int).toNat 0 + ax.getD (8 * (L : Nat) + (e : Nat) : Int).toNat 0) + af.getD (8 * (L : Nat) + (e : Nat) : Int).toNat 0) → (∀ q, q ≠ 202 → f q = f0 q) → xz v0 xs u Q 176 130 lv [] f) : ∀ (w d : Nat) (lv : zL) (f : Nat → zE) (kp : List Int), w + d = 8 → zlv lv 0 = some (.ref 177) → zlv lv 1 = some (xi (a : Nat)) → zlv lv 2 = some (xi (b : Nat)) → zlv lv 3 = some (xi i3) → zlv lv 4 = some (xi i4) → zlv lv 5 = some (xi i5) → zlv lv 6 = some (xi (d : Nat)) → f 202 = xr 0 kp → kp.length = 8 → (∀ e, e < d → kp.getD e 0 = 4 * (10 * ay.getD (8 * (L : Nat) + (e : Nat) : Int).toNat 0 + ax.getD (8 * (L : Nat) + (e : Nat) : Int).toNat 0) + af.getD (8 * (L : Nat) + (e : Nat) : Int).toNat 0) → (∀ q, q ≠ 202 → f q = f0 q) → xz v0 xs u Q 176 68 lv [] f := by
  obtain ⟨c1, c2, c3, y1, y2, y3⟩ := id hmc
  intro w
  induction w with
  | zero =>
    intro d lv f kp hw l0 l1 l2 l3 l4 l5 l6 g202 gl hv hfr
    have e8 : d = 8 := by omega
    subst e8
    refine x_iload rfl l6 ?_
    refine x_bipush rfl (by decide) ?_
    refine x_cge (t := 130) rfl rfl (by decide) (by decide) (fun _ => ?_) (fun h => absurd h (by decide))
    exact hk lv f kp l0 l1 l2 l3 l4 l5 g202 gl hv hfr
  | succ w ih =>
    intro d lv f kp hw l0 l1 l2 l3 l4 l5 l6 g202 gl hv hfr
    have hd : d < 8 := by omega
    refine x_iload rfl l6 ?_
    refine x_bipush rfl (by decide) ?_
    refine x_cge (t := 130) rfl rfl ⟨by omega, by omega⟩ (by decide) (fun h => absurd h (by omega)) (fun _ => ?_)
    refine x_bipush rfl (by decide) ?_
    refine x_aload_n rfl l0 ?_
    refine x_getfield rfl (by decide) ((hfr 177 (by decide)).trans h177) f11 ?_
    refine x_iload_n rfl l1 ?_
    refine x_iaload rfl (by decide) ((hfr 180 (by decide)).trans h180) ⟨by omega, by omega⟩ (by omega) ?_
    rw [Int.toNat_natCast, hcn]
    refine x_imul rfl ?_
    refine x_iload rfl l6 ?_
    refine x_iadd rfl ?_
    refine x_istore rfl (show (7 : Nat) < 9 from by decide) ?_
    refine x_aload_n rfl (xst_ne (by decide) l0 (Or.inl rfl)) ?_
    refine x_getfield rfl (by decide) ((hfr 177 (by decide)).trans h177) h40 ?_
    refine x_iload rfl (xst_ne (by decide) l6 (Or.inl rfl)) ?_
    refine x_iconst rfl ?_
    refine x_bipush rfl (by decide) ?_
    refine x_aload_n rfl (xst_ne (by decide) l0 (Or.inl rfl)) ?_
    refine x_getfield rfl (by decide) ((hfr 177 (by decide)).trans h177) h26 ?_
    refine x_iload rfl xst_eq ?_
    refine x_iaload rfl (by decide) ((hfr 193 (by decide)).trans c2) ⟨by omega, by omega⟩ (by omega) ?_
    refine x_imul rfl ?_
    refine x_aload_n rfl (xst_ne (by decide) l0 (Or.inl rfl)) ?_
    refine x_getfield rfl (by decide) ((hfr 177 (by decide)).trans h177) h25 ?_
    refine x_iload rfl xst_eq ?_
    refine x_iaload rfl (by decide) ((hfr 192 (by decide)).trans c1) ⟨by omega, by omega⟩ (by omega) ?_
    refine x_iadd rfl ?_
    refine x_imul rfl ?_
    refine x_aload_n rfl (xst_ne (by decide) l0 (Or.inl rfl)) ?_
    refine x_getfield rfl (by decide) ((hfr 177 (by decide)).trans h177) h27 ?_
    refine x_iload rfl xst_eq ?_
    refine x_iaload rfl (by decide) ((hfr 194 (by decide)).trans c3) ⟨by omega, by omega⟩ (by omega) ?_
    refine x_iadd rfl ?_
    refine x_iastore rfl (by decide) g202 ⟨by omega, by omega⟩ (by omega) ?_
    refine x_iinc rfl (xst_ne (by decide) l6 (Or.inl rfl)) (show (6 : Nat) < 9 from by decide) ?_
    refine x_goto (t := 68) rfl rfl ?_
    rw [Int.toNat_natCast]
    refine ih (d + 1) _ _ _ (by omega) (xst_ne (by decide) (xst_ne (by decide) l0 (Or.inl rfl)) (Or.inl rfl)) (xst_ne (by decide) (xst_ne (by decide) l1 (Or.inl rfl)) (Or.inl rfl)) (xst_ne (by decide) (xst_ne (by decide) l2 (Or.inl rfl)) (Or.inl rfl)) (xst_ne (by decide) (xst_ne (by decide) l3 (Or.inl rfl)) (Or.inl rfl)) (xst_ne (by decide) (xst_ne (by decide) l4 (Or.inl rfl)) (Or.inl rfl)) (xst_ne (by decide) (xst_ne (by decide) l5 (Or.inl rfl)) (Or.inl rfl)) xst_eq xu_eq (by rw [List.length_set]; exact gl) (fun e he => ?_) (fun q b1 => xu_ne b1 (hfr q b1))
    rw [x_gset]
    by_cases h2 : d = e
    · subst h2
      rw [if_pos ⟨rfl, by omega⟩]
    · rw [if_neg (fun h => h2 h.1)]
      exact hv e (by omega)
theorem xs_176c {v0 : Value} {xs : List Int32} {u : Nat × Nat} {Q : zO → zX → Prop} {f : Nat → zE} {fs : List Value} {ax ay af cn kp : List Int} {b L : Nat} {r1 r2 : Nat → Int} (h177 : f 177 = .inl (10, fs)) (f11 : fs[11]? = some (.ref 180)) (h25 : fs[25]? = some (.ref 192)) (h26 : fs[26]? = some (.ref 193)) (h27 : fs[27]? = some (.ref 194)) (h40 : fs[40]? = some (.ref 202)) (h180 : f 180 = xr 0 cn) (hcl : cn.length = 13) (hb : b < 12) (hcn : cn.getD b 0 = (L : Nat)) (hL : L ≤ 16) (hmc : sMC f ax ay af) (g202 : f 202 = xr 0 kp) (gl : kp.length = 8) (hr1 : ∀ e, e < 8 → kp.getD e 0 = r1 e ∧ sok (r1 e)) (hr2 : sML ax ay af (8 * (L : Nat)) r2) {i4 : Int} {a : Nat}
    (hk : ∀ (lv : zL), zlv lv 0 = some (.ref 177) → zlv lv 1 = some (xi (a : Nat)) → zlv lv 2 = some (xi (b : Nat)) → zlv lv 3 = some (xi (if sall (fun d => r1 d == r2 d) 8 = true then 1 else 0)) → zlv lv 4 = some (xi i4) → xz v0 xs u Q 176 240 lv [] f) : ∀ (w d : Nat) (lv : zL), w + d = 8 → zlv lv 0 = some (.ref 177) → zlv lv 1 = some (xi (a : Nat)) → zlv lv 2 = some (xi (b : Nat)) → zlv lv 3 = some (xi (if sall (fun d => r1 d == r2 d) d = true then 1 else 0)) → zlv lv 4 = some (xi i4) → zlv lv 5 = some (xi 1) → zlv lv 7 = some (xi (d : Nat)) → xz v0 xs u Q 176 160 lv [] f := by
  obtain ⟨c1, c2, c3, y1, y2, y3⟩ := id hmc
  intro w
  induction w with
  | zero =>
    intro d lv hw l0 l1 l2 l3 l4 l5 l7
    have e8 : d = 8 := by omega
    subst e8
    refine x_iload rfl l7 ?_
    refine x_bipush rfl (by decide) ?_
    refine x_cge (t := 240) rfl rfl (by decide) (by decide) (fun _ => ?_) (fun h => absurd h (by decide))
    exact hk lv l0 l1 l2 l3 l4
  | succ w ih =>
    intro d lv hw l0 l1 l2 l3 l4 l5 l7
    have hd : d < 8 := by omega
    have es : sall (fun d => r1 d == r2 d) (d + 1) = (sall (fun d => r1 d == r2 d) d && (r1 d == r2 d)) := rfl
    obtain ⟨a1, a2⟩ := hr1 d hd
    obtain ⟨⟨b1, b2, b3⟩, b4⟩ := hr2.2.2 d hd
    have a3 : 0 ≤ r1 d ∧ r1 d < 400 := a2
    have b5 : 0 ≤ r2 d ∧ r2 d < 400 := b4
    have b6 := s_eq (r2 d)
    refine x_iload rfl l7 ?_
    refine x_bipush rfl (by decide) ?_
    refine x_cge (t := 240) rfl rfl ⟨by omega, by omega⟩ (by decide) (fun h => absurd h (by omega)) (fun _ => ?_)
    refine x_iload rfl l5 ?_
    refine x_ifeq (t := 240) rfl rfl (by decide) (fun h => absurd h (by decide)) (fun _ => ?_)
    by_cases hs : sall (fun d => r1 d == r2 d) d = true
    rotate_left
    · rw [if_neg hs] at l3
      refine x_iload_n rfl l3 ?_
      refine x_ifeq (t := 240) rfl rfl (by decide) (fun _ => ?_) (fun h => absurd rfl h)
      refine hk lv l0 l1 l2 ?_ l4
      rw [sall_f (bool_f hs) (by omega)]
      exact l3
    rw [if_pos hs] at l3
    refine x_iload_n rfl l3 ?_
    refine x_ifeq (t := 240) rfl rfl (by decide) (fun h => absurd h (by decide)) (fun _ => ?_)
    refine x_bipush rfl (by decide) ?_
    refine x_aload_n rfl l0 ?_
    refine x_getfield rfl (by decide) h177 f11 ?_
    refine x_iload_n rfl l2 ?_
    refine x_iaload rfl (by decide) h180 ⟨by omega, by omega⟩ (by omega) ?_
    rw [Int.toNat_natCast, hcn]
    refine x_imul rfl ?_
    refine x_iload rfl l7 ?_
    refine x_iadd rfl ?_
    refine x_istore rfl (show (8 : Nat) < 9 from by decide) ?_
    refine x_dia (if sall (fun d => r1 d == r2 d) (d + 1) = true then 1 else 0) 233 (fun k => ?_) ?_
    · refine x_aload_n rfl (xst_ne (by decide) l0 (Or.inl rfl)) ?_
      refine x_getfield rfl (by decide) h177 h40 ?_
      refine x_iload rfl (xst_ne (by decide) l7 (Or.inl rfl)) ?_
      refine x_iaload rfl (by decide) g202 ⟨by omega, by omega⟩ (by omega) ?_
      rw [Int.toNat_natCast, a1]
      refine x_iconst rfl ?_
      refine x_bipush rfl (by decide) ?_
      refine x_aload_n rfl (xst_ne (by decide) l0 (Or.inl rfl)) ?_
      refine x_getfield rfl (by decide) h177 h26 ?_
      refine x_iload rfl xst_eq ?_
      refine x_iaload rfl (by decide) c2 ⟨by omega, by omega⟩ (by omega) ?_
      rw [b2]
      refine x_imul rfl ?_
      refine x_aload_n rfl (xst_ne (by decide) l0 (Or.inl rfl)) ?_
      refine x_getfield rfl (by decide) h177 h25 ?_
      refine x_iload rfl xst_eq ?_
      refine x_iaload rfl (by decide) c1 ⟨by omega, by omega⟩ (by omega) ?_
      rw [b1]
      refine x_iadd rfl ?_
      refine x_imul rfl ?_
      refine x_aload_n rfl (xst_ne (by decide) l0 (Or.inl rfl)) ?_
      refine x_getfield rfl (by decide) h177 h27 ?_
      refine x_iload rfl xst_eq ?_
      refine x_iaload rfl (by decide) c3 ⟨by omega, by omega⟩ (by omega) ?_
      rw [b3]
      refine x_iadd rfl ?_
      rw [← b6]
      refine x_cne (t := 232) rfl rfl ⟨by omega, by omega⟩ ⟨by omega, by omega⟩ (fun h225 => ?_) (fun h225 => ?_)
      · refine x_iconst rfl ?_
        rw [if_neg (by rw [es, beq_eq_false_iff_ne.mpr h225, Bool.and_false]; decide)] at k
        exact k
      · refine x_iconst rfl ?_
        refine x_goto (t := 233) rfl rfl ?_
        rw [if_pos (by rw [es, hs, beq_iff_eq.mpr h225]; rfl)] at k
        exact k
    refine x_istore_n rfl (show (3 : Nat) < 9 from by decide) ?_
    refine x_iinc rfl (xst_ne (by decide) (xst_ne (by decide) l7 (Or.inl rfl)) (Or.inl rfl)) (show (7 : Nat) < 9 from by decide) ?_
    refine x_goto (t := 160) rfl rfl ?_
    exact ih (d + 1) _ (by omega) (xst_ne (by decide) (xst_ne (by decide) (xst_ne (by decide) l0 (Or.inl rfl)) (Or.inl rfl)) (Or.inl rfl)) (xst_ne (by decide) (xst_ne (by decide) (xst_ne (by decide) l1 (Or.inl rfl)) (Or.inl rfl)) (Or.inl rfl)) (xst_ne (by decide) (xst_ne (by decide) (xst_ne (by decide) l2 (Or.inl rfl)) (Or.inl rfl)) (Or.inl rfl)) (xst_ne (by decide) xst_eq (Or.inl rfl)) (xst_ne (by decide) (xst_ne (by decide) (xst_ne (by decide) l4 (Or.inl rfl)) (Or.inl rfl)) (Or.inl rfl)) (xst_ne (by decide) (xst_ne (by decide) (xst_ne (by decide) l5 (Or.inl rfl)) (Or.inl rfl)) (Or.inl rfl)) xst_eq
/-- what stays while the model's same goes on -/
def sMI (f0 : Nat → zE) (n : Nat) (S : sS) (f : Nat → zE) : Prop := (∃ fs : List Value, sMB f fs (n : Nat) (S.2.1.length : Nat) S.2.2 ∧ fs[0]? = some (xi 0) ∧ fs[40]? = some (.ref 202)) ∧ (∃ ax ay af : List Int, sMC f ax ay af) ∧ (∃ kp : List Int, f 202 = xr 0 kp ∧ kp.length = 8) ∧ ∀ q, q ≠ 177 → ¬ (192 ≤ q ∧ q ≤ 194) → q ≠ 202 → f q = f0 q
set_option maxRecDepth 20000 in
theorem xs_176l {v0 : Value} {xs : List Int32} {u : Nat × Nat} {f0 : Nat → zE} {K : List (Int × Int)} {G : Nat → List xBt} {n i j : Nat} {S : sS} (hX : sMX f0 S.1) (hJ : sMJ f0 S.2.1) (hK : ∀ c, c < n → sKM f0 K c (G c)) (hG : ∀ c, c < n → sGok K (G c)) (hi : i < n) (hj : j < n) : ∀ (w t : Nat) (lv : zL) (f : Nat → zE), w + t = 4 → zlv lv 0 = some (.ref 177) → zlv lv 1 = some (xi (i : Nat)) → zlv lv 2 = some (xi (j : Nat)) → zlv lv 3 = some (xi (if sall (fun t => seq1 (sbt K (G i)) (sbt K (G j)) (shomeT (t : Nat))) t = true then 1 else 0)) → zlv lv 4 = some (xi (t : Nat)) → sMI f0 n S f → xz v0 xs u (fun o X => ∃ r' f', o = .inl r' ∧ X = (xh f', u) ∧ (fun r' f' => r' = some (xi (if sall (fun t => seq1 (sbt K (G i)) (sbt K (G j)) (shomeT (t : Nat))) 4 = true then 1 else 0)) ∧ sCD f' 0 ∧ sMT f' n S ∧ ∀ q, q ≠ 177 → ¬ (189 ≤ q ∧ q ≤ 197) → q ≠ 202 → f' q = f0 q) r' f') 176 41 lv [] f := by
  have fin : ∀ (lv : zL) (f : Nat → zE), zlv lv 3 = some (xi (if sall (fun t => seq1 (sbt K (G i)) (sbt K (G j)) (shomeT (t : Nat))) 4 = true then 1 else 0)) → sMI f0 n S f → xz v0 xs u (fun o X => ∃ r' f', o = .inl r' ∧ X = (xh f', u) ∧ (fun r' f' => r' = some (xi (if sall (fun t => seq1 (sbt K (G i)) (sbt K (G j)) (shomeT (t : Nat))) 4 = true then 1 else 0)) ∧ sCD f' 0 ∧ sMT f' n S ∧ ∀ q, q ≠ 177 → ¬ (189 ≤ q ∧ q ≤ 197) → q ≠ 202 → f' q = f0 q) r' f') 176 246 lv [] f := by
    intro lv f l3 hI
    obtain ⟨⟨fs, hB, h0, -⟩, hC, -, hfr⟩ := hI
    refine x_iload_n rfl l3 ?_
    refine x_ireturn rfl (Or.inr (Or.inl ⟨rfl, by split <;> decide⟩)) ⟨_, _, rfl, rfl, rfl, ⟨fs, hB.1.1, h0⟩, ⟨⟨fs, hB⟩, sMX_f hX (fun q b1 b2 => hfr q (by omega) (by omega) (by omega)), sMJ_f hJ (fun q b1 b2 => hfr q (by omega) (by omega) (by omega)), hC⟩, fun q b1 b2 b3 => hfr q b1 (by omega) b3⟩
  have hla := (hG i hi).1
  have hlb := (hG j hj).1
  intro w
  induction w with
  | zero =>
    intro t lv f hw l0 l1 l2 l3 l4 hI
    have e4 : t = 4 := by omega
    subst e4
    refine x_iload rfl l4 ?_
    refine x_iconst rfl ?_
    refine x_cge (t := 246) rfl rfl (by decide) (by decide) (fun _ => ?_) (fun h => absurd h (by decide))
    exact fin lv f l3 hI
  | succ w ih =>
    intro t lv f hw l0 l1 l2 l3 l4 hI
    have es : sall (fun t => seq1 (sbt K (G i)) (sbt K (G j)) (shomeT (t : Nat))) (t + 1) = (sall (fun t => seq1 (sbt K (G i)) (sbt K (G j)) (shomeT (t : Nat))) t && seq1 (sbt K (G i)) (sbt K (G j)) (shomeT (t : Nat))) := rfl
    refine x_iload rfl l4 ?_
    refine x_iconst rfl ?_
    refine x_cge (t := 246) rfl rfl ⟨by omega, by omega⟩ (by decide) (fun h => by omega) (fun _ => ?_)
    refine x_iload_n rfl l3 ?_
    by_cases hs : sall (fun t => seq1 (sbt K (G i)) (sbt K (G j)) (shomeT (t : Nat))) t = true
    rotate_left
    · rw [if_neg hs]
      refine x_ifeq (t := 246) rfl rfl (by decide) (fun _ => ?_) (fun h => absurd rfl h)
      refine fin lv f ?_ hI
      rw [if_neg hs] at l3
      rw [sall_f (bool_f hs) (by omega)]
      exact l3
    rw [if_pos hs] at l3 ⊢
    refine x_ifeq (t := 246) rfl rfl (by decide) (fun h => absurd h (by decide)) (fun _ => ?_)
    obtain ⟨⟨fs, hB, h0, h40⟩, ⟨ax, ay, af, hmc⟩, ⟨kp, g202, gl⟩, hfr⟩ := hI
    obtain ⟨hmo, -⟩ := id hB
    obtain ⟨h177, hfl, ⟨f11, f13, f14, f15, f17, f18⟩, h25, h26, h27⟩ := id hmo
    refine x_aload_n rfl l0 ?_
    refine x_iload rfl l4 ?_
    refine x_call [_, _] rfl rfl (show (0 : Nat) ≤ 8 from by decide) (show (2 : Nat) ≤ 3 from by decide) (x_rcv (by decide) h177) (xs_175 (t := (t : Nat)) h177 h25 h26 h27 ⟨by omega, by omega⟩ hmc) (fun r' f1 hP => ?_)
    obtain ⟨rfl, ⟨ax1, ay1, af1, hmc1, hml1⟩, hfr1⟩ := hP
    have hK1 : ∀ c, c < n → sKM f1 K c (G c) := fun c hc => sKM_f (hK c hc) fun q b1 b2 => (hfr1 q (by omega) (by omega) (by omega)).trans (hfr q (by omega) (by omega) (by omega))
    have hmo1 : sMO f1 fs := ⟨(hfr1 177 (by decide) (by decide) (by decide)).trans h177, hmo.2⟩
    refine x_aload_n rfl l0 ?_
    refine x_iload_n rfl l1 ?_
    refine x_iconst rfl ?_
    refine x_call [_, _, _] rfl rfl (show (0 : Nat) ≤ 8 from by decide) (show (3 : Nat) ≤ 10 from by decide) (x_rcv (by decide) hmo1.1) (xs_122 (back := false) (hK1 i hi) (hG i hi) hmo1 hmc1 hml1) (fun r' f2 hP => ?_)
    obtain ⟨rfl, ⟨fs2, hmo2, hfs2, -⟩, ⟨ax2, ay2, af2, hmc2, hml2⟩, hfr2⟩ := hP
    rw [show (G i).length = (sbt K (G i)).length from (sbt_len K (G i)).symm] at hml2 ⊢
    have hlA : (sbt K (G i)).length ≤ 16 := by rw [sbt_len]; exact hla
    have hlB : (sbt K (G j)).length ≤ 16 := by rw [sbt_len]; exact hlb
    generalize hsa : sres (sbt K (G i)) false (shomeT (t : Nat)) (sbt K (G i)).length = sa at hml2 ⊢
    refine x_istore rfl (show (5 : Nat) < 9 from by decide) ?_
    refine x_iconst rfl ?_
    refine x_istore rfl (show (6 : Nat) < 9 from by decide) ?_
    obtain ⟨i177, ifl, ⟨i11, -, -, -, -, -⟩, i25, i26, i27⟩ := id hmo2
    have i40 : fs2[40]? = some (.ref 202) := (hfs2 40 (by decide) (by decide)).trans h40
    have i0 : fs2[0]? = some (xi 0) := (hfs2 0 (by decide) (by decide)).trans h0
    have hf2 : ∀ q, q ≠ 177 → ¬ (192 ≤ q ∧ q ≤ 194) → f2 q = f q := fun q b1 b2 => (hfr2 q b1 (by omega) (by omega) (by omega)).trans (hfr1 q (by omega) (by omega) (by omega))
    have hK2 : ∀ c, c < n → sKM f2 K c (G c) := fun c hc => sKM_f (hK1 c hc) fun q b1 b2 => hfr2 q (by omega) (by omega) (by omega) (by omega)
    obtain ⟨hi12, cn, tk, pf, pq, se, at', k180, -, -, -, -, -, ⟨kl, -⟩, hcnt, -⟩ := hK2 i hi
    rw [show (G i).length = (sbt K (G i)).length from (sbt_len K (G i)).symm] at hcnt
    refine xs_176k (b := j) (i3 := 1) (i4 := (t : Nat)) (i5 := if sa = 0 then 1 else 0) i177 i11 i25 i26 i27 i40 k180 kl hi12 hcnt hlA hmc2 (fun lv2 f3 kp3 m0 m1 m2 m3 m4 m5 j202 jl hv hfr3 => ?_) 8 0 _ f2 kp rfl (xst_ne (by decide) (xst_ne (by decide) l0 (Or.inl rfl)) (Or.inl rfl)) (xst_ne (by decide) (xst_ne (by decide) l1 (Or.inl rfl)) (Or.inl rfl)) (xst_ne (by decide) (xst_ne (by decide) l2 (Or.inl rfl)) (Or.inl rfl)) (xst_ne (by decide) (xst_ne (by decide) l3 (Or.inl rfl)) (Or.inl rfl)) (xst_ne (by decide) (xst_ne (by decide) l4 (Or.inl rfl)) (Or.inl rfl)) (xst_ne (by decide) xst_eq (Or.inl rfl)) xst_eq ((hf2 202 (by decide) (by decide)).trans g202) gl (fun e he => absurd he (Nat.not_lt_zero e)) (fun _ _ => rfl)
    have j177 : f3 177 = .inl (10, fs2) := (hfr3 177 (by decide)).trans i177
    have hmc3 : sMC f3 ax2 ay2 af2 := ⟨(hfr3 192 (by decide)).trans hmc2.1, (hfr3 193 (by decide)).trans hmc2.2.1, (hfr3 194 (by decide)).trans hmc2.2.2.1, hmc2.2.2.2⟩
    refine x_aload_n rfl m0 ?_
    refine x_iload rfl m4 ?_
    refine x_call [_, _] rfl rfl (show (0 : Nat) ≤ 8 from by decide) (show (2 : Nat) ≤ 3 from by decide) (x_rcv (by decide) j177) (xs_175 (t := (t : Nat)) j177 i25 i26 i27 ⟨by omega, by omega⟩ hmc3) (fun r' f4 hP => ?_)
    obtain ⟨rfl, ⟨ax4, ay4, af4, hmc4, hml4⟩, hfr4⟩ := hP
    have hK4 : ∀ c, c < n → sKM f4 K c (G c) := fun c hc => sKM_f (hK2 c hc) fun q b1 b2 => (hfr4 q (by omega) (by omega) (by omega)).trans (hfr3 q (by omega))
    have hmo4 : sMO f4 fs2 := ⟨(hfr4 177 (by decide) (by decide) (by decide)).trans j177, hmo2.2⟩
    refine x_aload_n rfl m0 ?_
    refine x_iload_n rfl m2 ?_
    refine x_iconst rfl ?_
    refine x_call [_, _, _] rfl rfl (show (0 : Nat) ≤ 8 from by decide) (show (3 : Nat) ≤ 10 from by decide) (x_rcv (by decide) hmo4.1) (xs_122 (back := false) (hK4 j hj) (hG j hj) hmo4 hmc4 hml4) (fun r' f5 hP => ?_)
    obtain ⟨rfl, ⟨fs5, hmo5, hfs5, -⟩, ⟨ax5, ay5, af5, hmc5, hml5⟩, hfr5⟩ := hP
    rw [show (G j).length = (sbt K (G j)).length from (sbt_len K (G j)).symm] at hml5 ⊢
    generalize hsb : sres (sbt K (G j)) false (shomeT (t : Nat)) (sbt K (G j)).length = sb at hml5 ⊢
    refine x_istore rfl (show (6 : Nat) < 9 from by decide) ?_
    obtain ⟨n177, nfl, ⟨n11, -, -, -, -, -⟩, n25, n26, n27⟩ := id hmo5
    have n40 : fs5[40]? = some (.ref 202) := (hfs5 40 (by decide) (by decide)).trans i40
    have n0 : fs5[0]? = some (xi 0) := (hfs5 0 (by decide) (by decide)).trans i0
    have hf5 : ∀ q, q ≠ 177 → ¬ (192 ≤ q ∧ q ≤ 194) → q ≠ 202 → f5 q = f q := fun q b1 b2 b3 => (hfr5 q b1 (by omega) (by omega) (by omega)).trans ((hfr4 q (by omega) (by omega) (by omega)).trans ((hfr3 q b3).trans (hf2 q b1 b2)))
    have n202 : f5 202 = xr 0 kp3 := (hfr5 202 (by decide) (by decide) (by decide) (by decide)).trans ((hfr4 202 (by decide) (by decide) (by decide)).trans j202)
    have hB5 : sMB f5 fs5 (n : Nat) (S.2.1.length : Nat) S.2.2 := sMB_k hB hmo5 fun q b1 b2 => (hfs5 q b1 b2).trans (hfs2 q b1 b2)
    have hI5 : sMI f0 n S f5 := ⟨⟨fs5, hB5, n0, n40⟩, ⟨ax5, ay5, af5, hmc5⟩, ⟨kp3, n202, jl⟩, fun q b1 b2 b3 => (hf5 q b1 b2 b3).trans (hfr q b1 b2 b3)⟩
    have hK5 : ∀ c, c < n → sKM f5 K c (G c) := fun c hc => sKM_f (hK4 c hc) fun q b1 b2 => hfr5 q (by omega) (by omega) (by omega) (by omega)
    obtain ⟨hj12, cnb, tkb, pfb, pqb, seb, atb, kb180, -, -, -, -, -, ⟨kbl, -⟩, hcntb, -⟩ := hK5 j hj
    rw [show (G j).length = (sbt K (G j)).length from (sbt_len K (G j)).symm] at hcntb
    have next : ∀ lv3 : zL, zlv lv3 0 = some (.ref 177) → zlv lv3 1 = some (xi (i : Nat)) → zlv lv3 2 = some (xi (j : Nat)) → zlv lv3 3 = some (xi (if seq1 (sbt K (G i)) (sbt K (G j)) (shomeT (t : Nat)) = true then 1 else 0)) → zlv lv3 4 = some (xi (t : Nat)) → xz v0 xs u (fun o X => ∃ r' f', o = .inl r' ∧ X = (xh f', u) ∧ (fun r' f' => r' = some (xi (if sall (fun t => seq1 (sbt K (G i)) (sbt K (G j)) (shomeT (t : Nat))) 4 = true then 1 else 0)) ∧ sCD f' 0 ∧ sMT f' n S ∧ ∀ q, q ≠ 177 → ¬ (189 ≤ q ∧ q ≤ 197) → q ≠ 202 → f' q = f0 q) r' f') 176 240 lv3 [] f5 := by
      intro lv3 o0 o1 o2 o3 o4
      refine x_iinc rfl o4 (show (4 : Nat) < 9 from by decide) ?_
      refine x_goto (t := 41) rfl rfl ?_
      refine ih (t + 1) _ _ (by omega) (xst_ne (by decide) o0 (Or.inl rfl)) (xst_ne (by decide) o1 (Or.inl rfl)) (xst_ne (by decide) o2 (Or.inl rfl)) (xst_ne (by decide) ?_ (Or.inl rfl)) xst_eq hI5
      rw [es, hs, Bool.true_and]
      exact o3
    have p0 := xst_ne (k := 6) (v := xi (if sb = 0 then 1 else 0)) (by decide) m0 (Or.inl rfl)
    have p1 := xst_ne (k := 6) (v := xi (if sb = 0 then 1 else 0)) (by decide) m1 (Or.inl rfl)
    have p2 := xst_ne (k := 6) (v := xi (if sb = 0 then 1 else 0)) (by decide) m2 (Or.inl rfl)
    have p4 := xst_ne (k := 6) (v := xi (if sb = 0 then 1 else 0)) (by decide) m4 (Or.inl rfl)
    have p5 := xst_ne (k := 6) (v := xi (if sb = 0 then 1 else 0)) (by decide) m5 (Or.inl rfl)
    have p6 : zlv (xst 6 (xi (if sb = 0 then 1 else 0)) lv2) 6 = some (xi (if sb = 0 then 1 else 0)) := xst_eq
    generalize xst 6 (xi (if sb = 0 then 1 else 0)) lv2 = lv3 at p0 p1 p2 p4 p5 p6 ⊢
    refine x_dia (if (sa = 0 ↔ sb = 0) then 1 else 0) 156 (fun k => ?_) ?_
    · refine x_iload rfl p5 ?_
      refine x_iload rfl p6 ?_
      by_cases ha0 : sa = 0 <;> by_cases hb0 : sb = 0
      · rw [if_pos ha0, if_pos hb0]
        refine x_cne (t := 155) rfl rfl (by decide) (by decide) (fun h => absurd rfl h) (fun _ => ?_)
        refine x_iconst rfl ?_
        refine x_goto (t := 156) rfl rfl ?_
        rw [if_pos (show (sa = 0 ↔ sb = 0) from ⟨fun _ => hb0, fun _ => ha0⟩)] at k
        exact k
      · rw [if_pos ha0, if_neg hb0]
        refine x_cne (t := 155) rfl rfl (by decide) (by decide) (fun _ => ?_) (fun h => absurd h (by decide))
        refine x_iconst rfl ?_
        rw [if_neg (show ¬ (sa = 0 ↔ sb = 0) from fun h => hb0 (h.mp ha0))] at k
        exact k
      · rw [if_neg ha0, if_pos hb0]
        refine x_cne (t := 155) rfl rfl (by decide) (by decide) (fun _ => ?_) (fun h => absurd h (by decide))
        refine x_iconst rfl ?_
        rw [if_neg (show ¬ (sa = 0 ↔ sb = 0) from fun h => ha0 (h.mpr hb0))] at k
        exact k
      · rw [if_neg ha0, if_neg hb0]
        refine x_cne (t := 155) rfl rfl (by decide) (by decide) (fun h => absurd rfl h) (fun _ => ?_)
        refine x_iconst rfl ?_
        refine x_goto (t := 156) rfl rfl ?_
        rw [if_pos (show (sa = 0 ↔ sb = 0) from ⟨fun h => absurd h ha0, fun h => absurd h hb0⟩)] at k
        exact k
    refine x_istore_n rfl (show (3 : Nat) < 9 from by decide) ?_
    refine x_iconst rfl ?_
    refine x_istore rfl (show (7 : Nat) < 9 from by decide) ?_
    have r0 := xst_ne (k := 7) (v := xi 0) (by decide) (xst_ne (k := 3) (v := xi (if (sa = 0 ↔ sb = 0) then 1 else 0)) (by decide) p0 (Or.inl rfl)) (Or.inl rfl)
    have r1 := xst_ne (k := 7) (v := xi 0) (by decide) (xst_ne (k := 3) (v := xi (if (sa = 0 ↔ sb = 0) then 1 else 0)) (by decide) p1 (Or.inl rfl)) (Or.inl rfl)
    have r2 := xst_ne (k := 7) (v := xi 0) (by decide) (xst_ne (k := 3) (v := xi (if (sa = 0 ↔ sb = 0) then 1 else 0)) (by decide) p2 (Or.inl rfl)) (Or.inl rfl)
    have r4 := xst_ne (k := 7) (v := xi 0) (by decide) (xst_ne (k := 3) (v := xi (if (sa = 0 ↔ sb = 0) then 1 else 0)) (by decide) p4 (Or.inl rfl)) (Or.inl rfl)
    have r5 := xst_ne (k := 7) (v := xi 0) (by decide) (xst_ne (k := 3) (v := xi (if (sa = 0 ↔ sb = 0) then 1 else 0)) (by decide) p5 (Or.inl rfl)) (Or.inl rfl)
    have r3 : zlv (xst 7 (xi 0) (xst 3 (xi (if (sa = 0 ↔ sb = 0) then 1 else 0)) lv3)) 3 = some (xi (if (sa = 0 ↔ sb = 0) then 1 else 0)) := xst_ne (by decide) xst_eq (Or.inl rfl)
    have r7 : zlv (xst 7 (xi 0) (xst 3 (xi (if (sa = 0 ↔ sb = 0) then 1 else 0)) lv3)) 7 = some (xi 0) := xst_eq
    show xz v0 xs u _ 176 160 (xst 7 (xi 0) (xst 3 (xi (if (sa = 0 ↔ sb = 0) then 1 else 0)) lv3)) [] f5
    generalize xst 7 (xi 0) (xst 3 (xi (if (sa = 0 ↔ sb = 0) then 1 else 0)) lv3) = lv4 at r0 r1 r2 r3 r4 r5 r7 ⊢
    by_cases ha0 : sa = 0
    · rw [if_pos ha0] at r5
      by_cases hb0 : sb = 0
      · rw [if_pos (show (sa = 0 ↔ sb = 0) from ⟨fun _ => hb0, fun _ => ha0⟩)] at r3
        have hr1 : ∀ e, e < 8 → kp3.getD e 0 = srow (sbt K (G i)) false (shomeT (t : Nat)) (sbt K (G i)).length e ∧ sok (srow (sbt K (G i)) false (shomeT (t : Nat)) (sbt K (G i)).length e) := by
          intro e he
          obtain ⟨⟨b1, b2, b3⟩, b4⟩ := (hml2 ha0 _ (Nat.le_refl _)).2.2 e he
          refine ⟨?_, b4⟩
          rw [hv e he, b1, b2, b3]
          exact (s_eq _).symm
        refine xs_176c (a := i) (i4 := (t : Nat)) n177 n11 n25 n26 n27 n40 kb180 kbl hj12 hcntb hlB hmc5 n202 jl hr1 (hml5 hb0 _ (Nat.le_refl _)) (fun lv5 o0 o1 o2 o3 o4 => ?_) 8 0 _ rfl r0 r1 r2 r3 r4 r5 r7
        rw [← seq1_t (hsa.trans ha0) (hsb.trans hb0)] at o3
        exact next lv5 o0 o1 o2 o3 o4
      · rw [if_neg (show ¬ (sa = 0 ↔ sb = 0) from fun h => hb0 (h.mp ha0))] at r3
        refine x_iload rfl r7 ?_
        refine x_bipush rfl (by decide) ?_
        refine x_cge (t := 240) rfl rfl (by decide) (by decide) (fun h => absurd h (by decide)) (fun _ => ?_)
        refine x_iload rfl r5 ?_
        refine x_ifeq (t := 240) rfl rfl (by decide) (fun h => absurd h (by decide)) (fun _ => ?_)
        refine x_iload_n rfl r3 ?_
        refine x_ifeq (t := 240) rfl rfl (by decide) (fun _ => ?_) (fun h => absurd rfl h)
        refine next lv4 r0 r1 r2 ?_ r4
        rw [seq1_n (Or.inl ⟨hsa.trans ha0, fun h => hb0 (hsb.symm.trans h)⟩)]
        exact r3
    · rw [if_neg ha0] at r5
      refine x_iload rfl r7 ?_
      refine x_bipush rfl (by decide) ?_
      refine x_cge (t := 240) rfl rfl (by decide) (by decide) (fun h => absurd h (by decide)) (fun _ => ?_)
      refine x_iload rfl r5 ?_
      refine x_ifeq (t := 240) rfl rfl (by decide) (fun _ => ?_) (fun h => absurd rfl h)
      refine next lv4 r0 r1 r2 ?_ r4
      by_cases hb0 : sb = 0
      · rw [if_neg (show ¬ (sa = 0 ↔ sb = 0) from fun h => ha0 (h.mpr hb0))] at r3
        rw [seq1_n (Or.inr ⟨fun h => ha0 (hsa.symm.trans h), hsb.trans hb0⟩)]
        exact r3
      · rw [if_pos (show (sa = 0 ↔ sb = 0) from ⟨fun h => absurd h ha0, fun h => absurd h hb0⟩)] at r3
        rw [seq1_f (fun h => ha0 (hsa.symm.trans h)) (fun h => hb0 (hsb.symm.trans h)), if_pos rfl]
        exact r3
theorem xs_176 {v0 : Value} {xs : List Int32} {u : Nat × Nat} {f : Nat → zE} {n : Nat} {S : sS} (hM : yM yT2 (xh f)) (hT : sMT f n S) {K : List (Int × Int)} {G : Nat → List xBt} (hn : n ≤ 12) (hK : ∀ c, c < n → sKM f K c (G c)) (hG : ∀ c, c < n → sGok K (G c)) {a b : Int} (ha : -2147483648 ≤ a ∧ a ≤ 2147483647) (hb : -2147483648 ≤ b ∧ b ≤ 2147483647) : xq v0 xs u 176 [(0, .ref 177), (1, xi a), (2, xi b)] f (fun r' f' => r' = some (xi (sSM K G n S a b).2.1) ∧ sCD f' (sSM K G n S a b).1 ∧ sMT f' n (sSM K G n S a b).2.2 ∧ ∀ q, q ≠ 177 → ¬ (189 ≤ q ∧ q ≤ 197) → q ≠ 202 → f' q = f q) := by
  unfold xq
  obtain ⟨⟨fs, hB⟩, hX, hJ, hC⟩ := id hT
  have hB0 := hB
  obtain ⟨⟨h177, hfl, ⟨f11, f13, f14, f15, f17, f18⟩, h25, h26, h27⟩, ⟨a1, a2, a3, a4, a5, a6⟩, h9, h31, h30⟩ := hB
  have h40 : fs[40]? = some (.ref 202) := by
    obtain ⟨fs', e1, -, e3⟩ := xT_o (p := 177) hM (by decide) yT2_177
    rw [h177] at e1
    cases e1
    obtain ⟨v, hv, hg⟩ := e3 40 _ rfl
    rw [hv, yg_rf hg]
  obtain ⟨kp, e202, ekl, -⟩ := xT_a (p := 202) hM (by decide) (show yT2[202 - 50]? = some (.inr (.inl (0, [(8, ytop)]))) from rfl)
  have bad : ¬ ((0 ≤ a ∧ a < (n : Nat)) ∧ 0 ≤ b ∧ b < (n : Nat)) → xz v0 xs u (fun o X => ∃ r f', o = .inl r ∧ X = (xh f', u) ∧ (fun r' f' => r' = some (xi (sSM K G n S a b).2.1) ∧ sCD f' (sSM K G n S a b).1 ∧ sMT f' n (sSM K G n S a b).2.2 ∧ ∀ q, q ≠ 177 → ¬ (189 ≤ q ∧ q ≤ 197) → q ≠ 202 → f' q = f q) r f') 176 21 [(0, .ref 177), (1, xi a), (2, xi b)] [.ref 177] f := by
    intro hbad
    have eR : sSM K G n S a b = (1, 0, S) := by unfold sSM; rw [if_neg hbad]
    rw [eR]
    refine x_iconst rfl ?_
    refine x_putfield rfl (by decide) h177 (show (0 : Nat) < _ from by rw [hfl]; decide) rfl ?_
    refine x_aload_n rfl rfl ?_
    refine x_getfield rfl (by decide) xu_eq (sget_eq (by rw [hfl]; decide)) ?_
    refine x_ifne (t := 36) rfl rfl (by decide) (fun _ => ?_) (fun h => absurd h (by decide))
    refine x_iconst rfl ?_
    refine x_istore_n rfl (show (3 : Nat) < 9 from by decide) ?_
    refine x_iconst rfl ?_
    refine x_istore rfl (show (4 : Nat) < 9 from by decide) ?_
    refine x_iload rfl xst_eq ?_
    refine x_iconst rfl ?_
    refine x_cge (t := 246) rfl rfl (by decide) (by decide) (fun h => absurd h (by decide)) (fun _ => ?_)
    refine x_iload_n rfl (xst_ne (by decide) xst_eq (Or.inl rfl)) ?_
    refine x_ifeq (t := 246) rfl rfl (by decide) (fun _ => ?_) (fun h => absurd rfl h)
    refine x_iload_n rfl (xst_ne (by decide) xst_eq (Or.inl rfl)) ?_
    exact x_ireturn rfl (Or.inr (Or.inl ⟨rfl, by decide⟩)) ⟨_, _, rfl, rfl, rfl, ⟨_, xu_eq, sget_eq (by rw [hfl]; decide)⟩, sMT_0 hB0 hX hJ hC, fun q b1 _ _ => xu_ne b1 rfl⟩
  refine x_aload_n rfl rfl ?_
  refine x_aload_n rfl rfl ?_
  refine x_iload_n rfl rfl ?_
  refine x_call [_, _] rfl rfl (show (1 : Nat) ≤ 8 from by decide) (show (2 : Nat) ≤ 2 from by decide) (x_rcv (by decide) h177) (xs_89 hB0 ha ⟨by omega, by omega⟩) ?_
  intro r' f9 hP
  obtain ⟨rfl, hPe⟩ := hP
  subst f9
  by_cases h1 : 0 ≤ a ∧ a < (n : Nat)
  rotate_left
  · rw [if_neg h1]
    refine x_ifeq (t := 21) rfl rfl (by decide) (fun _ => ?_) (fun h => absurd rfl h)
    exact bad fun h => h1 h.1
  rw [if_pos h1]
  refine x_ifeq (t := 21) rfl rfl (by decide) (fun h => absurd h (by decide)) (fun _ => ?_)
  refine x_aload_n rfl rfl ?_
  refine x_iload_n rfl rfl ?_
  refine x_call [_, _] rfl rfl (show (1 : Nat) ≤ 8 from by decide) (show (2 : Nat) ≤ 2 from by decide) (x_rcv (by decide) h177) (xs_89 hB0 hb ⟨by omega, by omega⟩) ?_
  intro r' f9 hP
  obtain ⟨rfl, hPe⟩ := hP
  subst f9
  by_cases h2 : 0 ≤ b ∧ b < (n : Nat)
  rotate_left
  · rw [if_neg h2]
    refine x_ifeq (t := 21) rfl rfl (by decide) (fun _ => ?_) (fun h => absurd rfl h)
    exact bad fun h => h2 h.2
  rw [if_pos h2]
  refine x_ifeq (t := 21) rfl rfl (by decide) (fun h => absurd h (by decide)) (fun _ => ?_)
  refine x_iconst rfl ?_
  refine x_goto (t := 22) rfl rfl ?_
  refine x_putfield rfl (by decide) h177 (show (0 : Nat) < _ from by rw [hfl]; decide) rfl ?_
  refine x_aload_n rfl rfl ?_
  refine x_getfield rfl (by decide) xu_eq (sget_eq (by rw [hfl]; decide)) ?_
  refine x_ifne (t := 36) rfl rfl (by decide) (fun h => absurd rfl h) (fun _ => ?_)
  refine x_iconst rfl ?_
  refine x_goto (t := 37) rfl rfl ?_
  refine x_istore_n rfl (show (3 : Nat) < 9 from by decide) ?_
  refine x_iconst rfl ?_
  refine x_istore rfl (show (4 : Nat) < 9 from by decide) ?_
  obtain ⟨i, rfl⟩ : ∃ i : Nat, a = (i : Nat) := ⟨a.toNat, by omega⟩
  obtain ⟨j, rfl⟩ : ∃ j : Nat, b = (j : Nat) := ⟨b.toNat, by omega⟩
  have eR : sSM K G n S (i : Nat) (j : Nat) = (0, if sall (fun t => seq1 (sbt K (G i)) (sbt K (G j)) (shomeT (t : Nat))) 4 = true then 1 else 0, S) := by
    unfold sSM
    rw [if_pos ⟨h1, h2⟩]
    simp only [Int.toNat_natCast]
  rw [eR]
  obtain ⟨ax, ay, af, hmc⟩ := hC
  have hI : sMI f n S (xu f 177 (.inl (10, fs.set 0 (xi 0)))) := ⟨⟨_, sMB_0 hB0 xu_eq, sget_eq (by rw [hfl]; decide), sget_ne (by decide) h40⟩, ⟨ax, ay, af, xu_ne (by decide) hmc.1, xu_ne (by decide) hmc.2.1, xu_ne (by decide) hmc.2.2.1, hmc.2.2.2⟩, ⟨kp, xu_ne (by decide) e202, ekl⟩, fun q b1 _ _ => xu_ne b1 rfl⟩
  exact xs_176l hX hJ hK hG (by omega) (by omega) 4 0 _ _ rfl (xst_ne (by decide) (xst_ne (by decide) rfl (Or.inl rfl)) (Or.inl rfl)) (xst_ne (by decide) (xst_ne (by decide) rfl (Or.inl rfl)) (Or.inl rfl)) (xst_ne (by decide) (xst_ne (by decide) rfl (Or.inl rfl)) (Or.inl rfl)) (xst_ne (by decide) xst_eq (Or.inl rfl)) xst_eq hI
end
section
/-! Allow. -/
/-- which calls are allowed: the class, the model -/
def sAC (f : Nat → zE) (al : Nat → Bool) : Prop := ∀ i, i < 12 → ∃ (nm : Int64) (b d : Value), f (57 + 4 * i) = xfg i nm b d (xi (if al i = true then 1 else 0))
def sAD (f : Nat → zE) (al : Nat → Bool) : Prop := ∃ bl : List Int, f 198 = xr 2 bl ∧ bl.length = 12 ∧ ∀ i, i < 12 → bl.getD i 0 = if al i = true then 1 else 0
def soth (al : Nat → Bool) (c : Int) (k : Nat) : Int := scnt (fun i => al i && !(((i : Nat) : Int) == c)) k
/-- behind an allow -/
def sal1 (n : Nat) (al : Nat → Bool) (c y : Int) (i : Nat) : Bool := if (0 ≤ c ∧ c < (n : Nat)) ∧ soth al c n < 5 ∧ ((i : Nat) : Int) = c then decide (y = 1) else al i
theorem xs_153 {v0 : Value} {xs : List Int32} {u : Nat × Nat} {f : Nat → zE} {n : Nat} {kp pt c : Int} {al : Nat → Bool} (hn : n ≤ 12) (hc : -2147483648 ≤ c ∧ c ≤ 2147483647) (h53 : f 53 = xbo (n : Nat) kp pt) (h54 : f 54 = .inr (.inr (.inr (3, xfl)))) (hA : sAC f al) : xq v0 xs u 153 [(0, .ref 53), (1, xi c)] f (fun r' f' => r' = some (xi (soth al c n)) ∧ f' = f) := by
  unfold xq
  have lp : ∀ (w i : Nat) (lv : zL), w + i = n → zlv lv 0 = some (.ref 53) → zlv lv 1 = some (xi c) → zlv lv 2 = some (xi (soth al c i)) → zlv lv 3 = some (xi (i : Nat)) → xz v0 xs u (fun o X => ∃ r' f', o = .inl r' ∧ X = (xh f', u) ∧ (fun r' f' => r' = some (xi (soth al c n)) ∧ f' = f) r' f') 153 4 lv [] f := by
    intro w
    induction w with
    | zero =>
      intro i lv hw l0 l1 l2 l3
      have e8 : i = n := by omega
      subst e8
      refine x_iload_n rfl l3 ?_
      refine x_aload_n rfl l0 ?_
      refine x_getfield rfl (by decide) h53 rfl ?_
      refine x_cge (t := 38) rfl rfl ⟨by omega, by omega⟩ ⟨by omega, by omega⟩ (fun _ => ?_) (fun h => by omega)
      refine x_iload_n rfl l2 ?_
      exact x_ireturn rfl (Or.inl rfl) ⟨_, _, rfl, rfl, rfl, rfl⟩
    | succ w ih =>
      intro i lv hw l0 l1 l2 l3
      have hr := scnt_rg (fun i => al i && !(((i : Nat) : Int) == c)) i
      have es : soth al c (i + 1) = soth al c i + if (al i && !(((i : Nat) : Int) == c)) = true then 1 else 0 := rfl
      obtain ⟨nm, b, d, hf⟩ := hA i (by omega)
      refine x_iload_n rfl l3 ?_
      refine x_aload_n rfl l0 ?_
      refine x_getfield rfl (by decide) h53 rfl ?_
      refine x_cge (t := 38) rfl rfl ⟨by omega, by omega⟩ ⟨by omega, by omega⟩ (fun h => by omega) (fun _ => ?_)
      refine x_iload_n rfl l3 ?_
      refine x_iload_n rfl l1 ?_
      have skip : (al i && !(((i : Nat) : Int) == c)) = false → xz v0 xs u (fun o X => ∃ r' f', o = .inl r' ∧ X = (xh f', u) ∧ (fun r' f' => r' = some (xi (soth al c n)) ∧ f' = f) r' f') 153 32 lv [] f := by
        intro hq
        refine x_iinc rfl l3 (show (3 : Nat) < 4 from by decide) ?_
        refine x_goto (t := 4) rfl rfl ?_
        refine ih (i + 1) _ (by omega) (xst_ne (by decide) l0 (Or.inl rfl)) (xst_ne (by decide) l1 (Or.inl rfl)) (xst_ne (by decide) ?_ (Or.inl rfl)) xst_eq
        rw [es, hq, if_neg (by decide), Int.add_zero]
        exact l2
      refine x_ceq (t := 32) rfl rfl ⟨by omega, by omega⟩ hc (fun he => skip ?_) (fun he => ?_)
      · rw [beq_iff_eq.mpr he, Bool.not_true, Bool.and_false]
      · refine x_aload_n rfl l0 ?_
        refine x_getfield rfl (by decide) h53 rfl ?_
        refine x_iload_n rfl l3 ?_
        refine x_aaload rfl (by decide) h54 ⟨by omega, by rw [show xfl.length = 13 from rfl]; omega⟩ (by decide) (o := 57 + 4 * i) (by rw [Int.toNat_natCast]; exact xfl_at (by omega)) ?_
        refine x_getfield rfl (by omega) hf rfl ?_
        cases ha : al i with
        | false =>
          refine x_ifeq (t := 32) rfl rfl (by decide) (fun _ => skip ?_) (fun h => absurd rfl h)
          rw [ha]
          rfl
        | true =>
          refine x_ifeq (t := 32) rfl rfl (by decide) (fun h => absurd h (by decide)) (fun _ => ?_)
          refine x_iinc rfl l2 (show (2 : Nat) < 4 from by decide) ?_
          refine x_iinc rfl (xst_ne (by decide) l3 (Or.inl rfl)) (show (3 : Nat) < 4 from by decide) ?_
          refine x_goto (t := 4) rfl rfl ?_
          refine ih (i + 1) _ (by omega) (xst_ne (by decide) (xst_ne (by decide) l0 (Or.inl rfl)) (Or.inl rfl)) (xst_ne (by decide) (xst_ne (by decide) l1 (Or.inl rfl)) (Or.inl rfl)) (xst_ne (by decide) ?_ (Or.inl rfl)) xst_eq
          rw [es, ha, beq_eq_false_iff_ne.mpr he, if_pos (show (true && !false) = true from rfl)]
          exact xst_eq
  refine x_iconst rfl ?_
  refine x_istore_n rfl (show (2 : Nat) < 4 from by decide) ?_
  refine x_iconst rfl ?_
  refine x_istore_n rfl (show (3 : Nat) < 4 from by decide) ?_
  exact lp n 0 _ (by omega) (xst_ne (by decide) (xst_ne (by decide) rfl (Or.inl rfl)) (Or.inl rfl)) (xst_ne (by decide) (xst_ne (by decide) rfl (Or.inl rfl)) (Or.inl rfl)) (xst_ne (by decide) xst_eq (Or.inl rfl)) xst_eq
/-- what the class's allow comes to -/
def sAQ (f : Nat → zE) (u : Nat × Nat) (al1 : Nat → Bool) (o : zO) (X : zX) : Prop := ∃ f' : Nat → zE, ((o = .inl none ∧ X = (xh f', u)) ∨ (∃ x, o = .inr x ∧ (x = 100 ∨ x = 101) ∧ X = (xh f', u.1 + 1, u.2 + 6))) ∧ sAC f' al1 ∧ ∀ q, ¬ (57 ≤ q ∧ q ≤ 108) → f' q = f q
theorem sAC_c {f : Nat → zE} {al al' : Nat → Bool} (h : sAC f al) (e : ∀ i, i < 12 → al' i = al i) : sAC f al' := fun i hi => by
  rw [e i hi]
  exact h i hi
theorem xs_154 {v0 : Value} {xs : List Int32} {u : Nat × Nat} {f : Nat → zE} {K : List (Int × Int)} {G : Nat → List xBt} {n : Nat} {c y : Int} {S : sS} {al : Nat → Bool} (hT : sCT f K G S) (hCK : sCK f K G n) (hA : sAC f al) (hc : -2147483648 ≤ c ∧ c ≤ 2147483647) (hy : y = 0 ∨ y = 1) : xz v0 xs u (sAQ f u (sal1 n al c y)) 154 0 [(0, .ref 50), (1, xi c), (2, xi y)] [] f := by
  obtain ⟨⟨lf, h50⟩, -⟩ := id hT
  obtain ⟨hn, ⟨kp, pt, h53⟩, h54, -⟩ := id hCK
  refine x_aload_n rfl rfl ?_
  refine x_iload_n rfl rfl ?_
  refine x_callU [_, _] rfl rfl (show (0 : Nat) ≤ 8 from by decide) (show (2 : Nat) ≤ 2 from by decide) (x_rcv (by decide) h50) (Q2 := fun o X => (o = .inl none ∧ X = (xh f, u) ∧ 0 ≤ c ∧ c < (n : Nat)) ∨ (o = .inr 100 ∧ X = (xh f, u.1 + 1, u.2 + 6) ∧ ¬ (0 ≤ c ∧ c < (n : Nat)))) (xs_86 hn hc h50 h53 (fun h1 h2 => Or.inl ⟨rfl, rfl, h1, h2⟩) (fun h => Or.inr ⟨rfl, rfl, h⟩)) (fun r' X' hq => ?_) (fun x X' hq => ?_)
  rotate_left
  · rcases hq with ⟨e1, -⟩ | ⟨e1, e2, h⟩
    · cases e1
    · cases e1
      subst e2
      refine ⟨rfl, f, Or.inr ⟨100, rfl, Or.inl rfl, rfl⟩, sAC_c hA fun i _ => ?_, fun _ _ => rfl⟩
      unfold sal1
      rw [if_neg fun hh => h hh.1]
  rcases hq with ⟨e1, e2, h1, h2⟩ | ⟨e1, -⟩
  rotate_left
  · cases e1
  cases e1
  subst e2
  show xz v0 xs u _ 154 5 _ [] f
  have hr := scnt_rg (fun i => al i && !(((i : Nat) : Int) == c)) n
  have hr2 : 0 ≤ soth al c n ∧ soth al c n ≤ (n : Nat) := hr
  refine x_aload_n rfl rfl ?_
  refine x_getfield rfl (by decide) h50 rfl ?_
  refine x_iload_n rfl rfl ?_
  refine x_call [_, _] rfl rfl (show (0 : Nat) ≤ 8 from by decide) (show (2 : Nat) ≤ 4 from by decide) (x_rcv (by decide) h53) (xs_153 hn hc h53 h54 hA) (fun r' f' hP => ?_)
  obtain ⟨rfl, hPe⟩ := hP
  subst f'
  refine x_iconst rfl ?_
  refine x_clt (t := 27) rfl rfl ⟨by omega, by omega⟩ (by decide) (fun h5 => ?_) (fun h5 => ?_)
  rotate_left
  · refine x_throw rfl (by decide) rfl (show (0 : Nat) ≤ 4 from by decide) ?_
    refine ⟨f, Or.inr ⟨101, rfl, Or.inr rfl, rfl⟩, sAC_c hA fun i _ => ?_, fun _ _ => rfl⟩
    unfold sal1
    rw [if_neg (fun hh => by omega)]
  obtain ⟨k, rfl⟩ : ∃ k : Nat, c = (k : Nat) := ⟨c.toNat, by omega⟩
  obtain ⟨nm, b, d, hf⟩ := hA k (by omega)
  refine x_aload_n rfl rfl ?_
  refine x_getfield rfl (by decide) h50 rfl ?_
  refine x_iload_n rfl rfl ?_
  refine x_call [_, _] rfl rfl (show (0 : Nat) ≤ 8 from by decide) (show (2 : Nat) ≤ 2 from by decide) (x_rcv (by decide) h53) (xs_44 (by omega) h53 h54) (fun r' f' hP => ?_)
  obtain ⟨rfl, hPe⟩ := hP
  subst f'
  refine x_iload_n rfl rfl ?_
  refine x_putfield rfl (by omega) hf (show (6 : Nat) < 7 from by decide) (by rcases hy with rfl | rfl <;> decide) ?_
  refine x_return rfl ⟨_, Or.inl ⟨rfl, rfl⟩, fun i hi => ?_, fun q hq => xu_ne (by omega) rfl⟩
  by_cases hik : i = k
  · subst hik
    have e : sal1 n al ((i : Nat) : Int) y i = decide (y = 1) := by unfold sal1; rw [if_pos ⟨⟨h1, h2⟩, h5, rfl⟩]
    refine ⟨nm, b, d, ?_⟩
    rw [e, xu_eq]
    rcases hy with rfl | rfl <;> rfl
  · have e : sal1 n al ((k : Nat) : Int) y i = al i := by unfold sal1; rw [if_neg (fun hh => by omega)]
    obtain ⟨nm', b', d', hf'⟩ := hA i hi
    refine ⟨nm', b', d', ?_⟩
    rw [e]
    exact xu_ne (by omega) hf'
theorem soth_12 {al : Nat → Bool} {c : Int} {n : Nat} (hal : ∀ i, n ≤ i → al i = false) : ∀ k, soth al c (n + k) = soth al c n := by
  intro k
  induction k with
  | zero => rfl
  | succ k ih =>
    have es : soth al c (n + (k + 1)) = soth al c (n + k) + if (al (n + k) && !(((n + k : Nat) : Int) == c)) = true then 1 else 0 := rfl
    rw [es, ih, hal (n + k) (by omega), Bool.false_and, if_neg (by decide), Int.add_zero]
/-- five others allowed: then the call itself is not -/
theorem soth_5 {al : Nat → Bool} {c : Nat} : ∀ k : Nat, scnt al k = soth al (c : Nat) k + if c < k ∧ al c = true then 1 else 0 := by
  intro k
  induction k with
  | zero =>
    rw [if_neg (fun h => absurd h.1 (Nat.not_lt_zero _))]
    rfl
  | succ k ih =>
    have es : soth al (c : Nat) (k + 1) = soth al (c : Nat) k + if (al k && !(((k : Nat) : Int) == ((c : Nat) : Int))) = true then 1 else 0 := rfl
    have ec : scnt al (k + 1) = scnt al k + if al k = true then 1 else 0 := rfl
    rw [es, ec, ih]
    by_cases hck : c = k
    · subst hck
      rw [if_neg (fun h => absurd h.1 (Nat.lt_irrefl c)), beq_iff_eq.mpr rfl, Bool.not_true, Bool.and_false, if_neg (by decide : ¬ (false = true))]
      by_cases ha : al c = true
      · rw [if_pos ha, if_pos ⟨Nat.lt_succ_self c, ha⟩]
      · rw [if_neg ha, if_neg (fun h => ha h.2)]
    · rw [beq_eq_false_iff_ne.mpr (show ((k : Nat) : Int) ≠ ((c : Nat) : Int) by omega), Bool.not_false, Bool.and_true]
      generalize (if al k = true then (1 : Int) else 0) = z
      by_cases hlt : c < k ∧ al c = true
      · rw [if_pos hlt, if_pos (show c < k + 1 ∧ al c = true from ⟨by omega, hlt.2⟩)]
        omega
      · rw [if_neg hlt, if_neg (show ¬ (c < k + 1 ∧ al c = true) from fun h => hlt ⟨by omega, h.2⟩)]
        omega
theorem xs_156l {v0 : Value} {xs : List Int32} {u : Nat × Nat} {Q : zO → zX → Prop} {f0 : Nat → zE} {fs : List Value} {bl : List Int} {al : Nat → Bool} {c y : Int} (h177 : f0 177 = .inl (10, fs)) (f0' : fs[0]? = some (xi 0)) (f35 : fs[35]? = some (.ref 198)) (h198 : f0 198 = xr 2 bl) (hbl : bl.length = 12) (hb : ∀ i, i < 12 → bl.getD i 0 = if al i = true then 1 else 0) (hc : -2147483648 ≤ c ∧ c ≤ 2147483647) (hk : ∀ lv : zL, zlv lv 0 = some (.ref 177) → zlv lv 1 = some (xi c) → zlv lv 2 = some (xi y) → zlv lv 3 = some (xi (soth al c 12)) → xz v0 xs u Q 156 66 lv [] f0) : ∀ (w k : Nat) (lv : zL), w + k = 12 → zlv lv 0 = some (.ref 177) → zlv lv 1 = some (xi c) → zlv lv 2 = some (xi y) → zlv lv 3 = some (xi (soth al c k)) → zlv lv 4 = some (xi (k : Nat)) → xz v0 xs u Q 156 22 lv [] f0 := by
  intro w
  induction w with
  | zero =>
    intro k lv hw l0 l1 l2 l3 l4
    have e8 : k = 12 := by omega
    subst e8
    refine x_iload rfl l4 ?_
    refine x_bipush rfl (by decide) ?_
    refine x_cge (t := 66) rfl rfl (by decide) (by decide) (fun _ => ?_) (fun h => absurd h (by decide))
    exact hk lv l0 l1 l2 l3
  | succ w ih =>
    intro k lv hw l0 l1 l2 l3 l4
    have es : soth al c (k + 1) = soth al c k + if (al k && !(((k : Nat) : Int) == c)) = true then 1 else 0 := rfl
    have hbk := hb k (by omega)
    refine x_iload rfl l4 ?_
    refine x_bipush rfl (by decide) ?_
    refine x_cge (t := 66) rfl rfl ⟨by omega, by omega⟩ (by decide) (fun h => absurd h (by omega)) (fun _ => ?_)
    refine x_aload_n rfl l0 ?_
    refine x_getfield rfl (by decide) h177 f0' ?_
    refine x_ifne (t := 66) rfl rfl (by decide) (fun h => absurd rfl h) (fun _ => ?_)
    refine x_iload_n rfl l3 ?_
    refine x_dia (if (al k && !(((k : Nat) : Int) == c)) = true then 1 else 0) 58 (fun kk => ?_) ?_
    · refine x_aload_n rfl l0 ?_
      refine x_getfield rfl (by decide) h177 f35 ?_
      refine x_iload rfl l4 ?_
      refine x_baload rfl (by decide) h198 ⟨by omega, by omega⟩ (by omega) ?_
      rw [Int.toNat_natCast, hbk]
      cases ha : al k with
      | false =>
        refine x_ifeq (t := 57) rfl rfl (by decide) (fun _ => ?_) (fun h => absurd rfl h)
        refine x_iconst rfl ?_
        rw [ha, Bool.false_and, if_neg (by decide)] at kk
        exact kk
      | true =>
        refine x_ifeq (t := 57) rfl rfl (by decide) (fun h => absurd h (by decide)) (fun _ => ?_)
        refine x_iload rfl l4 ?_
        refine x_iload_n rfl l1 ?_
        refine x_ceq (t := 57) rfl rfl ⟨by omega, by omega⟩ hc (fun he => ?_) (fun he => ?_)
        · refine x_iconst rfl ?_
          rw [beq_iff_eq.mpr he, Bool.not_true, Bool.and_false, if_neg (by decide)] at kk
          exact kk
        · refine x_iconst rfl ?_
          refine x_goto (t := 58) rfl rfl ?_
          rw [ha, beq_eq_false_iff_ne.mpr he, Bool.not_false, Bool.and_true, if_pos rfl] at kk
          exact kk
    refine x_iadd rfl ?_
    refine x_istore_n rfl (show (3 : Nat) < 5 from by decide) ?_
    refine x_iinc rfl (xst_ne (by decide) l4 (Or.inl rfl)) (show (4 : Nat) < 5 from by decide) ?_
    refine x_goto (t := 22) rfl rfl ?_
    exact ih (k + 1) _ (by omega) (xst_ne (by decide) (xst_ne (by decide) l0 (Or.inl rfl)) (Or.inl rfl)) (xst_ne (by decide) (xst_ne (by decide) l1 (Or.inl rfl)) (Or.inl rfl)) (xst_ne (by decide) (xst_ne (by decide) l2 (Or.inl rfl)) (Or.inl rfl)) (xst_ne (by decide) xst_eq (Or.inl rfl)) xst_eq
/-- the model's allow: its state -/
theorem xs_156 {v0 : Value} {xs : List Int32} {u : Nat × Nat} {f : Nat → zE} {n : Nat} {S : sS} (hM : yM yT2 (xh f)) (hT : sMT f n S) (hn : n ≤ 12) {al : Nat → Bool} (hA : sAD f al) (hal : ∀ i, n ≤ i → al i = false) (h5 : scnt al n ≤ 5) {c y : Int} (hc : -2147483648 ≤ c ∧ c ≤ 2147483647) (hy : y = 0 ∨ y = 1) : xq v0 xs u 156 [(0, .ref 177), (1, xi c), (2, xi y)] f (fun r' f' => r' = none ∧ sMT f' n S ∧ sAD f' (sal1 n al c y) ∧ ∀ q, q ≠ 177 → q ≠ 198 → f' q = f q) := by
  unfold xq
  obtain ⟨⟨fs, hB⟩, hX, hJ, hC⟩ := id hT
  have hB0 := hB
  obtain ⟨⟨h177, hfl, ⟨f11, f13, f14, f15, f17, f18⟩, h25, h26, h27⟩, ⟨a1, a2, a3, a4, a5, a6⟩, h9, h31, h30⟩ := hB
  have f35 : fs[35]? = some (.ref 198) := by
    obtain ⟨fs', e1, -, e3⟩ := xT_o (p := 177) hM (by decide) yT2_177
    rw [h177] at e1
    cases e1
    obtain ⟨v, hv, hg⟩ := e3 35 _ rfl
    rw [hv, yg_rf hg]
  obtain ⟨bl, h198, hbl, hb⟩ := id hA
  have T1 : ∀ v w : Value, sMT (xu (xu f 177 (.inl (10, fs.set 0 v))) 177 (.inl (10, (fs.set 0 v).set 0 w))) n S := by
    intro v w
    obtain ⟨ax, ay, af, c1, c2, c3, c4⟩ := hC
    exact ⟨⟨_, sMB_0 (sMB_0 (f' := fun _ => .inl (10, fs.set 0 v)) hB0 rfl) xu_eq⟩, sMX_f hX (fun q _ _ => xu_ne (by omega) (xu_ne (by omega) rfl)), sMJ_f hJ (fun q _ _ => xu_ne (by omega) (xu_ne (by omega) rfl)), ax, ay, af, xu_ne (by decide) (xu_ne (by decide) c1), xu_ne (by decide) (xu_ne (by decide) c2), xu_ne (by decide) (xu_ne (by decide) c3), c4⟩
  refine x_aload_n rfl rfl ?_
  refine x_aload_n rfl rfl ?_
  refine x_iload_n rfl rfl ?_
  refine x_call [_, _] rfl rfl (show (1 : Nat) ≤ 8 from by decide) (show (2 : Nat) ≤ 2 from by decide) (x_rcv (by decide) h177) (xs_89 hB0 hc ⟨by omega, by omega⟩) ?_
  intro r' f9 hP
  obtain ⟨rfl, hPe⟩ := hP
  subst f9
  by_cases h1 : 0 ≤ c ∧ c < (n : Nat)
  rotate_left
  · rw [if_neg h1]
    refine x_ifeq (t := 13) rfl rfl (by decide) (fun _ => ?_) (fun h => absurd rfl h)
    refine x_iconst rfl ?_
    refine x_putfield rfl (by decide) h177 (show (0 : Nat) < _ from by rw [hfl]; decide) rfl ?_
    refine x_iconst rfl ?_
    refine x_istore_n rfl (show (3 : Nat) < 5 from by decide) ?_
    refine x_iconst rfl ?_
    refine x_istore rfl (show (4 : Nat) < 5 from by decide) ?_
    refine x_iload rfl xst_eq ?_
    refine x_bipush rfl (by decide) ?_
    refine x_cge (t := 66) rfl rfl (by decide) (by decide) (fun h => absurd h (by decide)) (fun _ => ?_)
    refine x_aload_n rfl (xst_ne (by decide) (xst_ne (by decide) rfl (Or.inl rfl)) (Or.inl rfl)) ?_
    refine x_getfield rfl (by decide) xu_eq (sget_eq (by rw [hfl]; decide)) ?_
    refine x_ifne (t := 66) rfl rfl (by decide) (fun _ => ?_) (fun h => absurd h (by decide))
    refine x_aload_n rfl (xst_ne (by decide) (xst_ne (by decide) rfl (Or.inl rfl)) (Or.inl rfl)) ?_
    refine x_aload_n rfl (xst_ne (by decide) (xst_ne (by decide) rfl (Or.inl rfl)) (Or.inl rfl)) ?_
    refine x_getfield rfl (by decide) xu_eq (sget_eq (by rw [hfl]; decide)) ?_
    refine x_ifne (t := 87) rfl rfl (by decide) (fun _ => ?_) (fun h => absurd h (by decide))
    refine x_aload_n rfl (xst_ne (by decide) (xst_ne (by decide) rfl (Or.inl rfl)) (Or.inl rfl)) ?_
    refine x_getfield rfl (by decide) xu_eq (sget_eq (by rw [hfl]; decide)) ?_
    refine x_putfield rfl (by decide) xu_eq (show (0 : Nat) < _ from by rw [(slen hfl)]; decide) rfl ?_
    refine x_aload_n rfl (xst_ne (by decide) (xst_ne (by decide) rfl (Or.inl rfl)) (Or.inl rfl)) ?_
    refine x_getfield rfl (by decide) xu_eq (sget_eq (by rw [(slen hfl)]; decide)) ?_
    refine x_ifne (t := 108) rfl rfl (by decide) (fun _ => ?_) (fun h => absurd h (by decide))
    exact x_return rfl ⟨_, _, rfl, rfl, rfl, T1 _ _, ⟨bl, xu_ne (by decide) (xu_ne (by decide) h198), hbl, fun i hi => by rw [show sal1 n al c y i = al i by unfold sal1; rw [if_neg (fun hh => h1 hh.1)]]; exact hb i hi⟩, fun q b1 b2 => xu_ne b1 (xu_ne b1 rfl)⟩
  rw [if_pos h1]
  refine x_ifeq (t := 13) rfl rfl (by decide) (fun h => absurd h (by decide)) (fun _ => ?_)
  refine x_iconst rfl ?_
  refine x_goto (t := 14) rfl rfl ?_
  refine x_putfield rfl (by decide) h177 (show (0 : Nat) < _ from by rw [hfl]; decide) rfl ?_
  refine x_iconst rfl ?_
  refine x_istore_n rfl (show (3 : Nat) < 5 from by decide) ?_
  refine x_iconst rfl ?_
  refine x_istore rfl (show (4 : Nat) < 5 from by decide) ?_
  obtain ⟨k, rfl⟩ : ∃ k : Nat, c = (k : Nat) := ⟨c.toNat, by omega⟩
  have h5k := soth_5 (al := al) (c := k) n
  have hr := scnt_rg (fun i => al i && !(((i : Nat) : Int) == ((k : Nat) : Int))) n
  have hr2 : 0 ≤ soth al (k : Nat) n ∧ soth al (k : Nat) n ≤ (n : Nat) := hr
  refine xs_156l (al := al) (y := y) xu_eq (sget_eq (by rw [hfl]; decide)) (sget_ne (by decide) f35) (xu_ne (by decide) h198) hbl hb hc (fun lv m0 m1 m2 m3 => ?_) 12 0 _ rfl (xst_ne (by decide) (xst_ne (by decide) rfl (Or.inl rfl)) (Or.inl rfl)) (xst_ne (by decide) (xst_ne (by decide) rfl (Or.inl rfl)) (Or.inl rfl)) (xst_ne (by decide) (xst_ne (by decide) rfl (Or.inl rfl)) (Or.inl rfl)) (xst_ne (by decide) xst_eq (Or.inl rfl)) xst_eq
  rw [show (12 : Nat) = n + (12 - n) by omega, soth_12 hal] at m3
  generalize hs9 : soth al (k : Nat) n = s at m3 h5k hr2
  have keep : (y = 1 ∧ 5 ≤ s) → ∀ i, i < 12 → bl.getD i 0 = if sal1 n al (k : Nat) y i = true then 1 else 0 := by
    intro hh i hi
    rw [show sal1 n al (k : Nat) y i = al i by unfold sal1; rw [hs9, if_neg (fun h => by omega)]]
    exact hb i hi
  have setd : (y = 0 ∨ s < 5) → ∀ i, i < 12 → (bl.set k y).getD i 0 = if sal1 n al (k : Nat) y i = true then 1 else 0 := by
    intro hh i hi
    rw [x_gset]
    by_cases hik : k = i
    · subst hik
      rw [if_pos ⟨rfl, by omega⟩]
      by_cases hs5 : s < 5
      · rw [show sal1 n al (k : Nat) y k = decide (y = 1) by unfold sal1; rw [hs9, if_pos ⟨h1, hs5, rfl⟩]]
        rcases hy with rfl | rfl <;> rfl
      · have hy0 : y = 0 := by omega
        subst hy0
        rw [show sal1 n al (k : Nat) 0 k = al k by unfold sal1; rw [hs9, if_neg (fun h => hs5 h.2.1)]]
        by_cases hak : al k = true
        · rw [if_pos ⟨by omega, hak⟩] at h5k
          omega
        · rw [if_neg hak]
    · rw [if_neg (fun h => hik h.1), show sal1 n al (k : Nat) y i = al i by unfold sal1; rw [hs9, if_neg (fun h => hik (by omega))]]
      exact hb i hi
  refine x_aload_n rfl m0 ?_
  refine x_aload_n rfl m0 ?_
  refine x_getfield rfl (by decide) xu_eq (sget_eq (by rw [hfl]; decide)) ?_
  refine x_ifne (t := 87) rfl rfl (by decide) (fun h => absurd rfl h) (fun _ => ?_)
  refine x_iload_n rfl m2 ?_
  rcases hy with rfl | rfl
  · refine x_ifeq (t := 87) rfl rfl (by decide) (fun _ => ?_) (fun h => absurd rfl h)
    refine x_aload_n rfl m0 ?_
    refine x_getfield rfl (by decide) xu_eq (sget_eq (by rw [hfl]; decide)) ?_
    refine x_putfield rfl (by decide) xu_eq (show (0 : Nat) < _ from by rw [(slen hfl)]; decide) rfl ?_
    refine x_aload_n rfl m0 ?_
    refine x_getfield rfl (by decide) xu_eq (sget_eq (by rw [(slen hfl)]; decide)) ?_
    refine x_ifne (t := 108) rfl rfl (by decide) (fun h => absurd rfl h) (fun _ => ?_)
    refine x_aload_n rfl m0 ?_
    refine x_getfield rfl (by decide) xu_eq (sget_ne (by decide) (sget_ne (by decide) f35)) ?_
    refine x_iload_n rfl m1 ?_
    refine x_iload_n rfl m2 ?_
    refine x_bastore rfl (by decide) (xu_ne (by decide) (xu_ne (by decide) h198)) ⟨by omega, by omega⟩ (by omega) (by decide) ?_
    have T9 := T1 (xi 0) (xi 0)
    refine x_return rfl ⟨_, _, rfl, rfl, rfl, ?_, ⟨_, xu_eq, by rw [List.length_set]; exact hbl, by rw [Int.toNat_natCast]; exact setd (Or.inl rfl)⟩, fun q b1 b2 => xu_ne b2 (xu_ne b1 (xu_ne b1 rfl))⟩
    obtain ⟨⟨fs9, hB9⟩, hX9, hJ9, ax, ay, af, c1, c2, c3, c4⟩ := T9
    exact ⟨⟨fs9, sMB_f hB9 (xu_ne (by decide) rfl)⟩, sMX_f hX9 (fun q _ _ => xu_ne (by omega) rfl), sMJ_f hJ9 (fun q _ _ => xu_ne (by omega) rfl), ax, ay, af, xu_ne (by decide) c1, xu_ne (by decide) c2, xu_ne (by decide) c3, c4⟩
  · refine x_ifeq (t := 87) rfl rfl (by decide) (fun h => absurd h (by decide)) (fun _ => ?_)
    refine x_iload_n rfl m3 ?_
    refine x_iconst rfl ?_
    refine x_clt (t := 87) rfl rfl ⟨by omega, by omega⟩ (by decide) (fun hlt => ?_) (fun hlt => ?_)
    · refine x_aload_n rfl m0 ?_
      refine x_getfield rfl (by decide) xu_eq (sget_eq (by rw [hfl]; decide)) ?_
      refine x_putfield rfl (by decide) xu_eq (show (0 : Nat) < _ from by rw [(slen hfl)]; decide) rfl ?_
      refine x_aload_n rfl m0 ?_
      refine x_getfield rfl (by decide) xu_eq (sget_eq (by rw [(slen hfl)]; decide)) ?_
      refine x_ifne (t := 108) rfl rfl (by decide) (fun h => absurd rfl h) (fun _ => ?_)
      refine x_aload_n rfl m0 ?_
      refine x_getfield rfl (by decide) xu_eq (sget_ne (by decide) (sget_ne (by decide) f35)) ?_
      refine x_iload_n rfl m1 ?_
      refine x_iload_n rfl m2 ?_
      refine x_bastore rfl (by decide) (xu_ne (by decide) (xu_ne (by decide) h198)) ⟨by omega, by omega⟩ (by omega) (by decide) ?_
      have T9 := T1 (xi 0) (xi 0)
      refine x_return rfl ⟨_, _, rfl, rfl, rfl, ?_, ⟨_, xu_eq, by rw [List.length_set]; exact hbl, by rw [Int.toNat_natCast]; exact setd (Or.inr hlt)⟩, fun q b1 b2 => xu_ne b2 (xu_ne b1 (xu_ne b1 rfl))⟩
      obtain ⟨⟨fs9, hB9⟩, hX9, hJ9, ax, ay, af, c1, c2, c3, c4⟩ := T9
      exact ⟨⟨fs9, sMB_f hB9 (xu_ne (by decide) rfl)⟩, sMX_f hX9 (fun q _ _ => xu_ne (by omega) rfl), sMJ_f hJ9 (fun q _ _ => xu_ne (by omega) rfl), ax, ay, af, xu_ne (by decide) c1, xu_ne (by decide) c2, xu_ne (by decide) c3, c4⟩
    · refine x_iconst rfl ?_
      refine x_goto (t := 91) rfl rfl ?_
      refine x_putfield rfl (by decide) xu_eq (show (0 : Nat) < _ from by rw [(slen hfl)]; decide) rfl ?_
      refine x_aload_n rfl m0 ?_
      refine x_getfield rfl (by decide) xu_eq (sget_eq (by rw [(slen hfl)]; decide)) ?_
      refine x_ifne (t := 108) rfl rfl (by decide) (fun _ => ?_) (fun h => absurd h (by decide))
      exact x_return rfl ⟨_, _, rfl, rfl, rfl, T1 _ _, ⟨bl, xu_ne (by decide) (xu_ne (by decide) h198), hbl, keep ⟨rfl, hlt⟩⟩, fun q b1 b2 => xu_ne b1 (xu_ne b1 rfl)⟩
/-! Way. -/
/-- the way that was found: F calls, or -1 -/
def sWC (f : Nat → zE) (F : Int) (wy : Nat → Int) : Prop := (∃ nd : Value, f 117 = .inl (8, [.ref 53, .ref 113, .ref 118, .ref 119, .ref 120, .ref 121, nd, xi (if F < 0 then 0 else F)])) ∧ ∃ cl : List Int, f 121 = xr 0 cl ∧ cl.length = 4 ∧ ∀ i : Nat, ((i : Nat) : Int) < F → cl.getD i 0 = wy i
def sWD (f : Nat → zE) (F : Int) (wy : Nat → Int) : Prop := (∃ fs : List Value, f 177 = .inl (10, fs) ∧ fs[36]? = some (xi F)) ∧ ∃ wl : List Int, f 199 = xr 0 wl ∧ wl.length = 4 ∧ ∀ i : Nat, ((i : Nat) : Int) < F → wl.getD i 0 = wy i
def sWR (F : Int) (wy : Nat → Int) (S : sS) (i : Int) : Int × Int × sS := if i < 0 ∨ F ≤ i then (1, 0, S) else (0, wy i.toNat, S)
def exY (_ : Int) : Nat := 102
theorem xs_169 {v0 : Value} {xs : List Int32} {u : Nat × Nat} {f : Nat → zE} {K : List (Int × Int)} {G : Nat → List xBt} {S : sS} {F : Int} {wy : Nat → Int} {i : Int} (hT : sCT f K G S) (hF : -1 ≤ F ∧ F ≤ 4) (hW : sWC f F wy) (hi : -2147483648 ≤ i ∧ i ≤ 2147483647) : xz v0 xs u (sCQ f u K G exY (sWR F wy S i)) 169 0 [(0, .ref 50), (1, xi i)] [] f := by
  obtain ⟨⟨lf, h50⟩, -⟩ := id hT
  obtain ⟨⟨nd, h117⟩, cl, h121, hcl, hw⟩ := hW
  have hF2 : 0 ≤ (if F < 0 then 0 else F) ∧ (if F < 0 then 0 else F) ≤ 4 := by split <;> omega
  have hF3 : (F < 0 ∧ (if F < 0 then 0 else F) = 0) ∨ (0 ≤ F ∧ (if F < 0 then 0 else F) = F) := by split <;> omega
  generalize (if F < 0 then 0 else F) = F2 at h117 hF2 hF3
  have bad : (i < 0 ∨ F ≤ i) → sCQ f u K G exY (sWR F wy S i) (.inr 102) (xh f, u.1 + 1, u.2 + 6) := by
    intro hbad
    have eR : sWR F wy S i = (1, 0, S) := by unfold sWR; rw [if_pos hbad]
    rw [eR]
    exact ⟨f, Or.inr ⟨(show (1 : Int) ≠ 0 from by decide), rfl, rfl⟩, hT, fun _ _ _ _ _ => rfl⟩
  refine x_iload_n rfl rfl ?_
  refine x_iflt (t := 15) rfl rfl hi (fun h => ?_) (fun h => ?_)
  · exact x_throw rfl (by decide) rfl (show (0 : Nat) ≤ 4 from by decide) (bad (Or.inl h))
  refine x_iload_n rfl rfl ?_
  refine x_aload_n rfl rfl ?_
  refine x_getfield rfl (by decide) h50 rfl ?_
  refine x_getfield rfl (by decide) h117 rfl ?_
  refine x_clt (t := 25) rfl rfl hi ⟨by omega, by omega⟩ (fun h2 => ?_) (fun h2 => ?_)
  rotate_left
  · exact x_throw rfl (by decide) rfl (show (0 : Nat) ≤ 4 from by decide) (bad (Or.inr (by omega)))
  have eR : sWR F wy S i = (0, wy i.toNat, S) := by unfold sWR; rw [if_neg (by omega)]
  rw [eR]
  refine x_aload_n rfl rfl ?_
  refine x_getfield rfl (by decide) h50 rfl ?_
  refine x_getfield rfl (by decide) h117 rfl ?_
  refine x_iload_n rfl rfl ?_
  refine x_iaload rfl (by decide) h121 ⟨by omega, by omega⟩ (by omega) ?_
  rw [hw i.toNat (by omega)]
  exact x_ireturn rfl (Or.inl rfl) ⟨f, Or.inl ⟨rfl, rfl, rfl⟩, hT, fun _ _ _ _ _ => rfl⟩
theorem xs_171 {v0 : Value} {xs : List Int32} {u : Nat × Nat} {f : Nat → zE} {n : Nat} {S : sS} (hM : yM yT2 (xh f)) (hT : sMT f n S) {F : Int} {wy : Nat → Int} {i : Int} (hF : -1 ≤ F ∧ F ≤ 4) (hW : sWD f F wy) (hi : -2147483648 ≤ i ∧ i ≤ 2147483647) : sMq v0 xs u 171 [(0, .ref 177), (1, xi i)] f n (sWR F wy S i) := by
  unfold sMq xq
  obtain ⟨⟨fs, hB⟩, hX, hJ, hC⟩ := id hT
  have hB0 := hB
  obtain ⟨⟨fs9, e9, f36⟩, wl, h199, hwl, hw⟩ := hW
  obtain ⟨h177, hfl, -⟩ := hB.1
  rw [h177] at e9
  cases e9
  have f37 : fs[37]? = some (.ref 199) := by
    obtain ⟨fs', e1, -, e3⟩ := xT_o (p := 177) hM (by decide) yT2_177
    rw [h177] at e1
    cases e1
    obtain ⟨v, hv, hg⟩ := e3 37 _ rfl
    rw [hv, yg_rf hg]
  refine x_aload_n rfl rfl ?_
  refine x_dia (if i < 0 ∨ F ≤ i then 1 else 0) 18 (fun k => ?_) ?_
  · refine x_iload_n rfl rfl ?_
    refine x_iflt (t := 13) rfl rfl hi (fun h2 => ?_) (fun h2 => ?_)
    · refine x_iconst rfl ?_
      refine x_goto (t := 18) rfl rfl ?_
      rw [if_pos (Or.inl h2)] at k
      exact k
    · refine x_iload_n rfl rfl ?_
      refine x_aload_n rfl rfl ?_
      refine x_getfield rfl (by decide) h177 f36 ?_
      refine x_clt (t := 17) rfl rfl hi ⟨by omega, by omega⟩ (fun h10 => ?_) (fun h10 => ?_)
      · refine x_iconst rfl ?_
        rw [if_neg (by omega)] at k
        exact k
      · refine x_iconst rfl ?_
        refine x_goto (t := 18) rfl rfl ?_
        rw [if_pos (Or.inr h10)] at k
        exact k
  by_cases hb : i < 0 ∨ F ≤ i
  · have eR : sWR F wy S i = (1, 0, S) := by unfold sWR; rw [if_pos hb]
    rw [eR, if_pos hb]
    refine x_putfield rfl (by decide) h177 (show (0 : Nat) < _ from by rw [hfl]; decide) rfl ?_
    refine x_aload_n rfl rfl ?_
    refine x_getfield rfl (by decide) xu_eq (sget_eq (by rw [hfl]; decide)) ?_
    refine x_ifle (t := 32) rfl rfl (by decide) (fun h => absurd h (by decide)) (fun _ => ?_)
    refine x_iconst rfl ?_
    refine x_goto (t := 38) rfl rfl ?_
    exact x_ireturn rfl (Or.inl rfl) ⟨_, _, rfl, rfl, rfl, ⟨_, xu_eq, sget_eq (by rw [hfl]; decide)⟩, sMT_0 hB0 hX hJ hC, fun q b1 _ => xu_ne b1 rfl⟩
  · have eR : sWR F wy S i = (0, wy i.toNat, S) := by unfold sWR; rw [if_neg hb]
    rw [eR, if_neg hb]
    refine x_putfield rfl (by decide) h177 (show (0 : Nat) < _ from by rw [hfl]; decide) rfl ?_
    refine x_aload_n rfl rfl ?_
    refine x_getfield rfl (by decide) xu_eq (sget_eq (by rw [hfl]; decide)) ?_
    refine x_ifle (t := 32) rfl rfl (by decide) (fun _ => ?_) (fun h => absurd h (by decide))
    refine x_aload_n rfl rfl ?_
    refine x_getfield rfl (by decide) xu_eq (sget_ne (by decide) f37) ?_
    refine x_iload_n rfl rfl ?_
    refine x_iaload rfl (by decide) (xu_ne (by decide) h199) ⟨by omega, by omega⟩ (by omega) ?_
    rw [hw i.toNat (by omega)]
    exact x_ireturn rfl (Or.inl rfl) ⟨_, _, rfl, rfl, rfl, ⟨_, xu_eq, sget_eq (by rw [hfl]; decide)⟩, sMT_0 hB0 hX hJ hC, fun q b1 _ => xu_ne b1 rfl⟩
end
