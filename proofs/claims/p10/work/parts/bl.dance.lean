/-! The class's state of dancing; perform. -/
def sCT (f : Nat → zE) (K : List (Int × Int)) (G : Nat → List xBt) (S : sS) : Prop := (∃ lf : Value, f 50 = xfc (xi (S.2.1.length : Nat)) lf (xi S.2.2)) ∧ (∃ pl : List Int, f 175 = xr 0 pl ∧ pl.length = 8 ∧ sRL pl 0 S.1) ∧ S.2.1.length ≤ 24 ∧ ∀ i, i < S.2.1.length → f (123 + 2 * i) = .inl (9, [.ref (123 + 2 * i + 1), xi ((G (S.2.1.getD i sH0).1).length : Nat)]) ∧ ∃ l : List Int, f (123 + 2 * i + 1) = xr 0 l ∧ sTR l (sbt K (G (S.2.1.getD i sH0).1)) (S.2.1.getD i sH0).2.1 (S.2.1.getD i sH0).2.2 (G (S.2.1.getD i sH0).1).length
/-- a method of the class: its answer or its throw, and its state -/
def sCQ (f : Nat → zE) (u : Nat × Nat) (K : List (Int × Int)) (G : Nat → List xBt) (ex : Int → Nat) (R : Int × Int × sS) (o : zO) (X : zX) : Prop := ∃ f' : Nat → zE, ((R.1 = 0 ∧ o = .inl (some (xi R.2.1)) ∧ X = (xh f', u)) ∨ (R.1 ≠ 0 ∧ o = .inr (ex R.1) ∧ X = (xh f', u.1 + 1, u.2 + 6))) ∧ sCT f' K G R.2.2 ∧ ∀ q, q ≠ 50 → q ≠ 115 → q ≠ 116 → ¬ (123 ≤ q ∧ q ≤ 176) → f' q = f q
def exD (k : Int) : Nat := if k = 1 then 100 else 101
def exU (k : Int) : Nat := if k = 1 then 101 else 101
def exW (k : Int) : Nat := if k = 1 then 100 else 100
def exS (k : Int) : Nat := if k = 1 then 100 else 102
theorem sCT_f {f f' : Nat → zE} {K : List (Int × Int)} {G : Nat → List xBt} {S : sS} (h : sCT f K G S) (h50 : f' 50 = f 50) (hfr : ∀ q, 123 ≤ q → q ≤ 175 → f' q = f q) : sCT f' K G S := by
  obtain ⟨⟨lf, k50⟩, ⟨pl, h175, hpl⟩, h24, hJ⟩ := h
  refine ⟨⟨lf, h50.trans k50⟩, ⟨pl, (hfr 175 (by decide) (by decide)).trans h175, hpl⟩, h24, fun i hi => ?_⟩
  obtain ⟨j1, l, j2, j3⟩ := hJ i hi
  exact ⟨(hfr _ (by omega) (by omega)).trans j1, l, (hfr _ (by omega) (by omega)).trans j2, j3⟩
theorem sres_rg {bt : List sB} {back : Bool} {r0 : Nat → Int} : ∀ i : Nat, 0 ≤ sres bt back r0 i ∧ sres bt back r0 i ≤ 10 * (i : Nat) + 3 := by
  intro i
  induction i with
  | zero => exact ⟨Int.le_refl _, by show (0 : Int) ≤ _; omega⟩
  | succ i ih =>
    have hc := sclash_rg (srow bt back r0 i) (srow bt back r0 (i + 1))
    simp only [sres]
    split
    · omega
    · split
      · omega
      · omega
theorem sRL_copy {l l' : List Int} {k : Nat} {r : Nat → Int} (h : sRL l ((k : Nat) * 8) r) (hl : l'.length = 8) (h' : ∀ j : Nat, l'.getD j 0 = if (0 : Int).toNat ≤ j ∧ j < (0 : Int).toNat + 8 then l.getD ((((k : Nat) : Int) * 8).toNat + (j - (0 : Int).toNat)) 0 else 0) : sRL l' 0 r := by
  refine ⟨by omega, by omega, fun d hd => ?_⟩
  obtain ⟨h1, h2⟩ := h.2.2 d hd
  refine ⟨?_, h2⟩
  rw [show ((0 : Int) + (d : Nat)).toNat = d by omega, h' d, if_pos ⟨by omega, by omega⟩, ← h1]
  congr 1
theorem x_callU {v0 : Value} {xs : List Int32} {u : Nat × Nat} {Q : zO → zX → Prop} {mi pc b : Nat} {v : Value} {lv : zL} {f : Nat → zE} {r : List Value} {i : Instr} {Q2 : zO → zX → Prop} (as : List Value) (hc : zcd (zt v0) mi pc = some (i, 0, b, as.length, v)) (hki : zki i = 2) (h8 : zcat r ≤ 8) (hn : zcat as ≤ znl (zt v0) b) (hrc : zrcv (zG xs) (xh f, u) v as.reverse = true) (hs : zwp (zt v0) (zG xs) b 0 (lv_args 0 as.reverse) [] (xh f, u) Q2)
    (k1 : ∀ r' X', Q2 (.inl r') X' → zwp (zt v0) (zG xs) mi (pc + 3) lv (r'.toList ++ r) X' Q) (k2 : ∀ x X', Q2 (.inr x) X' → zhn (zt v0) mi pc x = none ∧ Q (.inr x) X') : xz v0 xs u Q mi pc lv (as ++ r) f := by
  obtain ⟨z1, z2, z3, z4, z5⟩ := zk_za (G := zG xs) (df := zdf (zt v0)) (a := 0) (b := b) (c := as.length) (v := v) (nL := znl (zt v0) mi) (pc := pc) (lv := lv) (st := as ++ r) (X := (xh f, u)) hki
  have e1 : (as ++ r).take as.length = as := List.take_left
  have e2 : (as ++ r).drop as.length = r := List.drop_left
  refine zwp_call ⟨hc, z1, z2, z3⟩ z4 hki ⟨rfl, by simp, by rw [e2]; exact h8, by rw [e1]; exact hn, by rw [e1]; exact hrc⟩ ?_
  rw [e1, e2]
  refine zwp_mono hs fun o X' hq => ?_
  cases o with
  | inl r' => exact k1 r' X' hq
  | inr x => exact Or.inl (k2 x X' hq)
theorem xs_85 {v0 : Value} {xs : List Int32} {u : Nat × Nat} {f : Nat → zE} {c : Nat} {kp pt z : Int} (hc : c ≤ 12) (hz : -2147483648 ≤ z ∧ z ≤ 2147483647) (h53 : f 53 = xbo (c : Nat) kp pt) : xq v0 xs u 85 [(0, .ref 53), (1, xi z)] f (fun r f' => f' = f ∧ ((r = some (xi 1) ∧ 0 ≤ z ∧ z < (c : Nat)) ∨ (r = some (xi 0) ∧ ¬ (0 ≤ z ∧ z < (c : Nat))))) := by
  unfold xq
  refine x_iload_n rfl rfl ?_
  refine x_iflt (t := 16) rfl rfl hz (fun h => ?_) (fun h => ?_)
  · refine x_iconst rfl ?_
    exact x_ireturn rfl (Or.inr (Or.inl ⟨rfl, by decide⟩)) ⟨_, _, rfl, rfl, rfl, Or.inr ⟨rfl, by omega⟩⟩
  · refine x_iload_n rfl rfl ?_
    refine x_aload_n rfl rfl ?_
    refine x_getfield rfl (by decide) h53 rfl ?_
    refine x_cge (t := 16) rfl rfl hz ⟨by omega, by omega⟩ (fun h2 => ?_) (fun h2 => ?_)
    · refine x_iconst rfl ?_
      exact x_ireturn rfl (Or.inr (Or.inl ⟨rfl, by decide⟩)) ⟨_, _, rfl, rfl, rfl, Or.inr ⟨rfl, by omega⟩⟩
    · refine x_iconst rfl ?_
      refine x_goto (t := 17) rfl rfl ?_
      exact x_ireturn rfl (Or.inr (Or.inl ⟨rfl, by decide⟩)) ⟨_, _, rfl, rfl, rfl, Or.inl ⟨rfl, by omega, by omega⟩⟩
theorem xs_86 {v0 : Value} {xs : List Int32} {u : Nat × Nat} {Q : zO → zX → Prop} {f : Nat → zE} {c : Nat} {kp pt z : Int} {dd lf lc : Value} (hc : c ≤ 12) (hz : -2147483648 ≤ z ∧ z ≤ 2147483647) (h50 : f 50 = xfc dd lf lc) (h53 : f 53 = xbo (c : Nat) kp pt) (k1 : 0 ≤ z → z < (c : Nat) → Q (.inl none) (xh f, u)) (k2 : ¬ (0 ≤ z ∧ z < (c : Nat)) → Q (.inr 100) (xh f, u.1 + 1, u.2 + 6)) : xz v0 xs u Q 86 0 [(0, .ref 50), (1, xi z)] [] f := by
  refine x_aload_n rfl rfl ?_
  refine x_getfield rfl (by decide) h50 rfl ?_
  refine x_iload_n rfl rfl ?_
  refine x_call [_, _] rfl rfl (show (0 : Nat) ≤ 8 from by decide) (show (2 : Nat) ≤ 2 from by decide) (x_rcv (by decide) h53) (xs_85 hc hz h53) (fun r' f' hP => ?_)
  obtain ⟨rfl, hP⟩ := hP
  rcases hP with ⟨rfl, h1, h2⟩ | ⟨rfl, h⟩
  · refine x_ifne (t := 21) rfl rfl (by decide) (fun _ => ?_) (fun h => absurd h (by decide))
    exact x_return rfl (k1 h1 h2)
  · refine x_ifne (t := 21) rfl rfl (by decide) (fun h => absurd rfl h) (fun _ => ?_)
    exact x_throw rfl (by decide) rfl (show (0 : Nat) ≤ 4 from by decide) (k2 h)
/-- what the class knows of its calls -/
def sCK (f : Nat → zE) (K : List (Int × Int)) (G : Nat → List xBt) (n : Nat) : Prop := n ≤ 12 ∧ (∃ kp pt : Int, f 53 = xbo (n : Nat) kp pt) ∧ f 54 = .inr (.inr (.inr (3, xfl))) ∧ sPK f K ∧ (∀ c, c < n → sFG f (57 + 4 * c) (G c)) ∧ ∀ c, c < n → sGok K (G c)
theorem sCK_f {f f' : Nat → zE} {K : List (Int × Int)} {G : Nat → List xBt} {n : Nat} (h : sCK f K G n) (hfr : ∀ q, 53 ≤ q → q ≤ 108 → f' q = f q) : sCK f' K G n := by
  obtain ⟨hn, ⟨kp, pt, h53⟩, h54, ⟨⟨a, b, c, p53⟩, se, at', p55, p56, hp⟩, hF, hG⟩ := h
  refine ⟨hn, ⟨kp, pt, (hfr 53 (by decide) (by decide)).trans h53⟩, (hfr 54 (by decide) (by decide)).trans h54, ⟨⟨a, b, c, (hfr 53 (by decide) (by decide)).trans p53⟩, se, at', (hfr 55 (by decide) (by decide)).trans p55, (hfr 56 (by decide) (by decide)).trans p56, hp⟩, fun i hi => ?_, hG⟩
  obtain ⟨r1, ⟨c3, c5, c6, g0⟩, fp, ep, ta, g1, g2, g3, g4⟩ := hF i hi
  exact ⟨r1, ⟨c3, c5, c6, (hfr _ (by omega) (by omega)).trans g0⟩, fp, ep, ta, (hfr _ (by omega) (by omega)).trans g1, (hfr _ (by omega) (by omega)).trans g2, (hfr _ (by omega) (by omega)).trans g3, g4⟩
set_option maxRecDepth 20000 in
theorem xs_107 {v0 : Value} {xs : List Int32} {u : Nat × Nat} {f : Nat → zE} {K : List (Int × Int)} {G : Nat → List xBt} {n : Nat} {back : Bool} {c : Int} {S : sS} (hM : yM yT2 (xh f)) (hT : sCT f K G S) (hCK : sCK f K G n) (hc : -2147483648 ≤ c ∧ c ≤ 2147483647) : xz v0 xs u (sCQ f u K G exD (sPF K G n back c S)) 107 0 [(0, .ref 50), (1, xi c), (2, xi (if back = true then 1 else 0))] [] f := by
  obtain ⟨⟨lf, h50⟩, ⟨pl, h175, hpl, hrl⟩, h24, hJ⟩ := id hT
  obtain ⟨hn, ⟨kp, pt, h53⟩, h54, hPK, hFG, hG⟩ := id hCK
  refine x_aload_n rfl rfl ?_
  refine x_iload_n rfl rfl ?_
  refine x_callU [_, _] rfl rfl (show (0 : Nat) ≤ 8 from by decide) (show (2 : Nat) ≤ 2 from by decide) (x_rcv (by decide) h50) (Q2 := fun o X => (o = .inl none ∧ X = (xh f, u) ∧ 0 ≤ c ∧ c < (n : Nat)) ∨ (o = .inr 100 ∧ X = (xh f, u.1 + 1, u.2 + 6) ∧ ¬ (0 ≤ c ∧ c < (n : Nat)))) (xs_86 hn hc h50 h53 (fun h1 h2 => Or.inl ⟨rfl, rfl, h1, h2⟩) (fun h => Or.inr ⟨rfl, rfl, h⟩)) (fun r' X' hq => ?_) (fun x X' hq => ?_)
  rotate_left
  · rcases hq with ⟨e1, -⟩ | ⟨e1, e2, h⟩
    · cases e1
    · cases e1
      subst e2
      have eR : sPF K G n back c S = (1, 0, S) := by unfold sPF; rw [if_neg h]
      rw [eR]
      exact ⟨rfl, f, Or.inr ⟨(show (1 : Int) ≠ 0 from by decide), rfl, rfl⟩, hT, fun _ _ _ _ _ => rfl⟩
  rcases hq with ⟨e1, e2, h1, h2⟩ | ⟨e1, -⟩
  rotate_left
  · cases e1
  cases e1
  subst e2
  show xz v0 xs u _ 107 5 _ [] f
  obtain ⟨i, rfl⟩ : ∃ i : Nat, c = (i : Nat) := ⟨c.toNat, by omega⟩
  have hi : i < n := by omega
  have hlen : (G i).length ≤ 16 := (hG i hi).1
  refine x_aload_n rfl rfl ?_
  refine x_getfield rfl (by decide) h50 rfl ?_
  refine x_bipush rfl (by decide) ?_
  refine x_clt (t := 24) rfl rfl ⟨by omega, by omega⟩ (by decide) (fun hd => ?_) (fun hd => ?_)
  rotate_left
  · refine x_throw rfl (by decide) rfl (show (0 : Nat) ≤ 4 from by decide) ?_
    have eR : sPF K G n back (i : Nat) S = (2, 0, S) := by unfold sPF; rw [if_pos ⟨h1, h2⟩, if_pos (by omega)]
    rw [eR]
    exact ⟨f, Or.inr ⟨(show (2 : Int) ≠ 0 from by decide), rfl, rfl⟩, hT, fun _ _ _ _ _ => rfl⟩
  obtain ⟨z, l, k1, k2, k3, k4, k5⟩ := sTk hM (i := S.2.1.length) (by omega)
  refine x_aload_n rfl rfl ?_
  refine x_getfield rfl (by decide) h50 rfl ?_
  refine x_aload_n rfl rfl ?_
  refine x_getfield rfl (by decide) h50 rfl ?_
  refine x_aaload rfl (by decide) (s122 hM) ⟨by omega, by rw [show xjl.length = 24 from rfl]; omega⟩ (by decide) (o := 123 + 2 * S.2.1.length) (by rw [Int.toNat_natCast]; exact xjl_at _ (by omega)) ?_
  refine x_astore_n rfl (show (3 : Nat) < 4 from by decide) ?_
  refine x_aload_n rfl xst_eq ?_
  refine x_aload_n rfl (xst_ne (by decide) rfl (Or.inl rfl)) ?_
  refine x_getfield rfl (by decide) h50 rfl ?_
  refine x_iconst rfl ?_
  refine x_call [_, _, _] rfl rfl (show (0 : Nat) ≤ 8 from by decide) (show (3 : Nat) ≤ 3 from by decide) (x_rcv (by omega) k1) (xs_91 (t := 123 + 2 * S.2.1.length) (p := 175) ⟨by omega, by omega⟩ k1 k3 k4 (by decide) (by omega) h175 (by omega) ⟨by omega, by omega⟩) (fun r' f1 hP => ?_)
  obtain ⟨rfl, g1, ⟨l1, g2, g3, g4⟩, g5⟩ := hP
  have hr1 : sRL l1 0 S.1 := by
    refine ⟨by omega, by omega, fun d hd => ?_⟩
    obtain ⟨a1, a2⟩ := hrl.2.2 d hd
    refine ⟨?_, a2⟩
    rw [show ((0 : Int) + (d : Nat)).toNat = d by omega, g4 d hd]
    exact a1
  have g50 : f1 50 = _ := (g5 50 (by omega) (by omega)).trans h50
  have hCK1 : sCK f1 K G n := sCK_f hCK fun q b1 b2 => g5 q (by omega) (by omega)
  obtain ⟨-, ⟨kp1, pt1, g53⟩, g54, gPK, gFG, -⟩ := hCK1
  have hDN := sDN_M hM
  have hDN1 : sDN f1 := by
    obtain ⟨a1, a2, ⟨dl, a3, a4⟩, al, a5, a6⟩ := hDN
    exact ⟨(g5 _ (by omega) (by omega)).trans a1, (g5 _ (by omega) (by omega)).trans a2, ⟨dl, (g5 _ (by omega) (by omega)).trans a3, a4⟩, al, (g5 _ (by omega) (by omega)).trans a5, a6⟩
  refine x_aload_n rfl (xst_ne (by decide) rfl (Or.inl rfl)) ?_
  refine x_aload_n rfl (xst_ne (by decide) rfl (Or.inl rfl)) ?_
  refine x_getfield rfl (by decide) g50 rfl ?_
  refine x_aload_n rfl xst_eq ?_
  refine x_aload_n rfl (xst_ne (by decide) rfl (Or.inl rfl)) ?_
  refine x_getfield rfl (by decide) g50 rfl ?_
  refine x_iload_n rfl (xst_ne (by decide) rfl (Or.inl rfl)) ?_
  refine x_call [_, _] rfl rfl (show (3 : Nat) ≤ 8 from by decide) (show (2 : Nat) ≤ 2 from by decide) (x_rcv (by decide) g53) (xs_44 (by omega) g53 g54) (fun r' f' hP => ?_)
  obtain ⟨rfl, hPe⟩ := hP
  subst f'
  refine x_iload_n rfl (xst_ne (by decide) rfl (Or.inl rfl)) ?_
  refine x_call [_, _, _, _] rfl rfl (show (1 : Nat) ≤ 8 from by decide) (show (4 : Nat) ≤ 6 from by decide) (x_rcv (by decide) hDN1.1) (xs_105 (t := 123 + 2 * S.2.1.length) (fg := 57 + 4 * i) (r0 := S.1) hDN1 gPK (hG i hi) (gFG i hi) ⟨by omega, by omega⟩ g1 g2 g3 hr1) (fun r' f2 hP => ?_)
  obtain ⟨rfl, ⟨l2, q1, q2, q3⟩, ⟨cn, q4, q5, q6⟩, -, q7⟩ := hP
  have hrg := sres_rg (bt := sbt K (G i)) (back := back) (r0 := S.1) (G i).length
  have q50 : f2 50 = _ := (q7 50 (by decide) (by decide) (by omega) (by omega)).trans g50
  have hfr2 : ∀ q, q ≠ 115 → q ≠ 116 → ¬ (123 ≤ q ∧ q ≤ 176) → f2 q = f q := fun q b1 b2 b3 => (q7 q b1 b2 (by omega) (by omega)).trans (g5 q (by omega) (by omega))
  have hfr3 : ∀ q, 123 ≤ q → q ≠ 123 + 2 * S.2.1.length → q ≠ 123 + 2 * S.2.1.length + 1 → f2 q = f q := fun q b0 b1 b2 => (q7 q (by omega) (by omega) b1 b2).trans (g5 q b1 b2)
  refine x_putfield rfl (by decide) q50 (show (12 : Nat) < 13 from by decide) rfl ?_
  refine x_aload_n rfl (xst_ne (by decide) rfl (Or.inl rfl)) ?_
  refine x_getfield rfl (by decide) xu_eq rfl ?_
  refine x_ifeq (t := 81) rfl rfl ⟨by omega, by omega⟩ (fun hz => ?_) (fun hz => ?_)
  rotate_left
  · refine x_throw rfl (by decide) rfl (show (0 : Nat) ≤ 4 from by decide) ?_
    have eR : sPF K G n back (i : Nat) S = (2, 0, (S.1, S.2.1, sres (sbt K (G i)) back S.1 (G i).length)) := by
      unfold sPF
      rw [if_pos ⟨h1, h2⟩, if_neg (by omega)]
      simp only [Int.toNat_natCast]
      rw [if_neg hz]
    rw [eR]
    refine ⟨_, Or.inr ⟨(show (2 : Int) ≠ 0 from by decide), rfl, rfl⟩, ⟨⟨lf, xu_eq⟩, ⟨pl, xu_ne (by decide) ((hfr3 175 (by decide) (by omega) (by omega)).trans h175), hpl, hrl⟩, h24, fun j hj => ?_⟩, fun q b1 b2 b3 b4 => xu_ne b1 (hfr2 q b2 b3 b4)⟩
    obtain ⟨j1, lj, j2, j3⟩ := hJ j hj
    have hj' : j < S.2.1.length := hj
    exact ⟨xu_ne (by omega) ((hfr3 _ (by omega) (by omega) (by omega)).trans j1), lj, xu_ne (by omega) ((hfr3 _ (by omega) (by omega) (by omega)).trans j2), j3⟩
  refine x_aload_n rfl (xst_ne (by decide) rfl (Or.inl rfl)) ?_
  refine x_dup rfl ?_
  refine x_getfield rfl (by decide) xu_eq rfl ?_
  refine x_iconst rfl ?_
  refine x_iadd rfl ?_
  refine x_putfield rfl (by decide) xu_eq (show (10 : Nat) < 13 from by decide) rfl ?_
  generalize hf3 : xu (xu f2 50 _) 50 _ = f3
  have k50 : f3 50 = xfc (xi ((S.2.1.length : Nat) + 1)) lf (xi (sres (sbt K (G i)) back S.1 (G i).length)) := by rw [← hf3]; exact xu_eq
  have hfa : ∀ q, q ≠ 50 → f3 q = f2 q := fun q b => by rw [← hf3]; exact xu_ne b (xu_ne b rfl)
  have hcn := q6 hz
  subst hcn
  have k4' := (hfa (123 + 2 * S.2.1.length) (by omega)).trans q4
  have k1' := (hfa (123 + 2 * S.2.1.length + 1) (by omega)).trans q1
  have k175 := (hfa 175 (by decide)).trans ((hfr3 175 (by decide) (by omega) (by omega)).trans h175)
  refine x_aload_n rfl xst_eq ?_
  refine x_aload_n rfl xst_eq ?_
  refine x_getfield rfl (by omega) k4' rfl ?_
  refine x_aload_n rfl (xst_ne (by decide) rfl (Or.inl rfl)) ?_
  refine x_getfield rfl (by decide) k50 rfl ?_
  refine x_iconst rfl ?_
  refine x_call [_, _, _, _] rfl rfl (show (0 : Nat) ≤ 8 from by decide) (show (4 : Nat) ≤ 4 from by decide) (x_rcv (by omega) k4') (xs_106 (t := 123 + 2 * S.2.1.length) (p := 175) ⟨by omega, by omega⟩ k4' k1' q2 ⟨by omega, by omega⟩ (by decide) (by omega) k175 (by omega) ⟨by omega, by omega⟩) (fun r' f4 hP => ?_)
  obtain ⟨rfl, ⟨l3, w1, w2, w3⟩, w4⟩ := hP
  refine x_aload_n rfl xst_eq ?_
  refine x_getfield rfl (by omega) ((w4 _ (by omega)).trans k4') rfl ?_
  have eR : sPF K G n back (i : Nat) S = (0, (((G i).length : Nat) : Int), (srow (sbt K (G i)) back S.1 (G i).length, S.2.1 ++ [(i, back, S.1)], 0)) := by
    unfold sPF
    rw [if_pos ⟨h1, h2⟩, if_neg (by omega)]
    simp only [Int.toNat_natCast]
    rw [if_pos hz]
  rw [eR]
  have hTR := q3 hz
  refine x_ireturn rfl (Or.inl rfl) ⟨f4, Or.inl ⟨rfl, rfl, rfl⟩, ⟨⟨lf, ?_⟩, ⟨l3, w1, w2.trans hpl, ?_⟩, ?_, fun j hj => ?_⟩, fun q b1 b2 b3 b4 => (w4 q (by omega)).trans ((hfa q b1).trans (hfr2 q b2 b3 b4))⟩
  · rw [(w4 50 (by decide)).trans k50, hz]
    dsimp only
    rw [List.length_append, List.length_singleton]
    rfl
  · refine sRL_copy (hTR.2 (G i).length (Nat.le_refl _)) (w2.trans hpl) fun j => ?_
    rw [w3 j]
    split
    · rfl
    · rename_i hj
      rw [List.getD_eq_getElem?_getD, List.getElem?_eq_none (by omega)]
      rfl
  · dsimp only
    rw [List.length_append, List.length_singleton]
    omega
  · dsimp only at hj ⊢
    rw [List.length_append, List.length_singleton] at hj
    rw [sH_app]
    by_cases hjl : j < S.2.1.length
    · rw [if_pos hjl]
      obtain ⟨j1, lj, j2, j3⟩ := hJ j hjl
      exact ⟨(w4 _ (by omega)).trans ((hfa _ (by omega)).trans ((hfr3 _ (by omega) (by omega) (by omega)).trans j1)), lj, (w4 _ (by omega)).trans ((hfa _ (by omega)).trans ((hfr3 _ (by omega) (by omega) (by omega)).trans j2)), j3⟩
    · have hje : j = S.2.1.length := by omega
      rw [if_neg hjl, if_pos hje]
      subst hje
      exact ⟨(w4 _ (by omega)).trans k4', l2, (w4 _ (by omega)).trans k1', hTR⟩
theorem xs_108 {v0 : Value} {xs : List Int32} {u : Nat × Nat} {f : Nat → zE} {K : List (Int × Int)} {G : Nat → List xBt} {n : Nat} {c : Int} {S : sS} (hM : yM yT2 (xh f)) (hT : sCT f K G S) (hCK : sCK f K G n) (hc : -2147483648 ≤ c ∧ c ≤ 2147483647) : xz v0 xs u (sCQ f u K G exD (sPF K G n false c S)) 108 0 [(0, .ref 50), (1, xi c)] [] f := by
  obtain ⟨⟨lf, h50⟩, -⟩ := id hT
  refine x_aload_n rfl rfl ?_
  refine x_iload_n rfl rfl ?_
  refine x_iconst rfl ?_
  refine x_callU [_, _, _] rfl rfl (show (0 : Nat) ≤ 8 from by decide) (show (3 : Nat) ≤ 4 from by decide) (x_rcv (by decide) h50) (xs_107 (back := false) hM hT hCK hc) (fun r' X' hq => ?_) (fun x X' hq => ?_)
  · obtain ⟨f', ⟨hz, e1, e2⟩ | ⟨hz, e1, e2⟩, hT', hfr⟩ := hq
    · cases e1
      subst e2
      show xz v0 xs u _ 108 6 _ [_] f'
      exact x_ireturn rfl (Or.inl rfl) ⟨f', Or.inl ⟨hz, rfl, rfl⟩, hT', hfr⟩
    · cases e1
  · obtain ⟨f', ⟨hz, e1, e2⟩ | ⟨hz, e1, e2⟩, hT', hfr⟩ := hq
    · cases e1
    · cases e1
      exact ⟨rfl, f', Or.inr ⟨hz, rfl, e2⟩, hT', hfr⟩
theorem xs_126 {v0 : Value} {xs : List Int32} {u : Nat × Nat} {f : Nat → zE} {K : List (Int × Int)} {G : Nat → List xBt} {n : Nat} {c : Int} {S : sS} (hM : yM yT2 (xh f)) (hT : sCT f K G S) (hCK : sCK f K G n) (hc : -2147483648 ≤ c ∧ c ≤ 2147483647) : xz v0 xs u (sCQ f u K G exD (sPF K G n true c S)) 126 0 [(0, .ref 50), (1, xi c)] [] f := by
  obtain ⟨⟨lf, h50⟩, -⟩ := id hT
  refine x_aload_n rfl rfl ?_
  refine x_iload_n rfl rfl ?_
  refine x_iconst rfl ?_
  refine x_callU [_, _, _] rfl rfl (show (0 : Nat) ≤ 8 from by decide) (show (3 : Nat) ≤ 4 from by decide) (x_rcv (by decide) h50) (xs_107 (back := true) hM hT hCK hc) (fun r' X' hq => ?_) (fun x X' hq => ?_)
  · obtain ⟨f', ⟨hz, e1, e2⟩ | ⟨hz, e1, e2⟩, hT', hfr⟩ := hq
    · cases e1
      subst e2
      show xz v0 xs u _ 126 6 _ [_] f'
      exact x_ireturn rfl (Or.inl rfl) ⟨f', Or.inl ⟨hz, rfl, rfl⟩, hT', hfr⟩
    · cases e1
  · obtain ⟨f', ⟨hz, e1, e2⟩ | ⟨hz, e1, e2⟩, hT', hfr⟩ := hq
    · cases e1
    · cases e1
      exact ⟨rfl, f', Or.inr ⟨hz, rfl, e2⟩, hT', hfr⟩
