/-! The class's other methods of dancing. -/
theorem xs_129 {v0 : Value} {xs : List Int32} {u : Nat × Nat} {f : Nat → zE} {K : List (Int × Int)} {G : Nat → List xBt} {S : sS} (hT : sCT f K G S) : xz v0 xs u (sCQ f u K G exD (0, S.2.2, S)) 129 0 [(0, .ref 50)] [] f := by
  obtain ⟨⟨lf, h50⟩, -⟩ := id hT
  refine x_aload_n rfl rfl ?_
  refine x_getfield rfl (by decide) h50 rfl ?_
  exact x_ireturn rfl (Or.inl rfl) ⟨f, Or.inl ⟨rfl, rfl, rfl⟩, hT, fun _ _ _ _ _ => rfl⟩
theorem xs_131 {v0 : Value} {xs : List Int32} {u : Nat × Nat} {f : Nat → zE} {K : List (Int × Int)} {G : Nat → List xBt} {S : sS} (hM : yM yT2 (xh f)) (hT : sCT f K G S) (hG : ∀ i, i < S.2.1.length → (G (S.2.1.getD i sH0).1).length ≤ 16) : xz v0 xs u (sCQ f u K G exU (sUN G S)) 131 0 [(0, .ref 50)] [] f := by
  obtain ⟨⟨lf, h50⟩, ⟨pl, h175, hpl, hrl⟩, h24, hJ⟩ := id hT
  refine x_aload_n rfl rfl ?_
  refine x_getfield rfl (by decide) h50 rfl ?_
  refine x_ifne (t := 17) rfl rfl ⟨by omega, by omega⟩ (fun hd => ?_) (fun hd => ?_)
  rotate_left
  · refine x_throw rfl (by decide) rfl (show (0 : Nat) ≤ 4 from by decide) ?_
    have eR : sUN G S = (1, 0, S) := by unfold sUN; rw [if_pos (by omega)]
    rw [eR]
    exact ⟨f, Or.inr ⟨(show (1 : Int) ≠ 0 from by decide), rfl, rfl⟩, hT, fun _ _ _ _ _ => rfl⟩
  obtain ⟨m, hm⟩ : ∃ m : Nat, S.2.1.length = m + 1 := ⟨S.2.1.length - 1, by omega⟩
  have eR : sUN G S = (0, (((G (S.2.1.getD m sH0).1).length : Nat) : Int), ((S.2.1.getD m sH0).2.2, S.2.1.take m, S.2.2)) := by
    unfold sUN
    rw [if_neg (by omega), hm, Nat.add_sub_cancel]
  have hlm : (S.2.1.take m).length = m := by rw [List.length_take]; omega
  obtain ⟨j1, l, j2, j3⟩ := hJ m (by omega)
  have hgl := hG m (by omega)
  rw [eR]
  refine x_aload_n rfl rfl ?_
  refine x_dup rfl ?_
  refine x_getfield rfl (by decide) h50 rfl ?_
  refine x_iconst rfl ?_
  refine x_isub rfl ?_
  rw [show ((S.2.1.length : Nat) : Int) - 1 = (m : Nat) from by omega]
  refine x_putfield rfl (by decide) h50 (show (10 : Nat) < 13 from by decide) rfl ?_
  generalize hf3 : xu f 50 _ = f3
  have k50 : f3 50 = xfc (xi (m : Nat)) lf (xi S.2.2) := by rw [← hf3]; exact xu_eq
  have hfa : ∀ q, q ≠ 50 → f3 q = f q := fun q b => by rw [← hf3]; exact xu_ne b rfl
  have k122 : f3 122 = .inr (.inr (.inr (9, xjl))) := (hfa 122 (by decide)).trans (s122 hM)
  have k1 := (hfa (123 + 2 * m) (by omega)).trans j1
  have k2 := (hfa (123 + 2 * m + 1) (by omega)).trans j2
  have k175 := (hfa 175 (by decide)).trans h175
  refine x_aload_n rfl rfl ?_
  refine x_getfield rfl (by decide) k50 rfl ?_
  refine x_aload_n rfl rfl ?_
  refine x_getfield rfl (by decide) k50 rfl ?_
  refine x_aaload rfl (by decide) k122 ⟨by omega, by rw [show xjl.length = 24 from rfl]; omega⟩ (by decide) (o := 123 + 2 * m) (by rw [Int.toNat_natCast]; exact xjl_at _ (by omega)) ?_
  refine x_astore_n rfl (show (1 : Nat) < 2 from by decide) ?_
  refine x_aload_n rfl xst_eq ?_
  refine x_iconst rfl ?_
  refine x_aload_n rfl (xst_ne (by decide) rfl (Or.inl rfl)) ?_
  refine x_getfield rfl (by decide) k50 rfl ?_
  refine x_iconst rfl ?_
  refine x_call [_, _, _, _] rfl rfl (show (0 : Nat) ≤ 8 from by decide) (show (4 : Nat) ≤ 4 from by decide) (x_rcv (by omega) k1) (xs_106 (t := 123 + 2 * m) (p := 175) ⟨by omega, by omega⟩ k1 k2 j3.1 (by decide) (by decide) (by omega) k175 (by omega) ⟨by omega, by omega⟩) (fun r' f4 hP => ?_)
  obtain ⟨rfl, ⟨l3, w1, w2, w3⟩, w4⟩ := hP
  refine x_aload_n rfl xst_eq ?_
  refine x_getfield rfl (by omega) ((w4 _ (by omega)).trans k1) rfl ?_
  refine x_ireturn rfl (Or.inl rfl) ⟨f4, Or.inl ⟨rfl, rfl, rfl⟩, ⟨⟨lf, ?_⟩, ⟨l3, w1, w2.trans hpl, ?_⟩, ?_, fun j hj => ?_⟩, fun q b1 b2 b3 b4 => (w4 q (by omega)).trans (hfa q b1)⟩
  · rw [(w4 50 (by decide)).trans k50]
    dsimp only
    rw [hlm]
  · refine sRL_copy (k := 0) (j3.2 0 (Nat.zero_le _)) (w2.trans hpl) fun j => ?_
    rw [w3 j]
    split
    · rfl
    · rename_i hj
      rw [List.getD_eq_getElem?_getD, List.getElem?_eq_none (by omega)]
      rfl
  · dsimp only
    rw [hlm]
    omega
  · dsimp only at hj ⊢
    rw [hlm] at hj
    have e5 : (S.2.1.take m).getD j sH0 = S.2.1.getD j sH0 := by rw [List.getD_eq_getElem?_getD, List.getElem?_take, if_pos hj, ← List.getD_eq_getElem?_getD]
    rw [e5]
    obtain ⟨a1, la, a2, a3⟩ := hJ j (by omega)
    exact ⟨(w4 _ (by omega)).trans ((hfa _ (by omega)).trans a1), la, (w4 _ (by omega)).trans ((hfa _ (by omega)).trans a2), a3⟩
/-! Home. -/
def shomeT (t : Int) (d : Nat) : Int := 4 * (shome d / 4) + (shome d % 4 + t) % 4
theorem shomeT_0 (d : Nat) : shomeT 0 d = shome d := by
  unfold shomeT
  omega
theorem shomeT_ok {t : Int} (d : Nat) (ht : 0 ≤ t ∧ t ≤ 3) : sok (shomeT t d) := by
  have h := shome_ok d
  unfold sok at h ⊢
  unfold shomeT
  omega
theorem zg1_at : ∀ d : Nat, d < 8 → zg1.getD d 0 = Int32.ofInt (shome d / 4) := by decide
theorem zg2_at : ∀ d : Nat, d < 8 → zg2.getD d 0 = Int32.ofInt (shome d % 4) := by decide
theorem zg1_len : zg1.length = 8 := rfl
theorem zg2_len : zg2.length = 8 := rfl
theorem xs_11 {v0 : Value} {xs : List Int32} {u : Nat × Nat} {f0 : Nat → zE} {p : Nat} {t : Int} {l : List Int} (hp : 50 ≤ p ∧ p < 204) (ht : 0 ≤ t ∧ t ≤ 3) (h : f0 p = xr 0 l) (hl : l.length = 8) : xq v0 xs u 11 [(0, .ref p), (1, xi t)] f0 (fun r' f' => r' = none ∧ (∃ l' : List Int, f' p = xr 0 l' ∧ l'.length = 8 ∧ sRL l' 0 (shomeT t)) ∧ ∀ q, q ≠ p → f' q = f0 q) := by
  unfold xq
  have lp : ∀ (j d : Nat) (lv : zL) (f : Nat → zE), j + d = 8 → zlv lv 0 = some (.ref p) → zlv lv 1 = some (xi t) → zlv lv 2 = some (xi (d : Nat)) → (∃ l' : List Int, f p = xr 0 l' ∧ l'.length = 8 ∧ ∀ e, e < d → l'.getD e 0 = shomeT t e) → (∀ q, q ≠ p → f q = f0 q) → xz v0 xs u (fun o X => ∃ r' f', o = .inl r' ∧ X = (xh f', u) ∧ (fun r' f' => r' = none ∧ (∃ l' : List Int, f' p = xr 0 l' ∧ l'.length = 8 ∧ sRL l' 0 (shomeT t)) ∧ ∀ q, q ≠ p → f' q = f0 q) r' f') 11 2 lv [] f := by
    intro j
    induction j with
    | zero =>
      intro d lv f hj l0 l1 l2 hA hfr
      have e : d = 8 := by omega
      subst e
      refine x_iload_n rfl l2 ?_
      refine x_bipush rfl (by decide) ?_
      refine x_cge (t := 34) rfl rfl (by decide) (by decide) (fun _ => ?_) (fun h => absurd h (by decide))
      obtain ⟨la, a1, a2, a3⟩ := hA
      refine x_return rfl ⟨_, _, rfl, rfl, rfl, ⟨la, a1, a2, by omega, by omega, fun d hd => ⟨?_, shomeT_ok d ht⟩⟩, hfr⟩
      rw [show ((0 : Int) + (d : Nat)).toNat = d by omega]
      exact a3 d hd
    | succ j ih =>
      intro d lv f hj l0 l1 l2 hA hfr
      have hd : d < 8 := by omega
      obtain ⟨la, a1, a2, a3⟩ := hA
      have hs := shome_ok d
      unfold sok at hs
      refine x_iload_n rfl l2 ?_
      refine x_bipush rfl (by decide) ?_
      refine x_cge (t := 34) rfl rfl ⟨by omega, by omega⟩ (by decide) (fun h => by omega) (fun _ => ?_)
      refine x_aload_n rfl l0 ?_
      refine x_iload_n rfl l2 ?_
      refine x_iconst rfl ?_
      refine x_gets rfl ?_
      refine x_iload_n rfl l2 ?_
      refine x_gar (ys := zg1) rfl rfl ⟨by omega, by rw [zg1_len]; omega⟩ (by decide) ?_
      rw [Int.toNat_natCast, zg1_at d hd]
      refine x_imul rfl ?_
      refine x_gets rfl ?_
      refine x_iload_n rfl l2 ?_
      refine x_gar (ys := zg2) rfl rfl ⟨by omega, by rw [zg2_len]; omega⟩ (by decide) ?_
      rw [Int.toNat_natCast, zg2_at d hd]
      refine x_iload_n rfl l1 ?_
      refine x_iadd rfl ?_
      refine x_iconst rfl ?_
      refine x_irem rfl ⟨by omega, by omega⟩ (by decide) ?_
      refine x_iadd rfl ?_
      refine x_iastore rfl hp a1 ⟨by omega, by omega⟩ (by omega) ?_
      refine x_iinc rfl l2 (show (2 : Nat) < 3 from by decide) ?_
      refine x_goto (t := 2) rfl rfl ?_
      rw [Int.toNat_natCast]
      refine ih (d + 1) _ _ (by omega) (xst_ne (by decide) l0 (Or.inl rfl)) (xst_ne (by decide) l1 (Or.inl rfl)) xst_eq ⟨_, xu_eq, by rw [List.length_set]; exact a2, fun e he => ?_⟩ (fun q hq => xu_ne hq (hfr q hq))
      rw [x_gset]
      by_cases e9 : d = e
      · rw [if_pos ⟨e9, by omega⟩, ← e9]
        rfl
      · rw [if_neg (fun h => e9 h.1)]
        exact a3 e (by omega)
  refine x_iconst rfl ?_
  refine x_istore_n rfl (show (2 : Nat) < 3 from by decide) ?_
  exact lp 8 0 _ f0 rfl (xst_ne (by decide) rfl (Or.inl rfl)) (xst_ne (by decide) rfl (Or.inl rfl)) xst_eq ⟨l, h, hl, fun e he => absurd he (Nat.not_lt_zero e)⟩ (fun _ _ => rfl)
theorem sRL_eq {l : List Int} {o : Int} {r r' : Nat → Int} (h : sRL l o r) (e : ∀ d, d < 8 → r d = r' d) : sRL l o r' := ⟨h.1, h.2.1, fun d hd => by rw [← e d hd]; exact h.2.2 d hd⟩
theorem xs_135 {v0 : Value} {xs : List Int32} {u : Nat × Nat} {f : Nat → zE} {K : List (Int × Int)} {G : Nat → List xBt} {S : sS} (hT : sCT f K G S) : xz v0 xs u (sCQ f u K G exD (0, (S.2.1.length : Nat), (shome, [], S.2.2))) 135 0 [(0, .ref 50)] [] f := by
  obtain ⟨⟨lf, h50⟩, ⟨pl, h175, hpl, hrl⟩, h24, hJ⟩ := id hT
  refine x_aload_n rfl rfl ?_
  refine x_getfield rfl (by decide) h50 rfl ?_
  refine x_istore_n rfl (show (1 : Nat) < 2 from by decide) ?_
  refine x_aload_n rfl (xst_ne (by decide) rfl (Or.inl rfl)) ?_
  refine x_iconst rfl ?_
  refine x_putfield rfl (by decide) h50 (show (10 : Nat) < 13 from by decide) rfl ?_
  refine x_aload_n rfl (xst_ne (by decide) rfl (Or.inl rfl)) ?_
  refine x_getfield rfl (by decide) xu_eq rfl ?_
  refine x_iconst rfl ?_
  refine x_call [_, _] rfl rfl (show (0 : Nat) ≤ 8 from by decide) (show (2 : Nat) ≤ 3 from by decide) rfl (xs_11 (p := 175) (by decide) (by decide) (xu_ne (by decide) h175) hpl) (fun r' f4 hP => ?_)
  obtain ⟨rfl, ⟨l3, w1, w2, w3⟩, w4⟩ := hP
  refine x_iload_n rfl xst_eq ?_
  exact x_ireturn rfl (Or.inl rfl) ⟨f4, Or.inl ⟨rfl, rfl, rfl⟩, ⟨⟨lf, (w4 50 (by decide)).trans xu_eq⟩, ⟨l3, w1, w2, sRL_eq w3 fun d _ => shomeT_0 d⟩, Nat.zero_le _, fun j hj => absurd hj (Nat.not_lt_zero j)⟩, fun q b1 b2 b3 b4 => (w4 q (by omega)).trans (xu_ne b1 rfl)⟩
/-! Where, stood, select. -/
theorem xs_137 {v0 : Value} {xs : List Int32} {u : Nat × Nat} {Q : zO → zX → Prop} {f : Nat → zE} {z : Int} (hz : -2147483648 ≤ z ∧ z ≤ 2147483647) (k1 : 0 ≤ z → z < 8 → Q (.inl none) (xh f, u)) (k2 : ¬ (0 ≤ z ∧ z < 8) → Q (.inr 100) (xh f, u.1 + 1, u.2 + 6)) : xz v0 xs u Q 137 0 [(0, xi z)] [] f := by
  refine x_iload_n rfl rfl ?_
  refine x_iflt (t := 10) rfl rfl hz (fun h => ?_) (fun h => ?_)
  · exact x_throw rfl (by decide) rfl (show (0 : Nat) ≤ 4 from by decide) (k2 (by omega))
  · refine x_iload_n rfl rfl ?_
    refine x_bipush rfl (by decide) ?_
    refine x_clt (t := 20) rfl rfl hz (by decide) (fun h2 => ?_) (fun h2 => ?_)
    · exact x_return rfl (k1 h h2)
    · exact x_throw rfl (by decide) rfl (show (0 : Nat) ≤ 4 from by decide) (k2 (by omega))
def sQ137 (f : Nat → zE) (u : Nat × Nat) (z : Int) (o : zO) (X : zX) : Prop := (o = .inl none ∧ X = (xh f, u) ∧ 0 ≤ z ∧ z < 8) ∨ (o = .inr 100 ∧ X = (xh f, u.1 + 1, u.2 + 6) ∧ ¬ (0 ≤ z ∧ z < 8))
theorem xs_137q {v0 : Value} {xs : List Int32} {u : Nat × Nat} {f : Nat → zE} {z : Int} (hz : -2147483648 ≤ z ∧ z ≤ 2147483647) : xz v0 xs u (sQ137 f u z) 137 0 [(0, xi z)] [] f := xs_137 hz (fun h1 h2 => Or.inl ⟨rfl, rfl, h1, h2⟩) (fun h => Or.inr ⟨rfl, rfl, h⟩)
theorem xs_138 {v0 : Value} {xs : List Int32} {u : Nat × Nat} {f : Nat → zE} {K : List (Int × Int)} {G : Nat → List xBt} {S : sS} {d w : Int} (hT : sCT f K G S) (hd : -2147483648 ≤ d ∧ d ≤ 2147483647) (hw : -2147483648 ≤ w ∧ w ≤ 2147483647) : xz v0 xs u (sCQ f u K G exW (sWH S d w)) 138 0 [(0, .ref 50), (1, xi d), (2, xi w)] [] f := by
  obtain ⟨⟨lf, h50⟩, ⟨pl, h175, hpl, hrl⟩, h24, hJ⟩ := id hT
  refine x_iload_n rfl rfl ?_
  refine x_callU [_] rfl rfl (show (0 : Nat) ≤ 8 from by decide) (show (1 : Nat) ≤ 1 from by decide) rfl (xs_137q (z := d) hd) (fun r' X' hq => ?_) (fun x X' hq => ?_)
  rotate_left
  · rcases hq with ⟨e1, -⟩ | ⟨e1, e2, h⟩
    · cases e1
    · cases e1
      subst e2
      have eR : sWH S d w = (1, 0, S) := by unfold sWH; rw [if_neg (fun hh => h hh.1)]
      rw [eR]
      exact ⟨rfl, f, Or.inr ⟨(show (1 : Int) ≠ 0 from by decide), rfl, rfl⟩, hT, fun _ _ _ _ _ => rfl⟩
  rcases hq with ⟨e1, e2, h1, h2⟩ | ⟨e1, -⟩
  rotate_left
  · cases e1
  cases e1
  subst e2
  show xz v0 xs u _ 138 4 _ [] f
  obtain ⟨e, rfl⟩ : ∃ e : Nat, d = (e : Nat) := ⟨d.toNat, by omega⟩
  obtain ⟨a1, a2⟩ := hrl.2.2 e (by omega)
  rw [show ((0 : Int) + (e : Nat)).toNat = e by omega] at a1
  have a3 : 0 ≤ S.1 e ∧ S.1 e < 400 := a2
  have D : ∀ {y : Int}, (0 ≤ w ∧ w ≤ 2) → y = (if w = 0 then sX (S.1 e) else if w = 1 then sY (S.1 e) else sF (S.1 e)) → sCQ f u K G exW (sWH S (e : Nat) w) (.inl (some (xi y))) (xh f, u) := by
    intro y hw2 hy
    have eR : sWH S (e : Nat) w = (0, y, S) := by unfold sWH; rw [if_pos ⟨⟨h1, h2⟩, hw2⟩, hy, Int.toNat_natCast]
    rw [eR]
    exact ⟨f, Or.inl ⟨rfl, rfl, rfl⟩, hT, fun _ _ _ _ _ => rfl⟩
  refine x_aload_n rfl rfl ?_
  refine x_getfield rfl (by decide) h50 rfl ?_
  refine x_iload_n rfl rfl ?_
  refine x_iaload rfl (by decide) h175 ⟨by omega, by omega⟩ (by omega) ?_
  rw [Int.toNat_natCast, a1]
  refine x_istore_n rfl (show (3 : Nat) < 4 from by decide) ?_
  refine x_iload_n rfl (xst_ne (by decide) rfl (Or.inl rfl)) ?_
  by_cases hw2 : 0 ≤ w ∧ w ≤ 2
  rotate_left
  · refine x_sw (t := 58) rfl hw (if_pos (by omega)) rfl ?_
    refine x_throw rfl (by decide) rfl (show (0 : Nat) ≤ 4 from by decide) ?_
    have eR : sWH S (e : Nat) w = (1, 0, S) := by unfold sWH; rw [if_neg (fun hh => hw2 hh.2)]
    rw [eR]
    exact ⟨f, Or.inr ⟨(show (1 : Int) ≠ 0 from by decide), rfl, rfl⟩, hT, fun _ _ _ _ _ => rfl⟩
  rcases (show w = 0 ∨ w = 1 ∨ w = 2 by omega) with rfl | rfl | rfl
  · refine x_sw (t := 40) rfl (by decide) (e := 28) (by decide) rfl ?_
    refine x_iload_n rfl xst_eq ?_
    refine x_iconst rfl ?_
    refine x_idiv rfl ⟨by omega, by omega⟩ (by decide) ?_
    refine x_bipush rfl (by decide) ?_
    refine x_irem rfl ⟨by omega, by omega⟩ (by decide) ?_
    exact x_ireturn rfl (Or.inl rfl) (D hw2 rfl)
  · refine x_sw (t := 47) rfl (by decide) (e := 35) (by decide) rfl ?_
    refine x_iload_n rfl xst_eq ?_
    refine x_iconst rfl ?_
    refine x_idiv rfl ⟨by omega, by omega⟩ (by decide) ?_
    refine x_bipush rfl (by decide) ?_
    refine x_idiv rfl ⟨by omega, by omega⟩ (by decide) ?_
    exact x_ireturn rfl (Or.inl rfl) (D hw2 (by rw [if_neg (by decide), if_pos rfl]; unfold sY; omega))
  · refine x_sw (t := 54) rfl (by decide) (e := 42) (by decide) rfl ?_
    refine x_iload_n rfl xst_eq ?_
    refine x_iconst rfl ?_
    refine x_irem rfl ⟨by omega, by omega⟩ (by decide) ?_
    exact x_ireturn rfl (Or.inl rfl) (D hw2 (by rw [if_neg (by decide), if_neg (by decide)]; rfl))
theorem xs_142 {v0 : Value} {xs : List Int32} {u : Nat × Nat} {f : Nat → zE} {t : Nat} {w : Value} {l : List Int} {b : Int} {d : Nat} (ht : 50 ≤ t ∧ t < 203) (h1 : f t = .inl (9, [.ref (t + 1), w])) (h2 : f (t + 1) = xr 0 l) (hl : l.length = 136) (hb : 0 ≤ b ∧ b ≤ 16) (hd : d < 8) : xq v0 xs u 142 [(0, .ref t), (1, xi b), (2, xi (d : Nat))] f (fun r' f' => r' = some (xi (l.getD (b * 8 + (d : Nat)).toNat 0)) ∧ f' = f) := by
  unfold xq
  refine x_aload_n rfl rfl ?_
  refine x_getfield rfl ⟨by omega, by omega⟩ h1 rfl ?_
  refine x_iload_n rfl rfl ?_
  refine x_bipush rfl (by decide) ?_
  refine x_imul rfl ?_
  refine x_iload_n rfl rfl ?_
  refine x_iadd rfl ?_
  refine x_iaload rfl ⟨by omega, by omega⟩ h2 ⟨by omega, by omega⟩ (by omega) ?_
  exact x_ireturn rfl (Or.inl rfl) ⟨_, _, rfl, rfl, rfl, rfl⟩
theorem xs_143 {v0 : Value} {xs : List Int32} {u : Nat × Nat} {f : Nat → zE} {K : List (Int × Int)} {G : Nat → List xBt} {S : sS} {b d : Int} (hM : yM yT2 (xh f)) (hT : sCT f K G S) (hG : ∀ i, i < S.2.1.length → (G (S.2.1.getD i sH0).1).length ≤ 16) (hb : -2147483648 ≤ b ∧ b ≤ 2147483647) (hd : -2147483648 ≤ d ∧ d ≤ 2147483647) : xz v0 xs u (sCQ f u K G exS (sSD K G S b d)) 143 0 [(0, .ref 50), (1, xi b), (2, xi d)] [] f := by
  obtain ⟨⟨lf, h50⟩, ⟨pl, h175, hpl, hrl⟩, h24, hJ⟩ := id hT
  refine x_iload_n rfl rfl ?_
  refine x_callU [_] rfl rfl (show (0 : Nat) ≤ 8 from by decide) (show (1 : Nat) ≤ 1 from by decide) rfl (xs_137q (z := d) hd) (fun r' X' hq => ?_) (fun x X' hq => ?_)
  rotate_left
  · rcases hq with ⟨e1, -⟩ | ⟨e1, e2, h⟩
    · cases e1
    · cases e1
      subst e2
      have eR : sSD K G S b d = (1, 0, S) := by unfold sSD; rw [if_neg h]
      rw [eR]
      exact ⟨rfl, f, Or.inr ⟨(show (1 : Int) ≠ 0 from by decide), rfl, rfl⟩, hT, fun _ _ _ _ _ => rfl⟩
  rcases hq with ⟨e1, e2, h1, h2⟩ | ⟨e1, -⟩
  rotate_left
  · cases e1
  cases e1
  subst e2
  show xz v0 xs u _ 143 4 _ [] f
  obtain ⟨e, rfl⟩ : ∃ e : Nat, d = (e : Nat) := ⟨d.toNat, by omega⟩
  have bad : (S.2.1.length = 0 ∨ b < 0 ∨ ((G (S.2.1.getD (S.2.1.length - 1) sH0).1).length : Nat) < b) → sCQ f u K G exS (sSD K G S b (e : Nat)) (.inr 102) (xh f, u.1 + 1, u.2 + 6) := by
    intro hbad
    have eR : sSD K G S b (e : Nat) = (2, 0, S) := by unfold sSD; rw [if_pos ⟨h1, h2⟩, if_pos hbad]
    rw [eR]
    exact ⟨f, Or.inr ⟨(show (2 : Int) ≠ 0 from by decide), rfl, rfl⟩, hT, fun _ _ _ _ _ => rfl⟩
  refine x_aload_n rfl rfl ?_
  refine x_getfield rfl (by decide) h50 rfl ?_
  refine x_ifne (t := 21) rfl rfl ⟨by omega, by omega⟩ (fun hn0 => ?_) (fun hn0 => ?_)
  rotate_left
  · exact x_throw rfl (by decide) rfl (show (0 : Nat) ≤ 4 from by decide) (bad (Or.inl (by omega)))
  obtain ⟨m, hm⟩ : ∃ m : Nat, S.2.1.length = m + 1 := ⟨S.2.1.length - 1, by omega⟩
  have hm1 : S.2.1.length - 1 = m := by omega
  rw [hm1] at bad
  obtain ⟨j1, l, j2, j3⟩ := hJ m (by omega)
  have hgl := hG m (by omega)
  refine x_aload_n rfl rfl ?_
  refine x_getfield rfl (by decide) h50 rfl ?_
  refine x_aload_n rfl rfl ?_
  refine x_getfield rfl (by decide) h50 rfl ?_
  refine x_iconst rfl ?_
  refine x_isub rfl ?_
  rw [show ((S.2.1.length : Nat) : Int) - 1 = (m : Nat) from by omega]
  refine x_aaload rfl (by decide) (s122 hM) ⟨by omega, by rw [show xjl.length = 24 from rfl]; omega⟩ (by decide) (o := 123 + 2 * m) (by rw [Int.toNat_natCast]; exact xjl_at _ (by omega)) ?_
  refine x_astore_n rfl (show (3 : Nat) < 4 from by decide) ?_
  refine x_iload_n rfl (xst_ne (by decide) rfl (Or.inl rfl)) ?_
  refine x_iflt (t := 45) rfl rfl hb (fun hb0 => ?_) (fun hb0 => ?_)
  · exact x_throw rfl (by decide) rfl (show (0 : Nat) ≤ 4 from by decide) (bad (Or.inr (Or.inl hb0)))
  refine x_iload_n rfl (xst_ne (by decide) rfl (Or.inl rfl)) ?_
  refine x_aload_n rfl xst_eq ?_
  refine x_getfield rfl (by omega) j1 rfl ?_
  refine x_cle (t := 55) rfl rfl hb ⟨by omega, by omega⟩ (fun hb1 => ?_) (fun hb1 => ?_)
  rotate_left
  · exact x_throw rfl (by decide) rfl (show (0 : Nat) ≤ 4 from by decide) (bad (Or.inr (Or.inr hb1)))
  obtain ⟨k, rfl⟩ : ∃ k : Nat, b = (k : Nat) := ⟨b.toNat, by omega⟩
  obtain ⟨a1, a2⟩ := (j3.2 k (by omega)).2.2 e (by omega)
  have a3 : 0 ≤ srow (sbt K (G (S.2.1.getD m sH0).1)) (S.2.1.getD m sH0).2.1 (S.2.1.getD m sH0).2.2 k e ∧ srow (sbt K (G (S.2.1.getD m sH0).1)) (S.2.1.getD m sH0).2.1 (S.2.1.getD m sH0).2.2 k e < 400 := a2
  refine x_aload_n rfl xst_eq ?_
  refine x_iload_n rfl (xst_ne (by decide) rfl (Or.inl rfl)) ?_
  refine x_iload_n rfl (xst_ne (by decide) rfl (Or.inl rfl)) ?_
  refine x_call [_, _, _] rfl rfl (show (0 : Nat) ≤ 8 from by decide) (show (3 : Nat) ≤ 3 from by decide) (x_rcv (by omega) j1) (xs_142 (t := 123 + 2 * m) ⟨by omega, by omega⟩ j1 j2 j3.1 ⟨by omega, by omega⟩ (by omega)) (fun r' f' hP => ?_)
  obtain ⟨rfl, hPe⟩ := hP
  subst f'
  rw [a1]
  refine x_iconst rfl ?_
  refine x_idiv rfl ⟨by omega, by omega⟩ (by decide) ?_
  have eR : sSD K G S (k : Nat) (e : Nat) = (0, srow (sbt K (G (S.2.1.getD m sH0).1)) (S.2.1.getD m sH0).2.1 (S.2.1.getD m sH0).2.2 k e / 4, S) := by
    unfold sSD
    rw [if_pos ⟨h1, h2⟩, hm1, if_neg (by omega), Int.toNat_natCast, Int.toNat_natCast]
  rw [eR]
  exact x_ireturn rfl (Or.inl rfl) ⟨f, Or.inl ⟨rfl, rfl, rfl⟩, hT, fun _ _ _ _ _ => rfl⟩
theorem xs_146 {v0 : Value} {xs : List Int32} {u : Nat × Nat} {f : Nat → zE} {K : List (Int × Int)} {G : Nat → List xBt} {S : sS} {s d : Int} (hM : yM yT2 (xh f)) (hT : sCT f K G S) (hs : -2147483648 ≤ s ∧ s ≤ 2147483647) (hd : -2147483648 ≤ d ∧ d ≤ 2147483647) : xz v0 xs u (sCQ f u K G exW (sSL S s d)) 146 0 [(0, .ref 50), (1, xi s), (2, xi d)] [] f := by
  obtain ⟨⟨lf, h50⟩, ⟨pl, h175, hpl, hrl⟩, h24, hJ⟩ := id hT
  have bad : ¬ ((0 ≤ s ∧ s ≤ 12) ∧ 0 ≤ d ∧ d < 8) → sCQ f u K G exW (sSL S s d) (.inr 100) (xh f, u.1 + 1, u.2 + 6) := by
    intro hbad
    have eR : sSL S s d = (1, 0, S) := by unfold sSL; rw [if_neg hbad]
    rw [eR]
    exact ⟨f, Or.inr ⟨(show (1 : Int) ≠ 0 from by decide), rfl, rfl⟩, hT, fun _ _ _ _ _ => rfl⟩
  refine x_iload_n rfl rfl ?_
  refine x_iflt (t := 10) rfl rfl hs (fun hs0 => ?_) (fun hs0 => ?_)
  · exact x_throw rfl (by decide) rfl (show (0 : Nat) ≤ 4 from by decide) (bad (by omega))
  refine x_iload_n rfl rfl ?_
  refine x_bipush rfl (by decide) ?_
  refine x_clt (t := 20) rfl rfl hs (by decide) (fun hs1 => ?_) (fun hs1 => ?_)
  rotate_left
  · exact x_throw rfl (by decide) rfl (show (0 : Nat) ≤ 4 from by decide) (bad (by omega))
  refine x_iload_n rfl rfl ?_
  refine x_callU [_] rfl rfl (show (0 : Nat) ≤ 8 from by decide) (show (1 : Nat) ≤ 1 from by decide) rfl (xs_137q (z := d) hd) (fun r' X' hq => ?_) (fun x X' hq => ?_)
  rotate_left
  · rcases hq with ⟨e1, -⟩ | ⟨e1, e2, h⟩
    · cases e1
    · cases e1
      subst e2
      have eR : sSL S s d = (1, 0, S) := by unfold sSL; rw [if_neg (fun hh => h hh.2)]
      rw [eR]
      exact ⟨rfl, f, Or.inr ⟨(show (1 : Int) ≠ 0 from by decide), rfl, rfl⟩, hT, fun _ _ _ _ _ => rfl⟩
  rcases hq with ⟨e1, e2, h1, h2⟩ | ⟨e1, -⟩
  rotate_left
  · cases e1
  cases e1
  subst e2
  show xz v0 xs u _ 146 24 _ [] f
  obtain ⟨e, rfl⟩ : ∃ e : Nat, d = (e : Nat) := ⟨d.toNat, by omega⟩
  obtain ⟨n113, n114, ⟨dl, n115, n1⟩, -⟩ := sDN_M hM
  refine x_aload_n rfl rfl ?_
  refine x_getfield rfl (by decide) h50 rfl ?_
  refine x_getfield rfl (by decide) n113 rfl ?_
  refine x_iload_n rfl rfl ?_
  refine x_aload_n rfl rfl ?_
  refine x_getfield rfl (by decide) h50 rfl ?_
  refine x_iconst rfl ?_
  refine x_call [_, _, _, _] rfl rfl (show (0 : Nat) ≤ 8 from by decide) (show (4 : Nat) ≤ 4 from by decide) (x_rcv (by decide) n114) (xs_97 (p := 175) (fr := 0) (by decide) n114 n115 n1 ⟨by omega, by omega⟩ (sRL_RW (by decide) h175 (by omega) hrl)) (fun r' f1 hP => ?_)
  obtain ⟨rfl, -, hfr⟩ := hP
  refine x_iload_n rfl rfl ?_
  refine x_ishr rfl ?_
  refine x_iconst rfl ?_
  refine x_iandg2 rfl (sm_bit (shas s S.1) (by omega)) ?_
  refine x_iconst rfl ?_
  have fin : ∀ {y : Int}, y = (if shas s S.1 e = true then 1 else 0) → sCQ f u K G exW (sSL S s (e : Nat)) (.inl (some (xi y))) (xh f1, u) := by
    intro y hy
    have eR : sSL S s (e : Nat) = (0, y, S) := by unfold sSL; rw [if_pos ⟨⟨by omega, by omega⟩, h1, h2⟩, Int.toNat_natCast, hy]
    rw [eR]
    exact ⟨f1, Or.inl ⟨rfl, rfl, rfl⟩, sCT_f hT (hfr 50 (by decide)) (fun q b1 b2 => hfr q (by omega)), fun q b1 b2 b3 b4 => hfr q b2⟩
  by_cases hh : shas s S.1 e = true
  · rw [if_pos hh]
    refine x_cne (t := 52) rfl rfl (by decide) (by decide) (fun h => absurd rfl h) (fun _ => ?_)
    refine x_iconst rfl ?_
    refine x_goto (t := 53) rfl rfl ?_
    exact x_ireturn rfl (Or.inr (Or.inl ⟨rfl, by decide⟩)) (fin (by rw [if_pos hh]))
  · rw [if_neg hh]
    refine x_cne (t := 52) rfl rfl (by decide) (by decide) (fun _ => ?_) (fun h => absurd h (by decide))
    refine x_iconst rfl ?_
    exact x_ireturn rfl (Or.inr (Or.inl ⟨rfl, by decide⟩)) (fin (by rw [if_neg hh]))
