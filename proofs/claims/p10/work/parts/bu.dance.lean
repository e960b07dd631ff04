/-! The class looks for the way home. -/
theorem xs_157 {v0 : Value} {xs : List Int32} {u : Nat × Nat} {f : Nat → zE} {p : Nat} {l : List Int} {fr : Int} {r : Nat → Int} (hp : 50 ≤ p ∧ p < 204) (hf : f p = xr 0 l) (hl : l.length ≤ 5000) (hr : sRL l fr r) : xq v0 xs u 157 [(0, .ref p), (1, xi fr)] f (fun r' f' => r' = some (xi (if sall (fun d => r d == shome d) 8 = true then 1 else 0)) ∧ f' = f) := by
  unfold xq
  have lp : ∀ (w d : Nat) (lv : zL), w + d = 8 → zlv lv 0 = some (.ref p) → zlv lv 1 = some (xi fr) → zlv lv 2 = some (xi (d : Nat)) → sall (fun d => r d == shome d) d = true → xz v0 xs u (fun o X => ∃ r' f', o = .inl r' ∧ X = (xh f', u) ∧ (fun r' f' => r' = some (xi (if sall (fun d => r d == shome d) 8 = true then 1 else 0)) ∧ f' = f) r' f') 157 2 lv [] f := by
    intro w
    induction w with
    | zero =>
      intro d lv hw l0 l1 l2 hs
      have e8 : d = 8 := by omega
      subst e8
      refine x_iload_n rfl l2 ?_
      refine x_bipush rfl (by decide) ?_
      refine x_cge (t := 37) rfl rfl (by decide) (by decide) (fun _ => ?_) (fun h => absurd h (by decide))
      refine x_iconst rfl ?_
      exact x_ireturn rfl (Or.inr (Or.inl ⟨rfl, by decide⟩)) ⟨_, _, rfl, rfl, by rw [if_pos hs], rfl⟩
    | succ w ih =>
      intro d lv hw l0 l1 l2 hs
      have hd : d < 8 := by omega
      obtain ⟨a1, a2⟩ := hr.2.2 d hd
      have a3 : 0 ≤ r d ∧ r d < 400 := a2
      have b3 : 0 ≤ shome d ∧ shome d < 400 := shome_ok d
      have h0 := hr.1
      have h1 := hr.2.1
      refine x_iload_n rfl l2 ?_
      refine x_bipush rfl (by decide) ?_
      refine x_cge (t := 37) rfl rfl ⟨by omega, by omega⟩ (by decide) (fun h => by omega) (fun _ => ?_)
      refine x_aload_n rfl l0 ?_
      refine x_iload_n rfl l1 ?_
      refine x_iload_n rfl l2 ?_
      refine x_iadd rfl ?_
      refine x_iaload rfl hp hf ⟨by omega, by omega⟩ hl ?_
      rw [a1]
      refine x_iconst rfl ?_
      refine x_gets rfl ?_
      refine x_iload_n rfl l2 ?_
      refine x_gar (ys := zg1) rfl rfl ⟨by omega, by rw [zg1_len]; omega⟩ (by decide) ?_
      rw [Int.toNat_natCast, zg1_at d hd]
      refine x_imul rfl ?_
      refine x_gets rfl ?_
      refine x_iload_n rfl l2 ?_
      refine x_gar (ys := zg2) rfl rfl ⟨by omega, by rw [zg2_len]; omega⟩ (by decide) ?_
      rw [Int.toNat_natCast, zg2_at d hd]
      refine x_iadd rfl ?_
      rw [show 4 * (shome d / 4) + shome d % 4 = shome d by omega]
      have es : sall (fun d => r d == shome d) (d + 1) = (sall (fun d => r d == shome d) d && (r d == shome d)) := rfl
      refine x_ceq (t := 31) rfl rfl ⟨by omega, by omega⟩ ⟨by omega, by omega⟩ (fun he => ?_) (fun he => ?_)
      · refine x_iinc rfl l2 (show (2 : Nat) < 3 from by decide) ?_
        refine x_goto (t := 2) rfl rfl ?_
        exact ih (d + 1) _ (by omega) (xst_ne (by decide) l0 (Or.inl rfl)) (xst_ne (by decide) l1 (Or.inl rfl)) xst_eq (by rw [es, hs, beq_iff_eq.mpr he]; rfl)
      · refine x_iconst rfl ?_
        refine x_ireturn rfl (Or.inr (Or.inl ⟨rfl, by decide⟩)) ⟨_, _, rfl, rfl, ?_, rfl⟩
        have ef : sall (fun d => r d == shome d) 8 = false := sall_f (e := d + 1) (by rw [es, beq_eq_false_iff_ne.mpr he, Bool.and_false]) (by omega)
        rw [ef]
        rfl
  refine x_iconst rfl ?_
  refine x_istore_n rfl (show (2 : Nat) < 3 from by decide) ?_
  exact lp 8 0 _ rfl (xst_ne (by decide) rfl (Or.inl rfl)) (xst_ne (by decide) rfl (Or.inl rfl)) xst_eq rfl
theorem xs_158 {v0 : Value} {xs : List Int32} {u : Nat × Nat} {f : Nat → zE} {t c : Nat} {l : List Int} {r : Nat → Int} (ht : 50 ≤ t ∧ t < 203) (h1 : f t = .inl (9, [.ref (t + 1), xi (c : Nat)])) (h2 : f (t + 1) = xr 0 l) (hl : l.length = 136) (hr : sRL l ((c : Nat) * 8) r) : xq v0 xs u 158 [(0, .ref t)] f (fun r' f' => r' = some (xi (if sall (fun d => r d == shome d) 8 = true then 1 else 0)) ∧ f' = f) := by
  unfold xq
  refine x_aload_n rfl rfl ?_
  refine x_getfield rfl ⟨by omega, by omega⟩ h1 rfl ?_
  refine x_aload_n rfl rfl ?_
  refine x_getfield rfl ⟨by omega, by omega⟩ h1 rfl ?_
  refine x_bipush rfl (by decide) ?_
  refine x_imul rfl ?_
  refine x_call [_, _] rfl rfl (show (0 : Nat) ≤ 8 from by decide) (show (2 : Nat) ≤ 3 from by decide) rfl (xs_157 ⟨by omega, by omega⟩ h2 (by omega) hr) (fun r' f' hP => ?_)
  obtain ⟨rfl, hPe⟩ := hP
  subst f'
  exact x_ireturn rfl (Or.inr (Or.inl ⟨rfl, by split <;> decide⟩)) ⟨_, _, rfl, rfl, rfl, rfl⟩
def wHO (f : Nat → zE) (nd fo : Int) : Prop := f 117 = .inl (8, [.ref 53, .ref 113, .ref 118, .ref 119, .ref 120, .ref 121, xi nd, xi fo])
/-- the table of nodes -/
def wNT (f : Nat → zE) (T : List sNd) : Prop := ∃ rl pl cl : List Int, f 118 = xr 0 rl ∧ f 119 = xr 0 pl ∧ f 120 = xr 0 cl ∧ (rl.length = 1248 ∧ pl.length = 156 ∧ cl.length = 156) ∧ T.length ≤ 156 ∧ ∀ k, k < T.length → sRL rl ((k : Nat) * 8) (T.getD k wN0).2 ∧ (((T.getD k wN0).1 = [] ∧ k = 0) ∨ ∃ p c : Nat, p < k ∧ pl.getD k 0 = (p : Nat) ∧ cl.getD k 0 = (c : Nat) ∧ (T.getD k wN0).1 = (T.getD p wN0).1 ++ [c])
theorem wNT_f {f f' : Nat → zE} {T : List sNd} (h : wNT f T) (e : ∀ q, 118 ≤ q → q ≤ 120 → f' q = f q) : wNT f' T := by
  obtain ⟨rl, pl, cl, h1, h2, h3, h4⟩ := h
  exact ⟨rl, pl, cl, (e _ (by decide) (by decide)).trans h1, (e _ (by decide) (by decide)).trans h2, (e _ (by decide) (by decide)).trans h3, h4⟩
theorem xs_159 {v0 : Value} {xs : List Int32} {u : Nat × Nat} {f : Nat → zE} {T : List sNd} {nd fo : Int} {node call L : Nat} {k0 : List Int} (hH : wHO f nd fo) (hT : wNT f T) (hn : node < T.length) (hL : 1 ≤ L ∧ L ≤ 4) (hP : (T.getD node wN0).1.length + 1 = L) (h121 : f 121 = xr 0 k0) (hk0 : k0.length = 4) : xq v0 xs u 159 [(0, .ref 117), (1, xi (node : Nat)), (2, xi (call : Nat)), (3, xi (L : Nat))] f (fun r' f' => r' = none ∧ wHO f' nd (L : Nat) ∧ (∃ cl : List Int, f' 121 = xr 0 cl ∧ cl.length = 4 ∧ ∀ i, i < L → cl.getD i 0 = ((((T.getD node wN0).1 ++ [call]).getD i 0 : Nat) : Int)) ∧ ∀ q, q ≠ 117 → q ≠ 121 → f' q = f q) := by
  unfold xq
  obtain ⟨rl, pl, cl, e1, e2, e3, ⟨el1, el2, el3⟩, hT156, hTk⟩ := id hT
  generalize hPd : (T.getD node wN0).1 = P at hP ⊢
  have lp : ∀ (j at' : Nat) (lv : zL) (f1 : Nat → zE) (kl : List Int), zlv lv 0 = some (.ref 117) → zlv lv 4 = some (xi (at' : Nat)) → zlv lv 5 = some (xi ((j : Nat) - 1)) → at' < T.length → (T.getD at' wN0).1 = P.take j → j ≤ P.length → wHO f1 nd (L : Nat) → f1 121 = xr 0 kl → kl.length = 4 → (∀ i, j ≤ i → i < L → kl.getD i 0 = (((P ++ [call]).getD i 0 : Nat) : Int)) → (∀ q, q ≠ 117 → q ≠ 121 → f1 q = f q) → xz v0 xs u (fun o X => ∃ r' f', o = .inl r' ∧ X = (xh f', u) ∧ (fun r' f' => r' = none ∧ wHO f' nd (L : Nat) ∧ (∃ cl : List Int, f' 121 = xr 0 cl ∧ cl.length = 4 ∧ ∀ i, i < L → cl.getD i 0 = (((P ++ [call]).getD i 0 : Nat) : Int)) ∧ ∀ q, q ≠ 117 → q ≠ 121 → f' q = f q) r' f') 159 22 lv [] f1 := by
    intro j
    induction j with
    | zero =>
      intro at' lv f1 kl l0 l4 l5 ha hp hj hH1 g121 gl hv hfr
      refine x_iload rfl l5 ?_
      refine x_iflt (t := 56) rfl rfl (by decide) (fun _ => ?_) (fun h => absurd h (by decide))
      exact x_return rfl ⟨_, _, rfl, rfl, rfl, hH1, ⟨kl, g121, gl, fun i hi => hv i (Nat.zero_le i) hi⟩, hfr⟩
    | succ j ih =>
      intro at' lv f1 kl l0 l4 l5 ha hp hj hH1 g121 gl hv hfr
      have hlen : (P.take (j + 1)).length = j + 1 := by rw [List.length_take]; omega
      obtain ⟨-, hcase⟩ := hTk at' ha
      rcases hcase with ⟨h0, -⟩ | ⟨p, c, p1, p2, p3, p4⟩
      · rw [hp] at h0
        rw [h0] at hlen
        simp at hlen
      have hpe : (T.getD p wN0).1 = P.take j ∧ c = P.getD j 0 := by
        rw [hp, List.take_succ, List.getElem?_eq_getElem (show j < P.length by omega)] at p4
        have h5 := List.append_inj' p4 rfl
        refine ⟨h5.1.symm, ?_⟩
        have h6 : [P[j]] = [c] := h5.2
        rw [List.getD_eq_getElem?_getD, List.getElem?_eq_getElem (show j < P.length by omega)]
        exact (List.cons.inj h6).1.symm
      obtain ⟨hpe1, hpe2⟩ := hpe
      rw [show (((j + 1 : Nat) : Int) - 1) = ((j : Nat) : Int) by omega] at l5
      refine x_iload rfl l5 ?_
      refine x_iflt (t := 56) rfl rfl ⟨by omega, by omega⟩ (fun h => by omega) (fun _ => ?_)
      refine x_aload_n rfl l0 ?_
      refine x_getfield rfl (by decide) hH1 rfl ?_
      refine x_iload rfl l5 ?_
      refine x_aload_n rfl l0 ?_
      refine x_getfield rfl (by decide) hH1 rfl ?_
      refine x_iload rfl l4 ?_
      refine x_iaload rfl (by decide) ((hfr 120 (by decide) (by decide)).trans e3) ⟨by omega, by omega⟩ (by omega) ?_
      rw [Int.toNat_natCast, p3]
      refine x_iastore rfl (by decide) g121 ⟨by omega, by omega⟩ (by omega) ?_
      rw [Int.toNat_natCast]
      refine x_aload_n rfl l0 ?_
      refine x_getfield rfl (by decide) (xu_ne (by decide) hH1) rfl ?_
      refine x_iload rfl l4 ?_
      refine x_iaload rfl (by decide) (xu_ne (by decide) ((hfr 119 (by decide) (by decide)).trans e2)) ⟨by omega, by omega⟩ (by omega) ?_
      rw [Int.toNat_natCast, p2]
      refine x_istore rfl (show (4 : Nat) < 6 from by decide) ?_
      refine x_iinc rfl (xst_ne (by decide) l5 (Or.inl rfl)) (show (5 : Nat) < 6 from by decide) ?_
      refine x_goto (t := 22) rfl rfl ?_
      refine ih p _ _ _ (xst_ne (by decide) (xst_ne (by decide) l0 (Or.inl rfl)) (Or.inl rfl)) (xst_ne (by decide) xst_eq (Or.inl rfl)) xst_eq (by omega) hpe1 (by omega) (xu_ne (by decide) hH1) xu_eq (by rw [List.length_set]; exact gl) (fun i hi1 hi2 => ?_) (fun q b1 b2 => xu_ne b2 (hfr q b1 b2))
      rw [x_gset]
      by_cases hij : j = i
      · subst hij
        rw [if_pos ⟨rfl, by omega⟩, hpe2, List.getD_eq_getElem?_getD, List.getD_eq_getElem?_getD, List.getElem?_append_left (by omega)]
      · rw [if_neg (fun h => hij h.1)]
        exact hv i (by omega) hi2
  refine x_aload_n rfl rfl ?_
  refine x_iload_n rfl rfl ?_
  refine x_putfield rfl (by decide) hH (show (7 : Nat) < 8 from by decide) rfl ?_
  refine x_aload_n rfl rfl ?_
  refine x_getfield rfl (by decide) xu_eq rfl ?_
  refine x_iload_n rfl rfl ?_
  refine x_iconst rfl ?_
  refine x_isub rfl ?_
  refine x_iload_n rfl rfl ?_
  rw [show ((L : Nat) : Int) - 1 = (P.length : Nat) by omega]
  refine x_iastore rfl (by decide) (xu_ne (by decide) h121) ⟨by omega, by omega⟩ (by omega) ?_
  rw [Int.toNat_natCast]
  refine x_iload_n rfl rfl ?_
  refine x_istore rfl (show (4 : Nat) < 6 from by decide) ?_
  refine x_iload_n rfl (xst_ne (by decide) rfl (Or.inl rfl)) ?_
  refine x_iconst rfl ?_
  refine x_isub rfl ?_
  rw [show ((L : Nat) : Int) - 2 = ((P.length : Nat) : Int) - 1 by omega]
  refine x_istore rfl (show (5 : Nat) < 6 from by decide) ?_
  refine lp P.length node _ _ _ (xst_ne (by decide) (xst_ne (by decide) rfl (Or.inl rfl)) (Or.inl rfl)) (xst_ne (by decide) xst_eq (Or.inl rfl)) xst_eq hn (by rw [List.take_length]; exact hPd) (Nat.le_refl _) (xu_ne (by decide) xu_eq) xu_eq (by rw [List.length_set]; exact hk0) (fun i hi1 hi2 => ?_) (fun q b1 b2 => xu_ne b2 (xu_ne b1 rfl))
  have hie : i = P.length := by omega
  subst hie
  rw [x_gset, if_pos ⟨rfl, by omega⟩, List.getD_eq_getElem?_getD, List.getElem?_append_right (Nat.le_refl _), Nat.sub_self]
  rfl
theorem xs_160 {v0 : Value} {xs : List Int32} {u : Nat × Nat} {f : Nat → zE} {T : List sNd} {fo : Int} {p c cnt : Nat} {l : List Int} {r : Nat → Int} (hH : wHO f (T.length : Nat) fo) (hT : wNT f T) (h156 : T.length < 156) (hp : p < T.length) (h171 : f 171 = .inl (9, [.ref (171 + 1), xi (cnt : Nat)])) (h172 : f (171 + 1) = xr 0 l) (hl : l.length = 136) (hc : cnt ≤ 16) (hr : sRL l ((cnt : Nat) * 8) r) : xq v0 xs u 160 [(0, .ref 117), (1, xi (p : Nat)), (2, xi (c : Nat)), (3, .ref 171)] f (fun r' f' => r' = none ∧ wHO f' ((T.length : Nat) + 1) fo ∧ wNT f' (T ++ [((T.getD p wN0).1 ++ [c], r)]) ∧ ∀ q, ¬ (117 ≤ q ∧ q ≤ 120) → f' q = f q) := by
  unfold xq
  obtain ⟨rl, pl, cl, e1, e2, e3, ⟨el1, el2, el3⟩, hT156, hTk⟩ := id hT
  refine x_aload_n rfl rfl ?_
  refine x_getfield rfl (by decide) hH rfl ?_
  refine x_sipush rfl (by decide) ?_
  refine x_cge (t := 59) rfl rfl ⟨by omega, by omega⟩ (by decide) (fun h => by omega) (fun _ => ?_)
  refine x_aload_n rfl rfl ?_
  refine x_aload_n rfl rfl ?_
  refine x_getfield rfl (by decide) h171 rfl ?_
  refine x_aload_n rfl rfl ?_
  refine x_getfield rfl (by decide) hH rfl ?_
  refine x_aload_n rfl rfl ?_
  refine x_getfield rfl (by decide) hH rfl ?_
  refine x_bipush rfl (by decide) ?_
  refine x_imul rfl ?_
  refine x_call [_, _, _, _] rfl rfl (show (0 : Nat) ≤ 8 from by decide) (show (4 : Nat) ≤ 4 from by decide) (x_rcv (by decide) h171) (xs_106 (t := 171) (p := 118) (b := (cnt : Nat)) (o := (T.length : Nat) * 8) (by decide) h171 h172 hl ⟨by omega, by omega⟩ (by decide) (by decide) e1 (by omega) ⟨by omega, by omega⟩) (fun r' f1 hP => ?_)
  obtain ⟨rfl, ⟨rl1, w1, w2, w3⟩, w4⟩ := hP
  have g117 : f1 117 = _ := (w4 117 (by decide)).trans hH
  refine x_aload_n rfl rfl ?_
  refine x_getfield rfl (by decide) g117 rfl ?_
  refine x_aload_n rfl rfl ?_
  refine x_getfield rfl (by decide) g117 rfl ?_
  refine x_iload_n rfl rfl ?_
  refine x_iastore rfl (by decide) ((w4 119 (by decide)).trans e2) ⟨by omega, by omega⟩ (by omega) ?_
  rw [Int.toNat_natCast]
  refine x_aload_n rfl rfl ?_
  refine x_getfield rfl (by decide) (xu_ne (by decide) g117) rfl ?_
  refine x_aload_n rfl rfl ?_
  refine x_getfield rfl (by decide) (xu_ne (by decide) g117) rfl ?_
  refine x_iload_n rfl rfl ?_
  refine x_iastore rfl (by decide) (xu_ne (by decide) ((w4 120 (by decide)).trans e3)) ⟨by omega, by omega⟩ (by omega) ?_
  rw [Int.toNat_natCast]
  refine x_aload_n rfl rfl ?_
  refine x_dup rfl ?_
  refine x_getfield rfl (by decide) (xu_ne (by decide) (xu_ne (by decide) g117)) rfl ?_
  refine x_iconst rfl ?_
  refine x_iadd rfl ?_
  refine x_putfield rfl (by decide) (xu_ne (by decide) (xu_ne (by decide) g117)) (show (6 : Nat) < 8 from by decide) rfl ?_
  refine x_return rfl ⟨_, _, rfl, rfl, rfl, xu_eq, ⟨rl1, _, _, xu_ne (by decide) (xu_ne (by decide) (xu_ne (by decide) w1)), xu_ne (by decide) (xu_ne (by decide) xu_eq), xu_ne (by decide) xu_eq, ⟨w2.trans el1, by rw [List.length_set]; exact el2, by rw [List.length_set]; exact el3⟩, by rw [List.length_append, List.length_singleton]; omega, fun k hk => ?_⟩, fun q hq => xu_ne (by omega) (xu_ne (by omega) (xu_ne (by omega) (w4 q (by omega))))⟩
  rw [List.length_append, List.length_singleton] at hk
  have gA : ∀ j, j < T.length → (T ++ [((T.getD p wN0).1 ++ [c], r)]).getD j wN0 = T.getD j wN0 := fun j hj => by rw [List.getD_eq_getElem?_getD, List.getElem?_append_left hj, ← List.getD_eq_getElem?_getD]
  by_cases hkT : k < T.length
  · rw [gA k hkT]
    obtain ⟨t1, t2⟩ := hTk k hkT
    refine ⟨⟨t1.1, by omega, fun d hd => ?_⟩, ?_⟩
    · obtain ⟨a1, a2⟩ := t1.2.2 d hd
      refine ⟨?_, a2⟩
      rw [w3, if_neg (by omega)]
      exact a1
    · rcases t2 with t3 | ⟨p', c', p1, p2, p3, p4⟩
      · exact Or.inl t3
      · refine Or.inr ⟨p', c', p1, ?_, ?_, ?_⟩
        · rw [x_gset, if_neg (by omega)]
          exact p2
        · rw [x_gset, if_neg (by omega)]
          exact p3
        · rw [gA p' (by omega)]
          exact p4
  · have hke : k = T.length := by omega
    subst hke
    have gB : (T ++ [((T.getD p wN0).1 ++ [c], r)]).getD T.length wN0 = ((T.getD p wN0).1 ++ [c], r) := by
      rw [List.getD_eq_getElem?_getD, List.getElem?_append_right (Nat.le_refl _), Nat.sub_self]
      rfl
    rw [gB]
    refine ⟨⟨by omega, by omega, fun d hd => ?_⟩, Or.inr ⟨p, c, hp, ?_, ?_, ?_⟩⟩
    · obtain ⟨a1, a2⟩ := hr.2.2 d hd
      refine ⟨?_, a2⟩
      rw [w3, if_pos ⟨by omega, by omega⟩, show (((cnt : Nat) : Int) * 8).toNat + ((((T.length : Nat) : Int) * 8 + (d : Nat)).toNat - (((T.length : Nat) : Int) * 8).toNat) = (((cnt : Nat) : Int) * 8 + (d : Nat)).toNat by omega]
      exact a1
    · rw [x_gset, if_pos ⟨rfl, by omega⟩]
    · rw [x_gset, if_pos ⟨rfl, by omega⟩]
    · rw [gA p hp]
