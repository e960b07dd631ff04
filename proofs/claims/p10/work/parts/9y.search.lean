/-! The model's search ends. -/
theorem xs_167l {v0 : Value} {xs : List Int32} {u : Nat × Nat} {f0 : Nat → zE} {many : Nat} (hm : 1 ≤ many ∧ many ≤ 4) : ∀ (w k : Nat) (f : Nat → zE) (lv : zL) (tl : List Int), xVv many tl k < w → k ≤ many → zlv lv 0 = some (.ref 177) → zlv lv 1 = some (xi (many : Nat)) → zlv lv 2 = some (xi (k : Nat)) → f 200 = xr 0 tl → tl.length = 5 → (∀ j : Nat, -1 ≤ tl.getD j 0 ∧ tl.getD j 0 ≤ 11) → (∀ j : Nat, j < k → 0 ≤ tl.getD j 0) → yM yT (xh f) → yF yW3 (xh f0) (xh f) → xz v0 xs u (fun o X => ∃ r f', o = .inl r ∧ X = (xh f', u) ∧ (fun r f' => yro (some (.inl (0, 1))) r ∧ yM yT (xh f') ∧ yF yW3 (xh f0) (xh f')) r f') 167 13 lv [] f := by
  intro w
  induction w with
  | zero =>
    intro k f lv tl hV hk l0 l1 l2 h200 hl hb hlow hM hF
    have := xVv_pos (many := many) (k := k) hb
    omega
  | succ w ih =>
    intro k f lv tl hV hk l0 l1 l2 h200 hl hb hlow hM hF
    obtain ⟨fs, ca, al, h177, h9, hca, h35, h38, h198, hal, hal2⟩ := xmT hM
    refine x_iload_n rfl l2 ?_
    refine x_iflt (t := 148) rfl rfl ⟨by omega, by omega⟩ (fun h => by omega) (fun _ => ?_)
    refine x_iload_n rfl l2 ?_
    refine x_iload_n rfl l1 ?_
    refine x_cne (t := 56) rfl rfl ⟨by omega, by omega⟩ ⟨by omega, by omega⟩ (fun hne => ?_) (fun heq => ?_)
    · have hkm : k < many := by omega
      refine x_aload_n rfl l0 ?_
      refine x_getfield rfl (by decide) h177 h38 ?_
      refine x_iload_n rfl l2 ?_
      refine x_iaload rfl (by decide) h200 ⟨by omega, by omega⟩ (by omega) ?_
      rw [Int.toNat_natCast]
      have hbk := hb k
      refine x_ifge (t := 93) rfl rfl ⟨by omega, by omega⟩ (fun ht => ?_) (fun ht => ?_)
      · refine x_aload_n rfl l0 ?_
        refine x_iload_n rfl l2 ?_
        refine x_call [_, _] rfl rfl (show (0 : Nat) ≤ 8 from by decide) (show (2 : Nat) ≤ 5 from by decide) (x_rcv (by decide) h177) (xy_166 (k := k) (by omega) hM h200 hl hb ht) (fun r' f1 hP => ?_)
        obtain ⟨hro, hMb, hF1⟩ := hP
        have h200b : f1 200 = xr 0 tl := (yF_at hF1 (by decide) (by decide +kernel)).trans h200
        have hFb : yF yW3 (xh f0) (xh f1) := fun j hj => (hF1 j (fun h => hj (List.mem_cons_of_mem _ h))).trans (hF j hj)
        obtain ⟨fsb, cab, alb, h177b, h9b, hcab, h35b, h38b, h198b, halb, hal2b⟩ := xmT hMb
        cases r' with
        | none => exact hro.elim
        | some vv =>
          obtain ⟨z, rfl, hz1, hz2⟩ := yg_i hro
          refine x_ifeq (t := 127) rfl rfl ⟨by omega, by omega⟩ (fun _ => ?_) (fun _ => ?_)
          · skip
            refine x_aload_n rfl l0 ?_
            refine x_getfield rfl (by decide) h177b h38b ?_
            refine x_iload_n rfl l2 ?_
            refine x_aload_n rfl l0 ?_
            refine x_aload_n rfl l0 ?_
            refine x_getfield rfl (by decide) h177b h38b ?_
            refine x_iload_n rfl l2 ?_
            refine x_iaload rfl (by decide) h200b ⟨by omega, by omega⟩ (by omega) ?_
            rw [Int.toNat_natCast]
            refine x_iconst rfl ?_
            refine x_iadd rfl ?_
            have hrg := hb (k)
            refine x_call [_, _] rfl rfl (show (2 : Nat) ≤ 8 from by decide) (show (2 : Nat) ≤ 4 from by decide) (x_rcv (by decide) h177b) (xy_165 (c := tl.getD (k) 0 + 1) ⟨by omega, by omega⟩ hMb) (fun r' f9 hP => ?_)
            obtain ⟨hfe, t', rfl, ht'⟩ := hP
            subst hfe
            refine x_iastore rfl (by decide) h200b ⟨by omega, by omega⟩ (by omega) ?_
            rw [Int.toNat_natCast]
            refine x_goto (t := 13) rfl rfl ?_
            have hb2 : ∀ j : Nat, -1 ≤ (tl.set (k) t').getD j 0 ∧ (tl.set (k) t').getD j 0 ≤ 11 := fun j => by
              rw [x_gset]; split
              · omega
              · exact hb j
            refine ih (k) _ _ (tl.set (k) t') ?_ (by omega) l0 l1 l2 xu_eq (by rw [List.length_set]; exact hl) hb2 (fun j hj => by rw [x_gset, if_neg (by omega)]; exact hlow j (by omega)) (yM_xu hMb (by decide) rfl (xok_tr (by rw [List.length_set]; exact hl) hb2)) (yF_xu hFb (by decide) (by decide +kernel))
            have := xVv_adv hkm hl (by omega) hb ht ht'; omega
          · refine x_iinc rfl l2 (show (2 : Nat) < 3 from by decide) ?_
            have ek : ((k : Nat) : Int) + 1 = ((k + 1 : Nat) : Int) := by omega
            rw [ek]
            refine x_aload_n rfl (xst_ne (by decide) l0 (Or.inl rfl)) ?_
            refine x_getfield rfl (by decide) h177b h38b ?_
            refine x_iload_n rfl xst_eq ?_
            refine x_iload_n rfl xst_eq ?_
            refine x_iload_n rfl (xst_ne (by decide) l1 (Or.inl rfl)) ?_
            refine x_cge (t := 122) rfl rfl ⟨by omega, by omega⟩ ⟨by omega, by omega⟩ (fun _ => ?_) (fun _ => ?_)
            · refine x_iconst rfl ?_
              refine x_iastore rfl (by decide) h200b ⟨by omega, by omega⟩ (by omega) ?_
              rw [Int.toNat_natCast]
              refine x_goto (t := 13) rfl rfl ?_
              have hb2 : ∀ j : Nat, -1 ≤ (tl.set (k + 1) 0).getD j 0 ∧ (tl.set (k + 1) 0).getD j 0 ≤ 11 := fun j => by
                rw [x_gset]; split
                · omega
                · exact hb j
              refine ih (k + 1) _ _ (tl.set (k + 1) 0) ?_ (by omega) (xst_ne (by decide) l0 (Or.inl rfl)) (xst_ne (by decide) l1 (Or.inl rfl)) xst_eq xu_eq (by rw [List.length_set]; exact hl) hb2 (fun j hj => ?_) (yM_xu hMb (by decide) rfl (xok_tr (by rw [List.length_set]; exact hl) hb2)) (yF_xu hFb (by decide) (by decide +kernel))
              · have := xVv_push (x := 0) hkm hl (by omega) hb ht (by omega); omega
              · rw [x_gset, if_neg (by omega)]
                by_cases ej : j = k
                · rw [ej]; exact ht
                · exact hlow j (by omega)
            · refine x_aload_n rfl (xst_ne (by decide) l0 (Or.inl rfl)) ?_
              refine x_iconst rfl ?_
              refine x_call [_, _] rfl rfl (show (2 : Nat) ≤ 8 from by decide) (show (2 : Nat) ≤ 4 from by decide) (x_rcv (by decide) h177b) (xy_165 (c := 0) (by decide) hMb) (fun r' f9 hP => ?_)
              obtain ⟨hfe, t', rfl, ht'⟩ := hP
              subst hfe
              refine x_goto (t := 123) rfl rfl ?_
              refine x_iastore rfl (by decide) h200b ⟨by omega, by omega⟩ (by omega) ?_
              rw [Int.toNat_natCast]
              refine x_goto (t := 13) rfl rfl ?_
              have hb2 : ∀ j : Nat, -1 ≤ (tl.set (k + 1) t').getD j 0 ∧ (tl.set (k + 1) t').getD j 0 ≤ 11 := fun j => by
                rw [x_gset]; split
                · omega
                · exact hb j
              refine ih (k + 1) _ _ (tl.set (k + 1) t') ?_ (by omega) (xst_ne (by decide) l0 (Or.inl rfl)) (xst_ne (by decide) l1 (Or.inl rfl)) xst_eq xu_eq (by rw [List.length_set]; exact hl) hb2 (fun j hj => ?_) (yM_xu hMb (by decide) rfl (xok_tr (by rw [List.length_set]; exact hl) hb2)) (yF_xu hFb (by decide) (by decide +kernel))
              · have := xVv_push (x := t') hkm hl (by omega) hb ht (by omega); omega
              · rw [x_gset, if_neg (by omega)]
                by_cases ej : j = k
                · rw [ej]; exact ht
                · exact hlow j (by omega)
      · refine x_iinc rfl l2 (show (2 : Nat) < 3 from by decide) ?_
        refine x_iload_n rfl xst_eq ?_
        refine x_iflt (t := 13) rfl rfl ⟨by omega, by omega⟩ (fun hneg => ?_) (fun hge => ?_)
        · refine x_iload_n rfl xst_eq ?_
          refine x_iflt (t := 148) rfl rfl ⟨by omega, by omega⟩ (fun _ => ?_) (fun h => by omega)
          refine x_iconst rfl ?_
          exact x_ireturn rfl (Or.inr (Or.inl ⟨rfl, by decide⟩)) ⟨_, _, rfl, rfl, ⟨_, rfl, by decide, by decide⟩, hM, hF⟩
        · obtain ⟨k1, rfl⟩ : ∃ k1, k = k1 + 1 := ⟨k - 1, by omega⟩
          have ek : ((k1 + 1 : Nat) : Int) + -1 = ((k1 : Nat) : Int) := by omega
          rw [ek]
          have hlo := hlow k1 (by omega)
          refine x_aload_n rfl (xst_ne (by decide) l0 (Or.inl rfl)) ?_
          refine x_getfield rfl (by decide) h177 h38 ?_
          refine x_iload_n rfl xst_eq ?_
          refine x_aload_n rfl (xst_ne (by decide) l0 (Or.inl rfl)) ?_
          refine x_aload_n rfl (xst_ne (by decide) l0 (Or.inl rfl)) ?_
          refine x_getfield rfl (by decide) h177 h38 ?_
          refine x_iload_n rfl xst_eq ?_
          refine x_iaload rfl (by decide) h200 ⟨by omega, by omega⟩ (by omega) ?_
          rw [Int.toNat_natCast]
          refine x_iconst rfl ?_
          refine x_iadd rfl ?_
          have hrg := hb (k1)
          refine x_call [_, _] rfl rfl (show (2 : Nat) ≤ 8 from by decide) (show (2 : Nat) ≤ 4 from by decide) (x_rcv (by decide) h177) (xy_165 (c := tl.getD (k1) 0 + 1) ⟨by omega, by omega⟩ hM) (fun r' f9 hP => ?_)
          obtain ⟨hfe, t', rfl, ht'⟩ := hP
          subst hfe
          refine x_iastore rfl (by decide) h200 ⟨by omega, by omega⟩ (by omega) ?_
          rw [Int.toNat_natCast]
          refine x_goto (t := 13) rfl rfl ?_
          have hb2 : ∀ j : Nat, -1 ≤ (tl.set (k1) t').getD j 0 ∧ (tl.set (k1) t').getD j 0 ≤ 11 := fun j => by
            rw [x_gset]; split
            · omega
            · exact hb j
          refine ih (k1) _ _ (tl.set (k1) t') ?_ (by omega) (xst_ne (by decide) l0 (Or.inl rfl)) (xst_ne (by decide) l1 (Or.inl rfl)) xst_eq xu_eq (by rw [List.length_set]; exact hl) hb2 (fun j hj => by rw [x_gset, if_neg (by omega)]; exact hlow j (by omega)) (yM_xu hM (by decide) rfl (xok_tr (by rw [List.length_set]; exact hl) hb2)) (yF_xu hF (by decide) (by decide +kernel))
          have := xVv_pop (many := many) (by omega) hl (by omega) hb hlo ht'; omega
    · refine x_aload_n rfl l0 ?_
      refine x_iload_n rfl l2 ?_
      refine x_call [_, _] rfl rfl (show (0 : Nat) ≤ 8 from by decide) (show (2 : Nat) ≤ 4 from by decide) (x_rcv (by decide) h177) (xq_of (W := yW) (T := yT) yv164 (by decide +kernel) rfl (vs := [.ref 177, xi (k : Nat)]) ⟨⟨177, rfl, by simp⟩, ⟨_, rfl, by rw [xi_toInt (by omega) (by omega)]; dsimp only; omega, by rw [xi_toInt (by omega) (by omega)]; dsimp only; omega⟩, trivial⟩ hM) (fun r' f1 hP => ?_)
      obtain ⟨hro, hMb, hF1⟩ := hP
      have h200b : f1 200 = xr 0 tl := (yF_at hF1 (by decide) (by decide +kernel)).trans h200
      have hFb : yF yW3 (xh f0) (xh f1) := fun j hj => (hF1 j (fun h => hj (List.mem_cons_of_mem _ h))).trans (hF j hj)
      obtain ⟨fsb, cab, alb, h177b, h9b, hcab, h35b, h38b, h198b, halb, hal2b⟩ := xmT hMb
      cases r' with
      | none => exact hro.elim
      | some vv =>
        obtain ⟨z, rfl, hz1, hz2⟩ := yg_i hro
        refine x_ifeq (t := 32) rfl rfl ⟨by omega, by omega⟩ (fun _ => ?_) (fun _ => ?_)
        · refine x_iinc rfl l2 (show (2 : Nat) < 3 from by decide) ?_
          obtain ⟨k1, rfl⟩ : ∃ k1, k = k1 + 1 := ⟨k - 1, by omega⟩
          have ek : ((k1 + 1 : Nat) : Int) + -1 = ((k1 : Nat) : Int) := by omega
          rw [ek]
          have hlo := hlow k1 (by omega)
          refine x_aload_n rfl (xst_ne (by decide) l0 (Or.inl rfl)) ?_
          refine x_getfield rfl (by decide) h177b h38b ?_
          refine x_iload_n rfl xst_eq ?_
          refine x_aload_n rfl (xst_ne (by decide) l0 (Or.inl rfl)) ?_
          refine x_aload_n rfl (xst_ne (by decide) l0 (Or.inl rfl)) ?_
          refine x_getfield rfl (by decide) h177b h38b ?_
          refine x_iload_n rfl xst_eq ?_
          refine x_iaload rfl (by decide) h200b ⟨by omega, by omega⟩ (by omega) ?_
          rw [Int.toNat_natCast]
          refine x_iconst rfl ?_
          refine x_iadd rfl ?_
          have hrg := hb (k1)
          refine x_call [_, _] rfl rfl (show (2 : Nat) ≤ 8 from by decide) (show (2 : Nat) ≤ 4 from by decide) (x_rcv (by decide) h177b) (xy_165 (c := tl.getD (k1) 0 + 1) ⟨by omega, by omega⟩ hMb) (fun r' f9 hP => ?_)
          obtain ⟨hfe, t', rfl, ht'⟩ := hP
          subst hfe
          refine x_iastore rfl (by decide) h200b ⟨by omega, by omega⟩ (by omega) ?_
          rw [Int.toNat_natCast]
          refine x_goto (t := 13) rfl rfl ?_
          have hb2 : ∀ j : Nat, -1 ≤ (tl.set (k1) t').getD j 0 ∧ (tl.set (k1) t').getD j 0 ≤ 11 := fun j => by
            rw [x_gset]; split
            · omega
            · exact hb j
          refine ih (k1) _ _ (tl.set (k1) t') ?_ (by omega) (xst_ne (by decide) l0 (Or.inl rfl)) (xst_ne (by decide) l1 (Or.inl rfl)) xst_eq xu_eq (by rw [List.length_set]; exact hl) hb2 (fun j hj => by rw [x_gset, if_neg (by omega)]; exact hlow j (by omega)) (yM_xu hMb (by decide) rfl (xok_tr (by rw [List.length_set]; exact hl) hb2)) (yF_xu hFb (by decide) (by decide +kernel))
          have := xVv_pop (many := many) (by omega) hl (by omega) hb hlo ht'; omega
        · refine x_iconst rfl ?_
          exact x_ireturn rfl (Or.inr (Or.inl ⟨rfl, by decide⟩)) ⟨_, _, rfl, rfl, ⟨_, rfl, by decide, by decide⟩, hMb, hFb⟩
def yc167 : ySm := (167, [.inr (.inr [177]), .inl (1, 4)], some (.inl (0, 1)))
theorem yv167 : yx yW3 yT yc167 := by
  intro v0 xs vs X hf hM
  obtain ⟨f, hfx⟩ := xh_ex (hM.1.trans (by decide +kernel : yT.length = 154))
  match vs, hf with
  | [v1, v2], hf =>
    obtain ⟨h1, h2, -⟩ := hf
    have e1 := yg_rf h1
    obtain ⟨z, e2, z1, z2⟩ := yg_i h2
    subst e1
    subst e2
    obtain ⟨many, rfl⟩ := Int.eq_ofNat_of_zero_le (show 0 ≤ z by omega)
    have hM' : yM yT (xh f) := by rw [← hfx]; exact hM
    obtain ⟨fs, ca, al, h177, h9, hca, h35, h38, h198, hal, hal2⟩ := xmT hM'
    obtain ⟨tl, h200, hl, hb0⟩ := xT_a hM' (p := 200) (by decide) rfl
    have hl5 : tl.length = 5 := hl
    have hb : ∀ j : Nat, -1 ≤ tl.getD j 0 ∧ tl.getD j 0 ≤ 11 := fun j => by
      by_cases hj : j < 5
      · exact hb0 j (-1, 11) (by simp only [yat]; rw [if_pos hj]) (by omega)
      · rw [List.getD_eq_getElem?_getD, List.getElem?_eq_none (by omega)]
        exact ⟨by decide, by decide⟩
    have key : xz v0 xs X.2 (fun o X' => ∃ r f', o = .inl r ∧ X' = (xh f', X.2) ∧ (fun r f' => yro (some (.inl (0, 1))) r ∧ yM yT (xh f') ∧ yF yW3 (xh f) (xh f')) r f') 167 0 [(0, .ref 177), (1, xi (many : Nat))] [] f := by
      refine x_iconst rfl ?_
      refine x_istore_n rfl (show (2 : Nat) < 3 from by decide) ?_
      refine x_aload_n rfl (xst_ne (by decide) rfl (Or.inl rfl)) ?_
      refine x_getfield rfl (by decide) h177 h38 ?_
      refine x_iconst rfl ?_
      refine x_aload_n rfl (xst_ne (by decide) rfl (Or.inl rfl)) ?_
      refine x_iconst rfl ?_
      refine x_call [_, _] rfl rfl (show (2 : Nat) ≤ 8 from by decide) (show (2 : Nat) ≤ 4 from by decide) (x_rcv (by decide) h177) (xy_165 (c := 0) (by decide) hM') (fun r' f9 hP => ?_)
      obtain ⟨hfe, t', rfl, ht'⟩ := hP
      subst hfe
      refine x_iastore rfl (by decide) h200 ⟨by decide, by omega⟩ (by omega) ?_
      have hb2 : ∀ j : Nat, -1 ≤ (tl.set (0 : Int).toNat t').getD j 0 ∧ (tl.set (0 : Int).toNat t').getD j 0 ≤ 11 := fun j => by
        rw [x_gset]; split
        · omega
        · exact hb j
      exact xs_167l (f0 := f9) (by omega) (xVv many (tl.set (0 : Int).toNat t') 0 + 1).toNat 0 _ _ (tl.set (0 : Int).toNat t') (by omega) (by omega) (xst_ne (by decide) rfl (Or.inl rfl)) (xst_ne (by decide) rfl (Or.inl rfl)) xst_eq xu_eq (by rw [List.length_set]; exact hl5) hb2 (fun j hj => absurd hj (Nat.not_lt_zero _)) (yM_xu hM' (by decide) rfl (xok_tr (by rw [List.length_set]; exact hl5) hb2)) (yF_xu (fun _ _ => rfl) (by decide) (by decide +kernel))
    have hX : X = (xh f, X.2) := Prod.ext hfx rfl
    rw [hX]
    refine zwp_mono key fun o X' hq => ?_
    obtain ⟨r, f', rfl, rfl, q1, q2, q3⟩ := hq
    exact ⟨q1, q2, rfl, by rw [hX] at *; exact q3⟩
