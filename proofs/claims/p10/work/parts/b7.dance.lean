/-! The class's crossing: 103. -/
/-- a row of eight places in a list -/
def sRL (l : List Int) (fr : Int) (r : Nat → Int) : Prop := 0 ≤ fr ∧ fr + 8 ≤ (l.length : Nat) ∧ ∀ d, d < 8 → l.getD (fr + (d : Nat)).toNat 0 = r d ∧ sok (r d)
theorem sRL_RW {f : Nat → zE} {p : Nat} {fr : Int} {r : Nat → Int} {l : List Int} (hp : 50 ≤ p ∧ p < 204) (hf : f p = xr 0 l) (hl : l.length ≤ 5000) (h : sRL l fr r) : sRW f p fr r := ⟨hp, l, hf, hl, h.1, h.2.1, h.2.2⟩
theorem xs_103 {v0 : Value} {xs : List Int32} {u : Nat × Nat} {f : Nat → zE} {p : Nat} {fr : Int} {r r2 : Nat → Int} {a b : Nat} {ma mb : Int} {l : List Int} (ha : a < 8) (hb : b < 8) (hp : 50 ≤ p ∧ p < 204) (hf : f p = xr 0 l) (hl : l.length ≤ 5000) (hr : sRL l fr r) (hr2 : sRL l (fr + 8) r2) (h1 : r2 a = smv (r a) ma) (h2 : r2 b = smv (r b) mb) : xq v0 xs u 103 [(0, .ref p), (1, xi fr), (2, xi (a : Nat)), (3, xi (b : Nat))] f (fun r' f' => r' = some (xi (if scr (r a) (r b) (r2 a) (r2 b) = true then 1 else 0)) ∧ f' = f) := by
  unfold xq
  obtain ⟨g0, g8, hrd⟩ := hr
  obtain ⟨g0', g8', hrd'⟩ := hr2
  obtain ⟨va, ra⟩ := hrd a ha
  obtain ⟨vb, rb⟩ := hrd b hb
  obtain ⟨wa, qa⟩ := hrd' a ha
  obtain ⟨wb, qb⟩ := hrd' b hb
  have hsc : scr (r a) (r b) (r2 a) (r2 b) = (decide (r2 a / 4 = r b / 4 ∧ r2 b / 4 = r a / 4) && !(decide (r a / 4 + sstr (sF (r a)) = r b / 4 ∧ r b / 4 + sstr (sF (r b)) = r a / 4) || decide (r a / 4 - sstr (sF (r a)) = r b / 4 ∧ r b / 4 - sstr (sF (r b)) = r a / 4))) := by
    have n1 : smv (r a) ma ≠ -1 := by rw [← h1]; unfold sok at qa; omega
    have n2 : smv (r b) mb ≠ -1 := by rw [← h2]; unfold sok at qb; omega
    rw [h1, h2]
    exact scr_cls ra rb n1 n2
  rw [hsc]
  have fa := sF_rg (r a)
  have fb := sF_rg (r b)
  have da : -10 ≤ sstr (sF (r a)) ∧ sstr (sF (r a)) ≤ 10 := by
    rcases (show sF (r a) = 0 ∨ sF (r a) = 1 ∨ sF (r a) = 2 ∨ sF (r a) = 3 by omega) with e | e | e | e <;> rw [e] <;> decide
  have db : -10 ≤ sstr (sF (r b)) ∧ sstr (sF (r b)) ≤ 10 := by
    rcases (show sF (r b) = 0 ∨ sF (r b) = 1 ∨ sF (r b) = 2 ∨ sF (r b) = 3 by omega) with e | e | e | e <;> rw [e] <;> decide
  unfold sok at ra rb qa qb
  generalize hA : sstr (sF (r a)) = A at da ⊢
  generalize hB : sstr (sF (r b)) = B at db ⊢
  refine x_aload_n rfl rfl ?_
  refine x_iload_n rfl rfl ?_
  refine x_iload_n rfl rfl ?_
  refine x_iadd rfl ?_
  refine x_iaload rfl hp hf ⟨by omega, by omega⟩ hl ?_
  rw [va]
  refine x_iconst rfl ?_
  refine x_idiv rfl ⟨by omega, by omega⟩ (by decide) ?_
  refine x_istore rfl (show (4 : Nat) < 10 from by decide) ?_
  refine x_aload_n rfl (xst_ne (by decide) rfl (Or.inl rfl)) ?_
  refine x_iload_n rfl (xst_ne (by decide) rfl (Or.inl rfl)) ?_
  refine x_iload_n rfl (xst_ne (by decide) rfl (Or.inl rfl)) ?_
  refine x_iadd rfl ?_
  refine x_iaload rfl hp hf ⟨by omega, by omega⟩ hl ?_
  rw [vb]
  refine x_iconst rfl ?_
  refine x_idiv rfl ⟨by omega, by omega⟩ (by decide) ?_
  refine x_istore rfl (show (5 : Nat) < 10 from by decide) ?_
  refine x_aload_n rfl (xst_ne (by decide) (xst_ne (by decide) rfl (Or.inl rfl)) (Or.inl rfl)) ?_
  refine x_iload_n rfl (xst_ne (by decide) (xst_ne (by decide) rfl (Or.inl rfl)) (Or.inl rfl)) ?_
  refine x_bipush rfl (by decide) ?_
  refine x_iadd rfl ?_
  refine x_iload_n rfl (xst_ne (by decide) (xst_ne (by decide) rfl (Or.inl rfl)) (Or.inl rfl)) ?_
  refine x_iadd rfl ?_
  refine x_iaload rfl hp hf ⟨by omega, by omega⟩ hl ?_
  rw [wa]
  refine x_iconst rfl ?_
  refine x_idiv rfl ⟨by omega, by omega⟩ (by decide) ?_
  refine x_iload rfl xst_eq ?_
  refine x_cne (t := 48) rfl rfl ⟨by omega, by omega⟩ ⟨by omega, by omega⟩ (fun hx => ?_) (fun hx => ?_)
  · refine x_iconst rfl ?_
    exact x_ireturn rfl (Or.inr (Or.inl ⟨rfl, by decide⟩)) ⟨_, _, rfl, rfl, by rw [decide_eq_false (fun h => hx h.1)]; rfl, rfl⟩
  refine x_aload_n rfl (xst_ne (by decide) (xst_ne (by decide) rfl (Or.inl rfl)) (Or.inl rfl)) ?_
  refine x_iload_n rfl (xst_ne (by decide) (xst_ne (by decide) rfl (Or.inl rfl)) (Or.inl rfl)) ?_
  refine x_bipush rfl (by decide) ?_
  refine x_iadd rfl ?_
  refine x_iload_n rfl (xst_ne (by decide) (xst_ne (by decide) rfl (Or.inl rfl)) (Or.inl rfl)) ?_
  refine x_iadd rfl ?_
  refine x_iaload rfl hp hf ⟨by omega, by omega⟩ hl ?_
  rw [wb]
  refine x_iconst rfl ?_
  refine x_idiv rfl ⟨by omega, by omega⟩ (by decide) ?_
  refine x_iload rfl (xst_ne (by decide) xst_eq (Or.inl rfl)) ?_
  refine x_ceq (t := 50) rfl rfl ⟨by omega, by omega⟩ ⟨by omega, by omega⟩ (fun hy => ?_) (fun hy => ?_)
  rotate_left
  · refine x_iconst rfl ?_
    exact x_ireturn rfl (Or.inr (Or.inl ⟨rfl, by decide⟩)) ⟨_, _, rfl, rfl, by rw [decide_eq_false (fun h => hy h.2)]; rfl, rfl⟩
  rw [decide_eq_true (show r2 a / 4 = r b / 4 ∧ r2 b / 4 = r a / 4 from ⟨hx, hy⟩), Bool.true_and]
  refine x_gets rfl ?_
  refine x_aload_n rfl (xst_ne (by decide) (xst_ne (by decide) rfl (Or.inl rfl)) (Or.inl rfl)) ?_
  refine x_iload_n rfl (xst_ne (by decide) (xst_ne (by decide) rfl (Or.inl rfl)) (Or.inl rfl)) ?_
  refine x_iload_n rfl (xst_ne (by decide) (xst_ne (by decide) rfl (Or.inl rfl)) (Or.inl rfl)) ?_
  refine x_iadd rfl ?_
  refine x_iaload rfl hp hf ⟨by omega, by omega⟩ hl ?_
  rw [va]
  refine x_iconst rfl ?_
  refine x_irem rfl ⟨by omega, by omega⟩ (by decide) ?_
  refine x_gar (ys := zg4) rfl rfl ⟨by omega, by rw [zg4_len]; omega⟩ (by decide) ?_
  rw [zg4_at (r a % 4).toNat (by omega), show (((r a % 4).toNat : Nat) : Int) = sF (r a) by unfold sF; omega, hA]
  refine x_istore rfl (show (6 : Nat) < 10 from by decide) ?_
  refine x_gets rfl ?_
  refine x_aload_n rfl (xst_ne (by decide) (xst_ne (by decide) (xst_ne (by decide) rfl (Or.inl rfl)) (Or.inl rfl)) (Or.inl rfl)) ?_
  refine x_iload_n rfl (xst_ne (by decide) (xst_ne (by decide) (xst_ne (by decide) rfl (Or.inl rfl)) (Or.inl rfl)) (Or.inl rfl)) ?_
  refine x_iload_n rfl (xst_ne (by decide) (xst_ne (by decide) (xst_ne (by decide) rfl (Or.inl rfl)) (Or.inl rfl)) (Or.inl rfl)) ?_
  refine x_iadd rfl ?_
  refine x_iaload rfl hp hf ⟨by omega, by omega⟩ hl ?_
  rw [vb]
  refine x_iconst rfl ?_
  refine x_irem rfl ⟨by omega, by omega⟩ (by decide) ?_
  refine x_gar (ys := zg4) rfl rfl ⟨by omega, by rw [zg4_len]; omega⟩ (by decide) ?_
  rw [zg4_at (r b % 4).toNat (by omega), show (((r b % 4).toNat : Nat) : Int) = sF (r b) by unfold sF; omega, hB]
  refine x_istore rfl (show (7 : Nat) < 10 from by decide) ?_
  have m4 : zlv (xst 7 (xi B) (xst 6 (xi A) (xst 5 (xi (r b / 4)) (xst 4 (xi (r a / 4)) [(0, .ref p), (1, xi fr), (2, xi (a : Nat)), (3, xi (b : Nat))])))) 4 = some (xi (r a / 4)) := (xst_ne (by decide) (xst_ne (by decide) (xst_ne (by decide) xst_eq (Or.inl rfl)) (Or.inl rfl)) (Or.inl rfl))
  have m5 : zlv (xst 7 (xi B) (xst 6 (xi A) (xst 5 (xi (r b / 4)) (xst 4 (xi (r a / 4)) [(0, .ref p), (1, xi fr), (2, xi (a : Nat)), (3, xi (b : Nat))])))) 5 = some (xi (r b / 4)) := (xst_ne (by decide) (xst_ne (by decide) xst_eq (Or.inl rfl)) (Or.inl rfl))
  have m6 : zlv (xst 7 (xi B) (xst 6 (xi A) (xst 5 (xi (r b / 4)) (xst 4 (xi (r a / 4)) [(0, .ref p), (1, xi fr), (2, xi (a : Nat)), (3, xi (b : Nat))])))) 6 = some (xi A) := (xst_ne (by decide) xst_eq (Or.inl rfl))
  have m7 : zlv (xst 7 (xi B) (xst 6 (xi A) (xst 5 (xi (r b / 4)) (xst 4 (xi (r a / 4)) [(0, .ref p), (1, xi fr), (2, xi (a : Nat)), (3, xi (b : Nat))])))) 7 = some (xi B) := xst_eq
  generalize hF : decide (r a / 4 + A = r b / 4 ∧ r b / 4 + B = r a / 4) = F
  generalize hK : decide (r a / 4 - A = r b / 4 ∧ r b / 4 - B = r a / 4) = K
  have s3 : ∀ lv : zL, zlv lv 8 = some (xi (if F = true then 1 else 0)) → zlv lv 9 = some (xi (if K = true then 1 else 0)) → xz v0 xs u (fun o X => ∃ r' f', o = .inl r' ∧ X = (xh f', u) ∧ (fun r' f' => r' = some (xi (if (!(F || K)) = true then 1 else 0)) ∧ f' = f) r' f') 103 130 lv [] f := by
    intro lv n8 n9
    refine x_iload rfl n8 ?_
    cases F with
    | true =>
      refine x_ifne (t := 144) rfl rfl (by decide) (fun _ => ?_) (fun h => absurd h (by decide))
      refine x_iconst rfl ?_
      exact x_ireturn rfl (Or.inr (Or.inl ⟨rfl, by decide⟩)) ⟨_, _, rfl, rfl, rfl, rfl⟩
    | false =>
      refine x_ifne (t := 144) rfl rfl (by decide) (fun h => absurd rfl h) (fun _ => ?_)
      refine x_iload rfl n9 ?_
      cases K with
      | true =>
        refine x_ifne (t := 144) rfl rfl (by decide) (fun _ => ?_) (fun h => absurd h (by decide))
        refine x_iconst rfl ?_
        exact x_ireturn rfl (Or.inr (Or.inl ⟨rfl, by decide⟩)) ⟨_, _, rfl, rfl, rfl, rfl⟩
      | false =>
        refine x_ifne (t := 144) rfl rfl (by decide) (fun h => absurd rfl h) (fun _ => ?_)
        refine x_iconst rfl ?_
        refine x_goto (t := 145) rfl rfl ?_
        exact x_ireturn rfl (Or.inr (Or.inl ⟨rfl, by decide⟩)) ⟨_, _, rfl, rfl, rfl, rfl⟩
  have s2 : ∀ lv : zL, zlv lv 4 = some (xi (r a / 4)) → zlv lv 5 = some (xi (r b / 4)) → zlv lv 6 = some (xi A) → zlv lv 7 = some (xi B) → zlv lv 8 = some (xi (if F = true then 1 else 0)) → xz v0 xs u (fun o X => ∃ r' f', o = .inl r' ∧ X = (xh f', u) ∧ (fun r' f' => r' = some (xi (if (!(F || K)) = true then 1 else 0)) ∧ f' = f) r' f') 103 103 lv [] f := by
    intro lv n4 n5 n6 n7 n8
    refine x_iload rfl n4 ?_
    refine x_iload rfl n6 ?_
    refine x_isub rfl ?_
    refine x_iload rfl n5 ?_
    refine x_cne (t := 127) rfl rfl ⟨by omega, by omega⟩ ⟨by omega, by omega⟩ (fun h => ?_) (fun h => ?_)
    · refine x_iconst rfl ?_
      refine x_istore rfl (show (9 : Nat) < 10 from by decide) ?_
      refine s3 _ (xst_ne (by decide) n8 (Or.inl rfl)) ?_
      rw [← hK, decide_eq_false (fun hh => h hh.1)]
      exact xst_eq
    · refine x_iload rfl n5 ?_
      refine x_iload rfl n7 ?_
      refine x_isub rfl ?_
      refine x_iload rfl n4 ?_
      refine x_cne (t := 127) rfl rfl ⟨by omega, by omega⟩ ⟨by omega, by omega⟩ (fun h3 => ?_) (fun h3 => ?_)
      · refine x_iconst rfl ?_
        refine x_istore rfl (show (9 : Nat) < 10 from by decide) ?_
        refine s3 _ (xst_ne (by decide) n8 (Or.inl rfl)) ?_
        rw [← hK, decide_eq_false (fun hh => h3 hh.2)]
        exact xst_eq
      · refine x_iconst rfl ?_
        refine x_goto (t := 128) rfl rfl ?_
        refine x_istore rfl (show (9 : Nat) < 10 from by decide) ?_
        refine s3 _ (xst_ne (by decide) n8 (Or.inl rfl)) ?_
        rw [← hK, decide_eq_true (show r a / 4 - A = r b / 4 ∧ r b / 4 - B = r a / 4 from ⟨h, h3⟩)]
        exact xst_eq
  refine x_iload rfl m4 ?_
  refine x_iload rfl m6 ?_
  refine x_iadd rfl ?_
  refine x_iload rfl m5 ?_
  refine x_cne (t := 100) rfl rfl ⟨by omega, by omega⟩ ⟨by omega, by omega⟩ (fun h => ?_) (fun h => ?_)
  · refine x_iconst rfl ?_
    refine x_istore rfl (show (8 : Nat) < 10 from by decide) ?_
    refine s2 _ (xst_ne (by decide) m4 (Or.inl rfl)) (xst_ne (by decide) m5 (Or.inl rfl)) (xst_ne (by decide) m6 (Or.inl rfl)) (xst_ne (by decide) m7 (Or.inl rfl)) ?_
    rw [← hF, decide_eq_false (fun hh => h hh.1)]
    exact xst_eq
  · refine x_iload rfl m5 ?_
    refine x_iload rfl m7 ?_
    refine x_iadd rfl ?_
    refine x_iload rfl m4 ?_
    refine x_cne (t := 100) rfl rfl ⟨by omega, by omega⟩ ⟨by omega, by omega⟩ (fun h3 => ?_) (fun h3 => ?_)
    · refine x_iconst rfl ?_
      refine x_istore rfl (show (8 : Nat) < 10 from by decide) ?_
      refine s2 _ (xst_ne (by decide) m4 (Or.inl rfl)) (xst_ne (by decide) m5 (Or.inl rfl)) (xst_ne (by decide) m6 (Or.inl rfl)) (xst_ne (by decide) m7 (Or.inl rfl)) ?_
      rw [← hF, decide_eq_false (fun hh => h3 hh.2)]
      exact xst_eq
    · refine x_iconst rfl ?_
      refine x_goto (t := 101) rfl rfl ?_
      refine x_istore rfl (show (8 : Nat) < 10 from by decide) ?_
      refine s2 _ (xst_ne (by decide) m4 (Or.inl rfl)) (xst_ne (by decide) m5 (Or.inl rfl)) (xst_ne (by decide) m6 (Or.inl rfl)) (xst_ne (by decide) m7 (Or.inl rfl)) ?_
      rw [← hF, decide_eq_true (show r a / 4 + A = r b / 4 ∧ r b / 4 + B = r a / 4 from ⟨h, h3⟩)]
      exact xst_eq
