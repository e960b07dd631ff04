/-! The class's step: 104. -/
theorem sany_f {P : Nat → Bool} {k : Nat} (h : ∀ j, j < k → P j = false) : sany P k = false := by
  cases h2 : sany P k with
  | false => rfl
  | true =>
    obtain ⟨j, hj, h3⟩ := (sany_iff P k).mp h2
    rw [h j hj] at h3
    cases h3
theorem sany_t {P : Nat → Bool} {j k : Nat} (hj : j < k) (h : P j = true) : sany P k = true := (sany_iff P k).mpr ⟨j, hj, h⟩
theorem bool_f {b : Bool} (h : ¬ b = true) : b = false := by cases b with
  | true => exact absurd rfl h
  | false => rfl
/-- no two of the pairs before (a, b) meet -/
def snm (r2 : Nat → Int) (a b : Nat) : Prop := ∀ a' b' : Nat, a' < b' → b' < 8 → (a' < a ∨ (a' = a ∧ b' < b)) → ¬ r2 a' / 4 = r2 b' / 4
/-- whether one of the pairs before (a, b) crosses -/
def scx (r r2 : Nat → Int) (a b : Nat) : Bool := sany (fun a' => sany (fun b' => decide (a' < b') && scr (r a') (r b') (r2 a') (r2 b')) 8) a || sany (fun b' => decide (a < b') && scr (r a) (r b') (r2 a) (r2 b')) b
theorem smeet_f {r2 : Nat → Int} (h : snm r2 8 0) : smeet r2 = false := by
  unfold smeet
  refine sany_f fun a ha => sany_f fun b hb => ?_
  by_cases e : a < b
  · have := h a b e hb (Or.inl ha)
    simp [this]
  · simp [e]
theorem smeet_t {r2 : Nat → Int} {a b : Nat} (h1 : a < b) (h2 : b < 8) (h : r2 a / 4 = r2 b / 4) : smeet r2 = true := by
  unfold smeet
  exact sany_t (j := a) (by omega) (sany_t (j := b) h2 (by simp [h1, h]))
theorem scx_8 (r r2 : Nat → Int) : scx r r2 8 0 = scross r r2 := by
  unfold scx scross
  simp only [sany, Bool.or_false]
theorem scx_n (r r2 : Nat → Int) (a : Nat) : scx r r2 (a + 1) 0 = scx r r2 a 8 := by
  unfold scx
  simp only [sany, Bool.or_false]
theorem scx_0 (r r2 : Nat → Int) (a : Nat) : scx r r2 a (a + 1) = scx r r2 a 0 := by
  unfold scx
  rw [sany_f (k := a + 1) (fun j hj => by simp; omega)]
  simp only [sany]
theorem scx_s (r r2 : Nat → Int) (a b : Nat) (h : a < b) : scx r r2 a (b + 1) = (scx r r2 a b || scr (r a) (r b) (r2 a) (r2 b)) := by
  unfold scx
  simp only [sany, h, decide_true, Bool.true_and, Bool.or_assoc]
theorem xs_104i {v0 : Value} {xs : List Int32} {u : Nat × Nat} {f : Nat → zE} {p : Nat} {fr : Int} {r r2 : Nat → Int} {l : List Int} {am : Nat → Int} {a : Nat} (hp : 50 ≤ p ∧ p < 204) (hf : f p = xr 0 l) (hl : l.length ≤ 5000) (hr : sRL l fr r) (hr2 : sRL l (fr + 8) r2) (hmv : ∀ d, d < 8 → r2 d = smv (r d) (am d)) (hlv : sleave r2 = false) (ha : a < 8) (hk : ∀ lv : zL, zlv lv 1 = some (.ref p) → zlv lv 2 = some (xi fr) → zlv lv 3 = some (xi (fr + 8)) → zlv lv 4 = some (xi (if scx r r2 a 8 = true then 1 else 0)) → zlv lv 5 = some (xi (a : Nat)) → snm r2 (a + 1) 0 → xz v0 xs u (fun o X => ∃ r' f', o = .inl r' ∧ X = (xh f', u) ∧ (fun r' f' => r' = some (xi (sclash r r2)) ∧ f' = f) r' f') 104 132 lv [] f) : ∀ (k b : Nat) (lv : zL), k + b = 8 → a < b → zlv lv 1 = some (.ref p) → zlv lv 2 = some (xi fr) → zlv lv 3 = some (xi (fr + 8)) → zlv lv 4 = some (xi (if scx r r2 a b = true then 1 else 0)) → zlv lv 5 = some (xi (a : Nat)) → zlv lv 6 = some (xi (b : Nat)) → snm r2 a b → xz v0 xs u (fun o X => ∃ r' f', o = .inl r' ∧ X = (xh f', u) ∧ (fun r' f' => r' = some (xi (sclash r r2)) ∧ f' = f) r' f') 104 74 lv [] f := by
  obtain ⟨wa, qa⟩ := hr2.2.2 a ha
  have g1 := hr2.1
  have g2 := hr2.2.1
  have qa0 := qa
  unfold sok at qa0
  intro k
  induction k with
  | zero =>
    intro b lv hk2 hab l1 l2 l3 l4 l5 l6 hnm
    have e : b = 8 := by omega
    subst e
    refine x_iload rfl l6 ?_
    refine x_bipush rfl (by decide) ?_
    refine x_cge (t := 132) rfl rfl (by decide) (by decide) (fun _ => ?_) (fun h => absurd h (by decide))
    refine hk lv l1 l2 l3 l4 l5 (fun a' b' h1 h2 h3 => hnm a' b' h1 h2 ?_)
    rcases h3 with h3 | h3
    · by_cases e : a' = a
      · exact Or.inr ⟨e, h2⟩
      · exact Or.inl (by omega)
    · omega
  | succ k ih =>
    intro b lv hk2 hab l1 l2 l3 l4 l5 l6 hnm
    have hb : b < 8 := by omega
    obtain ⟨wb, qb⟩ := hr2.2.2 b hb
    have qb0 := qb
    unfold sok at qb0
    refine x_iload rfl l6 ?_
    refine x_bipush rfl (by decide) ?_
    refine x_cge (t := 132) rfl rfl ⟨by omega, by omega⟩ (by decide) (fun h => by omega) (fun _ => ?_)
    refine x_aload_n rfl l1 ?_
    refine x_iload_n rfl l3 ?_
    refine x_iload rfl l5 ?_
    refine x_iadd rfl ?_
    refine x_iaload rfl hp hf ⟨by omega, by omega⟩ hl ?_
    rw [wa]
    refine x_iconst rfl ?_
    refine x_idiv rfl ⟨by omega, by omega⟩ (by decide) ?_
    refine x_aload_n rfl l1 ?_
    refine x_iload_n rfl l3 ?_
    refine x_iload rfl l6 ?_
    refine x_iadd rfl ?_
    refine x_iaload rfl hp hf ⟨by omega, by omega⟩ hl ?_
    rw [wb]
    refine x_iconst rfl ?_
    refine x_idiv rfl ⟨by omega, by omega⟩ (by decide) ?_
    refine x_cne (t := 102) rfl rfl ⟨by omega, by omega⟩ ⟨by omega, by omega⟩ (fun hne => ?_) (fun heq => ?_)
    rotate_left
    · refine x_iconst rfl ?_
      refine x_ireturn rfl (Or.inl rfl) ⟨_, _, rfl, rfl, ?_, rfl⟩
      unfold sclash
      rw [hlv, smeet_t hab hb heq]
      rfl
    have hnm2 : snm r2 a (b + 1) := fun a' b' h1 h2 h3 => by
      rcases h3 with h3 | ⟨h3, h4⟩
      · exact hnm a' b' h1 h2 (Or.inl h3)
      · by_cases e : b' = b
        · rw [h3, e]; exact hne
        · exact hnm a' b' h1 h2 (Or.inr ⟨h3, by omega⟩)
    refine x_iload rfl l4 ?_
    by_cases hc : scx r r2 a b = true
    · rw [if_pos hc]
      refine x_ifne (t := 119) rfl rfl (by decide) (fun _ => ?_) (fun h => absurd h (by decide))
      refine x_iconst rfl ?_
      refine x_goto (t := 124) rfl rfl ?_
      refine x_istore rfl (show (4 : Nat) < 7 from by decide) ?_
      refine x_iinc rfl (xst_ne (by decide) l6 (Or.inl rfl)) (show (6 : Nat) < 7 from by decide) ?_
      refine x_goto (t := 74) rfl rfl ?_
      refine ih (b + 1) _ (by omega) (by omega) (xst_ne (by decide) (xst_ne (by decide) l1 (Or.inl rfl)) (Or.inl rfl)) (xst_ne (by decide) (xst_ne (by decide) l2 (Or.inl rfl)) (Or.inl rfl)) (xst_ne (by decide) (xst_ne (by decide) l3 (Or.inl rfl)) (Or.inl rfl)) ?_ (xst_ne (by decide) (xst_ne (by decide) l5 (Or.inl rfl)) (Or.inl rfl)) xst_eq hnm2
      rw [scx_s r r2 a b hab, hc]
      exact xst_ne (by decide) xst_eq (Or.inl rfl)
    · rw [if_neg hc]
      refine x_ifne (t := 119) rfl rfl (by decide) (fun h => absurd rfl h) (fun _ => ?_)
      refine x_aload_n rfl l1 ?_
      refine x_iload_n rfl l2 ?_
      refine x_iload rfl l5 ?_
      refine x_iload rfl l6 ?_
      refine x_call [_, _, _, _] rfl rfl (show (0 : Nat) ≤ 8 from by decide) (show (4 : Nat) ≤ 10 from by decide) rfl (xs_103 ha hb hp hf hl hr hr2 (hmv a ha) (hmv b hb)) (fun r' f1 hP => ?_)
      obtain ⟨rfl, rfl⟩ := hP
      by_cases hx : scr (r a) (r b) (r2 a) (r2 b) = true
      · rw [if_pos hx]
        refine x_ifeq (t := 123) rfl rfl (by decide) (fun h => absurd h (by decide)) (fun _ => ?_)
        refine x_iconst rfl ?_
        refine x_goto (t := 124) rfl rfl ?_
        refine x_istore rfl (show (4 : Nat) < 7 from by decide) ?_
        refine x_iinc rfl (xst_ne (by decide) l6 (Or.inl rfl)) (show (6 : Nat) < 7 from by decide) ?_
        refine x_goto (t := 74) rfl rfl ?_
        refine ih (b + 1) _ (by omega) (by omega) (xst_ne (by decide) (xst_ne (by decide) l1 (Or.inl rfl)) (Or.inl rfl)) (xst_ne (by decide) (xst_ne (by decide) l2 (Or.inl rfl)) (Or.inl rfl)) (xst_ne (by decide) (xst_ne (by decide) l3 (Or.inl rfl)) (Or.inl rfl)) ?_ (xst_ne (by decide) (xst_ne (by decide) l5 (Or.inl rfl)) (Or.inl rfl)) xst_eq hnm2
        rw [scx_s r r2 a b hab, hx, Bool.or_true]
        exact xst_ne (by decide) xst_eq (Or.inl rfl)
      · rw [if_neg hx]
        refine x_ifeq (t := 123) rfl rfl (by decide) (fun _ => ?_) (fun h => absurd rfl h)
        refine x_iconst rfl ?_
        refine x_istore rfl (show (4 : Nat) < 7 from by decide) ?_
        refine x_iinc rfl (xst_ne (by decide) l6 (Or.inl rfl)) (show (6 : Nat) < 7 from by decide) ?_
        refine x_goto (t := 74) rfl rfl ?_
        refine ih (b + 1) _ (by omega) (by omega) (xst_ne (by decide) (xst_ne (by decide) l1 (Or.inl rfl)) (Or.inl rfl)) (xst_ne (by decide) (xst_ne (by decide) l2 (Or.inl rfl)) (Or.inl rfl)) (xst_ne (by decide) (xst_ne (by decide) l3 (Or.inl rfl)) (Or.inl rfl)) ?_ (xst_ne (by decide) (xst_ne (by decide) l5 (Or.inl rfl)) (Or.inl rfl)) xst_eq hnm2
        rw [scx_s r r2 a b hab, bool_f hc, bool_f hx]
        exact xst_ne (by decide) xst_eq (Or.inl rfl)
theorem xs_104o {v0 : Value} {xs : List Int32} {u : Nat × Nat} {f : Nat → zE} {p : Nat} {fr : Int} {r r2 : Nat → Int} {l : List Int} {am : Nat → Int} (hp : 50 ≤ p ∧ p < 204) (hf : f p = xr 0 l) (hl : l.length ≤ 5000) (hr : sRL l fr r) (hr2 : sRL l (fr + 8) r2) (hmv : ∀ d, d < 8 → r2 d = smv (r d) (am d)) (hlv : sleave r2 = false) : ∀ (k a : Nat) (lv : zL), k + a = 8 → zlv lv 1 = some (.ref p) → zlv lv 2 = some (xi fr) → zlv lv 3 = some (xi (fr + 8)) → zlv lv 4 = some (xi (if scx r r2 a 0 = true then 1 else 0)) → zlv lv 5 = some (xi (a : Nat)) → snm r2 a 0 → xz v0 xs u (fun o X => ∃ r' f', o = .inl r' ∧ X = (xh f', u) ∧ (fun r' f' => r' = some (xi (sclash r r2)) ∧ f' = f) r' f') 104 61 lv [] f := by
  intro k
  induction k with
  | zero =>
    intro a lv hk2 l1 l2 l3 l4 l5 hnm
    have e : a = 8 := by omega
    subst e
    refine x_iload rfl l5 ?_
    refine x_bipush rfl (by decide) ?_
    refine x_cge (t := 138) rfl rfl (by decide) (by decide) (fun _ => ?_) (fun h => absurd h (by decide))
    refine x_iload rfl l4 ?_
    rw [scx_8]
    by_cases hc : scross r r2 = true
    · rw [if_pos hc]
      refine x_ifeq (t := 147) rfl rfl (by decide) (fun h => absurd h (by decide)) (fun _ => ?_)
      refine x_iconst rfl ?_
      refine x_goto (t := 148) rfl rfl ?_
      refine x_ireturn rfl (Or.inl rfl) ⟨_, _, rfl, rfl, ?_, rfl⟩
      unfold sclash
      rw [hlv, smeet_f hnm, hc]
      rfl
    · rw [if_neg hc]
      refine x_ifeq (t := 147) rfl rfl (by decide) (fun _ => ?_) (fun h => absurd rfl h)
      refine x_iconst rfl ?_
      refine x_ireturn rfl (Or.inl rfl) ⟨_, _, rfl, rfl, ?_, rfl⟩
      unfold sclash
      rw [hlv, smeet_f hnm, bool_f hc]
      rfl
  | succ k ih =>
    intro a lv hk2 l1 l2 l3 l4 l5 hnm
    have ha : a < 8 := by omega
    refine x_iload rfl l5 ?_
    refine x_bipush rfl (by decide) ?_
    refine x_cge (t := 138) rfl rfl ⟨by omega, by omega⟩ (by decide) (fun h => by omega) (fun _ => ?_)
    refine x_iload rfl l5 ?_
    refine x_iconst rfl ?_
    refine x_iadd rfl ?_
    refine x_istore rfl (show (6 : Nat) < 7 from by decide) ?_
    refine xs_104i hp hf hl hr hr2 hmv hlv ha (fun lv2 m1 m2 m3 m4 m5 hnm2 => ?_) (7 - a) (a + 1) _ (by omega) (by omega) (xst_ne (by decide) l1 (Or.inl rfl)) (xst_ne (by decide) l2 (Or.inl rfl)) (xst_ne (by decide) l3 (Or.inl rfl)) (by rw [scx_0]; exact xst_ne (by decide) l4 (Or.inl rfl)) (xst_ne (by decide) l5 (Or.inl rfl)) xst_eq (fun a' b' h1 h2 h3 => hnm a' b' h1 h2 (by omega))
    refine x_iinc rfl m5 (show (5 : Nat) < 7 from by decide) ?_
    refine x_goto (t := 61) rfl rfl ?_
    exact ih (a + 1) _ (by omega) (xst_ne (by decide) m1 (Or.inl rfl)) (xst_ne (by decide) m2 (Or.inl rfl)) (xst_ne (by decide) m3 (Or.inl rfl)) (by rw [scx_n]; exact xst_ne (by decide) m4 (Or.inl rfl)) xst_eq hnm2
theorem xs_104l {v0 : Value} {xs : List Int32} {u : Nat × Nat} {f0 : Nat → zE} {p : Nat} {fr : Int} {r r2 : Nat → Int} {l0 al : List Int} {am : Nat → Int} (hp : 50 ≤ p ∧ p < 204) (hp6 : p ≠ 116) (hp3 : p ≠ 113) (h113 : f0 113 = .inl (6, [.ref 53, .ref 114, .ref 116])) (hl0 : l0.length ≤ 5000) (hfr : 0 ≤ fr ∧ fr + 16 ≤ (l0.length : Nat)) (h116 : f0 116 = xr 0 al) (hal : al.length = 8) (ham : ∀ d, d < 8 → al.getD d 0 = am d ∧ 0 ≤ am d ∧ am d ≤ 6) (hr : sRL l0 fr r) (hmv : ∀ d, d < 8 → r2 d = smv (r d) (am d)) : ∀ (k d : Nat) (lv : zL) (f : Nat → zE) (l : List Int), k + d = 8 → f p = xr 0 l → l.length = l0.length → (∀ j : Nat, ((j : Nat) : Int) < fr + 8 ∨ fr + 16 ≤ (j : Nat) → l.getD j 0 = l0.getD j 0) → (∀ e, e < d → l.getD (fr + 8 + (e : Nat)).toNat 0 = r2 e ∧ sok (r2 e)) → (∀ q, q ≠ p → f q = f0 q) → zlv lv 0 = some (.ref 113) → zlv lv 1 = some (.ref p) → zlv lv 2 = some (xi fr) → zlv lv 3 = some (xi (fr + 8)) → zlv lv 4 = some (xi (d : Nat)) → xz v0 xs u (fun o X => ∃ r' f', o = .inl r' ∧ X = (xh f', u) ∧ (fun r' f' => r' = some (xi (sclash r r2)) ∧ (∃ l' : List Int, f' p = xr 0 l' ∧ l'.length = l0.length ∧ (∀ j : Nat, ((j : Nat) : Int) < fr + 8 ∨ fr + 16 ≤ (j : Nat) → l'.getD j 0 = l0.getD j 0) ∧ (sleave r2 = false → ∀ d, d < 8 → l'.getD (fr + 8 + (d : Nat)).toNat 0 = r2 d)) ∧ ∀ q, q ≠ p → f' q = f0 q) r' f') 104 8 lv [] f := by
  obtain ⟨g0, g8, hrd⟩ := hr
  intro k
  induction k with
  | zero =>
    intro d lv f l hk2 hf hll hpre hnew hfr2 m0 m1 m2 m3 m4
    have e : d = 8 := by omega
    subst e
    have hlv : sleave r2 = false := by
      unfold sleave
      refine sany_f fun e he => ?_
      have := (hnew e he).2
      unfold sok at this
      rw [beq_eq_false_iff_ne]
      omega
    have hr1 : sRL l fr r := ⟨g0, by omega, fun e he => by rw [hpre _ (by omega)]; exact hrd e he⟩
    have hr3 : sRL l (fr + 8) r2 := ⟨by omega, by omega, hnew⟩
    refine x_iload rfl m4 ?_
    refine x_bipush rfl (by decide) ?_
    refine x_cge (t := 55) rfl rfl (by decide) (by decide) (fun _ => ?_) (fun h => absurd h (by decide))
    refine x_iconst rfl ?_
    refine x_istore rfl (show (4 : Nat) < 7 from by decide) ?_
    refine x_iconst rfl ?_
    refine x_istore rfl (show (5 : Nat) < 7 from by decide) ?_
    refine zwp_mono (xs_104o hp hf (by omega) hr1 hr3 hmv hlv 8 0 _ rfl (xst_ne (by decide) (xst_ne (by decide) m1 (Or.inl rfl)) (Or.inl rfl)) (xst_ne (by decide) (xst_ne (by decide) m2 (Or.inl rfl)) (Or.inl rfl)) (xst_ne (by decide) (xst_ne (by decide) m3 (Or.inl rfl)) (Or.inl rfl)) (xst_ne (by decide) xst_eq (Or.inl rfl)) xst_eq (fun a' b' h1 h2 h3 => by omega)) ?_
    intro o X' hq
    obtain ⟨r9, f9, e1, e2, e3, rfl⟩ := hq
    exact ⟨r9, f9, e1, e2, e3, ⟨l, hf, hll, hpre, fun _ e he => (hnew e he).1⟩, hfr2⟩
  | succ k ih =>
    intro d lv f l hk2 hf hll hpre hnew hfr2 m0 m1 m2 m3 m4
    have hd : d < 8 := by omega
    obtain ⟨v1, v2⟩ := hrd d hd
    obtain ⟨a1, a2⟩ := ham d hd
    have w1 := hmv d hd
    have v3 := v2
    unfold sok at v3
    refine x_iload rfl m4 ?_
    refine x_bipush rfl (by decide) ?_
    refine x_cge (t := 55) rfl rfl ⟨by omega, by omega⟩ (by decide) (fun h => by omega) (fun _ => ?_)
    refine x_aload_n rfl m1 ?_
    refine x_iload_n rfl m2 ?_
    refine x_iload rfl m4 ?_
    refine x_iadd rfl ?_
    refine x_iaload rfl hp hf ⟨by omega, by omega⟩ (by omega) ?_
    rw [hpre _ (by omega), v1]
    refine x_aload_n rfl m0 ?_
    refine x_getfield rfl (by decide) ((hfr2 113 (fun h => hp3 h.symm)).trans h113) rfl ?_
    refine x_iload rfl m4 ?_
    refine x_iaload rfl (by decide) ((hfr2 116 (fun h => hp6 h.symm)).trans h116) ⟨by omega, by omega⟩ (by omega) ?_
    rw [Int.toNat_natCast, a1]
    refine x_call [_, _] rfl rfl (show (0 : Nat) ≤ 8 from by decide) (show (2 : Nat) ≤ 2 from by decide) rfl (xs_102 v2 a2) (fun r' f1 hP => ?_)
    obtain ⟨rfl, hPe⟩ := hP
    subst hPe
    rw [← w1]
    refine x_istore rfl (show (5 : Nat) < 7 from by decide) ?_
    refine x_iload rfl xst_eq ?_
    refine x_iconst rfl ?_
    have hsm := smv_ok (a := am d) v2
    rw [← w1] at hsm
    refine x_cne (t := 41) rfl rfl (by unfold sok at hsm; omega) (by decide) (fun hne => ?_) (fun heq => ?_)
    · have hok : sok (r2 d) := by
        rcases hsm with h | h
        · exact absurd h hne
        · exact h
      refine x_aload_n rfl (xst_ne (by decide) m1 (Or.inl rfl)) ?_
      refine x_iload_n rfl (xst_ne (by decide) m3 (Or.inl rfl)) ?_
      refine x_iload rfl (xst_ne (by decide) m4 (Or.inl rfl)) ?_
      refine x_iadd rfl ?_
      refine x_iload rfl xst_eq ?_
      refine x_iastore rfl hp hf ⟨by omega, by omega⟩ (by omega) ?_
      refine x_iinc rfl (xst_ne (by decide) m4 (Or.inl rfl)) (show (4 : Nat) < 7 from by decide) ?_
      refine x_goto (t := 8) rfl rfl ?_
      refine ih (d + 1) _ _ (l.set (fr + 8 + (d : Nat)).toNat (r2 d)) (by omega) xu_eq (by rw [List.length_set]; exact hll) (fun j hj => ?_) (fun e he => ?_) (fun q hq => xu_ne hq (hfr2 q hq)) (xst_ne (by decide) (xst_ne (by decide) m0 (Or.inl rfl)) (Or.inl rfl)) (xst_ne (by decide) (xst_ne (by decide) m1 (Or.inl rfl)) (Or.inl rfl)) (xst_ne (by decide) (xst_ne (by decide) m2 (Or.inl rfl)) (Or.inl rfl)) (xst_ne (by decide) (xst_ne (by decide) m3 (Or.inl rfl)) (Or.inl rfl)) xst_eq
      · rw [x_gset, if_neg (by omega)]
        exact hpre j hj
      · rw [x_gset]
        by_cases h9 : e = d
        · rw [if_pos ⟨by omega, by omega⟩, h9]
          exact ⟨rfl, hok⟩
        · rw [if_neg (by omega)]
          exact hnew e (by omega)
    · refine x_iconst rfl ?_
      have hlv : sleave r2 = true := sany_t (j := d) hd (by rw [beq_iff_eq]; exact heq)
      refine x_ireturn rfl (Or.inl rfl) ⟨_, _, rfl, rfl, ?_, ⟨l, hf, hll, hpre, fun h => ?_⟩, hfr2⟩
      · unfold sclash
        rw [hlv]
        rfl
      · rw [hlv] at h
        cases h
theorem xs_104 {v0 : Value} {xs : List Int32} {u : Nat × Nat} {f : Nat → zE} {p : Nat} {fr : Int} {r r2 : Nat → Int} {l al : List Int} {am : Nat → Int} (hp : 50 ≤ p ∧ p < 204) (hp6 : p ≠ 116) (hp3 : p ≠ 113) (h113 : f 113 = .inl (6, [.ref 53, .ref 114, .ref 116])) (hl0 : l.length ≤ 5000) (hfr : 0 ≤ fr ∧ fr + 16 ≤ (l.length : Nat)) (h116 : f 116 = xr 0 al) (hal : al.length = 8) (ham : ∀ d, d < 8 → al.getD d 0 = am d ∧ 0 ≤ am d ∧ am d ≤ 6) (hf : f p = xr 0 l) (hr : sRL l fr r) (hmv : ∀ d, d < 8 → r2 d = smv (r d) (am d)) : xq v0 xs u 104 [(0, .ref 113), (1, .ref p), (2, xi fr)] f (fun r' f' => r' = some (xi (sclash r r2)) ∧ (∃ l' : List Int, f' p = xr 0 l' ∧ l'.length = l.length ∧ (∀ j : Nat, ((j : Nat) : Int) < fr + 8 ∨ fr + 16 ≤ (j : Nat) → l'.getD j 0 = l.getD j 0) ∧ (sleave r2 = false → ∀ d, d < 8 → l'.getD (fr + 8 + (d : Nat)).toNat 0 = r2 d)) ∧ ∀ q, q ≠ p → f' q = f q) := by
  unfold xq
  refine x_iload_n rfl rfl ?_
  refine x_bipush rfl (by decide) ?_
  refine x_iadd rfl ?_
  refine x_istore_n rfl (show (3 : Nat) < 7 from by decide) ?_
  refine x_iconst rfl ?_
  refine x_istore rfl (show (4 : Nat) < 7 from by decide) ?_
  exact xs_104l hp hp6 hp3 h113 hl0 hfr h116 hal ham hr hmv 8 0 _ f l rfl hf rfl (fun _ _ => rfl) (fun e he => absurd he (Nat.not_lt_zero e)) (fun _ _ => rfl) (xst_ne (by decide) (xst_ne (by decide) rfl (Or.inl rfl)) (Or.inl rfl)) (xst_ne (by decide) (xst_ne (by decide) rfl (Or.inl rfl)) (Or.inl rfl)) (xst_ne (by decide) (xst_ne (by decide) rfl (Or.inl rfl)) (Or.inl rfl)) (xst_ne (by decide) xst_eq (Or.inl rfl)) xst_eq
