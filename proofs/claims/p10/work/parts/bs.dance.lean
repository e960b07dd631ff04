/-! Allow. -/
/-- which calls are allowed: the class, the model -/
def sAC (f : Nat → zE) (al : Nat → Bool) : Prop := ∀ i, i < 12 → ∃ (nm : Int64) (b d : Value), f (57 + 4 * i) = xfg i nm b d (xi (if al i = true then 1 else 0))
def sAD (f : Nat → zE) (al : Nat → Bool) : Prop := ∃ bl : List Int, f 198 = xr 2 bl ∧ bl.length = 12 ∧ ∀ i, i < 12 → bl.getD i 0 = if al i = true then 1 else 0
def soth (al : Nat → Bool) (c : Int) (k : Nat) : Int := scnt (fun i => al i && !(((i : Nat) : Int) == c)) k
/-- behind an allow -/
def sal1 (n : Nat) (al : Nat → Bool) (c y : Int) (i : Nat) : Bool := if (0 ≤ c ∧ c < (n : Nat)) ∧ soth al c n < 5 ∧ ((i : Nat) : Int) = c then decide (y = 1) else al i
theorem xs_153 {v0 : Value} {xs : List Int32} {u : Nat × Nat} {f : Nat → zE} {n : Nat} {kp pt c : Int} {al : Nat → Bool} (hn : n ≤ 12) (hc : -2147483648 ≤ c ∧ c ≤ 2147483647) (h53 : f 53 = xbo (n : Nat) kp pt) (h54 : f 54 = .inr (.inr (.inr (3, xfl)))) (hA : sAC f al) : xq v0 xs u 153 [(0, .ref 53), (1, xi c)] f (fun r' f' => r' = some (xi (soth al c n)) ∧ f' = f) := by
  unfold xq
  have lp : ∀ (w i : Nat) (lv : zL), w + i = n → zlv lv 0 = some (.ref 53) → zlv lv 1 = some (xi c) → zlv lv 2 = some (xi (soth al c i)) → zlv lv 3 = some (xi (i : Nat)) → xz v0 xs u (fun o X => ∃ r' f', o = .inl r' ∧ X = (xh f', u) ∧ (fun r' f' => r' = some (xi (soth al c n)) ∧ f' = f) r' f') 153 4 lv [] f := by
    intro w
    induction w with
    | zero =>
      intro i lv hw l0 l1 l2 l3
      have e8 : i = n := by omega
      subst e8
      refine x_iload_n rfl l3 ?_
      refine x_aload_n rfl l0 ?_
      refine x_getfield rfl (by decide) h53 rfl ?_
      refine x_cge (t := 38) rfl rfl ⟨by omega, by omega⟩ ⟨by omega, by omega⟩ (fun _ => ?_) (fun h => by omega)
      refine x_iload_n rfl l2 ?_
      exact x_ireturn rfl (Or.inl rfl) ⟨_, _, rfl, rfl, rfl, rfl⟩
    | succ w ih =>
      intro i lv hw l0 l1 l2 l3
      have hr := scnt_rg (fun i => al i && !(((i : Nat) : Int) == c)) i
      have es : soth al c (i + 1) = soth al c i + if (al i && !(((i : Nat) : Int) == c)) = true then 1 else 0 := rfl
      obtain ⟨nm, b, d, hf⟩ := hA i (by omega)
      refine x_iload_n rfl l3 ?_
      refine x_aload_n rfl l0 ?_
      refine x_getfield rfl (by decide) h53 rfl ?_
      refine x_cge (t := 38) rfl rfl ⟨by omega, by omega⟩ ⟨by omega, by omega⟩ (fun h => by omega) (fun _ => ?_)
      refine x_iload_n rfl l3 ?_
      refine x_iload_n rfl l1 ?_
      have skip : (al i && !(((i : Nat) : Int) == c)) = false → xz v0 xs u (fun o X => ∃ r' f', o = .inl r' ∧ X = (xh f', u) ∧ (fun r' f' => r' = some (xi (soth al c n)) ∧ f' = f) r' f') 153 32 lv [] f := by
        intro hq
        refine x_iinc rfl l3 (show (3 : Nat) < 4 from by decide) ?_
        refine x_goto (t := 4) rfl rfl ?_
        refine ih (i + 1) _ (by omega) (xst_ne (by decide) l0 (Or.inl rfl)) (xst_ne (by decide) l1 (Or.inl rfl)) (xst_ne (by decide) ?_ (Or.inl rfl)) xst_eq
        rw [es, hq, if_neg (by decide), Int.add_zero]
        exact l2
      refine x_ceq (t := 32) rfl rfl ⟨by omega, by omega⟩ hc (fun he => skip ?_) (fun he => ?_)
      · rw [beq_iff_eq.mpr he, Bool.not_true, Bool.and_false]
      · refine x_aload_n rfl l0 ?_
        refine x_getfield rfl (by decide) h53 rfl ?_
        refine x_iload_n rfl l3 ?_
        refine x_aaload rfl (by decide) h54 ⟨by omega, by rw [show xfl.length = 13 from rfl]; omega⟩ (by decide) (o := 57 + 4 * i) (by rw [Int.toNat_natCast]; exact xfl_at (by omega)) ?_
        refine x_getfield rfl (by omega) hf rfl ?_
        cases ha : al i with
        | false =>
          refine x_ifeq (t := 32) rfl rfl (by decide) (fun _ => skip ?_) (fun h => absurd rfl h)
          rw [ha]
          rfl
        | true =>
          refine x_ifeq (t := 32) rfl rfl (by decide) (fun h => absurd h (by decide)) (fun _ => ?_)
          refine x_iinc rfl l2 (show (2 : Nat) < 4 from by decide) ?_
          refine x_iinc rfl (xst_ne (by decide) l3 (Or.inl rfl)) (show (3 : Nat) < 4 from by decide) ?_
          refine x_goto (t := 4) rfl rfl ?_
          refine ih (i + 1) _ (by omega) (xst_ne (by decide) (xst_ne (by decide) l0 (Or.inl rfl)) (Or.inl rfl)) (xst_ne (by decide) (xst_ne (by decide) l1 (Or.inl rfl)) (Or.inl rfl)) (xst_ne (by decide) ?_ (Or.inl rfl)) xst_eq
          rw [es, ha, beq_eq_false_iff_ne.mpr he, if_pos (show (true && !false) = true from rfl)]
          exact xst_eq
  refine x_iconst rfl ?_
  refine x_istore_n rfl (show (2 : Nat) < 4 from by decide) ?_
  refine x_iconst rfl ?_
  refine x_istore_n rfl (show (3 : Nat) < 4 from by decide) ?_
  exact lp n 0 _ (by omega) (xst_ne (by decide) (xst_ne (by decide) rfl (Or.inl rfl)) (Or.inl rfl)) (xst_ne (by decide) (xst_ne (by decide) rfl (Or.inl rfl)) (Or.inl rfl)) (xst_ne (by decide) xst_eq (Or.inl rfl)) xst_eq
/-- what the class's allow comes to -/
def sAQ (f : Nat → zE) (u : Nat × Nat) (al1 : Nat → Bool) (o : zO) (X : zX) : Prop := ∃ f' : Nat → zE, ((o = .inl none ∧ X = (xh f', u)) ∨ (∃ x, o = .inr x ∧ (x = 100 ∨ x = 101) ∧ X = (xh f', u.1 + 1, u.2 + 6))) ∧ sAC f' al1 ∧ ∀ q, ¬ (57 ≤ q ∧ q ≤ 108) → f' q = f q
theorem sAC_c {f : Nat → zE} {al al' : Nat → Bool} (h : sAC f al) (e : ∀ i, i < 12 → al' i = al i) : sAC f al' := fun i hi => by
  rw [e i hi]
  exact h i hi
theorem xs_154 {v0 : Value} {xs : List Int32} {u : Nat × Nat} {f : Nat → zE} {K : List (Int × Int)} {G : Nat → List xBt} {n : Nat} {c y : Int} {S : sS} {al : Nat → Bool} (hT : sCT f K G S) (hCK : sCK f K G n) (hA : sAC f al) (hc : -2147483648 ≤ c ∧ c ≤ 2147483647) (hy : y = 0 ∨ y = 1) : xz v0 xs u (sAQ f u (sal1 n al c y)) 154 0 [(0, .ref 50), (1, xi c), (2, xi y)] [] f := by
  obtain ⟨⟨lf, h50⟩, -⟩ := id hT
  obtain ⟨hn, ⟨kp, pt, h53⟩, h54, -⟩ := id hCK
  refine x_aload_n rfl rfl ?_
  refine x_iload_n rfl rfl ?_
  refine x_callU [_, _] rfl rfl (show (0 : Nat) ≤ 8 from by decide) (show (2 : Nat) ≤ 2 from by decide) (x_rcv (by decide) h50) (Q2 := fun o X => (o = .inl none ∧ X = (xh f, u) ∧ 0 ≤ c ∧ c < (n : Nat)) ∨ (o = .inr 100 ∧ X = (xh f, u.1 + 1, u.2 + 6) ∧ ¬ (0 ≤ c ∧ c < (n : Nat)))) (xs_86 hn hc h50 h53 (fun h1 h2 => Or.inl ⟨rfl, rfl, h1, h2⟩) (fun h => Or.inr ⟨rfl, rfl, h⟩)) (fun r' X' hq => ?_) (fun x X' hq => ?_)
  rotate_left
  · rcases hq with ⟨e1, -⟩ | ⟨e1, e2, h⟩
    · cases e1
    · cases e1
      subst e2
      refine ⟨rfl, f, Or.inr ⟨100, rfl, Or.inl rfl, rfl⟩, sAC_c hA fun i _ => ?_, fun _ _ => rfl⟩
      unfold sal1
      rw [if_neg fun hh => h hh.1]
  rcases hq with ⟨e1, e2, h1, h2⟩ | ⟨e1, -⟩
  rotate_left
  · cases e1
  cases e1
  subst e2
  show xz v0 xs u _ 154 5 _ [] f
  have hr := scnt_rg (fun i => al i && !(((i : Nat) : Int) == c)) n
  have hr2 : 0 ≤ soth al c n ∧ soth al c n ≤ (n : Nat) := hr
  refine x_aload_n rfl rfl ?_
  refine x_getfield rfl (by decide) h50 rfl ?_
  refine x_iload_n rfl rfl ?_
  refine x_call [_, _] rfl rfl (show (0 : Nat) ≤ 8 from by decide) (show (2 : Nat) ≤ 4 from by decide) (x_rcv (by decide) h53) (xs_153 hn hc h53 h54 hA) (fun r' f' hP => ?_)
  obtain ⟨rfl, hPe⟩ := hP
  subst f'
  refine x_iconst rfl ?_
  refine x_clt (t := 27) rfl rfl ⟨by omega, by omega⟩ (by decide) (fun h5 => ?_) (fun h5 => ?_)
  rotate_left
  · refine x_throw rfl (by decide) rfl (show (0 : Nat) ≤ 4 from by decide) ?_
    refine ⟨f, Or.inr ⟨101, rfl, Or.inr rfl, rfl⟩, sAC_c hA fun i _ => ?_, fun _ _ => rfl⟩
    unfold sal1
    rw [if_neg (fun hh => by omega)]
  obtain ⟨k, rfl⟩ : ∃ k : Nat, c = (k : Nat) := ⟨c.toNat, by omega⟩
  obtain ⟨nm, b, d, hf⟩ := hA k (by omega)
  refine x_aload_n rfl rfl ?_
  refine x_getfield rfl (by decide) h50 rfl ?_
  refine x_iload_n rfl rfl ?_
  refine x_call [_, _] rfl rfl (show (0 : Nat) ≤ 8 from by decide) (show (2 : Nat) ≤ 2 from by decide) (x_rcv (by decide) h53) (xs_44 (by omega) h53 h54) (fun r' f' hP => ?_)
  obtain ⟨rfl, hPe⟩ := hP
  subst f'
  refine x_iload_n rfl rfl ?_
  refine x_putfield rfl (by omega) hf (show (6 : Nat) < 7 from by decide) (by rcases hy with rfl | rfl <;> decide) ?_
  refine x_return rfl ⟨_, Or.inl ⟨rfl, rfl⟩, fun i hi => ?_, fun q hq => xu_ne (by omega) rfl⟩
  by_cases hik : i = k
  · subst hik
    have e : sal1 n al ((i : Nat) : Int) y i = decide (y = 1) := by unfold sal1; rw [if_pos ⟨⟨h1, h2⟩, h5, rfl⟩]
    refine ⟨nm, b, d, ?_⟩
    rw [e, xu_eq]
    rcases hy with rfl | rfl <;> rfl
  · have e : sal1 n al ((k : Nat) : Int) y i = al i := by unfold sal1; rw [if_neg (fun hh => by omega)]
    obtain ⟨nm', b', d', hf'⟩ := hA i hi
    refine ⟨nm', b', d', ?_⟩
    rw [e]
    exact xu_ne (by omega) hf'
theorem soth_12 {al : Nat → Bool} {c : Int} {n : Nat} (hal : ∀ i, n ≤ i → al i = false) : ∀ k, soth al c (n + k) = soth al c n := by
  intro k
  induction k with
  | zero => rfl
  | succ k ih =>
    have es : soth al c (n + (k + 1)) = soth al c (n + k) + if (al (n + k) && !(((n + k : Nat) : Int) == c)) = true then 1 else 0 := rfl
    rw [es, ih, hal (n + k) (by omega), Bool.false_and, if_neg (by decide), Int.add_zero]
/-- five others allowed: then the call itself is not -/
theorem soth_5 {al : Nat → Bool} {c : Nat} : ∀ k : Nat, scnt al k = soth al (c : Nat) k + if c < k ∧ al c = true then 1 else 0 := by
  intro k
  induction k with
  | zero =>
    rw [if_neg (fun h => absurd h.1 (Nat.not_lt_zero _))]
    rfl
  | succ k ih =>
    have es : soth al (c : Nat) (k + 1) = soth al (c : Nat) k + if (al k && !(((k : Nat) : Int) == ((c : Nat) : Int))) = true then 1 else 0 := rfl
    have ec : scnt al (k + 1) = scnt al k + if al k = true then 1 else 0 := rfl
    rw [es, ec, ih]
    by_cases hck : c = k
    · subst hck
      rw [if_neg (fun h => absurd h.1 (Nat.lt_irrefl c)), beq_iff_eq.mpr rfl, Bool.not_true, Bool.and_false, if_neg (by decide : ¬ (false = true))]
      by_cases ha : al c = true
      · rw [if_pos ha, if_pos ⟨Nat.lt_succ_self c, ha⟩]
      · rw [if_neg ha, if_neg (fun h => ha h.2)]
    · rw [beq_eq_false_iff_ne.mpr (show ((k : Nat) : Int) ≠ ((c : Nat) : Int) by omega), Bool.not_false, Bool.and_true]
      generalize (if al k = true then (1 : Int) else 0) = z
      by_cases hlt : c < k ∧ al c = true
      · rw [if_pos hlt, if_pos (show c < k + 1 ∧ al c = true from ⟨by omega, hlt.2⟩)]
        omega
      · rw [if_neg hlt, if_neg (show ¬ (c < k + 1 ∧ al c = true) from fun h => hlt ⟨by omega, h.2⟩)]
        omega
theorem xs_156l {v0 : Value} {xs : List Int32} {u : Nat × Nat} {Q : zO → zX → Prop} {f0 : Nat → zE} {fs : List Value} {bl : List Int} {al : Nat → Bool} {c y : Int} (h177 : f0 177 = .inl (10, fs)) (f0' : fs[0]? = some (xi 0)) (f35 : fs[35]? = some (.ref 198)) (h198 : f0 198 = xr 2 bl) (hbl : bl.length = 12) (hb : ∀ i, i < 12 → bl.getD i 0 = if al i = true then 1 else 0) (hc : -2147483648 ≤ c ∧ c ≤ 2147483647) (hk : ∀ lv : zL, zlv lv 0 = some (.ref 177) → zlv lv 1 = some (xi c) → zlv lv 2 = some (xi y) → zlv lv 3 = some (xi (soth al c 12)) → xz v0 xs u Q 156 66 lv [] f0) : ∀ (w k : Nat) (lv : zL), w + k = 12 → zlv lv 0 = some (.ref 177) → zlv lv 1 = some (xi c) → zlv lv 2 = some (xi y) → zlv lv 3 = some (xi (soth al c k)) → zlv lv 4 = some (xi (k : Nat)) → xz v0 xs u Q 156 22 lv [] f0 := by
  intro w
  induction w with
  | zero =>
    intro k lv hw l0 l1 l2 l3 l4
    have e8 : k = 12 := by omega
    subst e8
    refine x_iload rfl l4 ?_
    refine x_bipush rfl (by decide) ?_
    refine x_cge (t := 66) rfl rfl (by decide) (by decide) (fun _ => ?_) (fun h => absurd h (by decide))
    exact hk lv l0 l1 l2 l3
  | succ w ih =>
    intro k lv hw l0 l1 l2 l3 l4
    have es : soth al c (k + 1) = soth al c k + if (al k && !(((k : Nat) : Int) == c)) = true then 1 else 0 := rfl
    have hbk := hb k (by omega)
    refine x_iload rfl l4 ?_
    refine x_bipush rfl (by decide) ?_
    refine x_cge (t := 66) rfl rfl ⟨by omega, by omega⟩ (by decide) (fun h => absurd h (by omega)) (fun _ => ?_)
    refine x_aload_n rfl l0 ?_
    refine x_getfield rfl (by decide) h177 f0' ?_
    refine x_ifne (t := 66) rfl rfl (by decide) (fun h => absurd rfl h) (fun _ => ?_)
    refine x_iload_n rfl l3 ?_
    refine x_dia (if (al k && !(((k : Nat) : Int) == c)) = true then 1 else 0) 58 (fun kk => ?_) ?_
    · refine x_aload_n rfl l0 ?_
      refine x_getfield rfl (by decide) h177 f35 ?_
      refine x_iload rfl l4 ?_
      refine x_baload rfl (by decide) h198 ⟨by omega, by omega⟩ (by omega) ?_
      rw [Int.toNat_natCast, hbk]
      cases ha : al k with
      | false =>
        refine x_ifeq (t := 57) rfl rfl (by decide) (fun _ => ?_) (fun h => absurd rfl h)
        refine x_iconst rfl ?_
        rw [ha, Bool.false_and, if_neg (by decide)] at kk
        exact kk
      | true =>
        refine x_ifeq (t := 57) rfl rfl (by decide) (fun h => absurd h (by decide)) (fun _ => ?_)
        refine x_iload rfl l4 ?_
        refine x_iload_n rfl l1 ?_
        refine x_ceq (t := 57) rfl rfl ⟨by omega, by omega⟩ hc (fun he => ?_) (fun he => ?_)
        · refine x_iconst rfl ?_
          rw [beq_iff_eq.mpr he, Bool.not_true, Bool.and_false, if_neg (by decide)] at kk
          exact kk
        · refine x_iconst rfl ?_
          refine x_goto (t := 58) rfl rfl ?_
          rw [ha, beq_eq_false_iff_ne.mpr he, Bool.not_false, Bool.and_true, if_pos rfl] at kk
          exact kk
    refine x_iadd rfl ?_
    refine x_istore_n rfl (show (3 : Nat) < 5 from by decide) ?_
    refine x_iinc rfl (xst_ne (by decide) l4 (Or.inl rfl)) (show (4 : Nat) < 5 from by decide) ?_
    refine x_goto (t := 22) rfl rfl ?_
    exact ih (k + 1) _ (by omega) (xst_ne (by decide) (xst_ne (by decide) l0 (Or.inl rfl)) (Or.inl rfl)) (xst_ne (by decide) (xst_ne (by decide) l1 (Or.inl rfl)) (Or.inl rfl)) (xst_ne (by decide) (xst_ne (by decide) l2 (Or.inl rfl)) (Or.inl rfl)) (xst_ne (by decide) xst_eq (Or.inl rfl)) xst_eq
/-- the model's allow: its state -/
theorem xs_156 {v0 : Value} {xs : List Int32} {u : Nat × Nat} {f : Nat → zE} {n : Nat} {S : sS} (hM : yM yT2 (xh f)) (hT : sMT f n S) (hn : n ≤ 12) {al : Nat → Bool} (hA : sAD f al) (hal : ∀ i, n ≤ i → al i = false) (h5 : scnt al n ≤ 5) {c y : Int} (hc : -2147483648 ≤ c ∧ c ≤ 2147483647) (hy : y = 0 ∨ y = 1) : xq v0 xs u 156 [(0, .ref 177), (1, xi c), (2, xi y)] f (fun r' f' => r' = none ∧ sMT f' n S ∧ sAD f' (sal1 n al c y) ∧ ∀ q, q ≠ 177 → q ≠ 198 → f' q = f q) := by
  unfold xq
  obtain ⟨⟨fs, hB⟩, hX, hJ, hC⟩ := id hT
  have hB0 := hB
  obtain ⟨⟨h177, hfl, ⟨f11, f13, f14, f15, f17, f18⟩, h25, h26, h27⟩, ⟨a1, a2, a3, a4, a5, a6⟩, h9, h31, h30⟩ := hB
  have f35 : fs[35]? = some (.ref 198) := by
    obtain ⟨fs', e1, -, e3⟩ := xT_o (p := 177) hM (by decide) yT2_177
    rw [h177] at e1
    cases e1
    obtain ⟨v, hv, hg⟩ := e3 35 _ rfl
    rw [hv, yg_rf hg]
  obtain ⟨bl, h198, hbl, hb⟩ := id hA
  have T1 : ∀ v w : Value, sMT (xu (xu f 177 (.inl (10, fs.set 0 v))) 177 (.inl (10, (fs.set 0 v).set 0 w))) n S := by
    intro v w
    obtain ⟨ax, ay, af, c1, c2, c3, c4⟩ := hC
    exact ⟨⟨_, sMB_0 (sMB_0 (f' := fun _ => .inl (10, fs.set 0 v)) hB0 rfl) xu_eq⟩, sMX_f hX (fun q _ _ => xu_ne (by omega) (xu_ne (by omega) rfl)), sMJ_f hJ (fun q _ _ => xu_ne (by omega) (xu_ne (by omega) rfl)), ax, ay, af, xu_ne (by decide) (xu_ne (by decide) c1), xu_ne (by decide) (xu_ne (by decide) c2), xu_ne (by decide) (xu_ne (by decide) c3), c4⟩
  refine x_aload_n rfl rfl ?_
  refine x_aload_n rfl rfl ?_
  refine x_iload_n rfl rfl ?_
  refine x_call [_, _] rfl rfl (show (1 : Nat) ≤ 8 from by decide) (show (2 : Nat) ≤ 2 from by decide) (x_rcv (by decide) h177) (xs_89 hB0 hc ⟨by omega, by omega⟩) ?_
  intro r' f9 hP
  obtain ⟨rfl, hPe⟩ := hP
  subst f9
  by_cases h1 : 0 ≤ c ∧ c < (n : Nat)
  rotate_left
  · rw [if_neg h1]
    refine x_ifeq (t := 13) rfl rfl (by decide) (fun _ => ?_) (fun h => absurd rfl h)
    refine x_iconst rfl ?_
    refine x_putfield rfl (by decide) h177 (show (0 : Nat) < _ from by rw [hfl]; decide) rfl ?_
    refine x_iconst rfl ?_
    refine x_istore_n rfl (show (3 : Nat) < 5 from by decide) ?_
    refine x_iconst rfl ?_
    refine x_istore rfl (show (4 : Nat) < 5 from by decide) ?_
    refine x_iload rfl xst_eq ?_
    refine x_bipush rfl (by decide) ?_
    refine x_cge (t := 66) rfl rfl (by decide) (by decide) (fun h => absurd h (by decide)) (fun _ => ?_)
    refine x_aload_n rfl (xst_ne (by decide) (xst_ne (by decide) rfl (Or.inl rfl)) (Or.inl rfl)) ?_
    refine x_getfield rfl (by decide) xu_eq (sget_eq (by rw [hfl]; decide)) ?_
    refine x_ifne (t := 66) rfl rfl (by decide) (fun _ => ?_) (fun h => absurd h (by decide))
    refine x_aload_n rfl (xst_ne (by decide) (xst_ne (by decide) rfl (Or.inl rfl)) (Or.inl rfl)) ?_
    refine x_aload_n rfl (xst_ne (by decide) (xst_ne (by decide) rfl (Or.inl rfl)) (Or.inl rfl)) ?_
    refine x_getfield rfl (by decide) xu_eq (sget_eq (by rw [hfl]; decide)) ?_
    refine x_ifne (t := 87) rfl rfl (by decide) (fun _ => ?_) (fun h => absurd h (by decide))
    refine x_aload_n rfl (xst_ne (by decide) (xst_ne (by decide) rfl (Or.inl rfl)) (Or.inl rfl)) ?_
    refine x_getfield rfl (by decide) xu_eq (sget_eq (by rw [hfl]; decide)) ?_
    refine x_putfield rfl (by decide) xu_eq (show (0 : Nat) < _ from by rw [(slen hfl)]; decide) rfl ?_
    refine x_aload_n rfl (xst_ne (by decide) (xst_ne (by decide) rfl (Or.inl rfl)) (Or.inl rfl)) ?_
    refine x_getfield rfl (by decide) xu_eq (sget_eq (by rw [(slen hfl)]; decide)) ?_
    refine x_ifne (t := 108) rfl rfl (by decide) (fun _ => ?_) (fun h => absurd h (by decide))
    exact x_return rfl ⟨_, _, rfl, rfl, rfl, T1 _ _, ⟨bl, xu_ne (by decide) (xu_ne (by decide) h198), hbl, fun i hi => by rw [show sal1 n al c y i = al i by unfold sal1; rw [if_neg (fun hh => h1 hh.1)]]; exact hb i hi⟩, fun q b1 b2 => xu_ne b1 (xu_ne b1 rfl)⟩
  rw [if_pos h1]
  refine x_ifeq (t := 13) rfl rfl (by decide) (fun h => absurd h (by decide)) (fun _ => ?_)
  refine x_iconst rfl ?_
  refine x_goto (t := 14) rfl rfl ?_
  refine x_putfield rfl (by decide) h177 (show (0 : Nat) < _ from by rw [hfl]; decide) rfl ?_
  refine x_iconst rfl ?_
  refine x_istore_n rfl (show (3 : Nat) < 5 from by decide) ?_
  refine x_iconst rfl ?_
  refine x_istore rfl (show (4 : Nat) < 5 from by decide) ?_
  obtain ⟨k, rfl⟩ : ∃ k : Nat, c = (k : Nat) := ⟨c.toNat, by omega⟩
  have h5k := soth_5 (al := al) (c := k) n
  have hr := scnt_rg (fun i => al i && !(((i : Nat) : Int) == ((k : Nat) : Int))) n
  have hr2 : 0 ≤ soth al (k : Nat) n ∧ soth al (k : Nat) n ≤ (n : Nat) := hr
  refine xs_156l (al := al) (y := y) xu_eq (sget_eq (by rw [hfl]; decide)) (sget_ne (by decide) f35) (xu_ne (by decide) h198) hbl hb hc (fun lv m0 m1 m2 m3 => ?_) 12 0 _ rfl (xst_ne (by decide) (xst_ne (by decide) rfl (Or.inl rfl)) (Or.inl rfl)) (xst_ne (by decide) (xst_ne (by decide) rfl (Or.inl rfl)) (Or.inl rfl)) (xst_ne (by decide) (xst_ne (by decide) rfl (Or.inl rfl)) (Or.inl rfl)) (xst_ne (by decide) xst_eq (Or.inl rfl)) xst_eq
  rw [show (12 : Nat) = n + (12 - n) by omega, soth_12 hal] at m3
  generalize hs9 : soth al (k : Nat) n = s at m3 h5k hr2
  have keep : (y = 1 ∧ 5 ≤ s) → ∀ i, i < 12 → bl.getD i 0 = if sal1 n al (k : Nat) y i = true then 1 else 0 := by
    intro hh i hi
    rw [show sal1 n al (k : Nat) y i = al i by unfold sal1; rw [hs9, if_neg (fun h => by omega)]]
    exact hb i hi
  have setd : (y = 0 ∨ s < 5) → ∀ i, i < 12 → (bl.set k y).getD i 0 = if sal1 n al (k : Nat) y i = true then 1 else 0 := by
    intro hh i hi
    rw [x_gset]
    by_cases hik : k = i
    · subst hik
      rw [if_pos ⟨rfl, by omega⟩]
      by_cases hs5 : s < 5
      · rw [show sal1 n al (k : Nat) y k = decide (y = 1) by unfold sal1; rw [hs9, if_pos ⟨h1, hs5, rfl⟩]]
        rcases hy with rfl | rfl <;> rfl
      · have hy0 : y = 0 := by omega
        subst hy0
        rw [show sal1 n al (k : Nat) 0 k = al k by unfold sal1; rw [hs9, if_neg (fun h => hs5 h.2.1)]]
        by_cases hak : al k = true
        · rw [if_pos ⟨by omega, hak⟩] at h5k
          omega
        · rw [if_neg hak]
    · rw [if_neg (fun h => hik h.1), show sal1 n al (k : Nat) y i = al i by unfold sal1; rw [hs9, if_neg (fun h => hik (by omega))]]
      exact hb i hi
  refine x_aload_n rfl m0 ?_
  refine x_aload_n rfl m0 ?_
  refine x_getfield rfl (by decide) xu_eq (sget_eq (by rw [hfl]; decide)) ?_
  refine x_ifne (t := 87) rfl rfl (by decide) (fun h => absurd rfl h) (fun _ => ?_)
  refine x_iload_n rfl m2 ?_
  rcases hy with rfl | rfl
  · refine x_ifeq (t := 87) rfl rfl (by decide) (fun _ => ?_) (fun h => absurd rfl h)
    refine x_aload_n rfl m0 ?_
    refine x_getfield rfl (by decide) xu_eq (sget_eq (by rw [hfl]; decide)) ?_
    refine x_putfield rfl (by decide) xu_eq (show (0 : Nat) < _ from by rw [(slen hfl)]; decide) rfl ?_
    refine x_aload_n rfl m0 ?_
    refine x_getfield rfl (by decide) xu_eq (sget_eq (by rw [(slen hfl)]; decide)) ?_
    refine x_ifne (t := 108) rfl rfl (by decide) (fun h => absurd rfl h) (fun _ => ?_)
    refine x_aload_n rfl m0 ?_
    refine x_getfield rfl (by decide) xu_eq (sget_ne (by decide) (sget_ne (by decide) f35)) ?_
    refine x_iload_n rfl m1 ?_
    refine x_iload_n rfl m2 ?_
    refine x_bastore rfl (by decide) (xu_ne (by decide) (xu_ne (by decide) h198)) ⟨by omega, by omega⟩ (by omega) (by decide) ?_
    have T9 := T1 (xi 0) (xi 0)
    refine x_return rfl ⟨_, _, rfl, rfl, rfl, ?_, ⟨_, xu_eq, by rw [List.length_set]; exact hbl, by rw [Int.toNat_natCast]; exact setd (Or.inl rfl)⟩, fun q b1 b2 => xu_ne b2 (xu_ne b1 (xu_ne b1 rfl))⟩
    obtain ⟨⟨fs9, hB9⟩, hX9, hJ9, ax, ay, af, c1, c2, c3, c4⟩ := T9
    exact ⟨⟨fs9, sMB_f hB9 (xu_ne (by decide) rfl)⟩, sMX_f hX9 (fun q _ _ => xu_ne (by omega) rfl), sMJ_f hJ9 (fun q _ _ => xu_ne (by omega) rfl), ax, ay, af, xu_ne (by decide) c1, xu_ne (by decide) c2, xu_ne (by decide) c3, c4⟩
  · refine x_ifeq (t := 87) rfl rfl (by decide) (fun h => absurd h (by decide)) (fun _ => ?_)
    refine x_iload_n rfl m3 ?_
    refine x_iconst rfl ?_
    refine x_clt (t := 87) rfl rfl ⟨by omega, by omega⟩ (by decide) (fun hlt => ?_) (fun hlt => ?_)
    · refine x_aload_n rfl m0 ?_
      refine x_getfield rfl (by decide) xu_eq (sget_eq (by rw [hfl]; decide)) ?_
      refine x_putfield rfl (by decide) xu_eq (show (0 : Nat) < _ from by rw [(slen hfl)]; decide) rfl ?_
      refine x_aload_n rfl m0 ?_
      refine x_getfield rfl (by decide) xu_eq (sget_eq (by rw [(slen hfl)]; decide)) ?_
      refine x_ifne (t := 108) rfl rfl (by decide) (fun h => absurd rfl h) (fun _ => ?_)
      refine x_aload_n rfl m0 ?_
      refine x_getfield rfl (by decide) xu_eq (sget_ne (by decide) (sget_ne (by decide) f35)) ?_
      refine x_iload_n rfl m1 ?_
      refine x_iload_n rfl m2 ?_
      refine x_bastore rfl (by decide) (xu_ne (by decide) (xu_ne (by decide) h198)) ⟨by omega, by omega⟩ (by omega) (by decide) ?_
      have T9 := T1 (xi 0) (xi 0)
      refine x_return rfl ⟨_, _, rfl, rfl, rfl, ?_, ⟨_, xu_eq, by rw [List.length_set]; exact hbl, by rw [Int.toNat_natCast]; exact setd (Or.inr hlt)⟩, fun q b1 b2 => xu_ne b2 (xu_ne b1 (xu_ne b1 rfl))⟩
      obtain ⟨⟨fs9, hB9⟩, hX9, hJ9, ax, ay, af, c1, c2, c3, c4⟩ := T9
      exact ⟨⟨fs9, sMB_f hB9 (xu_ne (by decide) rfl)⟩, sMX_f hX9 (fun q _ _ => xu_ne (by omega) rfl), sMJ_f hJ9 (fun q _ _ => xu_ne (by omega) rfl), ax, ay, af, xu_ne (by decide) c1, xu_ne (by decide) c2, xu_ne (by decide) c3, c4⟩
    · refine x_iconst rfl ?_
      refine x_goto (t := 91) rfl rfl ?_
      refine x_putfield rfl (by decide) xu_eq (show (0 : Nat) < _ from by rw [(slen hfl)]; decide) rfl ?_
      refine x_aload_n rfl m0 ?_
      refine x_getfield rfl (by decide) xu_eq (sget_eq (by rw [(slen hfl)]; decide)) ?_
      refine x_ifne (t := 108) rfl rfl (by decide) (fun _ => ?_) (fun h => absurd h (by decide))
      exact x_return rfl ⟨_, _, rfl, rfl, rfl, T1 _ _, ⟨bl, xu_ne (by decide) (xu_ne (by decide) h198), hbl, keep ⟨rfl, hlt⟩⟩, fun q b1 b2 => xu_ne b1 (xu_ne b1 rfl)⟩
/-! Way. -/
/-- the way that was found: F calls, or -1 -/
def sWC (f : Nat → zE) (F : Int) (wy : Nat → Int) : Prop := (∃ nd : Value, f 117 = .inl (8, [.ref 53, .ref 113, .ref 118, .ref 119, .ref 120, .ref 121, nd, xi (if F < 0 then 0 else F)])) ∧ ∃ cl : List Int, f 121 = xr 0 cl ∧ cl.length = 4 ∧ ∀ i : Nat, ((i : Nat) : Int) < F → cl.getD i 0 = wy i
def sWD (f : Nat → zE) (F : Int) (wy : Nat → Int) : Prop := (∃ fs : List Value, f 177 = .inl (10, fs) ∧ fs[36]? = some (xi F)) ∧ ∃ wl : List Int, f 199 = xr 0 wl ∧ wl.length = 4 ∧ ∀ i : Nat, ((i : Nat) : Int) < F → wl.getD i 0 = wy i
def sWR (F : Int) (wy : Nat → Int) (S : sS) (i : Int) : Int × Int × sS := if i < 0 ∨ F ≤ i then (1, 0, S) else (0, wy i.toNat, S)
def exY (_ : Int) : Nat := 102
theorem xs_169 {v0 : Value} {xs : List Int32} {u : Nat × Nat} {f : Nat → zE} {K : List (Int × Int)} {G : Nat → List xBt} {S : sS} {F : Int} {wy : Nat → Int} {i : Int} (hT : sCT f K G S) (hF : -1 ≤ F ∧ F ≤ 4) (hW : sWC f F wy) (hi : -2147483648 ≤ i ∧ i ≤ 2147483647) : xz v0 xs u (sCQ f u K G exY (sWR F wy S i)) 169 0 [(0, .ref 50), (1, xi i)] [] f := by
  obtain ⟨⟨lf, h50⟩, -⟩ := id hT
  obtain ⟨⟨nd, h117⟩, cl, h121, hcl, hw⟩ := hW
  have hF2 : 0 ≤ (if F < 0 then 0 else F) ∧ (if F < 0 then 0 else F) ≤ 4 := by split <;> omega
  have hF3 : (F < 0 ∧ (if F < 0 then 0 else F) = 0) ∨ (0 ≤ F ∧ (if F < 0 then 0 else F) = F) := by split <;> omega
  generalize (if F < 0 then 0 else F) = F2 at h117 hF2 hF3
  have bad : (i < 0 ∨ F ≤ i) → sCQ f u K G exY (sWR F wy S i) (.inr 102) (xh f, u.1 + 1, u.2 + 6) := by
    intro hbad
    have eR : sWR F wy S i = (1, 0, S) := by unfold sWR; rw [if_pos hbad]
    rw [eR]
    exact ⟨f, Or.inr ⟨(show (1 : Int) ≠ 0 from by decide), rfl, rfl⟩, hT, fun _ _ _ _ _ => rfl⟩
  refine x_iload_n rfl rfl ?_
  refine x_iflt (t := 15) rfl rfl hi (fun h => ?_) (fun h => ?_)
  · exact x_throw rfl (by decide) rfl (show (0 : Nat) ≤ 4 from by decide) (bad (Or.inl h))
  refine x_iload_n rfl rfl ?_
  refine x_aload_n rfl rfl ?_
  refine x_getfield rfl (by decide) h50 rfl ?_
  refine x_getfield rfl (by decide) h117 rfl ?_
  refine x_clt (t := 25) rfl rfl hi ⟨by omega, by omega⟩ (fun h2 => ?_) (fun h2 => ?_)
  rotate_left
  · exact x_throw rfl (by decide) rfl (show (0 : Nat) ≤ 4 from by decide) (bad (Or.inr (by omega)))
  have eR : sWR F wy S i = (0, wy i.toNat, S) := by unfold sWR; rw [if_neg (by omega)]
  rw [eR]
  refine x_aload_n rfl rfl ?_
  refine x_getfield rfl (by decide) h50 rfl ?_
  refine x_getfield rfl (by decide) h117 rfl ?_
  refine x_iload_n rfl rfl ?_
  refine x_iaload rfl (by decide) h121 ⟨by omega, by omega⟩ (by omega) ?_
  rw [hw i.toNat (by omega)]
  exact x_ireturn rfl (Or.inl rfl) ⟨f, Or.inl ⟨rfl, rfl, rfl⟩, hT, fun _ _ _ _ _ => rfl⟩
theorem xs_171 {v0 : Value} {xs : List Int32} {u : Nat × Nat} {f : Nat → zE} {n : Nat} {S : sS} (hM : yM yT2 (xh f)) (hT : sMT f n S) {F : Int} {wy : Nat → Int} {i : Int} (hF : -1 ≤ F ∧ F ≤ 4) (hW : sWD f F wy) (hi : -2147483648 ≤ i ∧ i ≤ 2147483647) : sMq v0 xs u 171 [(0, .ref 177), (1, xi i)] f n (sWR F wy S i) := by
  unfold sMq xq
  obtain ⟨⟨fs, hB⟩, hX, hJ, hC⟩ := id hT
  have hB0 := hB
  obtain ⟨⟨fs9, e9, f36⟩, wl, h199, hwl, hw⟩ := hW
  obtain ⟨h177, hfl, -⟩ := hB.1
  rw [h177] at e9
  cases e9
  have f37 : fs[37]? = some (.ref 199) := by
    obtain ⟨fs', e1, -, e3⟩ := xT_o (p := 177) hM (by decide) yT2_177
    rw [h177] at e1
    cases e1
    obtain ⟨v, hv, hg⟩ := e3 37 _ rfl
    rw [hv, yg_rf hg]
  refine x_aload_n rfl rfl ?_
  refine x_dia (if i < 0 ∨ F ≤ i then 1 else 0) 18 (fun k => ?_) ?_
  · refine x_iload_n rfl rfl ?_
    refine x_iflt (t := 13) rfl rfl hi (fun h2 => ?_) (fun h2 => ?_)
    · refine x_iconst rfl ?_
      refine x_goto (t := 18) rfl rfl ?_
      rw [if_pos (Or.inl h2)] at k
      exact k
    · refine x_iload_n rfl rfl ?_
      refine x_aload_n rfl rfl ?_
      refine x_getfield rfl (by decide) h177 f36 ?_
      refine x_clt (t := 17) rfl rfl hi ⟨by omega, by omega⟩ (fun h10 => ?_) (fun h10 => ?_)
      · refine x_iconst rfl ?_
        rw [if_neg (by omega)] at k
        exact k
      · refine x_iconst rfl ?_
        refine x_goto (t := 18) rfl rfl ?_
        rw [if_pos (Or.inr h10)] at k
        exact k
  by_cases hb : i < 0 ∨ F ≤ i
  · have eR : sWR F wy S i = (1, 0, S) := by unfold sWR; rw [if_pos hb]
    rw [eR, if_pos hb]
    refine x_putfield rfl (by decide) h177 (show (0 : Nat) < _ from by rw [hfl]; decide) rfl ?_
    refine x_aload_n rfl rfl ?_
    refine x_getfield rfl (by decide) xu_eq (sget_eq (by rw [hfl]; decide)) ?_
    refine x_ifle (t := 32) rfl rfl (by decide) (fun h => absurd h (by decide)) (fun _ => ?_)
    refine x_iconst rfl ?_
    refine x_goto (t := 38) rfl rfl ?_
    exact x_ireturn rfl (Or.inl rfl) ⟨_, _, rfl, rfl, rfl, ⟨_, xu_eq, sget_eq (by rw [hfl]; decide)⟩, sMT_0 hB0 hX hJ hC, fun q b1 _ => xu_ne b1 rfl⟩
  · have eR : sWR F wy S i = (0, wy i.toNat, S) := by unfold sWR; rw [if_neg hb]
    rw [eR, if_neg hb]
    refine x_putfield rfl (by decide) h177 (show (0 : Nat) < _ from by rw [hfl]; decide) rfl ?_
    refine x_aload_n rfl rfl ?_
    refine x_getfield rfl (by decide) xu_eq (sget_eq (by rw [hfl]; decide)) ?_
    refine x_ifle (t := 32) rfl rfl (by decide) (fun _ => ?_) (fun h => absurd h (by decide))
    refine x_aload_n rfl rfl ?_
    refine x_getfield rfl (by decide) xu_eq (sget_ne (by decide) f37) ?_
    refine x_iload_n rfl rfl ?_
    refine x_iaload rfl (by decide) (xu_ne (by decide) h199) ⟨by omega, by omega⟩ (by omega) ?_
    rw [hw i.toNat (by omega)]
    exact x_ireturn rfl (Or.inl rfl) ⟨_, _, rfl, rfl, rfl, ⟨_, xu_eq, sget_eq (by rw [hfl]; decide)⟩, sMT_0 hB0 hX hJ hC, fun q b1 _ => xu_ne b1 rfl⟩
