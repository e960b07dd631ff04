/-! The model's run: 122. -/
/-- the parts from F on are L, as the model keeps them -/
def sPM (f : Nat → zE) (F : Int) (L : List (Int × Int)) : Prop := ∃ se at' : List Int, f 185 = xr 0 se ∧ f 186 = xr 0 at' ∧ se.length = 224 ∧ at'.length = 224 ∧ 0 ≤ F ∧ F + (L.length : Nat) ≤ 224 ∧ ∀ k, k < L.length → (se.getD (F + (k : Nat)).toNat 0 = (L.getD k (0, 0)).1 ∧ at'.getD (F + (k : Nat)).toNat 0 = (L.getD k (0, 0)).2) ∧ (0 ≤ (L.getD k (0, 0)).1 ∧ (L.getD k (0, 0)).1 ≤ 12) ∧ 0 ≤ (L.getD k (0, 0)).2 ∧ (L.getD k (0, 0)).2 ≤ 6
/-- a kept call of the model -/
def sKM (f : Nat → zE) (K : List (Int × Int)) (c : Nat) (G : List xBt) : Prop := c < 12 ∧ ∃ cn tk pf pq se at' : List Int, f 180 = xr 0 cn ∧ f 182 = xr 0 tk ∧ f 183 = xr 0 pf ∧ f 184 = xr 0 pq ∧ f 185 = xr 0 se ∧ f 186 = xr 0 at' ∧ (cn.length = 13 ∧ tk.length = 208 ∧ pf.length = 208 ∧ pq.length = 208 ∧ se.length = 224 ∧ at'.length = 224) ∧ cn.getD c 0 = (G.length : Nat) ∧ (∀ j, j < G.length → (pf.getD (16 * c + j) 0, pq.getD (16 * c + j) 0, tk.getD (16 * c + j) 0) = G.getD j (0, 0, 0)) ∧ K.length ≤ 224 ∧ ∀ k, k < K.length → (se.getD k 0, at'.getD k 0) = K.getD k (0, 0) ∧ (0 ≤ (K.getD k (0, 0)).1 ∧ (K.getD k (0, 0)).1 ≤ 12) ∧ 0 ≤ (K.getD k (0, 0)).2 ∧ (K.getD k (0, 0)).2 ≤ 6
theorem sprt_at {K : List (Int × Int)} {b : xBt} (h : 0 ≤ b.1 ∧ b.1 ≤ b.2.1 ∧ b.2.1 ≤ (K.length : Nat)) {k : Nat} (hk : k < (sprt K b).length) : (sprt K b).getD k (0, 0) = K.getD (b.1 + (k : Nat)).toNat (0, 0) ∧ (b.1 + (k : Nat)).toNat < K.length := by
  have hl := sprt_len h
  have e : (b.1 + ((k : Nat) : Int)).toNat = b.1.toNat + k := by omega
  refine ⟨?_, by omega⟩
  rw [e]
  unfold sprt
  rw [List.getD_eq_getElem?_getD, List.getElem?_take, if_pos (by omega), List.getElem?_drop, ← List.getD_eq_getElem?_getD]
theorem sKM_PM {f : Nat → zE} {K : List (Int × Int)} {c : Nat} {G : List xBt} {b : xBt} (h : sKM f K c G) (hb : 0 ≤ b.1 ∧ b.1 ≤ b.2.1 ∧ b.2.1 ≤ (K.length : Nat)) : sPM f b.1 (sprt K b) := by
  obtain ⟨-, cn, tk, pf, pq, se, at', -, -, -, -, h5, h6, ⟨-, -, -, -, e5, e6⟩, -, -, hK, hk⟩ := h
  have hl := sprt_len hb
  refine ⟨se, at', h5, h6, e5, e6, hb.1, by omega, fun k hk2 => ?_⟩
  obtain ⟨w1, w2⟩ := sprt_at hb hk2
  obtain ⟨v1, v2, v3⟩ := hk _ w2
  rw [w1]
  exact ⟨⟨congrArg Prod.fst v1, congrArg Prod.snd v1⟩, v2, v3⟩
def sNX (ax ay af : List Int) (at' : Int) (r am : Nat → Int) (n : Nat) : Prop := ∀ e, e < n → ax.getD (at' + 8 + (e : Nat)).toNat 0 = mvx (r e) (am e) ∧ ay.getD (at' + 8 + (e : Nat)).toNat 0 = mvy (r e) (am e) ∧ af.getD (at' + 8 + (e : Nat)).toNat 0 = mvf (r e) (am e)
/-- the rows up to beat i, and the next one as far as it is made -/
def sQR (f : Nat → zE) (bt : List sB) (back : Bool) (r0 : Nat → Int) (i : Nat) (am : Nat → Int) (n : Nat) : Prop := ∃ ax ay af : List Int, sMC f ax ay af ∧ (∀ j : Nat, j ≤ i → sML ax ay af (8 * (j : Nat)) (srow bt back r0 j)) ∧ sNX ax ay af (8 * (i : Nat)) (srow bt back r0 i) am n
theorem sQR_c {f : Nat → zE} {bt : List sB} {back : Bool} {r0 : Nat → Int} {i n : Nat} {am am' : Nat → Int} (h : sQR f bt back r0 i am n) (e : ∀ d, d < n → am d = am' d) : sQR f bt back r0 i am' n := by
  obtain ⟨ax, ay, af, h1, h2, h3⟩ := h
  exact ⟨ax, ay, af, h1, h2, fun d hd => by rw [← e d hd]; exact h3 d hd⟩
theorem sQR_mv {f f' : Nat → zE} {bt : List sB} {back : Bool} {r0 : Nat → Int} {i n : Nat} {am : Nat → Int} (h : sQR f bt back r0 i am n) (e : ∀ q, q ≠ 177 → f' q = f q) : sQR f' bt back r0 i am n := by
  obtain ⟨ax, ay, af, ⟨h1, h2, h3, h4⟩, h5⟩ := h
  exact ⟨ax, ay, af, ⟨(e _ (by decide)).trans h1, (e _ (by decide)).trans h2, (e _ (by decide)).trans h3, h4⟩, h5⟩
theorem sML_set {ax ay af : List Int} {at' : Int} {r : Nat → Int} {k : Nat} {x y z : Int} (h : sML ax ay af at' r) (hk : at' + 8 ≤ (k : Nat)) : sML (ax.set k x) (ay.set k y) (af.set k z) at' r := by
  obtain ⟨h0, h1, h2⟩ := h
  refine ⟨h0, h1, fun d hd => ⟨?_, (h2 d hd).2⟩⟩
  obtain ⟨e1, e2, e3⟩ := (h2 d hd).1
  refine ⟨?_, ?_, ?_⟩
  · rw [x_gset, if_neg (by omega)]; exact e1
  · rw [x_gset, if_neg (by omega)]; exact e2
  · rw [x_gset, if_neg (by omega)]; exact e3
theorem xs_113s {v0 : Value} {xs : List Int32} {u : Nat × Nat} {f : Nat → zE} {fs : List Value} {bt : List sB} {back : Bool} {r0 am : Nat → Int} {i n d : Nat} {a : Int} (hmo : sMO f fs) (hq : sQR f bt back r0 i am n) (hi : i ≤ 15) (hd : d < 8) (hn : n ≤ d + 1 ∨ n = 8) (hn2 : d ≤ n) (ha : 0 ≤ a ∧ a ≤ 6) : xq v0 xs u 113 [(0, .ref 177), (1, xi (8 * (i : Nat))), (2, xi (d : Nat)), (3, xi a)] f (fun r' f' => r' = none ∧ sQR f' bt back r0 i (fun e => if e = d then a else am e) (max n (d + 1)) ∧ ∀ q, q ≠ 192 → q ≠ 193 → q ≠ 194 → f' q = f q) := by
  obtain ⟨ax, ay, af, hmc, hrow, hnx⟩ := hq
  have hmc2 := hmc
  obtain ⟨-, -, -, hx, hy, hf⟩ := hmc2
  refine xq_mono (xs_113 (p := srow bt back r0 i d) hmo hmc ⟨by omega, by omega⟩ hd ((hrow i (Nat.le_refl _)).2.2 d hd).1 ha) ?_
  rintro r' f' ⟨e1, e2, e3⟩
  refine ⟨e1, ⟨_, _, _, e2, fun j hj => sML_set (hrow j hj) (by omega), fun e he => ?_⟩, e3⟩
  dsimp only
  by_cases h : e = d
  · subst h
    rw [if_pos rfl, x_gset, if_pos ⟨rfl, by omega⟩, x_gset, if_pos ⟨rfl, by omega⟩, x_gset, if_pos ⟨rfl, by omega⟩]
    exact ⟨rfl, rfl, rfl⟩
  · rw [if_neg h, x_gset, if_neg (by omega), x_gset, if_neg (by omega), x_gset, if_neg (by omega)]
    exact hnx e (by omega)
theorem sexch_rg {a : Int} (h : 0 ≤ a ∧ a ≤ 6) : 0 ≤ sexch a ∧ sexch a ≤ 6 := by
  unfold sexch
  split
  · decide
  · split <;> omega
theorem sat_rg {r : Nat → Int} {d : Nat} : ∀ {L : List (Int × Int)}, (∀ k, k < L.length → 0 ≤ (L.getD k (0, 0)).2 ∧ (L.getD k (0, 0)).2 ≤ 6) → 0 ≤ sat r L d ∧ sat r L d ≤ 6 := by
  intro L
  induction L with
  | nil =>
    intro _
    show 0 ≤ (0 : Int) ∧ (0 : Int) ≤ 6
    decide
  | cons q l ih =>
    intro h
    simp only [sat]
    split
    · exact h 0 (by simp)
    · exact ih fun k hk => h (k + 1) (by simpa using hk)
/-- the atoms told by the first k parts -/
def samk (back : Bool) (rl : Nat → Int) (L : List (Int × Int)) (k e : Nat) : Int := if back = true then sexch (sat rl (L.take k) e) else sat rl (L.take k) e
theorem samk_0 (back : Bool) (rl : Nat → Int) (L : List (Int × Int)) (e : Nat) : samk back rl L 0 e = 0 := by
  unfold samk
  rw [List.take_zero]
  cases back <;> rfl
theorem samk_s {back : Bool} {rl : Nat → Int} {L : List (Int × Int)} {k : Nat} (hk : k < L.length) (e : Nat) : samk back rl L (k + 1) e = if (shas (L.getD k (0, 0)).1 rl e && sfree rl (L.take k) e) = true then (if back = true then sexch (L.getD k (0, 0)).2 else (L.getD k (0, 0)).2) else samk back rl L k e := by
  unfold samk
  rw [stake_s hk, sat_app]
  by_cases h : (shas (L.getD k (0, 0)).1 rl e && sfree rl (L.take k) e) = true
  · have h2 := Bool.and_eq_true_iff.mp h
    have h3 : sfree rl (L.take k) e = true ∧ shas (L.getD k (0, 0)).1 rl e = true := ⟨h2.2, h2.1⟩
    rw [if_pos h, if_pos h3]
  · have h3 : ¬ (sfree rl (L.take k) e = true ∧ shas (L.getD k (0, 0)).1 rl e = true) := fun h3 => h (by rw [h3.1, h3.2]; rfl)
    rw [if_neg h, if_neg h3]
theorem smask_s (rl : Nat → Int) {L : List (Int × Int)} {k : Nat} (hk : k < L.length) : smk (fun d => sfree rl (L.take k) d && !(shas (L.getD k (0, 0)).1 rl d && sfree rl (L.take k) d)) 8 = smk (sfree rl (L.take (k + 1))) 8 := by
  refine smk_congr 8 fun d _ => ?_
  rw [stake_s hk, sfree_app]
  cases sfree rl (L.take k) d <;> cases shas (L.getD k (0, 0)).1 rl d <;> rfl
theorem xs_122c {v0 : Value} {xs : List Int32} {u : Nat × Nat} {Q : zO → zX → Prop} {f0 : Nat → zE} {fs : List Value} {bt : List sB} {back : Bool} {r0 : Nat → Int} {i : Nat} {c k : Nat} {ow lk fm F : Int} {L : List (Int × Int)} {P : Nat → Bool} {am : Nat → Int} (hmo : sMO f0 fs) (hP : sPM f0 F L) (hk : k < L.length) (hi : i ≤ 15)
    (hkk : ∀ (lv : zL) (f : Nat → zE), zlv lv 0 = some (.ref 177) → zlv lv 1 = some (xi (c : Nat)) → zlv lv 2 = some (xi (if back = true then 1 else 0)) → zlv lv 3 = some (xi (i : Nat)) → zlv lv 4 = some (xi ow) → zlv lv 5 = some (xi lk) → zlv lv 6 = some (xi fm) → zlv lv 7 = some (xi (F + (k : Nat))) → zlv lv 8 = some (xi (smk P 8)) → sQR f bt back r0 i (fun e => if P e = true then (if back = true then sexch (L.getD k (0, 0)).2 else (L.getD k (0, 0)).2) else am e) 8 → (∀ q, q ≠ 192 → q ≠ 193 → q ≠ 194 → f q = f0 q) → xz v0 xs u Q 122 189 lv [] f) : ∀ (j d : Nat) (lv : zL) (f : Nat → zE), j + d = 8 → zlv lv 0 = some (.ref 177) → zlv lv 1 = some (xi (c : Nat)) → zlv lv 2 = some (xi (if back = true then 1 else 0)) → zlv lv 3 = some (xi (i : Nat)) → zlv lv 4 = some (xi ow) → zlv lv 5 = some (xi lk) → zlv lv 6 = some (xi fm) → zlv lv 7 = some (xi (F + (k : Nat))) → zlv lv 8 = some (xi (smk P 8)) → zlv lv 9 = some (xi (d : Nat)) → sQR f bt back r0 i (fun e => if e < d ∧ P e = true then (if back = true then sexch (L.getD k (0, 0)).2 else (L.getD k (0, 0)).2) else am e) 8 → (∀ q, q ≠ 192 → q ≠ 193 → q ≠ 194 → f q = f0 q) → xz v0 xs u Q 122 131 lv [] f := by
  have hmo0 := hmo
  obtain ⟨h177, hfl, ⟨f11, f13, f14, f15, f17, f18⟩, h25, h26, h27⟩ := hmo
  obtain ⟨se, at', h185, h186, e1, e2, hF0, hF1, hL⟩ := hP
  obtain ⟨⟨b1, b2⟩, b3, b4⟩ := hL k hk
  intro j
  induction j with
  | zero =>
    intro d lv f hj l0 l1 l2 l3 l4 l5 l6 l7 l8 l9 hq hfr
    have e8 : d = 8 := by omega
    subst e8
    refine x_iload rfl l9 ?_
    refine x_bipush rfl (by decide) ?_
    refine x_cge (t := 189) rfl rfl (by decide) (by decide) (fun _ => ?_) (fun h => absurd h (by decide))
    exact hkk lv f l0 l1 l2 l3 l4 l5 l6 l7 l8 (sQR_c hq fun d hd => by simp only [hd, true_and]) hfr
  | succ j ih =>
    intro d lv f hj l0 l1 l2 l3 l4 l5 l6 l7 l8 l9 hq hfr
    have hd : d < 8 := by omega
    have hmo2 : sMO f fs := ⟨(hfr 177 (by decide) (by decide) (by decide)).trans h177, hmo0.2⟩
    refine x_iload rfl l9 ?_
    refine x_bipush rfl (by decide) ?_
    refine x_cge (t := 189) rfl rfl ⟨by omega, by omega⟩ (by decide) (fun h => absurd h (by omega)) (fun _ => ?_)
    refine x_iload rfl l8 ?_
    refine x_iload rfl l9 ?_
    refine x_ishr rfl ?_
    refine x_iconst rfl ?_
    refine x_iandg2 rfl (sm_bit P hd) ?_
    refine x_iconst rfl ?_
    by_cases h : P d = true
    · rw [if_pos h]
      refine x_cne (t := 183) rfl rfl (by decide) (by decide) (fun h => absurd rfl h) (fun _ => ?_)
      refine x_aload_n rfl l0 ?_
      refine x_bipush rfl (by decide) ?_
      refine x_iload_n rfl l3 ?_
      refine x_imul rfl ?_
      refine x_iload rfl l9 ?_
      refine x_iload_n rfl l2 ?_
      have T : xz v0 xs u Q 122 180 lv [xi (if back = true then sexch (L.getD k (0, 0)).2 else (L.getD k (0, 0)).2), xi (d : Nat), xi (8 * (i : Nat)), .ref 177] f := by
        refine x_call [_, _, _, _] rfl rfl (show (0 : Nat) ≤ 8 from by decide) (show (4 : Nat) ≤ 7 from by decide) (x_rcv (by decide) ((hfr 177 (by decide) (by decide) (by decide)).trans h177)) (xs_113s hmo2 hq hi hd (Or.inr rfl) (by omega) (by split; exact sexch_rg b4; exact b4)) ?_
        intro r' f1 hP
        obtain ⟨rfl, hq2, hfr2⟩ := hP
        rw [show max 8 (d + 1) = 8 from by omega] at hq2
        refine x_iinc rfl l9 (show (9 : Nat) < 10 from by decide) ?_
        refine x_goto (t := 131) rfl rfl ?_
        refine ih (d + 1) _ _ (by omega) (xst_ne (by decide) l0 (Or.inl rfl)) (xst_ne (by decide) l1 (Or.inl rfl)) (xst_ne (by decide) l2 (Or.inl rfl)) (xst_ne (by decide) l3 (Or.inl rfl)) (xst_ne (by decide) l4 (Or.inl rfl)) (xst_ne (by decide) l5 (Or.inl rfl)) (xst_ne (by decide) l6 (Or.inl rfl)) (xst_ne (by decide) l7 (Or.inl rfl)) (xst_ne (by decide) l8 (Or.inl rfl)) xst_eq (sQR_c (show sQR f1 bt back r0 i _ 8 from hq2) fun e he => ?_) (fun q a1 a2 a3 => (hfr2 q a1 a2 a3).trans (hfr q a1 a2 a3))
        by_cases he2 : e = d
        · subst he2
          have h7 : e < e + 1 ∧ P e = true := ⟨by omega, h⟩
          rw [if_pos rfl, if_pos h7]
        · rw [if_neg he2]
          by_cases h5 : e < d ∧ P e = true
          · have h7 : e < d + 1 ∧ P e = true := ⟨by omega, h5.2⟩
            rw [if_pos h5, if_pos h7]
          · have h7 : ¬ (e < d + 1 ∧ P e = true) := fun h6 => h5 ⟨by omega, h6.2⟩
            rw [if_neg h5, if_neg h7]
      cases hbk : back with
      | false =>
        rw [hbk] at T
        refine x_ifeq (t := 173) rfl rfl (by decide) (fun _ => ?_) (fun h => absurd rfl h)
        refine x_aload_n rfl l0 ?_
        refine x_getfield rfl (by decide) ((hfr 177 (by decide) (by decide) (by decide)).trans h177) f18 ?_
        refine x_iload rfl l7 ?_
        refine x_iaload rfl (by decide) ((hfr 186 (by decide) (by decide) (by decide)).trans h186) ⟨by omega, by omega⟩ (by omega) ?_
        rw [b2]
        exact T
      | true =>
        rw [hbk] at T
        refine x_ifeq (t := 173) rfl rfl (by decide) (fun h => absurd h (by decide)) (fun _ => ?_)
        refine x_aload_n rfl l0 ?_
        refine x_getfield rfl (by decide) ((hfr 177 (by decide) (by decide) (by decide)).trans h177) f18 ?_
        refine x_iload rfl l7 ?_
        refine x_iaload rfl (by decide) ((hfr 186 (by decide) (by decide) (by decide)).trans h186) ⟨by omega, by omega⟩ (by omega) ?_
        rw [b2]
        refine x_call [_] rfl rfl (show (3 : Nat) ≤ 8 from by decide) (show (1 : Nat) ≤ 1 from by decide) rfl (xs_118 b4) ?_
        intro r' f1 hP
        obtain ⟨rfl, rfl⟩ := hP
        refine x_goto (t := 180) rfl rfl ?_
        exact T
    · rw [if_neg h]
      refine x_cne (t := 183) rfl rfl (by decide) (by decide) (fun _ => ?_) (fun h => absurd h (by decide))
      refine x_iinc rfl l9 (show (9 : Nat) < 10 from by decide) ?_
      refine x_goto (t := 131) rfl rfl ?_
      refine ih (d + 1) _ _ (by omega) (xst_ne (by decide) l0 (Or.inl rfl)) (xst_ne (by decide) l1 (Or.inl rfl)) (xst_ne (by decide) l2 (Or.inl rfl)) (xst_ne (by decide) l3 (Or.inl rfl)) (xst_ne (by decide) l4 (Or.inl rfl)) (xst_ne (by decide) l5 (Or.inl rfl)) (xst_ne (by decide) l6 (Or.inl rfl)) (xst_ne (by decide) l7 (Or.inl rfl)) (xst_ne (by decide) l8 (Or.inl rfl)) xst_eq (sQR_c hq fun e he => ?_) hfr
      by_cases h5 : e < d ∧ P e = true
      · have h7 : e < d + 1 ∧ P e = true := ⟨by omega, h5.2⟩
        rw [if_pos h5, if_pos h7]
      · have h7 : ¬ (e < d + 1 ∧ P e = true) := fun h6 => by
          by_cases he2 : e = d
          · subst he2; exact h h6.2
          · exact h5 ⟨by omega, h6.2⟩
        rw [if_neg h5, if_neg h7]
theorem xs_122b {v0 : Value} {xs : List Int32} {u : Nat × Nat} {Q : zO → zX → Prop} {f0 : Nat → zE} {fs : List Value} {bt : List sB} {back : Bool} {r0 : Nat → Int} {i : Nat} {c : Nat} {ow tk F : Int} {L : List (Int × Int)} {rl : Nat → Int} {pq : List Int} (hmo : sMO f0 fs) (hP : sPM f0 F L) (hi : i ≤ 15) (htk : 0 ≤ tk ∧ tk ≤ (i : Nat)) (hrl : rl = srow bt back r0 tk.toNat) (h184 : f0 184 = xr 0 pq) (hpq : pq.length = 208) (how : 0 ≤ ow ∧ ow < 208) (hE : pq.getD ow.toNat 0 = F + (L.length : Nat))
    (hkk : ∀ (lv : zL) (f : Nat → zE), zlv lv 0 = some (.ref 177) → zlv lv 1 = some (xi (c : Nat)) → zlv lv 2 = some (xi (if back = true then 1 else 0)) → zlv lv 3 = some (xi (i : Nat)) → zlv lv 4 = some (xi ow) → zlv lv 5 = some (xi (8 * tk)) → sQR f bt back r0 i (samk back rl L L.length) 8 → (∀ q, q ≠ 192 → q ≠ 193 → q ≠ 194 → f q = f0 q) → xz v0 xs u Q 122 204 lv [] f) : ∀ (w k : Nat) (lv : zL) (f : Nat → zE), w + k = L.length → zlv lv 0 = some (.ref 177) → zlv lv 1 = some (xi (c : Nat)) → zlv lv 2 = some (xi (if back = true then 1 else 0)) → zlv lv 3 = some (xi (i : Nat)) → zlv lv 4 = some (xi ow) → zlv lv 5 = some (xi (8 * tk)) → zlv lv 6 = some (xi (smk (sfree rl (L.take k)) 8)) → zlv lv 7 = some (xi (F + (k : Nat))) → sQR f bt back r0 i (samk back rl L k) 8 → (∀ q, q ≠ 192 → q ≠ 193 → q ≠ 194 → f q = f0 q) → xz v0 xs u Q 122 98 lv [] f := by
  have hmo0 := hmo
  have hP0 := hP
  obtain ⟨h177, hfl, ⟨f11, f13, f14, f15, f17, f18⟩, h25, h26, h27⟩ := hmo
  obtain ⟨se, at', h185, h186, e1, e2, hF0, hF1, hL⟩ := hP
  intro w
  induction w with
  | zero =>
    intro k lv f hw l0 l1 l2 l3 l4 l5 l6 l7 hq hfr
    have e8 : k = L.length := by omega
    subst e8
    refine x_iload rfl l7 ?_
    refine x_aload_n rfl l0 ?_
    refine x_getfield rfl (by decide) ((hfr 177 (by decide) (by decide) (by decide)).trans h177) f15 ?_
    refine x_iload rfl l4 ?_
    refine x_iaload rfl (by decide) ((hfr 184 (by decide) (by decide) (by decide)).trans h184) ⟨by omega, by omega⟩ (by omega) ?_
    rw [hE]
    refine x_cge (t := 204) rfl rfl ⟨by omega, by omega⟩ ⟨by omega, by omega⟩ (fun _ => ?_) (fun h => absurd h (by omega))
    exact hkk lv f l0 l1 l2 l3 l4 l5 hq hfr
  | succ w ih =>
    intro k lv f hw l0 l1 l2 l3 l4 l5 l6 l7 hq hfr
    have hk : k < L.length := by omega
    obtain ⟨⟨b1, b2⟩, b3, b4⟩ := hL k hk
    have hmo2 : sMO f fs := ⟨(hfr 177 (by decide) (by decide) (by decide)).trans h177, hmo0.2⟩
    have hrw : ∃ ax ay af : List Int, sMC f ax ay af ∧ sML ax ay af (8 * tk) rl := by
      obtain ⟨ax, ay, af, g1, g2, -⟩ := hq
      refine ⟨ax, ay, af, g1, ?_⟩
      have := g2 tk.toNat (by omega)
      rw [show ((tk.toNat : Nat) : Int) = tk from by omega, ← hrl] at this
      exact this
    obtain ⟨ax, ay, af, hmc, hml⟩ := hrw
    refine x_iload rfl l7 ?_
    refine x_aload_n rfl l0 ?_
    refine x_getfield rfl (by decide) ((hfr 177 (by decide) (by decide) (by decide)).trans h177) f15 ?_
    refine x_iload rfl l4 ?_
    refine x_iaload rfl (by decide) ((hfr 184 (by decide) (by decide) (by decide)).trans h184) ⟨by omega, by omega⟩ (by omega) ?_
    rw [hE]
    refine x_cge (t := 204) rfl rfl ⟨by omega, by omega⟩ ⟨by omega, by omega⟩ (fun h => absurd h (by omega)) (fun _ => ?_)
    refine x_aload_n rfl l0 ?_
    refine x_aload_n rfl l0 ?_
    refine x_getfield rfl (by decide) ((hfr 177 (by decide) (by decide) (by decide)).trans h177) f17 ?_
    refine x_iload rfl l7 ?_
    refine x_iaload rfl (by decide) ((hfr 185 (by decide) (by decide) (by decide)).trans h185) ⟨by omega, by omega⟩ (by omega) ?_
    rw [b1]
    refine x_iload rfl l5 ?_
    refine x_call [_, _, _] rfl rfl (show (0 : Nat) ≤ 8 from by decide) (show (3 : Nat) ≤ 5 from by decide) (x_rcv (by decide) ((hfr 177 (by decide) (by decide) (by decide)).trans h177)) (xs_117 hmo2 hmc hml b3) ?_
    intro r' f1 hP
    obtain ⟨rfl, rfl⟩ := hP
    refine x_iload rfl l6 ?_
    refine x_iandg2 rfl (sm_and _ _) ?_
    refine x_istore rfl (show (8 : Nat) < 10 from by decide) ?_
    refine x_iconst rfl ?_
    refine x_istore rfl (show (9 : Nat) < 10 from by decide) ?_
    refine xs_122c (L := L) (k := k) (F := F) (am := samk back rl L k) (P := fun d => shas (L.getD k (0, 0)).1 rl d && sfree rl (L.take k) d) hmo0 hP0 hk hi (fun lv2 f2 m0 m1 m2 m3 m4 m5 m6 m7 m8 hq2 hfr2 => ?_) 8 0 _ _ rfl (xst_ne (by decide) (xst_ne (by decide) l0 (Or.inl rfl)) (Or.inl rfl)) (xst_ne (by decide) (xst_ne (by decide) l1 (Or.inl rfl)) (Or.inl rfl)) (xst_ne (by decide) (xst_ne (by decide) l2 (Or.inl rfl)) (Or.inl rfl)) (xst_ne (by decide) (xst_ne (by decide) l3 (Or.inl rfl)) (Or.inl rfl)) (xst_ne (by decide) (xst_ne (by decide) l4 (Or.inl rfl)) (Or.inl rfl)) (xst_ne (by decide) (xst_ne (by decide) l5 (Or.inl rfl)) (Or.inl rfl)) (xst_ne (by decide) (xst_ne (by decide) l6 (Or.inl rfl)) (Or.inl rfl)) (xst_ne (by decide) (xst_ne (by decide) l7 (Or.inl rfl)) (Or.inl rfl)) (xst_ne (by decide) xst_eq (Or.inl rfl)) xst_eq (sQR_c hq fun e he => by rw [if_neg (fun h => absurd h.1 (Nat.not_lt_zero _))]) hfr
    refine x_iload rfl m6 ?_
    refine x_iload rfl m8 ?_
    refine x_iconst rfl ?_
    refine x_ixorg rfl rfl ?_
    refine x_iandg2 rfl (sm_not _ _) ?_
    refine x_istore rfl (show (6 : Nat) < 10 from by decide) ?_
    refine x_iinc rfl (xst_ne (by decide) m7 (Or.inl rfl)) (show (7 : Nat) < 10 from by decide) ?_
    refine x_goto (t := 98) rfl rfl ?_
    refine ih (k + 1) _ _ (by omega) (xst_ne (by decide) (xst_ne (by decide) m0 (Or.inl rfl)) (Or.inl rfl)) (xst_ne (by decide) (xst_ne (by decide) m1 (Or.inl rfl)) (Or.inl rfl)) (xst_ne (by decide) (xst_ne (by decide) m2 (Or.inl rfl)) (Or.inl rfl)) (xst_ne (by decide) (xst_ne (by decide) m3 (Or.inl rfl)) (Or.inl rfl)) (xst_ne (by decide) (xst_ne (by decide) m4 (Or.inl rfl)) (Or.inl rfl)) (xst_ne (by decide) (xst_ne (by decide) m5 (Or.inl rfl)) (Or.inl rfl)) (by rw [← smask_s rl hk]; exact (xst_ne (by decide) xst_eq (Or.inl rfl))) (by rw [show F + ((k + 1 : Nat) : Int) = F + (k : Nat) + 1 from by omega]; exact xst_eq) (sQR_c hq2 fun e he => (samk_s hk e).symm) hfr2
theorem xs_122a {v0 : Value} {xs : List Int32} {u : Nat × Nat} {Q : zO → zX → Prop} {f0 : Nat → zE} {fs : List Value} {bt : List sB} {back : Bool} {r0 : Nat → Int} {i : Nat} {c : Nat} {ow lk fm : Int} (hmo : sMO f0 fs) (hi : i ≤ 15)
    (hkk : ∀ (lv : zL) (f : Nat → zE), zlv lv 0 = some (.ref 177) → zlv lv 1 = some (xi (c : Nat)) → zlv lv 2 = some (xi (if back = true then 1 else 0)) → zlv lv 3 = some (xi (i : Nat)) → zlv lv 4 = some (xi ow) → zlv lv 5 = some (xi lk) → zlv lv 6 = some (xi fm) → sQR f bt back r0 i (fun _ => 0) 8 → (∀ q, q ≠ 192 → q ≠ 193 → q ≠ 194 → f q = f0 q) → xz v0 xs u Q 122 89 lv [] f) : ∀ (w d : Nat) (lv : zL) (f : Nat → zE), w + d = 8 → zlv lv 0 = some (.ref 177) → zlv lv 1 = some (xi (c : Nat)) → zlv lv 2 = some (xi (if back = true then 1 else 0)) → zlv lv 3 = some (xi (i : Nat)) → zlv lv 4 = some (xi ow) → zlv lv 5 = some (xi lk) → zlv lv 6 = some (xi fm) → zlv lv 7 = some (xi (d : Nat)) → sQR f bt back r0 i (fun _ => 0) d → (∀ q, q ≠ 192 → q ≠ 193 → q ≠ 194 → f q = f0 q) → xz v0 xs u Q 122 65 lv [] f := by
  have h177 := hmo.1
  intro w
  induction w with
  | zero =>
    intro d lv f hw l0 l1 l2 l3 l4 l5 l6 l7 hq hfr
    have e8 : d = 8 := by omega
    subst e8
    refine x_iload rfl l7 ?_
    refine x_bipush rfl (by decide) ?_
    refine x_cge (t := 89) rfl rfl (by decide) (by decide) (fun _ => ?_) (fun h => absurd h (by decide))
    exact hkk lv f l0 l1 l2 l3 l4 l5 l6 hq hfr
  | succ w ih =>
    intro d lv f hw l0 l1 l2 l3 l4 l5 l6 l7 hq hfr
    have hd : d < 8 := by omega
    have hmo2 : sMO f fs := ⟨(hfr 177 (by decide) (by decide) (by decide)).trans h177, hmo.2⟩
    refine x_iload rfl l7 ?_
    refine x_bipush rfl (by decide) ?_
    refine x_cge (t := 89) rfl rfl ⟨by omega, by omega⟩ (by decide) (fun h => absurd h (by omega)) (fun _ => ?_)
    refine x_aload_n rfl l0 ?_
    refine x_bipush rfl (by decide) ?_
    refine x_iload_n rfl l3 ?_
    refine x_imul rfl ?_
    refine x_iload rfl l7 ?_
    refine x_iconst rfl ?_
    refine x_call [_, _, _, _] rfl rfl (show (0 : Nat) ≤ 8 from by decide) (show (4 : Nat) ≤ 7 from by decide) (x_rcv (by decide) ((hfr 177 (by decide) (by decide) (by decide)).trans h177)) (xs_113s hmo2 hq hi hd (Or.inl (by omega)) (Nat.le_refl _) (by decide)) ?_
    intro r' f1 hP
    obtain ⟨rfl, hq2, hfr2⟩ := hP
    rw [show max d (d + 1) = d + 1 from by omega] at hq2
    refine x_iinc rfl l7 (show (7 : Nat) < 10 from by decide) ?_
    refine x_goto (t := 65) rfl rfl ?_
    exact ih (d + 1) _ _ (by omega) (xst_ne (by decide) l0 (Or.inl rfl)) (xst_ne (by decide) l1 (Or.inl rfl)) (xst_ne (by decide) l2 (Or.inl rfl)) (xst_ne (by decide) l3 (Or.inl rfl)) (xst_ne (by decide) l4 (Or.inl rfl)) (xst_ne (by decide) l5 (Or.inl rfl)) (xst_ne (by decide) l6 (Or.inl rfl)) xst_eq (sQR_c hq2 fun e he => by simp) (fun q a1 a2 a3 => (hfr2 q a1 a2 a3).trans (hfr q a1 a2 a3))
