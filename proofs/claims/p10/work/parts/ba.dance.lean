/-! The class follows a call: 105. -/
/-- the kept parts -/
def sPK (f : Nat → zE) (K : List (Int × Int)) : Prop := (∃ c kp pt : Value, f 53 = .inl (2, [.ref 54, .ref 55, .ref 56, c, kp, pt])) ∧ ∃ se at' : List Int, f 55 = xr 0 se ∧ f 56 = xr 0 at' ∧ se.length = 208 ∧ at'.length = 208 ∧ K.length ≤ 208 ∧ ∀ k, k < K.length → (se.getD k 0, at'.getD k 0) = K.getD k (0, 0) ∧ (0 ≤ (K.getD k (0, 0)).1 ∧ (K.getD k (0, 0)).1 ≤ 12) ∧ 0 ≤ (K.getD k (0, 0)).2 ∧ (K.getD k (0, 0)).2 ≤ 6
/-- a beat's parts -/
def sprt (K : List (Int × Int)) (b : xBt) : List (Int × Int) := (K.drop b.1.toNat).take (b.2.1 - b.1).toNat
def sbt (K : List (Int × Int)) (G : List xBt) : List sB := G.map fun b => (b.2.2, sprt K b)
/-- beats that are in order -/
def sGok (K : List (Int × Int)) (G : List xBt) : Prop := G.length ≤ 16 ∧ ∀ j, j < G.length → (0 ≤ (G.getD j (0, 0, 0)).1 ∧ (G.getD j (0, 0, 0)).1 ≤ (G.getD j (0, 0, 0)).2.1 ∧ (G.getD j (0, 0, 0)).2.1 ≤ (K.length : Nat)) ∧ 0 ≤ (G.getD j (0, 0, 0)).2.2 ∧ (G.getD j (0, 0, 0)).2.2 ≤ (j : Nat)
/-- a kept figure's cells -/
def sFG (f : Nat → zE) (fg : Nat) (G : List xBt) : Prop := (57 ≤ fg ∧ fg ≤ 105) ∧ (∃ c3 c5 c6 : Value, f fg = .inl (3, [.ref (fg + 1), .ref (fg + 2), .ref (fg + 3), c3, xi (G.length : Nat), c5, c6])) ∧ ∃ fp ep ta : List Int, f (fg + 1) = xr 0 fp ∧ f (fg + 2) = xr 0 ep ∧ f (fg + 3) = xr 0 ta ∧ fp.length = 16 ∧ ep.length = 16 ∧ ta.length = 16 ∧ ∀ j, j < G.length → (fp.getD j 0, ep.getD j 0, ta.getD j 0) = G.getD j (0, 0, 0)
theorem sprt_len {K : List (Int × Int)} {b : xBt} (h : 0 ≤ b.1 ∧ b.1 ≤ b.2.1 ∧ b.2.1 ≤ (K.length : Nat)) : ((sprt K b).length : Int) = b.2.1 - b.1 := by
  unfold sprt
  rw [List.length_take, List.length_drop]
  omega
theorem sPK_PL {f : Nat → zE} {K : List (Int × Int)} {b : xBt} (h : sPK f K) (hb : 0 ≤ b.1 ∧ b.1 ≤ b.2.1 ∧ b.2.1 ≤ (K.length : Nat)) : sPL f b.1 (sprt K b) := by
  obtain ⟨h1, se, at', h2, h3, h4, h5, h6, h7⟩ := h
  have hl := sprt_len hb
  refine ⟨h1, se, at', h2, h3, by omega, by omega, hb.1, by omega, by omega, fun k hk => ?_⟩
  have e1 : (sprt K b).getD k (0, 0) = K.getD (b.1 + (k : Nat)).toNat (0, 0) := by
    unfold sprt
    rw [List.getD_eq_getElem?_getD, List.getElem?_take, if_pos (by omega), List.getElem?_drop, List.getD_eq_getElem?_getD, show b.1.toNat + k = (b.1 + (k : Nat)).toNat by omega]
  obtain ⟨q1, q2⟩ := h7 (b.1 + (k : Nat)).toNat (by omega)
  rw [e1, ← q1]
  rw [← q1] at q2
  exact ⟨⟨rfl, rfl⟩, q2⟩
theorem sbt_len (K : List (Int × Int)) (G : List xBt) : (sbt K G).length = G.length := List.length_map ..
theorem sbt_at {K : List (Int × Int)} {G : List xBt} {j : Nat} (h : j < G.length) : (sbt K G).getD j (0, []) = ((G.getD j (0, 0, 0)).2.2, sprt K (G.getD j (0, 0, 0))) := by
  unfold sbt
  rw [List.getD_eq_getElem?_getD, List.getElem?_map, List.getD_eq_getElem?_getD, List.getElem?_eq_getElem h]
  rfl
/-- the atom that a dancer gets in a beat -/
def sam (bt : List sB) (back : Bool) (r0 : Nat → Int) (i d : Nat) : Int := if back = true then sexch (sat r0 (bt.getD (bt.length - 1 - i) (0, [])).2 d) else sat (srow bt back r0 (bt.getD i (0, [])).1.toNat) (bt.getD i (0, [])).2 d
theorem srow_0 (bt : List sB) (back : Bool) (r0 : Nat → Int) : srow bt back r0 0 = r0 := rfl
theorem srow_n {bt : List sB} {back : Bool} {r0 : Nat → Int} {i : Nat} (h : (bt.getD i (0, [])).1.toNat ≤ i) (d : Nat) : srow bt back r0 (i + 1) d = smv (srow bt back r0 i d) (sam bt back r0 i d) := by
  rw [srow_s]
  unfold snext sam
  rw [srows_at bt back r0 i i (Nat.le_refl _), srows_at bt back r0 i 0 (Nat.zero_le _), srows_at bt back r0 i _ h, srow_0]
theorem sres_up {bt : List sB} {back : Bool} {r0 : Nat → Int} {i : Nat} (h : sres bt back r0 i ≠ 0) : ∀ k, sres bt back r0 (i + k) = sres bt back r0 i := by
  intro k
  induction k with
  | zero => rfl
  | succ k ih =>
    rw [← Nat.add_assoc, sres, if_pos (by rw [ih]; exact h), ih]
theorem sclash_rg (r r2 : Nat → Int) : 0 ≤ sclash r r2 ∧ sclash r r2 ≤ 3 := by
  unfold sclash
  split
  · omega
  · split
    · omega
    · split <;> omega
theorem sclash_0 {r r2 : Nat → Int} (h : sclash r r2 = 0) : sleave r2 = false := by
  unfold sclash at h
  split at h
  · omega
  · exact bool_f (by assumption)
theorem sleave_ok {r r2 am : Nat → Int} (h : sleave r2 = false) (hr : ∀ d, d < 8 → sok (r d)) (hm : ∀ d, d < 8 → r2 d = smv (r d) (am d)) : ∀ d, d < 8 → sok (r2 d) := by
  intro d hd
  have h1 := smv_ok (a := am d) (hr d hd)
  rw [← hm d hd] at h1
  rcases h1 with h1 | h1
  · have := sany_t (P := fun d => r2 d == -1) hd (by rw [beq_iff_eq]; exact h1)
    unfold sleave at h
    rw [h] at this
    cases this
  · exact h1
/-- the rows up to i stand in the list -/
def sTR (l : List Int) (bt : List sB) (back : Bool) (r0 : Nat → Int) (i : Nat) : Prop := l.length = 136 ∧ ∀ j, j ≤ i → sRL l ((j : Nat) * 8) (srow bt back r0 j)
theorem xs_105l {v0 : Value} {xs : List Int32} {u : Nat × Nat} {f0 : Nat → zE} {r0 : Nat → Int} {K : List (Int × Int)} {G : List xBt} {t fg : Nat} {back : Bool} (hDN : sDN f0) (hPK : sPK f0 K) (hG : sGok K G) (hFG : sFG f0 fg G) (ht : 123 ≤ t ∧ t ≤ 173) : ∀ (w i : Nat) (lv : zL) (f : Nat → zE) (l : List Int), w + i = G.length → zlv lv 0 = some (.ref 113) → zlv lv 1 = some (.ref t) → zlv lv 2 = some (.ref fg) → zlv lv 3 = some (xi (if back = true then 1 else 0)) → zlv lv 4 = some (xi (i : Nat)) → f (t + 1) = xr 0 l → sTR l (sbt K G) back r0 i → f t = .inl (9, [.ref (t + 1), xi (i : Nat)]) → sres (sbt K G) back r0 i = 0 → sDN f → (∀ q, q ≠ 115 → q ≠ 116 → q ≠ t → q ≠ t + 1 → f q = f0 q) → xz v0 xs u (fun o X => ∃ r' f', o = .inl r' ∧ X = (xh f', u) ∧ (fun r' f' => r' = some (xi (sres (sbt K G) back r0 G.length)) ∧ (∃ l : List Int, f' (t + 1) = xr 0 l ∧ l.length = 136 ∧ (sres (sbt K G) back r0 G.length = 0 → sTR l (sbt K G) back r0 G.length)) ∧ (∃ c : Int, f' t = .inl (9, [.ref (t + 1), xi c]) ∧ (0 ≤ c ∧ c ≤ 16) ∧ (sres (sbt K G) back r0 G.length = 0 → c = (G.length : Nat))) ∧ sDN f' ∧ ∀ q, q ≠ 115 → q ≠ 116 → q ≠ t → q ≠ t + 1 → f' q = f0 q) r' f') 105 3 lv [] f := by
  obtain ⟨hfgr, ⟨c3, c5, c6, hfg⟩, fp, ep, ta, hfp, hep, hta, fl1, fl2, fl3, hrow⟩ := hFG
  have hG16 := hG.1
  intro w
  induction w with
  | zero =>
    intro i lv f l hw l0 l1 l2 l3 l4 hf hT hft hres hD hfr
    have e : i = G.length := by omega
    subst e
    refine x_iload rfl l4 ?_
    refine x_aload_n rfl l2 ?_
    refine x_getfield rfl (by omega) ((hfr fg (by omega) (by omega) (by omega) (by omega)).trans hfg) rfl ?_
    refine x_cge (t := 99) rfl rfl ⟨by omega, by omega⟩ ⟨by omega, by omega⟩ (fun _ => ?_) (fun h => by omega)
    refine x_iconst rfl ?_
    exact x_ireturn rfl (Or.inl rfl) ⟨_, _, rfl, rfl, by rw [hres], ⟨l, hf, hT.1, fun _ => hT⟩, ⟨_, hft, by omega, fun _ => rfl⟩, hD, hfr⟩
  | succ w ih =>
    intro i lv f l hw l0 l1 l2 l3 l4 hf hT hft hres hD hfr
    have hi : i < G.length := by omega
    have hfg' := (hfr fg (by omega) (by omega) (by omega) (by omega)).trans hfg
    have hfp' := (hfr (fg + 1) (by omega) (by omega) (by omega) (by omega)).trans hfp
    have hep' := (hfr (fg + 2) (by omega) (by omega) (by omega) (by omega)).trans hep
    have hta' := (hfr (fg + 3) (by omega) (by omega) (by omega) (by omega)).trans hta
    have hPK' : sPK f K := by
      obtain ⟨⟨c, kp, pt, p1⟩, se, at', p2, p3, p4⟩ := hPK
      exact ⟨⟨c, kp, pt, (hfr 53 (by decide) (by decide) (by omega) (by omega)).trans p1⟩, se, at', (hfr 55 (by decide) (by decide) (by omega) (by omega)).trans p2, (hfr 56 (by decide) (by decide) (by omega) (by omega)).trans p3, p4⟩
    have hD0 := hD
    obtain ⟨d113, d114, -, -⟩ := hD0
    have hG2 := hG.2
    have htk : ((sbt K G).getD i (0, [])).1.toNat ≤ i := by
      rw [sbt_at hi]
      have := (hG2 i hi).2
      omega
    have hTi := hT.2 i (Nat.le_refl _)
    -- the beat's step, once the atoms are given
    have fin : ∀ (lv2 : zL) (f2 : Nat → zE), zlv lv2 0 = some (.ref 113) → zlv lv2 1 = some (.ref t) → zlv lv2 2 = some (.ref fg) → zlv lv2 3 = some (xi (if back = true then 1 else 0)) → zlv lv2 4 = some (xi (i : Nat)) → sAM f2 (sam (sbt K G) back r0 i) 8 → (∃ dl : List Int, f2 115 = xr 0 dl ∧ dl.length = 8) → (∀ q, q ≠ 115 → q ≠ 116 → f2 q = f q) → xz v0 xs u (fun o X => ∃ r' f', o = .inl r' ∧ X = (xh f', u) ∧ (fun r' f' => r' = some (xi (sres (sbt K G) back r0 G.length)) ∧ (∃ l : List Int, f' (t + 1) = xr 0 l ∧ l.length = 136 ∧ (sres (sbt K G) back r0 G.length = 0 → sTR l (sbt K G) back r0 G.length)) ∧ (∃ c : Int, f' t = .inl (9, [.ref (t + 1), xi c]) ∧ (0 ≤ c ∧ c ≤ 16) ∧ (sres (sbt K G) back r0 G.length = 0 → c = (G.length : Nat))) ∧ sDN f' ∧ ∀ q, q ≠ 115 → q ≠ 116 → q ≠ t → q ≠ t + 1 → f' q = f0 q) r' f') 105 54 lv2 [] f2 := by
      intro lv2 f2 m0 m1 m2 m3 m4 hA hDL hfr2
      obtain ⟨al, a1, a2, a3, a4⟩ := hA
      have g113 := (hfr2 113 (by decide) (by decide)).trans d113
      have hmv : ∀ d, d < 8 → srow (sbt K G) back r0 (i + 1) d = smv (srow (sbt K G) back r0 i d) (sam (sbt K G) back r0 i d) := fun d _ => srow_n htk d
      refine x_aload_n rfl m0 ?_
      refine x_aload_n rfl m1 ?_
      refine x_getfield rfl (by omega) ((hfr2 t (by omega) (by omega)).trans hft) rfl ?_
      refine x_iload rfl m4 ?_
      refine x_bipush rfl (by decide) ?_
      refine x_imul rfl ?_
      refine x_call [_, _, _] rfl rfl (show (0 : Nat) ≤ 8 from by decide) (show (3 : Nat) ≤ 7 from by decide) (x_rcv (by decide) g113) (xs_104 (l := l) (am := sam (sbt K G) back r0 i) (r2 := srow (sbt K G) back r0 (i + 1)) (by omega) (by omega) (by omega) g113 (by have := hT.1; omega) (by have := hT.1; omega) a1 a2 (fun d hd => ⟨a4 d hd, by rw [← a4 d hd]; exact a3 d hd⟩) ((hfr2 (t + 1) (by omega) (by omega)).trans hf) hTi hmv) (fun r' f3 hP => ?_)
      obtain ⟨rfl, ⟨l', q1, q2, q3, q4⟩, q5⟩ := hP
      have hcr := sclash_rg (srow (sbt K G) back r0 i) (srow (sbt K G) back r0 (i + 1))
      have hD3 : sDN f3 := ⟨(q5 113 (by omega)).trans g113, (q5 114 (by omega)).trans ((hfr2 114 (by decide) (by decide)).trans d114), (by obtain ⟨dl, e1, e2⟩ := hDL; exact ⟨dl, (q5 115 (by omega)).trans e1, e2⟩), al, (q5 116 (by omega)).trans a1, a2, a3⟩
      have hft3 : f3 t = .inl (9, [.ref (t + 1), xi (i : Nat)]) := (q5 t (by omega)).trans ((hfr2 t (by omega) (by omega)).trans hft)
      have hfr3 : ∀ q, q ≠ 115 → q ≠ 116 → q ≠ t → q ≠ t + 1 → f3 q = f0 q := fun q z1 z2 z3 z4 => (q5 q z4).trans ((hfr2 q z1 z2).trans (hfr q z1 z2 z3 z4))
      refine x_istore rfl (show (5 : Nat) < 6 from by decide) ?_
      refine x_iload rfl xst_eq ?_
      refine x_ifeq (t := 85) rfl rfl ⟨by omega, by omega⟩ (fun h0 => ?_) (fun hne => ?_)
      · have hs : sres (sbt K G) back r0 (i + 1) = 0 := by
          rw [sres, if_neg (fun h => h hres), if_neg (fun h => h h0)]
        have hlv := sclash_0 h0
        have hok := sleave_ok hlv (fun d hd => (hTi.2.2 d hd).2) hmv
        refine x_aload_n rfl (xst_ne (by decide) m1 (Or.inl rfl)) ?_
        refine x_iload rfl (xst_ne (by decide) m4 (Or.inl rfl)) ?_
        refine x_iconst rfl ?_
        refine x_iadd rfl ?_
        refine x_putfield rfl (by omega) hft3 (show (1 : Nat) < 2 from by decide) rfl ?_
        refine x_iinc rfl (xst_ne (by decide) m4 (Or.inl rfl)) (show (4 : Nat) < 6 from by decide) ?_
        refine x_goto (t := 3) rfl rfl ?_
        refine ih (i + 1) _ _ l' (by omega) (xst_ne (by decide) (xst_ne (by decide) m0 (Or.inl rfl)) (Or.inl rfl)) (xst_ne (by decide) (xst_ne (by decide) m1 (Or.inl rfl)) (Or.inl rfl)) (xst_ne (by decide) (xst_ne (by decide) m2 (Or.inl rfl)) (Or.inl rfl)) (xst_ne (by decide) (xst_ne (by decide) m3 (Or.inl rfl)) (Or.inl rfl)) xst_eq (xu_ne (by omega) q1) ⟨by rw [q2]; exact hT.1, fun j hj => ?_⟩ xu_eq hs ?_ (fun q z1 z2 z3 z4 => xu_ne z3 (hfr3 q z1 z2 z3 z4))
        · have hTl := hT.1
          by_cases e9 : j = i + 1
          · subst e9
            refine ⟨by omega, by omega, fun d hd => ⟨?_, hok d hd⟩⟩
            rw [← q4 hlv d hd]
            congr 1
            omega
          · obtain ⟨y1, y2, y3⟩ := hT.2 j (by omega)
            refine ⟨y1, by omega, fun d hd => ?_⟩
            rw [q3 _ (by omega)]
            exact y3 d hd
        · obtain ⟨z1, z2, ⟨dl, z3, z4⟩, al3, z5, z6⟩ := hD3
          exact ⟨xu_ne (by omega) z1, xu_ne (by omega) z2, ⟨dl, xu_ne (by omega) z3, z4⟩, al3, xu_ne (by omega) z5, z6⟩
      · have hs : sres (sbt K G) back r0 (i + 1) = 10 * ((i : Nat) + 1) + sclash (srow (sbt K G) back r0 i) (srow (sbt K G) back r0 (i + 1)) := by
          rw [sres, if_neg (fun h => h hres), if_pos hne]
        have hsne : sres (sbt K G) back r0 (i + 1) ≠ 0 := by rw [hs]; omega
        have hsm : sres (sbt K G) back r0 G.length = sres (sbt K G) back r0 (i + 1) := by
          have := sres_up hsne (G.length - (i + 1))
          rw [show i + 1 + (G.length - (i + 1)) = G.length by omega] at this
          exact this
        refine x_bipush rfl (by decide) ?_
        refine x_iload rfl (xst_ne (by decide) m4 (Or.inl rfl)) ?_
        refine x_iconst rfl ?_
        refine x_iadd rfl ?_
        refine x_imul rfl ?_
        refine x_iload rfl xst_eq ?_
        refine x_iadd rfl ?_
        refine x_ireturn rfl (Or.inl rfl) ⟨_, _, rfl, rfl, by rw [hsm, hs], ⟨l', q1, by rw [q2]; exact hT.1, fun h => ?_⟩, ⟨_, hft3, by omega, fun h => ?_⟩, hD3, hfr3⟩
        · rw [hsm] at h; exact absurd h hsne
        · rw [hsm] at h; exact absurd h hsne
    refine x_iload rfl l4 ?_
    refine x_aload_n rfl l2 ?_
    refine x_getfield rfl (by omega) hfg' rfl ?_
    refine x_cge (t := 99) rfl rfl ⟨by omega, by omega⟩ ⟨by omega, by omega⟩ (fun h => by omega) (fun _ => ?_)
    refine x_iload_n rfl l3 ?_
    by_cases hb : back = true
    · rw [if_pos hb]
      refine x_ifeq (t := 39) rfl rfl (by decide) (fun h => absurd h (by decide)) (fun _ => ?_)
      have hk : G.length - 1 - i < G.length := by omega
      obtain ⟨gk1, gk2⟩ := hG2 _ hk
      have hrw := hrow _ hk
      refine x_aload_n rfl l0 ?_
      refine x_aload_n rfl l1 ?_
      refine x_aload_n rfl l2 ?_
      refine x_aload_n rfl l2 ?_
      refine x_getfield rfl (by omega) hfg' rfl ?_
      refine x_iconst rfl ?_
      refine x_isub rfl ?_
      refine x_iload rfl l4 ?_
      refine x_isub rfl ?_
      refine x_iconst rfl ?_
      rw [show ((G.length : Nat) : Int) - 1 - (i : Nat) = ((G.length - 1 - i : Nat) : Int) by omega]
      have hpl := sprt_len gk1
      refine x_call [_, _, _, _, _] rfl rfl (show (0 : Nat) ≤ 8 from by decide) (show (5 : Nat) ≤ 9 from by decide) (x_rcv (by decide) d113) (xs_98 (fp := fp) (ep := ep) (r := r0) (L := sprt K (G.getD (G.length - 1 - i) (0, 0, 0))) (F := (G.getD (G.length - 1 - i) (0, 0, 0)).1) d113 d114 (sPK_PL hPK' gk1) (by have := (show K.length ≤ 208 from by obtain ⟨-, se, at', -, -, -, -, h, -⟩ := hPK'; exact h); omega) ⟨hfgr, _, _, _, _, _, hfg'⟩ hfp' hep' fl1 fl2 (by omega) (by rw [Int.toNat_natCast, ← hrw]) (by rw [Int.toNat_natCast, hpl, ← hrw]; dsimp only; omega) ⟨ht, _, hft⟩ (sRL_RW (by omega) hf (by have := hT.1; omega) (hT.2 0 (Nat.zero_le _))) hD) (fun r' f2 hP => ?_)
      obtain ⟨rfl, hA, hDL, hfr2⟩ := hP
      refine x_aload_n rfl l0 ?_
      refine x_call [_] rfl rfl (show (0 : Nat) ≤ 8 from by decide) (show (1 : Nat) ≤ 2 from by decide) (x_rcv (by decide) ((hfr2 113 (by decide) (by decide)).trans d113)) (xs_99 ((hfr2 113 (by decide) (by decide)).trans d113) hA) (fun r' f3 hP => ?_)
      obtain ⟨rfl, hA3, hfr3⟩ := hP
      refine x_goto (t := 54) rfl rfl ?_
      refine fin lv f3 l0 l1 l2 l3 l4 ?_ ?_ (fun q z1 z2 => (hfr3 q z2).trans (hfr2 q z1 z2))
      · obtain ⟨al, a1, a2, a3, a4⟩ := hA3
        refine ⟨al, a1, a2, a3, fun d hd => ?_⟩
        rw [a4 d hd]
        unfold sam
        rw [if_pos hb, sbt_len, sbt_at hk]
      · obtain ⟨dl, e1, e2⟩ := hDL
        exact ⟨dl, (hfr3 115 (by decide)).trans e1, e2⟩
    · rw [if_neg hb]
      refine x_ifeq (t := 39) rfl rfl (by decide) (fun _ => ?_) (fun h => absurd rfl h)
      obtain ⟨gk1, gk2⟩ := hG2 i hi
      have hrw := hrow i hi
      have hpl := sprt_len gk1
      refine x_aload_n rfl l0 ?_
      refine x_aload_n rfl l1 ?_
      refine x_aload_n rfl l2 ?_
      refine x_iload rfl l4 ?_
      refine x_aload_n rfl l2 ?_
      refine x_getfield rfl (by omega) hfg' rfl ?_
      refine x_iload rfl l4 ?_
      refine x_iaload rfl (by omega) hta' ⟨by omega, by omega⟩ (by omega) ?_
      have etk : ta.getD (((i : Nat) : Int)).toNat 0 = (((G.getD i (0, 0, 0)).2.2.toNat : Nat) : Int) := by
        rw [Int.toNat_natCast]
        have : ta.getD i 0 = (G.getD i (0, 0, 0)).2.2 := by rw [← hrw]
        rw [this]
        omega
      rw [etk]
      refine x_call [_, _, _, _, _] rfl rfl (show (0 : Nat) ≤ 8 from by decide) (show (5 : Nat) ≤ 9 from by decide) (x_rcv (by decide) d113) (xs_98 (fp := fp) (ep := ep) (r := srow (sbt K G) back r0 (G.getD i (0, 0, 0)).2.2.toNat) (L := sprt K (G.getD i (0, 0, 0))) (F := (G.getD i (0, 0, 0)).1) d113 d114 (sPK_PL hPK' gk1) (by have := (show K.length ≤ 208 from by obtain ⟨-, se, at', -, -, -, -, h, -⟩ := hPK'; exact h); omega) ⟨hfgr, _, _, _, _, _, hfg'⟩ hfp' hep' fl1 fl2 (by omega) (by rw [Int.toNat_natCast, ← hrw]) (by rw [Int.toNat_natCast, hpl, ← hrw]; dsimp only; omega) ⟨ht, _, hft⟩ (sRL_RW (by omega) hf (by have := hT.1; omega) (hT.2 _ (by omega))) hD) (fun r' f2 hP => ?_)
      obtain ⟨rfl, hA, hDL, hfr2⟩ := hP
      refine fin lv f2 l0 l1 l2 l3 l4 ?_ hDL hfr2
      obtain ⟨al, a1, a2, a3, a4⟩ := hA
      refine ⟨al, a1, a2, a3, fun d hd => ?_⟩
      rw [a4 d hd]
      unfold sam
      rw [if_neg hb, sbt_at hi]
theorem xs_105 {v0 : Value} {xs : List Int32} {u : Nat × Nat} {f0 : Nat → zE} {r0 : Nat → Int} {K : List (Int × Int)} {G : List xBt} {t fg : Nat} {back : Bool} {l : List Int} (hDN : sDN f0) (hPK : sPK f0 K) (hG : sGok K G) (hFG : sFG f0 fg G) (ht : 123 ≤ t ∧ t ≤ 173) (hft : f0 t = .inl (9, [.ref (t + 1), xi 0])) (hf : f0 (t + 1) = xr 0 l) (hl : l.length = 136) (hr : sRL l 0 r0) : xq v0 xs u 105 [(0, .ref 113), (1, .ref t), (2, .ref fg), (3, xi (if back = true then 1 else 0))] f0 (fun r' f' => r' = some (xi (sres (sbt K G) back r0 G.length)) ∧ (∃ l : List Int, f' (t + 1) = xr 0 l ∧ l.length = 136 ∧ (sres (sbt K G) back r0 G.length = 0 → sTR l (sbt K G) back r0 G.length)) ∧ (∃ c : Int, f' t = .inl (9, [.ref (t + 1), xi c]) ∧ (0 ≤ c ∧ c ≤ 16) ∧ (sres (sbt K G) back r0 G.length = 0 → c = (G.length : Nat))) ∧ sDN f' ∧ ∀ q, q ≠ 115 → q ≠ 116 → q ≠ t → q ≠ t + 1 → f' q = f0 q) := by
  unfold xq
  refine x_iconst rfl ?_
  refine x_istore rfl (show (4 : Nat) < 6 from by decide) ?_
  refine xs_105l hDN hPK hG hFG ht G.length 0 _ f0 l rfl (xst_ne (by decide) rfl (Or.inl rfl)) (xst_ne (by decide) rfl (Or.inl rfl)) (xst_ne (by decide) rfl (Or.inl rfl)) (xst_ne (by decide) rfl (Or.inl rfl)) xst_eq hf ⟨hl, fun j hj => ?_⟩ hft rfl hDN (fun _ _ _ _ _ => rfl)
  have e : j = 0 := by omega
  subst e
  exact hr
