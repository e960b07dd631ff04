/-- the model's run, from beat i on -/
theorem sMO_set {f f' : Nat → zE} {fs : List Value} {k : Nat} {v : Value} (h : sMO f fs) (hf : f' 177 = .inl (10, fs.set k v)) (hk : k = 28 ∨ k = 29 ∨ k = 0 ∨ k = 30 ∨ k = 31) : sMO f' (fs.set k v) := by
  obtain ⟨h177, hfl, ⟨f11, f13, f14, f15, f17, f18⟩, h25, h26, h27⟩ := h
  have P : ∀ (j : Nat) (w : Value), k ≠ j → fs[j]? = some w → (fs.set k v)[j]? = some w := fun j w hj hw => by rw [List.getElem?_set_ne hj]; exact hw
  exact ⟨hf, by rw [List.length_set]; exact hfl, ⟨P _ _ (by omega) f11, P _ _ (by omega) f13, P _ _ (by omega) f14, P _ _ (by omega) f15, P _ _ (by omega) f17, P _ _ (by omega) f18⟩, P _ _ (by omega) h25, P _ _ (by omega) h26, P _ _ (by omega) h27⟩
theorem sML_r {ax ay af : List Int} {at' : Int} {r r' : Nat → Int} (h : sML ax ay af at' r) (e : ∀ d, d < 8 → r' d = r d) : sML ax ay af at' r' := ⟨h.1, h.2.1, fun d hd => by rw [e d hd]; exact h.2.2 d hd⟩
theorem xs_122l {v0 : Value} {xs : List Int32} {u : Nat × Nat} {f0 : Nat → zE} {fs : List Value} {K : List (Int × Int)} {G : List xBt} {back : Bool} {r0 : Nat → Int} {c : Nat} (hKM : sKM f0 K c G) (hG : sGok K G) : ∀ (w i : Nat) (lv : zL) (f : Nat → zE), w + i = G.length → zlv lv 0 = some (.ref 177) → zlv lv 1 = some (xi (c : Nat)) → zlv lv 2 = some (xi (if back = true then 1 else 0)) → zlv lv 3 = some (xi (i : Nat)) → (∃ fs' : List Value, sMO f fs' ∧ ∀ j, j ≠ 28 → j ≠ 29 → fs'[j]? = fs[j]?) → (∃ ax ay af : List Int, sMC f ax ay af ∧ ∀ j : Nat, j ≤ i → sML ax ay af (8 * (j : Nat)) (srow (sbt K G) back r0 j)) → sres (sbt K G) back r0 i = 0 → (∀ q, q ≠ 177 → q ≠ 192 → q ≠ 193 → q ≠ 194 → f q = f0 q) → xz v0 xs u (fun o X => ∃ r' f', o = .inl r' ∧ X = (xh f', u) ∧ (fun r' f' => r' = some (xi (if sres (sbt K G) back r0 G.length = 0 then 1 else 0)) ∧ (∃ fs' : List Value, sMO f' fs' ∧ (∀ j, j ≠ 28 → j ≠ 29 → fs'[j]? = fs[j]?) ∧ (sres (sbt K G) back r0 G.length ≠ 0 → ∃ b k : Int, fs'[28]? = some (xi b) ∧ fs'[29]? = some (xi k) ∧ 10 * b + k = sres (sbt K G) back r0 G.length)) ∧ (∃ ax ay af : List Int, sMC f' ax ay af ∧ (sres (sbt K G) back r0 G.length = 0 → ∀ j : Nat, j ≤ G.length → sML ax ay af (8 * (j : Nat)) (srow (sbt K G) back r0 j))) ∧ ∀ q, q ≠ 177 → q ≠ 192 → q ≠ 193 → q ≠ 194 → f' q = f0 q) r' f') 122 2 lv [] f := by
  have hKM0 := hKM
  obtain ⟨hc, cn, tk, pf, pq, se, at', h180, h182, h183, h184, h185, h186, ⟨q1, q2, q3, q4, q5, q6⟩, hcn, hGj, hK224, hKK⟩ := hKM
  have hG16 := hG.1
  intro w
  induction w with
  | zero =>
    intro i lv f hw l0 l1 l2 l3 ⟨fs', hmo, hfs⟩ ⟨ax, ay, af, hmc, hrow⟩ hres hfr
    have e8 : i = G.length := by omega
    subst e8
    obtain ⟨h177, hfl, ⟨f11, f13, f14, f15, f17, f18⟩, -⟩ := id hmo
    refine x_iload_n rfl l3 ?_
    refine x_aload_n rfl l0 ?_
    refine x_getfield rfl (by decide) h177 f11 ?_
    refine x_iload_n rfl l1 ?_
    refine x_iaload rfl (by decide) ((hfr 180 (by decide) (by decide) (by decide) (by decide)).trans h180) ⟨by omega, by omega⟩ (by omega) ?_
    rw [Int.toNat_natCast, hcn]
    refine x_cge (t := 238) rfl rfl ⟨by omega, by omega⟩ ⟨by omega, by omega⟩ (fun _ => ?_) (fun h => absurd h (by omega))
    refine x_iconst rfl ?_
    exact x_ireturn rfl (Or.inr (Or.inl ⟨rfl, by decide⟩)) ⟨_, _, rfl, rfl, by rw [if_pos hres], ⟨fs', hmo, hfs, fun h => absurd hres h⟩, ⟨ax, ay, af, hmc, fun _ => hrow⟩, hfr⟩
  | succ w ih =>
    intro i lv f hw l0 l1 l2 l3 ⟨fs', hmo, hfs⟩ ⟨ax, ay, af, hmc, hrow⟩ hres hfr
    have hi : i < G.length := by omega
    have hmo0 := hmo
    obtain ⟨h177, hfl, ⟨f11, f13, f14, f15, f17, f18⟩, -⟩ := id hmo
    have hKMf : sKM f K c G := ⟨hc, cn, tk, pf, pq, se, at', ((hfr 180 (by decide) (by decide) (by decide) (by decide)).trans h180), ((hfr 182 (by decide) (by decide) (by decide) (by decide)).trans h182), ((hfr 183 (by decide) (by decide) (by decide) (by decide)).trans h183), ((hfr 184 (by decide) (by decide) (by decide) (by decide)).trans h184), ((hfr 185 (by decide) (by decide) (by decide) (by decide)).trans h185), ((hfr 186 (by decide) (by decide) (by decide) (by decide)).trans h186), ⟨q1, q2, q3, q4, q5, q6⟩, hcn, hGj, hK224, hKK⟩
    obtain ⟨jb, hjb, hjbd⟩ : ∃ jb : Nat, jb < G.length ∧ jb = if back = true then G.length - 1 - i else i := ⟨_, by split <;> omega, rfl⟩
    obtain ⟨tk', htkd⟩ : ∃ t : Int, t = if back = true then 0 else (G.getD i (0, 0, 0)).2.2 := ⟨_, rfl⟩
    have htk' : 0 ≤ tk' ∧ tk' ≤ (i : Nat) := by
      rw [htkd]
      have := (hG.2 i hi).2
      split <;> omega
    have hbb := (hG.2 jb hjb).1
    have hlen := sprt_len hbb
    have hjj := hGj jb hjb
    have hpf : pf.getD (16 * c + jb) 0 = (G.getD jb (0, 0, 0)).1 := congrArg Prod.fst hjj
    have hpq : pq.getD (16 * c + jb) 0 = (G.getD jb (0, 0, 0)).2.1 := congrArg (fun z => z.2.1) hjj
    have htkj : tk.getD (16 * c + jb) 0 = (G.getD jb (0, 0, 0)).2.2 := congrArg (fun z => z.2.2) hjj
    have htkr : ((sbt K G).getD i (0, [])).1.toNat ≤ i := by
      rw [sbt_at hi]
      have := (hG.2 i hi).2
      omega
    have hmv : ∀ d, d < 8 → srow (sbt K G) back r0 (i + 1) d = smv (srow (sbt K G) back r0 i d) (sam (sbt K G) back r0 i d) := fun d _ => srow_n htkr d
    have hsam : ∀ d, samk back (srow (sbt K G) back r0 tk'.toNat) (sprt K (G.getD jb (0, 0, 0))) (sprt K (G.getD jb (0, 0, 0))).length d = sam (sbt K G) back r0 i d := by
      intro d
      unfold samk sam
      rw [List.take_length, sbt_len]
      cases back with
      | true =>
        rw [if_pos rfl] at hjbd htkd
        rw [if_pos rfl, if_pos rfl, htkd, ← hjbd, sbt_at hjb]
        rfl
      | false =>
        rw [if_neg (by decide)] at hjbd htkd
        rw [if_neg (by decide), if_neg (by decide), sbt_at hi, htkd, hjbd]
    have ham : ∀ d, d < 8 → 0 ≤ sam (sbt K G) back r0 i d ∧ sam (sbt K G) back r0 i d ≤ 6 := by
      intro d _
      obtain ⟨_, _, -, -, -, -, -, -, hL⟩ := sKM_PM hKMf hbb
      rw [← hsam d]
      unfold samk
      rw [List.take_length]
      have r1 := sat_rg (r := srow (sbt K G) back r0 tk'.toNat) (d := d) (L := sprt K (G.getD jb (0, 0, 0))) fun k hk => (hL k hk).2.2
      split
      · exact sexch_rg r1
      · exact r1
    have hcl := sclash_rg (srow (sbt K G) back r0 i) (srow (sbt K G) back r0 (i + 1))
    -- the beat's end
    have T : ∀ (lv : zL) (f2 : Nat → zE), zlv lv 0 = some (.ref 177) → zlv lv 1 = some (xi (c : Nat)) → zlv lv 2 = some (xi (if back = true then 1 else 0)) → zlv lv 3 = some (xi (i : Nat)) → sQR f2 (sbt K G) back r0 i (sam (sbt K G) back r0 i) 8 → (∀ q, q ≠ 192 → q ≠ 193 → q ≠ 194 → f2 q = f q) → xz v0 xs u (fun o X => ∃ r' f', o = .inl r' ∧ X = (xh f', u) ∧ (fun r' f' => r' = some (xi (if sres (sbt K G) back r0 G.length = 0 then 1 else 0)) ∧ (∃ fs' : List Value, sMO f' fs' ∧ (∀ j, j ≠ 28 → j ≠ 29 → fs'[j]? = fs[j]?) ∧ (sres (sbt K G) back r0 G.length ≠ 0 → ∃ b k : Int, fs'[28]? = some (xi b) ∧ fs'[29]? = some (xi k) ∧ 10 * b + k = sres (sbt K G) back r0 G.length)) ∧ (∃ ax ay af : List Int, sMC f' ax ay af ∧ (sres (sbt K G) back r0 G.length = 0 → ∀ j : Nat, j ≤ G.length → sML ax ay af (8 * (j : Nat)) (srow (sbt K G) back r0 j))) ∧ ∀ q, q ≠ 177 → q ≠ 192 → q ≠ 193 → q ≠ 194 → f' q = f0 q) r' f') 122 204 lv [] f2 := by
      intro lv f2 l0 l1 l2 l3 ⟨ax2, ay2, af2, hmc2, hrow2, hnx⟩ hfr2
      have hmo2 : sMO f2 fs' := ⟨(hfr2 177 (by decide) (by decide) (by decide)).trans h177, hmo0.2⟩
      have g177 := hmo2.1
      have hfr3 : ∀ q, q ≠ 177 → q ≠ 192 → q ≠ 193 → q ≠ 194 → f2 q = f0 q := fun q a0 a1 a2 a3 => (hfr2 q a1 a2 a3).trans (hfr q a0 a1 a2 a3)
      refine x_aload_n rfl l0 ?_
      refine x_aload_n rfl l0 ?_
      refine x_bipush rfl (by decide) ?_
      refine x_iload_n rfl l3 ?_
      refine x_imul rfl ?_
      refine x_call [_, _] rfl rfl (show (1 : Nat) ≤ 8 from by decide) (show (2 : Nat) ≤ 9 from by decide) (x_rcv (by decide) g177) (xs_121 hmo2 hmc2 (hrow2 i (Nat.le_refl _)) (by omega) hnx ham hmv) ?_
      intro r' f1 hP
      obtain ⟨rfl, rfl⟩ := hP
      refine x_putfield rfl (by decide) g177 (show (29 : Nat) < fs'.length from by omega) rfl ?_
      refine x_aload_n rfl l0 ?_
      refine x_iload_n rfl l3 ?_
      refine x_iconst rfl ?_
      refine x_iadd rfl ?_
      refine x_putfield rfl (by decide) xu_eq (show (28 : Nat) < (fs'.set 29 _).length from by rw [List.length_set]; omega) rfl ?_
      refine x_aload_n rfl l0 ?_
      refine x_getfield rfl (by decide) xu_eq (by rw [List.getElem?_set_ne (by decide), List.getElem?_set_self (by omega)]) ?_
      refine x_ifle (t := 232) rfl rfl ⟨by omega, by omega⟩ (fun h0 => ?_) (fun h0 => ?_)
      · have hs : sres (sbt K G) back r0 (i + 1) = 0 := by
          rw [sres, if_neg (fun h => h hres), if_neg (fun h => h (by omega))]
        have hlv := sclash_0 (show sclash (srow (sbt K G) back r0 i) (srow (sbt K G) back r0 (i + 1)) = 0 from by omega)
        have hnr := sML_next (hrow2 i (Nat.le_refl _)) (by omega) hnx ham hmv hlv
        refine x_iinc rfl l3 (show (3 : Nat) < 10 from by decide) ?_
        refine x_goto (t := 2) rfl rfl ?_
        refine ih (i + 1) _ _ (by omega) (xst_ne (by decide) l0 (Or.inl rfl)) (xst_ne (by decide) l1 (Or.inl rfl)) (xst_ne (by decide) l2 (Or.inl rfl)) xst_eq ⟨((fs'.set 29 (xi (sclash (srow (sbt K G) back r0 i) (srow (sbt K G) back r0 (i + 1))))).set 28 (xi ((i : Nat) + 1))), ?_, ?_⟩ ⟨ax2, ay2, af2, ?_, fun j hj => ?_⟩ hs (fun q a0 a1 a2 a3 => xu_ne a0 (xu_ne a0 (hfr3 q a0 a1 a2 a3)))
        · exact sMO_set (sMO_set (f' := fun _ => .inl (10, fs'.set 29 (xi (sclash (srow (sbt K G) back r0 i) (srow (sbt K G) back r0 (i + 1)))))) hmo2 rfl (Or.inr (Or.inl rfl))) xu_eq (Or.inl rfl)
        · intro j a1 a2
          rw [List.getElem?_set_ne (fun h => a1 h.symm), List.getElem?_set_ne (fun h => a2 h.symm)]
          exact hfs j a1 a2
        · obtain ⟨w1, w2, w3, w4⟩ := hmc2
          exact ⟨xu_ne (by decide) (xu_ne (by decide) w1), xu_ne (by decide) (xu_ne (by decide) w2), xu_ne (by decide) (xu_ne (by decide) w3), w4⟩
        · by_cases e : j = i + 1
          · subst e
            rw [show (8 * ((i + 1 : Nat) : Int)) = 8 * (i : Nat) + 8 from by omega]
            exact hnr
          · exact hrow2 j (by omega)
      · have hs : sres (sbt K G) back r0 (i + 1) = 10 * ((i : Nat) + 1) + sclash (srow (sbt K G) back r0 i) (srow (sbt K G) back r0 (i + 1)) := by
          rw [sres, if_neg (fun h => h hres), if_pos (by omega)]
        have hs2 : sres (sbt K G) back r0 G.length = sres (sbt K G) back r0 (i + 1) := by
          have := sres_up (bt := sbt K G) (back := back) (r0 := r0) (i := i + 1) (by omega) (G.length - (i + 1))
          rw [show i + 1 + (G.length - (i + 1)) = G.length from by omega] at this
          exact this
        refine x_iconst rfl ?_
        refine x_ireturn rfl (Or.inr (Or.inl ⟨rfl, by decide⟩)) ⟨_, _, rfl, rfl, by rw [if_neg (by omega)], ⟨((fs'.set 29 (xi (sclash (srow (sbt K G) back r0 i) (srow (sbt K G) back r0 (i + 1))))).set 28 (xi ((i : Nat) + 1))), ?_, ?_, fun _ => ⟨(i : Nat) + 1, _, ?_, ?_, by rw [hs2, hs]⟩⟩, ⟨ax2, ay2, af2, ?_, fun h => by omega⟩, fun q a0 a1 a2 a3 => xu_ne a0 (xu_ne a0 (hfr3 q a0 a1 a2 a3))⟩
        · exact sMO_set (sMO_set (f' := fun _ => .inl (10, fs'.set 29 (xi (sclash (srow (sbt K G) back r0 i) (srow (sbt K G) back r0 (i + 1)))))) hmo2 rfl (Or.inr (Or.inl rfl))) xu_eq (Or.inl rfl)
        · intro j a1 a2
          rw [List.getElem?_set_ne (fun h => a1 h.symm), List.getElem?_set_ne (fun h => a2 h.symm)]
          exact hfs j a1 a2
        · rw [List.getElem?_set_self (by rw [List.length_set]; omega)]
        · rw [List.getElem?_set_ne (by decide), List.getElem?_set_self (by omega)]
        · obtain ⟨w1, w2, w3, w4⟩ := hmc2
          exact ⟨xu_ne (by decide) (xu_ne (by decide) w1), xu_ne (by decide) (xu_ne (by decide) w2), xu_ne (by decide) (xu_ne (by decide) w3), w4⟩
    have T2 : ∀ (lv : zL), zlv lv 0 = some (.ref 177) → zlv lv 1 = some (xi (c : Nat)) → zlv lv 2 = some (xi (if back = true then 1 else 0)) → zlv lv 3 = some (xi (i : Nat)) → zlv lv 4 = some (xi ((16 * c + jb : Nat) : Int)) → zlv lv 5 = some (xi (8 * tk')) → xz v0 xs u (fun o X => ∃ r' f', o = .inl r' ∧ X = (xh f', u) ∧ (fun r' f' => r' = some (xi (if sres (sbt K G) back r0 G.length = 0 then 1 else 0)) ∧ (∃ fs' : List Value, sMO f' fs' ∧ (∀ j, j ≠ 28 → j ≠ 29 → fs'[j]? = fs[j]?) ∧ (sres (sbt K G) back r0 G.length ≠ 0 → ∃ b k : Int, fs'[28]? = some (xi b) ∧ fs'[29]? = some (xi k) ∧ 10 * b + k = sres (sbt K G) back r0 G.length)) ∧ (∃ ax ay af : List Int, sMC f' ax ay af ∧ (sres (sbt K G) back r0 G.length = 0 → ∀ j : Nat, j ≤ G.length → sML ax ay af (8 * (j : Nat)) (srow (sbt K G) back r0 j))) ∧ ∀ q, q ≠ 177 → q ≠ 192 → q ≠ 193 → q ≠ 194 → f' q = f0 q) r' f') 122 57 lv [] f := by
      intro lv l0 l1 l2 l3 l4 l5
      refine x_sipush rfl (by decide) ?_
      refine x_istore rfl (show (6 : Nat) < 10 from by decide) ?_
      refine x_iconst rfl ?_
      refine x_istore rfl (show (7 : Nat) < 10 from by decide) ?_
      refine xs_122a (bt := sbt K G) (back := back) (r0 := r0) (ow := ((16 * c + jb : Nat) : Int)) (lk := 8 * tk') hmo0 (by omega) (fun lv2 f2 m0 m1 m2 m3 m4 m5 m6 hq2 hfr2 => ?_) 8 0 _ _ rfl (xst_ne (by decide) (xst_ne (by decide) l0 (Or.inl rfl)) (Or.inl rfl)) (xst_ne (by decide) (xst_ne (by decide) l1 (Or.inl rfl)) (Or.inl rfl)) (xst_ne (by decide) (xst_ne (by decide) l2 (Or.inl rfl)) (Or.inl rfl)) (xst_ne (by decide) (xst_ne (by decide) l3 (Or.inl rfl)) (Or.inl rfl)) (xst_ne (by decide) (xst_ne (by decide) l4 (Or.inl rfl)) (Or.inl rfl)) (xst_ne (by decide) (xst_ne (by decide) l5 (Or.inl rfl)) (Or.inl rfl)) (xst_ne (by decide) xst_eq (Or.inl rfl)) xst_eq ⟨ax, ay, af, hmc, hrow, fun e he => absurd he (Nat.not_lt_zero _)⟩ (fun q _ _ _ => rfl)
      have hmo2 : sMO f2 fs' := ⟨(hfr2 177 (by decide) (by decide) (by decide)).trans h177, hmo0.2⟩
      have hKM2 : sKM f2 K c G := ⟨hc, cn, tk, pf, pq, se, at', ((hfr2 180 (by decide) (by decide) (by decide)).trans ((hfr 180 (by decide) (by decide) (by decide) (by decide)).trans h180)), ((hfr2 182 (by decide) (by decide) (by decide)).trans ((hfr 182 (by decide) (by decide) (by decide) (by decide)).trans h182)), ((hfr2 183 (by decide) (by decide) (by decide)).trans ((hfr 183 (by decide) (by decide) (by decide) (by decide)).trans h183)), ((hfr2 184 (by decide) (by decide) (by decide)).trans ((hfr 184 (by decide) (by decide) (by decide) (by decide)).trans h184)), ((hfr2 185 (by decide) (by decide) (by decide)).trans ((hfr 185 (by decide) (by decide) (by decide) (by decide)).trans h185)), ((hfr2 186 (by decide) (by decide) (by decide)).trans ((hfr 186 (by decide) (by decide) (by decide) (by decide)).trans h186)), ⟨q1, q2, q3, q4, q5, q6⟩, hcn, hGj, hK224, hKK⟩
      refine x_aload_n rfl m0 ?_
      refine x_getfield rfl (by decide) ((hfr2 177 (by decide) (by decide) (by decide)).trans h177) f14 ?_
      refine x_iload rfl m4 ?_
      refine x_iaload rfl (by decide) ((hfr2 183 (by decide) (by decide) (by decide)).trans ((hfr 183 (by decide) (by decide) (by decide) (by decide)).trans h183)) ⟨by omega, by omega⟩ (by omega) ?_
      rw [Int.toNat_natCast, hpf]
      refine x_istore rfl (show (7 : Nat) < 10 from by decide) ?_
      refine xs_122b (tk := tk') (rl := srow (sbt K G) back r0 tk'.toNat) (L := sprt K (G.getD jb (0, 0, 0))) (F := (G.getD jb (0, 0, 0)).1) hmo2 (sKM_PM hKM2 hbb) (by omega) htk' rfl ((hfr2 184 (by decide) (by decide) (by decide)).trans ((hfr 184 (by decide) (by decide) (by decide) (by decide)).trans h184)) q4 ⟨by omega, by omega⟩ (by rw [Int.toNat_natCast, hpq]; omega) (fun lv3 f3 n0 n1 n2 n3 n4 n5 hq3 hfr3 => T lv3 f3 n0 n1 n2 n3 (sQR_c hq3 fun d _ => hsam d) (fun q a1 a2 a3 => (hfr3 q a1 a2 a3).trans (hfr2 q a1 a2 a3))) (sprt K (G.getD jb (0, 0, 0))).length 0 _ _ rfl (xst_ne (by decide) m0 (Or.inl rfl)) (xst_ne (by decide) m1 (Or.inl rfl)) (xst_ne (by decide) m2 (Or.inl rfl)) (xst_ne (by decide) m3 (Or.inl rfl)) (xst_ne (by decide) m4 (Or.inl rfl)) (xst_ne (by decide) m5 (Or.inl rfl)) (by rw [List.take_zero]; exact (xst_ne (by decide) m6 (Or.inl rfl))) (by rw [show (G.getD jb (0, 0, 0)).1 + ((0 : Nat) : Int) = (G.getD jb (0, 0, 0)).1 from by omega]; exact xst_eq) (sQR_c hq2 fun e _ => (samk_0 back _ _ e).symm) (fun q _ _ _ => rfl)
    refine x_iload_n rfl l3 ?_
    refine x_aload_n rfl l0 ?_
    refine x_getfield rfl (by decide) h177 f11 ?_
    refine x_iload_n rfl l1 ?_
    refine x_iaload rfl (by decide) ((hfr 180 (by decide) (by decide) (by decide) (by decide)).trans h180) ⟨by omega, by omega⟩ (by omega) ?_
    rw [Int.toNat_natCast, hcn]
    refine x_cge (t := 238) rfl rfl ⟨by omega, by omega⟩ ⟨by omega, by omega⟩ (fun h => absurd h (by omega)) (fun _ => ?_)
    refine x_bipush rfl (by decide) ?_
    refine x_iload_n rfl l1 ?_
    refine x_imul rfl ?_
    refine x_iload_n rfl l2 ?_
    cases hbk : back with
    | false =>
      rw [hbk] at hjbd htkd T2
      have hj : jb = i := hjbd
      have ht : tk' = (G.getD i (0, 0, 0)).2.2 := htkd
      show xz v0 xs u _ 122 17 lv [xi (if false = true then 1 else 0), xi (16 * (c : Nat))] f
      have l2b : zlv lv 2 = some (xi (if false = true then 1 else 0)) := by
        have h := l2
        rw [hbk] at h
        exact h
      have hjt : (G.getD jb (0, 0, 0)).2.2 = tk' := by rw [hj, ht]
      refine x_ifeq (t := 33) rfl rfl (by decide) (fun _ => ?_) (fun h => absurd rfl h)
      refine x_iload_n rfl l3 ?_
      refine x_iadd rfl ?_
      rw [show 16 * ((c : Nat) : Int) + (i : Nat) = ((16 * c + jb : Nat) : Int) from by omega]
      refine x_istore rfl (show (4 : Nat) < 10 from by decide) ?_
      refine x_iload_n rfl (xst_ne (by decide) l2b (Or.inl rfl)) ?_
      refine x_ifeq (t := 45) rfl rfl (by decide) (fun _ => ?_) (fun h => absurd rfl h)
      refine x_bipush rfl (by decide) ?_
      refine x_aload_n rfl (xst_ne (by decide) l0 (Or.inl rfl)) ?_
      refine x_getfield rfl (by decide) h177 f13 ?_
      refine x_iload rfl xst_eq ?_
      refine x_iaload rfl (by decide) ((hfr 182 (by decide) (by decide) (by decide) (by decide)).trans h182) ⟨by omega, by omega⟩ (by omega) ?_
      rw [Int.toNat_natCast, htkj, hjt]
      refine x_imul rfl ?_
      refine x_istore rfl (show (5 : Nat) < 10 from by decide) ?_
      exact T2 _ (xst_ne (by decide) (xst_ne (by decide) l0 (Or.inl rfl)) (Or.inl rfl)) (xst_ne (by decide) (xst_ne (by decide) l1 (Or.inl rfl)) (Or.inl rfl)) (xst_ne (by decide) (xst_ne (by decide) l2b (Or.inl rfl)) (Or.inl rfl)) (xst_ne (by decide) (xst_ne (by decide) l3 (Or.inl rfl)) (Or.inl rfl)) (xst_ne (by decide) xst_eq (Or.inl rfl)) xst_eq
    | true =>
      rw [hbk] at hjbd htkd T2
      have hj : jb = G.length - 1 - i := hjbd
      have ht : tk' = 0 := htkd
      show xz v0 xs u _ 122 17 lv [xi (if true = true then 1 else 0), xi (16 * (c : Nat))] f
      have l2b : zlv lv 2 = some (xi (if true = true then 1 else 0)) := by
        have h := l2
        rw [hbk] at h
        exact h
      refine x_ifeq (t := 33) rfl rfl (by decide) (fun h => absurd h (by decide)) (fun _ => ?_)
      refine x_aload_n rfl l0 ?_
      refine x_getfield rfl (by decide) h177 f11 ?_
      refine x_iload_n rfl l1 ?_
      refine x_iaload rfl (by decide) ((hfr 180 (by decide) (by decide) (by decide) (by decide)).trans h180) ⟨by omega, by omega⟩ (by omega) ?_
      rw [Int.toNat_natCast, hcn]
      refine x_iconst rfl ?_
      refine x_isub rfl ?_
      refine x_iload_n rfl l3 ?_
      refine x_isub rfl ?_
      refine x_goto (t := 34) rfl rfl ?_
      refine x_iadd rfl ?_
      rw [show 16 * ((c : Nat) : Int) + (((G.length : Nat) : Int) - 1 - (i : Nat)) = ((16 * c + jb : Nat) : Int) from by omega]
      refine x_istore rfl (show (4 : Nat) < 10 from by decide) ?_
      refine x_iload_n rfl (xst_ne (by decide) l2b (Or.inl rfl)) ?_
      refine x_ifeq (t := 45) rfl rfl (by decide) (fun h => absurd h (by decide)) (fun _ => ?_)
      refine x_iconst rfl ?_
      refine x_goto (t := 55) rfl rfl ?_
      refine x_istore rfl (show (5 : Nat) < 10 from by decide) ?_
      exact T2 _ (xst_ne (by decide) (xst_ne (by decide) l0 (Or.inl rfl)) (Or.inl rfl)) (xst_ne (by decide) (xst_ne (by decide) l1 (Or.inl rfl)) (Or.inl rfl)) (xst_ne (by decide) (xst_ne (by decide) l2b (Or.inl rfl)) (Or.inl rfl)) (xst_ne (by decide) (xst_ne (by decide) l3 (Or.inl rfl)) (Or.inl rfl)) (xst_ne (by decide) xst_eq (Or.inl rfl)) (by rw [ht]; exact xst_eq)
theorem xs_122 {v0 : Value} {xs : List Int32} {u : Nat × Nat} {f0 : Nat → zE} {fs : List Value} {K : List (Int × Int)} {G : List xBt} {back : Bool} {r0 : Nat → Int} {c : Nat} (hKM : sKM f0 K c G) (hG : sGok K G) {ax ay af : List Int} (hmo : sMO f0 fs) (hmc : sMC f0 ax ay af) (hr : sML ax ay af 0 r0) : xq v0 xs u 122 [(0, .ref 177), (1, xi (c : Nat)), (2, xi (if back = true then 1 else 0))] f0 (fun r' f' => r' = some (xi (if sres (sbt K G) back r0 G.length = 0 then 1 else 0)) ∧ (∃ fs' : List Value, sMO f' fs' ∧ (∀ j, j ≠ 28 → j ≠ 29 → fs'[j]? = fs[j]?) ∧ (sres (sbt K G) back r0 G.length ≠ 0 → ∃ b k : Int, fs'[28]? = some (xi b) ∧ fs'[29]? = some (xi k) ∧ 10 * b + k = sres (sbt K G) back r0 G.length)) ∧ (∃ ax ay af : List Int, sMC f' ax ay af ∧ (sres (sbt K G) back r0 G.length = 0 → ∀ j : Nat, j ≤ G.length → sML ax ay af (8 * (j : Nat)) (srow (sbt K G) back r0 j))) ∧ ∀ q, q ≠ 177 → q ≠ 192 → q ≠ 193 → q ≠ 194 → f' q = f0 q) := by
  unfold xq
  refine x_iconst rfl ?_
  refine x_istore_n rfl (show (3 : Nat) < 10 from by decide) ?_
  refine xs_122l hKM hG G.length 0 _ _ rfl (xst_ne (by decide) rfl (Or.inl rfl)) (xst_ne (by decide) rfl (Or.inl rfl)) (xst_ne (by decide) rfl (Or.inl rfl)) xst_eq ⟨fs, hmo, fun _ _ _ => rfl⟩ ⟨ax, ay, af, hmc, fun j hj => ?_⟩ rfl (fun q _ _ _ _ => rfl)
  have e : j = 0 := by omega
  subst e
  exact hr
