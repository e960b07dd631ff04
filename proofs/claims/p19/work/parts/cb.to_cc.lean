section
/-! Both sides at once: what holds between two calls of the law. -/
theorem zwp_keep {v0 : Value} {Gv : List zE} {m : Nat} {l : List (Nat × Nat)} {lv : zL} {X : zX} {Q : zO → zX → Prop} (hk : yws.lookup m = some l) (h : zwp (zt v0) Gv m 0 lv [] X Q) : zwp (zt v0) Gv m 0 lv [] X (fun o X' => Q o X' ∧ zkeep l X.1 X'.1) := by
  obtain ⟨n, o, X', hz, hq⟩ := h
  exact ⟨n, o, X', hz, hq, zev_keep (yws_closed v0) n m 0 l lv [] X _ hk hz⟩
/-- the model's found way keeps its length -/
def sKp (f f' : Nat → zE) : Prop := ∀ fs : List Value, f 177 = .inl (10, fs) → ∃ fs' : List Value, f' 177 = .inl (10, fs') ∧ fs'[36]? = fs[36]?
theorem sKp_of {l : List (Nat × Nat)} {f f' : Nat → zE} (h : zkeep l (xh f) (xh f')) (h36 : l.elem (10, 36) = false) : sKp f f' := by
  intro fs h177
  have e := xh_at (f := f) (p := 177) (by decide) (by decide)
  rw [h177] at e
  obtain ⟨fs', he, hk⟩ := h _ _ _ e
  have e' := xh_at (f := f') (p := 177) (by decide) (by decide)
  rw [he] at e'
  refine ⟨fs', (Option.some.inj e').symm, hk 36 fun hm => ?_⟩
  rw [List.elem_iff.mpr hm] at h36
  cases h36
theorem sKp_e {f f' : Nat → zE} (h : f' 177 = f 177) : sKp f f' := fun fs e => ⟨fs, h.trans e, rfl⟩
theorem sKp_t {f g h : Nat → zE} (a : sKp f g) (b : sKp g h) : sKp f h := by
  intro fs e
  obtain ⟨fs1, e1, k1⟩ := a fs e
  obtain ⟨fs2, e2, k2⟩ := b fs1 e1
  exact ⟨fs2, e2, k2.trans k1⟩
/-- a method of the model: the types and the found way kept -/
theorem sxq_K {v0 : Value} {xs : List Int32} {u : Nat × Nat} {f : Nat → zE} {m : Nat} {ps : List yA} {ro : Option yA} {vs : List Value} {P : Option Value → (Nat → zE) → Prop} {l : List (Nat × Nat)} (h : xq v0 xs u m (lv_args 0 vs) f P) (hA : xca f m ps ro []) (hf : yfa ps vs) (hk : yws.lookup m = some l) (h36 : l.elem (10, 36) = false) : xq v0 xs u m (lv_args 0 vs) f (fun r f' => P r f' ∧ xD f f' ∧ sKp f f') := by
  refine zwp_mono (zwp_keep hk (sxq_D h hA hf)) fun o X hq => ?_
  obtain ⟨⟨r, f1, e1, e2, hP, hD⟩, hz⟩ := hq
  subst e2
  exact ⟨r, f1, e1, rfl, hP, hD, sKp_of hz h36⟩
theorem sCK_I {f : Nat → zE} {n : Nat} {cs : List Int} {nms : List (List Int)} {bc dp tk0 : Nat → Int} {K : List (Int × Int)} {G : Nat → List xBt} {R0 : Nat → Int × Int} (h : xINV f n cs nms bc dp tk0 K G R0) : sCK f K G nms.length := by
  obtain ⟨hM, -, hN, ⟨c1, c2, c3, kp, al, ⟨E, B, dr, op, ex, bs, sl, pt, tm, oa, ki, st, en, wo, di, sg, nmd, m, d, h109, hbs, hsl, h53, h110, h111, q1, q2, q3, q4, h112, hd, se, at', h55, h56, ls, la, bse, bat, hpt, hkc, -⟩, hkp, hKk⟩, -, ⟨hz1, hz2, hz3⟩, hz4, hz5⟩ := h
  have h12 := hN.1
  have key : ∀ c, c < nms.length → sFG f (57 + 4 * c) (G c) ∧ sGok K (G c) := by
    intro c hc
    obtain ⟨al2, hb0, hb1, fp, ep, ta, h57, h58, h59, h60, ⟨t1, t2, t3, t4, t5, t6, t7⟩, hta, hcb⟩ := c2 c hc
    obtain ⟨g1, g2⟩ := hcb hb1
    have a1 : 57 + 4 * c + 1 = 58 + 4 * c := by omega
    have a2 : 57 + 4 * c + 2 = 59 + 4 * c := by omega
    have a3 : 57 + 4 * c + 3 = 60 + 4 * c := by omega
    have h57' : f (57 + 4 * c) = .inl (3, [.ref (57 + 4 * c + 1), .ref (57 + 4 * c + 2), .ref (57 + 4 * c + 3), .long (Int64.ofInt (xpr (nms.getD c []).reverse)), xi ((G c).length : Nat), xi (dp c), al2]) := by
      rw [a1, a2, a3, g1]
      exact h57
    refine ⟨⟨by omega, ⟨_, _, _, h57'⟩, fp, ep, ta, ?_, ?_, ?_, t1, t2, t3, g2⟩, by omega, fun j hj => ?_⟩
    · rw [a1]; exact h58
    · rw [a2]; exact h59
    · rw [a3]; exact h60
    · have e := g2 j hj
      have x := hz5 c j hj
      have y1 := hta j (by omega)
      have y2 := t7 j (by omega)
      refine ⟨x, ?_, ?_⟩
      · rw [← e]; exact y1
      · rw [← e]; exact y2
  refine ⟨h12, ⟨kp, pt, h53⟩, xINV_54 hM, ⟨⟨_, _, _, h53⟩, se, at', h55, h56, ls, la, by omega, fun k hk => ?_⟩, fun c hc => (key c hc).1, fun c hc => (key c hc).2⟩
  have e := hkc k hk
  refine ⟨e, ?_, ?_⟩
  · rw [← e]; exact bse k
  · rw [← e]; exact bat k
theorem sKM_I {f : Nat → zE} {n : Nat} {cs : List Int} {nms : List (List Int)} {bc dp tk0 : Nat → Int} {K : List (Int × Int)} {G : Nat → List xBt} {R0 : Nat → Int × Int} (h : xINV f n cs nms bc dp tk0 K G R0) : ∀ c, c < nms.length → sKM f K c (G c) := by
  obtain ⟨hM, -, hN, ⟨-, -, -, kp, al, -, hkp, hKk⟩, ⟨cd, fa, ki, be, en, wo, nu, pa0, op, q, nl, m0, d0, tmM, oaM, Ee, Bb, h177, hpa, h179, hnl, hnm, ⟨cn, dn, tk, pf, pq, k0, k1, k2, k3, k4, ⟨g1, g2, g3, g4, g5⟩, -, -, hcn, -, htk, -, hR, -⟩, h187, h188, l1, l2, se, at', h185, h186, s1, s2, s3, s4, s5⟩, ⟨hz1, -, -⟩, hz4, -⟩ := h
  intro c hc
  have h12 := hN.1
  obtain ⟨z1, z2⟩ := hz4 c hc
  have zb := hz1 c (by omega)
  refine ⟨by omega, cn, tk, pf, pq, se, at', k0, k2, k3, k4, h185, h186, ⟨g1, g3, g4, g5, s1, s2⟩, ?_, fun j hj => ?_, by omega, fun k hk => ?_⟩
  · rw [hcn c (by omega)]; exact z1.symm
  · have e2 := z2 j hj
    rw [← hR (16 * c + j) (by omega), ← (htk (16 * c + j) (by omega)).1] at e2
    exact e2
  · have e := s5 k (by rw [List.length_append]; omega)
    have e0 : (K ++ Ee).getD k (0, 0) = K.getD k (0, 0) := by rw [List.getD_eq_getElem?_getD, List.getElem?_append_left hk, ← List.getD_eq_getElem?_getD]
    rw [e0] at e
    refine ⟨e, ?_, ?_⟩
    · rw [← e]; exact s3 k
    · rw [← e]; exact s4 k
/-! Frames. -/
theorem sMT_fr {f f' : Nat → zE} {n : Nat} {S : sS} (h : sMT f n S) (h177 : f' 177 = f 177) (hfr : ∀ q, 189 ≤ q → q ≤ 197 → f' q = f q) : sMT f' n S := by
  obtain ⟨⟨fs, hB⟩, hX, hJ, ax, ay, af, c1, c2, c3, c4⟩ := h
  exact ⟨⟨fs, sMB_f hB h177⟩, sMX_f hX (fun q a b => hfr q a (by omega)), sMJ_f hJ (fun q a b => hfr q (by omega) b), ax, ay, af, (hfr _ (by decide) (by decide)).trans c1, (hfr _ (by decide) (by decide)).trans c2, (hfr _ (by decide) (by decide)).trans c3, c4⟩
theorem sAC_fr {f f' : Nat → zE} {al : Nat → Bool} (h : sAC f al) (hfr : ∀ q, 57 ≤ q → q ≤ 108 → f' q = f q) : sAC f' al := by
  intro i hi
  obtain ⟨nm, b, d, e⟩ := h i hi
  exact ⟨nm, b, d, (hfr _ (by omega) (by omega)).trans e⟩
theorem sAD_fr {f f' : Nat → zE} {al : Nat → Bool} (h : sAD f al) (e : f' 198 = f 198) : sAD f' al := by
  obtain ⟨bl, h1, h2⟩ := h
  exact ⟨bl, e.trans h1, h2⟩
theorem sWC_fr {f f' : Nat → zE} {F : Int} {wy : Nat → Int} (h : sWC f F wy) (e1 : f' 117 = f 117) (e2 : f' 121 = f 121) : sWC f' F wy := by
  obtain ⟨⟨nd, h1⟩, cl, h2, h3⟩ := h
  exact ⟨⟨nd, e1.trans h1⟩, cl, e2.trans h2, h3⟩
theorem sWD_fr {f f' : Nat → zE} {F : Int} {wy : Nat → Int} (h : sWD f F wy) (hk : sKp f f') (e2 : f' 199 = f 199) : sWD f' F wy := by
  obtain ⟨⟨fs, h1, h36⟩, wl, h2, h3⟩ := h
  obtain ⟨fs', e, k⟩ := hk fs h1
  exact ⟨⟨fs', e, k.trans h36⟩, wl, e2.trans h2, h3⟩
/-- what was danced is known, and went well -/
def sHK (K : List (Int × Int)) (G : Nat → List xBt) (n : Nat) (S : sS) : Prop := ∀ i, i < S.2.1.length → (S.2.1.getD i sH0).1 < n ∧ sres (sbt K (G (S.2.1.getD i sH0).1)) (S.2.1.getD i sH0).2.1 (S.2.1.getD i sH0).2.2 (G (S.2.1.getD i sH0).1).length = 0
theorem sHK_PF {K : List (Int × Int)} {G : Nat → List xBt} {n : Nat} {back : Bool} {c : Int} {S : sS} (h : sHK K G n S) : sHK K G n (sPF K G n back c S).2.2 := by
  unfold sPF
  split
  · rename_i hc
    split
    · exact h
    · split
      · rename_i hr
        intro i hi
        replace hi : i < (S.2.1 ++ [(c.toNat, back, S.1)]).length := hi
        show ((S.2.1 ++ [(c.toNat, back, S.1)]).getD i sH0).1 < n ∧ sres (sbt K (G ((S.2.1 ++ [(c.toNat, back, S.1)]).getD i sH0).1)) ((S.2.1 ++ [(c.toNat, back, S.1)]).getD i sH0).2.1 ((S.2.1 ++ [(c.toNat, back, S.1)]).getD i sH0).2.2 (G ((S.2.1 ++ [(c.toNat, back, S.1)]).getD i sH0).1).length = 0
        by_cases e : i < S.2.1.length
        · have e1 : (S.2.1 ++ [(c.toNat, back, S.1)]).getD i sH0 = S.2.1.getD i sH0 := by rw [List.getD_eq_getElem?_getD, List.getElem?_append_left e, ← List.getD_eq_getElem?_getD]
          rw [e1]
          exact h i e
        · have e2 : i = S.2.1.length := by
            rw [List.length_append, List.length_singleton] at hi
            omega
          have e1 : (S.2.1 ++ [(c.toNat, back, S.1)]).getD i sH0 = (c.toNat, back, S.1) := by
            rw [e2, List.getD_eq_getElem?_getD, List.getElem?_append_right (Nat.le_refl _), Nat.sub_self]
            rfl
          rw [e1]
          exact ⟨by show c.toNat < n; omega, hr⟩
      · exact fun i hi => h i hi
  · exact h
theorem sHK_UN {K : List (Int × Int)} {G : Nat → List xBt} {n : Nat} {S : sS} (h : sHK K G n S) : sHK K G n (sUN G S).2.2 := by
  unfold sUN
  split
  · exact h
  · intro i hi
    replace hi : i < (S.2.1.take (S.2.1.length - 1)).length := hi
    rw [List.length_take] at hi
    have e1 : (S.2.1.take (S.2.1.length - 1)).getD i sH0 = S.2.1.getD i sH0 := by rw [List.getD_eq_getElem?_getD, List.getElem?_take, if_pos (by omega), ← List.getD_eq_getElem?_getD]
    show ((S.2.1.take (S.2.1.length - 1)).getD i sH0).1 < n ∧ sres (sbt K (G ((S.2.1.take (S.2.1.length - 1)).getD i sH0).1)) ((S.2.1.take (S.2.1.length - 1)).getD i sH0).2.1 ((S.2.1.take (S.2.1.length - 1)).getD i sH0).2.2 (G ((S.2.1.take (S.2.1.length - 1)).getD i sH0).1).length = 0
    rw [e1]
    exact h i (by omega)
theorem sHK_G {K : List (Int × Int)} {G : Nat → List xBt} {n : Nat} {S : sS} (h : sHK K G n S) (hG : ∀ c, c < n → sGok K (G c)) : ∀ i, i < S.2.1.length → (G (S.2.1.getD i sH0).1).length ≤ 16 := fun i hi => (hG _ (h i hi).1).1
theorem sprt_app {K E : List (Int × Int)} {b : xBt} (h : 0 ≤ b.1 ∧ b.1 ≤ b.2.1 ∧ b.2.1 ≤ (K.length : Int)) : sprt (K ++ E) b = sprt K b := by
  unfold sprt
  rw [List.drop_append_of_le_length (by omega), List.take_append_of_le_length (by rw [List.length_drop]; omega)]
theorem sbt_app {K E : List (Int × Int)} {B : List xBt} (h : xgk K B) : sbt (K ++ E) B = sbt K B := by
  unfold sbt
  refine List.map_congr_left fun b hb => ?_
  obtain ⟨j, hj, e⟩ := List.mem_iff_getElem.mp hb
  have h1 := h j hj
  rw [List.getD_eq_getElem?_getD, List.getElem?_eq_getElem hj] at h1
  have h2 : 0 ≤ (B[j]).1 ∧ (B[j]).1 ≤ (B[j]).2.1 ∧ (B[j]).2.1 ≤ (K.length : Int) := h1
  rw [← e, sprt_app h2]
/-! The codes and answers. -/
theorem sPF_c {K : List (Int × Int)} {G : Nat → List xBt} {n : Nat} {back : Bool} {c : Int} {S : sS} : (sPF K G n back c S).1 = 0 ∨ (sPF K G n back c S).1 = 1 ∨ (sPF K G n back c S).1 = 2 := by
  unfold sPF
  split
  · split
    · exact Or.inr (Or.inr rfl)
    · split
      · exact Or.inl rfl
      · exact Or.inr (Or.inr rfl)
  · exact Or.inr (Or.inl rfl)
theorem sUN_c {G : Nat → List xBt} {S : sS} : (sUN G S).1 = 0 ∨ (sUN G S).1 = 1 := by
  unfold sUN
  split
  · exact Or.inr rfl
  · exact Or.inl rfl
theorem sWH_c {S : sS} {d w : Int} : (sWH S d w).1 = 0 ∨ (sWH S d w).1 = 1 := by
  unfold sWH
  split
  · exact Or.inl rfl
  · exact Or.inr rfl
theorem sWH_s {S : sS} {d w : Int} : (sWH S d w).2.2 = S := by
  unfold sWH
  split <;> rfl
theorem sSL_c {S : sS} {d w : Int} : (sSL S d w).1 = 0 ∨ (sSL S d w).1 = 1 := by
  unfold sSL
  split
  · exact Or.inl rfl
  · exact Or.inr rfl
theorem sSL_s {S : sS} {d w : Int} : (sSL S d w).2.2 = S := by
  unfold sSL
  split <;> rfl
theorem sSL_b {S : sS} {d w : Int} : (sSL S d w).2.1 = 0 ∨ (sSL S d w).2.1 = 1 := by
  unfold sSL
  split
  · show (if _ then (1 : Int) else 0) = 0 ∨ (if _ then (1 : Int) else 0) = 1
    split
    · exact Or.inr rfl
    · exact Or.inl rfl
  · exact Or.inl rfl
theorem sSD_c {K : List (Int × Int)} {G : Nat → List xBt} {S : sS} {b d : Int} : (sSD K G S b d).1 = 0 ∨ (sSD K G S b d).1 = 1 ∨ (sSD K G S b d).1 = 2 := by
  unfold sSD
  split
  · split
    · exact Or.inr (Or.inr rfl)
    · exact Or.inl rfl
  · exact Or.inr (Or.inl rfl)
theorem sSD_s {K : List (Int × Int)} {G : Nat → List xBt} {S : sS} {b d : Int} : (sSD K G S b d).2.2 = S := by
  unfold sSD
  split
  · split <;> rfl
  · rfl
theorem sWR_c {F : Int} {wy : Nat → Int} {S : sS} {i : Int} : (sWR F wy S i).1 = 0 ∨ (sWR F wy S i).1 = 1 := by
  unfold sWR
  split
  · exact Or.inr rfl
  · exact Or.inl rfl
theorem sWR_s {F : Int} {wy : Nat → Int} {S : sS} {i : Int} : (sWR F wy S i).2.2 = S := by
  unfold sWR
  split <;> rfl
theorem sSM_c {K : List (Int × Int)} {G : Nat → List xBt} {n : Nat} {S : sS} {a b : Int} : (sSM K G n S a b).1 = 0 ∨ (sSM K G n S a b).1 = 1 := by
  unfold sSM
  split
  · exact Or.inl rfl
  · exact Or.inr rfl
theorem sSM_s {K : List (Int × Int)} {G : Nat → List xBt} {n : Nat} {S : sS} {a b : Int} : (sSM K G n S a b).2.2 = S := by
  unfold sSM
  split <;> rfl
theorem sSM_b {K : List (Int × Int)} {G : Nat → List xBt} {n : Nat} {S : sS} {a b : Int} : (sSM K G n S a b).2.1 = 0 ∨ (sSM K G n S a b).2.1 = 1 := by
  unfold sSM
  split
  · show (if _ then (1 : Int) else 0) = 0 ∨ (if _ then (1 : Int) else 0) = 1
    split
    · exact Or.inr rfl
    · exact Or.inl rfl
  · exact Or.inl rfl
/-- beats -/
def sBE (bc : Nat → Int) (n : Nat) (S : sS) (z : Int) : Int × Int × sS := if 0 ≤ z ∧ z < (n : Nat) then (0, bc z.toNat, S) else (1, 0, S)
theorem sBE_c {bc : Nat → Int} {n : Nat} {S : sS} {z : Int} : (sBE bc n S z).1 = 0 ∨ (sBE bc n S z).1 = 1 := by
  unfold sBE
  split
  · exact Or.inl rfl
  · exact Or.inr rfl
theorem sBE_s {bc : Nat → Int} {n : Nat} {S : sS} {z : Int} : (sBE bc n S z).2.2 = S := by
  unfold sBE
  split <;> rfl
/-! The state of the law. -/
/-- both sides remember the same fault -/
def xFT (f : Nat → zE) : Prop := ∃ z : Int, (-1 ≤ z ∧ z ≤ 100) ∧ (∃ fs : List Value, f 50 = .inl (0, fs) ∧ fs[11]? = some (xi z)) ∧ ∃ fs : List Value, f 177 = .inl (10, fs) ∧ fs[3]? = some (xi z)
theorem xFT_D {f f' : Nat → zE} (h : xFT f) (hD : xD f f') : xFT f' := by
  obtain ⟨z, hz, ⟨fs, h50, h11⟩, gs, h177, h3⟩ := h
  refine ⟨z, hz, ?_, ?_⟩
  · have e := xh_at (f := f) (p := 50) (by decide) (by decide)
    rw [h50] at e
    obtain ⟨fs', he, hk⟩ := hD.2.2 _ _ _ e
    have e' := xh_at (f := f') (p := 50) (by decide) (by decide)
    rw [he] at e'
    exact ⟨fs', (Option.some.inj e').symm, (hk 11 (by decide)).trans h11⟩
  · have e := xh_at (f := f) (p := 177) (by decide) (by decide)
    rw [h177] at e
    obtain ⟨fs', he, hk⟩ := hD.2.2 _ _ _ e
    have e' := xh_at (f := f') (p := 177) (by decide) (by decide)
    rw [he] at e'
    exact ⟨fs', (Option.some.inj e').symm, (hk 3 (by decide)).trans h3⟩
theorem xFT_tx {f f2 : Nat → zE} {v w : Value} {gs : List Value} (h : xFT f) (h50 : f2 50 = f 50) (h177 : f 177 = .inl (10, gs)) (g177 : f2 177 = .inl (10, (gs.set 0 v).set 1 w)) : xFT f2 := by
  obtain ⟨z, hz, ⟨fs, k50, k11⟩, gs', k177, k3⟩ := h
  rw [h177] at k177
  cases k177
  refine ⟨z, hz, ⟨fs, h50.trans k50, k11⟩, _, g177, ?_⟩
  rw [List.getElem?_set_ne (by decide), List.getElem?_set_ne (by decide)]
  exact k3
def sRS (f : Nat → zE) (K : List (Int × Int)) (G : Nat → List xBt) (n : Nat) (S : sS) (al : Nat → Bool) (F : Int) (wy : Nat → Int) : Prop := sCT f K G S ∧ sMT f n S ∧ sHK K G n S ∧ (sAC f al ∧ sAD f al ∧ (∀ i, n ≤ i → al i = false) ∧ scnt al n ≤ 5) ∧ (-1 ≤ F ∧ F ≤ 4) ∧ sWC f F wy ∧ sWD f F wy
def sA (f : Nat → zE) : Prop := ∃ (n : Nat) (cs : List Int) (nms : List (List Int)) (bc dp tk0 : Nat → Int) (K : List (Int × Int)) (G : Nat → List xBt) (R0 : Nat → Int × Int) (S : sS) (al : Nat → Bool) (F : Int) (wy : Nat → Int), xINV f n cs nms bc dp tk0 K G R0 ∧ xFT f ∧ sRS f K G nms.length S al F wy
/-- a step of both that dances -/
theorem sCLO {f f1 f2 : Nat → zE} {n : Nat} {cs : List Int} {nms : List (List Int)} {bc dp tk0 : Nat → Int} {K : List (Int × Int)} {G : Nat → List xBt} {R0 : Nat → Int × Int} {S S' : sS} {al : Nat → Bool} {F : Int} {wy : Nat → Int} (hI : xINV f n cs nms bc dp tk0 K G R0) (hF : xFT f) (hR : sRS f K G nms.length S al F wy) (hD1 : xD f f1) (hT1 : sCT f1 K G S') (fr1 : ∀ q, q ≠ 50 → q ≠ 115 → q ≠ 116 → ¬ (123 ≤ q ∧ q ≤ 176) → q ≠ 203 → f1 q = f q) (hD2 : xD f1 f2) (hk : sKp f1 f2) (hT2 : sMT f2 nms.length S') (fr2 : ∀ q, q ≠ 177 → ¬ (189 ≤ q ∧ q ≤ 197) → q ≠ 202 → f2 q = f1 q) (hH : sHK K G nms.length S') : sA f2 := by
  obtain ⟨-, -, -, ⟨a1, a2, a3, a4⟩, hF4, w1, w2⟩ := hR
  have fr : ∀ q, q ≠ 50 → q ≠ 115 → q ≠ 116 → ¬ (123 ≤ q ∧ q ≤ 177) → ¬ (189 ≤ q ∧ q ≤ 197) → q ≠ 202 → q ≠ 203 → f2 q = f q := fun q b1 b2 b3 b4 b5 b6 b7 => (fr2 q (by omega) b5 b6).trans (fr1 q b1 b2 b3 (by omega) b7)
  exact ⟨n, cs, nms, bc, dp, tk0, K, G, R0, S', al, F, wy, xINV_D (xINV_D hI hD1) hD2, xFT_D (xFT_D hF hD1) hD2, sCT_f hT1 (fr2 50 (by decide) (by decide) (by decide)) (fun q b1 b2 => fr2 q (by omega) (by omega) (by omega)), hT2, hH, ⟨sAC_fr a1 (fun q b1 b2 => fr q (by omega) (by omega) (by omega) (by omega) (by omega) (by omega) (by omega)), sAD_fr a2 (fr 198 (by decide) (by decide) (by decide) (by decide) (by decide) (by decide) (by decide)), a3, a4⟩, hF4, sWC_fr w1 (fr 117 (by decide) (by decide) (by decide) (by decide) (by decide) (by decide) (by decide)) (fr 121 (by decide) (by decide) (by decide) (by decide) (by decide) (by decide) (by decide)), sWD_fr w2 (sKp_t (sKp_e (fr1 177 (by decide) (by decide) (by decide) (by decide) (by decide))) hk) (fr 199 (by decide) (by decide) (by decide) (by decide) (by decide) (by decide) (by decide))⟩
end
section
/-! The law's own methods, with what they answer. -/
def sHF (f : Nat → zE) (K : List (Int × Int)) (G : Nat → List xBt) (R : Int × Int × sS) (o : zO) (X : zX) : Prop := ∃ (f' : Nat → zE) (u' : Nat × Nat), o = .inl (some (xi R.1)) ∧ X = (xh f', u') ∧ sCT f' K G R.2.2 ∧ (R.1 = 0 → f' 203 = .inr (.inr (.inl [(Int32.ofInt R.2.1).toInt64]))) ∧ ∀ q, q ≠ 50 → q ≠ 115 → q ≠ 116 → ¬ (123 ≤ q ∧ q ≤ 176) → q ≠ 203 → f' q = f q
def sHQ (f : Nat → zE) (u : Nat × Nat) (K : List (Int × Int)) (G : Nat → List xBt) (R : Int × Int × sS) (o : zO) (X : zX) : Prop := ∃ (f' : Nat → zE) (u' : Nat × Nat), o = .inl (some (xi R.1)) ∧ X = (xh f', u') ∧ (u'.1 ≤ u.1 + 1 ∧ u'.2 ≤ u.2 + 6) ∧ (0 ≤ R.1 ∧ R.1 ≤ 2) ∧ xD f f' ∧ sCT f' K G R.2.2 ∧ (R.1 = 0 → f' 203 = .inr (.inr (.inl [(Int32.ofInt R.2.1).toInt64]))) ∧ ∀ q, q ≠ 50 → q ≠ 115 → q ≠ 116 → ¬ (123 ≤ q ∧ q ≤ 176) → q ≠ 203 → f' q = f q
theorem sHQ_of {v0 : Value} {xs : List Int32} {u : Nat × Nat} {f : Nat → zE} {K : List (Int × Int)} {G : Nat → List xBt} {R : Int × Int × sS} {m : Nat} {lv : zL} (hk : 0 ≤ R.1 ∧ R.1 ≤ 2) (h1 : xz v0 xs u (xHQ f u) m 0 lv [] f) (h2 : xz v0 xs u (sHF f K G R) m 0 lv [] f) : xz v0 xs u (sHQ f u K G R) m 0 lv [] f := by
  refine zwp_mono (zwp_and h1 h2) fun o X hq => ?_
  obtain ⟨⟨z, f1, u1, e1, e2, hD, b1, b2⟩, f2, u2, e3, e4, hT, h203, hfr⟩ := hq
  rw [e2] at e4
  have e5 : xh f1 = xh f2 := congrArg Prod.fst e4
  have e6 : u1 = u2 := congrArg Prod.snd e4
  subst e6
  exact ⟨f2, u1, e3, by rw [e2, e5], ⟨b1, b2⟩, hk, xD_h e5 hD, hT, h203, hfr⟩
/-- a method of the class that does not throw -/
theorem sVQ {v0 : Value} {xs : List Int32} {u : Nat × Nat} {f : Nat → zE} {K : List (Int × Int)} {G : Nat → List xBt} {R : Int × Int × sS} {ex : Int → Nat} {m : Nat} {ps : List yA} {ro : Option yA} {vs : List Value} (h : xz v0 xs u (sCQ f u K G ex R) m 0 (lv_args 0 vs) [] f) (hA : xca f m ps ro []) (hf : yfa ps vs) (h0 : R.1 = 0) : xq v0 xs u m (lv_args 0 vs) f (fun r f1 => r = some (xi R.2.1) ∧ xD f f1 ∧ sCT f1 K G R.2.2 ∧ ∀ q, q ≠ 50 → q ≠ 115 → q ≠ 116 → ¬ (123 ≤ q ∧ q ≤ 176) → q ≠ 203 → f1 q = f q) := by
  refine zwp_mono (zwp_and h (xca_q hA hf)) fun o X hq => ?_
  obtain ⟨⟨f1, hc, hT, hfr⟩, r2, f2, e3, e4, -, hD⟩ := hq
  rcases hc with ⟨-, e1, e2⟩ | ⟨hn, -⟩
  · rw [e2] at e4
    exact ⟨_, f1, e1, e2, rfl, xD_h (congrArg Prod.fst e4).symm hD, hT, fun q b1 b2 b3 b4 _ => hfr q b1 b2 b3 b4⟩
  · exact absurd h0 hn
theorem xs_87c {v0 : Value} {xs : List Int32} {u : Nat × Nat} {f : Nat → zE} {K : List (Int × Int)} {G : Nat → List xBt} {n : Nat} {bc : Nat → Int} {S : sS} {z : Int} (hn : n ≤ 12) (hz : -2147483648 ≤ z ∧ z ≤ 2147483647) (hT : sCT f K G S) (h53 : ∃ kp pt : Int, f 53 = xbo (n : Nat) kp pt) (h54 : f 54 = .inr (.inr (.inr (3, xfl)))) (hk : ∀ i, i < n → ∃ (nm : Int64) (d al : Value), f (57 + 4 * i) = xfg i nm (xi (bc i)) d al) : xz v0 xs u (sCQ f u K G exW (sBE bc n S z)) 87 0 [(0, .ref 50), (1, xi z)] [] f := by
  obtain ⟨⟨lf, h50⟩, -⟩ := id hT
  obtain ⟨kp, pt, h53⟩ := h53
  refine x_aload_n rfl rfl ?_
  refine x_iload_n rfl rfl ?_
  refine x_callU [_, _] rfl rfl (show (0 : Nat) ≤ 8 from by decide) (show (2 : Nat) ≤ 2 from by decide) (x_rcv (by decide) h50) (Q2 := fun o X => (o = .inl none ∧ X = (xh f, u) ∧ 0 ≤ z ∧ z < (n : Nat)) ∨ (o = .inr 100 ∧ X = (xh f, u.1 + 1, u.2 + 6) ∧ ¬ (0 ≤ z ∧ z < (n : Nat)))) (xs_86 hn hz h50 h53 (fun h1 h2 => Or.inl ⟨rfl, rfl, h1, h2⟩) (fun h => Or.inr ⟨rfl, rfl, h⟩)) (fun r' X' hq => ?_) (fun x X' hq => ?_)
  · rcases hq with ⟨e1, e2, h1, h2⟩ | ⟨e1, -⟩
    · cases e1
      subst e2
      obtain ⟨i, rfl⟩ : ∃ i : Nat, z = (i : Nat) := ⟨z.toNat, by omega⟩
      have eR : sBE bc n S ((i : Nat) : Int) = (0, bc i, S) := by unfold sBE; rw [if_pos ⟨h1, h2⟩, Int.toNat_natCast]
      rw [eR]
      show xz v0 xs u _ 87 5 _ [] f
      obtain ⟨nm, d, al, hf⟩ := hk i (by omega)
      refine x_aload_n rfl rfl ?_
      refine x_getfield rfl (by decide) h50 rfl ?_
      refine x_iload_n rfl rfl ?_
      refine x_call [_, _] rfl rfl (show (0 : Nat) ≤ 8 from by decide) (show (2 : Nat) ≤ 2 from by decide) (x_rcv (by decide) h53) (xs_44 (by omega) h53 h54) (fun r' f' hP => ?_)
      obtain ⟨rfl, rfl⟩ := hP
      refine x_getfield rfl (by omega) hf rfl ?_
      exact x_ireturn rfl (Or.inl rfl) ⟨_, Or.inl ⟨rfl, rfl, rfl⟩, hT, fun _ _ _ _ _ => rfl⟩
    · cases e1
  · rcases hq with ⟨e1, -⟩ | ⟨e1, e2, h⟩
    · cases e1
    · cases e1
      subst e2
      have eR : sBE bc n S z = (1, 0, S) := by unfold sBE; rw [if_neg h]
      rw [eR]
      exact ⟨rfl, _, Or.inr ⟨(show (1 : Int) ≠ 0 by decide), rfl, rfl⟩, hT, fun _ _ _ _ _ => rfl⟩
theorem xF88 {v0 : Value} {xs : List Int32} {u : Nat × Nat} {f : Nat → zE} {K : List (Int × Int)} {G : Nat → List xBt} {z1 : Int} {R : Int × Int × sS} (hM : yM yT2 (xh f)) (hA : xca f 87 [.inr (.inr [50]), .inl ytop] (some (.inl ytop)) [100]) (hs : xz v0 xs u (sCQ f u K G exW R) 87 0 [(0, .ref 50), (1, xi z1)] [] f) (hR : R.1 = 0 ∨ R.1 = 1) : xz v0 xs u (sHQ f u K G R) 88 0 [(0, .ref 50), (1, xi z1), (2, .ref 203)] [] f := by
  refine sHQ_of (by omega) (xH88 hM hA) ?_
  obtain ⟨dd, lf, lc, h50, -⟩ := xINV_50 hM
  obtain ⟨l, h203, hl, -⟩ := xD_203 hM
  obtain ⟨g0, rfl⟩ := List.length_eq_one_iff.mp hl
  refine x_aload_n rfl rfl ?_
  refine x_iconst rfl ?_
  refine x_aload_n rfl rfl ?_
  refine x_iload_n rfl rfl ?_
  refine x_callT [_, _] rfl rfl (show (2 : Nat) ≤ 8 from by decide) (show (2 : Nat) ≤ 2 from by decide) (x_rcv (by decide) h50) hs (fun r' X' hq => ?_) (fun x X' hq => ?_)
  · obtain ⟨f', hc, hT, hfr⟩ := hq
    rcases hc with ⟨h0, e1, e2⟩ | ⟨-, e1, -⟩
    · cases e1
      subst e2
      have k203 : f' 203 = .inr (.inr (.inl [g0])) := (hfr 203 (by decide) (by decide) (by decide) (by decide)).trans h203
      show xz v0 xs u (sHF f K G R) 88 7 _ [xi R.2.1, xi 0, .ref 203] f'
      refine x_i2l rfl ?_
      refine x_lastore rfl (by decide) k203 ⟨by omega, (by show (0 : Int) < ((1 : Nat) : Int); omega)⟩ (show (1 : Nat) ≤ 5000 from by decide) ?_
      refine x_goto (t := 15) rfl rfl ?_
      refine x_iconst rfl ?_
      refine x_ireturn rfl (Or.inl rfl) ?_
      exact ⟨_, u, by rw [h0], rfl, sCT_f hT (xu_ne (by decide) rfl) (fun q b1 b2 => xu_ne (by omega) rfl), fun _ => xu_eq, fun q b1 b2 b3 b4 b5 => (xu_ne b5 rfl).trans (hfr q b1 b2 b3 b4)⟩
    · cases e1
  · obtain ⟨f', hc, hT, hfr⟩ := hq
    rcases hc with ⟨-, e1, -⟩ | ⟨hn, e1, e2⟩
    · cases e1
    · subst e2
      have hx : x = exW R.1 := by cases e1; rfl
      rcases hR with h | h
      · exact absurd h hn
      · have hx2 : x = 100 := hx.trans (by rw [h]; decide)
        subst hx2
        refine ⟨(12, 3), (show zHN 88 4 100 ≠ none from by decide), rfl, ?_⟩
        show xz v0 xs (u.1 + 1, u.2 + 6) (sHF f K G R) 88 13 _ [] f'
        refine x_iconst rfl ?_
        refine x_ireturn rfl (Or.inl rfl) ?_
        exact ⟨f', _, by rw [h], rfl, hT, fun h0 => absurd (h.symm.trans h0) (by decide), fun q b1 b2 b3 b4 _ => hfr q b1 b2 b3 b4⟩
theorem xF109 {v0 : Value} {xs : List Int32} {u : Nat × Nat} {f : Nat → zE} {K : List (Int × Int)} {G : Nat → List xBt} {z1 : Int} {R : Int × Int × sS} (hM : yM yT2 (xh f)) (hA : xca f 108 [.inr (.inr [50]), .inl ytop] (some (.inl ytop)) [100, 101]) (hs : xz v0 xs u (sCQ f u K G exD R) 108 0 [(0, .ref 50), (1, xi z1)] [] f) (hR : R.1 = 0 ∨ R.1 = 1 ∨ R.1 = 2) : xz v0 xs u (sHQ f u K G R) 109 0 [(0, .ref 50), (1, xi z1), (2, .ref 203)] [] f := by
  refine sHQ_of (by omega) (xH109 hM hA) ?_
  obtain ⟨dd, lf, lc, h50, -⟩ := xINV_50 hM
  obtain ⟨l, h203, hl, -⟩ := xD_203 hM
  obtain ⟨g0, rfl⟩ := List.length_eq_one_iff.mp hl
  refine x_aload_n rfl rfl ?_
  refine x_iconst rfl ?_
  refine x_aload_n rfl rfl ?_
  refine x_iload_n rfl rfl ?_
  refine x_callT [_, _] rfl rfl (show (2 : Nat) ≤ 8 from by decide) (show (2 : Nat) ≤ 2 from by decide) (x_rcv (by decide) h50) hs (fun r' X' hq => ?_) (fun x X' hq => ?_)
  · obtain ⟨f', hc, hT, hfr⟩ := hq
    rcases hc with ⟨h0, e1, e2⟩ | ⟨-, e1, -⟩
    · cases e1
      subst e2
      have k203 : f' 203 = .inr (.inr (.inl [g0])) := (hfr 203 (by decide) (by decide) (by decide) (by decide)).trans h203
      show xz v0 xs u (sHF f K G R) 109 7 _ [xi R.2.1, xi 0, .ref 203] f'
      refine x_i2l rfl ?_
      refine x_lastore rfl (by decide) k203 ⟨by omega, (by show (0 : Int) < ((1 : Nat) : Int); omega)⟩ (show (1 : Nat) ≤ 5000 from by decide) ?_
      refine x_goto (t := 18) rfl rfl ?_
      refine x_iconst rfl ?_
      refine x_ireturn rfl (Or.inl rfl) ?_
      exact ⟨_, u, by rw [h0], rfl, sCT_f hT (xu_ne (by decide) rfl) (fun q b1 b2 => xu_ne (by omega) rfl), fun _ => xu_eq, fun q b1 b2 b3 b4 b5 => (xu_ne b5 rfl).trans (hfr q b1 b2 b3 b4)⟩
    · cases e1
  · obtain ⟨f', hc, hT, hfr⟩ := hq
    rcases hc with ⟨-, e1, -⟩ | ⟨hn, e1, e2⟩
    · cases e1
    · subst e2
      have hx : x = exD R.1 := by cases e1; rfl
      rcases hR with h | h | h
      · exact absurd h hn
      · have hx2 : x = 100 := hx.trans (by rw [h]; decide)
        subst hx2
        refine ⟨(12, 3), (show zHN 109 4 100 ≠ none from by decide), rfl, ?_⟩
        show xz v0 xs (u.1 + 1, u.2 + 6) (sHF f K G R) 109 13 _ [] f'
        refine x_iconst rfl ?_
        refine x_ireturn rfl (Or.inl rfl) ?_
        exact ⟨f', _, by rw [h], rfl, hT, fun h0 => absurd (h.symm.trans h0) (by decide), fun q b1 b2 b3 b4 _ => hfr q b1 b2 b3 b4⟩
      · have hx2 : x = 101 := hx.trans (by rw [h]; decide)
        subst hx2
        refine ⟨(15, 3), (show zHN 109 4 101 ≠ none from by decide), rfl, ?_⟩
        show xz v0 xs (u.1 + 1, u.2 + 6) (sHF f K G R) 109 16 _ [] f'
        refine x_iconst rfl ?_
        refine x_ireturn rfl (Or.inl rfl) ?_
        exact ⟨f', _, by rw [h], rfl, hT, fun h0 => absurd (h.symm.trans h0) (by decide), fun q b1 b2 b3 b4 _ => hfr q b1 b2 b3 b4⟩
theorem xF127 {v0 : Value} {xs : List Int32} {u : Nat × Nat} {f : Nat → zE} {K : List (Int × Int)} {G : Nat → List xBt} {z1 : Int} {R : Int × Int × sS} (hM : yM yT2 (xh f)) (hA : xca f 126 [.inr (.inr [50]), .inl ytop] (some (.inl ytop)) [100, 101]) (hs : xz v0 xs u (sCQ f u K G exD R) 126 0 [(0, .ref 50), (1, xi z1)] [] f) (hR : R.1 = 0 ∨ R.1 = 1 ∨ R.1 = 2) : xz v0 xs u (sHQ f u K G R) 127 0 [(0, .ref 50), (1, xi z1), (2, .ref 203)] [] f := by
  refine sHQ_of (by omega) (xH127 hM hA) ?_
  obtain ⟨dd, lf, lc, h50, -⟩ := xINV_50 hM
  obtain ⟨l, h203, hl, -⟩ := xD_203 hM
  obtain ⟨g0, rfl⟩ := List.length_eq_one_iff.mp hl
  refine x_aload_n rfl rfl ?_
  refine x_iconst rfl ?_
  refine x_aload_n rfl rfl ?_
  refine x_iload_n rfl rfl ?_
  refine x_callT [_, _] rfl rfl (show (2 : Nat) ≤ 8 from by decide) (show (2 : Nat) ≤ 2 from by decide) (x_rcv (by decide) h50) hs (fun r' X' hq => ?_) (fun x X' hq => ?_)
  · obtain ⟨f', hc, hT, hfr⟩ := hq
    rcases hc with ⟨h0, e1, e2⟩ | ⟨-, e1, -⟩
    · cases e1
      subst e2
      have k203 : f' 203 = .inr (.inr (.inl [g0])) := (hfr 203 (by decide) (by decide) (by decide) (by decide)).trans h203
      show xz v0 xs u (sHF f K G R) 127 7 _ [xi R.2.1, xi 0, .ref 203] f'
      refine x_i2l rfl ?_
      refine x_lastore rfl (by decide) k203 ⟨by omega, (by show (0 : Int) < ((1 : Nat) : Int); omega)⟩ (show (1 : Nat) ≤ 5000 from by decide) ?_
      refine x_goto (t := 18) rfl rfl ?_
      refine x_iconst rfl ?_
      refine x_ireturn rfl (Or.inl rfl) ?_
      exact ⟨_, u, by rw [h0], rfl, sCT_f hT (xu_ne (by decide) rfl) (fun q b1 b2 => xu_ne (by omega) rfl), fun _ => xu_eq, fun q b1 b2 b3 b4 b5 => (xu_ne b5 rfl).trans (hfr q b1 b2 b3 b4)⟩
    · cases e1
  · obtain ⟨f', hc, hT, hfr⟩ := hq
    rcases hc with ⟨-, e1, -⟩ | ⟨hn, e1, e2⟩
    · cases e1
    · subst e2
      have hx : x = exD R.1 := by cases e1; rfl
      rcases hR with h | h | h
      · exact absurd h hn
      · have hx2 : x = 100 := hx.trans (by rw [h]; decide)
        subst hx2
        refine ⟨(12, 3), (show zHN 127 4 100 ≠ none from by decide), rfl, ?_⟩
        show xz v0 xs (u.1 + 1, u.2 + 6) (sHF f K G R) 127 13 _ [] f'
        refine x_iconst rfl ?_
        refine x_ireturn rfl (Or.inl rfl) ?_
        exact ⟨f', _, by rw [h], rfl, hT, fun h0 => absurd (h.symm.trans h0) (by decide), fun q b1 b2 b3 b4 _ => hfr q b1 b2 b3 b4⟩
      · have hx2 : x = 101 := hx.trans (by rw [h]; decide)
        subst hx2
        refine ⟨(15, 3), (show zHN 127 4 101 ≠ none from by decide), rfl, ?_⟩
        show xz v0 xs (u.1 + 1, u.2 + 6) (sHF f K G R) 127 16 _ [] f'
        refine x_iconst rfl ?_
        refine x_ireturn rfl (Or.inl rfl) ?_
        exact ⟨f', _, by rw [h], rfl, hT, fun h0 => absurd (h.symm.trans h0) (by decide), fun q b1 b2 b3 b4 _ => hfr q b1 b2 b3 b4⟩
theorem xF132 {v0 : Value} {xs : List Int32} {u : Nat × Nat} {f : Nat → zE} {K : List (Int × Int)} {G : Nat → List xBt} {R : Int × Int × sS} (hM : yM yT2 (xh f)) (hA : xca f 131 [.inr (.inr [50])] (some (.inl (0, 16))) [101]) (hs : xz v0 xs u (sCQ f u K G exU R) 131 0 [(0, .ref 50)] [] f) (hR : R.1 = 0 ∨ R.1 = 1) : xz v0 xs u (sHQ f u K G R) 132 0 [(0, .ref 50), (1, .ref 203)] [] f := by
  refine sHQ_of (by omega) (xH132 hM hA) ?_
  obtain ⟨dd, lf, lc, h50, -⟩ := xINV_50 hM
  obtain ⟨l, h203, hl, -⟩ := xD_203 hM
  obtain ⟨g0, rfl⟩ := List.length_eq_one_iff.mp hl
  refine x_aload_n rfl rfl ?_
  refine x_iconst rfl ?_
  refine x_aload_n rfl rfl ?_
  refine x_callT [_] rfl rfl (show (2 : Nat) ≤ 8 from by decide) (show (1 : Nat) ≤ 2 from by decide) (x_rcv (by decide) h50) hs (fun r' X' hq => ?_) (fun x X' hq => ?_)
  · obtain ⟨f', hc, hT, hfr⟩ := hq
    rcases hc with ⟨h0, e1, e2⟩ | ⟨-, e1, -⟩
    · cases e1
      subst e2
      have k203 : f' 203 = .inr (.inr (.inl [g0])) := (hfr 203 (by decide) (by decide) (by decide) (by decide)).trans h203
      show xz v0 xs u (sHF f K G R) 132 6 _ [xi R.2.1, xi 0, .ref 203] f'
      refine x_i2l rfl ?_
      refine x_lastore rfl (by decide) k203 ⟨by omega, (by show (0 : Int) < ((1 : Nat) : Int); omega)⟩ (show (1 : Nat) ≤ 5000 from by decide) ?_
      refine x_goto (t := 14) rfl rfl ?_
      refine x_iconst rfl ?_
      refine x_ireturn rfl (Or.inl rfl) ?_
      exact ⟨_, u, by rw [h0], rfl, sCT_f hT (xu_ne (by decide) rfl) (fun q b1 b2 => xu_ne (by omega) rfl), fun _ => xu_eq, fun q b1 b2 b3 b4 b5 => (xu_ne b5 rfl).trans (hfr q b1 b2 b3 b4)⟩
    · cases e1
  · obtain ⟨f', hc, hT, hfr⟩ := hq
    rcases hc with ⟨-, e1, -⟩ | ⟨hn, e1, e2⟩
    · cases e1
    · subst e2
      have hx : x = exU R.1 := by cases e1; rfl
      rcases hR with h | h
      · exact absurd h hn
      · have hx2 : x = 101 := hx.trans (by rw [h]; decide)
        subst hx2
        refine ⟨(11, 2), (show zHN 132 3 101 ≠ none from by decide), rfl, ?_⟩
        show xz v0 xs (u.1 + 1, u.2 + 6) (sHF f K G R) 132 12 _ [] f'
        refine x_iconst rfl ?_
        refine x_ireturn rfl (Or.inl rfl) ?_
        exact ⟨f', _, by rw [h], rfl, hT, fun h0 => absurd (h.symm.trans h0) (by decide), fun q b1 b2 b3 b4 _ => hfr q b1 b2 b3 b4⟩
theorem xF139 {v0 : Value} {xs : List Int32} {u : Nat × Nat} {f : Nat → zE} {K : List (Int × Int)} {G : Nat → List xBt} {z1 z2 : Int} {R : Int × Int × sS} (hM : yM yT2 (xh f)) (hA : xca f 138 [.inr (.inr [50]), .inl ytop, .inl ytop] (some (.inl (0, 9))) [100]) (hs : xz v0 xs u (sCQ f u K G exW R) 138 0 [(0, .ref 50), (1, xi z1), (2, xi z2)] [] f) (hR : R.1 = 0 ∨ R.1 = 1) : xz v0 xs u (sHQ f u K G R) 139 0 [(0, .ref 50), (1, xi z1), (2, xi z2), (3, .ref 203)] [] f := by
  refine sHQ_of (by omega) (xH139 hM hA) ?_
  obtain ⟨dd, lf, lc, h50, -⟩ := xINV_50 hM
  obtain ⟨l, h203, hl, -⟩ := xD_203 hM
  obtain ⟨g0, rfl⟩ := List.length_eq_one_iff.mp hl
  refine x_aload_n rfl rfl ?_
  refine x_iconst rfl ?_
  refine x_aload_n rfl rfl ?_
  refine x_iload_n rfl rfl ?_
  refine x_iload_n rfl rfl ?_
  refine x_callT [_, _, _] rfl rfl (show (2 : Nat) ≤ 8 from by decide) (show (3 : Nat) ≤ 4 from by decide) (x_rcv (by decide) h50) hs (fun r' X' hq => ?_) (fun x X' hq => ?_)
  · obtain ⟨f', hc, hT, hfr⟩ := hq
    rcases hc with ⟨h0, e1, e2⟩ | ⟨-, e1, -⟩
    · cases e1
      subst e2
      have k203 : f' 203 = .inr (.inr (.inl [g0])) := (hfr 203 (by decide) (by decide) (by decide) (by decide)).trans h203
      show xz v0 xs u (sHF f K G R) 139 8 _ [xi R.2.1, xi 0, .ref 203] f'
      refine x_i2l rfl ?_
      refine x_lastore rfl (by decide) k203 ⟨by omega, (by show (0 : Int) < ((1 : Nat) : Int); omega)⟩ (show (1 : Nat) ≤ 5000 from by decide) ?_
      refine x_goto (t := 17) rfl rfl ?_
      refine x_iconst rfl ?_
      refine x_ireturn rfl (Or.inl rfl) ?_
      exact ⟨_, u, by rw [h0], rfl, sCT_f hT (xu_ne (by decide) rfl) (fun q b1 b2 => xu_ne (by omega) rfl), fun _ => xu_eq, fun q b1 b2 b3 b4 b5 => (xu_ne b5 rfl).trans (hfr q b1 b2 b3 b4)⟩
    · cases e1
  · obtain ⟨f', hc, hT, hfr⟩ := hq
    rcases hc with ⟨-, e1, -⟩ | ⟨hn, e1, e2⟩
    · cases e1
    · subst e2
      have hx : x = exW R.1 := by cases e1; rfl
      rcases hR with h | h
      · exact absurd h hn
      · have hx2 : x = 100 := hx.trans (by rw [h]; decide)
        subst hx2
        refine ⟨(14, 4), (show zHN 139 5 100 ≠ none from by decide), rfl, ?_⟩
        show xz v0 xs (u.1 + 1, u.2 + 6) (sHF f K G R) 139 15 _ [] f'
        refine x_iconst rfl ?_
        refine x_ireturn rfl (Or.inl rfl) ?_
        exact ⟨f', _, by rw [h], rfl, hT, fun h0 => absurd (h.symm.trans h0) (by decide), fun q b1 b2 b3 b4 _ => hfr q b1 b2 b3 b4⟩
theorem xF144 {v0 : Value} {xs : List Int32} {u : Nat × Nat} {f : Nat → zE} {K : List (Int × Int)} {G : Nat → List xBt} {z1 z2 : Int} {R : Int × Int × sS} (hM : yM yT2 (xh f)) (hA : xca f 143 [.inr (.inr [50]), .inl ytop, .inl ytop] (some (.inl (0, 99))) [100, 102]) (hs : xz v0 xs u (sCQ f u K G exS R) 143 0 [(0, .ref 50), (1, xi z1), (2, xi z2)] [] f) (hR : R.1 = 0 ∨ R.1 = 1 ∨ R.1 = 2) : xz v0 xs u (sHQ f u K G R) 144 0 [(0, .ref 50), (1, xi z1), (2, xi z2), (3, .ref 203)] [] f := by
  refine sHQ_of (by omega) (xH144 hM hA) ?_
  obtain ⟨dd, lf, lc, h50, -⟩ := xINV_50 hM
  obtain ⟨l, h203, hl, -⟩ := xD_203 hM
  obtain ⟨g0, rfl⟩ := List.length_eq_one_iff.mp hl
  refine x_aload_n rfl rfl ?_
  refine x_iconst rfl ?_
  refine x_aload_n rfl rfl ?_
  refine x_iload_n rfl rfl ?_
  refine x_iload_n rfl rfl ?_
  refine x_callT [_, _, _] rfl rfl (show (2 : Nat) ≤ 8 from by decide) (show (3 : Nat) ≤ 4 from by decide) (x_rcv (by decide) h50) hs (fun r' X' hq => ?_) (fun x X' hq => ?_)
  · obtain ⟨f', hc, hT, hfr⟩ := hq
    rcases hc with ⟨h0, e1, e2⟩ | ⟨-, e1, -⟩
    · cases e1
      subst e2
      have k203 : f' 203 = .inr (.inr (.inl [g0])) := (hfr 203 (by decide) (by decide) (by decide) (by decide)).trans h203
      show xz v0 xs u (sHF f K G R) 144 8 _ [xi R.2.1, xi 0, .ref 203] f'
      refine x_i2l rfl ?_
      refine x_lastore rfl (by decide) k203 ⟨by omega, (by show (0 : Int) < ((1 : Nat) : Int); omega)⟩ (show (1 : Nat) ≤ 5000 from by decide) ?_
      refine x_goto (t := 21) rfl rfl ?_
      refine x_iconst rfl ?_
      refine x_ireturn rfl (Or.inl rfl) ?_
      exact ⟨_, u, by rw [h0], rfl, sCT_f hT (xu_ne (by decide) rfl) (fun q b1 b2 => xu_ne (by omega) rfl), fun _ => xu_eq, fun q b1 b2 b3 b4 b5 => (xu_ne b5 rfl).trans (hfr q b1 b2 b3 b4)⟩
    · cases e1
  · obtain ⟨f', hc, hT, hfr⟩ := hq
    rcases hc with ⟨-, e1, -⟩ | ⟨hn, e1, e2⟩
    · cases e1
    · subst e2
      have hx : x = exS R.1 := by cases e1; rfl
      rcases hR with h | h | h
      · exact absurd h hn
      · have hx2 : x = 100 := hx.trans (by rw [h]; decide)
        subst hx2
        refine ⟨(14, 4), (show zHN 144 5 100 ≠ none from by decide), rfl, ?_⟩
        show xz v0 xs (u.1 + 1, u.2 + 6) (sHF f K G R) 144 15 _ [] f'
        refine x_iconst rfl ?_
        refine x_ireturn rfl (Or.inl rfl) ?_
        exact ⟨f', _, by rw [h], rfl, hT, fun h0 => absurd (h.symm.trans h0) (by decide), fun q b1 b2 b3 b4 _ => hfr q b1 b2 b3 b4⟩
      · have hx2 : x = 102 := hx.trans (by rw [h]; decide)
        subst hx2
        refine ⟨(18, 4), (show zHN 144 5 102 ≠ none from by decide), rfl, ?_⟩
        show xz v0 xs (u.1 + 1, u.2 + 6) (sHF f K G R) 144 19 _ [] f'
        refine x_iconst rfl ?_
        refine x_ireturn rfl (Or.inl rfl) ?_
        exact ⟨f', _, by rw [h], rfl, hT, fun h0 => absurd (h.symm.trans h0) (by decide), fun q b1 b2 b3 b4 _ => hfr q b1 b2 b3 b4⟩
theorem xF147 {v0 : Value} {xs : List Int32} {u : Nat × Nat} {f : Nat → zE} {K : List (Int × Int)} {G : Nat → List xBt} {z1 z2 : Int} {R : Int × Int × sS} (hM : yM yT2 (xh f)) (hA : xca f 146 [.inr (.inr [50]), .inl ytop, .inl ytop] (some (.inl (0, 1))) [100]) (hs : xz v0 xs u (sCQ f u K G exW R) 146 0 [(0, .ref 50), (1, xi z1), (2, xi z2)] [] f) (hR : R.1 = 0 ∨ R.1 = 1) (hB : R.2.1 = 0 ∨ R.2.1 = 1) : xz v0 xs u (sHQ f u K G R) 147 0 [(0, .ref 50), (1, xi z1), (2, xi z2), (3, .ref 203)] [] f := by
  refine sHQ_of (by omega) (xH147 hM hA) ?_
  obtain ⟨dd, lf, lc, h50, -⟩ := xINV_50 hM
  obtain ⟨l, h203, hl, -⟩ := xD_203 hM
  obtain ⟨g0, rfl⟩ := List.length_eq_one_iff.mp hl
  refine x_aload_n rfl rfl ?_
  refine x_iconst rfl ?_
  refine x_aload_n rfl rfl ?_
  refine x_iload_n rfl rfl ?_
  refine x_iload_n rfl rfl ?_
  refine x_callT [_, _, _] rfl rfl (show (2 : Nat) ≤ 8 from by decide) (show (3 : Nat) ≤ 3 from by decide) (x_rcv (by decide) h50) hs (fun r' X' hq => ?_) (fun x X' hq => ?_)
  · obtain ⟨f', hc, hT, hfr⟩ := hq
    rcases hc with ⟨h0, e1, e2⟩ | ⟨-, e1, -⟩
    · cases e1
      subst e2
      have k203 : f' 203 = .inr (.inr (.inl [g0])) := (hfr 203 (by decide) (by decide) (by decide) (by decide)).trans h203
      show xz v0 xs u (sHF f K G R) 147 8 _ [xi R.2.1, xi 0, .ref 203] f'
      refine x_ifeq (t := 15) rfl rfl ⟨by omega, by omega⟩ (fun hy => ?_) (fun hy => ?_)
      · refine x_lconst rfl ?_
        refine x_lastore rfl (by decide) k203 ⟨by omega, (by show (0 : Int) < ((1 : Nat) : Int); omega)⟩ (show (1 : Nat) ≤ 5000 from by decide) ?_
        refine x_goto (t := 24) rfl rfl ?_
        refine x_iconst rfl ?_
        refine x_ireturn rfl (Or.inl rfl) ?_
        exact ⟨_, u, by rw [h0], rfl, sCT_f hT (xu_ne (by decide) rfl) (fun q b1 b2 => xu_ne (by omega) rfl), fun _ => by rw [hy]; exact xu_eq, fun q b1 b2 b3 b4 b5 => (xu_ne b5 rfl).trans (hfr q b1 b2 b3 b4)⟩
      · refine x_lconst rfl ?_
        refine x_goto (t := 16) rfl rfl ?_
        refine x_lastore rfl (by decide) k203 ⟨by omega, (by show (0 : Int) < ((1 : Nat) : Int); omega)⟩ (show (1 : Nat) ≤ 5000 from by decide) ?_
        refine x_goto (t := 24) rfl rfl ?_
        refine x_iconst rfl ?_
        refine x_ireturn rfl (Or.inl rfl) ?_
        exact ⟨_, u, by rw [h0], rfl, sCT_f hT (xu_ne (by decide) rfl) (fun q b1 b2 => xu_ne (by omega) rfl), fun _ => by rw [hB.resolve_left hy]; exact xu_eq, fun q b1 b2 b3 b4 b5 => (xu_ne b5 rfl).trans (hfr q b1 b2 b3 b4)⟩
    · cases e1
  · obtain ⟨f', hc, hT, hfr⟩ := hq
    rcases hc with ⟨-, e1, -⟩ | ⟨hn, e1, e2⟩
    · cases e1
    · subst e2
      have hx : x = exW R.1 := by cases e1; rfl
      rcases hR with h | h
      · exact absurd h hn
      · have hx2 : x = 100 := hx.trans (by rw [h]; decide)
        subst hx2
        refine ⟨(21, 4), (show zHN 147 5 100 ≠ none from by decide), rfl, ?_⟩
        show xz v0 xs (u.1 + 1, u.2 + 6) (sHF f K G R) 147 22 _ [] f'
        refine x_iconst rfl ?_
        refine x_ireturn rfl (Or.inl rfl) ?_
        exact ⟨f', _, by rw [h], rfl, hT, fun h0 => absurd (h.symm.trans h0) (by decide), fun q b1 b2 b3 b4 _ => hfr q b1 b2 b3 b4⟩
theorem xF170 {v0 : Value} {xs : List Int32} {u : Nat × Nat} {f : Nat → zE} {K : List (Int × Int)} {G : Nat → List xBt} {z1 : Int} {R : Int × Int × sS} (hM : yM yT2 (xh f)) (hA : xca f 169 [.inr (.inr [50]), .inl ytop] (some (.inl (0, 11))) [102]) (hs : xz v0 xs u (sCQ f u K G exY R) 169 0 [(0, .ref 50), (1, xi z1)] [] f) (hR : R.1 = 0 ∨ R.1 = 1) : xz v0 xs u (sHQ f u K G R) 170 0 [(0, .ref 50), (1, xi z1), (2, .ref 203)] [] f := by
  refine sHQ_of (by omega) (xH170 hM hA) ?_
  obtain ⟨dd, lf, lc, h50, -⟩ := xINV_50 hM
  obtain ⟨l, h203, hl, -⟩ := xD_203 hM
  obtain ⟨g0, rfl⟩ := List.length_eq_one_iff.mp hl
  refine x_aload_n rfl rfl ?_
  refine x_iconst rfl ?_
  refine x_aload_n rfl rfl ?_
  refine x_iload_n rfl rfl ?_
  refine x_callT [_, _] rfl rfl (show (2 : Nat) ≤ 8 from by decide) (show (2 : Nat) ≤ 2 from by decide) (x_rcv (by decide) h50) hs (fun r' X' hq => ?_) (fun x X' hq => ?_)
  · obtain ⟨f', hc, hT, hfr⟩ := hq
    rcases hc with ⟨h0, e1, e2⟩ | ⟨-, e1, -⟩
    · cases e1
      subst e2
      have k203 : f' 203 = .inr (.inr (.inl [g0])) := (hfr 203 (by decide) (by decide) (by decide) (by decide)).trans h203
      show xz v0 xs u (sHF f K G R) 170 7 _ [xi R.2.1, xi 0, .ref 203] f'
      refine x_i2l rfl ?_
      refine x_lastore rfl (by decide) k203 ⟨by omega, (by show (0 : Int) < ((1 : Nat) : Int); omega)⟩ (show (1 : Nat) ≤ 5000 from by decide) ?_
      refine x_goto (t := 15) rfl rfl ?_
      refine x_iconst rfl ?_
      refine x_ireturn rfl (Or.inl rfl) ?_
      exact ⟨_, u, by rw [h0], rfl, sCT_f hT (xu_ne (by decide) rfl) (fun q b1 b2 => xu_ne (by omega) rfl), fun _ => xu_eq, fun q b1 b2 b3 b4 b5 => (xu_ne b5 rfl).trans (hfr q b1 b2 b3 b4)⟩
    · cases e1
  · obtain ⟨f', hc, hT, hfr⟩ := hq
    rcases hc with ⟨-, e1, -⟩ | ⟨hn, e1, e2⟩
    · cases e1
    · subst e2
      have hx : x = exY R.1 := by cases e1; rfl
      rcases hR with h | h
      · exact absurd h hn
      · have hx2 : x = 102 := hx.trans (by rw [h]; decide)
        subst hx2
        refine ⟨(12, 3), (show zHN 170 4 102 ≠ none from by decide), rfl, ?_⟩
        show xz v0 xs (u.1 + 1, u.2 + 6) (sHF f K G R) 170 13 _ [] f'
        refine x_iconst rfl ?_
        refine x_ireturn rfl (Or.inl rfl) ?_
        exact ⟨f', _, by rw [h], rfl, hT, fun h0 => absurd (h.symm.trans h0) (by decide), fun q b1 b2 b3 b4 _ => hfr q b1 b2 b3 b4⟩
theorem xF174 {v0 : Value} {xs : List Int32} {u : Nat × Nat} {f : Nat → zE} {K : List (Int × Int)} {G : Nat → List xBt} {z1 z2 : Int} {R : Int × Int × sS} (hM : yM yT2 (xh f)) (hA : xca f 173 [.inr (.inr [50]), .inl ytop, .inl ytop] (some (.inl ytop)) [100]) (hs : xz v0 xs u (sCQ f u K G exW R) 173 0 [(0, .ref 50), (1, xi z1), (2, xi z2)] [] f) (hR : R.1 = 0 ∨ R.1 = 1) (hB : R.2.1 = 0 ∨ R.2.1 = 1) : xz v0 xs u (sHQ f u K G R) 174 0 [(0, .ref 50), (1, xi z1), (2, xi z2), (3, .ref 203)] [] f := by
  refine sHQ_of (by omega) (xH174 hM hA) ?_
  obtain ⟨dd, lf, lc, h50, -⟩ := xINV_50 hM
  obtain ⟨l, h203, hl, -⟩ := xD_203 hM
  obtain ⟨g0, rfl⟩ := List.length_eq_one_iff.mp hl
  refine x_aload_n rfl rfl ?_
  refine x_iconst rfl ?_
  refine x_aload_n rfl rfl ?_
  refine x_iload_n rfl rfl ?_
  refine x_iload_n rfl rfl ?_
  refine x_callT [_, _, _] rfl rfl (show (2 : Nat) ≤ 8 from by decide) (show (3 : Nat) ≤ 6 from by decide) (x_rcv (by decide) h50) hs (fun r' X' hq => ?_) (fun x X' hq => ?_)
  · obtain ⟨f', hc, hT, hfr⟩ := hq
    rcases hc with ⟨h0, e1, e2⟩ | ⟨-, e1, -⟩
    · cases e1
      subst e2
      have k203 : f' 203 = .inr (.inr (.inl [g0])) := (hfr 203 (by decide) (by decide) (by decide) (by decide)).trans h203
      show xz v0 xs u (sHF f K G R) 174 8 _ [xi R.2.1, xi 0, .ref 203] f'
      refine x_ifeq (t := 15) rfl rfl ⟨by omega, by omega⟩ (fun hy => ?_) (fun hy => ?_)
      · refine x_lconst rfl ?_
        refine x_lastore rfl (by decide) k203 ⟨by omega, (by show (0 : Int) < ((1 : Nat) : Int); omega)⟩ (show (1 : Nat) ≤ 5000 from by decide) ?_
        refine x_goto (t := 24) rfl rfl ?_
        refine x_iconst rfl ?_
        refine x_ireturn rfl (Or.inl rfl) ?_
        exact ⟨_, u, by rw [h0], rfl, sCT_f hT (xu_ne (by decide) rfl) (fun q b1 b2 => xu_ne (by omega) rfl), fun _ => by rw [hy]; exact xu_eq, fun q b1 b2 b3 b4 b5 => (xu_ne b5 rfl).trans (hfr q b1 b2 b3 b4)⟩
      · refine x_lconst rfl ?_
        refine x_goto (t := 16) rfl rfl ?_
        refine x_lastore rfl (by decide) k203 ⟨by omega, (by show (0 : Int) < ((1 : Nat) : Int); omega)⟩ (show (1 : Nat) ≤ 5000 from by decide) ?_
        refine x_goto (t := 24) rfl rfl ?_
        refine x_iconst rfl ?_
        refine x_ireturn rfl (Or.inl rfl) ?_
        exact ⟨_, u, by rw [h0], rfl, sCT_f hT (xu_ne (by decide) rfl) (fun q b1 b2 => xu_ne (by omega) rfl), fun _ => by rw [hB.resolve_left hy]; exact xu_eq, fun q b1 b2 b3 b4 b5 => (xu_ne b5 rfl).trans (hfr q b1 b2 b3 b4)⟩
    · cases e1
  · obtain ⟨f', hc, hT, hfr⟩ := hq
    rcases hc with ⟨-, e1, -⟩ | ⟨hn, e1, e2⟩
    · cases e1
    · subst e2
      have hx : x = exW R.1 := by cases e1; rfl
      rcases hR with h | h
      · exact absurd h hn
      · have hx2 : x = 100 := hx.trans (by rw [h]; decide)
        subst hx2
        refine ⟨(21, 4), (show zHN 174 5 100 ≠ none from by decide), rfl, ?_⟩
        show xz v0 xs (u.1 + 1, u.2 + 6) (sHF f K G R) 174 22 _ [] f'
        refine x_iconst rfl ?_
        refine x_ireturn rfl (Or.inl rfl) ?_
        exact ⟨f', _, by rw [h], rfl, hT, fun h0 => absurd (h.symm.trans h0) (by decide), fun q b1 b2 b3 b4 _ => hfr q b1 b2 b3 b4⟩
def sHA (f : Nat → zE) (u : Nat × Nat) (al1 : Nat → Bool) (o : zO) (X : zX) : Prop := ∃ (z : Int) (f' : Nat → zE) (u' : Nat × Nat), o = .inl (some (xi z)) ∧ X = (xh f', u') ∧ (u'.1 ≤ u.1 + 1 ∧ u'.2 ≤ u.2 + 6) ∧ xD f f' ∧ sAC f' al1 ∧ ∀ q, ¬ (57 ≤ q ∧ q ≤ 108) → f' q = f q
theorem xF155 {v0 : Value} {xs : List Int32} {u : Nat × Nat} {f : Nat → zE} {al1 : Nat → Bool} {z1 z2 : Int} (hM : yM yT2 (xh f)) (hA : xca f 154 [.inr (.inr [50]), .inl ytop, .inl (0, 1)] (none) [100, 101]) (hz : 0 ≤ z2 ∧ z2 ≤ 1) (hs : xz v0 xs u (sAQ f u al1) 154 0 [(0, .ref 50), (1, xi z1), (2, xi z2)] [] f) : xz v0 xs u (sHA f u al1) 155 0 [(0, .ref 50), (1, xi z1), (2, xi z2)] [] f := by
  have h2 : xz v0 xs u (fun o X => ∃ (z : Int) (f' : Nat → zE) (u' : Nat × Nat), o = .inl (some (xi z)) ∧ X = (xh f', u') ∧ sAC f' al1 ∧ ∀ q, ¬ (57 ≤ q ∧ q ≤ 108) → f' q = f q) 155 0 [(0, .ref 50), (1, xi z1), (2, xi z2)] [] f := by
    obtain ⟨dd, lf, lc, h50, -⟩ := xINV_50 hM
    refine x_aload_n rfl rfl ?_
    refine x_iload_n rfl rfl ?_
    refine x_iload_n rfl rfl ?_
    refine x_callT [_, _, _] rfl rfl (show (0 : Nat) ≤ 8 from by decide) (show (3 : Nat) ≤ 3 from by decide) (x_rcv (by decide) h50) hs (fun r' X' hq => ?_) (fun x X' hq => ?_)
    · obtain ⟨f', hc, hT, hfr⟩ := hq
      rcases hc with ⟨e1, e2⟩ | ⟨x, e1, -⟩
      · cases e1
        subst e2
        show xz v0 xs u _ 155 6 _ [] f'
        refine x_goto (t := 15) rfl rfl ?_
        refine x_iconst rfl ?_
        refine x_ireturn rfl (Or.inl rfl) ?_
        exact ⟨0, _, u, rfl, rfl, hT, hfr⟩
      · cases e1
    · obtain ⟨f', hc, hT, hfr⟩ := hq
      rcases hc with ⟨e1, -⟩ | ⟨x', e1, hx, e2⟩
      · cases e1
      · cases e1
        subst e2
        rcases hx with rfl | rfl
        · refine ⟨(9, 3), (show zHN 155 3 100 ≠ none from by decide), rfl, ?_⟩
          show xz v0 xs (u.1 + 1, u.2 + 6) _ 155 10 _ [] f'
          refine x_iconst rfl ?_
          refine x_ireturn rfl (Or.inl rfl) ?_
          exact ⟨1, _, _, rfl, rfl, hT, hfr⟩
        · refine ⟨(12, 3), (show zHN 155 3 101 ≠ none from by decide), rfl, ?_⟩
          show xz v0 xs (u.1 + 1, u.2 + 6) _ 155 13 _ [] f'
          refine x_iconst rfl ?_
          refine x_ireturn rfl (Or.inl rfl) ?_
          exact ⟨2, _, _, rfl, rfl, hT, hfr⟩
  refine zwp_mono (zwp_and (xH155 (z1 := z1) hM hA hz) h2) fun o X hq => ?_
  obtain ⟨⟨z, f1, u1, e1, e2, hD, b1, b2⟩, z', f2, u2, e3, e4, hT, hfr⟩ := hq
  rw [e2] at e4
  have e5 : xh f1 = xh f2 := congrArg Prod.fst e4
  have e6 : u1 = u2 := congrArg Prod.snd e4
  subst e6
  exact ⟨z', f2, u1, e3, by rw [e2, e5], ⟨b1, b2⟩, xD_h e5 hD, hT, hfr⟩
/-! The rest of both sides. -/
theorem xs_83 {v0 : Value} {xs : List Int32} {u : Nat × Nat} {f : Nat → zE} {K : List (Int × Int)} {G : Nat → List xBt} {S : sS} {z : Int} {fs : List Value} (hT : sCT f K G S) (h : f 50 = .inl (0, fs)) (h0 : fs[11]? = some (xi z)) : xz v0 xs u (sCQ f u K G exD (0, z, S)) 83 0 [(0, .ref 50)] [] f := by
  refine x_aload_n rfl rfl ?_
  refine x_getfield rfl (by decide) h h0 ?_
  exact x_ireturn rfl (Or.inl rfl) ⟨_, Or.inl ⟨rfl, rfl, rfl⟩, hT, fun _ _ _ _ _ => rfl⟩
theorem sMT_z {f : Nat → zE} {fs : List Value} {n : Nat} {S : sS} {v : Value} (hT : sMT f n S) (h : f 177 = .inl (10, fs)) : sMT (xu f 177 (.inl (10, fs.set 0 v))) n S := by
  obtain ⟨⟨fs', hB⟩, hX, hJ, hC⟩ := hT
  have e := hB.1.1
  rw [h] at e
  cases e
  exact sMT_0 hB hX hJ hC
theorem xs_84 {v0 : Value} {xs : List Int32} {u : Nat × Nat} {f : Nat → zE} {n : Nat} {S : sS} {z : Int} {fs : List Value} (hT : sMT f n S) (h : f 177 = .inl (10, fs)) (h0 : fs[3]? = some (xi z)) : sMq v0 xs u 84 [(0, .ref 177)] f n (0, z, S) := by
  unfold sMq xq
  have hl : 3 < fs.length := (List.getElem?_eq_some_iff.mp h0).1
  refine x_aload_n rfl rfl ?_
  refine x_iconst rfl ?_
  refine x_putfield rfl (by decide) h (by omega) rfl ?_
  refine x_aload_n rfl rfl ?_
  refine x_getfield rfl (by decide) xu_eq (by rw [List.getElem?_set_ne (by decide)]; exact h0) ?_
  exact x_ireturn rfl (Or.inl rfl) ⟨_, _, rfl, rfl, rfl, ⟨_, xu_eq, List.getElem?_set_self (by omega)⟩, sMT_z hT h, fun q b1 _ => xu_ne b1 rfl⟩
theorem xs_90 {v0 : Value} {xs : List Int32} {u : Nat × Nat} {f : Nat → zE} {n : Nat} {S : sS} {bc : Nat → Int} {z : Int} {cn : List Int} (hn : n ≤ 12) (hz : -2147483648 ≤ z ∧ z ≤ 2147483647) (hT : sMT f n S) (h180 : f 180 = xr 0 cn) (hl : cn.length = 13) (hb : ∀ i, i < 12 → cn.getD i 0 = bc i) : sMq v0 xs u 90 [(0, .ref 177), (1, xi z)] f n (sBE bc n S z) := by
  unfold sMq xq
  obtain ⟨⟨fs, hB⟩, -⟩ := id hT
  have hB0 := hB
  obtain ⟨⟨h177, hfl, ⟨f11, f13, f14, f15, f17, f18⟩, h25, h26, h27⟩, ⟨a1, a2, a3, a4, a5, a6⟩, h9, h31, h30⟩ := hB
  refine x_aload_n rfl rfl ?_
  refine x_aload_n rfl rfl ?_
  refine x_iload_n rfl rfl ?_
  refine x_call [_, _] rfl rfl (show (1 : Nat) ≤ 8 from by decide) (show (2 : Nat) ≤ 2 from by decide) (x_rcv (by decide) h177) (xs_89 hB0 hz (by omega)) (fun r' f' hP => ?_)
  obtain ⟨rfl, rfl⟩ := hP
  by_cases h : 0 ≤ z ∧ z < (n : Nat)
  · have eR : sBE bc n S z = (0, bc z.toNat, S) := by unfold sBE; rw [if_pos h]
    rw [eR, if_pos h]
    refine x_ifeq (t := 13) rfl rfl (by decide) (fun h => absurd h (by decide)) (fun _ => ?_)
    refine x_iconst rfl ?_
    refine x_goto (t := 14) rfl rfl ?_
    refine x_putfield rfl (by decide) h177 (by omega) rfl ?_
    refine x_aload_n rfl rfl ?_
    refine x_getfield rfl (by decide) xu_eq (List.getElem?_set_self (by omega)) ?_
    refine x_ifle (t := 28) rfl rfl (by decide) (fun _ => ?_) (fun h => absurd h (by decide))
    refine x_aload_n rfl rfl ?_
    refine x_getfield rfl (by decide) xu_eq (by rw [List.getElem?_set_ne (by decide)]; exact f11) ?_
    refine x_iload_n rfl rfl ?_
    refine x_iaload rfl (by decide) (xu_ne (by decide) h180) ⟨by omega, by omega⟩ (by omega) ?_
    rw [hb z.toNat (by omega)]
    exact x_ireturn rfl (Or.inl rfl) ⟨_, _, rfl, rfl, rfl, ⟨_, xu_eq, List.getElem?_set_self (by omega)⟩, sMT_z hT h177, fun q b1 _ => xu_ne b1 rfl⟩
  · have eR : sBE bc n S z = (1, 0, S) := by unfold sBE; rw [if_neg h]
    rw [eR, if_neg h]
    refine x_ifeq (t := 13) rfl rfl (by decide) (fun _ => ?_) (fun h => absurd rfl h)
    refine x_iconst rfl ?_
    refine x_putfield rfl (by decide) h177 (by omega) rfl ?_
    refine x_aload_n rfl rfl ?_
    refine x_getfield rfl (by decide) xu_eq (List.getElem?_set_self (by omega)) ?_
    refine x_ifle (t := 28) rfl rfl (by decide) (fun h => absurd h (by decide)) (fun _ => ?_)
    refine x_iconst rfl ?_
    refine x_goto (t := 34) rfl rfl ?_
    exact x_ireturn rfl (Or.inl rfl) ⟨_, _, rfl, rfl, rfl, ⟨_, xu_eq, List.getElem?_set_self (by omega)⟩, sMT_z hT h177, fun q b1 _ => xu_ne b1 rfl⟩
end
