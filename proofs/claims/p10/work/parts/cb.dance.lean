/-! Both sides at once: what holds between two calls of the law. -/
theorem zwp_keep {v0 : Value} {Gv : List zE} {m : Nat} {l : List (Nat × Nat)} {lv : zL} {X : zX} {Q : zO → zX → Prop} (hk : yws.lookup m = some l) (h : zwp (zt v0) Gv m 0 lv [] X Q) : zwp (zt v0) Gv m 0 lv [] X (fun o X' => Q o X' ∧ zkeep l X.1 X'.1) := by
  obtain ⟨n, o, X', hz, hq⟩ := h
  exact ⟨n, o, X', hz, hq, zev_keep (yws_closed v0) n m 0 l lv [] X _ hk hz⟩
/-- the model's found way keeps its length -/
def sKp (f f' : Nat → zE) : Prop := ∀ fs : List Value, f 177 = .inl (10, fs) → ∃ fs' : List Value, f' 177 = .inl (10, fs') ∧ fs'[36]? = fs[36]?
theorem sKp_of {l : List (Nat × Nat)} {f f' : Nat → zE} (h : zkeep l (xh f) (xh f')) (h36 : l.elem (10, 36) = false) : sKp f f' := by
  intro fs h177
  have e := xh_at (f := f) (p := 177) (by decide) (by decide)
  rw [h177] at e
  obtain ⟨fs', he, hk⟩ := h _ _ _ e
  have e' := xh_at (f := f') (p := 177) (by decide) (by decide)
  rw [he] at e'
  refine ⟨fs', (Option.some.inj e').symm, hk 36 fun hm => ?_⟩
  rw [List.elem_iff.mpr hm] at h36
  cases h36
theorem sKp_e {f f' : Nat → zE} (h : f' 177 = f 177) : sKp f f' := fun fs e => ⟨fs, h.trans e, rfl⟩
theorem sKp_t {f g h : Nat → zE} (a : sKp f g) (b : sKp g h) : sKp f h := by
  intro fs e
  obtain ⟨fs1, e1, k1⟩ := a fs e
  obtain ⟨fs2, e2, k2⟩ := b fs1 e1
  exact ⟨fs2, e2, k2.trans k1⟩
/-- a method of the model: the types and the found way kept -/
theorem sxq_K {v0 : Value} {xs : List Int32} {u : Nat × Nat} {f : Nat → zE} {m : Nat} {ps : List yA} {ro : Option yA} {vs : List Value} {P : Option Value → (Nat → zE) → Prop} {l : List (Nat × Nat)} (h : xq v0 xs u m (lv_args 0 vs) f P) (hA : xca f m ps ro []) (hf : yfa ps vs) (hk : yws.lookup m = some l) (h36 : l.elem (10, 36) = false) : xq v0 xs u m (lv_args 0 vs) f (fun r f' => P r f' ∧ xD f f' ∧ sKp f f') := by
  refine zwp_mono (zwp_keep hk (sxq_D h hA hf)) fun o X hq => ?_
  obtain ⟨⟨r, f1, e1, e2, hP, hD⟩, hz⟩ := hq
  subst e2
  exact ⟨r, f1, e1, rfl, hP, hD, sKp_of hz h36⟩
theorem sCK_I {f : Nat → zE} {n : Nat} {cs : List Int} {nms : List (List Int)} {bc dp tk0 : Nat → Int} {K : List (Int × Int)} {G : Nat → List xBt} {R0 : Nat → Int × Int} (h : xINV f n cs nms bc dp tk0 K G R0) : sCK f K G nms.length := by
  obtain ⟨hM, -, hN, ⟨c1, c2, c3, kp, al, ⟨E, B, dr, op, ex, bs, sl, pt, tm, oa, ki, st, en, wo, di, sg, nmd, m, d, h109, hbs, hsl, h53, h110, h111, q1, q2, q3, q4, h112, hd, se, at', h55, h56, ls, la, bse, bat, hpt, hkc, -⟩, hkp, hKk⟩, -, ⟨hz1, hz2, hz3⟩, hz4, hz5⟩ := h
  have h12 := hN.1
  have key : ∀ c, c < nms.length → sFG f (57 + 4 * c) (G c) ∧ sGok K (G c) := by
    intro c hc
    obtain ⟨al2, hb0, hb1, fp, ep, ta, h57, h58, h59, h60, ⟨t1, t2, t3, t4, t5, t6, t7⟩, hta, hcb⟩ := c2 c hc
    obtain ⟨g1, g2⟩ := hcb hb1
    have a1 : 57 + 4 * c + 1 = 58 + 4 * c := by omega
    have a2 : 57 + 4 * c + 2 = 59 + 4 * c := by omega
    have a3 : 57 + 4 * c + 3 = 60 + 4 * c := by omega
    have h57' : f (57 + 4 * c) = .inl (3, [.ref (57 + 4 * c + 1), .ref (57 + 4 * c + 2), .ref (57 + 4 * c + 3), .long (Int64.ofInt (xpr (nms.getD c []).reverse)), xi ((G c).length : Nat), xi (dp c), al2]) := by
      rw [a1, a2, a3, g1]
      exact h57
    refine ⟨⟨by omega, ⟨_, _, _, h57'⟩, fp, ep, ta, ?_, ?_, ?_, t1, t2, t3, g2⟩, by omega, fun j hj => ?_⟩
    · rw [a1]; exact h58
    · rw [a2]; exact h59
    · rw [a3]; exact h60
    · have e := g2 j hj
      have x := hz5 c j hj
      have y1 := hta j (by omega)
      have y2 := t7 j (by omega)
      refine ⟨x, ?_, ?_⟩
      · rw [← e]; exact y1
      · rw [← e]; exact y2
  refine ⟨h12, ⟨kp, pt, h53⟩, xINV_54 hM, ⟨⟨_, _, _, h53⟩, se, at', h55, h56, ls, la, by omega, fun k hk => ?_⟩, fun c hc => (key c hc).1, fun c hc => (key c hc).2⟩
  have e := hkc k hk
  refine ⟨e, ?_, ?_⟩
  · rw [← e]; exact bse k
  · rw [← e]; exact bat k
theorem sKM_I {f : Nat → zE} {n : Nat} {cs : List Int} {nms : List (List Int)} {bc dp tk0 : Nat → Int} {K : List (Int × Int)} {G : Nat → List xBt} {R0 : Nat → Int × Int} (h : xINV f n cs nms bc dp tk0 K G R0) : ∀ c, c < nms.length → sKM f K c (G c) := by
  obtain ⟨hM, -, hN, ⟨-, -, -, kp, al, -, hkp, hKk⟩, ⟨cd, fa, ki, be, en, wo, nu, pa0, op, q, nl, m0, d0, tmM, oaM, Ee, Bb, h177, hpa, h179, hnl, hnm, ⟨cn, dn, tk, pf, pq, k0, k1, k2, k3, k4, ⟨g1, g2, g3, g4, g5⟩, -, -, hcn, -, htk, -, hR, -⟩, h187, h188, l1, l2, se, at', h185, h186, s1, s2, s3, s4, s5⟩, ⟨hz1, -, -⟩, hz4, -⟩ := h
  intro c hc
  have h12 := hN.1
  obtain ⟨z1, z2⟩ := hz4 c hc
  have zb := hz1 c (by omega)
  refine ⟨by omega, cn, tk, pf, pq, se, at', k0, k2, k3, k4, h185, h186, ⟨g1, g3, g4, g5, s1, s2⟩, ?_, fun j hj => ?_, by omega, fun k hk => ?_⟩
  · rw [hcn c (by omega)]; exact z1.symm
  · have e2 := z2 j hj
    rw [← hR (16 * c + j) (by omega), ← (htk (16 * c + j) (by omega)).1] at e2
    exact e2
  · have e := s5 k (by rw [List.length_append]; omega)
    have e0 : (K ++ Ee).getD k (0, 0) = K.getD k (0, 0) := by rw [List.getD_eq_getElem?_getD, List.getElem?_append_left hk, ← List.getD_eq_getElem?_getD]
    rw [e0] at e
    refine ⟨e, ?_, ?_⟩
    · rw [← e]; exact s3 k
    · rw [← e]; exact s4 k
/-! Frames. -/
theorem sMT_fr {f f' : Nat → zE} {n : Nat} {S : sS} (h : sMT f n S) (h177 : f' 177 = f 177) (hfr : ∀ q, 189 ≤ q → q ≤ 197 → f' q = f q) : sMT f' n S := by
  obtain ⟨⟨fs, hB⟩, hX, hJ, ax, ay, af, c1, c2, c3, c4⟩ := h
  exact ⟨⟨fs, sMB_f hB h177⟩, sMX_f hX (fun q a b => hfr q a (by omega)), sMJ_f hJ (fun q a b => hfr q (by omega) b), ax, ay, af, (hfr _ (by decide) (by decide)).trans c1, (hfr _ (by decide) (by decide)).trans c2, (hfr _ (by decide) (by decide)).trans c3, c4⟩
theorem sAC_fr {f f' : Nat → zE} {al : Nat → Bool} (h : sAC f al) (hfr : ∀ q, 57 ≤ q → q ≤ 108 → f' q = f q) : sAC f' al := by
  intro i hi
  obtain ⟨nm, b, d, e⟩ := h i hi
  exact ⟨nm, b, d, (hfr _ (by omega) (by omega)).trans e⟩
theorem sAD_fr {f f' : Nat → zE} {al : Nat → Bool} (h : sAD f al) (e : f' 198 = f 198) : sAD f' al := by
  obtain ⟨bl, h1, h2⟩ := h
  exact ⟨bl, e.trans h1, h2⟩
theorem sWC_fr {f f' : Nat → zE} {F : Int} {wy : Nat → Int} (h : sWC f F wy) (e1 : f' 117 = f 117) (e2 : f' 121 = f 121) : sWC f' F wy := by
  obtain ⟨⟨nd, h1⟩, cl, h2, h3⟩ := h
  exact ⟨⟨nd, e1.trans h1⟩, cl, e2.trans h2, h3⟩
theorem sWD_fr {f f' : Nat → zE} {F : Int} {wy : Nat → Int} (h : sWD f F wy) (hk : sKp f f') (e2 : f' 199 = f 199) : sWD f' F wy := by
  obtain ⟨⟨fs, h1, h36⟩, wl, h2, h3⟩ := h
  obtain ⟨fs', e, k⟩ := hk fs h1
  exact ⟨⟨fs', e, k.trans h36⟩, wl, e2.trans h2, h3⟩
/-- what was danced is known, and went well -/
def sHK (K : List (Int × Int)) (G : Nat → List xBt) (n : Nat) (S : sS) : Prop := ∀ i, i < S.2.1.length → (S.2.1.getD i sH0).1 < n ∧ sres (sbt K (G (S.2.1.getD i sH0).1)) (S.2.1.getD i sH0).2.1 (S.2.1.getD i sH0).2.2 (G (S.2.1.getD i sH0).1).length = 0
theorem sHK_PF {K : List (Int × Int)} {G : Nat → List xBt} {n : Nat} {back : Bool} {c : Int} {S : sS} (h : sHK K G n S) : sHK K G n (sPF K G n back c S).2.2 := by
  unfold sPF
  split
  · rename_i hc
    split
    · exact h
    · split
      · rename_i hr
        intro i hi
        replace hi : i < (S.2.1 ++ [(c.toNat, back, S.1)]).length := hi
        show ((S.2.1 ++ [(c.toNat, back, S.1)]).getD i sH0).1 < n ∧ sres (sbt K (G ((S.2.1 ++ [(c.toNat, back, S.1)]).getD i sH0).1)) ((S.2.1 ++ [(c.toNat, back, S.1)]).getD i sH0).2.1 ((S.2.1 ++ [(c.toNat, back, S.1)]).getD i sH0).2.2 (G ((S.2.1 ++ [(c.toNat, back, S.1)]).getD i sH0).1).length = 0
        by_cases e : i < S.2.1.length
        · have e1 : (S.2.1 ++ [(c.toNat, back, S.1)]).getD i sH0 = S.2.1.getD i sH0 := by rw [List.getD_eq_getElem?_getD, List.getElem?_append_left e, ← List.getD_eq_getElem?_getD]
          rw [e1]
          exact h i e
        · have e2 : i = S.2.1.length := by
            rw [List.length_append, List.length_singleton] at hi
            omega
          have e1 : (S.2.1 ++ [(c.toNat, back, S.1)]).getD i sH0 = (c.toNat, back, S.1) := by
            rw [e2, List.getD_eq_getElem?_getD, List.getElem?_append_right (Nat.le_refl _), Nat.sub_self]
            rfl
          rw [e1]
          exact ⟨by show c.toNat < n; omega, hr⟩
      · exact fun i hi => h i hi
  · exact h
theorem sHK_UN {K : List (Int × Int)} {G : Nat → List xBt} {n : Nat} {S : sS} (h : sHK K G n S) : sHK K G n (sUN G S).2.2 := by
  unfold sUN
  split
  · exact h
  · intro i hi
    replace hi : i < (S.2.1.take (S.2.1.length - 1)).length := hi
    rw [List.length_take] at hi
    have e1 : (S.2.1.take (S.2.1.length - 1)).getD i sH0 = S.2.1.getD i sH0 := by rw [List.getD_eq_getElem?_getD, List.getElem?_take, if_pos (by omega), ← List.getD_eq_getElem?_getD]
    show ((S.2.1.take (S.2.1.length - 1)).getD i sH0).1 < n ∧ sres (sbt K (G ((S.2.1.take (S.2.1.length - 1)).getD i sH0).1)) ((S.2.1.take (S.2.1.length - 1)).getD i sH0).2.1 ((S.2.1.take (S.2.1.length - 1)).getD i sH0).2.2 (G ((S.2.1.take (S.2.1.length - 1)).getD i sH0).1).length = 0
    rw [e1]
    exact h i (by omega)
theorem sHK_G {K : List (Int × Int)} {G : Nat → List xBt} {n : Nat} {S : sS} (h : sHK K G n S) (hG : ∀ c, c < n → sGok K (G c)) : ∀ i, i < S.2.1.length → (G (S.2.1.getD i sH0).1).length ≤ 16 := fun i hi => (hG _ (h i hi).1).1
theorem sprt_app {K E : List (Int × Int)} {b : xBt} (h : 0 ≤ b.1 ∧ b.1 ≤ b.2.1 ∧ b.2.1 ≤ (K.length : Int)) : sprt (K ++ E) b = sprt K b := by
  unfold sprt
  rw [List.drop_append_of_le_length (by omega), List.take_append_of_le_length (by rw [List.length_drop]; omega)]
theorem sbt_app {K E : List (Int × Int)} {B : List xBt} (h : xgk K B) : sbt (K ++ E) B = sbt K B := by
  unfold sbt
  refine List.map_congr_left fun b hb => ?_
  obtain ⟨j, hj, e⟩ := List.mem_iff_getElem.mp hb
  have h1 := h j hj
  rw [List.getD_eq_getElem?_getD, List.getElem?_eq_getElem hj] at h1
  have h2 : 0 ≤ (B[j]).1 ∧ (B[j]).1 ≤ (B[j]).2.1 ∧ (B[j]).2.1 ≤ (K.length : Int) := h1
  rw [← e, sprt_app h2]
/-! The codes and answers. -/
theorem sPF_c {K : List (Int × Int)} {G : Nat → List xBt} {n : Nat} {back : Bool} {c : Int} {S : sS} : (sPF K G n back c S).1 = 0 ∨ (sPF K G n back c S).1 = 1 ∨ (sPF K G n back c S).1 = 2 := by
  unfold sPF
  split
  · split
    · exact Or.inr (Or.inr rfl)
    · split
      · exact Or.inl rfl
      · exact Or.inr (Or.inr rfl)
  · exact Or.inr (Or.inl rfl)
theorem sUN_c {G : Nat → List xBt} {S : sS} : (sUN G S).1 = 0 ∨ (sUN G S).1 = 1 := by
  unfold sUN
  split
  · exact Or.inr rfl
  · exact Or.inl rfl
theorem sWH_c {S : sS} {d w : Int} : (sWH S d w).1 = 0 ∨ (sWH S d w).1 = 1 := by
  unfold sWH
  split
  · exact Or.inl rfl
  · exact Or.inr rfl
theorem sWH_s {S : sS} {d w : Int} : (sWH S d w).2.2 = S := by
  unfold sWH
  split <;> rfl
theorem sSL_c {S : sS} {d w : Int} : (sSL S d w).1 = 0 ∨ (sSL S d w).1 = 1 := by
  unfold sSL
  split
  · exact Or.inl rfl
  · exact Or.inr rfl
theorem sSL_s {S : sS} {d w : Int} : (sSL S d w).2.2 = S := by
  unfold sSL
  split <;> rfl
theorem sSL_b {S : sS} {d w : Int} : (sSL S d w).2.1 = 0 ∨ (sSL S d w).2.1 = 1 := by
  unfold sSL
  split
  · show (if _ then (1 : Int) else 0) = 0 ∨ (if _ then (1 : Int) else 0) = 1
    split
    · exact Or.inr rfl
    · exact Or.inl rfl
  · exact Or.inl rfl
theorem sSD_c {K : List (Int × Int)} {G : Nat → List xBt} {S : sS} {b d : Int} : (sSD K G S b d).1 = 0 ∨ (sSD K G S b d).1 = 1 ∨ (sSD K G S b d).1 = 2 := by
  unfold sSD
  split
  · split
    · exact Or.inr (Or.inr rfl)
    · exact Or.inl rfl
  · exact Or.inr (Or.inl rfl)
theorem sSD_s {K : List (Int × Int)} {G : Nat → List xBt} {S : sS} {b d : Int} : (sSD K G S b d).2.2 = S := by
  unfold sSD
  split
  · split <;> rfl
  · rfl
theorem sWR_c {F : Int} {wy : Nat → Int} {S : sS} {i : Int} : (sWR F wy S i).1 = 0 ∨ (sWR F wy S i).1 = 1 := by
  unfold sWR
  split
  · exact Or.inr rfl
  · exact Or.inl rfl
theorem sWR_s {F : Int} {wy : Nat → Int} {S : sS} {i : Int} : (sWR F wy S i).2.2 = S := by
  unfold sWR
  split <;> rfl
theorem sSM_c {K : List (Int × Int)} {G : Nat → List xBt} {n : Nat} {S : sS} {a b : Int} : (sSM K G n S a b).1 = 0 ∨ (sSM K G n S a b).1 = 1 := by
  unfold sSM
  split
  · exact Or.inl rfl
  · exact Or.inr rfl
theorem sSM_s {K : List (Int × Int)} {G : Nat → List xBt} {n : Nat} {S : sS} {a b : Int} : (sSM K G n S a b).2.2 = S := by
  unfold sSM
  split <;> rfl
theorem sSM_b {K : List (Int × Int)} {G : Nat → List xBt} {n : Nat} {S : sS} {a b : Int} : (sSM K G n S a b).2.1 = 0 ∨ (sSM K G n S a b).2.1 = 1 := by
  unfold sSM
  split
  · show (if _ then (1 : Int) else 0) = 0 ∨ (if _ then (1 : Int) else 0) = 1
    split
    · exact Or.inr rfl
    · exact Or.inl rfl
  · exact Or.inl rfl
/-- beats -/
def sBE (bc : Nat → Int) (n : Nat) (S : sS) (z : Int) : Int × Int × sS := if 0 ≤ z ∧ z < (n : Nat) then (0, bc z.toNat, S) else (1, 0, S)
theorem sBE_c {bc : Nat → Int} {n : Nat} {S : sS} {z : Int} : (sBE bc n S z).1 = 0 ∨ (sBE bc n S z).1 = 1 := by
  unfold sBE
  split
  · exact Or.inl rfl
  · exact Or.inr rfl
theorem sBE_s {bc : Nat → Int} {n : Nat} {S : sS} {z : Int} : (sBE bc n S z).2.2 = S := by
  unfold sBE
  split <;> rfl
/-! The state of the law. -/
/-- both sides remember the same fault -/
def xFT (f : Nat → zE) : Prop := ∃ z : Int, (-1 ≤ z ∧ z ≤ 100) ∧ (∃ fs : List Value, f 50 = .inl (0, fs) ∧ fs[11]? = some (xi z)) ∧ ∃ fs : List Value, f 177 = .inl (10, fs) ∧ fs[3]? = some (xi z)
theorem xFT_D {f f' : Nat → zE} (h : xFT f) (hD : xD f f') : xFT f' := by
  obtain ⟨z, hz, ⟨fs, h50, h11⟩, gs, h177, h3⟩ := h
  refine ⟨z, hz, ?_, ?_⟩
  · have e := xh_at (f := f) (p := 50) (by decide) (by decide)
    rw [h50] at e
    obtain ⟨fs', he, hk⟩ := hD.2.2 _ _ _ e
    have e' := xh_at (f := f') (p := 50) (by decide) (by decide)
    rw [he] at e'
    exact ⟨fs', (Option.some.inj e').symm, (hk 11 (by decide)).trans h11⟩
  · have e := xh_at (f := f) (p := 177) (by decide) (by decide)
    rw [h177] at e
    obtain ⟨fs', he, hk⟩ := hD.2.2 _ _ _ e
    have e' := xh_at (f := f') (p := 177) (by decide) (by decide)
    rw [he] at e'
    exact ⟨fs', (Option.some.inj e').symm, (hk 3 (by decide)).trans h3⟩
theorem xFT_tx {f f2 : Nat → zE} {v w : Value} {gs : List Value} (h : xFT f) (h50 : f2 50 = f 50) (h177 : f 177 = .inl (10, gs)) (g177 : f2 177 = .inl (10, (gs.set 0 v).set 1 w)) : xFT f2 := by
  obtain ⟨z, hz, ⟨fs, k50, k11⟩, gs', k177, k3⟩ := h
  rw [h177] at k177
  cases k177
  refine ⟨z, hz, ⟨fs, h50.trans k50, k11⟩, _, g177, ?_⟩
  rw [List.getElem?_set_ne (by decide), List.getElem?_set_ne (by decide)]
  exact k3
def sRS (f : Nat → zE) (K : List (Int × Int)) (G : Nat → List xBt) (n : Nat) (S : sS) (al : Nat → Bool) (F : Int) (wy : Nat → Int) : Prop := sCT f K G S ∧ sMT f n S ∧ sHK K G n S ∧ (sAC f al ∧ sAD f al ∧ (∀ i, n ≤ i → al i = false) ∧ scnt al n ≤ 5) ∧ (-1 ≤ F ∧ F ≤ 4) ∧ sWC f F wy ∧ sWD f F wy
def sA (f : Nat → zE) : Prop := ∃ (n : Nat) (cs : List Int) (nms : List (List Int)) (bc dp tk0 : Nat → Int) (K : List (Int × Int)) (G : Nat → List xBt) (R0 : Nat → Int × Int) (S : sS) (al : Nat → Bool) (F : Int) (wy : Nat → Int), xINV f n cs nms bc dp tk0 K G R0 ∧ xFT f ∧ sRS f K G nms.length S al F wy
/-- a step of both that dances -/
theorem sCLO {f f1 f2 : Nat → zE} {n : Nat} {cs : List Int} {nms : List (List Int)} {bc dp tk0 : Nat → Int} {K : List (Int × Int)} {G : Nat → List xBt} {R0 : Nat → Int × Int} {S S' : sS} {al : Nat → Bool} {F : Int} {wy : Nat → Int} (hI : xINV f n cs nms bc dp tk0 K G R0) (hF : xFT f) (hR : sRS f K G nms.length S al F wy) (hD1 : xD f f1) (hT1 : sCT f1 K G S') (fr1 : ∀ q, q ≠ 50 → q ≠ 115 → q ≠ 116 → ¬ (123 ≤ q ∧ q ≤ 176) → q ≠ 203 → f1 q = f q) (hD2 : xD f1 f2) (hk : sKp f1 f2) (hT2 : sMT f2 nms.length S') (fr2 : ∀ q, q ≠ 177 → ¬ (189 ≤ q ∧ q ≤ 197) → q ≠ 202 → f2 q = f1 q) (hH : sHK K G nms.length S') : sA f2 := by
  obtain ⟨-, -, -, ⟨a1, a2, a3, a4⟩, hF4, w1, w2⟩ := hR
  have fr : ∀ q, q ≠ 50 → q ≠ 115 → q ≠ 116 → ¬ (123 ≤ q ∧ q ≤ 177) → ¬ (189 ≤ q ∧ q ≤ 197) → q ≠ 202 → q ≠ 203 → f2 q = f q := fun q b1 b2 b3 b4 b5 b6 b7 => (fr2 q (by omega) b5 b6).trans (fr1 q b1 b2 b3 (by omega) b7)
  exact ⟨n, cs, nms, bc, dp, tk0, K, G, R0, S', al, F, wy, xINV_D (xINV_D hI hD1) hD2, xFT_D (xFT_D hF hD1) hD2, sCT_f hT1 (fr2 50 (by decide) (by decide) (by decide)) (fun q b1 b2 => fr2 q (by omega) (by omega) (by omega)), hT2, hH, ⟨sAC_fr a1 (fun q b1 b2 => fr q (by omega) (by omega) (by omega) (by omega) (by omega) (by omega) (by omega)), sAD_fr a2 (fr 198 (by decide) (by decide) (by decide) (by decide) (by decide) (by decide) (by decide)), a3, a4⟩, hF4, sWC_fr w1 (fr 117 (by decide) (by decide) (by decide) (by decide) (by decide) (by decide) (by decide)) (fr 121 (by decide) (by decide) (by decide) (by decide) (by decide) (by decide) (by decide)), sWD_fr w2 (sKp_t (sKp_e (fr1 177 (by decide) (by decide) (by decide) (by decide) (by decide))) hk) (fr 199 (by decide) (by decide) (by decide) (by decide) (by decide) (by decide) (by decide))⟩
