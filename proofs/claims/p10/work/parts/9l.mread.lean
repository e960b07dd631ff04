/-! The model's read, whole. -/
/-- what stands behind the kept parts does not count -/
theorem xMS_K {K E : List (Int × Int)} {f : Nat → zE} (h : xMS K E f) : xMS K [] f := by
  obtain ⟨se, at', h1, h2, h3, h4, h5, h6, h7⟩ := h
  refine ⟨se, at', h1, h2, h3, h4, h5, h6, fun j hj => ?_⟩
  rw [List.append_nil] at hj ⊢
  rw [h7 j (by rw [List.length_append]; omega), List.getD_eq_getElem?_getD, List.getD_eq_getElem?_getD, List.getElem?_append_left hj]
theorem xs_81 {K : List (Int × Int)} {R0 : Nat → Int × Int} {G : Nat → List xBt} {B0 : List xBt} {E0 : List (Int × Int)} {v0 : Value} {xs : List Int32} {u : Nat × Nat} {f : Nat → zE} {n : Nat} {cs : List Int} {nms : List (List Int)} {nl : List Int64} {bc dp tk0 : Nat → Int} {cd fa ki be en nu pa0 op m0 d0 : Int} {wo : Int64} {q : Nat → Value} {tm oa tmM oaM : List Int} (hn : n ≤ 100) (hl : cs.length = 100) (hcs : ∀ j : Nat, 0 ≤ cs.getD j 0 ∧ cs.getD j 0 ≤ 126) (h179 : f 179 = .inr (.inr (.inl nl))) (hlen : nl.length = 13) (hcl : nms.length ≤ 12) (hw : ∀ w ∈ nms, xwf w) (hnl : ∀ k, k < nms.length → nl.getD k 0 = Int64.ofInt (xpr (nms.getD k []))) (hnd : nms.Nodup) (hns : ∀ w ∈ nms, w ∉ selW) (hbc : ∀ i, i < nms.length → 0 ≤ bc i ∧ bc i ≤ 16) (hdp : ∀ i, i < nms.length → 1 ≤ dp i ∧ dp i ≤ 6) (htk : ∀ i, i < nms.length → ∀ k : Nat, (k : Int) < bc i → 0 ≤ tk0 (16 * i + k) ∧ tk0 (16 * i + k) ≤ k) (hpa0 : 0 ≤ pa0 ∧ pa0 ≤ 192) (h178 : f 178 = xr 1 cs) (h177 : f 177 = xmo cd (n : Nat) fa ki be en wo nu (nms.length : Nat) pa0 op q) (hGk : ∀ i, i < nms.length → ((G i).length : Int) = bc i ∧ ∀ k, k < (G i).length → ((R0 (16 * i + k)).1, (R0 (16 * i + k)).2, tk0 (16 * i + k)) = (G i).getD k (0, 0, 0)) (hKp : (K.length : Int) = pa0) (hmd : xMD R0 B0 bc dp tk0 f m0 d0) (k7 : f 187 = xr 0 tmM) (k8 : f 188 = xr 0 oaM) (k9 : tmM.length = 3) (k10 : oaM.length = 3) (hMS : xMS K E0 f) (htl : tm.length = 3) (hol : oa.length = 3) : xq v0 xs u 81 [(0, .ref 177)] f (fun r f' => ∃ W : Int64, (∃ b e' : Int, xG cs n nms bc dp 0 (0, 0, tm, oa, 0, 1) = .inr (b, e') ∧ r = some (xi (-1)) ∧ W = (Int64.ofInt (xwR (xwd cs (xtf cs n 0).2.1 (xtf cs n 0).2.2))) ∧ xMA K R0 (xGC K G cs n nms bc dp 0 (0, 0, tm, oa, 0, 1) xC0) n nms bc dp tk0 cd fa pa0 q (xu f 179 (.inr (.inr (.inl (nl.set 12 W))))) f' b e') ∨ (∃ z : Int, xG cs n nms bc dp 0 (0, 0, tm, oa, 0, 1) = .inl z ∧ r = some (xi z) ∧ (0 ≤ z ∧ z ≤ 100) ∧ xMW K R0 n nms bc dp tk0 cd fa q (xu f 179 (.inr (.inr (.inl (nl.set 12 W))))) f' z)) := by
  unfold xq
  obtain ⟨cn, dn, tk, pf, pq, h180, h181, h182, h183, h184, ⟨g1l, g2l, g3l, g4l, g5l⟩, hcm, hdd, hk1, hk2, hk3, hk4, hR, hmb⟩ := hmd
  refine x_aload_n rfl rfl ?_
  refine x_iconst rfl ?_
  refine x_putfield rfl (by decide) h177 (show (6 : Nat) < 41 from by decide) rfl ?_
  refine x_aload_n rfl rfl ?_
  refine x_iconst rfl ?_
  refine x_putfield rfl (by decide) xu_eq (show (19 : Nat) < 41 from by decide) rfl ?_
  refine x_aload_n rfl rfl ?_
  refine x_getfield rfl (by decide) xu_eq rfl ?_
  refine x_bipush rfl (by decide) ?_
  refine x_iconst rfl ?_
  refine x_iastore rfl (by decide) (xu_ne (by decide) (xu_ne (by decide) h180)) ⟨by omega, by omega⟩ (by omega) ?_
  refine x_aload_n rfl rfl ?_
  refine x_getfield rfl (by decide) (xu_ne (by decide) xu_eq) rfl ?_
  refine x_bipush rfl (by decide) ?_
  refine x_iconst rfl ?_
  refine x_iastore rfl (by decide) (xu_ne (by decide) (xu_ne (by decide) (xu_ne (by decide) h181))) ⟨by omega, by omega⟩ (by omega) ?_
  generalize hgf : xu (xu (xu (xu f 177 _) 177 _) 180 _) 181 _ = f1
  have a177 : f1 177 = xmo cd (n : Nat) fa ki be ((0 : Nat) : Int) wo nu (nms.length : Nat) pa0 0 q := by rw [← hgf]; exact xu_ne (by decide) (xu_ne (by decide) xu_eq)
  have afr : ∀ p, p ≠ 177 → p ≠ 180 → p ≠ 181 → f1 p = f p := fun p b1 b2 b3 => by rw [← hgf]; exact xu_ne b3 (xu_ne b2 (xu_ne b1 (xu_ne b1 rfl)))
  have aMD : xMD R0 [] bc dp tk0 f1 0 1 := by
    refine ⟨cn.set 12 0, dn.set 12 1, tk, pf, pq, by rw [← hgf]; exact xu_ne (by decide) xu_eq, by rw [← hgf]; exact xu_eq, (afr 182 (by decide) (by decide) (by decide)).trans h182, (afr 183 (by decide) (by decide) (by decide)).trans h183, (afr 184 (by decide) (by decide) (by decide)).trans h184, ⟨by rw [List.length_set]; exact g1l, by rw [List.length_set]; exact g2l, g3l, g4l, g5l⟩, ?_, ?_, ?_, ?_, hk3, fun j _ hj => by omega, hR, fun _ => ⟨rfl, fun j hj => absurd hj (Nat.not_lt_zero j)⟩⟩
    · rw [x_gset, if_pos ⟨rfl, by omega⟩]
    · rw [x_gset, if_pos ⟨rfl, by omega⟩]
    · intro i hi; rw [x_gset, if_neg (by omega)]; exact hk1 i hi
    · intro i hi; rw [x_gset, if_neg (by omega)]; exact hk2 i hi
  clear hgf
  have a178 := (afr 178 (by decide) (by decide) (by decide)).trans h178
  refine x_aload_n rfl rfl ?_
  refine x_call [_] rfl rfl (show (0 : Nat) ≤ 8 from by decide) (show (1 : Nat) ≤ 2 from by decide) (x_rcv (by decide) a177) (xs_69 (p0 := 0) a177 a178 hn hl hcs (Nat.zero_le _)) (fun r' f2 hP => ?_)
  obtain ⟨rfl, ⟨ki1, s, e, kM, wo1, nu1, b177, hT, hM⟩, hf2⟩ := hP
  have hr := xTK_rg hT (Nat.zero_le _)
  have hk := xTM_k (Nat.zero_le _) hT hM
  have et := xtf_eq hT
  have b179 : f2 179 = .inr (.inr (.inl nl)) := (hf2 179 (by decide)).trans ((afr 179 (by decide) (by decide) (by decide)).trans h179)
  have b178 : f2 178 = xr 1 cs := (hf2 178 (by decide)).trans a178
  have bMD : xMD R0 [] bc dp tk0 f2 0 1 := xMD_mv (fun p p1 p2 => hf2 p (by omega)) aMD
  have bfr : ∀ p, p ≠ 177 → p ≠ 180 → p ≠ 181 → f2 p = f p := fun p b1 b2 b3 => (hf2 p b1).trans (afr p b1 b2 b3)
  have hnl2 : ∀ k, k < nms.length → (nl.set 12 wo1).getD k 0 = Int64.ofInt (xpr (nms.getD k [])) := fun k hk => by
    rw [List.getD_eq_getElem?_getD, List.getElem?_set_ne (by omega), ← List.getD_eq_getElem?_getD]; exact hnl k hk
  have c177 : (xu f2 179 (.inr (.inr (.inl (nl.set 12 wo1))))) 177 = xmo cd (n : Nat) fa kM (s : Nat) (e : Nat) wo1 nu1 (nms.length : Nat) pa0 0 q := xu_ne (by decide) b177
  have cCM : ∀ B : Int, 0 ≤ B → xCM K R0 xC0 bc dp tk0 (xu f 179 (.inr (.inr (.inl (nl.set 12 wo1))))) (xu f2 179 (.inr (.inr (.inl (nl.set 12 wo1))))) 0 tm oa 0 1 B := fun B hB => by
    refine ⟨by decide, by decide, xMS_mv (xu_ne (by decide) (bfr 185 (by decide) (by decide) (by decide))) (xu_ne (by decide) (bfr 186 (by decide) (by decide) (by decide))) (xMS_K hMS), ?_, 0, tmM, oaM, xMD_mv (fun p p1 p2 => xu_ne (by omega) rfl) bMD, by decide, xu_ne (by decide) ((bfr 187 (by decide) (by decide) (by decide)).trans k7), xu_ne (by decide) ((bfr 188 (by decide) (by decide) (by decide)).trans k8), k9, k10, fun j hj => by omega, ⟨by decide, fun h => by omega, fun h => by omega, fun h => by omega⟩, by unfold xphi; rw [if_pos rfl]; exact hB⟩
    intro p a1 a2 a3 a4 a5 a6 a7 a8 a9 a10
    by_cases hp : p = 179
    · subst hp; rw [xu_eq, xu_eq]
    · rw [xu_ne hp rfl, xu_ne hp rfl]; exact bfr p a1 a2 a3
  have hbad : ¬ (ki1 = 1 ∧ (xwd cs s e).isNone = false ∧ xfi (xwd cs s e) nms 0 = -1 ∧ xfi (xwd cs s e) selW 0 = -1 ∧ xfi (xwd cs s e) atW 0 = -1) → xz v0 xs u (fun o X => ∃ r f', o = .inl r ∧ X = (xh f', u) ∧ (fun r f' => ∃ W : Int64, (∃ b e' : Int, xG cs n nms bc dp 0 (0, 0, tm, oa, 0, 1) = .inr (b, e') ∧ r = some (xi (-1)) ∧ W = (Int64.ofInt (xwR (xwd cs (xtf cs n 0).2.1 (xtf cs n 0).2.2))) ∧ xMA K R0 (xGC K G cs n nms bc dp 0 (0, 0, tm, oa, 0, 1) xC0) n nms bc dp tk0 cd fa pa0 q (xu f 179 (.inr (.inr (.inl (nl.set 12 W))))) f' b e') ∨ (∃ z : Int, xG cs n nms bc dp 0 (0, 0, tm, oa, 0, 1) = .inl z ∧ r = some (xi z) ∧ (0 ≤ z ∧ z ≤ 100) ∧ xMW K R0 n nms bc dp tk0 cd fa q (xu f 179 (.inr (.inr (.inl (nl.set 12 W))))) f' z)) r f') 81 73 [(0, .ref 177)] [xi 0] f2 := fun hno => by
    refine x_istore_n rfl (show (1 : Nat) < 4 from by decide) ?_
    refine x_aload_n rfl (xst_ne (by decide) rfl (Or.inl rfl)) ?_
    refine x_getfield rfl (by decide) b177 rfl ?_
    refine x_bipush rfl (by decide) ?_
    refine x_aload_n rfl (xst_ne (by decide) rfl (Or.inl rfl)) ?_
    refine x_getfield rfl (by decide) b177 rfl ?_
    refine x_lastore rfl (by decide) b179 ⟨by omega, by omega⟩ (by omega) ?_
    refine x_iload_n rfl xst_eq ?_
    refine x_ifne (t := 108) rfl rfl (by decide) (fun h => absurd rfl h) (fun _ => ?_)
    have hnone : xG cs n nms bc dp 0 (0, 0, tm, oa, 0, 1) = .inl ((s : Nat) : Int) := by
      refine xG_n (Nat.zero_le _) hT (fun _ => by simp [xfin]) (fun _ => ?_)
      unfold xtq
      simp only [xstep]
      rw [if_neg hno]
    refine x_aload_n rfl (xst_ne (by decide) rfl (Or.inl rfl)) ?_
    refine x_getfield rfl (by decide) c177 rfl ?_
    refine x_ifne (t := 103) rfl rfl ⟨by omega, by omega⟩ (fun _ => ?_) (fun h9 => ?_)
    · refine x_aload_n rfl (xst_ne (by decide) rfl (Or.inl rfl)) ?_
      refine x_getfield rfl (by decide) c177 rfl ?_
      refine x_ireturn rfl (Or.inl rfl) ⟨_, _, rfl, rfl, ?_⟩
      exact ⟨wo1, Or.inr ⟨_, hnone, rfl, ⟨by omega, by omega⟩, xCM_W c177 ⟨hk.1, ⟨by omega, by omega⟩, fun h => by have h8 := hr.2.2.2.2.2.2 (hk.2.2.2.mp h); omega⟩ (cCM 0 (Int.le_refl _))⟩⟩
    · refine x_aload_n rfl (xst_ne (by decide) rfl (Or.inl rfl)) ?_
      refine x_getfield rfl (by decide) c177 rfl ?_
      refine x_goto (t := 107) rfl rfl ?_
      refine x_ireturn rfl (Or.inl rfl) ⟨_, _, rfl, rfl, ?_⟩
      exact ⟨wo1, Or.inr ⟨_, hnone, by rw [hr.2.2.2.2.2.2 (hk.2.2.2.mp h9)], ⟨by omega, by omega⟩, xCM_W c177 ⟨hk.1, ⟨by omega, by omega⟩, fun h => by have h8 := hr.2.2.2.2.2.2 (hk.2.2.2.mp h); omega⟩ (cCM 0 (Int.le_refl _))⟩⟩
  have hgood : (ki1 = 1 ∧ (xwd cs s e).isNone = false ∧ xfi (xwd cs s e) nms 0 = -1 ∧ xfi (xwd cs s e) selW 0 = -1 ∧ xfi (xwd cs s e) atW 0 = -1) → xz v0 xs u (fun o X => ∃ r f', o = .inl r ∧ X = (xh f', u) ∧ (fun r f' => ∃ W : Int64, (∃ b e' : Int, xG cs n nms bc dp 0 (0, 0, tm, oa, 0, 1) = .inr (b, e') ∧ r = some (xi (-1)) ∧ W = (Int64.ofInt (xwR (xwd cs (xtf cs n 0).2.1 (xtf cs n 0).2.2))) ∧ xMA K R0 (xGC K G cs n nms bc dp 0 (0, 0, tm, oa, 0, 1) xC0) n nms bc dp tk0 cd fa pa0 q (xu f 179 (.inr (.inr (.inl (nl.set 12 W))))) f' b e') ∨ (∃ z : Int, xG cs n nms bc dp 0 (0, 0, tm, oa, 0, 1) = .inl z ∧ r = some (xi z) ∧ (0 ≤ z ∧ z ≤ 100) ∧ xMW K R0 n nms bc dp tk0 cd fa q (xu f 179 (.inr (.inr (.inl (nl.set 12 W))))) f' z)) r f') 81 73 [(0, .ref 177)] [xi 1] f2 := fun hyes => by
    have hse := hr.2.2.2.2.2.1 (by omega)
    refine x_istore_n rfl (show (1 : Nat) < 4 from by decide) ?_
    refine x_aload_n rfl (xst_ne (by decide) rfl (Or.inl rfl)) ?_
    refine x_getfield rfl (by decide) b177 rfl ?_
    refine x_bipush rfl (by decide) ?_
    refine x_aload_n rfl (xst_ne (by decide) rfl (Or.inl rfl)) ?_
    refine x_getfield rfl (by decide) b177 rfl ?_
    refine x_lastore rfl (by decide) b179 ⟨by omega, by omega⟩ (by omega) ?_
    refine x_iload_n rfl xst_eq ?_
    refine x_ifne (t := 108) rfl rfl (by decide) (fun _ => ?_) (fun h => absurd h (by decide))
    have g1 : xG cs n nms bc dp 0 (0, 0, tm, oa, 0, 1) = xG cs n nms bc dp e (1, 0, tm, oa, 0, 1) := xG_s (Nat.zero_le _) hT (by omega) (by unfold xtq; simp only [xstep]; rw [if_pos hyes])
    have g1c : xGC K G cs n nms bc dp 0 (0, 0, tm, oa, 0, 1) xC0 = xGC K G cs n nms bc dp e (1, 0, tm, oa, 0, 1) xC0 := xGC_s (Nat.zero_le _) hT (by omega) (by unfold xtq; simp only [xstep]; rw [if_pos hyes]) rfl
    refine x_aload_n rfl (xst_ne (by decide) rfl (Or.inl rfl)) ?_
    refine x_call [_] rfl rfl (show (0 : Nat) ≤ 8 from by decide) (show (1 : Nat) ≤ 2 from by decide) (x_rcv (by decide) c177) (xs_69 (p0 := e) c177 (xu_ne (by decide) b178) hn hl hcs hr.2.2.2.1) (fun r' f3 hP => ?_)
    obtain ⟨rfl, ⟨ki2, s2, e2, kM2, wo2, nu2, d177, hT2, hM2⟩, hf3⟩ := hP
    have hr2 := xTK_rg hT2 hr.2.2.2.1
    have hk2b := xTM_k hr.2.2.2.1 hT2 hM2
    have d178 : f3 178 = xr 1 cs := (hf3 178 (by decide)).trans (xu_ne (by decide) b178)
    refine x_aload_n rfl (xst_ne (by decide) rfl (Or.inl rfl)) ?_
    refine x_bipush rfl (by decide) ?_
    by_cases hq : ki2 = 3 ∧ cs.getD s2 0 = 61
    · skip
      refine x_call [_, _] rfl rfl (show (0 : Nat) ≤ 8 from by decide) (show (2 : Nat) ≤ 3 from by decide) (x_rcv (by decide) d177) (xs_75t d177 d178 hn hl hcs hr.2.2.2.1 hT2 hM2 (by unfold xsgn; omega) hq) (fun r' f4 hP => ?_)
      obtain ⟨rfl, ⟨ki3, s3, e3, kM3, wo3, nu3, e177, hT3, hM3⟩, hf4⟩ := hP
      refine x_ifne (t := 140) rfl rfl (by decide) (fun _ => ?_) (fun h => absurd h (by decide))
      refine x_iconst rfl ?_
      refine x_istore_n rfl (show (2 : Nat) < 4 from by decide) ?_
      have g2 : xG cs n nms bc dp e (1, 0, tm, oa, 0, 1) = xG cs n nms bc dp e2 (2, 0, tm, oa, 0, 1) := xG_s hr.2.2.2.1 hT2 (by omega) (by unfold xtq; simp only [xstep]; rw [if_pos hq])
      have g2c : xGC K G cs n nms bc dp e (1, 0, tm, oa, 0, 1) xC0 = xGC K G cs n nms bc dp e2 (2, 0, tm, oa, 0, 1) xC0 := xGC_s hr.2.2.2.1 hT2 (by omega) (by unfold xtq; simp only [xstep]; rw [if_pos hq]) rfl
      refine zwp_mono (xs_81l (f0 := xu f 179 (.inr (.inr (.inl (nl.set 12 wo1))))) (nl := nl.set 12 wo1) hn hl hcs xu_eq (by rw [List.length_set]; exact hlen) hcl hw hnl2 hnd hns hbc hdp htk hpa0 (xu_ne (by decide) h178) hGk (n + 1) e2 xC0 f4 _ 0 0 1 tm oa (by omega) (xst_ne (by decide) (xst_ne (by decide) rfl (Or.inl rfl)) (Or.inl rfl)) xst_eq (g1.trans g2).symm (g1c.trans g2c).symm htl hol ⟨hr2.2.2.2.1, ki3, s3, e3, kM3, wo3, nu3, pa0, e177, hT3, hM3, xCM_mv (fun p hp => (hf4 p hp).trans (hf3 p hp)) (Int.le_refl _) (cCM _ (by omega)), Int.le_refl _, by omega, by show pa0 = ((K ++ []).length : Int); rw [List.append_nil]; exact hKp.symm⟩) ?_
      intro oo X' hq2
      obtain ⟨r, f', rfl, rfl, hq2⟩ := hq2
      refine ⟨r, f', rfl, rfl, wo1, ?_⟩
      rcases hq2 with ⟨b, e9, h1, h2, h3⟩ | h
      · exact Or.inl ⟨b, e9, h1, h2, by rw [et]; exact hM.1 hyes.1, h3⟩
      · exact Or.inr h
    · skip
      refine x_call [_, _] rfl rfl (show (0 : Nat) ≤ 8 from by decide) (show (2 : Nat) ≤ 3 from by decide) (x_rcv (by decide) d177) (xs_75f d177 d178 hn hl hcs hr.2.2.2.1 hT2 hM2 (by unfold xsgn; omega) hq) (fun r' f4 hP => ?_)
      obtain ⟨rfl, hPe⟩ := hP
      subst hPe
      refine x_ifne (t := 140) rfl rfl (by decide) (fun h => absurd rfl h) (fun _ => ?_)
      have hnone : xG cs n nms bc dp 0 (0, 0, tm, oa, 0, 1) = .inl ((s2 : Nat) : Int) := by
        rw [g1]
        refine xG_n hr.2.2.2.1 hT2 (fun _ => by simp [xfin]) (fun _ => ?_)
        unfold xtq
        simp only [xstep]
        rw [if_neg hq]
      refine x_aload_n rfl (xst_ne (by decide) rfl (Or.inl rfl)) ?_
      refine x_getfield rfl (by decide) d177 rfl ?_
      refine x_ifne (t := 135) rfl rfl ⟨by omega, by omega⟩ (fun _ => ?_) (fun h9 => ?_)
      · refine x_aload_n rfl (xst_ne (by decide) rfl (Or.inl rfl)) ?_
        refine x_getfield rfl (by decide) d177 rfl ?_
        refine x_ireturn rfl (Or.inl rfl) ⟨_, _, rfl, rfl, ?_⟩
        exact ⟨wo1, Or.inr ⟨_, hnone, rfl, ⟨by omega, by omega⟩, xCM_W d177 ⟨hk2b.1, ⟨by omega, by omega⟩, fun h => by have h8 := hr2.2.2.2.2.2.2 (hk2b.2.2.2.mp h); omega⟩ (xCM_mv hf3 (Int.le_refl _) (cCM 0 (Int.le_refl _)))⟩⟩
      · refine x_aload_n rfl (xst_ne (by decide) rfl (Or.inl rfl)) ?_
        refine x_getfield rfl (by decide) d177 rfl ?_
        refine x_goto (t := 139) rfl rfl ?_
        refine x_ireturn rfl (Or.inl rfl) ⟨_, _, rfl, rfl, ?_⟩
        exact ⟨wo1, Or.inr ⟨_, hnone, by rw [hr2.2.2.2.2.2.2 (hk2b.2.2.2.mp h9)], ⟨by omega, by omega⟩, xCM_W d177 ⟨hk2b.1, ⟨by omega, by omega⟩, fun h => by have h8 := hr2.2.2.2.2.2.2 (hk2b.2.2.2.mp h); omega⟩ (xCM_mv hf3 (Int.le_refl _) (cCM 0 (Int.le_refl _)))⟩⟩
  have hB : ¬ (ki1 = 1 ∧ (xwd cs s e).isNone = false ∧ xfi (xwd cs s e) nms 0 = -1 ∧ xfi (xwd cs s e) selW 0 = -1 ∧ xfi (xwd cs s e) atW 0 = -1) → xz v0 xs u (fun o X => ∃ r f', o = .inl r ∧ X = (xh f', u) ∧ (fun r f' => ∃ W : Int64, (∃ b e' : Int, xG cs n nms bc dp 0 (0, 0, tm, oa, 0, 1) = .inr (b, e') ∧ r = some (xi (-1)) ∧ W = (Int64.ofInt (xwR (xwd cs (xtf cs n 0).2.1 (xtf cs n 0).2.2))) ∧ xMA K R0 (xGC K G cs n nms bc dp 0 (0, 0, tm, oa, 0, 1) xC0) n nms bc dp tk0 cd fa pa0 q (xu f 179 (.inr (.inr (.inl (nl.set 12 W))))) f' b e') ∨ (∃ z : Int, xG cs n nms bc dp 0 (0, 0, tm, oa, 0, 1) = .inl z ∧ r = some (xi z) ∧ (0 ≤ z ∧ z ≤ 100) ∧ xMW K R0 n nms bc dp tk0 cd fa q (xu f 179 (.inr (.inr (.inl (nl.set 12 W))))) f' z)) r f') 81 72 [(0, .ref 177)] [] f2 := fun hno => x_iconst rfl (hbad hno)
  have hsl := xfi_rg (wd := xwd cs s e) selW 0 (by decide)
  have hslen : (selW.length : Int) = 13 := rfl
  have hal := xfi_rg (wd := xwd cs s e) atW 0 (by decide)
  have halen : (atW.length : Int) = 7 := rfl
  have hol0 := xfi_rg (wd := xwd cs s e) nms 0 (by decide)
  refine x_aload_n rfl rfl ?_
  refine x_getfield rfl (by decide) b177 rfl ?_
  refine x_iconst rfl ?_
  refine x_cne (t := 72) rfl rfl ⟨by omega, by omega⟩ (by decide) (fun h => hB (fun h2 => h (hk.2.1.mpr h2.1))) (fun hk1b => ?_)
  have hki := hk.2.1.mp hk1b
  have hwo1 := hM.1 hki
  have hxo := (xTK_w hT hki).1
  refine x_aload_n rfl rfl ?_
  refine x_getfield rfl (by decide) b177 rfl ?_
  refine x_lconst rfl ?_
  refine x_lcmp rfl ?_
  have hneg : wo1 < Int64.ofNat ((0 : Fin 2) : Nat) ↔ (xwd cs s e).isNone = true := by
    rw [hwo1, Int64.lt_iff_toInt_lt]
    cases hwd : xwd cs s e with
    | none => simp [xwR]
    | some l =>
      have h8 := hxo l hwd
      have h9 := xpr_8 h8.2 h8.1
      have h7 : (Int64.ofInt (xwR (some l))).toInt = xpr l := Int64.toInt_ofInt_of_le (by simp only [xwR]; omega) (by simp only [xwR]; omega)
      rw [h7]
      have h6 : (Int64.ofNat ((0 : Fin 2) : Nat)).toInt = 0 := rfl
      rw [h6]
      simp
      omega
  refine x_llt (t := 72) rfl rfl (fun h => hB (fun h2 => by rw [hneg.mp h] at h2; exact absurd h2.2.1 (by decide))) (fun hge => ?_)
  have hsome : (xwd cs s e).isNone = false := by
    cases hx : (xwd cs s e).isNone with
    | false => rfl
    | true => exact absurd (hneg.mpr hx) hge
  refine x_aload_n rfl rfl ?_
  refine x_call [_] rfl rfl (show (0 : Nat) ≤ 8 from by decide) (show (1 : Nat) ≤ 3 from by decide) (x_rcv (by decide) b177) (xm_71 (Nat.zero_le _) b177 hT hM) (fun r' f9 hP => ?_)
  obtain ⟨rfl, hPe⟩ := hP
  subst hPe
  rw [if_pos hki]
  refine x_ifge (t := 72) rfl rfl ⟨by omega, by omega⟩ (fun h => hB (fun h2 => by omega)) (fun hx71 => ?_)
  refine x_aload_n rfl rfl ?_
  refine x_call [_] rfl rfl (show (0 : Nat) ≤ 8 from by decide) (show (1 : Nat) ≤ 3 from by decide) (x_rcv (by decide) b177) (xm_73 (Nat.zero_le _) b177 hT hM) (fun r' f9 hP => ?_)
  obtain ⟨rfl, hPe⟩ := hP
  subst hPe
  rw [if_pos hki]
  refine x_ifge (t := 72) rfl rfl ⟨by omega, by omega⟩ (fun h => hB (fun h2 => by omega)) (fun hx73 => ?_)
  refine x_aload_n rfl rfl ?_
  refine x_call [_] rfl rfl (show (0 : Nat) ≤ 8 from by decide) (show (1 : Nat) ≤ 3 from by decide) (x_rcv (by decide) b177) (xm_74 (Nat.zero_le _) b177 hT hM b179 hlen hcl rfl hw hnl hnd) (fun r' f9 hP => ?_)
  obtain ⟨rfl, hPe⟩ := hP
  subst hPe
  rw [if_pos hki]
  refine x_ifge (t := 72) rfl rfl ⟨by omega, by omega⟩ (fun h => hB (fun h2 => by omega)) (fun hx74 => ?_)
  refine x_iconst rfl ?_
  refine x_goto (t := 73) rfl rfl ?_
  exact hgood ⟨hki, hsome, by omega, by omega, by omega⟩
