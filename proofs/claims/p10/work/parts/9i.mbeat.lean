/-! The model reads beats and steps. -/
def xST (K : List (Int × Int)) (R0 : Nat → Int × Int) (C : xC) (cs : List Int) (n : Nat) (nms : List (List Int)) (bc dp tk0 : Nat → Int) (cd fa pa0 : Int) (q : Nat → Value) (f0 f : Nat → zE) (p : Nat) (op : Int) (tm oa : List Int) (m d : Int) : Prop := p ≤ n ∧ ∃ (ki : Int) (s e : Nat) (kM : Int) (wo : Int64) (nu pa : Int), f 177 = xmo cd (n : Nat) fa kM (s : Nat) (e : Nat) wo nu (nms.length : Nat) pa op q ∧ xTK cs n p ki s e ∧ xTM cs ki s e kM wo nu ∧ xCM K R0 C bc dp tk0 f0 f op tm oa m d (1024 * (p : Nat)) ∧ pa0 ≤ pa ∧ 6 * (pa - pa0) ≤ (p : Nat) ∧ pa = ((K ++ C.2.2.1).length : Nat)
def xMW (K : List (Int × Int)) (R0 : Nat → Int × Int) (n : Nat) (nms : List (List Int)) (bc dp tk0 : Nat → Int) (cd fa : Int) (q : Nat → Value) (f0 f : Nat → zE) (z : Int) : Prop := ∃ (kM en : Int) (wo : Int64) (nu pa op mt d : Int) (tmM oaM : List Int) (E : List (Int × Int)) (B : List xBt), f 177 = xmo cd (n : Nat) fa kM z en wo nu (nms.length : Nat) pa op q ∧ ((0 ≤ kM ∧ kM ≤ 4) ∧ (0 ≤ z ∧ z ≤ 100) ∧ (kM = 0 → z = (n : Nat))) ∧ xMD R0 B bc dp tk0 f mt d ∧ f 187 = xr 0 tmM ∧ f 188 = xr 0 oaM ∧ tmM.length = 3 ∧ oaM.length = 3 ∧ xMS K E f ∧ ∀ p, p ≠ 177 → p ≠ 180 → p ≠ 181 → p ≠ 182 → p ≠ 183 → p ≠ 184 → p ≠ 185 → p ≠ 186 → p ≠ 187 → p ≠ 188 → f p = f0 p
theorem xCM_W {K : List (Int × Int)} {R0 : Nat → Int × Int} {C : xC} {n : Nat} {nms : List (List Int)} {bc dp tk0 : Nat → Int} {cd fa kM be en nu pa op op2 : Int} {wo : Int64} {q : Nat → Value} {f0 f : Nat → zE} {tm oa : List Int} {m d B : Int} (h177 : f 177 = xmo cd (n : Nat) fa kM be en wo nu (nms.length : Nat) pa op q) (hkb : (0 ≤ kM ∧ kM ≤ 4) ∧ (0 ≤ be ∧ be ≤ 100) ∧ (kM = 0 → be = (n : Nat))) (h : xCM K R0 C bc dp tk0 f0 f op2 tm oa m d B) : xMW K R0 n nms bc dp tk0 cd fa q f0 f be := by
  obtain ⟨k1, k2, k3, k4, mt, tmM, oaM, k5, k6, k7, k8, k9, k10, -⟩ := h
  exact ⟨_, _, _, _, _, _, mt, d, tmM, oaM, _, _, h177, hkb, k5, k7, k8, k9, k10, k3, k4⟩
theorem xfi_mem {wd : Option (List Int)} : ∀ {l : List (List Int)} {i : Int}, 0 ≤ i → 0 ≤ xfi wd l i → ∃ w ∈ l, wd = some w := by
  intro l
  induction l with
  | nil => intro i _ h; exact absurd h (by simp [xfi])
  | cons w r ih =>
    intro i hi h
    simp only [xfi] at h
    split at h
    · rename_i he
      exact ⟨w, by simp, he⟩
    · obtain ⟨v, h1, h2⟩ := ih (by omega) h
      exact ⟨v, by simp [h1], h2⟩
theorem xwd_len {cs : List Int} {s e : Nat} {w : List Int} (h : xwd cs s e = some w) : w.length = e - s := by
  unfold xwd at h
  split at h
  · cases h
  · cases h; simp [xds]
theorem selW_3 : ∀ w ∈ selW, 3 ≤ w.length := by decide
theorem atW_2 : ∀ w ∈ atW, 2 ≤ w.length := by decide
/-- two words are parted -/
theorem xTK_gap {cs : List Int} {n p s e s2 e2 : Nat} {ki ki2 : Int} (hT : xTK cs n p ki s e) (h : ki = 1) (hT2 : xTK cs n e ki2 s2 e2) (h2 : ki2 = 1) : e + 1 ≤ s2 := by
  obtain ⟨-, he, hs⟩ := xTK_w hT h
  have h3 : e ≤ s2 := by rw [hT2.1]; exact xskip_ge
  by_cases hne : s2 = e
  · exfalso
    have hl2 : s2 < n ∧ xlt (cs.getD s2 0) = true := by
      rcases hT2.2 with ⟨-, h1, -⟩ | ⟨a, b, -⟩ | ⟨-, -, -, h1, -⟩ | ⟨-, -, -, h1, -⟩
      · omega
      · exact ⟨a, b⟩
      · omega
      · omega
    have h4 := xskip_stop (P := xlt) (cs := cs) (n := n) (p := s) (by rw [← he, ← hne]; exact hl2.1)
    rw [← he, ← hne, hl2.2] at h4
    cases h4
  · omega
theorem xs_77l {K : List (Int × Int)} {R0 : Nat → Int × Int} {G : Nat → List xBt} {Cf : xC} {v0 : Value} {xs : List Int32} {u : Nat × Nat} {f0 : Nat → zE} {n : Nat} {cs : List Int} {nms : List (List Int)} {nl : List Int64} {bc dp tk0 : Nat → Int} {cd fa pa0 op m d : Int} {q : Nat → Value} {tm oa : List Int} {p0 : Nat} {fr : Int} {G0 : Int ⊕ (Int × Int)} (hn : n ≤ 100) (hl : cs.length = 100) (hcs : ∀ j : Nat, 0 ≤ cs.getD j 0 ∧ cs.getD j 0 ≤ 126) (h179 : f0 179 = .inr (.inr (.inl nl))) (hlen : nl.length = 13) (hcl : nms.length ≤ 12) (hw : ∀ w ∈ nms, xwf w) (hnl : ∀ k, k < nms.length → nl.getD k 0 = Int64.ofInt (xpr (nms.getD k []))) (hnd : nms.Nodup) (hns : ∀ w ∈ nms, w ∉ selW) (hbc : ∀ i, i < nms.length → 0 ≤ bc i ∧ bc i ≤ 16) (hdp : ∀ i, i < nms.length → 1 ≤ dp i ∧ dp i ≤ 6) (htk : ∀ i, i < nms.length → ∀ k : Nat, (k : Int) < bc i → 0 ≤ tk0 (16 * i + k) ∧ tk0 (16 * i + k) ≤ k) (hpa0 : 0 ≤ pa0 ∧ pa0 ≤ 192) (h178 : f0 178 = xr 1 cs) (hfr : 0 ≤ fr ∧ fr ≤ 224) : ∀ (w p : Nat) (C : xC) (f : Nat → zE) (lv : zL), n ≤ w + p → zlv lv 0 = some (.ref 177) → zlv lv 1 = some (xi fr) → zlv lv 2 = some (xi 1) → xG cs n nms bc dp p (4, op, tm, oa, m, d) = G0 → xGC K G cs n nms bc dp p (4, op, tm, oa, m, d) C = Cf → C.1 = fr → p0 ≤ p → xST K R0 C cs n nms bc dp tk0 cd fa pa0 q f0 f p op tm oa m d → xz v0 xs u (fun o X => ∃ r f', o = .inl r ∧ X = (xh f', u) ∧ (fun r f' => (r = some (xi 0) ∧ ∃ z : Int, G0 = .inl z ∧ xMW K R0 n nms bc dp tk0 cd fa q f0 f' z) ∨ (r = some (xi 1) ∧ ∃ (p' : Nat) (C' : xC), p0 < p' ∧ G0 = xG cs n nms bc dp p' (7, op, tm, oa, min (m + 1) 17, d) ∧ Cf = xGC K G cs n nms bc dp p' (7, op, tm, oa, min (m + 1) 17, d) C' ∧ xST K R0 C' cs n nms bc dp tk0 cd fa pa0 q f0 f' p' op tm oa (min (m + 1) 17) d)) r f') 77 7 lv [] f := by
  intro w
  induction w with
  | zero =>
    intro p C f lv hwp l0 l1 l2 hG hGc hC1 hp0 hst
    obtain ⟨hp, ki, s, e, kM, wo, nu, pa, h177, hT, hM, hC, hpa1, hpa2, hpl⟩ := hst
    have hr := xTK_rg hT hp
    have hk := xTM_k hp hT hM
    have hC0 := hC
    obtain ⟨c1, c2, c3, c4, -⟩ := hC0
    have f178 := (c4 178 (by decide) (by decide) (by decide) (by decide) (by decide) (by decide) (by decide) (by decide) (by decide) (by decide)).trans h178
    have hsl := xfi_rg (wd := xwd cs s e) selW 0 (by decide)
    have hslen : (selW.length : Int) = 13 := rfl
    refine x_iload_n rfl l2 ?_
    refine x_ifeq (t := 84) rfl rfl (by decide) (fun h => absurd h (by decide)) (fun _ => ?_)
    refine x_aload_n rfl l0 ?_
    refine x_call [_] rfl rfl (show (0 : Nat) ≤ 8 from by decide) (show (1 : Nat) ≤ 3 from by decide) (x_rcv (by decide) h177) (xm_71 hp h177 hT hM) (fun r' f' hP => ?_)
    obtain ⟨rfl, rfl⟩ := hP
    refine x_istore_n rfl (show (3 : Nat) < 5 from by decide) ?_
    refine x_iload_n rfl xst_eq ?_
    refine x_ifge (t := 22) rfl rfl (by split <;> omega) (fun hsel => ?_) (fun hno => ?_)
    rotate_left
    · refine x_iconst rfl ?_
      refine x_ireturn rfl (Or.inr (Or.inl ⟨rfl, by decide⟩)) ⟨_, _, rfl, rfl, ?_⟩
      refine Or.inl ⟨rfl, ((s : Nat) : Int), ?_, xCM_W h177 ⟨hk.1, ⟨by omega, by omega⟩, fun h => by have h9 := hr.2.2.2.2.2.2 (hk.2.2.2.mp h); omega⟩ hC⟩
      rw [← hG]
      refine xG_n hp hT (fun _ => by simp [xfin]) (fun _ => ?_)
      unfold xtq
      simp only [xstep]
      rw [if_neg]
      intro h
      rw [if_pos h.1] at hno
      omega
    have hk1 : ki = 1 := by
      by_cases h : ki = 1
      · exact h
      · rw [if_neg h] at hsel; omega
    rw [if_pos hk1] at hsel
    rw [if_pos hk1]
    have hse := hr.2.2.2.2.2.1 (by omega)
    obtain ⟨ws, hws, hwe⟩ := xfi_mem (by decide) hsel
    have hl3 := selW_3 ws hws
    rw [xwd_len hwe] at hl3
    have g1 : xG cs n nms bc dp p (4, op, tm, oa, m, d) = xG cs n nms bc dp e (5, op, tm, oa, m, d) := xG_s hp hT (by omega) (by unfold xtq; simp only [xstep]; rw [if_pos ⟨hk1, by omega⟩])
    have g1c : xGC K G cs n nms bc dp p (4, op, tm, oa, m, d) C = xGC K G cs n nms bc dp e (5, op, tm, oa, m, d) (C.1, xfi (xwd cs s e) selW 0, C.2.2.1, C.2.2.2) := xGC_s hp hT (by omega) (by unfold xtq; simp only [xstep]; rw [if_pos ⟨hk1, by omega⟩]) (by unfold xtc; simp only [xcst]; rw [if_pos hk1])
    refine x_aload_n rfl (xst_ne (by decide) l0 (Or.inl rfl)) ?_
    refine x_call [_] rfl rfl (show (0 : Nat) ≤ 8 from by decide) (show (1 : Nat) ≤ 2 from by decide) (x_rcv (by decide) h177) (xs_69 (p0 := e) h177 f178 hn hl hcs hr.2.2.2.1) (fun r' f1 hP => ?_)
    obtain ⟨rfl, ⟨ki2, s2, e2, kM2, wo2, nu2, h177b, hT2, hM2⟩, hf1⟩ := hP
    have hr2 := xTK_rg hT2 hr.2.2.2.1
    have hal := xfi_rg (wd := xwd cs s2 e2) atW 0 (by decide)
    have halen : (atW.length : Int) = 7 := rfl
    refine x_aload_n rfl (xst_ne (by decide) l0 (Or.inl rfl)) ?_
    refine x_call [_] rfl rfl (show (0 : Nat) ≤ 8 from by decide) (show (1 : Nat) ≤ 3 from by decide) (x_rcv (by decide) h177b) (xm_73 hr.2.2.2.1 h177b hT2 hM2) (fun r' f' hP => ?_)
    obtain ⟨rfl, rfl⟩ := hP
    refine x_istore rfl (show (4 : Nat) < 5 from by decide) ?_
    refine x_iload rfl xst_eq ?_
    refine x_ifge (t := 39) rfl rfl (by split <;> omega) (fun hat => ?_) (fun hno => ?_)
    rotate_left
    · refine x_iconst rfl ?_
      refine x_ireturn rfl (Or.inr (Or.inl ⟨rfl, by decide⟩)) ⟨_, _, rfl, rfl, ?_⟩
      refine Or.inl ⟨rfl, ((s2 : Nat) : Int), ?_, xCM_W h177b ⟨(xTM_k hr.2.2.2.1 hT2 hM2).1, ⟨by omega, by omega⟩, fun h => by have h9 := hr2.2.2.2.2.2.2 ((xTM_k hr.2.2.2.1 hT2 hM2).2.2.2.mp h); omega⟩ (xCM_mv hf1 (Int.le_refl _) hC)⟩
      rw [← hG, g1]
      refine xG_n hr.2.2.2.1 hT2 (fun _ => by simp [xfin]) (fun _ => ?_)
      unfold xtq
      simp only [xstep]
      rw [if_neg]
      intro h
      rw [if_pos h.1] at hno
      omega
    have hk2 : ki2 = 1 := by
      by_cases h : ki2 = 1
      · exact h
      · rw [if_neg h] at hat; omega
    rw [if_pos hk2] at hat
    rw [if_pos hk2]
    have hgap := xTK_gap hT hk1 hT2 hk2
    obtain ⟨wa, hwa, hwae⟩ := xfi_mem (by decide) hat
    have hl2 := atW_2 wa hwa
    rw [xwd_len hwae] at hl2
    have g2 : xG cs n nms bc dp e (5, op, tm, oa, m, d) = xG cs n nms bc dp e2 (6, op, tm, oa, m, d) := xG_s hr.2.2.2.1 hT2 (by omega) (by unfold xtq; simp only [xstep]; rw [if_pos ⟨hk2, by omega⟩])
    have g2c : xGC K G cs n nms bc dp e (5, op, tm, oa, m, d) (C.1, xfi (xwd cs s e) selW 0, C.2.2.1, C.2.2.2) = xGC K G cs n nms bc dp e2 (6, op, tm, oa, m, d) (C.1, xfi (xwd cs s e) selW 0, (C.2.2.1 ++ [(xfi (xwd cs s e) selW 0, xfi (xwd cs s2 e2) atW 0)]), C.2.2.2) := xGC_s hr.2.2.2.1 hT2 (by omega) (by unfold xtq; simp only [xstep]; rw [if_pos ⟨hk2, by omega⟩]) (by unfold xtc; simp only [xcst]; rw [if_pos hk2])
    refine x_aload_n rfl (xst_ne (by decide) (xst_ne (by decide) l0 (Or.inl rfl)) (Or.inl rfl)) ?_
    refine x_call [_] rfl rfl (show (0 : Nat) ≤ 8 from by decide) (show (1 : Nat) ≤ 2 from by decide) (x_rcv (by decide) h177b) (xs_69 (p0 := e2) h177b ((hf1 178 (by decide)).trans f178) hn hl hcs hr2.2.2.2.1) (fun r' f2 hP => ?_)
    obtain ⟨rfl, ⟨ki3, s3, e3, kM3, wo3, nu3, h177c, hT3, hM3⟩, hf2⟩ := hP
    have hr3 := xTK_rg hT3 hr2.2.2.2.1
    have hC2 := xCM_mv (B' := 1024 * ((p : Nat) : Int)) (fun p hp => (hf2 p hp).trans (hf1 p hp)) (Int.le_refl _) hC
    have hC3 := hC2
    obtain ⟨-, -, ⟨se, at', m185, m186, ml1, ml2, mh1, mh2, mc⟩, c4b, mt, tmM, oaM, k5, k6, k7, k8, k9, k10, k11, k12, k13⟩ := hC3
    have hmt := xphi_m c1 k12
    have hmt0 := k12.1
    refine x_aload_n rfl (xst_ne (by decide) (xst_ne (by decide) l0 (Or.inl rfl)) (Or.inl rfl)) ?_
    refine x_getfield rfl (by decide) h177c rfl ?_
    refine x_aload_n rfl (xst_ne (by decide) (xst_ne (by decide) l0 (Or.inl rfl)) (Or.inl rfl)) ?_
    refine x_getfield rfl (by decide) h177c rfl ?_
    refine x_iload_n rfl (xst_ne (by decide) xst_eq (Or.inl rfl)) ?_
    refine x_iastore rfl (by decide) m185 ⟨by omega, by omega⟩ (by omega) ?_
    refine x_aload_n rfl (xst_ne (by decide) (xst_ne (by decide) l0 (Or.inl rfl)) (Or.inl rfl)) ?_
    refine x_getfield rfl (by decide) (xu_ne (by decide) h177c) rfl ?_
    refine x_aload_n rfl (xst_ne (by decide) (xst_ne (by decide) l0 (Or.inl rfl)) (Or.inl rfl)) ?_
    refine x_getfield rfl (by decide) (xu_ne (by decide) h177c) rfl ?_
    refine x_iload rfl xst_eq ?_
    refine x_iastore rfl (by decide) (xu_ne (by decide) m186) ⟨by omega, by omega⟩ (by omega) ?_
    refine x_aload_n rfl (xst_ne (by decide) (xst_ne (by decide) l0 (Or.inl rfl)) (Or.inl rfl)) ?_
    refine x_dup rfl ?_
    refine x_getfield rfl (by decide) (xu_ne (by decide) (xu_ne (by decide) h177c)) rfl ?_
    refine x_iconst rfl ?_
    refine x_iadd rfl ?_
    refine x_putfield rfl (by decide) (xu_ne (by decide) (xu_ne (by decide) h177c)) (show (16 : Nat) < 41 from by decide) rfl ?_
    generalize hgf : xu (xu (xu f2 185 (xr 0 (se.set pa.toNat (xfi (xwd cs s e) selW 0)))) 186 (xr 0 (at'.set pa.toNat (xfi (xwd cs s2 e2) atW 0)))) 177 _ = f3
    have d177 : f3 177 = xmo cd (n : Nat) fa kM3 (s3 : Nat) (e3 : Nat) wo3 nu3 (nms.length : Nat) (pa + 1) op q := by rw [← hgf]; exact xu_eq
    have dfr : ∀ p, p ≠ 177 → p ≠ 185 → p ≠ 186 → f3 p = f2 p := fun p a1 a2 a3 => by rw [← hgf]; exact xu_ne a1 (xu_ne a3 (xu_ne a2 rfl))
    have dMS : xMS K (C.2.2.1 ++ [(xfi (xwd cs s e) selW 0, xfi (xwd cs s2 e2) atW 0)]) f3 := by
      refine ⟨_, _, by rw [← hgf]; exact xu_ne (by decide) (xu_ne (by decide) xu_eq), by rw [← hgf]; exact xu_ne (by decide) xu_eq, by rw [List.length_set]; exact ml1, by rw [List.length_set]; exact ml2, fun j => ?_, fun j => ?_, fun j hj => ?_⟩
      · rw [x_gset]; split
        · omega
        · exact mh1 j
      · rw [x_gset]; split
        · omega
        · exact mh2 j
      · rw [← List.append_assoc, List.length_append, List.length_singleton] at hj
        rw [x_gset, x_gset, ← List.append_assoc]
        by_cases e9 : pa.toNat = j
        · rw [if_pos ⟨e9, by omega⟩, if_pos ⟨e9, by omega⟩, List.getD_eq_getElem?_getD, List.getElem?_append_right (by omega), show j - (K ++ C.2.2.1).length = 0 by omega]
          rfl
        · rw [if_neg (fun h => e9 h.1), if_neg (fun h => e9 h.1), mc j (by omega), List.getD_eq_getElem?_getD, List.getD_eq_getElem?_getD, List.getElem?_append_left (l₁ := K ++ C.2.2.1) (by omega)]
    have hpl2 : pa + 1 = ((K ++ (C.2.2.1 ++ [(xfi (xwd cs s e) selW 0, xfi (xwd cs s2 e2) atW 0)])).length : Nat) := by rw [← List.append_assoc, List.length_append, List.length_singleton]; omega
    have dMD : xMD R0 C.2.2.2 bc dp tk0 f3 mt d := xMD_mv (fun p p1 p2 => dfr p (by omega) (by omega) (by omega)) k5
    have dC : xCM K R0 (C.1, xfi (xwd cs s e) selW 0, (C.2.2.1 ++ [(xfi (xwd cs s e) selW 0, xfi (xwd cs s2 e2) atW 0)]), C.2.2.2) bc dp tk0 f0 f3 op tm oa m d (1024 * ((e2 : Nat) : Int)) := ⟨c1, c2, dMS, fun p a1 a2 a3 a4 a5 a6 a7 a8 a9 a10 => (dfr p a1 a7 a8).trans (c4b p a1 a2 a3 a4 a5 a6 a7 a8 a9 a10), mt, tmM, oaM, dMD, k6, (dfr 187 (by decide) (by decide) (by decide)).trans k7, (dfr 188 (by decide) (by decide) (by decide)).trans k8, k9, k10, k11, k12, by omega⟩
    have d178 : f3 178 = xr 1 cs := (dfr 178 (by decide) (by decide) (by decide)).trans ((hf2 178 (by decide)).trans ((hf1 178 (by decide)).trans f178))
    refine x_aload_n rfl (xst_ne (by decide) (xst_ne (by decide) l0 (Or.inl rfl)) (Or.inl rfl)) ?_
    refine x_bipush rfl (by decide) ?_
    by_cases hcm : ki3 = 3 ∧ cs.getD s3 0 = 44
    · skip
      refine x_call [_, _] rfl rfl (show (0 : Nat) ≤ 8 from by decide) (show (2 : Nat) ≤ 3 from by decide) (x_rcv (by decide) d177) (xs_75t d177 d178 hn hl hcs hr2.2.2.2.1 hT3 hM3 (by unfold xsgn; omega) hcm) (fun r' f4 hP => ?_)
      obtain ⟨rfl, ⟨ki4, s4, e4, kM4, wo4, nu4, h177d, hT4, hM4⟩, hf4⟩ := hP
      have hse3 := hr3.2.2.2.2.2.1 (by omega)
      refine x_istore_n rfl (show (2 : Nat) < 5 from by decide) ?_
      refine x_goto (t := 7) rfl rfl ?_
      exfalso; omega
    · skip
      refine x_call [_, _] rfl rfl (show (0 : Nat) ≤ 8 from by decide) (show (2 : Nat) ≤ 3 from by decide) (x_rcv (by decide) d177) (xs_75f d177 d178 hn hl hcs hr2.2.2.2.1 hT3 hM3 (by unfold xsgn; omega) hcm) (fun r' f4 hP => ?_)
      obtain ⟨rfl, rfl⟩ := hP
      refine x_istore_n rfl (show (2 : Nat) < 5 from by decide) ?_
      refine x_goto (t := 7) rfl rfl ?_
      refine x_iload_n rfl xst_eq ?_
      refine x_ifeq (t := 84) rfl rfl (by decide) (fun _ => ?_) (fun h => absurd rfl h)
      refine x_aload_n rfl (xst_ne (by decide) (xst_ne (by decide) (xst_ne (by decide) l0 (Or.inl rfl)) (Or.inl rfl)) (Or.inl rfl)) ?_
      refine x_iconst rfl ?_
      refine x_iload_n rfl (xst_ne (by decide) (xst_ne (by decide) (xst_ne (by decide) l1 (Or.inl rfl)) (Or.inl rfl)) (Or.inl rfl)) ?_
      refine x_aload_n rfl (xst_ne (by decide) (xst_ne (by decide) (xst_ne (by decide) l0 (Or.inl rfl)) (Or.inl rfl)) (Or.inl rfl)) ?_
      refine x_getfield rfl (by decide) d177 rfl ?_
      refine x_call [_, _, _, _] rfl rfl (show (0 : Nat) ≤ 8 from by decide) (show (4 : Nat) ≤ 4 from by decide) (x_rcv (by decide) d177) (xs_76 d177 (by omega) dMD ⟨by omega, fun _ => by omega⟩ hfr ⟨by omega, by omega⟩) (fun r' f5 hP => ?_)
      obtain ⟨rfl, hQ1, hQ2⟩ := hP
      refine x_iconst rfl ?_
      refine x_ireturn rfl (Or.inr (Or.inl ⟨rfl, by decide⟩)) ⟨_, _, rfl, rfl, ?_⟩
      have hcap : C.2.2.2 ++ [(fr, pa + 1, -1)] = (xcap K (C.1, xfi (xwd cs s e) selW 0, (C.2.2.1 ++ [(xfi (xwd cs s e) selW 0, xfi (xwd cs s2 e2) atW 0)]), C.2.2.2)).2.2.2 := by
        show _ = C.2.2.2 ++ [(C.1, ((K ++ (C.2.2.1 ++ [(xfi (xwd cs s e) selW 0, xfi (xwd cs s2 e2) atW 0)])).length : Int), -1)]
        rw [hC1, hpl2]
      have hadd := xphi_add (b := 1) (m := mt) (oa := oaM) c1 (by decide)
      refine Or.inr ⟨rfl, e2, xcap K (C.1, xfi (xwd cs s e) selW 0, (C.2.2.1 ++ [(xfi (xwd cs s e) selW 0, xfi (xwd cs s2 e2) atW 0)]), C.2.2.2), by omega, by rw [← hG, g1, g2]; exact xG_67 hr2.2.2.2.1 hT3 hcm, by rw [← hGc, g1c, g2c]; exact xGC_67 hr2.2.2.2.1 hT3 hcm, hr2.2.2.2.1, ki3, s3, e3, kM3, wo3, nu3, pa + 1, (hQ2 177 (by decide) (by decide) (by decide) (by decide)).trans d177, hT3, hM3, ⟨c1, c2, xMS_mv (hQ2 185 (by decide) (by decide) (by decide) (by decide)) (hQ2 186 (by decide) (by decide) (by decide) (by decide)) dMS, fun p a1 a2 a3 a4 a5 a6 a7 a8 a9 a10 => (hQ2 p a2 a4 a5 a6).trans ((dfr p a1 a7 a8).trans (c4b p a1 a2 a3 a4 a5 a6 a7 a8 a9 a10)), mt + 1, tmM, oaM, by rw [← hcap]; exact hQ1, by omega, (hQ2 187 (by decide) (by decide) (by decide) (by decide)).trans ((dfr 187 (by decide) (by decide) (by decide)).trans k7), (hQ2 188 (by decide) (by decide) (by decide) (by decide)).trans ((dfr 188 (by decide) (by decide) (by decide)).trans k8), k9, k10, k11, xchain_add (by decide) k12, ?_⟩, by omega, by omega, hpl2⟩
      omega
  | succ w ih =>
    intro p C f lv hwp l0 l1 l2 hG hGc hC1 hp0 hst
    obtain ⟨hp, ki, s, e, kM, wo, nu, pa, h177, hT, hM, hC, hpa1, hpa2, hpl⟩ := hst
    have hr := xTK_rg hT hp
    have hk := xTM_k hp hT hM
    have hC0 := hC
    obtain ⟨c1, c2, c3, c4, -⟩ := hC0
    have f178 := (c4 178 (by decide) (by decide) (by decide) (by decide) (by decide) (by decide) (by decide) (by decide) (by decide) (by decide)).trans h178
    have hsl := xfi_rg (wd := xwd cs s e) selW 0 (by decide)
    have hslen : (selW.length : Int) = 13 := rfl
    refine x_iload_n rfl l2 ?_
    refine x_ifeq (t := 84) rfl rfl (by decide) (fun h => absurd h (by decide)) (fun _ => ?_)
    refine x_aload_n rfl l0 ?_
    refine x_call [_] rfl rfl (show (0 : Nat) ≤ 8 from by decide) (show (1 : Nat) ≤ 3 from by decide) (x_rcv (by decide) h177) (xm_71 hp h177 hT hM) (fun r' f' hP => ?_)
    obtain ⟨rfl, rfl⟩ := hP
    refine x_istore_n rfl (show (3 : Nat) < 5 from by decide) ?_
    refine x_iload_n rfl xst_eq ?_
    refine x_ifge (t := 22) rfl rfl (by split <;> omega) (fun hsel => ?_) (fun hno => ?_)
    rotate_left
    · refine x_iconst rfl ?_
      refine x_ireturn rfl (Or.inr (Or.inl ⟨rfl, by decide⟩)) ⟨_, _, rfl, rfl, ?_⟩
      refine Or.inl ⟨rfl, ((s : Nat) : Int), ?_, xCM_W h177 ⟨hk.1, ⟨by omega, by omega⟩, fun h => by have h9 := hr.2.2.2.2.2.2 (hk.2.2.2.mp h); omega⟩ hC⟩
      rw [← hG]
      refine xG_n hp hT (fun _ => by simp [xfin]) (fun _ => ?_)
      unfold xtq
      simp only [xstep]
      rw [if_neg]
      intro h
      rw [if_pos h.1] at hno
      omega
    have hk1 : ki = 1 := by
      by_cases h : ki = 1
      · exact h
      · rw [if_neg h] at hsel; omega
    rw [if_pos hk1] at hsel
    rw [if_pos hk1]
    have hse := hr.2.2.2.2.2.1 (by omega)
    obtain ⟨ws, hws, hwe⟩ := xfi_mem (by decide) hsel
    have hl3 := selW_3 ws hws
    rw [xwd_len hwe] at hl3
    have g1 : xG cs n nms bc dp p (4, op, tm, oa, m, d) = xG cs n nms bc dp e (5, op, tm, oa, m, d) := xG_s hp hT (by omega) (by unfold xtq; simp only [xstep]; rw [if_pos ⟨hk1, by omega⟩])
    have g1c : xGC K G cs n nms bc dp p (4, op, tm, oa, m, d) C = xGC K G cs n nms bc dp e (5, op, tm, oa, m, d) (C.1, xfi (xwd cs s e) selW 0, C.2.2.1, C.2.2.2) := xGC_s hp hT (by omega) (by unfold xtq; simp only [xstep]; rw [if_pos ⟨hk1, by omega⟩]) (by unfold xtc; simp only [xcst]; rw [if_pos hk1])
    refine x_aload_n rfl (xst_ne (by decide) l0 (Or.inl rfl)) ?_
    refine x_call [_] rfl rfl (show (0 : Nat) ≤ 8 from by decide) (show (1 : Nat) ≤ 2 from by decide) (x_rcv (by decide) h177) (xs_69 (p0 := e) h177 f178 hn hl hcs hr.2.2.2.1) (fun r' f1 hP => ?_)
    obtain ⟨rfl, ⟨ki2, s2, e2, kM2, wo2, nu2, h177b, hT2, hM2⟩, hf1⟩ := hP
    have hr2 := xTK_rg hT2 hr.2.2.2.1
    have hal := xfi_rg (wd := xwd cs s2 e2) atW 0 (by decide)
    have halen : (atW.length : Int) = 7 := rfl
    refine x_aload_n rfl (xst_ne (by decide) l0 (Or.inl rfl)) ?_
    refine x_call [_] rfl rfl (show (0 : Nat) ≤ 8 from by decide) (show (1 : Nat) ≤ 3 from by decide) (x_rcv (by decide) h177b) (xm_73 hr.2.2.2.1 h177b hT2 hM2) (fun r' f' hP => ?_)
    obtain ⟨rfl, rfl⟩ := hP
    refine x_istore rfl (show (4 : Nat) < 5 from by decide) ?_
    refine x_iload rfl xst_eq ?_
    refine x_ifge (t := 39) rfl rfl (by split <;> omega) (fun hat => ?_) (fun hno => ?_)
    rotate_left
    · refine x_iconst rfl ?_
      refine x_ireturn rfl (Or.inr (Or.inl ⟨rfl, by decide⟩)) ⟨_, _, rfl, rfl, ?_⟩
      refine Or.inl ⟨rfl, ((s2 : Nat) : Int), ?_, xCM_W h177b ⟨(xTM_k hr.2.2.2.1 hT2 hM2).1, ⟨by omega, by omega⟩, fun h => by have h9 := hr2.2.2.2.2.2.2 ((xTM_k hr.2.2.2.1 hT2 hM2).2.2.2.mp h); omega⟩ (xCM_mv hf1 (Int.le_refl _) hC)⟩
      rw [← hG, g1]
      refine xG_n hr.2.2.2.1 hT2 (fun _ => by simp [xfin]) (fun _ => ?_)
      unfold xtq
      simp only [xstep]
      rw [if_neg]
      intro h
      rw [if_pos h.1] at hno
      omega
    have hk2 : ki2 = 1 := by
      by_cases h : ki2 = 1
      · exact h
      · rw [if_neg h] at hat; omega
    rw [if_pos hk2] at hat
    rw [if_pos hk2]
    have hgap := xTK_gap hT hk1 hT2 hk2
    obtain ⟨wa, hwa, hwae⟩ := xfi_mem (by decide) hat
    have hl2 := atW_2 wa hwa
    rw [xwd_len hwae] at hl2
    have g2 : xG cs n nms bc dp e (5, op, tm, oa, m, d) = xG cs n nms bc dp e2 (6, op, tm, oa, m, d) := xG_s hr.2.2.2.1 hT2 (by omega) (by unfold xtq; simp only [xstep]; rw [if_pos ⟨hk2, by omega⟩])
    have g2c : xGC K G cs n nms bc dp e (5, op, tm, oa, m, d) (C.1, xfi (xwd cs s e) selW 0, C.2.2.1, C.2.2.2) = xGC K G cs n nms bc dp e2 (6, op, tm, oa, m, d) (C.1, xfi (xwd cs s e) selW 0, (C.2.2.1 ++ [(xfi (xwd cs s e) selW 0, xfi (xwd cs s2 e2) atW 0)]), C.2.2.2) := xGC_s hr.2.2.2.1 hT2 (by omega) (by unfold xtq; simp only [xstep]; rw [if_pos ⟨hk2, by omega⟩]) (by unfold xtc; simp only [xcst]; rw [if_pos hk2])
    refine x_aload_n rfl (xst_ne (by decide) (xst_ne (by decide) l0 (Or.inl rfl)) (Or.inl rfl)) ?_
    refine x_call [_] rfl rfl (show (0 : Nat) ≤ 8 from by decide) (show (1 : Nat) ≤ 2 from by decide) (x_rcv (by decide) h177b) (xs_69 (p0 := e2) h177b ((hf1 178 (by decide)).trans f178) hn hl hcs hr2.2.2.2.1) (fun r' f2 hP => ?_)
    obtain ⟨rfl, ⟨ki3, s3, e3, kM3, wo3, nu3, h177c, hT3, hM3⟩, hf2⟩ := hP
    have hr3 := xTK_rg hT3 hr2.2.2.2.1
    have hC2 := xCM_mv (B' := 1024 * ((p : Nat) : Int)) (fun p hp => (hf2 p hp).trans (hf1 p hp)) (Int.le_refl _) hC
    have hC3 := hC2
    obtain ⟨-, -, ⟨se, at', m185, m186, ml1, ml2, mh1, mh2, mc⟩, c4b, mt, tmM, oaM, k5, k6, k7, k8, k9, k10, k11, k12, k13⟩ := hC3
    have hmt := xphi_m c1 k12
    have hmt0 := k12.1
    refine x_aload_n rfl (xst_ne (by decide) (xst_ne (by decide) l0 (Or.inl rfl)) (Or.inl rfl)) ?_
    refine x_getfield rfl (by decide) h177c rfl ?_
    refine x_aload_n rfl (xst_ne (by decide) (xst_ne (by decide) l0 (Or.inl rfl)) (Or.inl rfl)) ?_
    refine x_getfield rfl (by decide) h177c rfl ?_
    refine x_iload_n rfl (xst_ne (by decide) xst_eq (Or.inl rfl)) ?_
    refine x_iastore rfl (by decide) m185 ⟨by omega, by omega⟩ (by omega) ?_
    refine x_aload_n rfl (xst_ne (by decide) (xst_ne (by decide) l0 (Or.inl rfl)) (Or.inl rfl)) ?_
    refine x_getfield rfl (by decide) (xu_ne (by decide) h177c) rfl ?_
    refine x_aload_n rfl (xst_ne (by decide) (xst_ne (by decide) l0 (Or.inl rfl)) (Or.inl rfl)) ?_
    refine x_getfield rfl (by decide) (xu_ne (by decide) h177c) rfl ?_
    refine x_iload rfl xst_eq ?_
    refine x_iastore rfl (by decide) (xu_ne (by decide) m186) ⟨by omega, by omega⟩ (by omega) ?_
    refine x_aload_n rfl (xst_ne (by decide) (xst_ne (by decide) l0 (Or.inl rfl)) (Or.inl rfl)) ?_
    refine x_dup rfl ?_
    refine x_getfield rfl (by decide) (xu_ne (by decide) (xu_ne (by decide) h177c)) rfl ?_
    refine x_iconst rfl ?_
    refine x_iadd rfl ?_
    refine x_putfield rfl (by decide) (xu_ne (by decide) (xu_ne (by decide) h177c)) (show (16 : Nat) < 41 from by decide) rfl ?_
    generalize hgf : xu (xu (xu f2 185 (xr 0 (se.set pa.toNat (xfi (xwd cs s e) selW 0)))) 186 (xr 0 (at'.set pa.toNat (xfi (xwd cs s2 e2) atW 0)))) 177 _ = f3
    have d177 : f3 177 = xmo cd (n : Nat) fa kM3 (s3 : Nat) (e3 : Nat) wo3 nu3 (nms.length : Nat) (pa + 1) op q := by rw [← hgf]; exact xu_eq
    have dfr : ∀ p, p ≠ 177 → p ≠ 185 → p ≠ 186 → f3 p = f2 p := fun p a1 a2 a3 => by rw [← hgf]; exact xu_ne a1 (xu_ne a3 (xu_ne a2 rfl))
    have dMS : xMS K (C.2.2.1 ++ [(xfi (xwd cs s e) selW 0, xfi (xwd cs s2 e2) atW 0)]) f3 := by
      refine ⟨_, _, by rw [← hgf]; exact xu_ne (by decide) (xu_ne (by decide) xu_eq), by rw [← hgf]; exact xu_ne (by decide) xu_eq, by rw [List.length_set]; exact ml1, by rw [List.length_set]; exact ml2, fun j => ?_, fun j => ?_, fun j hj => ?_⟩
      · rw [x_gset]; split
        · omega
        · exact mh1 j
      · rw [x_gset]; split
        · omega
        · exact mh2 j
      · rw [← List.append_assoc, List.length_append, List.length_singleton] at hj
        rw [x_gset, x_gset, ← List.append_assoc]
        by_cases e9 : pa.toNat = j
        · rw [if_pos ⟨e9, by omega⟩, if_pos ⟨e9, by omega⟩, List.getD_eq_getElem?_getD, List.getElem?_append_right (by omega), show j - (K ++ C.2.2.1).length = 0 by omega]
          rfl
        · rw [if_neg (fun h => e9 h.1), if_neg (fun h => e9 h.1), mc j (by omega), List.getD_eq_getElem?_getD, List.getD_eq_getElem?_getD, List.getElem?_append_left (l₁ := K ++ C.2.2.1) (by omega)]
    have hpl2 : pa + 1 = ((K ++ (C.2.2.1 ++ [(xfi (xwd cs s e) selW 0, xfi (xwd cs s2 e2) atW 0)])).length : Nat) := by rw [← List.append_assoc, List.length_append, List.length_singleton]; omega
    have dMD : xMD R0 C.2.2.2 bc dp tk0 f3 mt d := xMD_mv (fun p p1 p2 => dfr p (by omega) (by omega) (by omega)) k5
    have dC : xCM K R0 (C.1, xfi (xwd cs s e) selW 0, (C.2.2.1 ++ [(xfi (xwd cs s e) selW 0, xfi (xwd cs s2 e2) atW 0)]), C.2.2.2) bc dp tk0 f0 f3 op tm oa m d (1024 * ((e2 : Nat) : Int)) := ⟨c1, c2, dMS, fun p a1 a2 a3 a4 a5 a6 a7 a8 a9 a10 => (dfr p a1 a7 a8).trans (c4b p a1 a2 a3 a4 a5 a6 a7 a8 a9 a10), mt, tmM, oaM, dMD, k6, (dfr 187 (by decide) (by decide) (by decide)).trans k7, (dfr 188 (by decide) (by decide) (by decide)).trans k8, k9, k10, k11, k12, by omega⟩
    have d178 : f3 178 = xr 1 cs := (dfr 178 (by decide) (by decide) (by decide)).trans ((hf2 178 (by decide)).trans ((hf1 178 (by decide)).trans f178))
    refine x_aload_n rfl (xst_ne (by decide) (xst_ne (by decide) l0 (Or.inl rfl)) (Or.inl rfl)) ?_
    refine x_bipush rfl (by decide) ?_
    by_cases hcm : ki3 = 3 ∧ cs.getD s3 0 = 44
    · skip
      refine x_call [_, _] rfl rfl (show (0 : Nat) ≤ 8 from by decide) (show (2 : Nat) ≤ 3 from by decide) (x_rcv (by decide) d177) (xs_75t d177 d178 hn hl hcs hr2.2.2.2.1 hT3 hM3 (by unfold xsgn; omega) hcm) (fun r' f4 hP => ?_)
      obtain ⟨rfl, ⟨ki4, s4, e4, kM4, wo4, nu4, h177d, hT4, hM4⟩, hf4⟩ := hP
      have hse3 := hr3.2.2.2.2.2.1 (by omega)
      refine x_istore_n rfl (show (2 : Nat) < 5 from by decide) ?_
      refine x_goto (t := 7) rfl rfl ?_
      refine ih e3 (C.1, xfi (xwd cs s e) selW 0, (C.2.2.1 ++ [(xfi (xwd cs s e) selW 0, xfi (xwd cs s2 e2) atW 0)]), C.2.2.2) f4 _ (by omega) (xst_ne (by decide) (xst_ne (by decide) (xst_ne (by decide) l0 (Or.inl rfl)) (Or.inl rfl)) (Or.inl rfl)) (xst_ne (by decide) (xst_ne (by decide) (xst_ne (by decide) l1 (Or.inl rfl)) (Or.inl rfl)) (Or.inl rfl)) xst_eq ?_ ?_ hC1 (by omega) ⟨hr3.2.2.2.1, ki4, s4, e4, kM4, wo4, nu4, pa + 1, h177d, hT4, hM4, xCM_mv hf4 (by omega) dC, by omega, by omega, hpl2⟩
      · rw [← hG, g1, g2]
        exact (xG_s hr2.2.2.2.1 hT3 (by omega) (by unfold xtq; simp only [xstep]; rw [if_pos hcm])).symm
      · rw [← hGc, g1c, g2c]
        exact (xGC_s hr2.2.2.2.1 hT3 (by omega) (by unfold xtq; simp only [xstep]; rw [if_pos hcm]) (by unfold xtc; simp only [xcst]; rw [if_pos hcm])).symm
    · skip
      refine x_call [_, _] rfl rfl (show (0 : Nat) ≤ 8 from by decide) (show (2 : Nat) ≤ 3 from by decide) (x_rcv (by decide) d177) (xs_75f d177 d178 hn hl hcs hr2.2.2.2.1 hT3 hM3 (by unfold xsgn; omega) hcm) (fun r' f4 hP => ?_)
      obtain ⟨rfl, rfl⟩ := hP
      refine x_istore_n rfl (show (2 : Nat) < 5 from by decide) ?_
      refine x_goto (t := 7) rfl rfl ?_
      refine x_iload_n rfl xst_eq ?_
      refine x_ifeq (t := 84) rfl rfl (by decide) (fun _ => ?_) (fun h => absurd rfl h)
      refine x_aload_n rfl (xst_ne (by decide) (xst_ne (by decide) (xst_ne (by decide) l0 (Or.inl rfl)) (Or.inl rfl)) (Or.inl rfl)) ?_
      refine x_iconst rfl ?_
      refine x_iload_n rfl (xst_ne (by decide) (xst_ne (by decide) (xst_ne (by decide) l1 (Or.inl rfl)) (Or.inl rfl)) (Or.inl rfl)) ?_
      refine x_aload_n rfl (xst_ne (by decide) (xst_ne (by decide) (xst_ne (by decide) l0 (Or.inl rfl)) (Or.inl rfl)) (Or.inl rfl)) ?_
      refine x_getfield rfl (by decide) d177 rfl ?_
      refine x_call [_, _, _, _] rfl rfl (show (0 : Nat) ≤ 8 from by decide) (show (4 : Nat) ≤ 4 from by decide) (x_rcv (by decide) d177) (xs_76 d177 (by omega) dMD ⟨by omega, fun _ => by omega⟩ hfr ⟨by omega, by omega⟩) (fun r' f5 hP => ?_)
      obtain ⟨rfl, hQ1, hQ2⟩ := hP
      refine x_iconst rfl ?_
      refine x_ireturn rfl (Or.inr (Or.inl ⟨rfl, by decide⟩)) ⟨_, _, rfl, rfl, ?_⟩
      have hcap : C.2.2.2 ++ [(fr, pa + 1, -1)] = (xcap K (C.1, xfi (xwd cs s e) selW 0, (C.2.2.1 ++ [(xfi (xwd cs s e) selW 0, xfi (xwd cs s2 e2) atW 0)]), C.2.2.2)).2.2.2 := by
        show _ = C.2.2.2 ++ [(C.1, ((K ++ (C.2.2.1 ++ [(xfi (xwd cs s e) selW 0, xfi (xwd cs s2 e2) atW 0)])).length : Int), -1)]
        rw [hC1, hpl2]
      have hadd := xphi_add (b := 1) (m := mt) (oa := oaM) c1 (by decide)
      refine Or.inr ⟨rfl, e2, xcap K (C.1, xfi (xwd cs s e) selW 0, (C.2.2.1 ++ [(xfi (xwd cs s e) selW 0, xfi (xwd cs s2 e2) atW 0)]), C.2.2.2), by omega, by rw [← hG, g1, g2]; exact xG_67 hr2.2.2.2.1 hT3 hcm, by rw [← hGc, g1c, g2c]; exact xGC_67 hr2.2.2.2.1 hT3 hcm, hr2.2.2.2.1, ki3, s3, e3, kM3, wo3, nu3, pa + 1, (hQ2 177 (by decide) (by decide) (by decide) (by decide)).trans d177, hT3, hM3, ⟨c1, c2, xMS_mv (hQ2 185 (by decide) (by decide) (by decide) (by decide)) (hQ2 186 (by decide) (by decide) (by decide) (by decide)) dMS, fun p a1 a2 a3 a4 a5 a6 a7 a8 a9 a10 => (hQ2 p a2 a4 a5 a6).trans ((dfr p a1 a7 a8).trans (c4b p a1 a2 a3 a4 a5 a6 a7 a8 a9 a10)), mt + 1, tmM, oaM, by rw [← hcap]; exact hQ1, by omega, (hQ2 187 (by decide) (by decide) (by decide) (by decide)).trans ((dfr 187 (by decide) (by decide) (by decide)).trans k7), (hQ2 188 (by decide) (by decide) (by decide) (by decide)).trans ((dfr 188 (by decide) (by decide) (by decide)).trans k8), k9, k10, k11, xchain_add (by decide) k12, ?_⟩, by omega, by omega, hpl2⟩
      omega
