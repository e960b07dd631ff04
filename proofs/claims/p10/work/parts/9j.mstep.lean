/-! The model reads a step. -/
theorem xs_77 {K : List (Int × Int)} {R0 : Nat → Int × Int} {G : Nat → List xBt} {C : xC} {v0 : Value} {xs : List Int32} {u : Nat × Nat} {f0 : Nat → zE} {n : Nat} {cs : List Int} {nms : List (List Int)} {nl : List Int64} {bc dp tk0 : Nat → Int} {cd fa pa0 op m d : Int} {q : Nat → Value} {tm oa : List Int} {p : Nat} {f : Nat → zE} (hn : n ≤ 100) (hl : cs.length = 100) (hcs : ∀ j : Nat, 0 ≤ cs.getD j 0 ∧ cs.getD j 0 ≤ 126) (h179 : f0 179 = .inr (.inr (.inl nl))) (hlen : nl.length = 13) (hcl : nms.length ≤ 12) (hw : ∀ w ∈ nms, xwf w) (hnl : ∀ k, k < nms.length → nl.getD k 0 = Int64.ofInt (xpr (nms.getD k []))) (hnd : nms.Nodup) (hns : ∀ w ∈ nms, w ∉ selW) (hbc : ∀ i, i < nms.length → 0 ≤ bc i ∧ bc i ≤ 16) (hdp : ∀ i, i < nms.length → 1 ≤ dp i ∧ dp i ≤ 6) (htk : ∀ i, i < nms.length → ∀ k : Nat, (k : Int) < bc i → 0 ≤ tk0 (16 * i + k) ∧ tk0 (16 * i + k) ≤ k) (hpa0 : 0 ≤ pa0 ∧ pa0 ≤ 192) (h178 : f0 178 = xr 1 cs) (hC1 : C.1 = ((K ++ C.2.2.1).length : Nat)) (hst : xST K R0 C cs n nms bc dp tk0 cd fa pa0 q f0 f p op tm oa m d) : xq v0 xs u 77 [(0, .ref 177)] f (fun r f' => (r = some (xi 0) ∧ ∃ z : Int, xG cs n nms bc dp p (4, op, tm, oa, m, d) = .inl z ∧ xMW K R0 n nms bc dp tk0 cd fa q f0 f' z) ∨ (r = some (xi 1) ∧ ∃ (p' : Nat) (C' : xC), p < p' ∧ xG cs n nms bc dp p (4, op, tm, oa, m, d) = xG cs n nms bc dp p' (7, op, tm, oa, min (m + 1) 17, d) ∧ xGC K G cs n nms bc dp p (4, op, tm, oa, m, d) C = xGC K G cs n nms bc dp p' (7, op, tm, oa, min (m + 1) 17, d) C' ∧ xST K R0 C' cs n nms bc dp tk0 cd fa pa0 q f0 f' p' op tm oa (min (m + 1) 17) d)) := by
  unfold xq
  have hst0 := hst
  obtain ⟨hp, ki, s, e, kM, wo, nu, pa, h177, hT, hM, hC, hpa1, hpa2, hpl⟩ := hst
  refine x_aload_n rfl rfl ?_
  refine x_getfield rfl (by decide) h177 rfl ?_
  refine x_istore_n rfl (show (1 : Nat) < 5 from by decide) ?_
  refine x_iconst rfl ?_
  refine x_istore_n rfl (show (2 : Nat) < 5 from by decide) ?_
  exact xs_77l hn hl hcs h179 hlen hcl hw hnl hnd hns hbc hdp htk hpa0 h178 ⟨by omega, by omega⟩ n p C f _ (by omega) (xst_ne (by decide) (xst_ne (by decide) rfl (Or.inl rfl)) (Or.inl rfl)) (xst_ne (by decide) xst_eq (Or.inl rfl)) xst_eq rfl rfl (hC1.trans hpl.symm) (Nat.le_refl _) hst0
theorem xs_79 {K : List (Int × Int)} {R0 : Nat → Int × Int} {G : Nat → List xBt} {C : xC} {v0 : Value} {xs : List Int32} {u : Nat × Nat} {f0 : Nat → zE} {n : Nat} {cs : List Int} {nms : List (List Int)} {nl : List Int64} {bc dp tk0 : Nat → Int} {cd fa pa0 op m d : Int} {q : Nat → Value} {tm oa : List Int} {p : Nat} {f : Nat → zE} (hn : n ≤ 100) (hl : cs.length = 100) (hcs : ∀ j : Nat, 0 ≤ cs.getD j 0 ∧ cs.getD j 0 ≤ 126) (h179 : f0 179 = .inr (.inr (.inl nl))) (hlen : nl.length = 13) (hcl : nms.length ≤ 12) (hw : ∀ w ∈ nms, xwf w) (hnl : ∀ k, k < nms.length → nl.getD k 0 = Int64.ofInt (xpr (nms.getD k []))) (hnd : nms.Nodup) (hns : ∀ w ∈ nms, w ∉ selW) (hbc : ∀ i, i < nms.length → 0 ≤ bc i ∧ bc i ≤ 16) (hdp : ∀ i, i < nms.length → 1 ≤ dp i ∧ dp i ≤ 6) (htk : ∀ i, i < nms.length → ∀ k : Nat, (k : Int) < bc i → 0 ≤ tk0 (16 * i + k) ∧ tk0 (16 * i + k) ≤ k) (hpa0 : 0 ≤ pa0 ∧ pa0 ≤ 192) (h178 : f0 178 = xr 1 cs) (hGk : ∀ i, i < nms.length → ((G i).length : Int) = bc i ∧ ∀ k, k < (G i).length → ((R0 (16 * i + k)).1, (R0 (16 * i + k)).2, tk0 (16 * i + k)) = (G i).getD k (0, 0, 0)) (htl : tm.length = 3) (hol : oa.length = 3) (hst : xST K R0 C cs n nms bc dp tk0 cd fa pa0 q f0 f p op tm oa m d) : xq v0 xs u 79 [(0, .ref 177)] f (fun r f' => (r = some (xi 0) ∧ ∃ z : Int, xG cs n nms bc dp p (2, op, tm, oa, m, d) = .inl z ∧ xMW K R0 n nms bc dp tk0 cd fa q f0 f' z) ∨ (r = some (xi 1) ∧ ∃ (p' : Nat) (m' d' : Int) (C' : xC), p < p' ∧ xG cs n nms bc dp p (2, op, tm, oa, m, d) = xG cs n nms bc dp p' (7, op, tm, oa, m', d') ∧ xGC K G cs n nms bc dp p (2, op, tm, oa, m, d) C = xGC K G cs n nms bc dp p' (7, op, tm, oa, m', d') C' ∧ xST K R0 C' cs n nms bc dp tk0 cd fa pa0 q f0 f' p' op tm oa m' d') ∨ (r = some (xi 1) ∧ ∃ (p' : Nat) (tm' oa' : List Int), p < p' ∧ op < 3 ∧ tm'.length = 3 ∧ oa'.length = 3 ∧ xG cs n nms bc dp p (2, op, tm, oa, m, d) = xG cs n nms bc dp p' (2, op + 1, tm', oa', m, d) ∧ xGC K G cs n nms bc dp p (2, op, tm, oa, m, d) C = xGC K G cs n nms bc dp p' (2, op + 1, tm', oa', m, d) C ∧ xST K R0 C cs n nms bc dp tk0 cd fa pa0 q f0 f' p' (op + 1) tm' oa' m d)) := by
  unfold xq
  have hst0 := hst
  obtain ⟨hp, ki, s, e, kM, wo, nu, pa, h177, hT, hM, hC, hpa1, hpa2, hpl⟩ := hst
  have hr := xTK_rg hT hp
  have hk := xTM_k hp hT hM
  have hC0 := hC
  obtain ⟨c1, c2, c3, c4, mt, tmM, oaM, k5, k6, k7, k8, k9, k10, k11, k12, k13⟩ := hC0
  have f178 := (c4 178 (by decide) (by decide) (by decide) (by decide) (by decide) (by decide) (by decide) (by decide) (by decide) (by decide)).trans h178
  have f179 := (c4 179 (by decide) (by decide) (by decide) (by decide) (by decide) (by decide) (by decide) (by decide) (by decide) (by decide)).trans h179
  have hmt := xphi_m c1 k12
  have hmt0 := k12.1
  have hsl := xfi_rg (wd := xwd cs s e) selW 0 (by decide)
  have hslen : (selW.length : Int) = 13 := rfl
  have hol0 := xfi_rg (wd := xwd cs s e) nms 0 (by decide)
  have hnu : ki = 2 → ((2 ≤ (if e - s > 1 then -1 else cs.getD s 0 - 48) ∧ (if e - s > 1 then -1 else cs.getD s 0 - 48) ≤ 4) ↔ (2 ≤ nu ∧ nu ≤ 4)) ∧ (2 ≤ nu ∧ nu ≤ 4 → (if e - s > 1 then -1 else cs.getD s 0 - 48) = nu) ∧ (-100 ≤ nu ∧ nu ≤ 100) := fun h => by
    have h1 := hM.2.1 h
    have h2 := hr.2.2.2.2.2.1 (by omega)
    have hch := hcs s
    by_cases h3 : e - s = 1
    · rw [if_pos h3] at h1
      rw [if_neg (by omega), h1]
      exact ⟨Iff.rfl, fun _ => rfl, by omega, by omega⟩
    · rw [if_neg h3] at h1
      rw [if_pos (by omega), h1]
      exact ⟨by omega, by omega, by omega, by omega⟩
  have hnone : ¬ (ki = 2 ∧ (2 ≤ nu ∧ nu ≤ 4) ∧ op < 3) → (ki = 1 → xfi (xwd cs s e) nms 0 = -1 ∧ xfi (xwd cs s e) selW 0 = -1) → xG cs n nms bc dp p (2, op, tm, oa, m, d) = .inl ((s : Nat) : Int) := fun hA hB => by
    refine xG_n hp hT (fun _ => by simp [xfin]) (fun _ => ?_)
    unfold xtq
    simp only [xstep]
    rw [if_neg (fun h => hA ⟨h.1, ((hnu h.1).1.mp ⟨h.2.1, h.2.2.1⟩), h.2.2.2⟩), if_neg (fun h => h.2 (hB h.1).1), if_neg (fun h => h.2 (hB h.1).2)]
  refine x_aload_n rfl rfl ?_
  refine x_call [_] rfl rfl (show (0 : Nat) ≤ 8 from by decide) (show (1 : Nat) ≤ 3 from by decide) (x_rcv (by decide) h177) (xm_74 hp h177 hT hM f179 hlen hcl rfl hw hnl hnd) (fun r' f' hP => ?_)
  obtain ⟨rfl, rfl⟩ := hP
  refine x_istore_n rfl (show (1 : Nat) < 2 from by decide) ?_
  refine x_aload_n rfl (xst_ne (by decide) rfl (Or.inl rfl)) ?_
  refine x_call [_] rfl rfl (show (0 : Nat) ≤ 8 from by decide) (show (1 : Nat) ≤ 3 from by decide) (x_rcv (by decide) h177) (xm_71 hp h177 hT hM) (fun r' f' hP => ?_)
  obtain ⟨rfl, rfl⟩ := hP
  refine x_iflt (t := 17) rfl rfl (by split <;> omega) (fun hno => ?_) (fun hsel => ?_)
  rotate_left
  · have hk1 : ki = 1 := by
      by_cases h : ki = 1
      · exact h
      · rw [if_neg h] at hsel; omega
    rw [if_pos hk1] at hsel
    obtain ⟨ws, hws, hwe⟩ := xfi_mem (by decide) hsel
    have hol : xfi (xwd cs s e) nms 0 = -1 := xfi_no (fun w hw2 he => by rw [hwe] at he; rw [← Option.some.inj he] at hw2; exact hns ws hw2 hws)
    have g24 : xG cs n nms bc dp p (2, op, tm, oa, m, d) = xG cs n nms bc dp p (4, op, tm, oa, m, d) := by
      rw [xG_s hp hT (by omega) (q' := (5, op, tm, oa, m, d)) (by unfold xtq; simp only [xstep]; rw [if_neg (by omega), if_neg (fun h => h.2 hol), if_pos ⟨hk1, by omega⟩]), xG_s hp hT (by omega) (q' := (5, op, tm, oa, m, d)) (by unfold xtq; simp only [xstep]; rw [if_pos ⟨hk1, by omega⟩])]
    have g24c : xGC K G cs n nms bc dp p (2, op, tm, oa, m, d) C = xGC K G cs n nms bc dp p (4, op, tm, oa, m, d) ((((K ++ C.2.2.1).length : Nat) : Int), C.2.1, C.2.2.1, C.2.2.2) := by
      rw [xGC_s (C' := ((((K ++ C.2.2.1).length : Nat) : Int), xfi (xwd cs s e) selW 0, C.2.2.1, C.2.2.2)) hp hT (by omega) (q' := (5, op, tm, oa, m, d)) (by unfold xtq; simp only [xstep]; rw [if_neg (by omega), if_neg (fun h => h.2 hol), if_pos ⟨hk1, by omega⟩]) (by unfold xtc; simp only [xcst]; rw [if_neg (by omega), if_neg (fun h => h.2 hol), if_pos hk1]), xGC_s (C' := ((((K ++ C.2.2.1).length : Nat) : Int), xfi (xwd cs s e) selW 0, C.2.2.1, C.2.2.2)) hp hT (by omega) (q' := (5, op, tm, oa, m, d)) (by unfold xtq; simp only [xstep]; rw [if_pos ⟨hk1, by omega⟩]) (by unfold xtc; simp only [xcst]; rw [if_pos hk1])]
    refine x_aload_n rfl (xst_ne (by decide) rfl (Or.inl rfl)) ?_
    refine x_call [_] rfl rfl (show (0 : Nat) ≤ 8 from by decide) (show (1 : Nat) ≤ 5 from by decide) (x_rcv (by decide) h177) (xs_77 (G := G) (C := ((((K ++ C.2.2.1).length : Nat) : Int), C.2.1, C.2.2.1, C.2.2.2)) hn hl hcs h179 hlen hcl hw hnl hnd hns hbc hdp htk hpa0 h178 rfl hst0) (fun r' f1 hP => ?_)
    rcases hP with ⟨rfl, z9, h1, h2⟩ | ⟨rfl, p1, C9, h1, h2, h2c, h3⟩
    · refine x_ireturn rfl (Or.inr (Or.inl ⟨rfl, by decide⟩)) ⟨_, _, rfl, rfl, ?_⟩
      exact Or.inl ⟨rfl, z9, g24.trans h1, h2⟩
    · refine x_ireturn rfl (Or.inr (Or.inl ⟨rfl, by decide⟩)) ⟨_, _, rfl, rfl, ?_⟩
      exact Or.inr (Or.inl ⟨rfl, p1, _, d, C9, h1, g24.trans h2, g24c.trans h2c, h3⟩)
  have hsl1 : ki = 1 → xfi (xwd cs s e) selW 0 = -1 := fun h => by rw [if_pos h] at hno; omega
  refine x_iload_n rfl xst_eq ?_
  refine x_iflt (t := 28) rfl rfl (by split <;> omega) (fun hno2 => ?_) (fun hold => ?_)
  rotate_left
  · have hk1 : ki = 1 := by
      by_cases h : ki = 1
      · exact h
      · rw [if_neg h] at hold; omega
    rw [if_pos hk1] at hold
    rw [if_pos hk1]
    have hse := hr.2.2.2.2.2.1 (by omega)
    obtain ⟨i, hi⟩ := Int.eq_ofNat_of_zero_le hold
    have hil : i < nms.length := by omega
    rw [hi]
    have hb := hbc i hil
    have hdi := hdp i hil
    have g1 : xG cs n nms bc dp p (2, op, tm, oa, m, d) = xG cs n nms bc dp e (7, op, tm, oa, min (m + bc i) 17, max d (dp i + 1)) := xG_s hp hT (by omega) (by unfold xtq; simp only [xstep]; rw [if_neg (by omega), if_pos ⟨hk1, by omega⟩, hi, Int.toNat_natCast])
    have g1c : xGC K G cs n nms bc dp p (2, op, tm, oa, m, d) C = xGC K G cs n nms bc dp e (7, op, tm, oa, min (m + bc i) 17, max d (dp i + 1)) (C.1, C.2.1, C.2.2.1, C.2.2.2 ++ (G i).map (xsh (C.2.2.2.length : Nat))) := xGC_s hp hT (by omega) (by unfold xtq; simp only [xstep]; rw [if_neg (by omega), if_pos ⟨hk1, by omega⟩, hi, Int.toNat_natCast]) (by unfold xtc; simp only [xcst]; rw [if_neg (by omega), if_pos ⟨hk1, by omega⟩, hi, Int.toNat_natCast])
    refine x_aload_n rfl (xst_ne (by decide) rfl (Or.inl rfl)) ?_
    refine x_iload_n rfl xst_eq ?_
    refine x_call [_, _] rfl rfl (show (0 : Nat) ≤ 8 from by decide) (show (2 : Nat) ≤ 4 from by decide) (x_rcv (by decide) h177) (xs_78 (e := e) (i := i) hn hl hcs f178 hr.2.2.2.1 (by omega) (by omega) (by omega) (by omega) rfl hb (htk i hil) h177 (hGk i hil) k5) (fun r' f1 hP => ?_)
    obtain ⟨rfl, hQ1, ⟨ki2, s2, e2, kM2, wo2, nu2, h177b, hT2, hM2⟩, hf1⟩ := hP
    refine x_iconst rfl ?_
    refine x_ireturn rfl (Or.inr (Or.inl ⟨rfl, by decide⟩)) ⟨_, _, rfl, rfl, ?_⟩
    have hadd := xphi_add (b := bc i) (m := mt) (oa := oaM) c1 hb.1
    exact Or.inr (Or.inl ⟨rfl, e, _, _, (C.1, C.2.1, C.2.2.1, C.2.2.2 ++ (G i).map (xsh (C.2.2.2.length : Nat))), by omega, g1, g1c, hr.2.2.2.1, ki2, s2, e2, kM2, wo2, nu2, pa, h177b, hT2, hM2, ⟨c1, by omega, xMS_mv (hf1 185 (by decide) (by decide) (by decide) (by decide) (by decide) (by decide)) (hf1 186 (by decide) (by decide) (by decide) (by decide) (by decide) (by decide)) c3, fun p a1 a2 a3 a4 a5 a6 a7 a8 a9 a10 => (hf1 p a1 a2 a3 a4 a5 a6).trans (c4 p a1 a2 a3 a4 a5 a6 a7 a8 a9 a10), mt + bc i, tmM, oaM, xMD_ch (fun h16 => by show _ = C.2.2.2 ++ (G i).map (xsh (C.2.2.2.length : Int)); rw [xMD_B k5 (by omega)]) hQ1, by omega, (hf1 187 (by decide) (by decide) (by decide) (by decide) (by decide) (by decide)).trans k7, (hf1 188 (by decide) (by decide) (by decide) (by decide) (by decide) (by decide)).trans k8, k9, k10, k11, xchain_add hb.1 k12, by omega⟩, hpa1, by omega, hpl⟩)
  have hol1 : ki = 1 → xfi (xwd cs s e) nms 0 = -1 := fun h => by rw [if_pos h] at hno2; omega
  have hRet : ¬ (ki = 2 ∧ (2 ≤ nu ∧ nu ≤ 4) ∧ op < 3) → xz v0 xs u (fun o X => ∃ r f', o = .inl r ∧ X = (xh f', u) ∧ (fun r f' => (r = some (xi 0) ∧ ∃ z : Int, xG cs n nms bc dp p (2, op, tm, oa, m, d) = .inl z ∧ xMW K R0 n nms bc dp tk0 cd fa q f0 f' z) ∨ (r = some (xi 1) ∧ ∃ (p' : Nat) (m' d' : Int) (C' : xC), p < p' ∧ xG cs n nms bc dp p (2, op, tm, oa, m, d) = xG cs n nms bc dp p' (7, op, tm, oa, m', d') ∧ xGC K G cs n nms bc dp p (2, op, tm, oa, m, d) C = xGC K G cs n nms bc dp p' (7, op, tm, oa, m', d') C' ∧ xST K R0 C' cs n nms bc dp tk0 cd fa pa0 q f0 f' p' op tm oa m' d') ∨ (r = some (xi 1) ∧ ∃ (p' : Nat) (tm' oa' : List Int), p < p' ∧ op < 3 ∧ tm'.length = 3 ∧ oa'.length = 3 ∧ xG cs n nms bc dp p (2, op, tm, oa, m, d) = xG cs n nms bc dp p' (2, op + 1, tm', oa', m, d) ∧ xGC K G cs n nms bc dp p (2, op, tm, oa, m, d) C = xGC K G cs n nms bc dp p' (2, op + 1, tm', oa', m, d) C ∧ xST K R0 C cs n nms bc dp tk0 cd fa pa0 q f0 f' p' (op + 1) tm' oa' m d)) r f') 79 60 (xst (1 : Nat) (xi (if ki = 1 then xfi (xwd cs s e) nms 0 else -1)) [(0, .ref 177)]) [] f' := fun hA => by
    refine x_iconst rfl ?_
    refine x_ireturn rfl (Or.inr (Or.inl ⟨rfl, by decide⟩)) ⟨_, _, rfl, rfl, ?_⟩
    exact Or.inl ⟨rfl, _, hnone hA (fun h => ⟨hol1 h, hsl1 h⟩), xCM_W h177 ⟨hk.1, ⟨by omega, by omega⟩, fun h => by have h9 := hr.2.2.2.2.2.2 (hk.2.2.2.mp h); omega⟩ hC⟩
  refine x_aload_n rfl (xst_ne (by decide) rfl (Or.inl rfl)) ?_
  refine x_getfield rfl (by decide) h177 rfl ?_
  refine x_iconst rfl ?_
  refine x_cne (t := 60) rfl rfl ⟨by omega, by omega⟩ (by decide) (fun h => hRet (by omega)) (fun hk2 => ?_)
  have hki2 := hk.2.2.1.mp hk2
  have hn2 := hnu hki2
  refine x_aload_n rfl (xst_ne (by decide) rfl (Or.inl rfl)) ?_
  refine x_getfield rfl (by decide) h177 rfl ?_
  refine x_iconst rfl ?_
  refine x_clt (t := 60) rfl rfl ⟨by omega, by omega⟩ (by decide) (fun h => hRet (by omega)) (fun hlo => ?_)
  refine x_aload_n rfl (xst_ne (by decide) rfl (Or.inl rfl)) ?_
  refine x_getfield rfl (by decide) h177 rfl ?_
  refine x_iconst rfl ?_
  refine x_cgt (t := 60) rfl rfl ⟨by omega, by omega⟩ (by decide) (fun h => hRet (by omega)) (fun hhi => ?_)
  refine x_aload_n rfl (xst_ne (by decide) rfl (Or.inl rfl)) ?_
  refine x_getfield rfl (by decide) h177 rfl ?_
  refine x_iconst rfl ?_
  refine x_cne (t := 62) rfl rfl ⟨by omega, by omega⟩ (by decide) (fun hop3 => ?_) (fun h => hRet (by omega))
  have hse := hr.2.2.2.2.2.1 (by omega)
  have g1 : xG cs n nms bc dp p (2, op, tm, oa, m, d) = xG cs n nms bc dp e (3, op, tm.set op.toNat nu, oa, m, d) := xG_s hp hT (by omega) (by unfold xtq; simp only [xstep]; rw [if_pos ⟨hki2, (hn2.1.mpr ⟨hlo, hhi⟩).1, (hn2.1.mpr ⟨hlo, hhi⟩).2, by omega⟩, hn2.2.1 ⟨hlo, hhi⟩])
  have g1c : xGC K G cs n nms bc dp p (2, op, tm, oa, m, d) C = xGC K G cs n nms bc dp e (3, op, tm.set op.toNat nu, oa, m, d) C := xGC_s hp hT (by omega) (by unfold xtq; simp only [xstep]; rw [if_pos ⟨hki2, (hn2.1.mpr ⟨hlo, hhi⟩).1, (hn2.1.mpr ⟨hlo, hhi⟩).2, by omega⟩, hn2.2.1 ⟨hlo, hhi⟩]) (by unfold xtc; simp only [xcst]; rw [if_pos ⟨hki2, (hn2.1.mpr ⟨hlo, hhi⟩).1, (hn2.1.mpr ⟨hlo, hhi⟩).2, by omega⟩])
  refine x_aload_n rfl (xst_ne (by decide) rfl (Or.inl rfl)) ?_
  refine x_getfield rfl (by decide) h177 rfl ?_
  refine x_aload_n rfl (xst_ne (by decide) rfl (Or.inl rfl)) ?_
  refine x_getfield rfl (by decide) h177 rfl ?_
  refine x_aload_n rfl (xst_ne (by decide) rfl (Or.inl rfl)) ?_
  refine x_getfield rfl (by decide) h177 rfl ?_
  refine x_iastore rfl (by decide) k7 ⟨by omega, by omega⟩ (by omega) ?_
  refine x_aload_n rfl (xst_ne (by decide) rfl (Or.inl rfl)) ?_
  refine x_call [_] rfl rfl (show (0 : Nat) ≤ 8 from by decide) (show (1 : Nat) ≤ 2 from by decide) (x_rcv (by decide) (xu_ne (by decide) h177)) (xs_69 (p0 := e) (xu_ne (by decide) h177) (xu_ne (by decide) f178) hn hl hcs hr.2.2.2.1) (fun r' f1 hP => ?_)
  obtain ⟨rfl, ⟨ki2, s2, e2, kM2, wo2, nu2, h177b, hT2, hM2⟩, hf1⟩ := hP
  have hr2 := xTK_rg hT2 hr.2.2.2.1
  refine x_aload_n rfl (xst_ne (by decide) rfl (Or.inl rfl)) ?_
  refine x_bipush rfl (by decide) ?_
  have f1178 : f1 178 = xr 1 cs := (hf1 178 (by decide)).trans (xu_ne (by decide) f178)
  by_cases hbr : ki2 = 3 ∧ cs.getD s2 0 = 40
  · skip
    refine x_call [_, _] rfl rfl (show (0 : Nat) ≤ 8 from by decide) (show (2 : Nat) ≤ 3 from by decide) (x_rcv (by decide) h177b) (xs_75t h177b f1178 hn hl hcs hr.2.2.2.1 hT2 hM2 (by unfold xsgn; omega) hbr) (fun r' f2 hP => ?_)
    obtain ⟨rfl, ⟨ki3, s3, e3, kM3, wo3, nu3, h177c, hT3, hM3⟩, hf2⟩ := hP
    have hse2 := hr2.2.2.2.2.2.1 (by omega)
    refine x_ifne (t := 90) rfl rfl (by decide) (fun _ => ?_) (fun h => absurd h (by decide))
    have k5b := k5
    obtain ⟨cn, dn, tk, pf, pq, h180, h181, h182, h183, h184, ⟨g1l, g2l, g3l, g4l, g5l⟩, hcm, hdd, hk1, hk2b, hk3, hk4⟩ := k5b
    refine x_aload_n rfl (xst_ne (by decide) rfl (Or.inl rfl)) ?_
    refine x_getfield rfl (by decide) h177c rfl ?_
    refine x_aload_n rfl (xst_ne (by decide) rfl (Or.inl rfl)) ?_
    refine x_getfield rfl (by decide) h177c rfl ?_
    refine x_aload_n rfl (xst_ne (by decide) rfl (Or.inl rfl)) ?_
    refine x_getfield rfl (by decide) h177c rfl ?_
    refine x_bipush rfl (by decide) ?_
    refine x_iaload rfl (by decide) ((hf2 180 (by decide)).trans ((hf1 180 (by decide)).trans (xu_ne (by decide) h180))) ⟨by omega, by omega⟩ (by omega) ?_
    rw [show (12 : Int).toNat = 12 from rfl, hcm]
    refine x_iastore rfl (by decide) ((hf2 188 (by decide)).trans ((hf1 188 (by decide)).trans (xu_ne (by decide) k8))) ⟨by omega, by omega⟩ (by omega) ?_
    refine x_aload_n rfl (xst_ne (by decide) rfl (Or.inl rfl)) ?_
    refine x_dup rfl ?_
    refine x_getfield rfl (by decide) (xu_ne (by decide) h177c) rfl ?_
    refine x_iconst rfl ?_
    refine x_iadd rfl ?_
    refine x_putfield rfl (by decide) (xu_ne (by decide) h177c) (show (19 : Nat) < 41 from by decide) rfl ?_
    refine x_iconst rfl ?_
    refine x_ireturn rfl (Or.inr (Or.inl ⟨rfl, by decide⟩)) ⟨_, _, rfl, rfl, ?_⟩
    obtain ⟨ph1, ph2⟩ := xphi_open ⟨c1.1, by omega⟩ k10 k12
    refine Or.inr (Or.inr ⟨rfl, e2, tm.set op.toNat nu, oa.set op.toNat m, by omega, by omega, by rw [List.length_set]; exact htl, by rw [List.length_set]; exact hol, ?_, ?_, hr2.2.2.2.1, ki3, s3, e3, kM3, wo3, nu3, pa, xu_eq, hT3, hM3, ⟨by omega, c2, xMS_mv (xu_ne (by decide) (xu_ne (by decide) ((hf2 185 (by decide)).trans ((hf1 185 (by decide)).trans (xu_ne (by decide) rfl))))) (xu_ne (by decide) (xu_ne (by decide) ((hf2 186 (by decide)).trans ((hf1 186 (by decide)).trans (xu_ne (by decide) rfl))))) c3, ?_, mt, tmM.set op.toNat nu, oaM.set op.toNat mt, ?_, k6, (xu_ne (by decide) (xu_ne (by decide) ((hf2 187 (by decide)).trans ((hf1 187 (by decide)).trans xu_eq)))), xu_ne (by decide) xu_eq, by rw [List.length_set]; exact k9, by rw [List.length_set]; exact k10, ?_, ph2, by rw [ph1]; omega⟩, hpa1, by omega, hpl⟩)
    · rw [g1]; exact xG_s hr.2.2.2.1 hT2 (by omega) (by unfold xtq; simp only [xstep]; rw [if_pos hbr])
    · rw [g1c]; exact xGC_s hr.2.2.2.1 hT2 (by omega) (by unfold xtq; simp only [xstep]; rw [if_pos hbr]) rfl
    · intro p a1 a2 a3 a4 a5 a6 a7 a8 a9 a10
      exact xu_ne a1 (xu_ne a10 ((hf2 p a1).trans ((hf1 p a1).trans (xu_ne a9 (c4 p a1 a2 a3 a4 a5 a6 a7 a8 a9 a10)))))
    · exact xMD_mv (fun p p1 p2 => xu_ne (by omega) (xu_ne (by omega) ((hf2 p (by omega)).trans ((hf1 p (by omega)).trans (xu_ne (by omega) rfl))))) k5
    · intro j hj
      rw [x_gset, x_gset, x_gset, x_gset, k9, htl, k10, hol]
      by_cases ej : op.toNat = j
      · rw [if_pos ⟨ej, by omega⟩, if_pos ⟨ej, by omega⟩, if_pos ⟨ej, by omega⟩, if_pos ⟨ej, by omega⟩]; exact ⟨rfl, ⟨hlo, hhi⟩, k6⟩
      · rw [if_neg (fun h => ej h.1), if_neg (fun h => ej h.1), if_neg (fun h => ej h.1), if_neg (fun h => ej h.1)]; exact k11 j (by omega)
  · skip
    refine x_call [_, _] rfl rfl (show (0 : Nat) ≤ 8 from by decide) (show (2 : Nat) ≤ 3 from by decide) (x_rcv (by decide) h177b) (xs_75f h177b f1178 hn hl hcs hr.2.2.2.1 hT2 hM2 (by unfold xsgn; omega) hbr) (fun r' f2 hP => ?_)
    obtain ⟨rfl, rfl⟩ := hP
    refine x_ifne (t := 90) rfl rfl (by decide) (fun h => absurd rfl h) (fun _ => ?_)
    refine x_iconst rfl ?_
    refine x_ireturn rfl (Or.inr (Or.inl ⟨rfl, by decide⟩)) ⟨_, _, rfl, rfl, ?_⟩
    refine Or.inl ⟨rfl, ((s2 : Nat) : Int), ?_, _, _, _, _, _, _, mt, d, tmM.set op.toNat nu, oaM, _, _, h177b, ⟨(xTM_k hr.2.2.2.1 hT2 hM2).1, ⟨by omega, by omega⟩, fun h => by have h9 := hr2.2.2.2.2.2.2 ((xTM_k hr.2.2.2.1 hT2 hM2).2.2.2.mp h); omega⟩, xMD_mv (fun p p1 p2 => (hf1 p (by omega)).trans (xu_ne (by omega) rfl)) k5, (hf1 187 (by decide)).trans xu_eq, (hf1 188 (by decide)).trans (xu_ne (by decide) k8), by rw [List.length_set]; exact k9, k10, xMS_mv ((hf1 185 (by decide)).trans (xu_ne (by decide) rfl)) ((hf1 186 (by decide)).trans (xu_ne (by decide) rfl)) c3, fun p a1 a2 a3 a4 a5 a6 a7 a8 a9 a10 => (hf1 p a1).trans (xu_ne a9 (c4 p a1 a2 a3 a4 a5 a6 a7 a8 a9 a10))⟩
    rw [g1]
    refine xG_n hr.2.2.2.1 hT2 (fun _ => by simp [xfin]) (fun _ => ?_)
    unfold xtq
    simp only [xstep]
    rw [if_neg hbr]
