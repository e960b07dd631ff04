/-! The cases of the law. -/
theorem x_gia {v0 : Value} {xs : List Int32} {u : Nat × Nat} {Q : zO → zX → Prop} {mi pc a b c : Nat} {v : Value} {lv : zL} {r : List Value} {f : Nat → zE} {z : Int} (hc : zcd (zt v0) mi pc = some (.iaload, a, b, c, v)) (hz : 0 ≤ z ∧ z < xs.length) (hl : xs.length ≤ 5000) (k : xz v0 xs u Q mi (pc + 1) lv (xi (xs.getD z.toNat 0).toInt :: r) f) : xz v0 xs u Q mi pc lv (xi z :: .ref 0 :: r) f := by
  refine x_b (q := (1, xi (xs.getD z.toNat 0).toInt :: r)) hc ?_ k
  have e : zrd (zG xs) (xh f, u) 0 = some (.inr (.inl (0, xs))) := rfl
  simp only [zb, e]
  rw [if_pos (xin hz.1 hz.2 (by omega)), (xi_clamp hz.1 (by omega)).2, ← xi_of]
theorem x_gln {v0 : Value} {xs : List Int32} {u : Nat × Nat} {Q : zO → zX → Prop} {mi pc a b c : Nat} {v : Value} {lv : zL} {r : List Value} {f : Nat → zE} (hc : zcd (zt v0) mi pc = some (.arraylength, a, b, c, v)) (k : xz v0 xs u Q mi (pc + 1) lv (xi (xs.length : Nat) :: r) f) : xz v0 xs u Q mi pc lv (.ref 0 :: r) f := by
  refine x_b (q := (1, xi (xs.length : Nat) :: r)) hc ?_ k
  have e : zrd (zG xs) (xh f, u) 0 = some (.inr (.inl (0, xs))) := rfl
  simp only [zb, e]
  rfl
theorem sRS_t {f f2 : Nat → zE} {K : List (Int × Int)} {G : Nat → List xBt} {n : Nat} {S : sS} {al : Nat → Bool} {F : Int} {wy : Nat → Int} {cd ty fa ki be en nu ca pa op cd' ty' : Int} {wo : Int64} {q : Nat → Value} (h : sRS f K G n S al F wy) (h177 : f 177 = xmo cd ty fa ki be en wo nu ca pa op q) (k177 : f2 177 = xmo cd' ty' fa ki be en wo nu (n : Nat) pa op q) (hfr : ∀ p, p ≠ 51 → p ≠ 52 → p ≠ 177 → p ≠ 178 → f2 p = f p) : sRS f2 K G n S al F wy := by
  obtain ⟨hT, hMT, hH, ⟨hA1, hA2, hA3⟩, hF4, hWC, hWD⟩ := h
  exact ⟨sCT_f hT (hfr 50 (by decide) (by decide) (by decide) (by decide)) (fun p y1 y2 => hfr p (by omega) (by omega) (by omega) (by omega)), sMT_xm hMT h177 k177 (fun p y1 y2 => hfr p (by omega) (by omega) (by omega) (by omega)), hH, ⟨sAC_fr hA1 (fun p y1 y2 => hfr p (by omega) (by omega) (by omega) (by omega)), sAD_fr hA2 (hfr 198 (by decide) (by decide) (by decide) (by decide)), hA3⟩, hF4, sWC_fr hWC (hfr 117 (by decide) (by decide) (by decide) (by decide)) (hfr 121 (by decide) (by decide) (by decide) (by decide)), sWD_xm hWD h177 k177 (hfr 199 (by decide) (by decide) (by decide) (by decide))⟩
set_option maxRecDepth 20000 in
theorem xK4 {v0 : Value} {xs : List Int32} {u : Nat × Nat} {Q : zO → zX → Prop} {f : Nat → zE} {lv : zL} {i : Nat} (hxs : xs.length ≤ 1536) (hi : i + 3 ≤ xs.length) (l0 : zlv lv 0 = some (.ref 0)) (l1 : zlv lv 1 = some (.ref 50)) (l2 : zlv lv 2 = some (.ref 177)) (l3 : zlv lv 3 = some (.ref 203)) (l4 : zlv lv 4 = some (xi (i : Nat))) (hA : sA f) (Kn : sKN v0 xs u Q i) : xz v0 xs u Q 177 223 lv [] f := by
  obtain ⟨n, cs, nms, bc, dp, tk0, K, G, R0, S, al, F, wy, hI, hF, hR⟩ := hA
  obtain ⟨hT, hMT, hH, ⟨hA1, hA2, hA3, hA4⟩, hF4, hWC, hWD⟩ := id hR
  have hCK := sCK_I hI
  have hfig : ∀ i, i < nms.length → ∃ (nm : Int64) (d al : Value), f (57 + 4 * i) = xfg i nm (xi (bc i)) d al := by
    intro i hi
    obtain ⟨al, -, -, fp, ep, ta, h, -⟩ := hI.2.2.2.1.2.1 i hi
    exact ⟨_, _, _, h⟩
  refine x_aload_n rfl l1 ?_
  refine x_aload_n rfl l0 ?_
  refine x_iload rfl l4 ?_
  refine x_iconst rfl ?_
  refine x_iadd rfl ?_
  refine x_gia rfl ⟨by omega, by omega⟩ (by omega) ?_
  refine x_aload_n rfl l3 ?_
  refine x_callT [_, _, _] rfl rfl (show (0 : Nat) ≤ 8 from by decide) (show (3 : Nat) ≤ 4 from by decide) rfl (xF88 hI.1 (xA87 (xINV_n hI).2.2.1 (xINV_n hI).1 (xINV_n hI).2.1) (xs_87c hI.2.2.1.1 ⟨y_lo _, y_hi _⟩ hT hCK.2.1 hCK.2.2.1 hfig) sBE_c) (fun r1 X1 hq => ?_) (fun x1 X1 hq => by obtain ⟨_, _, e1, -⟩ := hq; cases e1)
  obtain ⟨f1, u1, e1, e2, ⟨b1, b2⟩, hkb, hD1, hT1, h203, fr1⟩ := hq
  cases e1
  subst e2
  have hI1 := xINV_D hI hD1
  have hM1 : sMT f1 nms.length S := sMT_fr hMT (fr1 177 (by decide) (by decide) (by decide) (by decide) (by decide)) (fun q y1 y2 => fr1 q (by omega) (by omega) (by omega) (by omega) (by omega))
  obtain ⟨⟨fs1, ⟨h177, -⟩, -⟩, -⟩ := id hM1
  obtain ⟨-, -, -, -, ⟨_, _, _, _, _, _, _, _, _, _, _, _, _, _, _, _, _, -, -, -, -, -, ⟨cn, _, _, _, _, k180, -, -, -, -, ⟨kl180, -⟩, -, -, hcn, -⟩, -⟩, -⟩ := id hI1
  show xz v0 xs u1 Q 177 234 _ [xi _] f1
  refine x_istore rfl (show (5 : Nat) < 7 from by decide) ?_
  refine x_aload_n rfl (xst_ne (by decide) l2 (Or.inl rfl)) ?_
  refine x_aload_n rfl (xst_ne (by decide) l0 (Or.inl rfl)) ?_
  refine x_iload rfl (xst_ne (by decide) l4 (Or.inl rfl)) ?_
  refine x_iconst rfl ?_
  refine x_iadd rfl ?_
  refine x_gia rfl ⟨by omega, by omega⟩ (by omega) ?_
  refine x_call [_, _] rfl rfl (show (0 : Nat) ≤ 8 from by decide) (show (2 : Nat) ≤ 2 from by decide) (x_rcv (by decide) h177) (sxq_K (vs := [.ref 177, xi _]) (xs_90 hI.2.2.1.1 ⟨y_lo _, y_hi _⟩ hM1 k180 kl180 hcn) (xA90 hI1.1) ⟨ygr, ygt, trivial⟩ rfl rfl) (fun r2 f2 hP => ?_)
  obtain ⟨⟨rfl, hcd, hT2, fr2⟩, hD2, hk2⟩ := hP
  have hA2 : sA f2 := sCLO hI hF hR hD1 hT1 fr1 hD2 hk2 hT2 (fun q y1 y2 y3 => fr2 q y1 y2) (by rw [sBE_s]; exact hH)
  refine x_istore rfl (show (6 : Nat) < 7 from by decide) ?_
  refine x_goto (t := 651) rfl rfl ?_
  exact Kn _ _ _ (xst_ne (by decide) (xst_ne (by decide) l0 (Or.inl rfl)) (Or.inl rfl)) (xst_ne (by decide) (xst_ne (by decide) l1 (Or.inl rfl)) (Or.inl rfl)) (xst_ne (by decide) (xst_ne (by decide) l2 (Or.inl rfl)) (Or.inl rfl)) (xst_ne (by decide) (xst_ne (by decide) l3 (Or.inl rfl)) (Or.inl rfl)) (xst_ne (by decide) (xst_ne (by decide) l4 (Or.inl rfl)) (Or.inl rfl)) hA2 b1 b2
set_option maxRecDepth 20000 in
theorem xK5 {v0 : Value} {xs : List Int32} {u : Nat × Nat} {Q : zO → zX → Prop} {f : Nat → zE} {lv : zL} {i : Nat} (hxs : xs.length ≤ 1536) (hi : i + 3 ≤ xs.length) (l0 : zlv lv 0 = some (.ref 0)) (l1 : zlv lv 1 = some (.ref 50)) (l2 : zlv lv 2 = some (.ref 177)) (l3 : zlv lv 3 = some (.ref 203)) (l4 : zlv lv 4 = some (xi (i : Nat))) (hA : sA f) (Kn : sKN v0 xs u Q i) : xz v0 xs u Q 177 251 lv [] f := by
  obtain ⟨n, cs, nms, bc, dp, tk0, K, G, R0, S, al, F, wy, hI, hF, hR⟩ := hA
  obtain ⟨hT, hMT, hH, ⟨hA1, hA2, hA3, hA4⟩, hF4, hWC, hWD⟩ := id hR
  have hCK := sCK_I hI
  refine x_aload_n rfl l1 ?_
  refine x_aload_n rfl l0 ?_
  refine x_iload rfl l4 ?_
  refine x_iconst rfl ?_
  refine x_iadd rfl ?_
  refine x_gia rfl ⟨by omega, by omega⟩ (by omega) ?_
  refine x_aload_n rfl l3 ?_
  refine x_callT [_, _, _] rfl rfl (show (0 : Nat) ≤ 8 from by decide) (show (3 : Nat) ≤ 4 from by decide) rfl (xF109 hI.1 (xA108 (xINV_n hI).2.2.1 (xINV_n hI).1 (xINV_n hI).2.1) (xs_108 hI.1 hT hCK ⟨y_lo _, y_hi _⟩) sPF_c) (fun r1 X1 hq => ?_) (fun x1 X1 hq => by obtain ⟨_, _, e1, -⟩ := hq; cases e1)
  obtain ⟨f1, u1, e1, e2, ⟨b1, b2⟩, hkb, hD1, hT1, h203, fr1⟩ := hq
  cases e1
  subst e2
  have hI1 := xINV_D hI hD1
  have hM1 : sMT f1 nms.length S := sMT_fr hMT (fr1 177 (by decide) (by decide) (by decide) (by decide) (by decide)) (fun q y1 y2 => fr1 q (by omega) (by omega) (by omega) (by omega) (by omega))
  obtain ⟨⟨fs1, ⟨h177, -⟩, -⟩, -⟩ := id hM1
  show xz v0 xs u1 Q 177 262 _ [xi _] f1
  refine x_istore rfl (show (5 : Nat) < 7 from by decide) ?_
  refine x_aload_n rfl (xst_ne (by decide) l2 (Or.inl rfl)) ?_
  refine x_aload_n rfl (xst_ne (by decide) l0 (Or.inl rfl)) ?_
  refine x_iload rfl (xst_ne (by decide) l4 (Or.inl rfl)) ?_
  refine x_iconst rfl ?_
  refine x_iadd rfl ?_
  refine x_gia rfl ⟨by omega, by omega⟩ (by omega) ?_
  refine x_call [_, _] rfl rfl (show (0 : Nat) ≤ 8 from by decide) (show (2 : Nat) ≤ 2 from by decide) (x_rcv (by decide) h177) (sxq_K (vs := [.ref 177, xi _]) (xs_125 hM1 hI.2.2.1.1 (sKM_I hI1) hCK.2.2.2.2.2 ⟨y_lo _, y_hi _⟩) (xA125 hI1.1) ⟨ygr, ygt, trivial⟩ rfl rfl) (fun r2 f2 hP => ?_)
  obtain ⟨⟨rfl, hcd, hT2, fr2⟩, hD2, hk2⟩ := hP
  have hA2 : sA f2 := sCLO hI hF hR hD1 hT1 fr1 hD2 hk2 hT2 (fun q y1 y2 y3 => fr2 q y1 y2) (sHK_PF hH)
  refine x_istore rfl (show (6 : Nat) < 7 from by decide) ?_
  refine x_goto (t := 651) rfl rfl ?_
  exact Kn _ _ _ (xst_ne (by decide) (xst_ne (by decide) l0 (Or.inl rfl)) (Or.inl rfl)) (xst_ne (by decide) (xst_ne (by decide) l1 (Or.inl rfl)) (Or.inl rfl)) (xst_ne (by decide) (xst_ne (by decide) l2 (Or.inl rfl)) (Or.inl rfl)) (xst_ne (by decide) (xst_ne (by decide) l3 (Or.inl rfl)) (Or.inl rfl)) (xst_ne (by decide) (xst_ne (by decide) l4 (Or.inl rfl)) (Or.inl rfl)) hA2 b1 b2
set_option maxRecDepth 20000 in
theorem xK6 {v0 : Value} {xs : List Int32} {u : Nat × Nat} {Q : zO → zX → Prop} {f : Nat → zE} {lv : zL} {i : Nat} (hxs : xs.length ≤ 1536) (hi : i + 3 ≤ xs.length) (l0 : zlv lv 0 = some (.ref 0)) (l1 : zlv lv 1 = some (.ref 50)) (l2 : zlv lv 2 = some (.ref 177)) (l3 : zlv lv 3 = some (.ref 203)) (l4 : zlv lv 4 = some (xi (i : Nat))) (hA : sA f) (Kn : sKN v0 xs u Q i) : xz v0 xs u Q 177 279 lv [] f := by
  obtain ⟨n, cs, nms, bc, dp, tk0, K, G, R0, S, al, F, wy, hI, hF, hR⟩ := hA
  obtain ⟨hT, hMT, hH, ⟨hA1, hA2, hA3, hA4⟩, hF4, hWC, hWD⟩ := id hR
  have hCK := sCK_I hI
  refine x_aload_n rfl l1 ?_
  refine x_aload_n rfl l0 ?_
  refine x_iload rfl l4 ?_
  refine x_iconst rfl ?_
  refine x_iadd rfl ?_
  refine x_gia rfl ⟨by omega, by omega⟩ (by omega) ?_
  refine x_aload_n rfl l3 ?_
  refine x_callT [_, _, _] rfl rfl (show (0 : Nat) ≤ 8 from by decide) (show (3 : Nat) ≤ 4 from by decide) rfl (xF127 hI.1 (xA126 (xINV_n hI).2.2.1 (xINV_n hI).1 (xINV_n hI).2.1) (xs_126 hI.1 hT hCK ⟨y_lo _, y_hi _⟩) sPF_c) (fun r1 X1 hq => ?_) (fun x1 X1 hq => by obtain ⟨_, _, e1, -⟩ := hq; cases e1)
  obtain ⟨f1, u1, e1, e2, ⟨b1, b2⟩, hkb, hD1, hT1, h203, fr1⟩ := hq
  cases e1
  subst e2
  have hI1 := xINV_D hI hD1
  have hM1 : sMT f1 nms.length S := sMT_fr hMT (fr1 177 (by decide) (by decide) (by decide) (by decide) (by decide)) (fun q y1 y2 => fr1 q (by omega) (by omega) (by omega) (by omega) (by omega))
  obtain ⟨⟨fs1, ⟨h177, -⟩, -⟩, -⟩ := id hM1
  show xz v0 xs u1 Q 177 290 _ [xi _] f1
  refine x_istore rfl (show (5 : Nat) < 7 from by decide) ?_
  refine x_aload_n rfl (xst_ne (by decide) l2 (Or.inl rfl)) ?_
  refine x_aload_n rfl (xst_ne (by decide) l0 (Or.inl rfl)) ?_
  refine x_iload rfl (xst_ne (by decide) l4 (Or.inl rfl)) ?_
  refine x_iconst rfl ?_
  refine x_iadd rfl ?_
  refine x_gia rfl ⟨by omega, by omega⟩ (by omega) ?_
  refine x_call [_, _] rfl rfl (show (0 : Nat) ≤ 8 from by decide) (show (2 : Nat) ≤ 2 from by decide) (x_rcv (by decide) h177) (sxq_K (vs := [.ref 177, xi _]) (xs_128 hM1 hI.2.2.1.1 (sKM_I hI1) hCK.2.2.2.2.2 ⟨y_lo _, y_hi _⟩) (xA128 hI1.1) ⟨ygr, ygt, trivial⟩ rfl rfl) (fun r2 f2 hP => ?_)
  obtain ⟨⟨rfl, hcd, hT2, fr2⟩, hD2, hk2⟩ := hP
  have hA2 : sA f2 := sCLO hI hF hR hD1 hT1 fr1 hD2 hk2 hT2 (fun q y1 y2 y3 => fr2 q y1 y2) (sHK_PF hH)
  refine x_istore rfl (show (6 : Nat) < 7 from by decide) ?_
  refine x_goto (t := 651) rfl rfl ?_
  exact Kn _ _ _ (xst_ne (by decide) (xst_ne (by decide) l0 (Or.inl rfl)) (Or.inl rfl)) (xst_ne (by decide) (xst_ne (by decide) l1 (Or.inl rfl)) (Or.inl rfl)) (xst_ne (by decide) (xst_ne (by decide) l2 (Or.inl rfl)) (Or.inl rfl)) (xst_ne (by decide) (xst_ne (by decide) l3 (Or.inl rfl)) (Or.inl rfl)) (xst_ne (by decide) (xst_ne (by decide) l4 (Or.inl rfl)) (Or.inl rfl)) hA2 b1 b2
set_option maxRecDepth 20000 in
theorem xK8 {v0 : Value} {xs : List Int32} {u : Nat × Nat} {Q : zO → zX → Prop} {f : Nat → zE} {lv : zL} {i : Nat} (hxs : xs.length ≤ 1536) (hi : i + 3 ≤ xs.length) (l0 : zlv lv 0 = some (.ref 0)) (l1 : zlv lv 1 = some (.ref 50)) (l2 : zlv lv 2 = some (.ref 177)) (l3 : zlv lv 3 = some (.ref 203)) (l4 : zlv lv 4 = some (xi (i : Nat))) (hA : sA f) (Kn : sKN v0 xs u Q i) : xz v0 xs u Q 177 320 lv [] f := by
  obtain ⟨n, cs, nms, bc, dp, tk0, K, G, R0, S, al, F, wy, hI, hF, hR⟩ := hA
  obtain ⟨hT, hMT, hH, ⟨hA1, hA2, hA3, hA4⟩, hF4, hWC, hWD⟩ := id hR
  have hCK := sCK_I hI
  refine x_aload_n rfl l1 ?_
  refine x_aload_n rfl l3 ?_
  refine x_callT [_, _] rfl rfl (show (0 : Nat) ≤ 8 from by decide) (show (2 : Nat) ≤ 3 from by decide) rfl (xF132 hI.1 (xA131 hI.1) (xs_131 hI.1 hT (sHK_G hH hCK.2.2.2.2.2)) sUN_c) (fun r1 X1 hq => ?_) (fun x1 X1 hq => by obtain ⟨_, _, e1, -⟩ := hq; cases e1)
  obtain ⟨f1, u1, e1, e2, ⟨b1, b2⟩, hkb, hD1, hT1, h203, fr1⟩ := hq
  cases e1
  subst e2
  have hI1 := xINV_D hI hD1
  have hM1 : sMT f1 nms.length S := sMT_fr hMT (fr1 177 (by decide) (by decide) (by decide) (by decide) (by decide)) (fun q y1 y2 => fr1 q (by omega) (by omega) (by omega) (by omega) (by omega))
  obtain ⟨⟨fs1, ⟨h177, -⟩, -⟩, -⟩ := id hM1
  show xz v0 xs u1 Q 177 325 _ [xi _] f1
  refine x_istore rfl (show (5 : Nat) < 7 from by decide) ?_
  refine x_aload_n rfl (xst_ne (by decide) l2 (Or.inl rfl)) ?_
  refine x_call [_] rfl rfl (show (0 : Nat) ≤ 8 from by decide) (show (1 : Nat) ≤ 2 from by decide) (x_rcv (by decide) h177) (sxq_K (vs := [.ref 177]) (xs_134 hM1 hI.2.2.1.1 (sKM_I hI1) (fun i hi => (hH i hi).1)) (xA134 hI1.1) ⟨ygr, trivial⟩ rfl rfl) (fun r2 f2 hP => ?_)
  obtain ⟨⟨rfl, hcd, hT2, fr2⟩, hD2, hk2⟩ := hP
  have hA2 : sA f2 := sCLO hI hF hR hD1 hT1 fr1 hD2 hk2 hT2 (fun q y1 y2 y3 => fr2 q y1 y2) (sHK_UN hH)
  refine x_istore rfl (show (6 : Nat) < 7 from by decide) ?_
  refine x_goto (t := 651) rfl rfl ?_
  exact Kn _ _ _ (xst_ne (by decide) (xst_ne (by decide) l0 (Or.inl rfl)) (Or.inl rfl)) (xst_ne (by decide) (xst_ne (by decide) l1 (Or.inl rfl)) (Or.inl rfl)) (xst_ne (by decide) (xst_ne (by decide) l2 (Or.inl rfl)) (Or.inl rfl)) (xst_ne (by decide) (xst_ne (by decide) l3 (Or.inl rfl)) (Or.inl rfl)) (xst_ne (by decide) (xst_ne (by decide) l4 (Or.inl rfl)) (Or.inl rfl)) hA2 b1 b2
set_option maxRecDepth 20000 in
theorem xK10 {v0 : Value} {xs : List Int32} {u : Nat × Nat} {Q : zO → zX → Prop} {f : Nat → zE} {lv : zL} {i : Nat} (hxs : xs.length ≤ 1536) (hi : i + 3 ≤ xs.length) (l0 : zlv lv 0 = some (.ref 0)) (l1 : zlv lv 1 = some (.ref 50)) (l2 : zlv lv 2 = some (.ref 177)) (l3 : zlv lv 3 = some (.ref 203)) (l4 : zlv lv 4 = some (xi (i : Nat))) (hA : sA f) (Kn : sKN v0 xs u Q i) : xz v0 xs u Q 177 349 lv [] f := by
  obtain ⟨n, cs, nms, bc, dp, tk0, K, G, R0, S, al, F, wy, hI, hF, hR⟩ := hA
  obtain ⟨hT, hMT, hH, ⟨hA1, hA2, hA3, hA4⟩, hF4, hWC, hWD⟩ := id hR
  have hCK := sCK_I hI
  refine x_aload_n rfl l1 ?_
  refine x_aload_n rfl l0 ?_
  refine x_iload rfl l4 ?_
  refine x_iconst rfl ?_
  refine x_iadd rfl ?_
  refine x_gia rfl ⟨by omega, by omega⟩ (by omega) ?_
  refine x_aload_n rfl l0 ?_
  refine x_iload rfl l4 ?_
  refine x_iconst rfl ?_
  refine x_iadd rfl ?_
  refine x_gia rfl ⟨by omega, by omega⟩ (by omega) ?_
  refine x_aload_n rfl l3 ?_
  refine x_callT [_, _, _, _] rfl rfl (show (0 : Nat) ≤ 8 from by decide) (show (4 : Nat) ≤ 5 from by decide) rfl (xF139 hI.1 (xA138 hI.1) (xs_138 hT ⟨y_lo _, y_hi _⟩ ⟨y_lo _, y_hi _⟩) sWH_c) (fun r1 X1 hq => ?_) (fun x1 X1 hq => by obtain ⟨_, _, e1, -⟩ := hq; cases e1)
  obtain ⟨f1, u1, e1, e2, ⟨b1, b2⟩, hkb, hD1, hT1, h203, fr1⟩ := hq
  cases e1
  subst e2
  have hI1 := xINV_D hI hD1
  have hM1 : sMT f1 nms.length S := sMT_fr hMT (fr1 177 (by decide) (by decide) (by decide) (by decide) (by decide)) (fun q y1 y2 => fr1 q (by omega) (by omega) (by omega) (by omega) (by omega))
  obtain ⟨⟨fs1, ⟨h177, -⟩, -⟩, -⟩ := id hM1
  show xz v0 xs u1 Q 177 366 _ [xi _] f1
  refine x_istore rfl (show (5 : Nat) < 7 from by decide) ?_
  refine x_aload_n rfl (xst_ne (by decide) l2 (Or.inl rfl)) ?_
  refine x_aload_n rfl (xst_ne (by decide) l0 (Or.inl rfl)) ?_
  refine x_iload rfl (xst_ne (by decide) l4 (Or.inl rfl)) ?_
  refine x_iconst rfl ?_
  refine x_iadd rfl ?_
  refine x_gia rfl ⟨by omega, by omega⟩ (by omega) ?_
  refine x_aload_n rfl (xst_ne (by decide) l0 (Or.inl rfl)) ?_
  refine x_iload rfl (xst_ne (by decide) l4 (Or.inl rfl)) ?_
  refine x_iconst rfl ?_
  refine x_iadd rfl ?_
  refine x_gia rfl ⟨by omega, by omega⟩ (by omega) ?_
  refine x_call [_, _, _] rfl rfl (show (0 : Nat) ≤ 8 from by decide) (show (3 : Nat) ≤ 3 from by decide) (x_rcv (by decide) h177) (sxq_K (vs := [.ref 177, xi _, xi _]) (xs_141 hM1 ⟨y_lo _, y_hi _⟩ ⟨y_lo _, y_hi _⟩) (xA141 hI1.1) ⟨ygr, ygt, ygt, trivial⟩ rfl rfl) (fun r2 f2 hP => ?_)
  obtain ⟨⟨rfl, hcd, hT2, fr2⟩, hD2, hk2⟩ := hP
  have hA2 : sA f2 := sCLO hI hF hR hD1 hT1 fr1 hD2 hk2 hT2 (fun q y1 y2 y3 => fr2 q y1 y2) (by rw [sWH_s]; exact hH)
  refine x_istore rfl (show (6 : Nat) < 7 from by decide) ?_
  refine x_goto (t := 651) rfl rfl ?_
  exact Kn _ _ _ (xst_ne (by decide) (xst_ne (by decide) l0 (Or.inl rfl)) (Or.inl rfl)) (xst_ne (by decide) (xst_ne (by decide) l1 (Or.inl rfl)) (Or.inl rfl)) (xst_ne (by decide) (xst_ne (by decide) l2 (Or.inl rfl)) (Or.inl rfl)) (xst_ne (by decide) (xst_ne (by decide) l3 (Or.inl rfl)) (Or.inl rfl)) (xst_ne (by decide) (xst_ne (by decide) l4 (Or.inl rfl)) (Or.inl rfl)) hA2 b1 b2
set_option maxRecDepth 20000 in
theorem xK11 {v0 : Value} {xs : List Int32} {u : Nat × Nat} {Q : zO → zX → Prop} {f : Nat → zE} {lv : zL} {i : Nat} (hxs : xs.length ≤ 1536) (hi : i + 3 ≤ xs.length) (l0 : zlv lv 0 = some (.ref 0)) (l1 : zlv lv 1 = some (.ref 50)) (l2 : zlv lv 2 = some (.ref 177)) (l3 : zlv lv 3 = some (.ref 203)) (l4 : zlv lv 4 = some (xi (i : Nat))) (hA : sA f) (Kn : sKN v0 xs u Q i) : xz v0 xs u Q 177 389 lv [] f := by
  obtain ⟨n, cs, nms, bc, dp, tk0, K, G, R0, S, al, F, wy, hI, hF, hR⟩ := hA
  obtain ⟨hT, hMT, hH, ⟨hA1, hA2, hA3, hA4⟩, hF4, hWC, hWD⟩ := id hR
  have hCK := sCK_I hI
  refine x_aload_n rfl l1 ?_
  refine x_aload_n rfl l0 ?_
  refine x_iload rfl l4 ?_
  refine x_iconst rfl ?_
  refine x_iadd rfl ?_
  refine x_gia rfl ⟨by omega, by omega⟩ (by omega) ?_
  refine x_aload_n rfl l0 ?_
  refine x_iload rfl l4 ?_
  refine x_iconst rfl ?_
  refine x_iadd rfl ?_
  refine x_gia rfl ⟨by omega, by omega⟩ (by omega) ?_
  refine x_aload_n rfl l3 ?_
  refine x_callT [_, _, _, _] rfl rfl (show (0 : Nat) ≤ 8 from by decide) (show (4 : Nat) ≤ 5 from by decide) rfl (xF144 hI.1 (xA143 hI.1) (xs_143 hI.1 hT (sHK_G hH hCK.2.2.2.2.2) ⟨y_lo _, y_hi _⟩ ⟨y_lo _, y_hi _⟩) sSD_c) (fun r1 X1 hq => ?_) (fun x1 X1 hq => by obtain ⟨_, _, e1, -⟩ := hq; cases e1)
  obtain ⟨f1, u1, e1, e2, ⟨b1, b2⟩, hkb, hD1, hT1, h203, fr1⟩ := hq
  cases e1
  subst e2
  have hI1 := xINV_D hI hD1
  have hM1 : sMT f1 nms.length S := sMT_fr hMT (fr1 177 (by decide) (by decide) (by decide) (by decide) (by decide)) (fun q y1 y2 => fr1 q (by omega) (by omega) (by omega) (by omega) (by omega))
  obtain ⟨⟨fs1, ⟨h177, -⟩, -⟩, -⟩ := id hM1
  show xz v0 xs u1 Q 177 406 _ [xi _] f1
  refine x_istore rfl (show (5 : Nat) < 7 from by decide) ?_
  refine x_aload_n rfl (xst_ne (by decide) l2 (Or.inl rfl)) ?_
  refine x_aload_n rfl (xst_ne (by decide) l0 (Or.inl rfl)) ?_
  refine x_iload rfl (xst_ne (by decide) l4 (Or.inl rfl)) ?_
  refine x_iconst rfl ?_
  refine x_iadd rfl ?_
  refine x_gia rfl ⟨by omega, by omega⟩ (by omega) ?_
  refine x_aload_n rfl (xst_ne (by decide) l0 (Or.inl rfl)) ?_
  refine x_iload rfl (xst_ne (by decide) l4 (Or.inl rfl)) ?_
  refine x_iconst rfl ?_
  refine x_iadd rfl ?_
  refine x_gia rfl ⟨by omega, by omega⟩ (by omega) ?_
  refine x_call [_, _, _] rfl rfl (show (0 : Nat) ≤ 8 from by decide) (show (3 : Nat) ≤ 4 from by decide) (x_rcv (by decide) h177) (sxq_K (vs := [.ref 177, xi _, xi _]) (xs_145 hM1 hI.2.2.1.1 (sKM_I hI1) hCK.2.2.2.2.2 hH ⟨y_lo _, y_hi _⟩ ⟨y_lo _, y_hi _⟩) (xA145 hI1.1) ⟨ygr, ygt, ygt, trivial⟩ rfl rfl) (fun r2 f2 hP => ?_)
  obtain ⟨⟨rfl, hcd, hT2, fr2⟩, hD2, hk2⟩ := hP
  have hA2 : sA f2 := sCLO hI hF hR hD1 hT1 fr1 hD2 hk2 hT2 (fun q y1 y2 y3 => fr2 q y1 y2) (by rw [sSD_s]; exact hH)
  refine x_istore rfl (show (6 : Nat) < 7 from by decide) ?_
  refine x_goto (t := 651) rfl rfl ?_
  exact Kn _ _ _ (xst_ne (by decide) (xst_ne (by decide) l0 (Or.inl rfl)) (Or.inl rfl)) (xst_ne (by decide) (xst_ne (by decide) l1 (Or.inl rfl)) (Or.inl rfl)) (xst_ne (by decide) (xst_ne (by decide) l2 (Or.inl rfl)) (Or.inl rfl)) (xst_ne (by decide) (xst_ne (by decide) l3 (Or.inl rfl)) (Or.inl rfl)) (xst_ne (by decide) (xst_ne (by decide) l4 (Or.inl rfl)) (Or.inl rfl)) hA2 b1 b2
set_option maxRecDepth 20000 in
theorem xK12 {v0 : Value} {xs : List Int32} {u : Nat × Nat} {Q : zO → zX → Prop} {f : Nat → zE} {lv : zL} {i : Nat} (hxs : xs.length ≤ 1536) (hi : i + 3 ≤ xs.length) (l0 : zlv lv 0 = some (.ref 0)) (l1 : zlv lv 1 = some (.ref 50)) (l2 : zlv lv 2 = some (.ref 177)) (l3 : zlv lv 3 = some (.ref 203)) (l4 : zlv lv 4 = some (xi (i : Nat))) (hA : sA f) (Kn : sKN v0 xs u Q i) : xz v0 xs u Q 177 429 lv [] f := by
  obtain ⟨n, cs, nms, bc, dp, tk0, K, G, R0, S, al, F, wy, hI, hF, hR⟩ := hA
  obtain ⟨hT, hMT, hH, ⟨hA1, hA2, hA3, hA4⟩, hF4, hWC, hWD⟩ := id hR
  have hCK := sCK_I hI
  refine x_aload_n rfl l1 ?_
  refine x_aload_n rfl l0 ?_
  refine x_iload rfl l4 ?_
  refine x_iconst rfl ?_
  refine x_iadd rfl ?_
  refine x_gia rfl ⟨by omega, by omega⟩ (by omega) ?_
  refine x_aload_n rfl l0 ?_
  refine x_iload rfl l4 ?_
  refine x_iconst rfl ?_
  refine x_iadd rfl ?_
  refine x_gia rfl ⟨by omega, by omega⟩ (by omega) ?_
  refine x_aload_n rfl l3 ?_
  refine x_callT [_, _, _, _] rfl rfl (show (0 : Nat) ≤ 8 from by decide) (show (4 : Nat) ≤ 5 from by decide) rfl (xF147 hI.1 (xA146 hI.1) (xs_146 hI.1 hT ⟨y_lo _, y_hi _⟩ ⟨y_lo _, y_hi _⟩) sSL_c sSL_b) (fun r1 X1 hq => ?_) (fun x1 X1 hq => by obtain ⟨_, _, e1, -⟩ := hq; cases e1)
  obtain ⟨f1, u1, e1, e2, ⟨b1, b2⟩, hkb, hD1, hT1, h203, fr1⟩ := hq
  cases e1
  subst e2
  have hI1 := xINV_D hI hD1
  have hM1 : sMT f1 nms.length S := sMT_fr hMT (fr1 177 (by decide) (by decide) (by decide) (by decide) (by decide)) (fun q y1 y2 => fr1 q (by omega) (by omega) (by omega) (by omega) (by omega))
  obtain ⟨⟨fs1, ⟨h177, -⟩, -⟩, -⟩ := id hM1
  show xz v0 xs u1 Q 177 446 _ [xi _] f1
  refine x_istore rfl (show (5 : Nat) < 7 from by decide) ?_
  refine x_aload_n rfl (xst_ne (by decide) l2 (Or.inl rfl)) ?_
  refine x_aload_n rfl (xst_ne (by decide) l0 (Or.inl rfl)) ?_
  refine x_iload rfl (xst_ne (by decide) l4 (Or.inl rfl)) ?_
  refine x_iconst rfl ?_
  refine x_iadd rfl ?_
  refine x_gia rfl ⟨by omega, by omega⟩ (by omega) ?_
  refine x_aload_n rfl (xst_ne (by decide) l0 (Or.inl rfl)) ?_
  refine x_iload rfl (xst_ne (by decide) l4 (Or.inl rfl)) ?_
  refine x_iconst rfl ?_
  refine x_iadd rfl ?_
  refine x_gia rfl ⟨by omega, by omega⟩ (by omega) ?_
  refine x_call [_, _, _] rfl rfl (show (0 : Nat) ≤ 8 from by decide) (show (3 : Nat) ≤ 3 from by decide) (x_rcv (by decide) h177) (sxq_K (vs := [.ref 177, xi _, xi _]) (xs_148 hM1 ⟨y_lo _, y_hi _⟩ ⟨y_lo _, y_hi _⟩) (xA148 hI1.1) ⟨ygr, ygt, ygt, trivial⟩ rfl rfl) (fun r2 f2 hP => ?_)
  obtain ⟨⟨rfl, hcd, hT2, fr2⟩, hD2, hk2⟩ := hP
  have hA2 : sA f2 := sCLO hI hF hR hD1 hT1 fr1 hD2 hk2 hT2 (fun q y1 y2 y3 => fr2 q y1 y2) (by rw [sSL_s]; exact hH)
  refine x_istore rfl (show (6 : Nat) < 7 from by decide) ?_
  refine x_goto (t := 651) rfl rfl ?_
  exact Kn _ _ _ (xst_ne (by decide) (xst_ne (by decide) l0 (Or.inl rfl)) (Or.inl rfl)) (xst_ne (by decide) (xst_ne (by decide) l1 (Or.inl rfl)) (Or.inl rfl)) (xst_ne (by decide) (xst_ne (by decide) l2 (Or.inl rfl)) (Or.inl rfl)) (xst_ne (by decide) (xst_ne (by decide) l3 (Or.inl rfl)) (Or.inl rfl)) (xst_ne (by decide) (xst_ne (by decide) l4 (Or.inl rfl)) (Or.inl rfl)) hA2 b1 b2
set_option maxRecDepth 20000 in
theorem xK16 {v0 : Value} {xs : List Int32} {u : Nat × Nat} {Q : zO → zX → Prop} {f : Nat → zE} {lv : zL} {i : Nat} (hxs : xs.length ≤ 1536) (hi : i + 3 ≤ xs.length) (l0 : zlv lv 0 = some (.ref 0)) (l1 : zlv lv 1 = some (.ref 50)) (l2 : zlv lv 2 = some (.ref 177)) (l3 : zlv lv 3 = some (.ref 203)) (l4 : zlv lv 4 = some (xi (i : Nat))) (hA : sA f) (Kn : sKN v0 xs u Q i) : xz v0 xs u Q 177 548 lv [] f := by
  obtain ⟨n, cs, nms, bc, dp, tk0, K, G, R0, S, al, F, wy, hI, hF, hR⟩ := hA
  obtain ⟨hT, hMT, hH, ⟨hA1, hA2, hA3, hA4⟩, hF4, hWC, hWD⟩ := id hR
  have hCK := sCK_I hI
  refine x_aload_n rfl l1 ?_
  refine x_aload_n rfl l0 ?_
  refine x_iload rfl l4 ?_
  refine x_iconst rfl ?_
  refine x_iadd rfl ?_
  refine x_gia rfl ⟨by omega, by omega⟩ (by omega) ?_
  refine x_aload_n rfl l3 ?_
  refine x_callT [_, _, _] rfl rfl (show (0 : Nat) ≤ 8 from by decide) (show (3 : Nat) ≤ 4 from by decide) rfl (xF170 hI.1 (xA169 hI.1) (xs_169 hT hF4 hWC ⟨y_lo _, y_hi _⟩) sWR_c) (fun r1 X1 hq => ?_) (fun x1 X1 hq => by obtain ⟨_, _, e1, -⟩ := hq; cases e1)
  obtain ⟨f1, u1, e1, e2, ⟨b1, b2⟩, hkb, hD1, hT1, h203, fr1⟩ := hq
  cases e1
  subst e2
  have hI1 := xINV_D hI hD1
  have hM1 : sMT f1 nms.length S := sMT_fr hMT (fr1 177 (by decide) (by decide) (by decide) (by decide) (by decide)) (fun q y1 y2 => fr1 q (by omega) (by omega) (by omega) (by omega) (by omega))
  obtain ⟨⟨fs1, ⟨h177, -⟩, -⟩, -⟩ := id hM1
  have hWD1 : sWD f1 F wy := sWD_fr hWD (sKp_e (fr1 177 (by decide) (by decide) (by decide) (by decide) (by decide))) (fr1 199 (by decide) (by decide) (by decide) (by decide) (by decide))
  show xz v0 xs u1 Q 177 559 _ [xi _] f1
  refine x_istore rfl (show (5 : Nat) < 7 from by decide) ?_
  refine x_aload_n rfl (xst_ne (by decide) l2 (Or.inl rfl)) ?_
  refine x_aload_n rfl (xst_ne (by decide) l0 (Or.inl rfl)) ?_
  refine x_iload rfl (xst_ne (by decide) l4 (Or.inl rfl)) ?_
  refine x_iconst rfl ?_
  refine x_iadd rfl ?_
  refine x_gia rfl ⟨by omega, by omega⟩ (by omega) ?_
  refine x_call [_, _] rfl rfl (show (0 : Nat) ≤ 8 from by decide) (show (2 : Nat) ≤ 2 from by decide) (x_rcv (by decide) h177) (sxq_K (vs := [.ref 177, xi _]) (xs_171 hI1.1 hM1 hF4 hWD1 ⟨y_lo _, y_hi _⟩) (xA171 hI1.1) ⟨ygr, ygt, trivial⟩ rfl rfl) (fun r2 f2 hP => ?_)
  obtain ⟨⟨rfl, hcd, hT2, fr2⟩, hD2, hk2⟩ := hP
  have hA2 : sA f2 := sCLO hI hF hR hD1 hT1 fr1 hD2 hk2 hT2 (fun q y1 y2 y3 => fr2 q y1 y2) (by rw [sWR_s]; exact hH)
  refine x_istore rfl (show (6 : Nat) < 7 from by decide) ?_
  refine x_goto (t := 651) rfl rfl ?_
  exact Kn _ _ _ (xst_ne (by decide) (xst_ne (by decide) l0 (Or.inl rfl)) (Or.inl rfl)) (xst_ne (by decide) (xst_ne (by decide) l1 (Or.inl rfl)) (Or.inl rfl)) (xst_ne (by decide) (xst_ne (by decide) l2 (Or.inl rfl)) (Or.inl rfl)) (xst_ne (by decide) (xst_ne (by decide) l3 (Or.inl rfl)) (Or.inl rfl)) (xst_ne (by decide) (xst_ne (by decide) l4 (Or.inl rfl)) (Or.inl rfl)) hA2 b1 b2
set_option maxRecDepth 20000 in
theorem xK17 {v0 : Value} {xs : List Int32} {u : Nat × Nat} {Q : zO → zX → Prop} {f : Nat → zE} {lv : zL} {i : Nat} (hxs : xs.length ≤ 1536) (hi : i + 3 ≤ xs.length) (l0 : zlv lv 0 = some (.ref 0)) (l1 : zlv lv 1 = some (.ref 50)) (l2 : zlv lv 2 = some (.ref 177)) (l3 : zlv lv 3 = some (.ref 203)) (l4 : zlv lv 4 = some (xi (i : Nat))) (hA : sA f) (Kn : sKN v0 xs u Q i) : xz v0 xs u Q 177 576 lv [] f := by
  obtain ⟨n, cs, nms, bc, dp, tk0, K, G, R0, S, al, F, wy, hI, hF, hR⟩ := hA
  obtain ⟨hT, hMT, hH, ⟨hA1, hA2, hA3, hA4⟩, hF4, hWC, hWD⟩ := id hR
  have hCK := sCK_I hI
  refine x_aload_n rfl l1 ?_
  refine x_aload_n rfl l0 ?_
  refine x_iload rfl l4 ?_
  refine x_iconst rfl ?_
  refine x_iadd rfl ?_
  refine x_gia rfl ⟨by omega, by omega⟩ (by omega) ?_
  refine x_aload_n rfl l0 ?_
  refine x_iload rfl l4 ?_
  refine x_iconst rfl ?_
  refine x_iadd rfl ?_
  refine x_gia rfl ⟨by omega, by omega⟩ (by omega) ?_
  refine x_aload_n rfl l3 ?_
  refine x_callT [_, _, _, _] rfl rfl (show (0 : Nat) ≤ 8 from by decide) (show (4 : Nat) ≤ 5 from by decide) rfl (xF174 hI.1 (xA173 (xINV_n hI).2.2.1 (xINV_n hI).1 (xINV_n hI).2.1) (xs_173 hI.1 hT hCK ⟨y_lo _, y_hi _⟩ ⟨y_lo _, y_hi _⟩) sSM_c sSM_b) (fun r1 X1 hq => ?_) (fun x1 X1 hq => by obtain ⟨_, _, e1, -⟩ := hq; cases e1)
  obtain ⟨f1, u1, e1, e2, ⟨b1, b2⟩, hkb, hD1, hT1, h203, fr1⟩ := hq
  cases e1
  subst e2
  have hI1 := xINV_D hI hD1
  have hM1 : sMT f1 nms.length S := sMT_fr hMT (fr1 177 (by decide) (by decide) (by decide) (by decide) (by decide)) (fun q y1 y2 => fr1 q (by omega) (by omega) (by omega) (by omega) (by omega))
  obtain ⟨⟨fs1, ⟨h177, -⟩, -⟩, -⟩ := id hM1
  show xz v0 xs u1 Q 177 593 _ [xi _] f1
  refine x_istore rfl (show (5 : Nat) < 7 from by decide) ?_
  refine x_aload_n rfl (xst_ne (by decide) l2 (Or.inl rfl)) ?_
  refine x_aload_n rfl (xst_ne (by decide) l0 (Or.inl rfl)) ?_
  refine x_iload rfl (xst_ne (by decide) l4 (Or.inl rfl)) ?_
  refine x_iconst rfl ?_
  refine x_iadd rfl ?_
  refine x_gia rfl ⟨by omega, by omega⟩ (by omega) ?_
  refine x_aload_n rfl (xst_ne (by decide) l0 (Or.inl rfl)) ?_
  refine x_iload rfl (xst_ne (by decide) l4 (Or.inl rfl)) ?_
  refine x_iconst rfl ?_
  refine x_iadd rfl ?_
  refine x_gia rfl ⟨by omega, by omega⟩ (by omega) ?_
  refine x_call [_, _, _] rfl rfl (show (0 : Nat) ≤ 8 from by decide) (show (3 : Nat) ≤ 9 from by decide) (x_rcv (by decide) h177) (sxq_K (vs := [.ref 177, xi _, xi _]) (xs_176 hI1.1 hM1 hI.2.2.1.1 (sKM_I hI1) hCK.2.2.2.2.2 ⟨y_lo _, y_hi _⟩ ⟨y_lo _, y_hi _⟩) (xA176 hI1.1) ⟨ygr, ygt, ygt, trivial⟩ rfl rfl) (fun r2 f2 hP => ?_)
  obtain ⟨⟨rfl, hcd, hT2, fr2⟩, hD2, hk2⟩ := hP
  have hA2 : sA f2 := sCLO hI hF hR hD1 hT1 fr1 hD2 hk2 hT2 (fun q y1 y2 y3 => fr2 q y1 y2 y3) (by rw [sSM_s]; exact hH)
  refine x_istore rfl (show (6 : Nat) < 7 from by decide) ?_
  exact xcmp (xst_ne (by decide) (xst_ne (by decide) l0 (Or.inl rfl)) (Or.inl rfl)) (xst_ne (by decide) (xst_ne (by decide) l1 (Or.inl rfl)) (Or.inl rfl)) (xst_ne (by decide) (xst_ne (by decide) l2 (Or.inl rfl)) (Or.inl rfl)) (xst_ne (by decide) (xst_ne (by decide) l3 (Or.inl rfl)) (Or.inl rfl)) (xst_ne (by decide) (xst_ne (by decide) l4 (Or.inl rfl)) (Or.inl rfl)) (xst_ne (by decide) xst_eq (Or.inl rfl)) xst_eq hA2 b1 b2 Kn ⟨hkb, hcd, fun h => (fr2 203 (by decide) (by decide) (by decide)).trans (h203 h)⟩ sSM_b
set_option maxRecDepth 20000 in
theorem xK3 {v0 : Value} {xs : List Int32} {u : Nat × Nat} {Q : zO → zX → Prop} {f : Nat → zE} {lv : zL} {i : Nat} (hxs : xs.length ≤ 1536) (hi : i + 3 ≤ xs.length) (l0 : zlv lv 0 = some (.ref 0)) (l1 : zlv lv 1 = some (.ref 50)) (l2 : zlv lv 2 = some (.ref 177)) (l3 : zlv lv 3 = some (.ref 203)) (l4 : zlv lv 4 = some (xi (i : Nat))) (hA : sA f) (Kn : sKN v0 xs u Q i) : xz v0 xs u Q 177 210 lv [] f := by
  obtain ⟨n, cs, nms, bc, dp, tk0, K, G, R0, S, al, F, wy, hI, hF, hR⟩ := hA
  obtain ⟨hT, hMT, hH, ⟨hA1, hA2, hA3, hA4⟩, hF4, hWC, hWD⟩ := id hR
  obtain ⟨dd, lf, lc, h50x, -⟩ := xINV_50 hI.1
  obtain ⟨z, hz, ⟨fs, h50, h11⟩, -⟩ := id hF
  refine x_aload_n rfl l1 ?_
  refine x_call [_] rfl rfl (show (0 : Nat) ≤ 8 from by decide) (show (1 : Nat) ≤ 1 from by decide) (x_rcv (by decide) h50x) (sVQ (vs := [.ref 50]) (xs_83 hT h50 h11) (xA83 hI.1) ⟨ygr, trivial⟩ rfl) (fun r1 f1 hP => ?_)
  obtain ⟨rfl, hD1, hT1, fr1⟩ := hP
  have hI1 := xINV_D hI hD1
  have hM1 : sMT f1 nms.length S := sMT_fr hMT (fr1 177 (by decide) (by decide) (by decide) (by decide) (by decide)) (fun q y1 y2 => fr1 q (by omega) (by omega) (by omega) (by omega) (by omega))
  obtain ⟨z2, hz2, ⟨gs, k50, k11⟩, fs1, h177, h3⟩ := xFT_D hF hD1
  refine x_pop rfl ?_
  refine x_aload_n rfl l2 ?_
  refine x_call [_] rfl rfl (show (0 : Nat) ≤ 8 from by decide) (show (1 : Nat) ≤ 1 from by decide) (x_rcv (by decide) h177) (sxq_K (vs := [.ref 177]) (xs_84 hM1 h177 h3) (xA84 hI1.1) ⟨ygr, trivial⟩ rfl rfl) (fun r2 f2 hP => ?_)
  obtain ⟨⟨rfl, hcd, hT2, fr2⟩, hD2, hk2⟩ := hP
  have hA2 : sA f2 := sCLO hI hF hR hD1 hT1 fr1 hD2 hk2 hT2 (fun q y1 y2 y3 => fr2 q y1 y2) hH
  refine x_pop rfl ?_
  refine x_goto (t := 651) rfl rfl ?_
  exact Kn _ _ _ l0 l1 l2 l3 l4 hA2 (by omega) (by omega)
set_option maxRecDepth 20000 in
theorem xK7 {v0 : Value} {xs : List Int32} {u : Nat × Nat} {Q : zO → zX → Prop} {f : Nat → zE} {lv : zL} {i : Nat} (hxs : xs.length ≤ 1536) (hi : i + 3 ≤ xs.length) (l0 : zlv lv 0 = some (.ref 0)) (l1 : zlv lv 1 = some (.ref 50)) (l2 : zlv lv 2 = some (.ref 177)) (l3 : zlv lv 3 = some (.ref 203)) (l4 : zlv lv 4 = some (xi (i : Nat))) (hA : sA f) (Kn : sKN v0 xs u Q i) : xz v0 xs u Q 177 307 lv [] f := by
  obtain ⟨n, cs, nms, bc, dp, tk0, K, G, R0, S, al, F, wy, hI, hF, hR⟩ := hA
  obtain ⟨hT, hMT, hH, ⟨hA1, hA2, hA3, hA4⟩, hF4, hWC, hWD⟩ := id hR
  obtain ⟨dd, lf, lc, h50x, -⟩ := xINV_50 hI.1
  refine x_aload_n rfl l1 ?_
  refine x_call [_] rfl rfl (show (0 : Nat) ≤ 8 from by decide) (show (1 : Nat) ≤ 1 from by decide) (x_rcv (by decide) h50x) (sVQ (vs := [.ref 50]) (xs_129 hT) (xA129 hI.1) ⟨ygr, trivial⟩ rfl) (fun r1 f1 hP => ?_)
  obtain ⟨rfl, hD1, hT1, fr1⟩ := hP
  have hI1 := xINV_D hI hD1
  have hM1 : sMT f1 nms.length S := sMT_fr hMT (fr1 177 (by decide) (by decide) (by decide) (by decide) (by decide)) (fun q y1 y2 => fr1 q (by omega) (by omega) (by omega) (by omega) (by omega))
  obtain ⟨⟨fs1, ⟨h177, -⟩, -⟩, -⟩ := id hM1
  refine x_pop rfl ?_
  refine x_aload_n rfl l2 ?_
  refine x_call [_] rfl rfl (show (0 : Nat) ≤ 8 from by decide) (show (1 : Nat) ≤ 1 from by decide) (x_rcv (by decide) h177) (sxq_K (vs := [.ref 177]) (xs_130 hM1) (xA130 hI1.1) ⟨ygr, trivial⟩ rfl rfl) (fun r2 f2 hP => ?_)
  obtain ⟨⟨rfl, hcd, hT2, fr2⟩, hD2, hk2⟩ := hP
  have hA2 : sA f2 := sCLO hI hF hR hD1 hT1 fr1 hD2 hk2 hT2 (fun q y1 y2 y3 => fr2 q y1 y2) hH
  refine x_pop rfl ?_
  refine x_goto (t := 651) rfl rfl ?_
  exact Kn _ _ _ l0 l1 l2 l3 l4 hA2 (by omega) (by omega)
set_option maxRecDepth 20000 in
theorem xK9 {v0 : Value} {xs : List Int32} {u : Nat × Nat} {Q : zO → zX → Prop} {f : Nat → zE} {lv : zL} {i : Nat} (hxs : xs.length ≤ 1536) (hi : i + 3 ≤ xs.length) (l0 : zlv lv 0 = some (.ref 0)) (l1 : zlv lv 1 = some (.ref 50)) (l2 : zlv lv 2 = some (.ref 177)) (l3 : zlv lv 3 = some (.ref 203)) (l4 : zlv lv 4 = some (xi (i : Nat))) (hA : sA f) (Kn : sKN v0 xs u Q i) : xz v0 xs u Q 177 336 lv [] f := by
  obtain ⟨n, cs, nms, bc, dp, tk0, K, G, R0, S, al, F, wy, hI, hF, hR⟩ := hA
  obtain ⟨hT, hMT, hH, ⟨hA1, hA2, hA3, hA4⟩, hF4, hWC, hWD⟩ := id hR
  obtain ⟨dd, lf, lc, h50x, -⟩ := xINV_50 hI.1
  refine x_aload_n rfl l1 ?_
  refine x_call [_] rfl rfl (show (0 : Nat) ≤ 8 from by decide) (show (1 : Nat) ≤ 2 from by decide) (x_rcv (by decide) h50x) (sVQ (vs := [.ref 50]) (xs_135 hT) (xA135 hI.1) ⟨ygr, trivial⟩ rfl) (fun r1 f1 hP => ?_)
  obtain ⟨rfl, hD1, hT1, fr1⟩ := hP
  have hI1 := xINV_D hI hD1
  have hM1 : sMT f1 nms.length S := sMT_fr hMT (fr1 177 (by decide) (by decide) (by decide) (by decide) (by decide)) (fun q y1 y2 => fr1 q (by omega) (by omega) (by omega) (by omega) (by omega))
  obtain ⟨⟨fs1, ⟨h177, -⟩, -⟩, -⟩ := id hM1
  refine x_pop rfl ?_
  refine x_aload_n rfl l2 ?_
  refine x_call [_] rfl rfl (show (0 : Nat) ≤ 8 from by decide) (show (1 : Nat) ≤ 3 from by decide) (x_rcv (by decide) h177) (sxq_K (vs := [.ref 177]) (xs_136 hM1) (xA136 hI1.1) ⟨ygr, trivial⟩ rfl rfl) (fun r2 f2 hP => ?_)
  obtain ⟨⟨rfl, hcd, hT2, fr2⟩, hD2, hk2⟩ := hP
  have hA2 : sA f2 := sCLO hI hF hR hD1 hT1 fr1 hD2 hk2 hT2 (fun q y1 y2 y3 => fr2 q y1 y2) (fun i hi => absurd hi (Nat.not_lt_zero i))
  refine x_pop rfl ?_
  refine x_goto (t := 651) rfl rfl ?_
  exact Kn _ _ _ l0 l1 l2 l3 l4 hA2 (by omega) (by omega)
set_option maxRecDepth 20000 in
theorem xK13 {v0 : Value} {xs : List Int32} {u : Nat × Nat} {Q : zO → zX → Prop} {f : Nat → zE} {lv : zL} {i : Nat} (hxs : xs.length ≤ 1536) (hi : i + 3 ≤ xs.length) (l0 : zlv lv 0 = some (.ref 0)) (l1 : zlv lv 1 = some (.ref 50)) (l2 : zlv lv 2 = some (.ref 177)) (l3 : zlv lv 3 = some (.ref 203)) (l4 : zlv lv 4 = some (xi (i : Nat))) (hA : sA f) (Kn : sKN v0 xs u Q i) : xz v0 xs u Q 177 469 lv [] f := by
  obtain ⟨n, cs, nms, bc, dp, tk0, K, G, R0, S, al, F, wy, hI, hF, hR⟩ := hA
  obtain ⟨hT, hMT, hH, ⟨hA1, hA2, hA3, hA4⟩, hF4, hWC, hWD⟩ := id hR
  obtain ⟨dd, lf, lc, h50x, -⟩ := xINV_50 hI.1
  refine x_aload_n rfl l1 ?_
  refine x_call [_] rfl rfl (show (0 : Nat) ≤ 8 from by decide) (show (1 : Nat) ≤ 1 from by decide) (x_rcv (by decide) h50x) (sVQ (vs := [.ref 50]) (xs_151 hT) (xA151 hI.1) ⟨ygr, trivial⟩ rfl) (fun r1 f1 hP => ?_)
  obtain ⟨rfl, hD1, hT1, fr1⟩ := hP
  have hI1 := xINV_D hI hD1
  have hM1 : sMT f1 nms.length S := sMT_fr hMT (fr1 177 (by decide) (by decide) (by decide) (by decide) (by decide)) (fun q y1 y2 => fr1 q (by omega) (by omega) (by omega) (by omega) (by omega))
  obtain ⟨⟨fs1, ⟨h177, -⟩, -⟩, -⟩ := id hM1
  refine x_pop rfl ?_
  refine x_aload_n rfl l2 ?_
  refine x_call [_] rfl rfl (show (0 : Nat) ≤ 8 from by decide) (show (1 : Nat) ≤ 11 from by decide) (x_rcv (by decide) h177) (sxq_K (vs := [.ref 177]) (xs_152 hM1) (xA152 hI1.1) ⟨ygr, trivial⟩ rfl rfl) (fun r2 f2 hP => ?_)
  obtain ⟨⟨rfl, hcd, hT2, fr2⟩, hD2, hk2⟩ := hP
  have hA2 : sA f2 := sCLO hI hF hR hD1 hT1 fr1 hD2 hk2 hT2 (fun q y1 y2 y3 => fr2 q y1 y2) hH
  refine x_pop rfl ?_
  refine x_goto (t := 651) rfl rfl ?_
  exact Kn _ _ _ l0 l1 l2 l3 l4 hA2 (by omega) (by omega)
theorem wres_rg {b : Nat → List sB} {al : Nat → Bool} {n : Nat} {r : Nat → Int} : -1 ≤ (wres b al n r).1 ∧ (wres b al n r).1 ≤ 4 := by
  unfold wres
  split
  · exact ⟨by decide, by decide⟩
  · have h := wrs_rg (b := b) (al := al) (n := n) (r := r) 4 1
    omega
set_option maxRecDepth 20000 in
theorem xK15 {v0 : Value} {xs : List Int32} {u : Nat × Nat} {Q : zO → zX → Prop} {f : Nat → zE} {lv : zL} {i : Nat} (hxs : xs.length ≤ 1536) (hi : i + 3 ≤ xs.length) (l0 : zlv lv 0 = some (.ref 0)) (l1 : zlv lv 1 = some (.ref 50)) (l2 : zlv lv 2 = some (.ref 177)) (l3 : zlv lv 3 = some (.ref 203)) (l4 : zlv lv 4 = some (xi (i : Nat))) (hA : sA f) (Kn : sKN v0 xs u Q i) : xz v0 xs u Q 177 535 lv [] f := by
  obtain ⟨n, cs, nms, bc, dp, tk0, K, G, R0, S, al, F, wy, hI, hF, hR⟩ := hA
  obtain ⟨hT, hMT, hH, ⟨hA1, hA2, hA3, hA4⟩, hF4, hWC, hWD⟩ := id hR
  have hCK := sCK_I hI
  obtain ⟨dd, lf, lc, h50x, -⟩ := xINV_50 hI.1
  refine x_aload_n rfl l1 ?_
  refine x_call [_] rfl rfl (show (0 : Nat) ≤ 8 from by decide) (show (1 : Nat) ≤ 1 from by decide) (x_rcv (by decide) h50x) (sxq_D (vs := [.ref 50]) (xs_163 hI.1 hT hCK hA1 hA4) (xA163 (xINV_n hI).2.2.1 (xINV_n hI).1 (xINV_n hI).2.1) ⟨ygr, trivial⟩) (fun r1 f1 hP => ?_)
  obtain ⟨⟨rfl, hT1, hWC1, fr1⟩, hD1⟩ := hP
  have hI1 := xINV_D hI hD1
  have hM1 : sMT f1 nms.length S := sMT_fr hMT (fr1 177 (by decide) (by decide) (by decide)) (fun q y1 y2 => fr1 q (by omega) (by omega) (by omega))
  obtain ⟨⟨fs1, ⟨h177, -⟩, -⟩, -⟩ := id hM1
  have hA21 := sAD_fr hA2 (fr1 198 (by decide) (by decide) (by decide))
  refine x_pop rfl ?_
  refine x_aload_n rfl l2 ?_
  refine x_call [_] rfl rfl (show (0 : Nat) ≤ 8 from by decide) (show (1 : Nat) ≤ 2 from by decide) (x_rcv (by decide) h177) (sxq_D (vs := [.ref 177]) (xs_168 hI1.1 hM1 hI.2.2.1.1 (sKM_I hI1) hCK.2.2.2.2.2 hA21) (xA168 hI1.1) ⟨ygr, trivial⟩) (fun r2 f2 hP => ?_)
  obtain ⟨⟨rfl, hcd, hT2, hWD2, fr2⟩, hD2⟩ := hP
  have hA3 : sA f2 := ⟨n, cs, nms, bc, dp, tk0, K, G, R0, S, al, _, _, xINV_D hI1 hD2, xFT_D (xFT_D hF hD1) hD2, sCT_f hT1 (fr2 50 (by decide) (by decide) (by decide)) (fun q y1 y2 => fr2 q (by omega) (by omega) (by omega)), hT2, hH, ⟨sAC_fr hA1 (fun q y1 y2 => (fr2 q (by omega) (by omega) (by omega)).trans (fr1 q (by omega) (by omega) (by omega))), sAD_fr hA21 (fr2 198 (by decide) (by decide) (by decide)), hA3, hA4⟩, wres_rg, sWC_fr hWC1 (fr2 117 (by decide) (by decide) (by decide)) (fr2 121 (by decide) (by decide) (by decide)), hWD2⟩
  refine x_pop rfl ?_
  refine x_goto (t := 651) rfl rfl ?_
  exact Kn _ _ _ l0 l1 l2 l3 l4 hA3 (by omega) (by omega)
theorem sal1_ok {n : Nat} {al : Nat → Bool} {c y : Int} (h3 : ∀ i, n ≤ i → al i = false) (h4 : scnt al n ≤ 5) : (∀ i, n ≤ i → sal1 n al c y i = false) ∧ scnt (sal1 n al c y) n ≤ 5 := by
  refine ⟨fun i hi => ?_, ?_⟩
  · unfold sal1
    rw [if_neg (by omega)]
    exact h3 i hi
  · by_cases hc : (0 ≤ c ∧ c < (n : Nat)) ∧ soth al c n < 5
    · have key : ∀ k, scnt (sal1 n al c y) k ≤ soth al c k + (if c < (k : Nat) then 1 else 0) := by
        intro k
        induction k with
        | zero =>
          show (0 : Int) ≤ 0 + _
          split <;> omega
        | succ k ih =>
          show scnt (sal1 n al c y) k + (if sal1 n al c y k = true then 1 else 0) ≤ (soth al c k + (if (al k && !(((k : Nat) : Int) == c)) = true then 1 else 0)) + (if c < ((k + 1 : Nat) : Int) then 1 else 0)
          by_cases e : ((k : Nat) : Int) = c
          · rw [if_neg (show ¬ c < ((k : Nat) : Int) by omega)] at ih
            rw [if_pos (show c < ((k + 1 : Nat) : Int) by omega)]
            have h1 : (if sal1 n al c y k = true then (1 : Int) else 0) ≤ 1 := by split <;> omega
            have h2 : (0 : Int) ≤ (if (al k && !(((k : Nat) : Int) == c)) = true then 1 else 0) := by split <;> omega
            omega
          · have e1 : sal1 n al c y k = al k := by
              unfold sal1
              rw [if_neg (fun h => e h.2.2)]
            have e2 : (al k && !(((k : Nat) : Int) == c)) = al k := by
              rw [show (((k : Nat) : Int) == c) = false from beq_eq_false_iff_ne.mpr e]
              simp
            rw [e1, e2]
            by_cases e3 : c < (k : Nat)
            · rw [if_pos e3] at ih
              rw [if_pos (show c < ((k + 1 : Nat) : Int) by omega)]
              omega
            · rw [if_neg e3] at ih
              rw [if_neg (show ¬ c < ((k + 1 : Nat) : Int) by omega)]
              omega
      have := key n
      rw [if_pos hc.1.2] at this
      omega
    · have e : sal1 n al c y = al := by
        funext i
        unfold sal1
        rw [if_neg (fun h => hc ⟨h.1, h.2.1⟩)]
      rw [e]
      exact h4
set_option maxRecDepth 20000 in
theorem xK14b {v0 : Value} {xs : List Int32} {u u1 : Nat × Nat} {Q : zO → zX → Prop} {f f1 : Nat → zE} {lv : zL} {i : Nat} {n : Nat} {cs : List Int} {nms : List (List Int)} {bc dp tk0 : Nat → Int} {K : List (Int × Int)} {G : Nat → List xBt} {R0 : Nat → Int × Int} {S : sS} {al : Nat → Bool} {F : Int} {wy : Nat → Int} {c y : Int} (l0 : zlv lv 0 = some (.ref 0)) (l1 : zlv lv 1 = some (.ref 50)) (l2 : zlv lv 2 = some (.ref 177)) (l3 : zlv lv 3 = some (.ref 203)) (l4 : zlv lv 4 = some (xi (i : Nat))) (hI : xINV f n cs nms bc dp tk0 K G R0) (hF : xFT f) (hR : sRS f K G nms.length S al F wy) (Kn : sKN v0 xs u Q i) (hc : -2147483648 ≤ c ∧ c ≤ 2147483647) (hy : y = 0 ∨ y = 1) (b1 : u1.1 ≤ u.1 + 1) (b2 : u1.2 ≤ u.2 + 6) (hD1 : xD f f1) (hA11 : sAC f1 (sal1 nms.length al c y)) (fr1 : ∀ q, ¬ (57 ≤ q ∧ q ≤ 108) → f1 q = f q) : xz v0 xs u1 Q 177 529 lv [xi y, xi c, .ref 177] f1 := by
  obtain ⟨hT, hMT, hH, ⟨hA1, hA2, hA3, hA4⟩, hF4, hWC, hWD⟩ := id hR
  have hI1 := xINV_D hI hD1
  have hM1 : sMT f1 nms.length S := sMT_fr hMT (fr1 177 (by decide)) (fun q y1 y2 => fr1 q (by omega))
  obtain ⟨⟨fs1, ⟨h177, -⟩, -⟩, -⟩ := id hM1
  have hA21 := sAD_fr hA2 (fr1 198 (by decide))
  refine x_call [_, _, _] rfl rfl (show (0 : Nat) ≤ 8 from by decide) (show (3 : Nat) ≤ 5 from by decide) (x_rcv (by decide) h177) (sxq_K (vs := [.ref 177, xi c, xi y]) (xs_156 hI1.1 hM1 hI.2.2.1.1 hA21 hA3 hA4 hc hy) (xA156 hI1.1) ⟨ygr, ygt, ygi (by omega) (by omega) (by omega) (by omega), trivial⟩ rfl rfl) (fun r2 f2 hP => ?_)
  obtain ⟨⟨rfl, hT2, hA22, fr2⟩, hD2, hk2⟩ := hP
  have hal := sal1_ok (c := c) (y := y) hA3 hA4
  have hA9 : sA f2 := ⟨n, cs, nms, bc, dp, tk0, K, G, R0, S, _, F, wy, xINV_D hI1 hD2, xFT_D (xFT_D hF hD1) hD2, sCT_f hT ((fr2 50 (by decide) (by decide)).trans (fr1 50 (by decide))) (fun q y1 y2 => (fr2 q (by omega) (by omega)).trans (fr1 q (by omega))), hT2, hH, ⟨sAC_fr hA11 (fun q y1 y2 => fr2 q (by omega) (by omega)), hA22, hal.1, hal.2⟩, hF4, sWC_fr hWC ((fr2 117 (by decide) (by decide)).trans (fr1 117 (by decide))) ((fr2 121 (by decide) (by decide)).trans (fr1 121 (by decide))), sWD_fr hWD (sKp_t (sKp_e (fr1 177 (by decide))) hk2) ((fr2 199 (by decide) (by decide)).trans (fr1 199 (by decide)))⟩
  refine x_goto (t := 651) rfl rfl ?_
  exact Kn _ _ _ l0 l1 l2 l3 l4 hA9 b1 b2
set_option maxRecDepth 20000 in
theorem xK14 {v0 : Value} {xs : List Int32} {u : Nat × Nat} {Q : zO → zX → Prop} {f : Nat → zE} {lv : zL} {i : Nat} (hxs : xs.length ≤ 1536) (hi : i + 3 ≤ xs.length) (l0 : zlv lv 0 = some (.ref 0)) (l1 : zlv lv 1 = some (.ref 50)) (l2 : zlv lv 2 = some (.ref 177)) (l3 : zlv lv 3 = some (.ref 203)) (l4 : zlv lv 4 = some (xi (i : Nat))) (hA : sA f) (Kn : sKN v0 xs u Q i) : xz v0 xs u Q 177 482 lv [] f := by
  obtain ⟨n, cs, nms, bc, dp, tk0, K, G, R0, S, al, F, wy, hI, hF, hR⟩ := hA
  obtain ⟨hT, hMT, hH, ⟨hA1, hA2, hA3, hA4⟩, hF4, hWC, hWD⟩ := id hR
  have hCK := sCK_I hI
  obtain ⟨kp0, pt0, h53⟩ := hCK.2.1
  refine x_aload_n rfl l1 ?_
  refine x_aload_n rfl l0 ?_
  refine x_iload rfl l4 ?_
  refine x_iconst rfl ?_
  refine x_iadd rfl ?_
  refine x_gia rfl ⟨by omega, by omega⟩ (by omega) ?_
  refine x_aload_n rfl l0 ?_
  refine x_iload rfl l4 ?_
  refine x_iconst rfl ?_
  refine x_iadd rfl ?_
  refine x_gia rfl ⟨by omega, by omega⟩ (by omega) ?_
  refine x_ifeq (t := 502) rfl rfl ⟨y_lo _, y_hi _⟩ (fun hb => ?_) (fun hb => ?_)
  · refine x_iconst rfl ?_
    refine x_callT [_, _, _] rfl rfl (show (0 : Nat) ≤ 8 from by decide) (show (3 : Nat) ≤ 4 from by decide) rfl (xF155 hI.1 (xA154 (xINV_n hI).2.2.1 hI.1 h53) (by decide) (xs_154 hT hCK hA1 ⟨y_lo _, y_hi _⟩ (by decide))) (fun r1 X1 hq => ?_) (fun x1 X1 hq => by obtain ⟨_, _, _, e1, -⟩ := hq; cases e1)
    obtain ⟨z1, f1, u1, e1, e2, ⟨b1, b2⟩, hD1, hA11, fr1⟩ := hq
    cases e1
    subst e2
    show xz v0 xs u1 Q 177 506 _ [xi z1] f1
    refine x_istore rfl (show (5 : Nat) < 7 from by decide) ?_
    refine x_aload_n rfl (xst_ne (by decide) l2 (Or.inl rfl)) ?_
    refine x_aload_n rfl (xst_ne (by decide) l0 (Or.inl rfl)) ?_
    refine x_iload rfl (xst_ne (by decide) l4 (Or.inl rfl)) ?_
    refine x_iconst rfl ?_
    refine x_iadd rfl ?_
    refine x_gia rfl ⟨by omega, by omega⟩ (by omega) ?_
    refine x_aload_n rfl (xst_ne (by decide) l0 (Or.inl rfl)) ?_
    refine x_iload rfl (xst_ne (by decide) l4 (Or.inl rfl)) ?_
    refine x_iconst rfl ?_
    refine x_iadd rfl ?_
    refine x_gia rfl ⟨by omega, by omega⟩ (by omega) ?_
    refine x_ifeq (t := 528) rfl rfl ⟨y_lo _, y_hi _⟩ (fun _ => ?_) (fun hb2 => absurd hb hb2)
    refine x_iconst rfl ?_
    exact xK14b (xst_ne (by decide) l0 (Or.inl rfl)) (xst_ne (by decide) l1 (Or.inl rfl)) (xst_ne (by decide) l2 (Or.inl rfl)) (xst_ne (by decide) l3 (Or.inl rfl)) (xst_ne (by decide) l4 (Or.inl rfl)) hI hF hR Kn ⟨y_lo _, y_hi _⟩ (by decide) b1 b2 hD1 hA11 fr1
  · refine x_iconst rfl ?_
    refine x_goto (t := 503) rfl rfl ?_
    refine x_callT [_, _, _] rfl rfl (show (0 : Nat) ≤ 8 from by decide) (show (3 : Nat) ≤ 4 from by decide) rfl (xF155 hI.1 (xA154 (xINV_n hI).2.2.1 hI.1 h53) (by decide) (xs_154 hT hCK hA1 ⟨y_lo _, y_hi _⟩ (by decide))) (fun r1 X1 hq => ?_) (fun x1 X1 hq => by obtain ⟨_, _, _, e1, -⟩ := hq; cases e1)
    obtain ⟨z1, f1, u1, e1, e2, ⟨b1, b2⟩, hD1, hA11, fr1⟩ := hq
    cases e1
    subst e2
    show xz v0 xs u1 Q 177 506 _ [xi z1] f1
    refine x_istore rfl (show (5 : Nat) < 7 from by decide) ?_
    refine x_aload_n rfl (xst_ne (by decide) l2 (Or.inl rfl)) ?_
    refine x_aload_n rfl (xst_ne (by decide) l0 (Or.inl rfl)) ?_
    refine x_iload rfl (xst_ne (by decide) l4 (Or.inl rfl)) ?_
    refine x_iconst rfl ?_
    refine x_iadd rfl ?_
    refine x_gia rfl ⟨by omega, by omega⟩ (by omega) ?_
    refine x_aload_n rfl (xst_ne (by decide) l0 (Or.inl rfl)) ?_
    refine x_iload rfl (xst_ne (by decide) l4 (Or.inl rfl)) ?_
    refine x_iconst rfl ?_
    refine x_iadd rfl ?_
    refine x_gia rfl ⟨by omega, by omega⟩ (by omega) ?_
    refine x_ifeq (t := 528) rfl rfl ⟨y_lo _, y_hi _⟩ (fun hb2 => absurd hb2 hb) (fun _ => ?_)
    refine x_iconst rfl ?_
    refine x_goto (t := 529) rfl rfl ?_
    exact xK14b (xst_ne (by decide) l0 (Or.inl rfl)) (xst_ne (by decide) l1 (Or.inl rfl)) (xst_ne (by decide) l2 (Or.inl rfl)) (xst_ne (by decide) l3 (Or.inl rfl)) (xst_ne (by decide) l4 (Or.inl rfl)) hI hF hR Kn ⟨y_lo _, y_hi _⟩ (by decide) b1 b2 hD1 hA11 fr1
def xCW (g : Int64) (n : Nat) (cs : List Int) (f f1 : Nat → zE) (z : Int) : Prop := (¬ xfits g (n : Nat) ∧ z = 0 ∧ f1 = f) ∨ (xfits g (n : Nat) ∧ z = 1 ∧ f1 51 = .inl (1, [.ref 52, xi ((n : Nat) + xcn g 8)]) ∧ f1 52 = xr 1 (xwr g (n : Nat) cs 8) ∧ ∀ p, p ≠ 51 → p ≠ 52 → f1 p = f p)
theorem xK0a {v0 : Value} {xs : List Int32} {u : Nat × Nat} {Q : zO → zX → Prop} {f : Nat → zE} {lv : zL} {n : Nat} {cs : List Int} {nms : List (List Int)} {bc dp tk0 : Nat → Int} {K : List (Int × Int)} {G : Nat → List xBt} {R0 : Nat → Int × Int} {g : Int64} (hI : xINV f n cs nms bc dp tk0 K G R0) (k : ∀ (z : Int) (f1 : Nat → zE), xCW g n cs f f1 z → xz v0 xs u Q 177 150 lv [xi z] f1) : xz v0 xs u Q 177 147 lv [.long g, .ref 50] f := by
  obtain ⟨hM, ⟨t1, t2, t3, t4, t5, t6⟩, -⟩ := hI
  obtain ⟨dd, lf, lc, h50, -⟩ := xINV_50 hM
  refine x_call [_, _] rfl rfl (show (0 : Nat) ≤ 8 from by decide) (show (3 : Nat) ≤ 3 from by decide) (x_rcv (by decide) h50) (xs_20 h50 t4 t5 (by omega) t2) (fun r1 f1 hP => ?_)
  rcases hP with ⟨rfl, b, c⟩ | ⟨rfl, b⟩
  · exact k 0 f1 (Or.inl ⟨b, rfl, c⟩)
  · exact k 1 f1 (Or.inr ⟨b.1, rfl, b.2⟩)
theorem xK0b {v0 : Value} {xs : List Int32} {u : Nat × Nat} {Q : zO → zX → Prop} {f f1 : Nat → zE} {lv : zL} {i : Nat} {n : Nat} {cs : List Int} {nms : List (List Int)} {bc dp tk0 : Nat → Int} {K : List (Int × Int)} {G : Nat → List xBt} {R0 : Nat → Int × Int} {S : sS} {al : Nat → Bool} {F : Int} {wy : Nat → Int} {g : Int64} {z : Int} (l0 : zlv lv 0 = some (.ref 0)) (l1 : zlv lv 1 = some (.ref 50)) (l2 : zlv lv 2 = some (.ref 177)) (l3 : zlv lv 3 = some (.ref 203)) (l4 : zlv lv 4 = some (xi (i : Nat))) (hI : xINV f n cs nms bc dp tk0 K G R0) (hF : xFT f) (hR : sRS f K G nms.length S al F wy) (Kn : sKN v0 xs u Q i) (hP : xCW g n cs f f1 z) : xz v0 xs u Q 177 174 lv [.long g, .ref 177] f1 := by
  obtain ⟨hM, ⟨t1, t2, t3, t4, t5, t6⟩, -, -, ⟨cd, fa, ki, be, en, wo, nu, pa0, op, q, nl, m0, d0, tmM, oaM, Ee, Bb, k177, -⟩, -⟩ := id hI
  have P1 : ∀ p, p ≠ 51 → p ≠ 52 → f1 p = f p := by
    rcases hP with ⟨-, -, rfl⟩ | ⟨-, -, -, -, h⟩
    · exact fun _ _ _ => rfl
    · exact h
  refine x_call [_, _] rfl rfl (show (0 : Nat) ≤ 8 from by decide) (show (3 : Nat) ≤ 6 from by decide) (x_rcv (by decide) ((P1 177 (by decide) (by decide)).trans k177)) (xs_21 (by omega) t2 ((P1 177 (by decide) (by decide)).trans k177) ((P1 178 (by decide) (by decide)).trans t6)) (fun r2 f2 hP2 => ?_)
  rcases hP2 with ⟨rfl, hnf, h177, hfr⟩ | ⟨rfl, hf, h177, h178, hfr⟩
  · rcases hP with ⟨-, rfl, rfl⟩ | ⟨hf, -⟩
    · show xz v0 xs u Q 177 177 lv [xi 0] f2
      refine x_pop rfl ?_
      refine x_goto (t := 651) rfl rfl ?_
      exact Kn _ _ _ l0 l1 l2 l3 l4 ⟨n, cs, nms, bc, dp, tk0, K, G, R0, S, al, F, wy, xINV_tx (n' := n) (cs' := cs) hI t1 t2 t3 ((hfr 51 (by decide)).trans t4) ((hfr 52 (by decide)).trans t5) ((hfr 178 (by decide)).trans t6) ⟨0, _, k177, h177⟩ (fun p _ _ h _ => hfr p h), xFT_tx (v := xi 0) (w := xi (n : Nat)) hF (hfr 50 (by decide)) k177 h177, sRS_t hR k177 h177 (fun p _ _ h _ => hfr p h)⟩ (by omega) (by omega)
    · exact absurd hf hnf
  · rcases hP with ⟨hnf, -⟩ | ⟨-, rfl, h51, h52, -⟩
    · exact absurd hf hnf
    · show xz v0 xs u Q 177 177 lv [xi 1] f2
      refine x_pop rfl ?_
      refine x_goto (t := 651) rfl rfl ?_
      have hcn := xcn_rg g 8
      obtain ⟨m, hm⟩ : ∃ m : Nat, (m : Int) = (n : Nat) + xcn g 8 := ⟨((n : Nat) + xcn g 8).toNat, by omega⟩
      rw [← hm] at h51 h177
      have hf2 := hf.2
      exact Kn _ _ _ l0 l1 l2 l3 l4 ⟨m, xwr g (n : Nat) cs 8, nms, bc, dp, tk0, K, G, R0, S, al, F, wy, xINV_tx (n' := m) (cs' := xwr g (n : Nat) cs 8) hI (by omega) (by rw [xwr_len]; exact t2) (xwr_rg t3 8 hf.1) ((hfr 51 (by decide) (by decide)).trans h51) ((hfr 52 (by decide) (by decide)).trans h52) h178 ⟨0, _, k177, h177⟩ (fun p h1 h2 h3 h4 => (hfr p h3 h4).trans (P1 p h1 h2)), xFT_tx (v := xi 0) (w := xi (m : Nat)) hF ((hfr 50 (by decide) (by decide)).trans (P1 50 (by decide) (by decide))) k177 h177, sRS_t hR k177 h177 (fun p h1 h2 h3 h4 => (hfr p h3 h4).trans (P1 p h1 h2))⟩ (by omega) (by omega)
set_option maxRecDepth 20000 in
theorem xK0 {v0 : Value} {xs : List Int32} {u : Nat × Nat} {Q : zO → zX → Prop} {f : Nat → zE} {lv : zL} {i : Nat} (hxs : xs.length ≤ 1536) (hi : i + 3 ≤ xs.length) (l0 : zlv lv 0 = some (.ref 0)) (l1 : zlv lv 1 = some (.ref 50)) (l2 : zlv lv 2 = some (.ref 177)) (l3 : zlv lv 3 = some (.ref 203)) (l4 : zlv lv 4 = some (xi (i : Nat))) (hA : sA f) (Kn : sKN v0 xs u Q i) : xz v0 xs u Q 177 124 lv [] f := by
  obtain ⟨n, cs, nms, bc, dp, tk0, K, G, R0, S, al, F, wy, hI, hF, hR⟩ := hA
  refine x_aload_n rfl l1 ?_
  refine x_aload_n rfl l0 ?_
  refine x_iload rfl l4 ?_
  refine x_iconst rfl ?_
  refine x_iadd rfl ?_
  refine x_gia rfl ⟨by omega, by omega⟩ (by omega) ?_
  refine x_i2l rfl ?_
  refine x_bipush rfl (by decide) ?_
  refine x_lshl rfl ?_
  refine x_aload_n rfl l0 ?_
  refine x_iload rfl l4 ?_
  refine x_iconst rfl ?_
  refine x_iadd rfl ?_
  refine x_gia rfl ⟨by omega, by omega⟩ (by omega) ?_
  refine x_i2l rfl ?_
  refine x_ldc2 rfl ?_
  refine x_land rfl ?_
  refine x_lor rfl ?_
  refine xK0a hI (fun z f1 hP => ?_)
  refine x_pop rfl ?_
  refine x_aload_n rfl l2 ?_
  refine x_aload_n rfl l0 ?_
  refine x_iload rfl l4 ?_
  refine x_iconst rfl ?_
  refine x_iadd rfl ?_
  refine x_gia rfl ⟨by omega, by omega⟩ (by omega) ?_
  refine x_i2l rfl ?_
  refine x_bipush rfl (by decide) ?_
  refine x_lshl rfl ?_
  refine x_aload_n rfl l0 ?_
  refine x_iload rfl l4 ?_
  refine x_iconst rfl ?_
  refine x_iadd rfl ?_
  refine x_gia rfl ⟨by omega, by omega⟩ (by omega) ?_
  refine x_i2l rfl ?_
  refine x_ldc2 rfl ?_
  refine x_land rfl ?_
  refine x_lor rfl ?_
  exact xK0b l0 l1 l2 l3 l4 hI hF hR Kn hP
set_option maxRecDepth 20000 in
theorem xK1 {v0 : Value} {xs : List Int32} {u : Nat × Nat} {Q : zO → zX → Prop} {f : Nat → zE} {lv : zL} {i : Nat} (hxs : xs.length ≤ 1536) (hi : i + 3 ≤ xs.length) (l0 : zlv lv 0 = some (.ref 0)) (l1 : zlv lv 1 = some (.ref 50)) (l2 : zlv lv 2 = some (.ref 177)) (l3 : zlv lv 3 = some (.ref 203)) (l4 : zlv lv 4 = some (xi (i : Nat))) (hA : sA f) (Kn : sKN v0 xs u Q i) : xz v0 xs u Q 177 181 lv [] f := by
  obtain ⟨n, cs, nms, bc, dp, tk0, K, G, R0, S, al, F, wy, hI, hF, hR⟩ := hA
  obtain ⟨hM, ⟨t1, t2, t3, t4, t5, t6⟩, -, -, ⟨cd, fa, ki, be, en, wo, nu, pa0, op, q, nl, m0, d0, tmM, oaM, Ee, Bb, k177, -⟩, -⟩ := id hI
  obtain ⟨dd, lf, lc, h50, -⟩ := xINV_50 hM
  refine x_aload_n rfl l1 ?_
  refine x_call [_] rfl rfl (show (0 : Nat) ≤ 8 from by decide) (show (1 : Nat) ≤ 1 from by decide) (x_rcv (by decide) h50) (xs_23 h50 t4) (fun r1 f1 hP => ?_)
  obtain ⟨rfl, rfl⟩ := hP
  show xz v0 xs u Q 177 185 lv [xi (n : Nat)] _
  refine x_pop rfl ?_
  refine x_aload_n rfl l2 ?_
  refine x_call [_] rfl rfl (show (0 : Nat) ≤ 8 from by decide) (show (1 : Nat) ≤ 2 from by decide) (x_rcv (by decide) (xu_ne (by decide) k177)) (xs_24 (xu_ne (by decide) k177)) (fun r2 f2 hP => ?_)
  obtain ⟨rfl, h177, hfr⟩ := hP
  show xz v0 xs u Q 177 190 lv [xi (n : Nat)] f2
  refine x_pop rfl ?_
  refine x_goto (t := 651) rfl rfl ?_
  have P2 : ∀ p, p ≠ 51 → p ≠ 177 → f2 p = f p := fun p h1 h3 => (hfr p h3).trans (xu_ne h1 rfl)
  exact Kn _ _ _ l0 l1 l2 l3 l4 ⟨0, cs, nms, bc, dp, tk0, K, G, R0, S, al, F, wy, xINV_tx (n' := 0) (cs' := cs) hI (by omega) t2 t3 ((hfr 51 (by decide)).trans xu_eq) ((hfr 52 (by decide)).trans (xu_ne (by decide) t5)) ((hfr 178 (by decide)).trans (xu_ne (by decide) t6)) ⟨0, _, k177, h177⟩ (fun p h1 _ h3 _ => P2 p h1 h3), xFT_tx (v := xi 0) (w := xi 0) hF ((hfr 50 (by decide)).trans (xu_ne (by decide) rfl)) k177 h177, sRS_t hR k177 h177 (fun p h1 _ h3 _ => P2 p h1 h3)⟩ (by omega) (by omega)
