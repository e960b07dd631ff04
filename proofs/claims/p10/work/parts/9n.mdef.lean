/-! The model's define, whole. -/
theorem xs_82 {K : List (Int × Int)} {R0 : Nat → Int × Int} {G : Nat → List xBt} {B0 : List xBt} {E0 : List (Int × Int)} {v0 : Value} {xs : List Int32} {u : Nat × Nat} {f : Nat → zE} {n : Nat} {cs : List Int} {nms : List (List Int)} {nl : List Int64} {bc dp tk0 : Nat → Int} {cd fa ki be en nu pa0 op m0 d0 : Int} {wo : Int64} {q : Nat → Value} {tm oa tmM oaM : List Int} (hn : n ≤ 100) (hl : cs.length = 100) (hcs : ∀ j : Nat, 0 ≤ cs.getD j 0 ∧ cs.getD j 0 ≤ 126) (h179 : f 179 = .inr (.inr (.inl nl))) (hlen : nl.length = 13) (hcl : nms.length ≤ 12) (hw : ∀ w ∈ nms, xwf w) (hnl : ∀ k, k < nms.length → nl.getD k 0 = Int64.ofInt (xpr (nms.getD k []))) (hnd : nms.Nodup) (hns : ∀ w ∈ nms, w ∉ selW) (hbc : ∀ i, i < nms.length → 0 ≤ bc i ∧ bc i ≤ 16) (hdp : ∀ i, i < nms.length → 1 ≤ dp i ∧ dp i ≤ 6) (htk : ∀ i, i < nms.length → ∀ k : Nat, (k : Int) < bc i → 0 ≤ tk0 (16 * i + k) ∧ tk0 (16 * i + k) ≤ k) (hpa0 : 0 ≤ pa0 ∧ pa0 ≤ 192) (h178 : f 178 = xr 1 cs) (h177 : f 177 = xmo cd (n : Nat) fa ki be en wo nu (nms.length : Nat) pa0 op q) (hGk : ∀ i, i < nms.length → ((G i).length : Int) = bc i ∧ ∀ k, k < (G i).length → ((R0 (16 * i + k)).1, (R0 (16 * i + k)).2, tk0 (16 * i + k)) = (G i).getD k (0, 0, 0)) (hKp : (K.length : Int) = pa0) (hmd : xMD R0 B0 bc dp tk0 f m0 d0) (k7 : f 187 = xr 0 tmM) (k8 : f 188 = xr 0 oaM) (k9 : tmM.length = 3) (k10 : oaM.length = 3) (hMS : xMS K E0 f) (htl : tm.length = 3) (hol : oa.length = 3) (htk16 : ∀ j, j < 192 → 0 ≤ tk0 j ∧ tk0 j ≤ 16) : xq v0 xs u 82 [(0, .ref 177)] f (fun r f' => (∃ b e' : Int, xG cs n nms bc dp 0 (0, 0, tm, oa, 0, 1) = .inr (b, e') ∧ nms.length < 12 ∧ r = some (xi (nms.length : Nat)) ∧ xMK K R0 (xGC K G cs n nms bc dp 0 (0, 0, tm, oa, 0, 1) xC0) n nms bc dp tk0 pa0 q nl (Int64.ofInt (xwR (xwd cs (xtf cs n 0).2.1 (xtf cs n 0).2.2))) f f' b e') ∨ (r = some (xi 0) ∧ ((∃ z : Int, xG cs n nms bc dp 0 (0, 0, tm, oa, 0, 1) = .inl z ∧ (0 ≤ z ∧ z ≤ 100) ∧ xMN K R0 n nms bc dp tk0 pa0 q nl f f' 1 z) ∨ ((∃ b e' : Int, xG cs n nms bc dp 0 (0, 0, tm, oa, 0, 1) = .inr (b, e')) ∧ nms.length = 12 ∧ xMN K R0 n nms bc dp tk0 pa0 q nl f f' 2 (-1))))) := by
  unfold xq
  refine x_aload_n rfl rfl ?_
  refine x_getfield rfl (by decide) h177 rfl ?_
  refine x_istore_n rfl (show (1 : Nat) < 4 from by decide) ?_
  refine x_aload_n rfl (xst_ne (by decide) rfl (Or.inl rfl)) ?_
  refine x_aload_n rfl (xst_ne (by decide) rfl (Or.inl rfl)) ?_
  refine x_call [_] rfl rfl (show (1 : Nat) ≤ 8 from by decide) (show (1 : Nat) ≤ 4 from by decide) (x_rcv (by decide) h177) (xs_81 (G := G) (tm := tm) (oa := oa) hn hl hcs h179 hlen hcl hw hnl hnd hns hbc hdp htk hpa0 h178 h177 hGk hKp hmd k7 k8 k9 k10 hMS htl hol) (fun r' f1 hP => ?_)
  obtain ⟨W, ⟨b, e, hG, rfl, hW, hA⟩ | ⟨z, hG, rfl, hz, hA⟩⟩ := hP
  · obtain ⟨hb, he, kM, be1, en1, wo1, nu1, pa1, op1, tm1, oa1, j177, jpa, jmd, j187, j188, jl1, jl2, jms, jfr⟩ := hA
    have j179 : f1 179 = .inr (.inr (.inl (nl.set 12 W))) := (jfr 179 (by decide) (by decide) (by decide) (by decide) (by decide) (by decide) (by decide) (by decide) (by decide) (by decide)).trans xu_eq
    refine x_putfield rfl (by decide) j177 (show (3 : Nat) < 41 from by decide) rfl ?_
    refine x_aload_n rfl (xst_ne (by decide) rfl (Or.inl rfl)) ?_
    refine x_aload_n rfl (xst_ne (by decide) rfl (Or.inl rfl)) ?_
    refine x_getfield rfl (by decide) xu_eq rfl ?_
    refine x_iflt (t := 25) rfl rfl (by decide) (fun _ => ?_) (fun h => absurd h (by decide))
    refine x_aload_n rfl (xst_ne (by decide) rfl (Or.inl rfl)) ?_
    refine x_getfield rfl (by decide) xu_eq rfl ?_
    refine x_bipush rfl (by decide) ?_
    refine x_cne (t := 38) rfl rfl ⟨by omega, by omega⟩ (by decide) (fun h12 => ?_) (fun h12 => ?_)
    rotate_left
    · refine x_iconst rfl ?_
      refine x_goto (t := 39) rfl rfl ?_
      refine x_putfield rfl (by decide) xu_eq (show (0 : Nat) < 41 from by decide) rfl ?_
      refine x_aload_n rfl (xst_ne (by decide) rfl (Or.inl rfl)) ?_
      refine x_getfield rfl (by decide) xu_eq rfl ?_
      refine x_ifle (t := 56) rfl rfl (by decide) (fun h => absurd h (by decide)) (fun _ => ?_)
      refine x_aload_n rfl (xst_ne (by decide) rfl (Or.inl rfl)) ?_
      refine x_iload_n rfl xst_eq ?_
      refine x_putfield rfl (by decide) xu_eq (show (16 : Nat) < 41 from by decide) rfl ?_
      refine x_iconst rfl ?_
      refine x_ireturn rfl (Or.inl rfl) ⟨_, _, rfl, rfl, ?_⟩
      refine Or.inr ⟨rfl, Or.inr ⟨⟨b, e, hG⟩, by omega, W, _, _, _, _, _, _, _, _, tm1, oa1, _, _, xu_eq, (xu_ne (by decide) (xu_ne (by decide) (xu_ne (by decide) j179))), xMD_mv (fun p p1 p2 => xu_ne (by omega) (xu_ne (by omega) (xu_ne (by omega) rfl))) jmd, (xu_ne (by decide) (xu_ne (by decide) (xu_ne (by decide) j187))), (xu_ne (by decide) (xu_ne (by decide) (xu_ne (by decide) j188))), jl1, jl2, xMS_mv (xu_ne (by decide) (xu_ne (by decide) (xu_ne (by decide) rfl))) (xu_ne (by decide) (xu_ne (by decide) (xu_ne (by decide) rfl))) jms, fun p a1 a2 a3 a4 a5 a6 a7 a8 a9 a10 a11 => xu_ne a1 (xu_ne a1 (xu_ne a1 ((jfr p a1 a3 a4 a5 a6 a7 a8 a9 a10 a11).trans (xu_ne a2 rfl))))⟩⟩
    have hc12 : nms.length < 12 := by omega
    refine x_iconst rfl ?_
    refine x_putfield rfl (by decide) xu_eq (show (0 : Nat) < 41 from by decide) rfl ?_
    refine x_aload_n rfl (xst_ne (by decide) rfl (Or.inl rfl)) ?_
    refine x_getfield rfl (by decide) xu_eq rfl ?_
    refine x_ifle (t := 56) rfl rfl (by decide) (fun _ => ?_) (fun h => absurd h (by decide))
    obtain ⟨cn, dn, tk, pf, pq, h180, h181, h182, h183, h184, ⟨g1l, g2l, g3l, g4l, g5l⟩, hcm, hdd, hk1, hk2, hk3, hk4, hR, hmb⟩ := jmd
    obtain ⟨hBb, hBc⟩ := hmb hb.2
    generalize hgf : xu (xu f1 177 _) 177 _ = f2
    have b177 : f2 177 = xmo 0 (n : Nat) (-1) kM be1 en1 wo1 nu1 (nms.length : Nat) pa1 op1 q := by rw [← hgf]; exact xu_eq
    have bfr : ∀ p, p ≠ 177 → f2 p = f1 p := fun p hp => by rw [← hgf]; exact xu_ne hp (xu_ne hp rfl)
    clear hgf
    have b179 := (bfr 179 (by decide)).trans j179
    have b180 := (bfr 180 (by decide)).trans h180
    have b181 := (bfr 181 (by decide)).trans h181
    have b182 := (bfr 182 (by decide)).trans h182
    have b183 := (bfr 183 (by decide)).trans h183
    have b184 := (bfr 184 (by decide)).trans h184
    refine x_aload_n rfl (xst_ne (by decide) rfl (Or.inl rfl)) ?_
    refine x_getfield rfl (by decide) b177 rfl ?_
    refine x_aload_n rfl (xst_ne (by decide) rfl (Or.inl rfl)) ?_
    refine x_getfield rfl (by decide) b177 rfl ?_
    refine x_aload_n rfl (xst_ne (by decide) rfl (Or.inl rfl)) ?_
    refine x_getfield rfl (by decide) b177 rfl ?_
    refine x_bipush rfl (by decide) ?_
    refine x_laload rfl (by decide) b179 ⟨by omega, by rw [List.length_set]; omega⟩ (by rw [List.length_set]; omega) ?_
    have eW : (nl.set 12 W).getD (12 : Int).toNat 0 = W := by
      rw [show (12 : Int).toNat = 12 from rfl, List.getD_eq_getElem?_getD, List.getElem?_set_self (by omega)]; rfl
    rw [eW]
    refine x_lastore rfl (by decide) b179 ⟨by omega, by rw [List.length_set]; omega⟩ (by rw [List.length_set]; omega) ?_
    rw [Int.toNat_natCast]
    refine x_aload_n rfl (xst_ne (by decide) rfl (Or.inl rfl)) ?_
    refine x_getfield rfl (by decide) (xu_ne (by decide) b177) rfl ?_
    refine x_aload_n rfl (xst_ne (by decide) rfl (Or.inl rfl)) ?_
    refine x_getfield rfl (by decide) (xu_ne (by decide) b177) rfl ?_
    refine x_aload_n rfl (xst_ne (by decide) rfl (Or.inl rfl)) ?_
    refine x_getfield rfl (by decide) (xu_ne (by decide) b177) rfl ?_
    refine x_bipush rfl (by decide) ?_
    refine x_iaload rfl (by decide) (xu_ne (by decide) b180) ⟨by omega, by omega⟩ (by omega) ?_
    rw [show (12 : Int).toNat = 12 from rfl, hcm]
    refine x_iastore rfl (by decide) (xu_ne (by decide) b180) ⟨by omega, by omega⟩ (by omega) ?_
    rw [Int.toNat_natCast]
    refine x_aload_n rfl (xst_ne (by decide) rfl (Or.inl rfl)) ?_
    refine x_getfield rfl (by decide) (xu_ne (by decide) (xu_ne (by decide) b177)) rfl ?_
    refine x_aload_n rfl (xst_ne (by decide) rfl (Or.inl rfl)) ?_
    refine x_getfield rfl (by decide) (xu_ne (by decide) (xu_ne (by decide) b177)) rfl ?_
    refine x_aload_n rfl (xst_ne (by decide) rfl (Or.inl rfl)) ?_
    refine x_getfield rfl (by decide) (xu_ne (by decide) (xu_ne (by decide) b177)) rfl ?_
    refine x_bipush rfl (by decide) ?_
    refine x_iaload rfl (by decide) (xu_ne (by decide) (xu_ne (by decide) b181)) ⟨by omega, by omega⟩ (by omega) ?_
    rw [show (12 : Int).toNat = 12 from rfl, hdd]
    refine x_iastore rfl (by decide) (xu_ne (by decide) (xu_ne (by decide) b181)) ⟨by omega, by omega⟩ (by omega) ?_
    rw [Int.toNat_natCast]
    generalize hgf : xu (xu (xu f2 179 _) 180 _) 181 _ = f3
    have d177 : f3 177 = xmo 0 (n : Nat) (-1) kM be1 en1 wo1 nu1 (nms.length : Nat) pa1 op1 q := by rw [← hgf]; exact (xu_ne (by decide) (xu_ne (by decide) (xu_ne (by decide) b177)))
    have d179 : f3 179 = .inr (.inr (.inl ((nl.set 12 W).set nms.length W))) := by rw [← hgf]; exact xu_ne (by decide) (xu_ne (by decide) xu_eq)
    have d180 : f3 180 = xr 0 (cn.set nms.length b) := by rw [← hgf]; exact xu_ne (by decide) xu_eq
    have d181 : f3 181 = xr 0 (dn.set nms.length e) := by rw [← hgf]; exact xu_eq
    have dfr : ∀ p, p ≠ 177 → p ≠ 179 → p ≠ 180 → p ≠ 181 → f3 p = f1 p := fun p a1 a2 a3 a4 => by rw [← hgf]; exact xu_ne a4 (xu_ne a3 (xu_ne a2 (bfr p a1)))
    clear hgf
    refine x_iconst rfl ?_
    refine x_istore_n rfl (show (2 : Nat) < 4 from by decide) ?_
    refine zwp_mono (xs_82l (f0 := f3) (cn := cn.set nms.length b) (tk0l := tk) (B := (xGC K G cs n nms bc dp 0 (0, 0, tm, oa, 0, 1) xC0).2.2.2) (pf0 := pf) (pq0 := pq) hc12 hb (by rw [List.length_set]; exact g1l) (by rw [x_gset, if_neg (by omega)]; exact hcm) hBb b.toNat 0 _ f3 tk pf pq (by omega) (xst_ne (by decide) (xst_ne (by decide) rfl (Or.inl rfl)) (Or.inl rfl)) xst_eq d177 d180 ((dfr 182 (by decide) (by decide) (by decide) (by decide)).trans h182) ((dfr 183 (by decide) (by decide) (by decide) (by decide)).trans h183) ((dfr 184 (by decide) (by decide) (by decide) (by decide)).trans h184) ?_ ⟨fun j hj => ⟨rfl, rfl⟩, fun i hi => absurd hi (Nat.not_lt_zero _), fun j _ hj => hBc j hj⟩ (fun p _ _ _ => rfl)) ?_
    · exact ⟨g3l, g4l, g5l, fun j hj => by rw [(hk3 j hj).1]; exact htk16 j hj, fun j hj => (hk3 j hj).2, fun j hj => rfl, fun i hi => absurd hi (Nat.not_lt_zero _), hk4⟩
    · intro oo X' hq
      obtain ⟨r, f', rfl, rfl, tk', pf', pq', rfl, m177, m182, m183, m184, mcp, mcc, mfr⟩ := hq
      refine ⟨_, f', rfl, rfl, Or.inl ⟨b, e, hG, hc12, rfl, hb, he, kM, be1, en1, wo1, nu1, pa1, op1, tm1, oa1, fun j => tk'.getD j 0, fun j => (pf'.getD j 0, pq'.getD j 0), m177, jpa, ?_, ?_, mcp.2.2.2.1, ?_, ?_, ?_, ⟨hBb, ?_⟩, ?_, ?_, jl1, jl2, ?_, ?_⟩⟩
      · rw [← hW]; exact (mfr 179 (by decide) (by decide) (by decide) (by decide)).trans d179
      · refine ⟨cn.set nms.length b, dn.set nms.length e, tk', pf', pq', (mfr 180 (by decide) (by decide) (by decide) (by decide)).trans d180, (mfr 181 (by decide) (by decide) (by decide) (by decide)).trans d181, m182, m183, m184, ⟨by rw [List.length_set]; exact g1l, by rw [List.length_set]; exact g2l, mcp.1, mcp.2.1, mcp.2.2.1⟩, by rw [x_gset, if_neg (by omega)]; exact hcm, by rw [x_gset, if_neg (by omega)]; exact hdd, fun i hi => ?_, fun i hi => ?_, fun j hj => ⟨rfl, mcp.2.2.2.2.1 j hj⟩, mcp.2.2.2.2.2.2.2, fun j hj => rfl, fun _ => ⟨hBb, fun j hj => mcc.2.2 j (by omega) hj⟩⟩
        · rw [x_gset]; dsimp only; by_cases ei : i = nms.length
          · rw [if_pos ⟨ei.symm, by omega⟩, if_pos ei]
          · rw [if_neg (fun h => ei h.1.symm), if_neg ei]; exact hk1 i hi
        · rw [x_gset]; dsimp only; by_cases ei : i = nms.length
          · rw [if_pos ⟨ei.symm, by omega⟩, if_pos ei]
          · rw [if_neg (fun h => ei h.1.symm), if_neg ei]; exact hk2 i hi
      · intro j hj; exact (mcp.2.2.2.2.2.1 j hj).trans (hk3 j (by omega)).1
      · intro k hk; exact mcp.2.2.2.2.2.2.1 k (by omega)
      · intro j hj
        obtain ⟨z1, z2⟩ := mcc.1 j hj
        show (pf'.getD j 0, pq'.getD j 0) = _
        rw [z1, z2]
        exact hR j (by omega)
      · intro k hk
        show (pf'.getD (16 * nms.length + k) 0, pq'.getD (16 * nms.length + k) 0, tk'.getD (16 * nms.length + k) 0) = _
        rw [mcc.2.1 k (by omega), List.getD_eq_getElem?_getD, List.getD_eq_getElem?_getD, List.getElem?_map, List.getElem?_eq_getElem hk]
        rfl
      · exact (mfr 187 (by decide) (by decide) (by decide) (by decide)).trans ((dfr 187 (by decide) (by decide) (by decide) (by decide)).trans j187)
      · exact (mfr 188 (by decide) (by decide) (by decide) (by decide)).trans ((dfr 188 (by decide) (by decide) (by decide) (by decide)).trans j188)
      · exact xMS_mv ((mfr 185 (by decide) (by decide) (by decide) (by decide)).trans (dfr 185 (by decide) (by decide) (by decide) (by decide))) ((mfr 186 (by decide) (by decide) (by decide) (by decide)).trans (dfr 186 (by decide) (by decide) (by decide) (by decide))) jms
      · intro p a1 a2 a3 a4 a5 a6 a7 a8 a9 a10 a11
        exact (mfr p a1 a5 a6 a7).trans ((dfr p a1 a2 a3 a4).trans ((jfr p a1 a3 a4 a5 a6 a7 a8 a9 a10 a11).trans (xu_ne a2 rfl)))
  · obtain ⟨kM, en1, wo1, nu1, pa1, op1, mt1, dd1, tm1, oa1, E1, B1, j177, -, jmd, j187, j188, jl1, jl2, jms, jfr⟩ := hA
    have j179 : f1 179 = .inr (.inr (.inl (nl.set 12 W))) := (jfr 179 (by decide) (by decide) (by decide) (by decide) (by decide) (by decide) (by decide) (by decide) (by decide) (by decide)).trans xu_eq
    refine x_putfield rfl (by decide) j177 (show (3 : Nat) < 41 from by decide) rfl ?_
    refine x_aload_n rfl (xst_ne (by decide) rfl (Or.inl rfl)) ?_
    refine x_aload_n rfl (xst_ne (by decide) rfl (Or.inl rfl)) ?_
    refine x_getfield rfl (by decide) xu_eq rfl ?_
    refine x_iflt (t := 25) rfl rfl ⟨by omega, by omega⟩ (fun h => by omega) (fun _ => ?_)
    refine x_iconst rfl ?_
    refine x_goto (t := 39) rfl rfl ?_
    refine x_putfield rfl (by decide) xu_eq (show (0 : Nat) < 41 from by decide) rfl ?_
    refine x_aload_n rfl (xst_ne (by decide) rfl (Or.inl rfl)) ?_
    refine x_getfield rfl (by decide) xu_eq rfl ?_
    refine x_ifle (t := 56) rfl rfl (by decide) (fun h => absurd h (by decide)) (fun _ => ?_)
    refine x_aload_n rfl (xst_ne (by decide) rfl (Or.inl rfl)) ?_
    refine x_iload_n rfl xst_eq ?_
    refine x_putfield rfl (by decide) xu_eq (show (16 : Nat) < 41 from by decide) rfl ?_
    refine x_iconst rfl ?_
    refine x_ireturn rfl (Or.inl rfl) ⟨_, _, rfl, rfl, ?_⟩
    refine Or.inr ⟨rfl, Or.inl ⟨z, hG, hz, W, _, _, _, _, _, _, _, _, tm1, oa1, _, _, xu_eq, (xu_ne (by decide) (xu_ne (by decide) (xu_ne (by decide) j179))), xMD_mv (fun p p1 p2 => xu_ne (by omega) (xu_ne (by omega) (xu_ne (by omega) rfl))) jmd, (xu_ne (by decide) (xu_ne (by decide) (xu_ne (by decide) j187))), (xu_ne (by decide) (xu_ne (by decide) (xu_ne (by decide) j188))), jl1, jl2, xMS_mv (xu_ne (by decide) (xu_ne (by decide) (xu_ne (by decide) rfl))) (xu_ne (by decide) (xu_ne (by decide) (xu_ne (by decide) rfl))) jms, fun p a1 a2 a3 a4 a5 a6 a7 a8 a9 a10 a11 => xu_ne a1 (xu_ne a1 (xu_ne a1 ((jfr p a1 a3 a4 a5 a6 a7 a8 a9 a10 a11).trans (xu_ne a2 rfl))))⟩⟩
