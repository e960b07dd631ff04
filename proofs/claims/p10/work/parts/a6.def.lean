/-! Define keeps what holds: a call more, or none. -/
theorem xMS_r {K E : List (Int × Int)} {f : Nat → zE} (h : xMS K E f) : xMS (K ++ E) [] f := by
  obtain ⟨se, at', s1, s2, s3, s4, s5, s6, s7⟩ := h
  exact ⟨se, at', s1, s2, s3, s4, s5, s6, fun j hj => by rw [List.append_nil] at hj ⊢; exact s7 j hj⟩
theorem xINV_acc {C : xC} {f f1 f2 f3 : Nat → zE} {n : Nat} {cs : List Int} {nms : List (List Int)} {bc dp tk0 : Nat → Int} {KK : List (Int × Int)} {GG : Nat → List xBt} {RR : Nat → Int × Int} {w : List Int} {b e : Int} {al dd lc : Value} {q : Nat → Value} {nl : List Int64} {cd fa ki be en nu pa0 op : Int} {wo g : Int64} (h : xINV f n cs nms bc dp tk0 KK GG RR) (hc : nms.length < 12) (hw : xwf w) (hwn : w ∉ nms) (hws : w ∉ selW) (hAC : xAC f KK C nms.length (Int64.ofInt (xpr w.reverse)) b e al dd lc f1) (hgC : xgk (KK ++ C.2.2.1) (C.2.2.2.map xse)) (hKp : (KK.length : Int) = pa0) (hdd : yg (.inl (0, 24)) dd) (hlc : yg (.inl ytop) lc) (hal : yg (.inl (0, 1)) al) (h2 : ∀ p, p ≠ 203 → f2 p = f1 p) (h203 : f2 203 = .inr (.inr (.inl [g]))) (h177 : f 177 = xmo cd (n : Nat) fa ki be en wo nu (nms.length : Nat) pa0 op q) (hpa : 0 ≤ pa0 ∧ pa0 ≤ 16 * (nms.length : Nat)) (hnll : nl.length = 13) (hnl : ∀ k, k < nms.length → nl.getD k 0 = Int64.ofInt (xpr (nms.getD k []))) (hMK : xMK KK RR C n nms bc dp tk0 pa0 q nl (Int64.ofInt (xpr w)) f2 f3 b e) : ∃ bc' dp' tk' RR', xINV f3 0 cs (nms ++ [w]) bc' dp' tk' (KK ++ C.2.2.1) (fun i => if i = nms.length then C.2.2.2.map xse else GG i) RR' := by
  obtain ⟨hM, ⟨t1, t2, t3, t4, t5, t6⟩, ⟨n1, n2, n3, n4⟩, ⟨c1, c2, c3, kp0, al0, hrd0⟩, hMO0, ⟨⟨z1, z2, z3⟩, zG1, zG2⟩⟩ := h
  obtain ⟨pt, bs, sl, tm, oa, Bn, hpt, hbs, hsl1, hsl2, h50, h51, h53, hKF, hBn, h109, h110, h111, hbr, hPT, ⟨kt, stt, ent, wot, dit, sgt, h112⟩, hfr⟩ := hAC
  obtain ⟨hb, he, kM, be', en', wo', nu', pa, op', tmM, oaM, tk1, R1, k177, hpa', k179, kmd, ktk, ktk0, ktkc, kR0, kRc, k187, k188, kl1, kl2, kms, kfr⟩ := hMK
  obtain ⟨-, -, -, bl1, bl2, bb1, bb2, -⟩ := hbr
  have hL : (nms ++ [w]).length = nms.length + 1 := by simp
  have hKE : (KK ++ C.2.2.1).length ≤ 208 := by omega
  have hBn := hBn hKE
  subst hBn
  have hDRc : xDR (C.2.2.2.map xse) nms.length f1 (Int64.ofInt (xpr w.reverse)) b e al := by
    obtain ⟨a1, a2, fp, ep, ta, a3, a4, a5, a6, a7, -, a8⟩ := hKF
    exact ⟨a1, by omega, fp, ep, ta, a3, a4, a5, a6, a7, a8⟩
  have hptl : ((KK ++ C.2.2.1).length : Int) = pt := by
    obtain ⟨se, at', -, -, -, -, -, -, -, -, hx⟩ := hPT
    exact (hx hKE).1
  have hM1 : yM yT2 (xh f1) := xcl_M (c := nms.length) (by omega) hM hdd ygt hlc hal h50 h51 (by omega) h53 (by omega) h109 h110 h111 bl1 bl2 bb1 bb2 h112 hDRc hPT hfr
  have hM2 : yM yT2 (xh f2) := yM_cells hM1 [203] (fun p hp => h2 p (by simpa using hp)) (yc_c ⟨_, rfl, by rw [h203]; exact rfl⟩ yc_n)
  have P1 : ∀ p, (p ≠ 50 ∧ p ≠ 51 ∧ p ≠ 53 ∧ p ≠ 55 ∧ p ≠ 56 ∧ p ≠ 57 + 4 * nms.length ∧ p ≠ 58 + 4 * nms.length ∧ p ≠ 59 + 4 * nms.length ∧ p ≠ 60 + 4 * nms.length ∧ p ≠ 109 ∧ p ≠ 110 ∧ p ≠ 111 ∧ p ≠ 112 ∧ p ≠ 203) → f2 p = f p := by
    rintro p ⟨i1, i2, i3, i4, i5, i6, i7, i8, i9, i10, i11, i12, i13, i14⟩
    exact (h2 p i14).trans (hfr p i1 i2 i3 i4 i5 i6 i7 i8 i9 i10 i11 i12 i13)
  have P3 : ∀ p, (p ≠ 177 ∧ p ≠ 179 ∧ p ≠ 180 ∧ p ≠ 181 ∧ p ≠ 182 ∧ p ≠ 183 ∧ p ≠ 184 ∧ p ≠ 185 ∧ p ≠ 186 ∧ p ≠ 187 ∧ p ≠ 188) → f3 p = f2 p := by
    rintro p ⟨i1, i2, i3, i4, i5, i6, i7, i8, i9, i10, i11⟩
    exact kfr p i1 i2 i3 i4 i5 i6 i7 i8 i9 i10 i11
  have P4 : ∀ p, (p ≠ 203 ∧ p ≠ 177 ∧ p ≠ 179 ∧ p ≠ 180 ∧ p ≠ 181 ∧ p ≠ 182 ∧ p ≠ 183 ∧ p ≠ 184 ∧ p ≠ 185 ∧ p ≠ 186 ∧ p ≠ 187 ∧ p ≠ 188) → f3 p = f1 p := fun p hp => (P3 p hp.2).trans (h2 p hp.1)
  have hcn : ∀ i, i < 12 → 0 ≤ (if i = nms.length then b else bc i) ∧ (if i = nms.length then b else bc i) ≤ 16 := by
    intro i hi
    split
    · omega
    · exact z1 i hi
  have hM3 : yM yT2 (xh f3) := xmd_M (n' := 0) (ca' := (nms.length : Nat) + 1) hM2 ((P1 177 (by omega)).trans h177) k177 (by omega) (by omega) k179 (by rw [List.length_set, List.length_set]; exact hnll) kmd hcn ktk k187 k188 kl1 kl2 kms kfr
  have G1 : ∀ i, i < nms.length → (nms ++ [w]).getD i [] = nms.getD i [] := fun i hi => by rw [List.getD_eq_getElem?_getD, List.getD_eq_getElem?_getD, List.getElem?_append_left hi]
  have G2 : (nms ++ [w]).getD nms.length [] = w := by rw [List.getD_eq_getElem?_getD, List.getElem?_append_right (Nat.le_refl _)]; simp
  have FD : ∀ i, i < 13 → i ≠ nms.length → ∀ (B : List xBt) (nm : Int64) (m d : Int) (al : Value), xDR B i f nm m d al → xDR B i f3 nm m d al := by
    rintro i hi hne B nm m d al ⟨a1, a2, fp, ep, ta, a3, a4, a5, a6, a7⟩
    exact ⟨a1, a2, fp, ep, ta, ((P3 _ (by omega)).trans (P1 _ (by omega))).trans a3, ((P3 _ (by omega)).trans (P1 _ (by omega))).trans a4, ((P3 _ (by omega)).trans (P1 _ (by omega))).trans a5, ((P3 _ (by omega)).trans (P1 _ (by omega))).trans a6, a7⟩
  obtain ⟨B9, nmd, m, d, al2, hdr⟩ := c3 (nms.length + 1) (by omega) (by omega)
  obtain ⟨se, at', e1, e2, e3, e4, e5, e6, e7, e8, e9⟩ := hPT
  obtain ⟨-, e9⟩ := e9 hKE
  refine ⟨fun i => if i = nms.length then b else bc i, fun i => if i = nms.length then e else dp i, tk1, R1, hM3, ⟨by omega, t2, t3, (P4 _ (by omega)).trans h51, ((P3 _ (by omega)).trans (P1 _ (by omega))).trans t5, ((P3 _ (by omega)).trans (P1 _ (by omega))).trans t6⟩, ⟨by omega, ?_, ?_, ?_⟩, ⟨?_, ?_, ?_, pt, al2, ⟨[], B9, 57 + 4 * nms.length, 0, 7, bs, sl, pt, tm, oa, kt, stt, ent, wot, dit, sgt, nmd, m, d, (P4 _ (by omega)).trans h109, hbs, ⟨hsl1, hsl2⟩, ?_, (P4 _ (by omega)).trans h110, (P4 _ (by omega)).trans h111, bl1, bl2, bb1, bb2, (P4 _ (by omega)).trans h112, ?_, se, at', (P4 _ (by omega)).trans e1, (P4 _ (by omega)).trans e2, e3, e4, e5, e6, by omega, e9, fun _ => ⟨by rw [List.append_nil]; exact hptl, fun j hj => by rw [List.append_nil] at hj ⊢; exact e9 j hj⟩⟩, hpt, hptl⟩, ⟨0, -1, kM, be', en', wo', nu', pa, op', q, _, b, e, tmM, oaM, [], C.2.2.2, ?_, ⟨by rw [hL]; omega, by omega⟩, k179, by rw [List.length_set, List.length_set]; exact hnll, ?_, kmd, k187, k188, kl1, kl2, xMS_r kms⟩, ⟨hcn, ?_, ktk⟩, ?_, ?_⟩
  · intro v hv
    rcases List.mem_append.mp hv with h1 | h1
    · exact n2 v h1
    · rw [List.mem_singleton.mp h1]; exact hw
  · refine List.nodup_append.mpr ⟨n3, by simp, ?_⟩
    intro a ha c hcm e0
    rw [List.mem_singleton.mp hcm] at e0
    exact hwn (e0 ▸ ha)
  · intro v hv
    rcases List.mem_append.mp hv with h1 | h1
    · exact n4 v h1
    · rw [List.mem_singleton.mp h1]; exact hws
  · intro i hi
    dsimp only
    split
    · exact he
    · exact c1 i (by omega)
  · intro i hi
    dsimp only
    by_cases hic : i = nms.length
    · subst hic
      rw [if_pos rfl, if_pos rfl, if_pos rfl, G2]
      obtain ⟨a1, a2, fp, ep, ta, a3, a4, a5, a6, a7⟩ := hKF
      exact ⟨al, a1, a2, fp, ep, ta, (P4 _ (by omega)).trans a3, (P4 _ (by omega)).trans a4, (P4 _ (by omega)).trans a5, (P4 _ (by omega)).trans a6, a7⟩
    · rw [if_neg hic, if_neg hic, if_neg hic, G1 i (by omega)]
      obtain ⟨al3, a1, a2, fp, ep, ta, a3, a4, a5, a6, a7⟩ := c2 i (by omega)
      exact ⟨al3, a1, a2, fp, ep, ta, ((P3 _ (by omega)).trans (P1 _ (by omega))).trans a3, ((P3 _ (by omega)).trans (P1 _ (by omega))).trans a4, ((P3 _ (by omega)).trans (P1 _ (by omega))).trans a5, ((P3 _ (by omega)).trans (P1 _ (by omega))).trans a6, a7⟩
  · intro i hi1 hi2
    obtain ⟨B2, nmd2, m2, d2, al3, hk⟩ := c3 i (by omega) hi2
    exact ⟨B2, nmd2, m2, d2, al3, FD i (by omega) (by omega) _ _ _ _ _ hk⟩
  · rw [hL, (P4 53 (by omega)).trans h53]; rfl
  · rw [hL]; exact FD _ (by omega) (by omega) _ _ _ _ _ hdr
  · rw [hL]; exact k177
  · intro k hk
    by_cases hkc : k = nms.length
    · subst hkc
      rw [G2, List.getD_eq_getElem?_getD, List.getElem?_set_self (by rw [List.length_set]; omega)]
      rfl
    · rw [G1 k (by omega), ← hnl k (by omega), List.getD_eq_getElem?_getD, List.getElem?_set_ne (by omega), List.getElem?_set_ne (by omega), List.getD_eq_getElem?_getD]
  · intro i hi k hk
    dsimp only at hk
    by_cases hic : i = nms.length
    · subst hic
      rw [if_pos rfl] at hk
      exact ktkc k hk
    · rw [if_neg hic] at hk
      have := z1 i (by omega)
      rw [ktk0 (16 * i + k) (by omega)]
      exact z2 i (by omega) k hk
  · intro i hi
    dsimp only
    by_cases hic : i = nms.length
    · subst hic
      rw [if_pos rfl, if_pos rfl, List.length_map]
      exact ⟨kRc.1, fun k hk => kRc.2 k hk⟩
    · rw [if_neg hic, if_neg hic]
      obtain ⟨g1, g2⟩ := zG1 i (by omega)
      have hb16 := z1 i (by omega)
      refine ⟨g1, fun k hk => ?_⟩
      rw [kR0 (16 * i + k) (by omega), ktk0 (16 * i + k) (by omega)]
      exact g2 k hk
  · intro i
    dsimp only
    by_cases hic : i = nms.length
    · rw [if_pos hic]
      exact hgC
    · rw [if_neg hic]
      intro j hj
      obtain ⟨g1, g2, g3⟩ := zG2 i j hj
      refine ⟨g1, g2, ?_⟩
      rw [List.length_append]
      omega
theorem xINV_ref {f f1 f2 f3 : Nat → zE} {n : Nat} {cs : List Int} {nms : List (List Int)} {bc dp tk0 : Nat → Int} {KK : List (Int × Int)} {GG : Nat → List xBt} {RR : Nat → Int × Int} {al dd v lc : Value} {q : Nat → Value} {nl : List Int64} {kp cd fa ki be en nu pa0 op kt stt ent dit sgt cd' fa' : Int} {wo wot : Int64} (h : xINV f n cs nms bc dp tk0 KK GG RR) (hSW : xSW f KK nms.length kp f1 al) (hKk : (KK.length : Int) = kp) (hKp : (KK.length : Int) = pa0) (hkp : 0 ≤ kp ∧ kp ≤ 208) (h112 : f1 112 = xtk kt stt ent wot dit sgt) (h50 : f2 50 = xfc dd v lc) (h2 : ∀ p, p ≠ 50 → f2 p = f1 p) (hdd : yg (.inl (0, 24)) dd) (hv : yg (.inl ytop) v) (hlc : yg (.inl ytop) lc) (hal : yg (.inl (0, 1)) al) (h177 : f 177 = xmo cd (n : Nat) fa ki be en wo nu (nms.length : Nat) pa0 op q) (hpa : 0 ≤ pa0 ∧ pa0 ≤ 16 * (nms.length : Nat)) (hnll : nl.length = 13) (hnl : ∀ k, k < nms.length → nl.getD k 0 = Int64.ofInt (xpr (nms.getD k []))) (hMN : xMN KK RR n nms bc dp tk0 pa0 q nl f2 f3 cd' fa') : xINV f3 n cs nms bc dp tk0 KK GG RR := by
  obtain ⟨hM, ⟨t1, t2, t3, t4, t5, t6⟩, ⟨n1, n2, n3, n4⟩, ⟨c1, c2, c3, kp0, al0, hrd0⟩, hMO0, ⟨⟨z1, z2, z3⟩, zG⟩⟩ := h
  obtain ⟨pt, op1, ex, bs, sl, m, d, tm, oa, nmd, E1, B1, ⟨hpt, hbs, hsl⟩, h53, h109, h110, h111, bl1, bl2, bb1, bb2, hDR, hPT, hfr⟩ := hSW
  obtain ⟨W, kM, be', en', wo', nu', op', mt, d', tmM, oaM, E3, B3, k177, k179, kmd, k187, k188, kl1, kl2, kms, kfr⟩ := hMN
  have Q2 : ∀ p, p ≠ 50 → f2 p = f1 p := h2
  have P1 : ∀ p, (p ≠ 50 ∧ p ≠ 53 ∧ p ≠ 55 ∧ p ≠ 56 ∧ p ≠ 57 + 4 * nms.length ∧ p ≠ 58 + 4 * nms.length ∧ p ≠ 59 + 4 * nms.length ∧ p ≠ 60 + 4 * nms.length ∧ p ≠ 109 ∧ p ≠ 110 ∧ p ≠ 111 ∧ p ≠ 112) → f2 p = f p := by
    rintro p ⟨i1, i3, i4, i5, i6, i7, i8, i9, i10, i11, i12, i13⟩
    exact (h2 p i1).trans (hfr p i3 i4 i5 i6 i7 i8 i9 i10 i11 i12 i13)
  have P3 : ∀ p, (p ≠ 177 ∧ p ≠ 179 ∧ p ≠ 180 ∧ p ≠ 181 ∧ p ≠ 182 ∧ p ≠ 183 ∧ p ≠ 184 ∧ p ≠ 185 ∧ p ≠ 186 ∧ p ≠ 187 ∧ p ≠ 188) → f3 p = f2 p := by
    rintro p ⟨i1, i2, i3, i4, i5, i6, i7, i8, i9, i10, i11⟩
    exact kfr p i1 i2 i3 i4 i5 i6 i7 i8 i9 i10 i11
  have P4 : ∀ p, (p ≠ 50 ∧ p ≠ 177 ∧ p ≠ 179 ∧ p ≠ 180 ∧ p ≠ 181 ∧ p ≠ 182 ∧ p ≠ 183 ∧ p ≠ 184 ∧ p ≠ 185 ∧ p ≠ 186 ∧ p ≠ 187 ∧ p ≠ 188) → f3 p = f1 p := fun p hp => (P3 p hp.2).trans (h2 p hp.1)
  have DR2 : ∀ i, i < 13 → ∀ (B : List xBt) (nm : Int64) (m d : Int) (al : Value), xDR B i f1 nm m d al → xDR B i f2 nm m d al := by
    rintro i hi B nm m d al ⟨a1, a2, fp, ep, ta, a3, a4, a5, a6, a7⟩
    exact ⟨a1, a2, fp, ep, ta, (h2 _ (by omega)).trans a3, (h2 _ (by omega)).trans a4, (h2 _ (by omega)).trans a5, (h2 _ (by omega)).trans a6, a7⟩
  have DR3 : ∀ i, i < 13 → ∀ (B : List xBt) (nm : Int64) (m d : Int) (al : Value), xDR B i f2 nm m d al → xDR B i f3 nm m d al := by
    rintro i hi B nm m d al ⟨a1, a2, fp, ep, ta, a3, a4, a5, a6, a7⟩
    exact ⟨a1, a2, fp, ep, ta, (P3 _ (by omega)).trans a3, (P3 _ (by omega)).trans a4, (P3 _ (by omega)).trans a5, (P3 _ (by omega)).trans a6, a7⟩
  obtain ⟨se, at', e1, e2, e3⟩ := hPT
  have hM2 : yM yT2 (xh f2) := xcl_M (c := nms.length) (n' := (n : Nat)) (by omega) hM hdd hv hlc hal h50 ((P1 51 (by omega)).trans t4) (by omega) ((h2 53 (by decide)).trans h53) (by omega) ((h2 109 (by decide)).trans h109) ((h2 110 (by decide)).trans h110) ((h2 111 (by decide)).trans h111) bl1 bl2 bb1 bb2 ((h2 112 (by decide)).trans h112) (DR2 _ (by omega) _ _ _ _ _ hDR) ⟨se, at', (h2 55 (by decide)).trans e1, (h2 56 (by decide)).trans e2, e3⟩ (fun p i1 i2 i3 i4 i5 i6 i7 i8 i9 i10 i11 i12 i13 => P1 p ⟨i1, i3, i4, i5, i6, i7, i8, i9, i10, i11, i12, i13⟩)
  have hM3 : yM yT2 (xh f3) := xmd_M (n' := (n : Nat)) (ca' := (nms.length : Nat)) hM2 ((P1 177 (by omega)).trans h177) k177 (by omega) (by omega) k179 (by rw [List.length_set]; exact hnll) kmd z1 z3 k187 k188 kl1 kl2 kms kfr
  refine ⟨hM3, ⟨t1, t2, t3, ((P3 _ (by omega)).trans (P1 _ (by omega))).trans t4, ((P3 _ (by omega)).trans (P1 _ (by omega))).trans t5, ((P3 _ (by omega)).trans (P1 _ (by omega))).trans t6⟩, ⟨n1, n2, n3, n4⟩, ⟨c1, ?_, ?_, kp, al, ⟨E1, B1, 57 + 4 * nms.length, op1, ex, bs, sl, pt, tm, oa, kt, stt, ent, wot, dit, sgt, nmd, m, d, (P4 _ (by omega)).trans h109, hbs, hsl, (P4 _ (by omega)).trans h53, (P4 _ (by omega)).trans h110, (P4 _ (by omega)).trans h111, bl1, bl2, bb1, bb2, (P4 _ (by omega)).trans h112, DR3 _ (by omega) _ _ _ _ _ (DR2 _ (by omega) _ _ _ _ _ hDR), se, at', (P4 _ (by omega)).trans e1, (P4 _ (by omega)).trans e2, e3⟩, hkp, hKk⟩, ⟨cd', fa', kM, be', en', wo', nu', pa0, op', q, _, mt, d', tmM, oaM, E3, B3, k177, ⟨hpa, hKp⟩, k179, by rw [List.length_set]; exact hnll, ?_, kmd, k187, k188, kl1, kl2, kms⟩, ⟨⟨z1, z2, z3⟩, zG⟩⟩
  · intro i hi
    obtain ⟨al3, a1, a2, fp, ep, ta, a3, a4, a5, a6, a7⟩ := c2 i (by omega)
    exact ⟨al3, a1, a2, fp, ep, ta, ((P3 _ (by omega)).trans (P1 _ (by omega))).trans a3, ((P3 _ (by omega)).trans (P1 _ (by omega))).trans a4, ((P3 _ (by omega)).trans (P1 _ (by omega))).trans a5, ((P3 _ (by omega)).trans (P1 _ (by omega))).trans a6, a7⟩
  · intro i hi1 hi2
    obtain ⟨B2, nmd2, m2, d2, al3, a1, a2, fp, ep, ta, a3, a4, a5, a6, a7⟩ := c3 i hi1 hi2
    exact ⟨B2, nmd2, m2, d2, al3, a1, a2, fp, ep, ta, ((P3 _ (by omega)).trans (P1 _ (by omega))).trans a3, ((P3 _ (by omega)).trans (P1 _ (by omega))).trans a4, ((P3 _ (by omega)).trans (P1 _ (by omega))).trans a5, ((P3 _ (by omega)).trans (P1 _ (by omega))).trans a6, a7⟩
  · intro k hk
    rw [← hnl k hk, List.getD_eq_getElem?_getD, List.getElem?_set_ne (by omega), List.getD_eq_getElem?_getD]
