/-! The model reads a text. -/
/-- behind a text that is a call: b beats, depth e -/
def xMA (K : List (Int × Int)) (R0 : Nat → Int × Int) (C : xC) (n : Nat) (nms : List (List Int)) (bc dp tk0 : Nat → Int) (cd fa pa0 : Int) (q : Nat → Value) (f0 f : Nat → zE) (b e : Int) : Prop := (0 ≤ b ∧ b ≤ 16) ∧ (1 ≤ e ∧ e ≤ 6) ∧ ∃ (kM be en : Int) (wo : Int64) (nu pa op : Int) (tmM oaM : List Int), f 177 = xmo cd (n : Nat) fa kM be en wo nu (nms.length : Nat) pa op q ∧ (pa0 ≤ pa ∧ pa ≤ pa0 + 16 ∧ pa = ((K ++ C.2.2.1).length : Nat)) ∧ xMD R0 C.2.2.2 bc dp tk0 f b e ∧ f 187 = xr 0 tmM ∧ f 188 = xr 0 oaM ∧ tmM.length = 3 ∧ oaM.length = 3 ∧ xMS K C.2.2.1 f ∧ ∀ p, p ≠ 177 → p ≠ 180 → p ≠ 181 → p ≠ 182 → p ≠ 183 → p ≠ 184 → p ≠ 185 → p ≠ 186 → p ≠ 187 → p ≠ 188 → f p = f0 p
theorem xs_81e {K : List (Int × Int)} {R0 : Nat → Int × Int} {G : Nat → List xBt} {C Cf : xC} {v0 : Value} {xs : List Int32} {u : Nat × Nat} {f0 : Nat → zE} {n : Nat} {cs : List Int} {nms : List (List Int)} {nl : List Int64} {bc dp tk0 : Nat → Int} {cd fa pa0 op m d : Int} {q : Nat → Value} {tm oa : List Int} {p : Nat} {f : Nat → zE} {lv : zL} {G0 : Int ⊕ (Int × Int)} (hn : n ≤ 100) (hl : cs.length = 100) (hcs : ∀ j : Nat, 0 ≤ cs.getD j 0 ∧ cs.getD j 0 ≤ 126) (h179 : f0 179 = .inr (.inr (.inl nl))) (hlen : nl.length = 13) (hcl : nms.length ≤ 12) (hw : ∀ w ∈ nms, xwf w) (hnl : ∀ k, k < nms.length → nl.getD k 0 = Int64.ofInt (xpr (nms.getD k []))) (hnd : nms.Nodup) (hns : ∀ w ∈ nms, w ∉ selW) (hbc : ∀ i, i < nms.length → 0 ≤ bc i ∧ bc i ≤ 16) (hdp : ∀ i, i < nms.length → 1 ≤ dp i ∧ dp i ≤ 6) (htk : ∀ i, i < nms.length → ∀ k : Nat, (k : Int) < bc i → 0 ≤ tk0 (16 * i + k) ∧ tk0 (16 * i + k) ≤ k) (hpa0 : 0 ≤ pa0 ∧ pa0 ≤ 192) (h178 : f0 178 = xr 1 cs) (l0 : zlv lv 0 = some (.ref 177)) (hG : xG cs n nms bc dp p (7, op, tm, oa, m, d) = G0) (hGc : xGC K G cs n nms bc dp p (7, op, tm, oa, m, d) C = Cf) (hst : xST K R0 C cs n nms bc dp tk0 cd fa pa0 q f0 f p op tm oa m d) (hend : ∀ (ki : Int) (s e : Nat), xTK cs n p ki s e → ¬ (ki = 3 ∧ cs.getD s 0 = 59) ∧ (op ≠ 0 → ¬ (ki = 3 ∧ cs.getD s 0 = 41))) : xz v0 xs u (fun o X => ∃ r f', o = .inl r ∧ X = (xh f', u) ∧ (fun r f' => (∃ b e' : Int, G0 = .inr (b, e') ∧ r = some (xi (-1)) ∧ xMA K R0 Cf n nms bc dp tk0 cd fa pa0 q f0 f' b e') ∨ (∃ z : Int, G0 = .inl z ∧ r = some (xi z) ∧ (0 ≤ z ∧ z ≤ 100) ∧ xMW K R0 n nms bc dp tk0 cd fa q f0 f' z)) r f') 81 240 lv [] f := by
  obtain ⟨hp, ki, s, e, kM, wo, nu, pa, h177, hT, hM, hC, hpa1, hpa2, hpl⟩ := hst
  have hr := xTK_rg hT hp
  have hk := xTM_k hp hT hM
  have hC0 := hC
  obtain ⟨c1, c2, c3, c4, mt, tmM, oaM, k5, k6, k7, k8, k9, k10, k11, k12, k13⟩ := hC0
  have hmt0 := k12.1
  have hmt := xphi_m c1 k12
  have hnot := hend ki s e hT
  refine x_aload_n rfl l0 ?_
  refine x_getfield rfl (by decide) h177 rfl ?_
  refine x_ifne (t := 254) rfl rfl ⟨by omega, by omega⟩ (fun hne => ?_) (fun h0 => ?_)
  · have hki : ki ≠ 0 := fun h => hne (hk.2.2.2.mpr h)
    have hnone : G0 = .inl ((s : Nat) : Int) := by
      rw [← hG]
      refine xG_n hp hT (fun h => absurd h hki) (fun _ => ?_)
      unfold xtq
      simp only [xstep]
      unfold xeos
      rw [if_neg hnot.1]
      by_cases hop : op = 0
      · rw [if_pos hop]
      · rw [if_neg hop, if_neg (hnot.2 hop)]
    refine x_aload_n rfl l0 ?_
    refine x_getfield rfl (by decide) h177 rfl ?_
    refine x_ifne (t := 268) rfl rfl ⟨by omega, by omega⟩ (fun _ => ?_) (fun h9 => absurd h9 hne)
    refine x_aload_n rfl l0 ?_
    refine x_getfield rfl (by decide) h177 rfl ?_
    refine x_ireturn rfl (Or.inl rfl) ⟨_, _, rfl, rfl, ?_⟩
    exact Or.inr ⟨_, hnone, rfl, ⟨by omega, by omega⟩, xCM_W h177 ⟨hk.1, ⟨by omega, by omega⟩, fun h => by have h9 := hr.2.2.2.2.2.2 (hk.2.2.2.mp h); omega⟩ hC⟩
  · have hki : ki = 0 := hk.2.2.2.mp h0
    have hCf : Cf = C := by rw [← hGc, xGC_0 hp hT hki]; simp
    subst hCf
    have hsn : ((s : Nat) : Int) = ((n : Nat) : Int) := by have h9 := hr.2.2.2.2.2.2 hki; omega
    have hG2 : G0 = xfo n (xfin (7, op, tm, oa, m, d)) := by rw [← hG]; exact xG_0 hp hT hki
    refine x_aload_n rfl l0 ?_
    refine x_getfield rfl (by decide) h177 rfl ?_
    refine x_ifle (t := 273) rfl rfl ⟨by omega, by omega⟩ (fun hop => ?_) (fun hop => ?_)
    rotate_left
    · have hnone : G0 = .inl ((s : Nat) : Int) := by rw [hG2]; unfold xfin; rw [if_neg (by dsimp only; omega), hsn]; rfl
      refine x_aload_n rfl l0 ?_
      refine x_getfield rfl (by decide) h177 rfl ?_
      refine x_ifne (t := 268) rfl rfl ⟨by omega, by omega⟩ (fun h9 => absurd h0 h9) (fun _ => ?_)
      refine x_aload_n rfl l0 ?_
      refine x_getfield rfl (by decide) h177 rfl ?_
      refine x_goto (t := 272) rfl rfl ?_
      refine x_ireturn rfl (Or.inl rfl) ⟨_, _, rfl, rfl, ?_⟩
      exact Or.inr ⟨_, hnone, by rw [hsn], ⟨by omega, by omega⟩, xCM_W h177 ⟨hk.1, ⟨by omega, by omega⟩, fun h => by have h9 := hr.2.2.2.2.2.2 (hk.2.2.2.mp h); omega⟩ hC⟩
    have hop0 : op = 0 := by omega
    have k5b := k5
    obtain ⟨cn, dn, tk, pf, pq, h180, h181, h182, h183, h184, ⟨g1l, g2l, g3l, g4l, g5l⟩, hcm, hdd, hk1, hk2b, hk3, hk4, hR9, hmb9⟩ := k5b
    have hfin : xfin (7, op, tm, oa, m, d) = if m ≤ 16 ∧ d ≤ 6 then some (m, d) else none := by unfold xfin; rw [if_pos ⟨Or.inr rfl, hop0⟩]; rfl
    refine x_aload_n rfl l0 ?_
    refine x_getfield rfl (by decide) h177 rfl ?_
    refine x_bipush rfl (by decide) ?_
    refine x_iaload rfl (by decide) h180 ⟨by omega, by omega⟩ (by omega) ?_
    rw [show (12 : Int).toNat = 12 from rfl, hcm]
    refine x_bipush rfl (by decide) ?_
    refine x_cgt (t := 297) rfl rfl ⟨by omega, by omega⟩ (by decide) (fun hbig => ?_) (fun hsm => ?_)
    · refine x_aload_n rfl l0 ?_
      refine x_getfield rfl (by decide) h177 rfl ?_
      refine x_goto (t := 305) rfl rfl ?_
      refine x_ireturn rfl (Or.inl rfl) ⟨_, _, rfl, rfl, ?_⟩
      exact Or.inr ⟨((s : Nat) : Int), by rw [hG2, hfin, if_neg (by omega), hsn]; rfl, by rw [hsn], ⟨by omega, by omega⟩, xCM_W h177 ⟨hk.1, ⟨by omega, by omega⟩, fun h => by have h9 := hr.2.2.2.2.2.2 (hk.2.2.2.mp h); omega⟩ hC⟩
    · refine x_aload_n rfl l0 ?_
      refine x_getfield rfl (by decide) h177 rfl ?_
      refine x_bipush rfl (by decide) ?_
      refine x_iaload rfl (by decide) h181 ⟨by omega, by omega⟩ (by omega) ?_
      rw [show (12 : Int).toNat = 12 from rfl, hdd]
      refine x_bipush rfl (by decide) ?_
      refine x_cle (t := 304) rfl rfl ⟨by omega, by omega⟩ (by decide) (fun hd6 => ?_) (fun hd6 => ?_)
      · refine x_iconst rfl ?_
        refine x_ireturn rfl (Or.inl rfl) ⟨_, _, rfl, rfl, ?_⟩
        have em : mt = m := by omega
        refine Or.inl ⟨m, d, by rw [hG2, hfin, if_pos ⟨by omega, hd6⟩]; rfl, rfl, ⟨by omega, by omega⟩, ⟨c2.1, hd6⟩, _, _, _, _, _, pa, _, tmM, oaM, h177, ⟨hpa1, by omega, hpl⟩, by rw [← em]; exact k5, k7, k8, k9, k10, c3, c4⟩
      · refine x_aload_n rfl l0 ?_
        refine x_getfield rfl (by decide) h177 rfl ?_
        refine x_goto (t := 305) rfl rfl ?_
        refine x_ireturn rfl (Or.inl rfl) ⟨_, _, rfl, rfl, ?_⟩
        exact Or.inr ⟨((s : Nat) : Int), by rw [hG2, hfin, if_neg (by omega), hsn]; rfl, by rw [hsn], ⟨by omega, by omega⟩, xCM_W h177 ⟨hk.1, ⟨by omega, by omega⟩, fun h => by have h9 := hr.2.2.2.2.2.2 (hk.2.2.2.mp h); omega⟩ hC⟩
theorem xs_81i {K : List (Int × Int)} {R0 : Nat → Int × Int} {G : Nat → List xBt} {Cf : xC} {v0 : Value} {xs : List Int32} {u : Nat × Nat} {f0 : Nat → zE} {n : Nat} {cs : List Int} {nms : List (List Int)} {nl : List Int64} {bc dp tk0 : Nat → Int} {cd fa pa0 : Int} {q : Nat → Value} {tm oa : List Int} {G0 : Int ⊕ (Int × Int)} (hn : n ≤ 100) (hl : cs.length = 100) (hcs : ∀ j : Nat, 0 ≤ cs.getD j 0 ∧ cs.getD j 0 ≤ 126) (h179 : f0 179 = .inr (.inr (.inl nl))) (hlen : nl.length = 13) (hcl : nms.length ≤ 12) (hw : ∀ w ∈ nms, xwf w) (hnl : ∀ k, k < nms.length → nl.getD k 0 = Int64.ofInt (xpr (nms.getD k []))) (hnd : nms.Nodup) (hns : ∀ w ∈ nms, w ∉ selW) (hbc : ∀ i, i < nms.length → 0 ≤ bc i ∧ bc i ≤ 16) (hdp : ∀ i, i < nms.length → 1 ≤ dp i ∧ dp i ≤ 6) (htk : ∀ i, i < nms.length → ∀ k : Nat, (k : Int) < bc i → 0 ≤ tk0 (16 * i + k) ∧ tk0 (16 * i + k) ≤ k) (hpa0 : 0 ≤ pa0 ∧ pa0 ≤ 192) (h178 : f0 178 = xr 1 cs) : ∀ (w p : Nat) (C : xC) (f : Nat → zE) (lv : zL) (op m d : Int), n ≤ w + p → zlv lv 0 = some (.ref 177) → zlv lv 2 = some (xi 0) → xG cs n nms bc dp p (7, op, tm, oa, m, d) = G0 → xGC K G cs n nms bc dp p (7, op, tm, oa, m, d) C = Cf → (∀ (p' : Nat) (C' : xC) (f' : Nat → zE) (lv' : zL) (op' m' d' : Int), p < p' → zlv lv' 0 = some (.ref 177) → zlv lv' 2 = some (xi 1) → xG cs n nms bc dp p' (2, op', tm, oa, m', d') = G0 → xGC K G cs n nms bc dp p' (2, op', tm, oa, m', d') C' = Cf → xST K R0 C' cs n nms bc dp tk0 cd fa pa0 q f0 f' p' op' tm oa m' d' → xz v0 xs u (fun o X => ∃ r f', o = .inl r ∧ X = (xh f', u) ∧ (fun r f' => (∃ b e' : Int, G0 = .inr (b, e') ∧ r = some (xi (-1)) ∧ xMA K R0 Cf n nms bc dp tk0 cd fa pa0 q f0 f' b e') ∨ (∃ z : Int, G0 = .inl z ∧ r = some (xi z) ∧ (0 ≤ z ∧ z ≤ 100) ∧ xMW K R0 n nms bc dp tk0 cd fa q f0 f' z)) r f') 81 142 lv' [] f') → xST K R0 C cs n nms bc dp tk0 cd fa pa0 q f0 f p op tm oa m d → xz v0 xs u (fun o X => ∃ r f', o = .inl r ∧ X = (xh f', u) ∧ (fun r f' => (∃ b e' : Int, G0 = .inr (b, e') ∧ r = some (xi (-1)) ∧ xMA K R0 Cf n nms bc dp tk0 cd fa pa0 q f0 f' b e') ∨ (∃ z : Int, G0 = .inl z ∧ r = some (xi z) ∧ (0 ≤ z ∧ z ≤ 100) ∧ xMW K R0 n nms bc dp tk0 cd fa q f0 f' z)) r f') 81 191 lv [] f := by
  intro w
  induction w with
  | zero =>
    intro p C f lv op m d hwp l0 l2 hG hGc hback hst
    have hst0 := hst
    obtain ⟨hp, ki, s, e, kM, wo, nu, pa, h177, hT, hM, hC, hpa1, hpa2, hpl⟩ := hst
    have hr := xTK_rg hT hp
    have hk := xTM_k hp hT hM
    have hC0 := hC
    obtain ⟨c1, c2, c3, c4, mt, tmM, oaM, k5, k6, k7, k8, k9, k10, k11, k12, k13⟩ := hC0
    have hmt0 := k12.1
    have hmt := xphi_m c1 k12
    have f178 := (c4 178 (by decide) (by decide) (by decide) (by decide) (by decide) (by decide) (by decide) (by decide) (by decide) (by decide)).trans h178
    have hsemi : (op ≠ 0 → ¬ (ki = 3 ∧ cs.getD s 0 = 41)) → xz v0 xs u (fun o X => ∃ r f', o = .inl r ∧ X = (xh f', u) ∧ (fun r f' => (∃ b e' : Int, G0 = .inr (b, e') ∧ r = some (xi (-1)) ∧ xMA K R0 Cf n nms bc dp tk0 cd fa pa0 q f0 f' b e') ∨ (∃ z : Int, G0 = .inl z ∧ r = some (xi z) ∧ (0 ≤ z ∧ z ≤ 100) ∧ xMW K R0 n nms bc dp tk0 cd fa q f0 f' z)) r f') 81 218 lv [] f := fun hcx => by
      refine x_iload_n rfl l2 ?_
      refine x_ifne (t := 231) rfl rfl (by decide) (fun h => absurd rfl h) (fun _ => ?_)
      refine x_aload_n rfl l0 ?_
      refine x_bipush rfl (by decide) ?_
      by_cases hs : ki = 3 ∧ cs.getD s 0 = 59
      · skip
        refine x_call [_, _] rfl rfl (show (0 : Nat) ≤ 8 from by decide) (show (2 : Nat) ≤ 3 from by decide) (x_rcv (by decide) h177) (xs_75t h177 f178 hn hl hcs hp hT hM (by unfold xsgn; omega) hs) (fun r' f1 hP => ?_)
        obtain ⟨rfl, ⟨ki2, s2, e2, kM2, wo2, nu2, h177b, hT2, hM2⟩, hf1⟩ := hP
        have hse := hr.2.2.2.2.2.1 (by omega)
        refine x_ifeq (t := 235) rfl rfl (by decide) (fun h => absurd h (by decide)) (fun _ => ?_)
        refine x_iconst rfl ?_
        refine x_goto (t := 236) rfl rfl ?_
        refine x_istore_n rfl (show (2 : Nat) < 4 from by decide) ?_
        refine x_goto (t := 142) rfl rfl ?_
        refine hback e C f1 _ op m d (by omega) (xst_ne (by decide) l0 (Or.inl rfl)) xst_eq ?_ ?_ ⟨hr.2.2.2.1, ki2, s2, e2, kM2, wo2, nu2, pa, h177b, hT2, hM2, xCM_mv hf1 (by omega) hC, hpa1, by omega, hpl⟩
        · rw [← hG]
          exact (xG_s hp hT (by omega) (by unfold xtq; simp only [xstep]; unfold xeos; rw [if_pos hs])).symm
        · rw [← hGc]
          exact (xGC_s hp hT (by omega) (by unfold xtq; simp only [xstep]; unfold xeos; rw [if_pos hs]) (by unfold xtc; simp only [xcst]; unfold xceos; rw [if_pos hs])).symm
      · skip
        refine x_call [_, _] rfl rfl (show (0 : Nat) ≤ 8 from by decide) (show (2 : Nat) ≤ 3 from by decide) (x_rcv (by decide) h177) (xs_75f h177 f178 hn hl hcs hp hT hM (by unfold xsgn; omega) hs) (fun r' f1 hP => ?_)
        obtain ⟨rfl, hPe⟩ := hP
        subst hPe
        refine x_ifeq (t := 235) rfl rfl (by decide) (fun _ => ?_) (fun h => absurd rfl h)
        refine x_iconst rfl ?_
        refine x_istore_n rfl (show (2 : Nat) < 4 from by decide) ?_
        refine x_goto (t := 142) rfl rfl ?_
        refine x_iload_n rfl xst_eq ?_
        refine x_ifeq (t := 240) rfl rfl (by decide) (fun _ => ?_) (fun h => absurd rfl h)
        refine xs_81e hn hl hcs h179 hlen hcl hw hnl hnd hns hbc hdp htk hpa0 h178 (xst_ne (by decide) l0 (Or.inl rfl)) hG hGc hst0 (fun ki9 s9 e9 hT9 => ?_)
        have e9 := (xtf_eq hT).symm.trans (xtf_eq hT9)
        injection e9 with e91 e92
        injection e92 with e93 e94
        rw [← e91, ← e93]
        exact ⟨hs, hcx⟩
    refine x_iload_n rfl l2 ?_
    refine x_ifne (t := 218) rfl rfl (by decide) (fun h => absurd rfl h) (fun _ => ?_)
    refine x_aload_n rfl l0 ?_
    refine x_getfield rfl (by decide) h177 rfl ?_
    refine x_ifle (t := 218) rfl rfl ⟨by omega, by omega⟩ (fun hop => hsemi (fun h => by omega)) (fun hop => ?_)
    refine x_aload_n rfl l0 ?_
    refine x_bipush rfl (by decide) ?_
    by_cases hs : ki = 3 ∧ cs.getD s 0 = 41
    · skip
      refine x_call [_, _] rfl rfl (show (0 : Nat) ≤ 8 from by decide) (show (2 : Nat) ≤ 3 from by decide) (x_rcv (by decide) h177) (xs_75t h177 f178 hn hl hcs hp hT hM (by unfold xsgn; omega) hs) (fun r' f1 hP => ?_)
      obtain ⟨rfl, ⟨ki2, s2, e2, kM2, wo2, nu2, h177b, hT2, hM2⟩, hf1⟩ := hP
      have hse := hr.2.2.2.2.2.1 (by omega)
      have hj := k11 (op - 1).toNat (by omega)
      have hcy := xphi_close (t := tm.getD (op - 1).toNat 0) ⟨hop, c1.2⟩ ⟨by omega, by omega⟩ k12
      refine x_ifeq (t := 218) rfl rfl (by decide) (fun h => absurd h (by decide)) (fun _ => ?_)
      refine x_aload_n rfl l0 ?_
      refine x_call [_] rfl rfl (show (0 : Nat) ≤ 8 from by decide) (show (1 : Nat) ≤ 6 from by decide) (x_rcv (by decide) h177b) (xs_80 h177b ((hf1 187 (by decide)).trans k7) ((hf1 188 (by decide)).trans k8) ⟨hop, c1.2⟩ k9 k10 ⟨by omega, by omega⟩ ⟨by omega, by omega⟩ hcy.2.2 (xMD_mv (fun p p1 p2 => hf1 p (by omega)) k5)) (fun r' f2 hP => ?_)
      obtain ⟨rfl, hQ1, hQ2, hQ3⟩ := hP
      rw [hj.1] at hQ1
      refine x_goto (t := 191) rfl rfl ?_
      have k0 : 0 ≤ tm.getD (op - 1).toNat 0 - 1 := by omega
      have hmin : min (mt + (tm.getD (op - 1).toNat 0 - 1) * (mt - oaM.getD (op - 1).toNat 0)) 17 = min (m + (tm.getD (op - 1).toNat 0 - 1) * (m - oa.getD (op - 1).toNat 0)) 17 := by
        by_cases hbig : mt ≤ 16
        · rw [show m = mt by omega, show oa.getD (op - 1).toNat 0 = oaM.getD (op - 1).toNat 0 by have := hj.2.2; have := hcy.2.2; omega]
        · have z1 : 0 ≤ (tm.getD (op - 1).toNat 0 - 1) * (mt - oaM.getD (op - 1).toNat 0) := Int.mul_nonneg k0 (by have := hcy.2.2; omega)
          have z2 : 0 ≤ (tm.getD (op - 1).toNat 0 - 1) * (m - oa.getD (op - 1).toNat 0) := Int.mul_nonneg k0 (by have := hj.2.2; omega)
          omega
      exfalso; omega
    · skip
      refine x_call [_, _] rfl rfl (show (0 : Nat) ≤ 8 from by decide) (show (2 : Nat) ≤ 3 from by decide) (x_rcv (by decide) h177) (xs_75f h177 f178 hn hl hcs hp hT hM (by unfold xsgn; omega) hs) (fun r' f1 hP => ?_)
      obtain ⟨rfl, hPe⟩ := hP
      subst hPe
      refine x_ifeq (t := 218) rfl rfl (by decide) (fun _ => hsemi (fun _ => hs)) (fun h => absurd rfl h)
  | succ w ih =>
    intro p C f lv op m d hwp l0 l2 hG hGc hback hst
    have hst0 := hst
    obtain ⟨hp, ki, s, e, kM, wo, nu, pa, h177, hT, hM, hC, hpa1, hpa2, hpl⟩ := hst
    have hr := xTK_rg hT hp
    have hk := xTM_k hp hT hM
    have hC0 := hC
    obtain ⟨c1, c2, c3, c4, mt, tmM, oaM, k5, k6, k7, k8, k9, k10, k11, k12, k13⟩ := hC0
    have hmt0 := k12.1
    have hmt := xphi_m c1 k12
    have f178 := (c4 178 (by decide) (by decide) (by decide) (by decide) (by decide) (by decide) (by decide) (by decide) (by decide) (by decide)).trans h178
    have hsemi : (op ≠ 0 → ¬ (ki = 3 ∧ cs.getD s 0 = 41)) → xz v0 xs u (fun o X => ∃ r f', o = .inl r ∧ X = (xh f', u) ∧ (fun r f' => (∃ b e' : Int, G0 = .inr (b, e') ∧ r = some (xi (-1)) ∧ xMA K R0 Cf n nms bc dp tk0 cd fa pa0 q f0 f' b e') ∨ (∃ z : Int, G0 = .inl z ∧ r = some (xi z) ∧ (0 ≤ z ∧ z ≤ 100) ∧ xMW K R0 n nms bc dp tk0 cd fa q f0 f' z)) r f') 81 218 lv [] f := fun hcx => by
      refine x_iload_n rfl l2 ?_
      refine x_ifne (t := 231) rfl rfl (by decide) (fun h => absurd rfl h) (fun _ => ?_)
      refine x_aload_n rfl l0 ?_
      refine x_bipush rfl (by decide) ?_
      by_cases hs : ki = 3 ∧ cs.getD s 0 = 59
      · skip
        refine x_call [_, _] rfl rfl (show (0 : Nat) ≤ 8 from by decide) (show (2 : Nat) ≤ 3 from by decide) (x_rcv (by decide) h177) (xs_75t h177 f178 hn hl hcs hp hT hM (by unfold xsgn; omega) hs) (fun r' f1 hP => ?_)
        obtain ⟨rfl, ⟨ki2, s2, e2, kM2, wo2, nu2, h177b, hT2, hM2⟩, hf1⟩ := hP
        have hse := hr.2.2.2.2.2.1 (by omega)
        refine x_ifeq (t := 235) rfl rfl (by decide) (fun h => absurd h (by decide)) (fun _ => ?_)
        refine x_iconst rfl ?_
        refine x_goto (t := 236) rfl rfl ?_
        refine x_istore_n rfl (show (2 : Nat) < 4 from by decide) ?_
        refine x_goto (t := 142) rfl rfl ?_
        refine hback e C f1 _ op m d (by omega) (xst_ne (by decide) l0 (Or.inl rfl)) xst_eq ?_ ?_ ⟨hr.2.2.2.1, ki2, s2, e2, kM2, wo2, nu2, pa, h177b, hT2, hM2, xCM_mv hf1 (by omega) hC, hpa1, by omega, hpl⟩
        · rw [← hG]
          exact (xG_s hp hT (by omega) (by unfold xtq; simp only [xstep]; unfold xeos; rw [if_pos hs])).symm
        · rw [← hGc]
          exact (xGC_s hp hT (by omega) (by unfold xtq; simp only [xstep]; unfold xeos; rw [if_pos hs]) (by unfold xtc; simp only [xcst]; unfold xceos; rw [if_pos hs])).symm
      · skip
        refine x_call [_, _] rfl rfl (show (0 : Nat) ≤ 8 from by decide) (show (2 : Nat) ≤ 3 from by decide) (x_rcv (by decide) h177) (xs_75f h177 f178 hn hl hcs hp hT hM (by unfold xsgn; omega) hs) (fun r' f1 hP => ?_)
        obtain ⟨rfl, hPe⟩ := hP
        subst hPe
        refine x_ifeq (t := 235) rfl rfl (by decide) (fun _ => ?_) (fun h => absurd rfl h)
        refine x_iconst rfl ?_
        refine x_istore_n rfl (show (2 : Nat) < 4 from by decide) ?_
        refine x_goto (t := 142) rfl rfl ?_
        refine x_iload_n rfl xst_eq ?_
        refine x_ifeq (t := 240) rfl rfl (by decide) (fun _ => ?_) (fun h => absurd rfl h)
        refine xs_81e hn hl hcs h179 hlen hcl hw hnl hnd hns hbc hdp htk hpa0 h178 (xst_ne (by decide) l0 (Or.inl rfl)) hG hGc hst0 (fun ki9 s9 e9 hT9 => ?_)
        have e9 := (xtf_eq hT).symm.trans (xtf_eq hT9)
        injection e9 with e91 e92
        injection e92 with e93 e94
        rw [← e91, ← e93]
        exact ⟨hs, hcx⟩
    refine x_iload_n rfl l2 ?_
    refine x_ifne (t := 218) rfl rfl (by decide) (fun h => absurd rfl h) (fun _ => ?_)
    refine x_aload_n rfl l0 ?_
    refine x_getfield rfl (by decide) h177 rfl ?_
    refine x_ifle (t := 218) rfl rfl ⟨by omega, by omega⟩ (fun hop => hsemi (fun h => by omega)) (fun hop => ?_)
    refine x_aload_n rfl l0 ?_
    refine x_bipush rfl (by decide) ?_
    by_cases hs : ki = 3 ∧ cs.getD s 0 = 41
    · skip
      refine x_call [_, _] rfl rfl (show (0 : Nat) ≤ 8 from by decide) (show (2 : Nat) ≤ 3 from by decide) (x_rcv (by decide) h177) (xs_75t h177 f178 hn hl hcs hp hT hM (by unfold xsgn; omega) hs) (fun r' f1 hP => ?_)
      obtain ⟨rfl, ⟨ki2, s2, e2, kM2, wo2, nu2, h177b, hT2, hM2⟩, hf1⟩ := hP
      have hse := hr.2.2.2.2.2.1 (by omega)
      have hj := k11 (op - 1).toNat (by omega)
      have hcy := xphi_close (t := tm.getD (op - 1).toNat 0) ⟨hop, c1.2⟩ ⟨by omega, by omega⟩ k12
      refine x_ifeq (t := 218) rfl rfl (by decide) (fun h => absurd h (by decide)) (fun _ => ?_)
      refine x_aload_n rfl l0 ?_
      refine x_call [_] rfl rfl (show (0 : Nat) ≤ 8 from by decide) (show (1 : Nat) ≤ 6 from by decide) (x_rcv (by decide) h177b) (xs_80 h177b ((hf1 187 (by decide)).trans k7) ((hf1 188 (by decide)).trans k8) ⟨hop, c1.2⟩ k9 k10 ⟨by omega, by omega⟩ ⟨by omega, by omega⟩ hcy.2.2 (xMD_mv (fun p p1 p2 => hf1 p (by omega)) k5)) (fun r' f2 hP => ?_)
      obtain ⟨rfl, hQ1, hQ2, hQ3⟩ := hP
      rw [hj.1] at hQ1
      refine x_goto (t := 191) rfl rfl ?_
      have k0 : 0 ≤ tm.getD (op - 1).toNat 0 - 1 := by omega
      have hmin : min (mt + (tm.getD (op - 1).toNat 0 - 1) * (mt - oaM.getD (op - 1).toNat 0)) 17 = min (m + (tm.getD (op - 1).toNat 0 - 1) * (m - oa.getD (op - 1).toNat 0)) 17 := by
        by_cases hbig : mt ≤ 16
        · rw [show m = mt by omega, show oa.getD (op - 1).toNat 0 = oaM.getD (op - 1).toNat 0 by have := hj.2.2; have := hcy.2.2; omega]
        · have z1 : 0 ≤ (tm.getD (op - 1).toNat 0 - 1) * (mt - oaM.getD (op - 1).toNat 0) := Int.mul_nonneg k0 (by have := hcy.2.2; omega)
          have z2 : 0 ≤ (tm.getD (op - 1).toNat 0 - 1) * (m - oa.getD (op - 1).toNat 0) := Int.mul_nonneg k0 (by have := hj.2.2; omega)
          omega
      have hcrp : mt + (tm.getD (op - 1).toNat 0 - 1) * (mt - oaM.getD (op - 1).toNat 0) ≤ 16 → C.2.2.2 ++ xrd0 C.2.2.2 (oaM.getD (op - 1).toNat 0).toNat (mt - oaM.getD (op - 1).toNat 0) (tm.getD (op - 1).toNat 0 - 1).toNat = (xcrp op tm oa C).2.2.2 := fun h16 => by
        have z1 : 0 ≤ (tm.getD (op - 1).toNat 0 - 1) * (mt - oaM.getD (op - 1).toNat 0) := Int.mul_nonneg k0 (by have := hcy.2.2; omega)
        have hbl := xMD_B k5 (by omega)
        show _ = C.2.2.2 ++ xrd0 C.2.2.2 (oa.getD (op - 1).toNat 0).toNat ((C.2.2.2.length : Int) - oa.getD (op - 1).toNat 0) (tm.getD (op - 1).toNat 0 - 1).toNat
        rw [hbl, show oa.getD (op - 1).toNat 0 = oaM.getD (op - 1).toNat 0 by have := hj.2.2; have := hcy.2.2; omega]
      refine ih e (xcrp op tm oa C) f2 lv (op - 1) _ d (by omega) l0 l2 ?_ ?_ (fun p9 C9 f9 lv9 o9 m9 d9 h9 => hback p9 C9 f9 lv9 o9 m9 d9 (by omega)) ⟨hr.2.2.2.1, ki2, s2, e2, kM2, wo2, nu2, pa, hQ2, hT2, hM2, ⟨⟨by omega, by omega⟩, c2, xMS_mv ((hQ3 185 (by decide) (by decide) (by decide) (by decide) (by decide)).trans (hf1 185 (by decide))) ((hQ3 186 (by decide) (by decide) (by decide) (by decide) (by decide)).trans (hf1 186 (by decide))) c3, fun p a1 a2 a3 a4 a5 a6 a7 a8 a9 a10 => (hQ3 p a1 a2 a4 a5 a6).trans ((hf1 p a1).trans (c4 p a1 a2 a3 a4 a5 a6 a7 a8 a9 a10)), _, tmM, oaM, xMD_ch hcrp hQ1, hmin, ((hQ3 187 (by decide) (by decide) (by decide) (by decide) (by decide)).trans (hf1 187 (by decide))).trans k7, ((hQ3 188 (by decide) (by decide) (by decide) (by decide) (by decide)).trans (hf1 188 (by decide))).trans k8, k9, k10, fun j hj => k11 j (by omega), hcy.2.1, by omega⟩, hpa1, by omega, hpl⟩
      · rw [← hG]
        exact (xG_s hp hT (by omega) (by unfold xtq; simp only [xstep]; unfold xeos; rw [if_neg (by omega), if_neg (by omega), if_pos hs])).symm
      · rw [← hGc]
        exact (xGC_s hp hT (by omega) (by unfold xtq; simp only [xstep]; unfold xeos; rw [if_neg (by omega), if_neg (by omega), if_pos hs]) (by unfold xtc; simp only [xcst]; unfold xceos; rw [if_neg (by omega)])).symm
    · skip
      refine x_call [_, _] rfl rfl (show (0 : Nat) ≤ 8 from by decide) (show (2 : Nat) ≤ 3 from by decide) (x_rcv (by decide) h177) (xs_75f h177 f178 hn hl hcs hp hT hM (by unfold xsgn; omega) hs) (fun r' f1 hP => ?_)
      obtain ⟨rfl, hPe⟩ := hP
      subst hPe
      refine x_ifeq (t := 218) rfl rfl (by decide) (fun _ => hsemi (fun _ => hs)) (fun h => absurd rfl h)
theorem xs_81l {K : List (Int × Int)} {R0 : Nat → Int × Int} {G : Nat → List xBt} {Cf : xC} {v0 : Value} {xs : List Int32} {u : Nat × Nat} {f0 : Nat → zE} {n : Nat} {cs : List Int} {nms : List (List Int)} {nl : List Int64} {bc dp tk0 : Nat → Int} {cd fa pa0 : Int} {q : Nat → Value} {G0 : Int ⊕ (Int × Int)} (hn : n ≤ 100) (hl : cs.length = 100) (hcs : ∀ j : Nat, 0 ≤ cs.getD j 0 ∧ cs.getD j 0 ≤ 126) (h179 : f0 179 = .inr (.inr (.inl nl))) (hlen : nl.length = 13) (hcl : nms.length ≤ 12) (hw : ∀ w ∈ nms, xwf w) (hnl : ∀ k, k < nms.length → nl.getD k 0 = Int64.ofInt (xpr (nms.getD k []))) (hnd : nms.Nodup) (hns : ∀ w ∈ nms, w ∉ selW) (hbc : ∀ i, i < nms.length → 0 ≤ bc i ∧ bc i ≤ 16) (hdp : ∀ i, i < nms.length → 1 ≤ dp i ∧ dp i ≤ 6) (htk : ∀ i, i < nms.length → ∀ k : Nat, (k : Int) < bc i → 0 ≤ tk0 (16 * i + k) ∧ tk0 (16 * i + k) ≤ k) (hpa0 : 0 ≤ pa0 ∧ pa0 ≤ 192) (h178 : f0 178 = xr 1 cs) (hGk : ∀ i, i < nms.length → ((G i).length : Int) = bc i ∧ ∀ k, k < (G i).length → ((R0 (16 * i + k)).1, (R0 (16 * i + k)).2, tk0 (16 * i + k)) = (G i).getD k (0, 0, 0)) : ∀ (w p : Nat) (C : xC) (f : Nat → zE) (lv : zL) (op m d : Int) (tm oa : List Int), n < w + p → zlv lv 0 = some (.ref 177) → zlv lv 2 = some (xi 1) → xG cs n nms bc dp p (2, op, tm, oa, m, d) = G0 → xGC K G cs n nms bc dp p (2, op, tm, oa, m, d) C = Cf → tm.length = 3 → oa.length = 3 → xST K R0 C cs n nms bc dp tk0 cd fa pa0 q f0 f p op tm oa m d → xz v0 xs u (fun o X => ∃ r f', o = .inl r ∧ X = (xh f', u) ∧ (fun r f' => (∃ b e' : Int, G0 = .inr (b, e') ∧ r = some (xi (-1)) ∧ xMA K R0 Cf n nms bc dp tk0 cd fa pa0 q f0 f' b e') ∨ (∃ z : Int, G0 = .inl z ∧ r = some (xi z) ∧ (0 ≤ z ∧ z ≤ 100) ∧ xMW K R0 n nms bc dp tk0 cd fa q f0 f' z)) r f') 81 142 lv [] f := by
  intro w
  induction w with
  | zero =>
    intro p C f lv op m d tm oa hwp l0 l2 hG hGc htl hol hst
    exact absurd hst.1 (by omega)
  | succ w ih =>
    intro p C f lv op m d tm oa hwp l0 l2 hG hGc htl hol hst
    have hst0 := hst
    obtain ⟨hp, ki, s, e, kM, wo, nu, pa, h177, hT, hM, hC, hpa1, hpa2, hpl⟩ := hst
    have hC0 := hC
    obtain ⟨c1, -⟩ := hC0
    refine x_iload_n rfl l2 ?_
    refine x_ifeq (t := 240) rfl rfl (by decide) (fun h => absurd h (by decide)) (fun _ => ?_)
    refine x_aload_n rfl l0 ?_
    refine x_getfield rfl (by decide) h177 rfl ?_
    refine x_istore_n rfl (show (3 : Nat) < 4 from by decide) ?_
    refine x_aload_n rfl (xst_ne (by decide) l0 (Or.inl rfl)) ?_
    refine x_call [_] rfl rfl (show (0 : Nat) ≤ 8 from by decide) (show (1 : Nat) ≤ 2 from by decide) (x_rcv (by decide) h177) (xs_79 hn hl hcs h179 hlen hcl hw hnl hnd hns hbc hdp htk hpa0 h178 hGk htl hol hst0) (fun r' f1 hP => ?_)
    rcases hP with ⟨rfl, z9, h1, h2⟩ | ⟨rfl, p1, m1, d1, C9, h1, h2, h2c, h3⟩ | ⟨rfl, p1, tm1, oa1, h1, h2, h3, h4, h5, h5c, h6⟩
    · refine x_ifne (t := 177) rfl rfl (by decide) (fun h => absurd rfl h) (fun _ => ?_)
      have h2b := h2
      obtain ⟨kM1, en1, wo1, nu1, pa1, op1, mt1, dd1, tm1, oa1, E1, B1, j177, jk, -⟩ := h2b
      refine x_aload_n rfl (xst_ne (by decide) l0 (Or.inl rfl)) ?_
      refine x_getfield rfl (by decide) j177 rfl ?_
      refine x_ifne (t := 172) rfl rfl ⟨by omega, by omega⟩ (fun _ => ?_) (fun h9 => ?_)
      · refine x_aload_n rfl (xst_ne (by decide) l0 (Or.inl rfl)) ?_
        refine x_getfield rfl (by decide) j177 rfl ?_
        refine x_ireturn rfl (Or.inl rfl) ⟨_, _, rfl, rfl, ?_⟩
        exact Or.inr ⟨z9, hG.symm.trans h1, rfl, jk.2.1, h2⟩ --j177h2
      · refine x_aload_n rfl (xst_ne (by decide) l0 (Or.inl rfl)) ?_
        refine x_getfield rfl (by decide) j177 rfl ?_
        refine x_goto (t := 176) rfl rfl ?_
        refine x_ireturn rfl (Or.inl rfl) ⟨_, _, rfl, rfl, ?_⟩
        exact Or.inr ⟨z9, hG.symm.trans h1, by rw [jk.2.2 h9], jk.2.1, h2⟩ --j177h2
    · refine x_ifne (t := 177) rfl rfl (by decide) (fun _ => ?_) (fun h => absurd h (by decide))
      have h3b := h3
      obtain ⟨hp1, ki1, s1, e1, kM1, wo1, nu1, pa1, j177, -⟩ := h3b
      refine x_aload_n rfl (xst_ne (by decide) l0 (Or.inl rfl)) ?_
      refine x_getfield rfl (by decide) j177 rfl ?_
      refine x_iload_n rfl xst_eq ?_
      refine x_cle (t := 189) rfl rfl ⟨by omega, by omega⟩ ⟨by omega, by omega⟩ (fun _ => ?_) (fun h => by omega)
      refine x_iconst rfl ?_
      refine x_istore_n rfl (show (2 : Nat) < 4 from by decide) ?_
      refine xs_81i hn hl hcs h179 hlen hcl hw hnl hnd hns hbc hdp htk hpa0 h178 n p1 C9 f1 _ op m1 d1 (by omega) (xst_ne (by decide) (xst_ne (by decide) l0 (Or.inl rfl)) (Or.inl rfl)) xst_eq (h2.symm.trans hG) (h2c.symm.trans hGc) (fun p9 C8 f9 lv9 o9 m9 d9 h9 a1 a2 a3 a3c a4 => ih p9 C8 f9 lv9 o9 m9 d9 tm oa (by omega) a1 a2 a3 a3c htl hol a4) h3
    · refine x_ifne (t := 177) rfl rfl (by decide) (fun _ => ?_) (fun h => absurd h (by decide))
      have h6b := h6
      obtain ⟨hp1, ki1, s1, e1, kM1, wo1, nu1, pa1, j177, -⟩ := h6b
      refine x_aload_n rfl (xst_ne (by decide) l0 (Or.inl rfl)) ?_
      refine x_getfield rfl (by decide) j177 rfl ?_
      refine x_iload_n rfl xst_eq ?_
      refine x_cle (t := 189) rfl rfl ⟨by omega, by omega⟩ ⟨by omega, by omega⟩ (fun h => by omega) (fun _ => ?_)
      refine x_iconst rfl ?_
      refine x_goto (t := 190) rfl rfl ?_
      refine x_istore_n rfl (show (2 : Nat) < 4 from by decide) ?_
      refine x_iload_n rfl xst_eq ?_
      refine x_ifne (t := 218) rfl rfl (by decide) (fun _ => ?_) (fun h => absurd h (by decide))
      refine x_iload_n rfl xst_eq ?_
      refine x_ifne (t := 231) rfl rfl (by decide) (fun _ => ?_) (fun h => absurd h (by decide))
      refine x_iconst rfl ?_
      refine x_goto (t := 236) rfl rfl ?_
      refine x_istore_n rfl (show (2 : Nat) < 4 from by decide) ?_
      refine x_goto (t := 142) rfl rfl ?_
      exact ih p1 C f1 _ (op + 1) m d tm1 oa1 (by omega) (xst_ne (by decide) (xst_ne (by decide) (xst_ne (by decide) l0 (Or.inl rfl)) (Or.inl rfl)) (Or.inl rfl)) xst_eq (h5.symm.trans hG) (h5c.symm.trans hGc) h3 h4 h6
