/-! The model's define. -/
/-- behind a define of the model that kept its call -/
def xMK (K : List (Int × Int)) (R0 : Nat → Int × Int) (C : xC) (n : Nat) (nms : List (List Int)) (bc dp tk0 : Nat → Int) (pa0 : Int) (q : Nat → Value) (nl : List Int64) (W : Int64) (f f' : Nat → zE) (b e : Int) : Prop := (0 ≤ b ∧ b ≤ 16) ∧ (1 ≤ e ∧ e ≤ 6) ∧ ∃ (kM be en : Int) (wo : Int64) (nu pa op : Int) (tmM oaM : List Int) (tk1 : Nat → Int) (R1 : Nat → Int × Int), f' 177 = xmo 0 0 (-1) kM be en wo nu ((nms.length : Nat) + 1) pa op q ∧ (pa0 ≤ pa ∧ pa ≤ pa0 + 16 ∧ pa = ((K ++ C.2.2.1).length : Nat)) ∧ f' 179 = .inr (.inr (.inl ((nl.set 12 W).set nms.length W))) ∧ xMD R1 C.2.2.2 (fun i => if i = nms.length then b else bc i) (fun i => if i = nms.length then e else dp i) tk1 f' b e ∧ (∀ j, j < 192 → 0 ≤ tk1 j ∧ tk1 j ≤ 16) ∧ (∀ j, j < 16 * nms.length → tk1 j = tk0 j) ∧ (∀ k : Nat, (k : Int) < b → 0 ≤ tk1 (16 * nms.length + k) ∧ tk1 (16 * nms.length + k) ≤ k) ∧ (∀ j, j < 16 * nms.length → R1 j = R0 j) ∧ ((C.2.2.2.length : Int) = b ∧ ∀ k, k < C.2.2.2.length → ((R1 (16 * nms.length + k)).1, (R1 (16 * nms.length + k)).2, tk1 (16 * nms.length + k)) = (C.2.2.2.map xse).getD k (0, 0, 0)) ∧ f' 187 = xr 0 tmM ∧ f' 188 = xr 0 oaM ∧ tmM.length = 3 ∧ oaM.length = 3 ∧ xMS K C.2.2.1 f' ∧ ∀ p, p ≠ 177 → p ≠ 179 → p ≠ 180 → p ≠ 181 → p ≠ 182 → p ≠ 183 → p ≠ 184 → p ≠ 185 → p ≠ 186 → p ≠ 187 → p ≠ 188 → f' p = f p
/-- behind one that did not -/
def xMN (K : List (Int × Int)) (R0 : Nat → Int × Int) (n : Nat) (nms : List (List Int)) (bc dp tk0 : Nat → Int) (pa0 : Int) (q : Nat → Value) (nl : List Int64) (f f' : Nat → zE) (cd fa : Int) : Prop := ∃ (W : Int64) (kM be en : Int) (wo : Int64) (nu op mt d : Int) (tmM oaM : List Int) (E : List (Int × Int)) (B : List xBt), f' 177 = xmo cd (n : Nat) fa kM be en wo nu (nms.length : Nat) pa0 op q ∧ f' 179 = .inr (.inr (.inl (nl.set 12 W))) ∧ xMD R0 B bc dp tk0 f' mt d ∧ f' 187 = xr 0 tmM ∧ f' 188 = xr 0 oaM ∧ tmM.length = 3 ∧ oaM.length = 3 ∧ xMS K E f' ∧ ∀ p, p ≠ 177 → p ≠ 179 → p ≠ 180 → p ≠ 181 → p ≠ 182 → p ≠ 183 → p ≠ 184 → p ≠ 185 → p ≠ 186 → p ≠ 187 → p ≠ 188 → f' p = f p
/-- the first k of the draft's beats are copied -/
def xcp (c : Nat) (b : Int) (tk0 tk pf pq : List Int) (k : Nat) : Prop := tk.length = 208 ∧ pf.length = 208 ∧ pq.length = 208 ∧ (∀ j, j < 192 → 0 ≤ tk.getD j 0 ∧ tk.getD j 0 ≤ 16) ∧ (∀ j, j < 192 → (0 ≤ pf.getD j 0 ∧ pf.getD j 0 ≤ 224) ∧ (0 ≤ pq.getD j 0 ∧ pq.getD j 0 ≤ 224)) ∧ (∀ j, j < 16 * c → tk.getD j 0 = tk0.getD j 0) ∧ (∀ i, i < k → 0 ≤ tk.getD (16 * c + i) 0 ∧ tk.getD (16 * c + i) 0 ≤ i) ∧ ∀ j : Nat, j < 16 → (j : Int) < b → (-1 ≤ tk.getD (192 + j) 0 ∧ tk.getD (192 + j) 0 ≤ j) ∧ (0 ≤ pf.getD (192 + j) 0 ∧ pf.getD (192 + j) 0 ≤ 224) ∧ (0 ≤ pq.getD (192 + j) 0 ∧ pq.getD (192 + j) 0 ≤ 224)
theorem xcp_s {c : Nat} {b : Int} {tk0 tk pf pq : List Int} {k : Nat} {t a z : Int} (hc : c < 12) (hk : k < 16) (h : xcp c b tk0 tk pf pq k) (ht : 0 ≤ t ∧ t ≤ k) (ha : 0 ≤ a ∧ a ≤ 224) (hz : 0 ≤ z ∧ z ≤ 224) : xcp c b tk0 (tk.set (16 * c + k) t) (pf.set (16 * c + k) a) (pq.set (16 * c + k) z) (k + 1) := by
  obtain ⟨h1, h2, h3, h4, h5, h6, h7, h8⟩ := h
  refine ⟨by rw [List.length_set]; exact h1, by rw [List.length_set]; exact h2, by rw [List.length_set]; exact h3, fun j hj => ?_, fun j hj => ?_, fun j hj => ?_, fun i hi => ?_, fun j hj hb => ?_⟩
  · rw [x_gset]
    split
    · omega
    · exact h4 j hj
  · rw [x_gset, x_gset]
    split
    · rename_i hx
      rw [if_pos ⟨hx.1, by omega⟩]
      exact ⟨ha, hz⟩
    · rename_i hx
      rw [if_neg (fun h => hx ⟨h.1, by omega⟩)]
      exact h5 j hj
  · rw [x_gset, if_neg (by omega)]
    exact h6 j hj
  · rw [x_gset]
    split
    · omega
    · rename_i hx
      by_cases e : i = k
      · exact absurd ⟨by omega, by omega⟩ hx
      · exact h7 i (by omega)
  · rw [x_gset, x_gset, x_gset, if_neg (by omega), if_neg (by omega), if_neg (by omega)]
    exact h8 j hj hb
/-- what the first k of the copied beats hold -/
def xcc (B : List xBt) (c : Nat) (pf0 pq0 tk pf pq : List Int) (k : Nat) : Prop := (∀ j, j < 16 * c → pf.getD j 0 = pf0.getD j 0 ∧ pq.getD j 0 = pq0.getD j 0) ∧ (∀ i, i < k → (pf.getD (16 * c + i) 0, pq.getD (16 * c + i) 0, tk.getD (16 * c + i) 0) = xse (B.getD i (0, 0, 0))) ∧ ∀ j, j < 16 → j < B.length → (pf.getD (192 + j) 0, pq.getD (192 + j) 0, tk.getD (192 + j) 0) = B.getD j (0, 0, 0)
theorem xcc_s {B : List xBt} {c : Nat} {pf0 pq0 tk pf pq : List Int} {k : Nat} {t : Int} (hc : c < 12) (hk : k < 16) (hkB : k < B.length) (g3 : tk.length = 208) (g4 : pf.length = 208) (g5 : pq.length = 208) (h : xcc B c pf0 pq0 tk pf pq k) (ht : t = if tk.getD (192 + k) 0 = -1 then 0 else tk.getD (192 + k) 0) : xcc B c pf0 pq0 (tk.set (16 * c + k) t) (pf.set (16 * c + k) (pf.getD (192 + k) 0)) (pq.set (16 * c + k) (pq.getD (192 + k) 0)) (k + 1) := by
  obtain ⟨h1, h2, h3⟩ := h
  refine ⟨fun j hj => ?_, fun i hi => ?_, fun j hj hb => ?_⟩
  · rw [x_gset, x_gset, if_neg (by omega), if_neg (by omega)]
    exact h1 j hj
  · rw [x_gset, x_gset, x_gset]
    by_cases e : i = k
    · subst e
      rw [if_pos ⟨rfl, by omega⟩, if_pos ⟨rfl, by omega⟩, if_pos ⟨rfl, by omega⟩, ← h3 i hk hkB, ht]
      rfl
    · rw [if_neg (by omega), if_neg (by omega), if_neg (by omega)]
      exact h2 i (by omega)
  · rw [x_gset, x_gset, x_gset, if_neg (by omega), if_neg (by omega), if_neg (by omega)]
    exact h3 j hj hb
theorem xs_82l {B : List xBt} {pf0 pq0 : List Int} {v0 : Value} {xs : List Int32} {u : Nat × Nat} {f0 : Nat → zE} {c : Nat} {b fa kM be en nu pa op ty : Int} {wo : Int64} {q : Nat → Value} {cn tk0l : List Int} (hc : c < 12) (hb : 0 ≤ b ∧ b ≤ 16) (hcn : cn.length = 13) (hcm : cn.getD 12 0 = b) (hBb : (B.length : Int) = b) : ∀ (w k : Nat) (lv : zL) (f : Nat → zE) (tk pf pq : List Int), (w : Int) + (k : Nat) = b → zlv lv 0 = some (.ref 177) → zlv lv 2 = some (xi (k : Nat)) → f 177 = xmo 0 ty fa kM be en wo nu (c : Nat) pa op q → f 180 = xr 0 cn → f 182 = xr 0 tk → f 183 = xr 0 pf → f 184 = xr 0 pq → xcp c b tk0l tk pf pq k → xcc B c pf0 pq0 tk pf pq k → (∀ p, p ≠ 182 → p ≠ 183 → p ≠ 184 → f p = f0 p) → xz v0 xs u (fun o X => ∃ r f', o = .inl r ∧ X = (xh f', u) ∧ (fun r f' => ∃ tk pf pq : List Int, r = some (xi (c : Nat)) ∧ f' 177 = xmo 0 0 fa kM be en wo nu ((c : Nat) + 1) pa op q ∧ f' 182 = xr 0 tk ∧ f' 183 = xr 0 pf ∧ f' 184 = xr 0 pq ∧ xcp c b tk0l tk pf pq b.toNat ∧ xcc B c pf0 pq0 tk pf pq b.toNat ∧ ∀ p, p ≠ 177 → p ≠ 182 → p ≠ 183 → p ≠ 184 → f' p = f0 p) r f') 82 106 lv [] f := by
  intro w
  induction w with
  | zero =>
    intro k lv f tk pf pq hw l0 l2 h177 h180 h182 h183 h184 hcp hcc hfr
    refine x_iload_n rfl l2 ?_
    refine x_aload_n rfl l0 ?_
    refine x_getfield rfl (by decide) h177 rfl ?_
    refine x_bipush rfl (by decide) ?_
    refine x_iaload rfl (by decide) h180 ⟨by omega, by omega⟩ (by omega) ?_
    rw [show (12 : Int).toNat = 12 from rfl, hcm]
    refine x_cge (t := 198) rfl rfl ⟨by omega, by omega⟩ ⟨by omega, by omega⟩ (fun hb114 => ?_) (fun hb114 => ?_)
    · refine x_aload_n rfl l0 ?_
      refine x_dup rfl ?_
      refine x_getfield rfl (by decide) h177 rfl ?_
      refine x_iconst rfl ?_
      refine x_iadd rfl ?_
      refine x_putfield rfl (by decide) h177 (show (9 : Nat) < 41 from by decide) rfl ?_
      refine x_aload_n rfl l0 ?_
      refine x_iconst rfl ?_
      refine x_putfield rfl (by decide) xu_eq (show (1 : Nat) < 41 from by decide) rfl ?_
      refine x_aload_n rfl l0 ?_
      refine x_getfield rfl (by decide) xu_eq rfl ?_
      refine x_iconst rfl ?_
      refine x_isub rfl ?_
      refine x_ireturn rfl (Or.inl rfl) ⟨_, _, rfl, rfl, ?_⟩
      refine ⟨tk, pf, pq, by rw [show (c : Nat) + (1 : Int) - 1 = (c : Nat) by omega], xu_eq, (xu_ne (by decide) (xu_ne (by decide) h182)), (xu_ne (by decide) (xu_ne (by decide) h183)), (xu_ne (by decide) (xu_ne (by decide) h184)), by rw [show b.toNat = k by omega]; exact hcp, by rw [show b.toNat = k by omega]; exact hcc, fun p a0 a1 a2 a3 => xu_ne a0 (xu_ne a0 (hfr p a1 a2 a3))⟩
    · exfalso; omega
  | succ w ih =>
    intro k lv f tk pf pq hw l0 l2 h177 h180 h182 h183 h184 hcp hcc hfr
    refine x_iload_n rfl l2 ?_
    refine x_aload_n rfl l0 ?_
    refine x_getfield rfl (by decide) h177 rfl ?_
    refine x_bipush rfl (by decide) ?_
    refine x_iaload rfl (by decide) h180 ⟨by omega, by omega⟩ (by omega) ?_
    rw [show (12 : Int).toNat = 12 from rfl, hcm]
    refine x_cge (t := 198) rfl rfl ⟨by omega, by omega⟩ ⟨by omega, by omega⟩ (fun hb114 => ?_) (fun hb114 => ?_)
    · exfalso; omega
    · have h8 := hcp.2.2.2.2.2.2.2 k (by omega) (by omega)
      have g3 := hcp.1
      have g4 := hcp.2.1
      have g5 := hcp.2.2.1
      refine x_bipush rfl (by decide) ?_
      refine x_aload_n rfl l0 ?_
      refine x_getfield rfl (by decide) h177 rfl ?_
      refine x_imul rfl ?_
      refine x_iload_n rfl l2 ?_
      refine x_iadd rfl ?_
      refine x_istore_n rfl (show (3 : Nat) < 4 from by decide) ?_
      refine x_aload_n rfl (xst_ne (by decide) l0 (Or.inl rfl)) ?_
      refine x_getfield rfl (by decide) h177 rfl ?_
      refine x_iload_n rfl xst_eq ?_
      refine x_aload_n rfl (xst_ne (by decide) l0 (Or.inl rfl)) ?_
      refine x_getfield rfl (by decide) h177 rfl ?_
      refine x_sipush rfl (by decide) ?_
      refine x_iload_n rfl (xst_ne (by decide) l2 (Or.inl rfl)) ?_
      refine x_iadd rfl ?_
      refine x_iaload rfl (by decide) h182 ⟨by omega, by omega⟩ (by omega) ?_
      rw [show ((192 : Int) + ((k : Nat) : Int)).toNat = 192 + k by omega]
      refine x_ifge (t := 149) rfl rfl ⟨by omega, by omega⟩ (fun hb142 => ?_) (fun hb142 => ?_)
      · refine x_aload_n rfl (xst_ne (by decide) l0 (Or.inl rfl)) ?_
        refine x_getfield rfl (by decide) h177 rfl ?_
        refine x_sipush rfl (by decide) ?_
        refine x_iload_n rfl (xst_ne (by decide) l2 (Or.inl rfl)) ?_
        refine x_iadd rfl ?_
        refine x_iaload rfl (by decide) h182 ⟨by omega, by omega⟩ (by omega) ?_
        rw [show ((192 : Int) + ((k : Nat) : Int)).toNat = 192 + k by omega]
        refine x_iastore rfl (by decide) h182 ⟨by omega, by omega⟩ (by omega) ?_
        rw [show (16 * ((c : Nat) : Int) + ((k : Nat) : Int)).toNat = 16 * c + k by omega]
        refine x_aload_n rfl (xst_ne (by decide) l0 (Or.inl rfl)) ?_
        refine x_getfield rfl (by decide) (xu_ne (by decide) h177) rfl ?_
        refine x_iload_n rfl xst_eq ?_
        refine x_aload_n rfl (xst_ne (by decide) l0 (Or.inl rfl)) ?_
        refine x_getfield rfl (by decide) (xu_ne (by decide) h177) rfl ?_
        refine x_sipush rfl (by decide) ?_
        refine x_iload_n rfl (xst_ne (by decide) l2 (Or.inl rfl)) ?_
        refine x_iadd rfl ?_
        refine x_iaload rfl (by decide) (xu_ne (by decide) h183) ⟨by omega, by omega⟩ (by omega) ?_
        rw [show ((192 : Int) + ((k : Nat) : Int)).toNat = 192 + k by omega]
        refine x_iastore rfl (by decide) (xu_ne (by decide) h183) ⟨by omega, by omega⟩ (by omega) ?_
        rw [show (16 * ((c : Nat) : Int) + ((k : Nat) : Int)).toNat = 16 * c + k by omega]
        refine x_aload_n rfl (xst_ne (by decide) l0 (Or.inl rfl)) ?_
        refine x_getfield rfl (by decide) (xu_ne (by decide) (xu_ne (by decide) h177)) rfl ?_
        refine x_iload_n rfl xst_eq ?_
        refine x_aload_n rfl (xst_ne (by decide) l0 (Or.inl rfl)) ?_
        refine x_getfield rfl (by decide) (xu_ne (by decide) (xu_ne (by decide) h177)) rfl ?_
        refine x_sipush rfl (by decide) ?_
        refine x_iload_n rfl (xst_ne (by decide) l2 (Or.inl rfl)) ?_
        refine x_iadd rfl ?_
        refine x_iaload rfl (by decide) (xu_ne (by decide) (xu_ne (by decide) h184)) ⟨by omega, by omega⟩ (by omega) ?_
        rw [show ((192 : Int) + ((k : Nat) : Int)).toNat = 192 + k by omega]
        refine x_iastore rfl (by decide) (xu_ne (by decide) (xu_ne (by decide) h184)) ⟨by omega, by omega⟩ (by omega) ?_
        rw [show (16 * ((c : Nat) : Int) + ((k : Nat) : Int)).toNat = 16 * c + k by omega]
        refine x_iinc rfl (xst_ne (by decide) l2 (Or.inl rfl)) (show (2 : Nat) < 4 from by decide) ?_
        refine x_goto (t := 106) rfl rfl ?_
        refine ih (k + 1) _ _ (tk.set (16 * c + k) (tk.getD (192 + k) 0)) (pf.set (16 * c + k) (pf.getD (192 + k) 0)) (pq.set (16 * c + k) (pq.getD (192 + k) 0)) (by omega) (xst_ne (by decide) (xst_ne (by decide) l0 (Or.inl rfl)) (Or.inl rfl)) xst_eq (xu_ne (by decide) (xu_ne (by decide) (xu_ne (by decide) h177))) (xu_ne (by decide) (xu_ne (by decide) (xu_ne (by decide) h180))) (xu_ne (by decide) (xu_ne (by decide) xu_eq)) (xu_ne (by decide) xu_eq) xu_eq (xcp_s hc (by omega) hcp (by omega) h8.2.1 h8.2.2) (xcc_s hc (by omega) (by omega) g3 g4 g5 hcc (by split <;> omega)) (fun p a1 a2 a3 => xu_ne a3 (xu_ne a2 (xu_ne a1 (hfr p a1 a2 a3))))
      · refine x_iconst rfl ?_
        refine x_goto (t := 159) rfl rfl ?_
        refine x_iastore rfl (by decide) h182 ⟨by omega, by omega⟩ (by omega) ?_
        rw [show (16 * ((c : Nat) : Int) + ((k : Nat) : Int)).toNat = 16 * c + k by omega]
        refine x_aload_n rfl (xst_ne (by decide) l0 (Or.inl rfl)) ?_
        refine x_getfield rfl (by decide) (xu_ne (by decide) h177) rfl ?_
        refine x_iload_n rfl xst_eq ?_
        refine x_aload_n rfl (xst_ne (by decide) l0 (Or.inl rfl)) ?_
        refine x_getfield rfl (by decide) (xu_ne (by decide) h177) rfl ?_
        refine x_sipush rfl (by decide) ?_
        refine x_iload_n rfl (xst_ne (by decide) l2 (Or.inl rfl)) ?_
        refine x_iadd rfl ?_
        refine x_iaload rfl (by decide) (xu_ne (by decide) h183) ⟨by omega, by omega⟩ (by omega) ?_
        rw [show ((192 : Int) + ((k : Nat) : Int)).toNat = 192 + k by omega]
        refine x_iastore rfl (by decide) (xu_ne (by decide) h183) ⟨by omega, by omega⟩ (by omega) ?_
        rw [show (16 * ((c : Nat) : Int) + ((k : Nat) : Int)).toNat = 16 * c + k by omega]
        refine x_aload_n rfl (xst_ne (by decide) l0 (Or.inl rfl)) ?_
        refine x_getfield rfl (by decide) (xu_ne (by decide) (xu_ne (by decide) h177)) rfl ?_
        refine x_iload_n rfl xst_eq ?_
        refine x_aload_n rfl (xst_ne (by decide) l0 (Or.inl rfl)) ?_
        refine x_getfield rfl (by decide) (xu_ne (by decide) (xu_ne (by decide) h177)) rfl ?_
        refine x_sipush rfl (by decide) ?_
        refine x_iload_n rfl (xst_ne (by decide) l2 (Or.inl rfl)) ?_
        refine x_iadd rfl ?_
        refine x_iaload rfl (by decide) (xu_ne (by decide) (xu_ne (by decide) h184)) ⟨by omega, by omega⟩ (by omega) ?_
        rw [show ((192 : Int) + ((k : Nat) : Int)).toNat = 192 + k by omega]
        refine x_iastore rfl (by decide) (xu_ne (by decide) (xu_ne (by decide) h184)) ⟨by omega, by omega⟩ (by omega) ?_
        rw [show (16 * ((c : Nat) : Int) + ((k : Nat) : Int)).toNat = 16 * c + k by omega]
        refine x_iinc rfl (xst_ne (by decide) l2 (Or.inl rfl)) (show (2 : Nat) < 4 from by decide) ?_
        refine x_goto (t := 106) rfl rfl ?_
        refine ih (k + 1) _ _ (tk.set (16 * c + k) (0)) (pf.set (16 * c + k) (pf.getD (192 + k) 0)) (pq.set (16 * c + k) (pq.getD (192 + k) 0)) (by omega) (xst_ne (by decide) (xst_ne (by decide) l0 (Or.inl rfl)) (Or.inl rfl)) xst_eq (xu_ne (by decide) (xu_ne (by decide) (xu_ne (by decide) h177))) (xu_ne (by decide) (xu_ne (by decide) (xu_ne (by decide) h180))) (xu_ne (by decide) (xu_ne (by decide) xu_eq)) (xu_ne (by decide) xu_eq) xu_eq (xcp_s hc (by omega) hcp (by omega) h8.2.1 h8.2.2) (xcc_s hc (by omega) (by omega) g3 g4 g5 hcc (by split <;> omega)) (fun p a1 a2 a3 => xu_ne a3 (xu_ne a2 (xu_ne a1 (hfr p a1 a2 a3))))
