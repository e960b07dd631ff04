/-! The model's draft: beats, older calls, brackets. -/
theorem xapp_l {l l' : List xBt} {j : Nat} {d : xBt} (h : j < l.length) : (l ++ l').getD j d = l.getD j d := by
  rw [List.getD_eq_getElem?_getD, List.getElem?_append_left h, ← List.getD_eq_getElem?_getD]
/-- the draft's rows hold the beats B, as long as they are no more than sixteen -/
def xmb (B : List xBt) (m : Int) (tk pf pq : List Int) : Prop := m ≤ 16 → (B.length : Int) = m ∧ ∀ j, j < B.length → (pf.getD (192 + j) 0, pq.getD (192 + j) 0, tk.getD (192 + j) 0) = B.getD j (0, 0, 0)
theorem xmb_17 {B : List xBt} {m : Int} {tk pf pq : List Int} (h : 16 < m) : xmb B m tk pf pq := fun h2 => by omega
/-- the model's rows: kept calls as told, the draft's count and depth, the draft's beats in their ranges -/
def xMD (R0 : Nat → Int × Int) (B : List xBt) (cn0 dn0 tk0 : Nat → Int) (f : Nat → zE) (m d : Int) : Prop := ∃ cn dn tk pf pq : List Int, f 180 = xr 0 cn ∧ f 181 = xr 0 dn ∧ f 182 = xr 0 tk ∧ f 183 = xr 0 pf ∧ f 184 = xr 0 pq ∧ (cn.length = 13 ∧ dn.length = 13 ∧ tk.length = 208 ∧ pf.length = 208 ∧ pq.length = 208) ∧ cn.getD 12 0 = m ∧ dn.getD 12 0 = d ∧ (∀ i, i < 12 → cn.getD i 0 = cn0 i) ∧ (∀ i, i < 12 → dn.getD i 0 = dn0 i) ∧ (∀ j, j < 192 → tk.getD j 0 = tk0 j ∧ (0 ≤ pf.getD j 0 ∧ pf.getD j 0 ≤ 224) ∧ (0 ≤ pq.getD j 0 ∧ pq.getD j 0 ≤ 224)) ∧ (∀ j : Nat, j < 16 → (j : Int) < m → (-1 ≤ tk.getD (192 + j) 0 ∧ tk.getD (192 + j) 0 ≤ j) ∧ (0 ≤ pf.getD (192 + j) 0 ∧ pf.getD (192 + j) 0 ≤ 224) ∧ (0 ≤ pq.getD (192 + j) 0 ∧ pq.getD (192 + j) 0 ≤ 224)) ∧ (∀ j, j < 192 → (pf.getD j 0, pq.getD j 0) = R0 j) ∧ xmb B m tk pf pq
def xFM (f f' : Nat → zE) : Prop := ∀ p, p ≠ 180 → p ≠ 182 → p ≠ 183 → p ≠ 184 → f' p = f p
theorem xFM_0 (f : Nat → zE) : xFM f f := fun _ _ _ _ _ => rfl
theorem xFM_t {f g h : Nat → zE} (h1 : xFM f g) (h2 : xFM g h) : xFM f h := fun p a1 a2 a3 a4 => (h2 p a1 a2 a3 a4).trans (h1 p a1 a2 a3 a4)
theorem xMD_mv {R0 : Nat → Int × Int} {B : List xBt} {cn0 dn0 tk0 : Nat → Int} {f f' : Nat → zE} {m d : Int} (h : ∀ p, 180 ≤ p → p ≤ 184 → f' p = f p) (k : xMD R0 B cn0 dn0 tk0 f m d) : xMD R0 B cn0 dn0 tk0 f' m d := by
  obtain ⟨cn, dn, tk, pf, pq, h1, h2, h3, h4, h5, h6⟩ := k
  exact ⟨cn, dn, tk, pf, pq, (h _ (by decide) (by decide)).trans h1, (h _ (by decide) (by decide)).trans h2, (h _ (by decide) (by decide)).trans h3, (h _ (by decide) (by decide)).trans h4, (h _ (by decide) (by decide)).trans h5, h6⟩
theorem xMD_ch {R0 : Nat → Int × Int} {B B' : List xBt} {cn0 dn0 tk0 : Nat → Int} {f : Nat → zE} {m d : Int} (h : m ≤ 16 → B = B') (k : xMD R0 B cn0 dn0 tk0 f m d) : xMD R0 B' cn0 dn0 tk0 f m d := by
  obtain ⟨cn, dn, tk, pf, pq, h1, h2, h3, h4, h5, h6, h7, h8, h9, h10, h11, h12, h13, h14⟩ := k
  exact ⟨cn, dn, tk, pf, pq, h1, h2, h3, h4, h5, h6, h7, h8, h9, h10, h11, h12, h13, fun hm => by rw [← h hm]; exact h14 hm⟩
theorem xMD_B {R0 : Nat → Int × Int} {B : List xBt} {cn0 dn0 tk0 : Nat → Int} {f : Nat → zE} {m d : Int} (k : xMD R0 B cn0 dn0 tk0 f m d) : m ≤ 16 → (B.length : Int) = m := by
  obtain ⟨cn, dn, tk, pf, pq, h1, h2, h3, h4, h5, h6, h7, h8, h9, h10, h11, h12, h13, h14⟩ := k
  exact fun h => (h14 h).1
theorem xs_76 {R0 : Nat → Int × Int} {B : List xBt} {v0 : Value} {xs : List Int32} {u : Nat × Nat} {cn0 dn0 tk0 : Nat → Int} {f : Nat → zE} {m d : Int} {n : Nat} {cd fa ki be en nu ca pa op : Int} {wo : Int64} {q : Nat → Value} {t a b : Int} (h177 : f 177 = xmo cd (n : Nat) fa ki be en wo nu ca pa op q) (hm : 0 ≤ m ∧ m ≤ 1000000) (hd : xMD R0 B cn0 dn0 tk0 f m d) (ht : -1 ≤ t ∧ (m < 16 → t ≤ m)) (ha : 0 ≤ a ∧ a ≤ 224) (hb : 0 ≤ b ∧ b ≤ 224) : xq v0 xs u 76 [(0, .ref 177), (1, xi t), (2, xi a), (3, xi b)] f (fun r f' => r = none ∧ xMD R0 (B ++ [(a, b, t)]) cn0 dn0 tk0 f' (m + 1) d ∧ xFM f f') := by
  unfold xq
  obtain ⟨cn, dn, tk, pf, pq, h180, h181, h182, h183, h184, ⟨g1, g2, g3, g4, g5⟩, hcm, hdd, hk1, hk2, hk3, hk4, hR, hmb⟩ := hd
  refine x_aload_n rfl rfl ?_
  refine x_getfield rfl (by decide) h177 rfl ?_
  refine x_bipush rfl (by decide) ?_
  refine x_iaload rfl (by decide) h180 ⟨by omega, by omega⟩ (by omega) ?_
  rw [show (12 : Int).toNat = 12 from rfl, hcm]
  refine x_bipush rfl (by decide) ?_
  refine x_cge (t := 63) rfl rfl ⟨by omega, by omega⟩ ⟨by omega, by omega⟩ (fun hb9 => ?_) (fun hb9 => ?_)
  · refine x_aload_n rfl rfl ?_
    refine x_getfield rfl (by decide) h177 rfl ?_
    refine x_bipush rfl (by decide) ?_
    refine x_dup2 rfl ?_
    refine x_iaload rfl (by decide) h180 ⟨by omega, by omega⟩ (by omega) ?_
    rw [show (12 : Int).toNat = 12 from rfl, hcm]
    refine x_iconst rfl ?_
    refine x_iadd rfl ?_
    refine x_iastore rfl (by decide) h180 ⟨by omega, by omega⟩ (by omega) ?_
    refine x_return rfl ⟨_, _, rfl, rfl, ?_⟩
    refine ⟨rfl, ⟨_, dn, tk, pf, pq, xu_eq, xu_ne (by decide) h181, xu_ne (by decide) h182, xu_ne (by decide) h183, xu_ne (by decide) h184, ⟨by rw [List.length_set]; exact g1, g2, g3, g4, g5⟩, ?_, hdd, ?_, hk2, hk3, ?_, hR, xmb_17 (by omega)⟩, fun p a1 a2 a3 a4 => xu_ne a1 rfl⟩
    · rw [x_gset, if_pos ⟨rfl, by rw [g1]; decide⟩]
    · intro i hi; rw [x_gset, if_neg (by intro h; have := h.1; simp at this; omega)]; exact hk1 i hi
    · intro j j1 j2; exact hk4 j j1 (by omega)
  · refine x_aload_n rfl rfl ?_
    refine x_getfield rfl (by decide) h177 rfl ?_
    refine x_sipush rfl (by decide) ?_
    refine x_aload_n rfl rfl ?_
    refine x_getfield rfl (by decide) h177 rfl ?_
    refine x_bipush rfl (by decide) ?_
    refine x_iaload rfl (by decide) h180 ⟨by omega, by omega⟩ (by omega) ?_
    rw [show (12 : Int).toNat = 12 from rfl, hcm]
    refine x_iadd rfl ?_
    refine x_iload_n rfl rfl ?_
    refine x_iastore rfl (by decide) h182 ⟨by omega, by omega⟩ (by omega) ?_
    refine x_aload_n rfl rfl ?_
    refine x_getfield rfl (by decide) (xu_ne (by decide) h177) rfl ?_
    refine x_sipush rfl (by decide) ?_
    refine x_aload_n rfl rfl ?_
    refine x_getfield rfl (by decide) (xu_ne (by decide) h177) rfl ?_
    refine x_bipush rfl (by decide) ?_
    refine x_iaload rfl (by decide) (xu_ne (by decide) h180) ⟨by omega, by omega⟩ (by omega) ?_
    rw [show (12 : Int).toNat = 12 from rfl, hcm]
    refine x_iadd rfl ?_
    refine x_iload_n rfl rfl ?_
    refine x_iastore rfl (by decide) (xu_ne (by decide) h183) ⟨by omega, by omega⟩ (by omega) ?_
    refine x_aload_n rfl rfl ?_
    refine x_getfield rfl (by decide) (xu_ne (by decide) (xu_ne (by decide) h177)) rfl ?_
    refine x_sipush rfl (by decide) ?_
    refine x_aload_n rfl rfl ?_
    refine x_getfield rfl (by decide) (xu_ne (by decide) (xu_ne (by decide) h177)) rfl ?_
    refine x_bipush rfl (by decide) ?_
    refine x_iaload rfl (by decide) (xu_ne (by decide) (xu_ne (by decide) h180)) ⟨by omega, by omega⟩ (by omega) ?_
    rw [show (12 : Int).toNat = 12 from rfl, hcm]
    refine x_iadd rfl ?_
    refine x_iload_n rfl rfl ?_
    refine x_iastore rfl (by decide) (xu_ne (by decide) (xu_ne (by decide) h184)) ⟨by omega, by omega⟩ (by omega) ?_
    refine x_aload_n rfl rfl ?_
    refine x_getfield rfl (by decide) (xu_ne (by decide) (xu_ne (by decide) (xu_ne (by decide) h177))) rfl ?_
    refine x_bipush rfl (by decide) ?_
    refine x_dup2 rfl ?_
    refine x_iaload rfl (by decide) (xu_ne (by decide) (xu_ne (by decide) (xu_ne (by decide) h180))) ⟨by omega, by omega⟩ (by omega) ?_
    rw [show (12 : Int).toNat = 12 from rfl, hcm]
    refine x_iconst rfl ?_
    refine x_iadd rfl ?_
    refine x_iastore rfl (by decide) (xu_ne (by decide) (xu_ne (by decide) (xu_ne (by decide) h180))) ⟨by omega, by omega⟩ (by omega) ?_
    refine x_return rfl ⟨_, _, rfl, rfl, ?_⟩
    have e1 : (192 + m).toNat = 192 + m.toNat := by omega
    rw [e1]
    refine ⟨rfl, ⟨_, dn, _, _, _, xu_eq, xu_ne (by decide) (xu_ne (by decide) (xu_ne (by decide) (xu_ne (by decide) h181))), xu_ne (by decide) (xu_ne (by decide) (xu_ne (by decide) xu_eq)), xu_ne (by decide) (xu_ne (by decide) xu_eq), xu_ne (by decide) xu_eq, ⟨by rw [List.length_set]; exact g1, g2, by rw [List.length_set]; exact g3, by rw [List.length_set]; exact g4, by rw [List.length_set]; exact g5⟩, ?_, hdd, ?_, hk2, ?_, ?_, ?_, ?_⟩, fun p a1 a2 a3 a4 => xu_ne a1 (xu_ne a4 (xu_ne a3 (xu_ne a2 rfl)))⟩
    · rw [x_gset, if_pos ⟨rfl, by rw [g1]; decide⟩]
    · intro i hi; rw [x_gset, if_neg (by intro h; have := h.1; simp at this; omega)]; exact hk1 i hi
    · intro j hj; rw [x_gset, x_gset, x_gset, if_neg (by omega), if_neg (by omega), if_neg (by omega)]; exact hk3 j hj
    · intro j j1 j2; rw [x_gset, x_gset, x_gset]
      by_cases e : j = m.toNat
      · rw [if_pos ⟨by omega, by omega⟩, if_pos ⟨by omega, by omega⟩, if_pos ⟨by omega, by omega⟩]; exact ⟨by omega, ha, hb⟩
      · rw [if_neg (by omega), if_neg (by omega), if_neg (by omega)]; exact hk4 j j1 (by omega)
    · intro j hj; rw [x_gset, x_gset, if_neg (by omega), if_neg (by omega)]; exact hR j hj
    · intro _
      obtain ⟨k1, k2⟩ := hmb (by omega)
      refine ⟨by rw [List.length_append, List.length_singleton]; omega, fun j hj => ?_⟩
      rw [List.length_append, List.length_singleton] at hj
      rw [x_gset, x_gset, x_gset]
      by_cases e : j = m.toNat
      · rw [if_pos ⟨by omega, by omega⟩, if_pos ⟨by omega, by omega⟩, if_pos ⟨by omega, by omega⟩, List.getD_eq_getElem?_getD, List.getElem?_append_right (by omega), show j - B.length = 0 by omega]
        rfl
      · rw [if_neg (by omega), if_neg (by omega), if_neg (by omega), k2 j (by omega), List.getD_eq_getElem?_getD, List.getD_eq_getElem?_getD, List.getElem?_append_left (by omega)]
theorem xs_75t {v0 : Value} {xs : List Int32} {u : Nat × Nat} {f : Nat → zE} {w : Int} {n p0 s e : Nat} {cs : List Int} {cd fa ki kM nu ca pa op : Int} {wo : Int64} {q : Nat → Value} (h177 : f 177 = xmo cd (n : Nat) fa kM (s : Nat) (e : Nat) wo nu ca pa op q) (h178 : f 178 = xr 1 cs) (hn : n ≤ 100) (hl : cs.length = 100) (hcs : ∀ j : Nat, 0 ≤ cs.getD j 0 ∧ cs.getD j 0 ≤ 126) (hp : p0 ≤ n) (hT : xTK cs n p0 ki s e) (hM : xTM cs ki s e kM wo nu) (hs : xsgn w) (hw : ki = 3 ∧ cs.getD s 0 = w) : xq v0 xs u 75 [(0, .ref 177), (1, xi w)] f (fun r f' => r = some (xi 1) ∧ (∃ (ki : Int) (s' e' : Nat) (kM : Int) (wo' : Int64) (nu' : Int), f' 177 = xmo cd (n : Nat) fa kM (s' : Nat) (e' : Nat) wo' nu' ca pa op q ∧ xTK cs n e ki s' e' ∧ xTM cs ki s' e' kM wo' nu') ∧ ∀ p, p ≠ 177 → f' p = f p) := by
  unfold xq
  have hr := xTK_rg hT hp
  have hch := hcs s
  have hkm : 0 ≤ kM ∧ kM ≤ 4 := by
    by_cases h3 : ki = 3
    · rcases hM.2.2.2 h3 with ⟨-, h⟩ | ⟨-, h⟩ <;> omega
    · have := hM.2.2.1 h3; omega
  have hw0 : 0 ≤ w ∧ w ≤ 100 := by unfold xsgn at hs; omega
  have hk3 : kM = 3 := by
    rcases hM.2.2.2 hw.1 with ⟨-, h⟩ | ⟨h, -⟩
    · exact h
    · exact absurd (by rw [hw.2]; exact hs) h
  have hse := hr.2.2.2.2.2.1 (by omega)
  refine x_aload_n rfl rfl ?_
  refine x_getfield rfl (by decide) h177 rfl ?_
  refine x_iconst rfl ?_
  refine x_cne (t := 25) rfl rfl ⟨by omega, by omega⟩ ⟨by omega, by omega⟩ (fun hb5 => ?_) (fun hb5 => ?_)
  · refine x_iconst rfl ?_
    refine x_istore_n rfl (show (2 : Nat) < 3 from by decide) ?_
    refine x_iload_n rfl xst_eq ?_
    refine x_ifeq (t := 35) rfl rfl ⟨by omega, by omega⟩ (fun hb28 => ?_) (fun hb28 => ?_)
    · exfalso; omega
    · refine x_aload_n rfl (xst_ne (by decide) rfl (Or.inl rfl)) ?_
      refine x_call [_] rfl rfl (show (0 : Nat) ≤ 8 from by decide) (show (1 : Nat) ≤ 2 from by decide) (x_rcv (by decide) h177) (xs_69 (p0 := e) h177 h178 hn hl hcs (by omega)) (fun r' f' hP => ?_)
      obtain ⟨rfl, hQ1, hQ2⟩ := hP
      refine x_iload_n rfl xst_eq ?_
      refine x_ireturn rfl (Or.inr (Or.inl ⟨rfl, by decide⟩)) ⟨_, _, rfl, rfl, ?_⟩
      first | (exfalso; omega) | exact ⟨rfl, hQ1, hQ2⟩
  · have hsn : s < n := by
      rcases hT.2 with ⟨-, h, -⟩ | ⟨h, -⟩ | ⟨h, -⟩ | ⟨h, -⟩
      · have := hM.2.2.1 (by omega); omega
      · exact h
      · exact h
      · exact h
    refine x_aload_n rfl rfl ?_
    refine x_getfield rfl (by decide) h177 rfl ?_
    refine x_aload_n rfl rfl ?_
    refine x_getfield rfl (by decide) h177 rfl ?_
    refine x_caload rfl (by decide) h178 ⟨by omega, by rw [hl]; omega⟩ (by omega) ?_
    rw [Int.toNat_natCast]
    refine x_iload_n rfl rfl ?_
    refine x_cne (t := 25) rfl rfl ⟨by omega, by omega⟩ ⟨by omega, by omega⟩ (fun hb18 => ?_) (fun hb18 => ?_)
    · refine x_iconst rfl ?_
      refine x_istore_n rfl (show (2 : Nat) < 3 from by decide) ?_
      refine x_iload_n rfl xst_eq ?_
      refine x_ifeq (t := 35) rfl rfl ⟨by omega, by omega⟩ (fun hb28 => ?_) (fun hb28 => ?_)
      · exfalso; omega
      · refine x_aload_n rfl (xst_ne (by decide) rfl (Or.inl rfl)) ?_
        refine x_call [_] rfl rfl (show (0 : Nat) ≤ 8 from by decide) (show (1 : Nat) ≤ 2 from by decide) (x_rcv (by decide) h177) (xs_69 (p0 := e) h177 h178 hn hl hcs (by omega)) (fun r' f' hP => ?_)
        obtain ⟨rfl, hQ1, hQ2⟩ := hP
        refine x_iload_n rfl xst_eq ?_
        refine x_ireturn rfl (Or.inr (Or.inl ⟨rfl, by decide⟩)) ⟨_, _, rfl, rfl, ?_⟩
        first | (exfalso; omega) | exact ⟨rfl, hQ1, hQ2⟩
    · refine x_iconst rfl ?_
      refine x_goto (t := 26) rfl rfl ?_
      refine x_istore_n rfl (show (2 : Nat) < 3 from by decide) ?_
      refine x_iload_n rfl xst_eq ?_
      refine x_ifeq (t := 35) rfl rfl ⟨by omega, by omega⟩ (fun hb28 => ?_) (fun hb28 => ?_)
      · exfalso; omega
      · refine x_aload_n rfl (xst_ne (by decide) rfl (Or.inl rfl)) ?_
        refine x_call [_] rfl rfl (show (0 : Nat) ≤ 8 from by decide) (show (1 : Nat) ≤ 2 from by decide) (x_rcv (by decide) h177) (xs_69 (p0 := e) h177 h178 hn hl hcs (by omega)) (fun r' f' hP => ?_)
        obtain ⟨rfl, hQ1, hQ2⟩ := hP
        refine x_iload_n rfl xst_eq ?_
        refine x_ireturn rfl (Or.inr (Or.inl ⟨rfl, by decide⟩)) ⟨_, _, rfl, rfl, ?_⟩
        first | (exfalso; omega) | exact ⟨rfl, hQ1, hQ2⟩
theorem xs_75f {v0 : Value} {xs : List Int32} {u : Nat × Nat} {f : Nat → zE} {w : Int} {n p0 s e : Nat} {cs : List Int} {cd fa ki kM nu ca pa op : Int} {wo : Int64} {q : Nat → Value} (h177 : f 177 = xmo cd (n : Nat) fa kM (s : Nat) (e : Nat) wo nu ca pa op q) (h178 : f 178 = xr 1 cs) (hn : n ≤ 100) (hl : cs.length = 100) (hcs : ∀ j : Nat, 0 ≤ cs.getD j 0 ∧ cs.getD j 0 ≤ 126) (hp : p0 ≤ n) (hT : xTK cs n p0 ki s e) (hM : xTM cs ki s e kM wo nu) (hs : xsgn w) (hw : ¬ (ki = 3 ∧ cs.getD s 0 = w)) : xq v0 xs u 75 [(0, .ref 177), (1, xi w)] f (fun r f' => r = some (xi 0) ∧ f' = f) := by
  unfold xq
  have hr := xTK_rg hT hp
  have hch := hcs s
  have hkm : 0 ≤ kM ∧ kM ≤ 4 := by
    by_cases h3 : ki = 3
    · rcases hM.2.2.2 h3 with ⟨-, h⟩ | ⟨-, h⟩ <;> omega
    · have := hM.2.2.1 h3; omega
  have hw0 : 0 ≤ w ∧ w ≤ 100 := by unfold xsgn at hs; omega
  have hk3 : kM = 3 → ki = 3 := fun h => by
    by_cases h3 : ki = 3
    · exact h3
    · have := hM.2.2.1 h3; omega
  refine x_aload_n rfl rfl ?_
  refine x_getfield rfl (by decide) h177 rfl ?_
  refine x_iconst rfl ?_
  refine x_cne (t := 25) rfl rfl ⟨by omega, by omega⟩ ⟨by omega, by omega⟩ (fun hb5 => ?_) (fun hb5 => ?_)
  · refine x_iconst rfl ?_
    refine x_istore_n rfl (show (2 : Nat) < 3 from by decide) ?_
    refine x_iload_n rfl xst_eq ?_
    refine x_ifeq (t := 35) rfl rfl ⟨by omega, by omega⟩ (fun hb28 => ?_) (fun hb28 => ?_)
    · refine x_iload_n rfl xst_eq ?_
      refine x_ireturn rfl (Or.inr (Or.inl ⟨rfl, by decide⟩)) ⟨_, _, rfl, rfl, ?_⟩
      first | (exfalso; omega) | exact ⟨rfl, rfl⟩
    · exfalso
      skip
      omega
  · have hsn : s < n := by
      rcases hT.2 with ⟨-, h, -⟩ | ⟨h, -⟩ | ⟨h, -⟩ | ⟨h, -⟩
      · have := hM.2.2.1 (by omega); omega
      · exact h
      · exact h
      · exact h
    refine x_aload_n rfl rfl ?_
    refine x_getfield rfl (by decide) h177 rfl ?_
    refine x_aload_n rfl rfl ?_
    refine x_getfield rfl (by decide) h177 rfl ?_
    refine x_caload rfl (by decide) h178 ⟨by omega, by rw [hl]; omega⟩ (by omega) ?_
    rw [Int.toNat_natCast]
    refine x_iload_n rfl rfl ?_
    refine x_cne (t := 25) rfl rfl ⟨by omega, by omega⟩ ⟨by omega, by omega⟩ (fun hb18 => ?_) (fun hb18 => ?_)
    · refine x_iconst rfl ?_
      refine x_istore_n rfl (show (2 : Nat) < 3 from by decide) ?_
      refine x_iload_n rfl xst_eq ?_
      refine x_ifeq (t := 35) rfl rfl ⟨by omega, by omega⟩ (fun hb28 => ?_) (fun hb28 => ?_)
      · refine x_iload_n rfl xst_eq ?_
        refine x_ireturn rfl (Or.inr (Or.inl ⟨rfl, by decide⟩)) ⟨_, _, rfl, rfl, ?_⟩
        first | (exfalso; omega) | exact ⟨rfl, rfl⟩
      · exfalso
        have := hk3 hb5
        omega
    · refine x_iconst rfl ?_
      refine x_goto (t := 26) rfl rfl ?_
      refine x_istore_n rfl (show (2 : Nat) < 3 from by decide) ?_
      refine x_iload_n rfl xst_eq ?_
      refine x_ifeq (t := 35) rfl rfl ⟨by omega, by omega⟩ (fun hb28 => ?_) (fun hb28 => ?_)
      · refine x_iload_n rfl xst_eq ?_
        refine x_ireturn rfl (Or.inr (Or.inl ⟨rfl, by decide⟩)) ⟨_, _, rfl, rfl, ?_⟩
        first | (exfalso; omega) | exact ⟨rfl, rfl⟩
      · exfalso
        have := hk3 hb5
        omega
theorem xs_78l {R0 : Nat → Int × Int} {B : List xBt} {G : List xBt} {v0 : Value} {xs : List Int32} {u : Nat × Nat} {cn0 dn0 tk0 : Nat → Int} {f0 : Nat → zE} {m d b : Int} {i e : Nat} {n : Nat} {cs : List Int} {cd fa ki be nu ca pa op : Int} {wo : Int64} {q : Nat → Value} (hn : n ≤ 100) (hl : cs.length = 100) (hcs : ∀ j : Nat, 0 ≤ cs.getD j 0 ∧ cs.getD j 0 ≤ 126) (h178 : f0 178 = xr 1 cs) (hen : e ≤ n) (hi : i < 12) (hm : 0 ≤ m ∧ m ≤ 900000) (hdr : -1000 ≤ d ∧ d ≤ 1000) (hdi : -1000 ≤ dn0 i ∧ dn0 i ≤ 1000) (hbi : cn0 i = b) (hb16 : 0 ≤ b ∧ b ≤ 16) (htk : ∀ k : Nat, (k : Int) < b → 0 ≤ tk0 (16 * i + k) ∧ tk0 (16 * i + k) ≤ k) (hG : (G.length : Int) = b ∧ ∀ k, k < G.length → ((R0 (16 * i + k)).1, (R0 (16 * i + k)).2, tk0 (16 * i + k)) = G.getD k (0, 0, 0)) : ∀ (w k : Nat) (lv : zL) (f : Nat → zE), (w : Int) + (k : Nat) = b → zlv lv 0 = some (.ref 177) → zlv lv 1 = some (xi (i : Nat)) → zlv lv 2 = some (xi m) → zlv lv 3 = some (xi (k : Nat)) → f 177 = xmo cd (n : Nat) fa ki be (e : Nat) wo nu ca pa op q → xMD R0 (B ++ (G.take k).map (xsh m)) cn0 dn0 tk0 f (m + (k : Nat)) d → xFM f0 f → xz v0 xs u (fun o X => ∃ r f', o = .inl r ∧ X = (xh f', u) ∧ (fun r f' => r = none ∧ xMD R0 (B ++ G.map (xsh m)) cn0 dn0 tk0 f' (m + b) (max d (dn0 i + 1)) ∧ (∃ (ki : Int) (s' e' : Nat) (kM : Int) (wo' : Int64) (nu' : Int), f' 177 = xmo cd (n : Nat) fa kM (s' : Nat) (e' : Nat) wo' nu' ca pa op q ∧ xTK cs n e ki s' e' ∧ xTM cs ki s' e' kM wo' nu') ∧ ∀ p, p ≠ 177 → p ≠ 180 → p ≠ 181 → p ≠ 182 → p ≠ 183 → p ≠ 184 → f' p = f0 p) r f') 78 10 lv [] f := by
  intro w
  induction w with
  | zero =>
    intro k lv f hw l0 l1 l2 l3 h177 hd hfr
    have hd0 := hd
    have h178 := (hfr 178 (by decide) (by decide) (by decide) (by decide)).trans h178
    obtain ⟨cn, dn, tk, pf, pq, h180, h181, h182, h183, h184, ⟨g1, g2, g3, g4, g5⟩, hcm, hdd, hk1, hk2, hk3, hk4, hR, hmb⟩ := hd
    refine x_iload_n rfl l3 ?_
    refine x_aload_n rfl l0 ?_
    refine x_getfield rfl (by decide) h177 rfl ?_
    refine x_iload_n rfl l1 ?_
    refine x_iaload rfl (by decide) h180 ⟨by omega, by omega⟩ (by omega) ?_
    rw [Int.toNat_natCast, hk1 i (by omega), hbi]
    refine x_cge (t := 65) rfl rfl ⟨by omega, by omega⟩ ⟨by omega, by omega⟩ (fun hb17 => ?_) (fun hb17 => ?_)
    · refine x_aload_n rfl l0 ?_
      refine x_getfield rfl (by decide) h177 rfl ?_
      refine x_bipush rfl (by decide) ?_
      refine x_aload_n rfl l0 ?_
      refine x_getfield rfl (by decide) h177 rfl ?_
      refine x_bipush rfl (by decide) ?_
      refine x_iaload rfl (by decide) h181 ⟨by omega, by omega⟩ (by omega) ?_
      rw [show (12 : Int).toNat = 12 from rfl, hdd]
      refine x_aload_n rfl l0 ?_
      refine x_getfield rfl (by decide) h177 rfl ?_
      refine x_iload_n rfl l1 ?_
      refine x_iaload rfl (by decide) h181 ⟨by omega, by omega⟩ (by omega) ?_
      rw [Int.toNat_natCast, hk2 i (by omega)]
      refine x_iconst rfl ?_
      refine x_iadd rfl ?_
      refine x_cle (t := 99) rfl rfl ⟨by omega, by omega⟩ ⟨by omega, by omega⟩ (fun hb86 => ?_) (fun hb86 => ?_)
      · refine x_aload_n rfl l0 ?_
        refine x_getfield rfl (by decide) h177 rfl ?_
        refine x_iload_n rfl l1 ?_
        refine x_iaload rfl (by decide) h181 ⟨by omega, by omega⟩ (by omega) ?_
        rw [Int.toNat_natCast, hk2 i (by omega)]
        refine x_iconst rfl ?_
        refine x_iadd rfl ?_
        refine x_iastore rfl (by decide) h181 ⟨by omega, by omega⟩ (by omega) ?_
        refine x_aload_n rfl l0 ?_
        refine x_call [_] rfl rfl (show (0 : Nat) ≤ 8 from by decide) (show (1 : Nat) ≤ 2 from by decide) (x_rcv (by decide) (xu_ne (by decide) h177)) (xs_69 (p0 := e) (xu_ne (by decide) h177) (xu_ne (by decide) h178) hn hl hcs hen) (fun r' f' hP => ?_)
        obtain ⟨rfl, hQ1, hQ2⟩ := hP
        refine x_return rfl ⟨_, _, rfl, rfl, ?_⟩
        refine ⟨rfl, ?_, hQ1, fun p a0 a1 a2 a3 a4 a5 => (hQ2 p a0).trans (xu_ne a2 (hfr p a1 a3 a4 a5))⟩
        refine xMD_mv (fun p p1 p2 => hQ2 p (by omega)) ?_
        have ek : m + ((k : Nat) : Int) = m + b := by omega
        refine ⟨cn, _, tk, pf, pq, xu_ne (by decide) h180, xu_eq, xu_ne (by decide) h182, xu_ne (by decide) h183, xu_ne (by decide) h184, ⟨g1, by rw [List.length_set]; exact g2, g3, g4, g5⟩, by rw [← ek]; exact hcm, ?_, hk1, ?_, hk3, by rw [← ek]; exact hk4, hR, ?_⟩
        · rw [x_gset, if_pos ⟨rfl, by rw [g2]; decide⟩]; omega
        · intro j hj; rw [x_gset, if_neg (by intro h; have := h.1; simp at this; omega)]; exact hk2 j hj
        · have hg1 := hG.1
          rw [List.take_of_length_le (by omega)] at hmb
          rw [← ek]; exact hmb
      · refine x_aload_n rfl l0 ?_
        refine x_getfield rfl (by decide) h177 rfl ?_
        refine x_bipush rfl (by decide) ?_
        refine x_iaload rfl (by decide) h181 ⟨by omega, by omega⟩ (by omega) ?_
        rw [show (12 : Int).toNat = 12 from rfl, hdd]
        refine x_goto (t := 107) rfl rfl ?_
        refine x_iastore rfl (by decide) h181 ⟨by omega, by omega⟩ (by omega) ?_
        refine x_aload_n rfl l0 ?_
        refine x_call [_] rfl rfl (show (0 : Nat) ≤ 8 from by decide) (show (1 : Nat) ≤ 2 from by decide) (x_rcv (by decide) (xu_ne (by decide) h177)) (xs_69 (p0 := e) (xu_ne (by decide) h177) (xu_ne (by decide) h178) hn hl hcs hen) (fun r' f' hP => ?_)
        obtain ⟨rfl, hQ1, hQ2⟩ := hP
        refine x_return rfl ⟨_, _, rfl, rfl, ?_⟩
        refine ⟨rfl, ?_, hQ1, fun p a0 a1 a2 a3 a4 a5 => (hQ2 p a0).trans (xu_ne a2 (hfr p a1 a3 a4 a5))⟩
        refine xMD_mv (fun p p1 p2 => hQ2 p (by omega)) ?_
        have ek : m + ((k : Nat) : Int) = m + b := by omega
        refine ⟨cn, _, tk, pf, pq, xu_ne (by decide) h180, xu_eq, xu_ne (by decide) h182, xu_ne (by decide) h183, xu_ne (by decide) h184, ⟨g1, by rw [List.length_set]; exact g2, g3, g4, g5⟩, by rw [← ek]; exact hcm, ?_, hk1, ?_, hk3, by rw [← ek]; exact hk4, hR, ?_⟩
        · rw [x_gset, if_pos ⟨rfl, by rw [g2]; decide⟩]; omega
        · intro j hj; rw [x_gset, if_neg (by intro h; have := h.1; simp at this; omega)]; exact hk2 j hj
        · have hg1 := hG.1
          rw [List.take_of_length_le (by omega)] at hmb
          rw [← ek]; exact hmb
    · exfalso; omega
  | succ w ih =>
    intro k lv f hw l0 l1 l2 l3 h177 hd hfr
    have hd0 := hd
    have h178 := (hfr 178 (by decide) (by decide) (by decide) (by decide)).trans h178
    obtain ⟨cn, dn, tk, pf, pq, h180, h181, h182, h183, h184, ⟨g1, g2, g3, g4, g5⟩, hcm, hdd, hk1, hk2, hk3, hk4, hR, hmb⟩ := hd
    refine x_iload_n rfl l3 ?_
    refine x_aload_n rfl l0 ?_
    refine x_getfield rfl (by decide) h177 rfl ?_
    refine x_iload_n rfl l1 ?_
    refine x_iaload rfl (by decide) h180 ⟨by omega, by omega⟩ (by omega) ?_
    rw [Int.toNat_natCast, hk1 i (by omega), hbi]
    refine x_cge (t := 65) rfl rfl ⟨by omega, by omega⟩ ⟨by omega, by omega⟩ (fun hb17 => ?_) (fun hb17 => ?_)
    · exfalso; omega
    · refine x_aload_n rfl l0 ?_
      refine x_iload_n rfl l2 ?_
      refine x_aload_n rfl l0 ?_
      refine x_getfield rfl (by decide) h177 rfl ?_
      refine x_bipush rfl (by decide) ?_
      refine x_iload_n rfl l1 ?_
      refine x_imul rfl ?_
      refine x_iload_n rfl l3 ?_
      refine x_iadd rfl ?_
      refine x_iaload rfl (by decide) h182 ⟨by omega, by omega⟩ (by omega) ?_
      rw [show (16 * ((i : Nat) : Int) + ((k : Nat) : Int)).toNat = 16 * i + k by omega]
      have ht := htk k (by omega)
      have ht2 := (hk3 (16 * i + k) (by omega)).1
      refine x_iadd rfl ?_
      refine x_aload_n rfl l0 ?_
      refine x_getfield rfl (by decide) h177 rfl ?_
      refine x_bipush rfl (by decide) ?_
      refine x_iload_n rfl l1 ?_
      refine x_imul rfl ?_
      refine x_iload_n rfl l3 ?_
      refine x_iadd rfl ?_
      refine x_iaload rfl (by decide) h183 ⟨by omega, by omega⟩ (by omega) ?_
      rw [show (16 * ((i : Nat) : Int) + ((k : Nat) : Int)).toNat = 16 * i + k by omega]
      refine x_aload_n rfl l0 ?_
      refine x_getfield rfl (by decide) h177 rfl ?_
      refine x_bipush rfl (by decide) ?_
      refine x_iload_n rfl l1 ?_
      refine x_imul rfl ?_
      refine x_iload_n rfl l3 ?_
      refine x_iadd rfl ?_
      refine x_iaload rfl (by decide) h184 ⟨by omega, by omega⟩ (by omega) ?_
      rw [show (16 * ((i : Nat) : Int) + ((k : Nat) : Int)).toNat = 16 * i + k by omega]
      refine x_call [_, _, _, _] rfl rfl (show (0 : Nat) ≤ 8 from by decide) (show (4 : Nat) ≤ 4 from by decide) (x_rcv (by decide) h177) (xs_76 h177 (by omega) hd0 ⟨by omega, fun _ => by omega⟩ (by have := (hk3 (16 * i + k) (by omega)).2.1; omega) (by have := (hk3 (16 * i + k) (by omega)).2.2; omega)) (fun r' f' hP => ?_)
      obtain ⟨rfl, hQ1, hQ2⟩ := hP
      refine x_iinc rfl l3 (show (3 : Nat) < 4 from by decide) ?_
      refine x_goto (t := 10) rfl rfl ?_
      refine ih (k + 1) _ _ (by omega) (xst_ne (by decide) l0 (Or.inl rfl)) (xst_ne (by decide) l1 (Or.inl rfl)) (xst_ne (by decide) l2 (Or.inl rfl)) xst_eq ((hQ2 177 (by decide) (by decide) (by decide) (by decide)).trans h177) (by
        have hg1 := hG.1
        have hg2 := hG.2 k (by omega)
        have hr9 := hR (16 * i + k) (by omega)
        rw [show m + ((k + 1 : Nat) : Int) = m + (k : Nat) + 1 by omega, xtake_s (by omega), List.map_append, ← List.append_assoc, List.map_singleton, ← hg2, ← hr9, ← ht2]
        exact hQ1) (xFM_t hfr hQ2)
theorem xs_78 {R0 : Nat → Int × Int} {B : List xBt} {G : List xBt} {v0 : Value} {xs : List Int32} {u : Nat × Nat} {cn0 dn0 tk0 : Nat → Int} {f : Nat → zE} {m d b : Int} {i e : Nat} {n : Nat} {cs : List Int} {cd fa ki be nu ca pa op : Int} {wo : Int64} {q : Nat → Value} (hn : n ≤ 100) (hl : cs.length = 100) (hcs : ∀ j : Nat, 0 ≤ cs.getD j 0 ∧ cs.getD j 0 ≤ 126) (h178 : f 178 = xr 1 cs) (hen : e ≤ n) (hi : i < 12) (hm : 0 ≤ m ∧ m ≤ 900000) (hdr : -1000 ≤ d ∧ d ≤ 1000) (hdi : -1000 ≤ dn0 i ∧ dn0 i ≤ 1000) (hbi : cn0 i = b) (hb16 : 0 ≤ b ∧ b ≤ 16) (htk : ∀ k : Nat, (k : Int) < b → 0 ≤ tk0 (16 * i + k) ∧ tk0 (16 * i + k) ≤ k) (h177 : f 177 = xmo cd (n : Nat) fa ki be (e : Nat) wo nu ca pa op q) (hG : (G.length : Int) = b ∧ ∀ k, k < G.length → ((R0 (16 * i + k)).1, (R0 (16 * i + k)).2, tk0 (16 * i + k)) = G.getD k (0, 0, 0)) (hd : xMD R0 B cn0 dn0 tk0 f m d) : xq v0 xs u 78 [(0, .ref 177), (1, xi (i : Nat))] f (fun r f' => r = none ∧ xMD R0 (B ++ G.map (xsh m)) cn0 dn0 tk0 f' (m + b) (max d (dn0 i + 1)) ∧ (∃ (ki : Int) (s' e' : Nat) (kM : Int) (wo' : Int64) (nu' : Int), f' 177 = xmo cd (n : Nat) fa kM (s' : Nat) (e' : Nat) wo' nu' ca pa op q ∧ xTK cs n e ki s' e' ∧ xTM cs ki s' e' kM wo' nu') ∧ ∀ p, p ≠ 177 → p ≠ 180 → p ≠ 181 → p ≠ 182 → p ≠ 183 → p ≠ 184 → f' p = f p) := by
  unfold xq
  have hd0 := hd
  obtain ⟨cn, dn, tk, pf, pq, h180, h181, h182, h183, h184, ⟨g1, g2, g3, g4, g5⟩, hcm, hdd, hk1, hk2, hk3, hk4, hR, hmb⟩ := hd
  refine x_aload_n rfl rfl ?_
  refine x_getfield rfl (by decide) h177 rfl ?_
  refine x_bipush rfl (by decide) ?_
  refine x_iaload rfl (by decide) h180 ⟨by omega, by omega⟩ (by omega) ?_
  rw [show (12 : Int).toNat = 12 from rfl, hcm]
  refine x_istore_n rfl (show (2 : Nat) < 4 from by decide) ?_
  refine x_iconst rfl ?_
  refine x_istore_n rfl (show (3 : Nat) < 4 from by decide) ?_
  exact xs_78l hn hl hcs h178 hen hi hm hdr hdi hbi hb16 htk hG b.toNat 0 _ _ (by omega) (xst_ne (by decide) (xst_ne (by decide) rfl (Or.inl rfl)) (Or.inl rfl)) (xst_ne (by decide) (xst_ne (by decide) rfl (Or.inl rfl)) (Or.inl rfl)) (xst_ne (by decide) xst_eq (Or.inl rfl)) xst_eq h177 (by rw [show m + ((0 : Nat) : Int) = m by omega, List.take_zero, List.map_nil, List.append_nil]; exact hd0) (xFM_0 f)
theorem xs_80i {R0 : Nat → Int × Int} {B E : List xBt} {v0 : Value} {xs : List Int32} {u : Nat × Nat} {Q : zO → zX → Prop} {cn0 dn0 tk0 : Nat → Int} {m d fr ti : Int} {n : Nat} {cd fa ki be en nu ca pa op : Int} {wo : Int64} {q : Nat → Value} {tm : List Int} (hop : 0 ≤ op ∧ op < 3) (htl : tm.length = 3) (hti : tm.getD op.toNat 0 = ti) (ht4 : 1 ≤ ti ∧ ti ≤ 4) (hm : 0 ≤ m ∧ m ≤ 150000) (hfr0 : 0 ≤ fr ∧ fr ≤ m) {f0 : Nat → zE} {K rr : Int} (hK : 0 ≤ K ∧ rr * (m - fr) = K + (m - fr)) (hK2 : K ≤ 450000) (hBm : m ≤ 16 → (B.length : Int) = m) (hk : ∀ (lv : zL) (f : Nat → zE), zlv lv 0 = some (.ref 177) → zlv lv 1 = some (xi fr) → zlv lv 2 = some (xi (m - fr)) → zlv lv 3 = some (xi rr) → f 177 = xmo cd (n : Nat) fa ki be en wo nu ca pa op q → f 187 = xr 0 tm → xMD R0 (B ++ E ++ (B.drop fr.toNat).map (xrs (rr * (m - fr)))) cn0 dn0 tk0 f (m + K + (m - fr)) d → xFM f0 f → xz v0 xs u Q 80 125 lv [] f) : ∀ (w : Nat) (i : Int) (lv : zL) (f : Nat → zE), (w : Int) + i = m → fr ≤ i → zlv lv 0 = some (.ref 177) → zlv lv 1 = some (xi fr) → zlv lv 2 = some (xi (m - fr)) → zlv lv 3 = some (xi rr) → zlv lv 4 = some (xi i) → f 177 = xmo cd (n : Nat) fa ki be en wo nu ca pa op q → f 187 = xr 0 tm → xMD R0 (B ++ E ++ ((B.drop fr.toNat).take (i - fr).toNat).map (xrs (rr * (m - fr)))) cn0 dn0 tk0 f (m + K + (i - fr)) d → xFM f0 f → xz v0 xs u Q 80 48 lv [] f := by
  intro w
  induction w with
  | zero =>
    intro i lv f hw hi l0 l1 l2 l3 l4 h177 h187 hd hfr
    have hd0 := hd
    obtain ⟨cn, dn, tk, pf, pq, h180, h181, h182, h183, h184, ⟨g1, g2, g3, g4, g5⟩, hcm, hdd, hk1, hk2, hk3, hk4, hR, hmb⟩ := hd
    refine x_iload rfl l4 ?_
    refine x_iload_n rfl l1 ?_
    refine x_iload_n rfl l2 ?_
    refine x_iadd rfl ?_
    refine x_cge (t := 125) rfl rfl ⟨by omega, by omega⟩ ⟨by omega, by omega⟩ (fun hb53 => ?_) (fun hb53 => ?_)
    · refine hk _ _ l0 l1 l2 l3 h177 h187 (by
        rw [show m + K + (m - fr) = m + K + (i - fr) by omega]
        refine xMD_ch (fun h16 => ?_) hd0
        have hBm2 := hBm (by omega)
        rw [List.take_of_length_le (by rw [List.length_drop]; omega)]) hfr
    · exfalso; omega
  | succ w ih =>
    intro i lv f hw hi l0 l1 l2 l3 l4 h177 h187 hd hfr
    have hd0 := hd
    obtain ⟨cn, dn, tk, pf, pq, h180, h181, h182, h183, h184, ⟨g1, g2, g3, g4, g5⟩, hcm, hdd, hk1, hk2, hk3, hk4, hR, hmb⟩ := hd
    refine x_iload rfl l4 ?_
    refine x_iload_n rfl l1 ?_
    refine x_iload_n rfl l2 ?_
    refine x_iadd rfl ?_
    refine x_cge (t := 125) rfl rfl ⟨by omega, by omega⟩ ⟨by omega, by omega⟩ (fun hb53 => ?_) (fun hb53 => ?_)
    · exfalso; omega
    · refine x_sipush rfl (by decide) ?_
      refine x_iload rfl l4 ?_
      refine x_bipush rfl (by decide) ?_
      refine x_cge (t := 71) rfl rfl ⟨by omega, by omega⟩ ⟨by omega, by omega⟩ (fun hb63 => ?_) (fun hb63 => ?_)
      · refine x_bipush rfl (by decide) ?_
        refine x_iadd rfl ?_
        refine x_istore rfl (show (5 : Nat) < 6 from by decide) ?_
        refine x_aload_n rfl (xst_ne (by decide) l0 (Or.inl rfl)) ?_
        refine x_aload_n rfl (xst_ne (by decide) l0 (Or.inl rfl)) ?_
        refine x_getfield rfl (by decide) h177 rfl ?_
        refine x_iload rfl xst_eq ?_
        refine x_iaload rfl (by decide) h182 ⟨by omega, by omega⟩ (by omega) ?_
        have h4 := hk4 15 (by omega) (by omega)
        rw [show ((192 : Int) + 15).toNat = 192 + 15 from rfl]
        refine x_ifge (t := 91) rfl rfl ⟨by omega, by omega⟩ (fun hb84 => ?_) (fun hb84 => ?_)
        · refine x_aload_n rfl (xst_ne (by decide) l0 (Or.inl rfl)) ?_
          refine x_getfield rfl (by decide) h177 rfl ?_
          refine x_iload rfl xst_eq ?_
          refine x_iaload rfl (by decide) h182 ⟨by omega, by omega⟩ (by omega) ?_
          rw [show ((192 : Int) + 15).toNat = 192 + 15 from rfl]
          refine x_iload_n rfl (xst_ne (by decide) l3 (Or.inl rfl)) ?_
          refine x_iload_n rfl (xst_ne (by decide) l2 (Or.inl rfl)) ?_
          refine x_imul rfl ?_
          refine x_iadd rfl ?_
          refine x_aload_n rfl (xst_ne (by decide) l0 (Or.inl rfl)) ?_
          refine x_getfield rfl (by decide) h177 rfl ?_
          refine x_iload rfl xst_eq ?_
          refine x_iaload rfl (by decide) h183 ⟨by omega, by omega⟩ (by omega) ?_
          rw [show ((192 : Int) + 15).toNat = 192 + 15 from rfl]
          refine x_aload_n rfl (xst_ne (by decide) l0 (Or.inl rfl)) ?_
          refine x_getfield rfl (by decide) h177 rfl ?_
          refine x_iload rfl xst_eq ?_
          refine x_iaload rfl (by decide) h184 ⟨by omega, by omega⟩ (by omega) ?_
          rw [show ((192 : Int) + 15).toNat = 192 + 15 from rfl]
          refine x_call [_, _, _, _] rfl rfl (show (0 : Nat) ≤ 8 from by decide) (show (4 : Nat) ≤ 4 from by decide) (x_rcv (by decide) h177) (xs_76 h177 (by omega) hd0 ⟨by omega, fun _ => by omega⟩ h4.2.1 h4.2.2) (fun r' f' hP => ?_)
          obtain ⟨rfl, hQ1, hQ2⟩ := hP
          refine x_iinc rfl (xst_ne (by decide) l4 (Or.inl rfl)) (show (4 : Nat) < 6 from by decide) ?_
          refine x_goto (t := 48) rfl rfl ?_
          refine ih (i + 1) _ _ (by omega) (by omega) (xst_ne (by decide) (xst_ne (by decide) l0 (Or.inl rfl)) (Or.inl rfl)) (xst_ne (by decide) (xst_ne (by decide) l1 (Or.inl rfl)) (Or.inl rfl)) (xst_ne (by decide) (xst_ne (by decide) l2 (Or.inl rfl)) (Or.inl rfl)) (xst_ne (by decide) (xst_ne (by decide) l3 (Or.inl rfl)) (Or.inl rfl)) xst_eq ((hQ2 177 (by decide) (by decide) (by decide) (by decide)).trans h177) ((hQ2 187 (by decide) (by decide) (by decide) (by decide)).trans h187) (by rw [show m + K + (i + 1 - fr) = m + K + (i - fr) + 1 by omega]; exact xMD_ch (fun h16 => by omega) hQ1) (xFM_t hfr hQ2)
        · refine x_iconst rfl ?_
          refine x_goto (t := 102) rfl rfl ?_
          refine x_aload_n rfl (xst_ne (by decide) l0 (Or.inl rfl)) ?_
          refine x_getfield rfl (by decide) h177 rfl ?_
          refine x_iload rfl xst_eq ?_
          refine x_iaload rfl (by decide) h183 ⟨by omega, by omega⟩ (by omega) ?_
          rw [show ((192 : Int) + 15).toNat = 192 + 15 from rfl]
          refine x_aload_n rfl (xst_ne (by decide) l0 (Or.inl rfl)) ?_
          refine x_getfield rfl (by decide) h177 rfl ?_
          refine x_iload rfl xst_eq ?_
          refine x_iaload rfl (by decide) h184 ⟨by omega, by omega⟩ (by omega) ?_
          rw [show ((192 : Int) + 15).toNat = 192 + 15 from rfl]
          refine x_call [_, _, _, _] rfl rfl (show (0 : Nat) ≤ 8 from by decide) (show (4 : Nat) ≤ 4 from by decide) (x_rcv (by decide) h177) (xs_76 h177 (by omega) hd0 ⟨by omega, fun _ => by omega⟩ h4.2.1 h4.2.2) (fun r' f' hP => ?_)
          obtain ⟨rfl, hQ1, hQ2⟩ := hP
          refine x_iinc rfl (xst_ne (by decide) l4 (Or.inl rfl)) (show (4 : Nat) < 6 from by decide) ?_
          refine x_goto (t := 48) rfl rfl ?_
          refine ih (i + 1) _ _ (by omega) (by omega) (xst_ne (by decide) (xst_ne (by decide) l0 (Or.inl rfl)) (Or.inl rfl)) (xst_ne (by decide) (xst_ne (by decide) l1 (Or.inl rfl)) (Or.inl rfl)) (xst_ne (by decide) (xst_ne (by decide) l2 (Or.inl rfl)) (Or.inl rfl)) (xst_ne (by decide) (xst_ne (by decide) l3 (Or.inl rfl)) (Or.inl rfl)) xst_eq ((hQ2 177 (by decide) (by decide) (by decide) (by decide)).trans h177) ((hQ2 187 (by decide) (by decide) (by decide) (by decide)).trans h187) (by rw [show m + K + (i + 1 - fr) = m + K + (i - fr) + 1 by omega]; exact xMD_ch (fun h16 => by omega) hQ1) (xFM_t hfr hQ2)
      · refine x_iload rfl l4 ?_
        refine x_goto (t := 73) rfl rfl ?_
        refine x_iadd rfl ?_
        refine x_istore rfl (show (5 : Nat) < 6 from by decide) ?_
        refine x_aload_n rfl (xst_ne (by decide) l0 (Or.inl rfl)) ?_
        refine x_aload_n rfl (xst_ne (by decide) l0 (Or.inl rfl)) ?_
        refine x_getfield rfl (by decide) h177 rfl ?_
        refine x_iload rfl xst_eq ?_
        refine x_iaload rfl (by decide) h182 ⟨by omega, by omega⟩ (by omega) ?_
        have h4 := hk4 i.toNat (by omega) (by omega)
        rw [show (192 + i).toNat = 192 + i.toNat by omega]
        refine x_ifge (t := 91) rfl rfl ⟨by omega, by omega⟩ (fun hb84 => ?_) (fun hb84 => ?_)
        · refine x_aload_n rfl (xst_ne (by decide) l0 (Or.inl rfl)) ?_
          refine x_getfield rfl (by decide) h177 rfl ?_
          refine x_iload rfl xst_eq ?_
          refine x_iaload rfl (by decide) h182 ⟨by omega, by omega⟩ (by omega) ?_
          rw [show (192 + i).toNat = 192 + i.toNat by omega]
          refine x_iload_n rfl (xst_ne (by decide) l3 (Or.inl rfl)) ?_
          refine x_iload_n rfl (xst_ne (by decide) l2 (Or.inl rfl)) ?_
          refine x_imul rfl ?_
          refine x_iadd rfl ?_
          refine x_aload_n rfl (xst_ne (by decide) l0 (Or.inl rfl)) ?_
          refine x_getfield rfl (by decide) h177 rfl ?_
          refine x_iload rfl xst_eq ?_
          refine x_iaload rfl (by decide) h183 ⟨by omega, by omega⟩ (by omega) ?_
          rw [show (192 + i).toNat = 192 + i.toNat by omega]
          refine x_aload_n rfl (xst_ne (by decide) l0 (Or.inl rfl)) ?_
          refine x_getfield rfl (by decide) h177 rfl ?_
          refine x_iload rfl xst_eq ?_
          refine x_iaload rfl (by decide) h184 ⟨by omega, by omega⟩ (by omega) ?_
          rw [show (192 + i).toNat = 192 + i.toNat by omega]
          refine x_call [_, _, _, _] rfl rfl (show (0 : Nat) ≤ 8 from by decide) (show (4 : Nat) ≤ 4 from by decide) (x_rcv (by decide) h177) (xs_76 h177 (by omega) hd0 ⟨by omega, fun _ => by omega⟩ h4.2.1 h4.2.2) (fun r' f' hP => ?_)
          obtain ⟨rfl, hQ1, hQ2⟩ := hP
          refine x_iinc rfl (xst_ne (by decide) l4 (Or.inl rfl)) (show (4 : Nat) < 6 from by decide) ?_
          refine x_goto (t := 48) rfl rfl ?_
          refine ih (i + 1) _ _ (by omega) (by omega) (xst_ne (by decide) (xst_ne (by decide) l0 (Or.inl rfl)) (Or.inl rfl)) (xst_ne (by decide) (xst_ne (by decide) l1 (Or.inl rfl)) (Or.inl rfl)) (xst_ne (by decide) (xst_ne (by decide) l2 (Or.inl rfl)) (Or.inl rfl)) (xst_ne (by decide) (xst_ne (by decide) l3 (Or.inl rfl)) (Or.inl rfl)) xst_eq ((hQ2 177 (by decide) (by decide) (by decide) (by decide)).trans h177) ((hQ2 187 (by decide) (by decide) (by decide) (by decide)).trans h187) (by
            rw [show m + K + (i + 1 - fr) = m + K + (i - fr) + 1 by omega]
            refine xMD_ch (fun h16 => ?_) hQ1
            have hBm2 := hBm (by omega)
            obtain ⟨kl, kB⟩ := hmb (by omega)
            have q2 := kB i.toNat (by rw [List.length_append, List.length_append]; omega)
            rw [List.append_assoc, xapp_l (by omega)] at q2
            have q3 : (B.drop fr.toNat).getD (i - fr).toNat (0, 0, 0) = (pf.getD (192 + i.toNat) 0, pq.getD (192 + i.toNat) 0, tk.getD (192 + i.toNat) 0) := by
              rw [q2, List.getD_eq_getElem?_getD, List.getElem?_drop, show fr.toNat + (i - fr).toNat = i.toNat by omega, ← List.getD_eq_getElem?_getD]
            rw [show (i + 1 - fr).toNat = (i - fr).toNat + 1 by omega, xtake_s (by rw [List.length_drop]; omega), List.map_append, ← List.append_assoc, List.map_singleton, q3]
            unfold xrs
            dsimp only
            rw [if_neg (by omega)]) (xFM_t hfr hQ2)
        · refine x_iconst rfl ?_
          refine x_goto (t := 102) rfl rfl ?_
          refine x_aload_n rfl (xst_ne (by decide) l0 (Or.inl rfl)) ?_
          refine x_getfield rfl (by decide) h177 rfl ?_
          refine x_iload rfl xst_eq ?_
          refine x_iaload rfl (by decide) h183 ⟨by omega, by omega⟩ (by omega) ?_
          rw [show (192 + i).toNat = 192 + i.toNat by omega]
          refine x_aload_n rfl (xst_ne (by decide) l0 (Or.inl rfl)) ?_
          refine x_getfield rfl (by decide) h177 rfl ?_
          refine x_iload rfl xst_eq ?_
          refine x_iaload rfl (by decide) h184 ⟨by omega, by omega⟩ (by omega) ?_
          rw [show (192 + i).toNat = 192 + i.toNat by omega]
          refine x_call [_, _, _, _] rfl rfl (show (0 : Nat) ≤ 8 from by decide) (show (4 : Nat) ≤ 4 from by decide) (x_rcv (by decide) h177) (xs_76 h177 (by omega) hd0 ⟨by omega, fun _ => by omega⟩ h4.2.1 h4.2.2) (fun r' f' hP => ?_)
          obtain ⟨rfl, hQ1, hQ2⟩ := hP
          refine x_iinc rfl (xst_ne (by decide) l4 (Or.inl rfl)) (show (4 : Nat) < 6 from by decide) ?_
          refine x_goto (t := 48) rfl rfl ?_
          refine ih (i + 1) _ _ (by omega) (by omega) (xst_ne (by decide) (xst_ne (by decide) l0 (Or.inl rfl)) (Or.inl rfl)) (xst_ne (by decide) (xst_ne (by decide) l1 (Or.inl rfl)) (Or.inl rfl)) (xst_ne (by decide) (xst_ne (by decide) l2 (Or.inl rfl)) (Or.inl rfl)) (xst_ne (by decide) (xst_ne (by decide) l3 (Or.inl rfl)) (Or.inl rfl)) xst_eq ((hQ2 177 (by decide) (by decide) (by decide) (by decide)).trans h177) ((hQ2 187 (by decide) (by decide) (by decide) (by decide)).trans h187) (by
            rw [show m + K + (i + 1 - fr) = m + K + (i - fr) + 1 by omega]
            refine xMD_ch (fun h16 => ?_) hQ1
            have hBm2 := hBm (by omega)
            obtain ⟨kl, kB⟩ := hmb (by omega)
            have q2 := kB i.toNat (by rw [List.length_append, List.length_append]; omega)
            rw [List.append_assoc, xapp_l (by omega)] at q2
            have q3 : (B.drop fr.toNat).getD (i - fr).toNat (0, 0, 0) = (pf.getD (192 + i.toNat) 0, pq.getD (192 + i.toNat) 0, tk.getD (192 + i.toNat) 0) := by
              rw [q2, List.getD_eq_getElem?_getD, List.getElem?_drop, show fr.toNat + (i - fr).toNat = i.toNat by omega, ← List.getD_eq_getElem?_getD]
            rw [show (i + 1 - fr).toNat = (i - fr).toNat + 1 by omega, xtake_s (by rw [List.length_drop]; omega), List.map_append, ← List.append_assoc, List.map_singleton, q3]
            unfold xrs
            dsimp only
            rw [if_pos (by omega)]) (xFM_t hfr hQ2)
theorem xs_80o {R0 : Nat → Int × Int} {B : List xBt} {v0 : Value} {xs : List Int32} {u : Nat × Nat} {cn0 dn0 tk0 : Nat → Int} {m d fr ti : Int} {n : Nat} {cd fa ki be en nu ca pa op : Int} {wo : Int64} {q : Nat → Value} {tm : List Int} (hop : 0 ≤ op ∧ op < 3) (htl : tm.length = 3) (hti : tm.getD op.toNat 0 = ti) (ht4 : 1 ≤ ti ∧ ti ≤ 4) (hm : 0 ≤ m ∧ m ≤ 150000) (hfr0 : 0 ≤ fr ∧ fr ≤ m) (hBm : m ≤ 16 → (B.length : Int) = m) {f0 : Nat → zE} : ∀ (w : Nat) (rr : Int) (lv : zL) (f : Nat → zE), (w : Int) + rr = ti → 1 ≤ rr → zlv lv 0 = some (.ref 177) → zlv lv 1 = some (xi fr) → zlv lv 2 = some (xi (m - fr)) → zlv lv 3 = some (xi rr) → f 177 = xmo cd (n : Nat) fa ki be en wo nu ca pa op q → f 187 = xr 0 tm → xMD R0 (B ++ xrd0 B fr.toNat (m - fr) (rr - 1).toNat) cn0 dn0 tk0 f (m + (rr - 1) * (m - fr)) d → xFM f0 f → xz v0 xs u (fun o X => ∃ r f', o = .inl r ∧ X = (xh f', u) ∧ (fun r f' => r = none ∧ xMD R0 (B ++ xrd0 B fr.toNat (m - fr) (ti - 1).toNat) cn0 dn0 tk0 f' (m + (ti - 1) * (m - fr)) d ∧ f' 177 = xmo cd (n : Nat) fa ki be en wo nu ca pa op q ∧ xFM f0 f') r f') 80 32 lv [] f := by
  intro w
  induction w with
  | zero =>
    intro rr lv f hw hr l0 l1 l2 l3 h177 h187 hd hfr
    refine x_iload_n rfl l3 ?_
    refine x_aload_n rfl l0 ?_
    refine x_getfield rfl (by decide) h177 rfl ?_
    refine x_aload_n rfl l0 ?_
    refine x_getfield rfl (by decide) h177 rfl ?_
    refine x_iaload rfl (by decide) h187 ⟨by omega, by omega⟩ (by omega) ?_
    rw [hti]
    refine x_cge (t := 131) rfl rfl ⟨by omega, by omega⟩ ⟨by omega, by omega⟩ (fun hb42 => ?_) (fun hb42 => ?_)
    · refine x_return rfl ⟨_, _, rfl, rfl, ?_⟩
      have e1 : rr = ti := by omega
      subst e1
      exact ⟨rfl, hd, h177, hfr⟩
    · exfalso; omega
  | succ w ih =>
    intro rr lv f hw hr l0 l1 l2 l3 h177 h187 hd hfr
    refine x_iload_n rfl l3 ?_
    refine x_aload_n rfl l0 ?_
    refine x_getfield rfl (by decide) h177 rfl ?_
    refine x_aload_n rfl l0 ?_
    refine x_getfield rfl (by decide) h177 rfl ?_
    refine x_iaload rfl (by decide) h187 ⟨by omega, by omega⟩ (by omega) ?_
    rw [hti]
    refine x_cge (t := 131) rfl rfl ⟨by omega, by omega⟩ ⟨by omega, by omega⟩ (fun hb42 => ?_) (fun hb42 => ?_)
    · exfalso; omega
    · refine x_iload_n rfl l1 ?_
      refine x_istore rfl (show (4 : Nat) < 6 from by decide) ?_
      have hK0 : 0 ≤ (rr - 1) * (m - fr) := Int.mul_nonneg (by omega) (by omega)
      have hK3 : (rr - 1) * (m - fr) ≤ 3 * (m - fr) := Int.mul_le_mul_of_nonneg_right (by omega) (by omega)
      refine xs_80i (R0 := R0) (B := B) (E := xrd0 B fr.toNat (m - fr) (rr - 1).toNat) (cn0 := cn0) (dn0 := dn0) (tk0 := tk0) (d := d) (ti := ti) hop htl hti ht4 hm hfr0 (K := (rr - 1) * (m - fr)) ⟨hK0, ?_⟩ (by omega) hBm (fun lv f k0 k1 k2 k3 k177 k187 kd kfr => ?_) (m - fr).toNat fr _ _ (by omega) (Int.le_refl _) (xst_ne (by decide) l0 (Or.inl rfl)) (xst_ne (by decide) l1 (Or.inl rfl)) (xst_ne (by decide) l2 (Or.inl rfl)) (xst_ne (by decide) l3 (Or.inl rfl)) xst_eq h177 h187 ?_ hfr
      · rw [show rr * (m - fr) = ((rr - 1) + 1) * (m - fr) by rw [Int.sub_add_cancel], Int.add_mul, Int.one_mul]
      · refine x_iinc rfl k3 (show (3 : Nat) < 6 from by decide) ?_
        refine x_goto (t := 32) rfl rfl ?_
        refine ih (rr + 1) _ _ (by omega) (by omega) (xst_ne (by decide) k0 (Or.inl rfl)) (xst_ne (by decide) k1 (Or.inl rfl)) (xst_ne (by decide) k2 (Or.inl rfl)) xst_eq k177 k187 ?_ kfr
        rw [show m + (rr + 1 - 1) * (m - fr) = m + (rr - 1) * (m - fr) + (m - fr) by rw [show rr + 1 - 1 = (rr - 1) + 1 by omega, Int.add_mul, Int.one_mul]; omega, show (rr + 1 - 1).toNat = (rr - 1).toNat + 1 by omega, xrd0, ← List.append_assoc, show (((rr - 1).toNat + 1 : Nat) : Int) = rr by omega]
        exact kd
      · rw [Int.sub_self, Int.add_zero, show (0 : Int).toNat = 0 from rfl, List.take_zero, List.map_nil, List.append_nil]; exact hd
theorem xs_80 {R0 : Nat → Int × Int} {B : List xBt} {v0 : Value} {xs : List Int32} {u : Nat × Nat} {cn0 dn0 tk0 : Nat → Int} {f : Nat → zE} {m d : Int} {n : Nat} {cd fa ki be en nu ca pa op : Int} {wo : Int64} {q : Nat → Value} {tm oa : List Int} (h177 : f 177 = xmo cd (n : Nat) fa ki be en wo nu ca pa op q) (h187 : f 187 = xr 0 tm) (h188 : f 188 = xr 0 oa) (hop : 0 < op ∧ op ≤ 3) (htl : tm.length = 3) (hol : oa.length = 3) (ht4 : 1 ≤ tm.getD (op - 1).toNat 0 ∧ tm.getD (op - 1).toNat 0 ≤ 4) (hm : 0 ≤ m ∧ m ≤ 150000) (hfr0 : 0 ≤ oa.getD (op - 1).toNat 0 ∧ oa.getD (op - 1).toNat 0 ≤ m) (hd : xMD R0 B cn0 dn0 tk0 f m d) : xq v0 xs u 80 [(0, .ref 177)] f (fun r f' => r = none ∧ xMD R0 (B ++ xrd0 B (oa.getD (op - 1).toNat 0).toNat (m - oa.getD (op - 1).toNat 0) (tm.getD (op - 1).toNat 0 - 1).toNat) cn0 dn0 tk0 f' (m + (tm.getD (op - 1).toNat 0 - 1) * (m - oa.getD (op - 1).toNat 0)) d ∧ f' 177 = xmo cd (n : Nat) fa ki be en wo nu ca pa (op - 1) q ∧ ∀ p, p ≠ 177 → p ≠ 180 → p ≠ 182 → p ≠ 183 → p ≠ 184 → f' p = f p) := by
  unfold xq
  have hd0 := hd
  obtain ⟨cn, dn, tk, pf, pq, h180, h181, h182, h183, h184, ⟨g1, g2, g3, g4, g5⟩, hcm, hdd, hk1, hk2, hk3, hk4, hR, hmb⟩ := hd
  refine x_aload_n rfl rfl ?_
  refine x_dup rfl ?_
  refine x_getfield rfl (by decide) h177 rfl ?_
  refine x_iconst rfl ?_
  refine x_isub rfl ?_
  refine x_putfield rfl (by decide) h177 (show (19 : Nat) < 41 from by decide) rfl ?_
  refine x_aload_n rfl rfl ?_
  refine x_getfield rfl (by decide) xu_eq rfl ?_
  refine x_aload_n rfl rfl ?_
  refine x_getfield rfl (by decide) xu_eq rfl ?_
  refine x_iaload rfl (by decide) (xu_ne (by decide) h188) ⟨by omega, by omega⟩ (by omega) ?_
  refine x_istore_n rfl (show (1 : Nat) < 6 from by decide) ?_
  refine x_aload_n rfl (xst_ne (by decide) rfl (Or.inl rfl)) ?_
  refine x_getfield rfl (by decide) xu_eq rfl ?_
  refine x_bipush rfl (by decide) ?_
  refine x_iaload rfl (by decide) (xu_ne (by decide) h180) ⟨by omega, by omega⟩ (by omega) ?_
  rw [show (12 : Int).toNat = 12 from rfl, hcm]
  refine x_iload_n rfl xst_eq ?_
  refine x_isub rfl ?_
  refine x_istore_n rfl (show (2 : Nat) < 6 from by decide) ?_
  refine x_iconst rfl ?_
  refine x_istore_n rfl (show (3 : Nat) < 6 from by decide) ?_
  refine zwp_mono (xs_80o (f0 := xu f 177 (xmo cd (n : Nat) fa ki be en wo nu ca pa (op - 1) q)) ⟨by omega, by omega⟩ htl rfl ht4 hm hfr0 (fun h => (hmb h).1) (tm.getD (op - 1).toNat 0 - 1).toNat 1 _ _ (by omega) (Int.le_refl _) (xst_ne (by decide) (xst_ne (by decide) (xst_ne (by decide) rfl (Or.inl rfl)) (Or.inl rfl)) (Or.inl rfl)) (xst_ne (by decide) (xst_ne (by decide) xst_eq (Or.inl rfl)) (Or.inl rfl)) (xst_ne (by decide) xst_eq (Or.inl rfl)) xst_eq xu_eq (xu_ne (by decide) h187) (by rw [Int.sub_self, Int.zero_mul, Int.add_zero, show (0 : Int).toNat = 0 from rfl, xrd0, List.append_nil]; exact xMD_mv (fun p p1 p2 => xu_ne (by omega) rfl) hd0) (xFM_0 _)) ?_
  intro oo X' hq
  obtain ⟨r, f', rfl, rfl, h1, h2, h3, h4⟩ := hq
  exact ⟨r, f', rfl, rfl, h1, h2, h3, fun p a0 a1 a2 a3 a4 => (h4 p a1 a2 a3 a4).trans (xu_ne a0 rfl)⟩
