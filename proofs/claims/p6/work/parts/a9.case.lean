/-! The cases of the law. -/
theorem x_gia {v0 : Value} {xs : List Int32} {u : Nat × Nat} {Q : zO → zX → Prop} {mi pc a b c : Nat} {v : Value} {lv : zL} {r : List Value} {f : Nat → zE} {z : Int} (hc : zcd (zt v0) mi pc = some (.iaload, a, b, c, v)) (hz : 0 ≤ z ∧ z < xs.length) (hl : xs.length ≤ 5000) (k : xz v0 xs u Q mi (pc + 1) lv (xi (xs.getD z.toNat 0).toInt :: r) f) : xz v0 xs u Q mi pc lv (xi z :: .ref 0 :: r) f := by
  refine x_b (q := (1, xi (xs.getD z.toNat 0).toInt :: r)) hc ?_ k
  have e : zrd (zG xs) (xh f, u) 0 = some (.inr (.inl (0, xs))) := rfl
  simp only [zb, e]
  rw [if_pos (xin hz.1 hz.2 (by omega)), (xi_clamp hz.1 (by omega)).2, ← xi_of]
theorem x_gln {v0 : Value} {xs : List Int32} {u : Nat × Nat} {Q : zO → zX → Prop} {mi pc a b c : Nat} {v : Value} {lv : zL} {r : List Value} {f : Nat → zE} (hc : zcd (zt v0) mi pc = some (.arraylength, a, b, c, v)) (k : xz v0 xs u Q mi (pc + 1) lv (xi (xs.length : Nat) :: r) f) : xz v0 xs u Q mi pc lv (.ref 0 :: r) f := by
  refine x_b (q := (1, xi (xs.length : Nat) :: r)) hc ?_ k
  have e : zrd (zG xs) (xh f, u) 0 = some (.inr (.inl (0, xs))) := rfl
  simp only [zb, e]
  rfl
set_option maxRecDepth 20000 in
theorem xK3 {v0 : Value} {xs : List Int32} {u : Nat × Nat} {Q : zO → zX → Prop} {f : Nat → zE} {lv : zL} {i : Nat} {n : Nat} {cs : List Int} {nms : List (List Int)} {bc dp tk0 : Nat → Int} (hxs : xs.length ≤ 1536) (hi : i + 3 ≤ xs.length) (l0 : zlv lv 0 = some (.ref 0)) (l1 : zlv lv 1 = some (.ref 50)) (l2 : zlv lv 2 = some (.ref 177)) (l3 : zlv lv 3 = some (.ref 203)) (l4 : zlv lv 4 = some (xi (i : Nat))) (hI : xINV f n cs nms bc dp tk0) (hF : xFT f) (K : xKN v0 xs u Q i) : xz v0 xs u Q 177 210 lv [] f := by
  refine x_aload_n rfl l1 ?_
  obtain ⟨dd0, lf0, lc0, h50_0, -⟩ := xINV_50 hI.1
  refine x_call [_] rfl rfl (show (0 : Nat) ≤ 8 from by decide) (show (1 : Nat) ≤ 1 from by decide) (x_rcv (by decide) h50_0) (xca_q (xA83 hI.1) (vs := [.ref 50]) ⟨ygr, trivial⟩) (fun r0 f1 hP0 => ?_)
  obtain ⟨hr0, hD0⟩ := hP0
  have hI1 := xINV_D hI hD0
  have hF1 := xFT_D hF hD0
  match r0, hr0 with
  | none, hr => exact hr.elim
  | some v, hr =>
    obtain ⟨y0, rfl, -, -⟩ := yg_i hr
    show xz v0 xs u Q 177 214 _ (xi y0 :: []) f1
    refine x_pop rfl ?_
    refine x_aload_n rfl l2 ?_
    obtain ⟨-, -, -, -, ⟨_, _, _, _, _, _, _, _, _, _, _, _, _, _, _, h177_1, -⟩, -⟩ := id hI1
    refine x_call [_] rfl rfl (show (0 : Nat) ≤ 8 from by decide) (show (1 : Nat) ≤ 1 from by decide) (x_rcv (by decide) h177_1) (xca_q (xA84 hI1.1) (vs := [.ref 177]) ⟨ygr, trivial⟩) (fun r1 f2 hP1 => ?_)
    obtain ⟨hr1, hD1⟩ := hP1
    have hI2 := xINV_D hI1 hD1
    have hF2 := xFT_D hF1 hD1
    match r1, hr1 with
    | none, hr => exact hr.elim
    | some v, hr =>
      obtain ⟨y1, rfl, -, -⟩ := yg_i hr
      show xz v0 xs u Q 177 219 _ (xi y1 :: []) f2
      refine x_pop rfl ?_
      refine x_goto (t := 644) rfl rfl ?_
      exact K _ _ _ _ _ _ _ _ _ l0 l1 l2 l3 l4 hI2 hF2 (by omega) (by omega)
set_option maxRecDepth 20000 in
theorem xK5 {v0 : Value} {xs : List Int32} {u : Nat × Nat} {Q : zO → zX → Prop} {f : Nat → zE} {lv : zL} {i : Nat} {n : Nat} {cs : List Int} {nms : List (List Int)} {bc dp tk0 : Nat → Int} (hxs : xs.length ≤ 1536) (hi : i + 3 ≤ xs.length) (l0 : zlv lv 0 = some (.ref 0)) (l1 : zlv lv 1 = some (.ref 50)) (l2 : zlv lv 2 = some (.ref 177)) (l3 : zlv lv 3 = some (.ref 203)) (l4 : zlv lv 4 = some (xi (i : Nat))) (hI : xINV f n cs nms bc dp tk0) (hF : xFT f) (K : xKN v0 xs u Q i) : xz v0 xs u Q 177 279 lv [] f := by
  refine x_aload_n rfl l1 ?_
  refine x_aload_n rfl l0 ?_
  refine x_iload rfl l4 ?_
  refine x_iconst rfl ?_
  refine x_iadd rfl ?_
  refine x_gia rfl ⟨by omega, by omega⟩ (by omega) ?_
  refine x_aload_n rfl l3 ?_
  refine x_callT [_, _, _] rfl rfl (show (0 : Nat) ≤ 8 from by decide) (show (3 : Nat) ≤ 4 from by decide) rfl (xH109 hI.1 (xA108 (xINV_n hI).2.2.1 (xINV_n hI).1 (xINV_n hI).2.1)) (fun r0 X0 hq0 => ?_) (fun x0 X0 hq0 => by obtain ⟨_, _, _, e1, -⟩ := hq0; cases e1)
  obtain ⟨z0, f1, u1, e1, e2, hD0, b1, b2⟩ := hq0
  cases e1
  subst e2
  have hI1 := xINV_D hI hD0
  have hF1 := xFT_D hF hD0
  show xz v0 xs u1 Q 177 290 _ (xi z0 :: []) f1
  refine x_istore rfl (show (5 : Nat) < 7 from by decide) ?_
  refine x_aload_n rfl (xst_ne (by decide) l2 (Or.inl rfl)) ?_
  refine x_aload_n rfl (xst_ne (by decide) l0 (Or.inl rfl)) ?_
  refine x_iload rfl (xst_ne (by decide) l4 (Or.inl rfl)) ?_
  refine x_iconst rfl ?_
  refine x_iadd rfl ?_
  refine x_gia rfl ⟨by omega, by omega⟩ (by omega) ?_
  obtain ⟨-, -, -, -, ⟨_, _, _, _, _, _, _, _, _, _, _, _, _, _, _, h177_1, -⟩, -⟩ := id hI1
  refine x_call [_, _] rfl rfl (show (0 : Nat) ≤ 8 from by decide) (show (2 : Nat) ≤ 2 from by decide) (x_rcv (by decide) h177_1) (xca_q (xA125 hI1.1) (vs := [.ref 177, xi _]) ⟨ygr, ygt, trivial⟩) (fun r1 f2 hP1 => ?_)
  obtain ⟨hr1, hD1⟩ := hP1
  have hI2 := xINV_D hI1 hD1
  have hF2 := xFT_D hF1 hD1
  match r1, hr1 with
  | none, hr => exact hr.elim
  | some v, hr =>
    obtain ⟨y1, rfl, -, -⟩ := yg_i hr
    show xz v0 xs u1 Q 177 302 _ (xi y1 :: []) f2
    refine x_istore rfl (show (6 : Nat) < 7 from by decide) ?_
    refine x_goto (t := 644) rfl rfl ?_
    exact K _ _ _ _ _ _ _ _ _ (xst_ne (by decide) (xst_ne (by decide) l0 (Or.inl rfl)) (Or.inl rfl)) (xst_ne (by decide) (xst_ne (by decide) l1 (Or.inl rfl)) (Or.inl rfl)) (xst_ne (by decide) (xst_ne (by decide) l2 (Or.inl rfl)) (Or.inl rfl)) (xst_ne (by decide) (xst_ne (by decide) l3 (Or.inl rfl)) (Or.inl rfl)) (xst_ne (by decide) (xst_ne (by decide) l4 (Or.inl rfl)) (Or.inl rfl)) hI2 hF2 b1 b2
set_option maxRecDepth 20000 in
theorem xK6 {v0 : Value} {xs : List Int32} {u : Nat × Nat} {Q : zO → zX → Prop} {f : Nat → zE} {lv : zL} {i : Nat} {n : Nat} {cs : List Int} {nms : List (List Int)} {bc dp tk0 : Nat → Int} (hxs : xs.length ≤ 1536) (hi : i + 3 ≤ xs.length) (l0 : zlv lv 0 = some (.ref 0)) (l1 : zlv lv 1 = some (.ref 50)) (l2 : zlv lv 2 = some (.ref 177)) (l3 : zlv lv 3 = some (.ref 203)) (l4 : zlv lv 4 = some (xi (i : Nat))) (hI : xINV f n cs nms bc dp tk0) (hF : xFT f) (K : xKN v0 xs u Q i) : xz v0 xs u Q 177 307 lv [] f := by
  refine x_aload_n rfl l1 ?_
  refine x_aload_n rfl l0 ?_
  refine x_iload rfl l4 ?_
  refine x_iconst rfl ?_
  refine x_iadd rfl ?_
  refine x_gia rfl ⟨by omega, by omega⟩ (by omega) ?_
  refine x_aload_n rfl l3 ?_
  refine x_callT [_, _, _] rfl rfl (show (0 : Nat) ≤ 8 from by decide) (show (3 : Nat) ≤ 4 from by decide) rfl (xH127 hI.1 (xA126 (xINV_n hI).2.2.1 (xINV_n hI).1 (xINV_n hI).2.1)) (fun r0 X0 hq0 => ?_) (fun x0 X0 hq0 => by obtain ⟨_, _, _, e1, -⟩ := hq0; cases e1)
  obtain ⟨z0, f1, u1, e1, e2, hD0, b1, b2⟩ := hq0
  cases e1
  subst e2
  have hI1 := xINV_D hI hD0
  have hF1 := xFT_D hF hD0
  show xz v0 xs u1 Q 177 318 _ (xi z0 :: []) f1
  refine x_istore rfl (show (5 : Nat) < 7 from by decide) ?_
  refine x_aload_n rfl (xst_ne (by decide) l2 (Or.inl rfl)) ?_
  refine x_aload_n rfl (xst_ne (by decide) l0 (Or.inl rfl)) ?_
  refine x_iload rfl (xst_ne (by decide) l4 (Or.inl rfl)) ?_
  refine x_iconst rfl ?_
  refine x_iadd rfl ?_
  refine x_gia rfl ⟨by omega, by omega⟩ (by omega) ?_
  obtain ⟨-, -, -, -, ⟨_, _, _, _, _, _, _, _, _, _, _, _, _, _, _, h177_1, -⟩, -⟩ := id hI1
  refine x_call [_, _] rfl rfl (show (0 : Nat) ≤ 8 from by decide) (show (2 : Nat) ≤ 2 from by decide) (x_rcv (by decide) h177_1) (xca_q (xA128 hI1.1) (vs := [.ref 177, xi _]) ⟨ygr, ygt, trivial⟩) (fun r1 f2 hP1 => ?_)
  obtain ⟨hr1, hD1⟩ := hP1
  have hI2 := xINV_D hI1 hD1
  have hF2 := xFT_D hF1 hD1
  match r1, hr1 with
  | none, hr => exact hr.elim
  | some v, hr =>
    obtain ⟨y1, rfl, -, -⟩ := yg_i hr
    show xz v0 xs u1 Q 177 330 _ (xi y1 :: []) f2
    refine x_istore rfl (show (6 : Nat) < 7 from by decide) ?_
    refine x_goto (t := 644) rfl rfl ?_
    exact K _ _ _ _ _ _ _ _ _ (xst_ne (by decide) (xst_ne (by decide) l0 (Or.inl rfl)) (Or.inl rfl)) (xst_ne (by decide) (xst_ne (by decide) l1 (Or.inl rfl)) (Or.inl rfl)) (xst_ne (by decide) (xst_ne (by decide) l2 (Or.inl rfl)) (Or.inl rfl)) (xst_ne (by decide) (xst_ne (by decide) l3 (Or.inl rfl)) (Or.inl rfl)) (xst_ne (by decide) (xst_ne (by decide) l4 (Or.inl rfl)) (Or.inl rfl)) hI2 hF2 b1 b2
set_option maxRecDepth 20000 in
theorem xK7 {v0 : Value} {xs : List Int32} {u : Nat × Nat} {Q : zO → zX → Prop} {f : Nat → zE} {lv : zL} {i : Nat} {n : Nat} {cs : List Int} {nms : List (List Int)} {bc dp tk0 : Nat → Int} (hxs : xs.length ≤ 1536) (hi : i + 3 ≤ xs.length) (l0 : zlv lv 0 = some (.ref 0)) (l1 : zlv lv 1 = some (.ref 50)) (l2 : zlv lv 2 = some (.ref 177)) (l3 : zlv lv 3 = some (.ref 203)) (l4 : zlv lv 4 = some (xi (i : Nat))) (hI : xINV f n cs nms bc dp tk0) (hF : xFT f) (K : xKN v0 xs u Q i) : xz v0 xs u Q 177 335 lv [] f := by
  refine x_aload_n rfl l1 ?_
  obtain ⟨dd0, lf0, lc0, h50_0, -⟩ := xINV_50 hI.1
  refine x_call [_] rfl rfl (show (0 : Nat) ≤ 8 from by decide) (show (1 : Nat) ≤ 1 from by decide) (x_rcv (by decide) h50_0) (xca_q (xA129 hI.1) (vs := [.ref 50]) ⟨ygr, trivial⟩) (fun r0 f1 hP0 => ?_)
  obtain ⟨hr0, hD0⟩ := hP0
  have hI1 := xINV_D hI hD0
  have hF1 := xFT_D hF hD0
  match r0, hr0 with
  | none, hr => exact hr.elim
  | some v, hr =>
    obtain ⟨y0, rfl, -, -⟩ := yg_i hr
    show xz v0 xs u Q 177 339 _ (xi y0 :: []) f1
    refine x_pop rfl ?_
    refine x_aload_n rfl l2 ?_
    obtain ⟨-, -, -, -, ⟨_, _, _, _, _, _, _, _, _, _, _, _, _, _, _, h177_1, -⟩, -⟩ := id hI1
    refine x_call [_] rfl rfl (show (0 : Nat) ≤ 8 from by decide) (show (1 : Nat) ≤ 1 from by decide) (x_rcv (by decide) h177_1) (xca_q (xA130 hI1.1) (vs := [.ref 177]) ⟨ygr, trivial⟩) (fun r1 f2 hP1 => ?_)
    obtain ⟨hr1, hD1⟩ := hP1
    have hI2 := xINV_D hI1 hD1
    have hF2 := xFT_D hF1 hD1
    match r1, hr1 with
    | none, hr => exact hr.elim
    | some v, hr =>
      obtain ⟨y1, rfl, -, -⟩ := yg_i hr
      show xz v0 xs u Q 177 344 _ (xi y1 :: []) f2
      refine x_pop rfl ?_
      refine x_goto (t := 644) rfl rfl ?_
      exact K _ _ _ _ _ _ _ _ _ l0 l1 l2 l3 l4 hI2 hF2 (by omega) (by omega)
set_option maxRecDepth 20000 in
theorem xK8 {v0 : Value} {xs : List Int32} {u : Nat × Nat} {Q : zO → zX → Prop} {f : Nat → zE} {lv : zL} {i : Nat} {n : Nat} {cs : List Int} {nms : List (List Int)} {bc dp tk0 : Nat → Int} (hxs : xs.length ≤ 1536) (hi : i + 3 ≤ xs.length) (l0 : zlv lv 0 = some (.ref 0)) (l1 : zlv lv 1 = some (.ref 50)) (l2 : zlv lv 2 = some (.ref 177)) (l3 : zlv lv 3 = some (.ref 203)) (l4 : zlv lv 4 = some (xi (i : Nat))) (hI : xINV f n cs nms bc dp tk0) (hF : xFT f) (K : xKN v0 xs u Q i) : xz v0 xs u Q 177 348 lv [] f := by
  refine x_aload_n rfl l1 ?_
  refine x_aload_n rfl l3 ?_
  refine x_callT [_, _] rfl rfl (show (0 : Nat) ≤ 8 from by decide) (show (2 : Nat) ≤ 3 from by decide) rfl (xH132 hI.1 (xA131 hI.1)) (fun r0 X0 hq0 => ?_) (fun x0 X0 hq0 => by obtain ⟨_, _, _, e1, -⟩ := hq0; cases e1)
  obtain ⟨z0, f1, u1, e1, e2, hD0, b1, b2⟩ := hq0
  cases e1
  subst e2
  have hI1 := xINV_D hI hD0
  have hF1 := xFT_D hF hD0
  show xz v0 xs u1 Q 177 353 _ (xi z0 :: []) f1
  refine x_istore rfl (show (5 : Nat) < 7 from by decide) ?_
  refine x_aload_n rfl (xst_ne (by decide) l2 (Or.inl rfl)) ?_
  obtain ⟨-, -, -, -, ⟨_, _, _, _, _, _, _, _, _, _, _, _, _, _, _, h177_1, -⟩, -⟩ := id hI1
  refine x_call [_] rfl rfl (show (0 : Nat) ≤ 8 from by decide) (show (1 : Nat) ≤ 2 from by decide) (x_rcv (by decide) h177_1) (xca_q (xA134 hI1.1) (vs := [.ref 177]) ⟨ygr, trivial⟩) (fun r1 f2 hP1 => ?_)
  obtain ⟨hr1, hD1⟩ := hP1
  have hI2 := xINV_D hI1 hD1
  have hF2 := xFT_D hF1 hD1
  match r1, hr1 with
  | none, hr => exact hr.elim
  | some v, hr =>
    obtain ⟨y1, rfl, -, -⟩ := yg_i hr
    show xz v0 xs u1 Q 177 359 _ (xi y1 :: []) f2
    refine x_istore rfl (show (6 : Nat) < 7 from by decide) ?_
    refine x_goto (t := 644) rfl rfl ?_
    exact K _ _ _ _ _ _ _ _ _ (xst_ne (by decide) (xst_ne (by decide) l0 (Or.inl rfl)) (Or.inl rfl)) (xst_ne (by decide) (xst_ne (by decide) l1 (Or.inl rfl)) (Or.inl rfl)) (xst_ne (by decide) (xst_ne (by decide) l2 (Or.inl rfl)) (Or.inl rfl)) (xst_ne (by decide) (xst_ne (by decide) l3 (Or.inl rfl)) (Or.inl rfl)) (xst_ne (by decide) (xst_ne (by decide) l4 (Or.inl rfl)) (Or.inl rfl)) hI2 hF2 b1 b2
set_option maxRecDepth 20000 in
theorem xK9 {v0 : Value} {xs : List Int32} {u : Nat × Nat} {Q : zO → zX → Prop} {f : Nat → zE} {lv : zL} {i : Nat} {n : Nat} {cs : List Int} {nms : List (List Int)} {bc dp tk0 : Nat → Int} (hxs : xs.length ≤ 1536) (hi : i + 3 ≤ xs.length) (l0 : zlv lv 0 = some (.ref 0)) (l1 : zlv lv 1 = some (.ref 50)) (l2 : zlv lv 2 = some (.ref 177)) (l3 : zlv lv 3 = some (.ref 203)) (l4 : zlv lv 4 = some (xi (i : Nat))) (hI : xINV f n cs nms bc dp tk0) (hF : xFT f) (K : xKN v0 xs u Q i) : xz v0 xs u Q 177 364 lv [] f := by
  refine x_aload_n rfl l1 ?_
  obtain ⟨dd0, lf0, lc0, h50_0, -⟩ := xINV_50 hI.1
  refine x_call [_] rfl rfl (show (0 : Nat) ≤ 8 from by decide) (show (1 : Nat) ≤ 2 from by decide) (x_rcv (by decide) h50_0) (xca_q (xA135 hI.1) (vs := [.ref 50]) ⟨ygr, trivial⟩) (fun r0 f1 hP0 => ?_)
  obtain ⟨hr0, hD0⟩ := hP0
  have hI1 := xINV_D hI hD0
  have hF1 := xFT_D hF hD0
  match r0, hr0 with
  | none, hr => exact hr.elim
  | some v, hr =>
    obtain ⟨y0, rfl, -, -⟩ := yg_i hr
    show xz v0 xs u Q 177 368 _ (xi y0 :: []) f1
    refine x_pop rfl ?_
    refine x_aload_n rfl l2 ?_
    obtain ⟨-, -, -, -, ⟨_, _, _, _, _, _, _, _, _, _, _, _, _, _, _, h177_1, -⟩, -⟩ := id hI1
    refine x_call [_] rfl rfl (show (0 : Nat) ≤ 8 from by decide) (show (1 : Nat) ≤ 3 from by decide) (x_rcv (by decide) h177_1) (xca_q (xA136 hI1.1) (vs := [.ref 177]) ⟨ygr, trivial⟩) (fun r1 f2 hP1 => ?_)
    obtain ⟨hr1, hD1⟩ := hP1
    have hI2 := xINV_D hI1 hD1
    have hF2 := xFT_D hF1 hD1
    match r1, hr1 with
    | none, hr => exact hr.elim
    | some v, hr =>
      obtain ⟨y1, rfl, -, -⟩ := yg_i hr
      show xz v0 xs u Q 177 373 _ (xi y1 :: []) f2
      refine x_pop rfl ?_
      refine x_goto (t := 644) rfl rfl ?_
      exact K _ _ _ _ _ _ _ _ _ l0 l1 l2 l3 l4 hI2 hF2 (by omega) (by omega)
set_option maxRecDepth 20000 in
theorem xK10 {v0 : Value} {xs : List Int32} {u : Nat × Nat} {Q : zO → zX → Prop} {f : Nat → zE} {lv : zL} {i : Nat} {n : Nat} {cs : List Int} {nms : List (List Int)} {bc dp tk0 : Nat → Int} (hxs : xs.length ≤ 1536) (hi : i + 3 ≤ xs.length) (l0 : zlv lv 0 = some (.ref 0)) (l1 : zlv lv 1 = some (.ref 50)) (l2 : zlv lv 2 = some (.ref 177)) (l3 : zlv lv 3 = some (.ref 203)) (l4 : zlv lv 4 = some (xi (i : Nat))) (hI : xINV f n cs nms bc dp tk0) (hF : xFT f) (K : xKN v0 xs u Q i) : xz v0 xs u Q 177 377 lv [] f := by
  refine x_aload_n rfl l1 ?_
  refine x_aload_n rfl l0 ?_
  refine x_iload rfl l4 ?_
  refine x_iconst rfl ?_
  refine x_iadd rfl ?_
  refine x_gia rfl ⟨by omega, by omega⟩ (by omega) ?_
  refine x_aload_n rfl l0 ?_
  refine x_iload rfl l4 ?_
  refine x_iconst rfl ?_
  refine x_iadd rfl ?_
  refine x_gia rfl ⟨by omega, by omega⟩ (by omega) ?_
  refine x_aload_n rfl l3 ?_
  refine x_callT [_, _, _, _] rfl rfl (show (0 : Nat) ≤ 8 from by decide) (show (4 : Nat) ≤ 5 from by decide) rfl (xH139 hI.1 (xA138 hI.1)) (fun r0 X0 hq0 => ?_) (fun x0 X0 hq0 => by obtain ⟨_, _, _, e1, -⟩ := hq0; cases e1)
  obtain ⟨z0, f1, u1, e1, e2, hD0, b1, b2⟩ := hq0
  cases e1
  subst e2
  have hI1 := xINV_D hI hD0
  have hF1 := xFT_D hF hD0
  show xz v0 xs u1 Q 177 394 _ (xi z0 :: []) f1
  refine x_istore rfl (show (5 : Nat) < 7 from by decide) ?_
  refine x_aload_n rfl (xst_ne (by decide) l2 (Or.inl rfl)) ?_
  refine x_aload_n rfl (xst_ne (by decide) l0 (Or.inl rfl)) ?_
  refine x_iload rfl (xst_ne (by decide) l4 (Or.inl rfl)) ?_
  refine x_iconst rfl ?_
  refine x_iadd rfl ?_
  refine x_gia rfl ⟨by omega, by omega⟩ (by omega) ?_
  refine x_aload_n rfl (xst_ne (by decide) l0 (Or.inl rfl)) ?_
  refine x_iload rfl (xst_ne (by decide) l4 (Or.inl rfl)) ?_
  refine x_iconst rfl ?_
  refine x_iadd rfl ?_
  refine x_gia rfl ⟨by omega, by omega⟩ (by omega) ?_
  obtain ⟨-, -, -, -, ⟨_, _, _, _, _, _, _, _, _, _, _, _, _, _, _, h177_1, -⟩, -⟩ := id hI1
  refine x_call [_, _, _] rfl rfl (show (0 : Nat) ≤ 8 from by decide) (show (3 : Nat) ≤ 3 from by decide) (x_rcv (by decide) h177_1) (xca_q (xA141 hI1.1) (vs := [.ref 177, xi _, xi _]) ⟨ygr, ygt, ygt, trivial⟩) (fun r1 f2 hP1 => ?_)
  obtain ⟨hr1, hD1⟩ := hP1
  have hI2 := xINV_D hI1 hD1
  have hF2 := xFT_D hF1 hD1
  match r1, hr1 with
  | none, hr => exact hr.elim
  | some v, hr =>
    obtain ⟨y1, rfl, -, -⟩ := yg_i hr
    show xz v0 xs u1 Q 177 412 _ (xi y1 :: []) f2
    refine x_istore rfl (show (6 : Nat) < 7 from by decide) ?_
    refine x_goto (t := 644) rfl rfl ?_
    exact K _ _ _ _ _ _ _ _ _ (xst_ne (by decide) (xst_ne (by decide) l0 (Or.inl rfl)) (Or.inl rfl)) (xst_ne (by decide) (xst_ne (by decide) l1 (Or.inl rfl)) (Or.inl rfl)) (xst_ne (by decide) (xst_ne (by decide) l2 (Or.inl rfl)) (Or.inl rfl)) (xst_ne (by decide) (xst_ne (by decide) l3 (Or.inl rfl)) (Or.inl rfl)) (xst_ne (by decide) (xst_ne (by decide) l4 (Or.inl rfl)) (Or.inl rfl)) hI2 hF2 b1 b2
set_option maxRecDepth 20000 in
theorem xK11 {v0 : Value} {xs : List Int32} {u : Nat × Nat} {Q : zO → zX → Prop} {f : Nat → zE} {lv : zL} {i : Nat} {n : Nat} {cs : List Int} {nms : List (List Int)} {bc dp tk0 : Nat → Int} (hxs : xs.length ≤ 1536) (hi : i + 3 ≤ xs.length) (l0 : zlv lv 0 = some (.ref 0)) (l1 : zlv lv 1 = some (.ref 50)) (l2 : zlv lv 2 = some (.ref 177)) (l3 : zlv lv 3 = some (.ref 203)) (l4 : zlv lv 4 = some (xi (i : Nat))) (hI : xINV f n cs nms bc dp tk0) (hF : xFT f) (K : xKN v0 xs u Q i) : xz v0 xs u Q 177 417 lv [] f := by
  refine x_aload_n rfl l1 ?_
  refine x_aload_n rfl l0 ?_
  refine x_iload rfl l4 ?_
  refine x_iconst rfl ?_
  refine x_iadd rfl ?_
  refine x_gia rfl ⟨by omega, by omega⟩ (by omega) ?_
  refine x_aload_n rfl l0 ?_
  refine x_iload rfl l4 ?_
  refine x_iconst rfl ?_
  refine x_iadd rfl ?_
  refine x_gia rfl ⟨by omega, by omega⟩ (by omega) ?_
  refine x_aload_n rfl l3 ?_
  refine x_callT [_, _, _, _] rfl rfl (show (0 : Nat) ≤ 8 from by decide) (show (4 : Nat) ≤ 5 from by decide) rfl (xH144 hI.1 (xA143 hI.1)) (fun r0 X0 hq0 => ?_) (fun x0 X0 hq0 => by obtain ⟨_, _, _, e1, -⟩ := hq0; cases e1)
  obtain ⟨z0, f1, u1, e1, e2, hD0, b1, b2⟩ := hq0
  cases e1
  subst e2
  have hI1 := xINV_D hI hD0
  have hF1 := xFT_D hF hD0
  show xz v0 xs u1 Q 177 434 _ (xi z0 :: []) f1
  refine x_istore rfl (show (5 : Nat) < 7 from by decide) ?_
  refine x_aload_n rfl (xst_ne (by decide) l2 (Or.inl rfl)) ?_
  refine x_aload_n rfl (xst_ne (by decide) l0 (Or.inl rfl)) ?_
  refine x_iload rfl (xst_ne (by decide) l4 (Or.inl rfl)) ?_
  refine x_iconst rfl ?_
  refine x_iadd rfl ?_
  refine x_gia rfl ⟨by omega, by omega⟩ (by omega) ?_
  refine x_aload_n rfl (xst_ne (by decide) l0 (Or.inl rfl)) ?_
  refine x_iload rfl (xst_ne (by decide) l4 (Or.inl rfl)) ?_
  refine x_iconst rfl ?_
  refine x_iadd rfl ?_
  refine x_gia rfl ⟨by omega, by omega⟩ (by omega) ?_
  obtain ⟨-, -, -, -, ⟨_, _, _, _, _, _, _, _, _, _, _, _, _, _, _, h177_1, -⟩, -⟩ := id hI1
  refine x_call [_, _, _] rfl rfl (show (0 : Nat) ≤ 8 from by decide) (show (3 : Nat) ≤ 4 from by decide) (x_rcv (by decide) h177_1) (xca_q (xA145 hI1.1) (vs := [.ref 177, xi _, xi _]) ⟨ygr, ygt, ygt, trivial⟩) (fun r1 f2 hP1 => ?_)
  obtain ⟨hr1, hD1⟩ := hP1
  have hI2 := xINV_D hI1 hD1
  have hF2 := xFT_D hF1 hD1
  match r1, hr1 with
  | none, hr => exact hr.elim
  | some v, hr =>
    obtain ⟨y1, rfl, -, -⟩ := yg_i hr
    show xz v0 xs u1 Q 177 452 _ (xi y1 :: []) f2
    refine x_istore rfl (show (6 : Nat) < 7 from by decide) ?_
    refine x_goto (t := 644) rfl rfl ?_
    exact K _ _ _ _ _ _ _ _ _ (xst_ne (by decide) (xst_ne (by decide) l0 (Or.inl rfl)) (Or.inl rfl)) (xst_ne (by decide) (xst_ne (by decide) l1 (Or.inl rfl)) (Or.inl rfl)) (xst_ne (by decide) (xst_ne (by decide) l2 (Or.inl rfl)) (Or.inl rfl)) (xst_ne (by decide) (xst_ne (by decide) l3 (Or.inl rfl)) (Or.inl rfl)) (xst_ne (by decide) (xst_ne (by decide) l4 (Or.inl rfl)) (Or.inl rfl)) hI2 hF2 b1 b2
set_option maxRecDepth 20000 in
theorem xK12 {v0 : Value} {xs : List Int32} {u : Nat × Nat} {Q : zO → zX → Prop} {f : Nat → zE} {lv : zL} {i : Nat} {n : Nat} {cs : List Int} {nms : List (List Int)} {bc dp tk0 : Nat → Int} (hxs : xs.length ≤ 1536) (hi : i + 3 ≤ xs.length) (l0 : zlv lv 0 = some (.ref 0)) (l1 : zlv lv 1 = some (.ref 50)) (l2 : zlv lv 2 = some (.ref 177)) (l3 : zlv lv 3 = some (.ref 203)) (l4 : zlv lv 4 = some (xi (i : Nat))) (hI : xINV f n cs nms bc dp tk0) (hF : xFT f) (K : xKN v0 xs u Q i) : xz v0 xs u Q 177 457 lv [] f := by
  refine x_aload_n rfl l1 ?_
  refine x_aload_n rfl l0 ?_
  refine x_iload rfl l4 ?_
  refine x_iconst rfl ?_
  refine x_iadd rfl ?_
  refine x_gia rfl ⟨by omega, by omega⟩ (by omega) ?_
  refine x_aload_n rfl l0 ?_
  refine x_iload rfl l4 ?_
  refine x_iconst rfl ?_
  refine x_iadd rfl ?_
  refine x_gia rfl ⟨by omega, by omega⟩ (by omega) ?_
  refine x_aload_n rfl l3 ?_
  refine x_callT [_, _, _, _] rfl rfl (show (0 : Nat) ≤ 8 from by decide) (show (4 : Nat) ≤ 5 from by decide) rfl (xH147 hI.1 (xA146 hI.1)) (fun r0 X0 hq0 => ?_) (fun x0 X0 hq0 => by obtain ⟨_, _, _, e1, -⟩ := hq0; cases e1)
  obtain ⟨z0, f1, u1, e1, e2, hD0, b1, b2⟩ := hq0
  cases e1
  subst e2
  have hI1 := xINV_D hI hD0
  have hF1 := xFT_D hF hD0
  show xz v0 xs u1 Q 177 474 _ (xi z0 :: []) f1
  refine x_istore rfl (show (5 : Nat) < 7 from by decide) ?_
  refine x_aload_n rfl (xst_ne (by decide) l2 (Or.inl rfl)) ?_
  refine x_aload_n rfl (xst_ne (by decide) l0 (Or.inl rfl)) ?_
  refine x_iload rfl (xst_ne (by decide) l4 (Or.inl rfl)) ?_
  refine x_iconst rfl ?_
  refine x_iadd rfl ?_
  refine x_gia rfl ⟨by omega, by omega⟩ (by omega) ?_
  refine x_aload_n rfl (xst_ne (by decide) l0 (Or.inl rfl)) ?_
  refine x_iload rfl (xst_ne (by decide) l4 (Or.inl rfl)) ?_
  refine x_iconst rfl ?_
  refine x_iadd rfl ?_
  refine x_gia rfl ⟨by omega, by omega⟩ (by omega) ?_
  obtain ⟨-, -, -, -, ⟨_, _, _, _, _, _, _, _, _, _, _, _, _, _, _, h177_1, -⟩, -⟩ := id hI1
  refine x_call [_, _, _] rfl rfl (show (0 : Nat) ≤ 8 from by decide) (show (3 : Nat) ≤ 3 from by decide) (x_rcv (by decide) h177_1) (xca_q (xA148 hI1.1) (vs := [.ref 177, xi _, xi _]) ⟨ygr, ygt, ygt, trivial⟩) (fun r1 f2 hP1 => ?_)
  obtain ⟨hr1, hD1⟩ := hP1
  have hI2 := xINV_D hI1 hD1
  have hF2 := xFT_D hF1 hD1
  match r1, hr1 with
  | none, hr => exact hr.elim
  | some v, hr =>
    obtain ⟨y1, rfl, -, -⟩ := yg_i hr
    show xz v0 xs u1 Q 177 492 _ (xi y1 :: []) f2
    refine x_istore rfl (show (6 : Nat) < 7 from by decide) ?_
    refine x_goto (t := 644) rfl rfl ?_
    exact K _ _ _ _ _ _ _ _ _ (xst_ne (by decide) (xst_ne (by decide) l0 (Or.inl rfl)) (Or.inl rfl)) (xst_ne (by decide) (xst_ne (by decide) l1 (Or.inl rfl)) (Or.inl rfl)) (xst_ne (by decide) (xst_ne (by decide) l2 (Or.inl rfl)) (Or.inl rfl)) (xst_ne (by decide) (xst_ne (by decide) l3 (Or.inl rfl)) (Or.inl rfl)) (xst_ne (by decide) (xst_ne (by decide) l4 (Or.inl rfl)) (Or.inl rfl)) hI2 hF2 b1 b2
set_option maxRecDepth 20000 in
theorem xK13 {v0 : Value} {xs : List Int32} {u : Nat × Nat} {Q : zO → zX → Prop} {f : Nat → zE} {lv : zL} {i : Nat} {n : Nat} {cs : List Int} {nms : List (List Int)} {bc dp tk0 : Nat → Int} (hxs : xs.length ≤ 1536) (hi : i + 3 ≤ xs.length) (l0 : zlv lv 0 = some (.ref 0)) (l1 : zlv lv 1 = some (.ref 50)) (l2 : zlv lv 2 = some (.ref 177)) (l3 : zlv lv 3 = some (.ref 203)) (l4 : zlv lv 4 = some (xi (i : Nat))) (hI : xINV f n cs nms bc dp tk0) (hF : xFT f) (K : xKN v0 xs u Q i) : xz v0 xs u Q 177 497 lv [] f := by
  refine x_aload_n rfl l1 ?_
  obtain ⟨dd0, lf0, lc0, h50_0, -⟩ := xINV_50 hI.1
  refine x_call [_] rfl rfl (show (0 : Nat) ≤ 8 from by decide) (show (1 : Nat) ≤ 1 from by decide) (x_rcv (by decide) h50_0) (xca_q (xA151 hI.1) (vs := [.ref 50]) ⟨ygr, trivial⟩) (fun r0 f1 hP0 => ?_)
  obtain ⟨hr0, hD0⟩ := hP0
  have hI1 := xINV_D hI hD0
  have hF1 := xFT_D hF hD0
  match r0, hr0 with
  | none, hr => exact hr.elim
  | some v, hr =>
    obtain ⟨y0, rfl, -, -⟩ := yg_i hr
    show xz v0 xs u Q 177 501 _ (xi y0 :: []) f1
    refine x_pop rfl ?_
    refine x_aload_n rfl l2 ?_
    obtain ⟨-, -, -, -, ⟨_, _, _, _, _, _, _, _, _, _, _, _, _, _, _, h177_1, -⟩, -⟩ := id hI1
    refine x_call [_] rfl rfl (show (0 : Nat) ≤ 8 from by decide) (show (1 : Nat) ≤ 11 from by decide) (x_rcv (by decide) h177_1) (xca_q (xA152 hI1.1) (vs := [.ref 177]) ⟨ygr, trivial⟩) (fun r1 f2 hP1 => ?_)
    obtain ⟨hr1, hD1⟩ := hP1
    have hI2 := xINV_D hI1 hD1
    have hF2 := xFT_D hF1 hD1
    match r1, hr1 with
    | none, hr => exact hr.elim
    | some v, hr =>
      obtain ⟨y1, rfl, -, -⟩ := yg_i hr
      show xz v0 xs u Q 177 506 _ (xi y1 :: []) f2
      refine x_pop rfl ?_
      refine x_goto (t := 644) rfl rfl ?_
      exact K _ _ _ _ _ _ _ _ _ l0 l1 l2 l3 l4 hI2 hF2 (by omega) (by omega)
set_option maxRecDepth 20000 in
theorem xK14 {v0 : Value} {xs : List Int32} {u : Nat × Nat} {Q : zO → zX → Prop} {f : Nat → zE} {lv : zL} {i : Nat} {n : Nat} {cs : List Int} {nms : List (List Int)} {bc dp tk0 : Nat → Int} (hxs : xs.length ≤ 1536) (hi : i + 3 ≤ xs.length) (l0 : zlv lv 0 = some (.ref 0)) (l1 : zlv lv 1 = some (.ref 50)) (l2 : zlv lv 2 = some (.ref 177)) (l3 : zlv lv 3 = some (.ref 203)) (l4 : zlv lv 4 = some (xi (i : Nat))) (hI : xINV f n cs nms bc dp tk0) (hF : xFT f) (K : xKN v0 xs u Q i) : xz v0 xs u Q 177 510 lv [] f := by
  refine x_aload_n rfl l1 ?_
  refine x_aload_n rfl l0 ?_
  refine x_iload rfl l4 ?_
  refine x_iconst rfl ?_
  refine x_iadd rfl ?_
  refine x_gia rfl ⟨by omega, by omega⟩ (by omega) ?_
  refine x_aload_n rfl l0 ?_
  refine x_iload rfl l4 ?_
  refine x_iconst rfl ?_
  refine x_iadd rfl ?_
  refine x_gia rfl ⟨by omega, by omega⟩ (by omega) ?_
  refine x_ifeq (t := 530) rfl rfl ⟨y_lo _, y_hi _⟩ (fun _ => ?_) (fun _ => ?_)
  · refine x_iconst rfl ?_
    obtain ⟨kp0, pt0, h53_0⟩ := (xINV_n hI).2.2.2
    refine x_callT [_, _, _] rfl rfl (show (0 : Nat) ≤ 8 from by decide) (show (3 : Nat) ≤ 4 from by decide) rfl (xH155 hI.1 (xA154 (xINV_n hI).2.2.1 hI.1 h53_0) (by omega)) (fun r0 X0 hq0 => ?_) (fun x0 X0 hq0 => by obtain ⟨_, _, _, e1, -⟩ := hq0; cases e1)
    obtain ⟨z0, f1, u1, e1, e2, hD0, b1, b2⟩ := hq0
    cases e1
    subst e2
    have hI1 := xINV_D hI hD0
    have hF1 := xFT_D hF hD0
    show xz v0 xs u1 Q 177 534 _ (xi z0 :: []) f1
    refine x_istore rfl (show (5 : Nat) < 7 from by decide) ?_
    refine x_aload_n rfl (xst_ne (by decide) l2 (Or.inl rfl)) ?_
    refine x_aload_n rfl (xst_ne (by decide) l0 (Or.inl rfl)) ?_
    refine x_iload rfl (xst_ne (by decide) l4 (Or.inl rfl)) ?_
    refine x_iconst rfl ?_
    refine x_iadd rfl ?_
    refine x_gia rfl ⟨by omega, by omega⟩ (by omega) ?_
    refine x_aload_n rfl (xst_ne (by decide) l0 (Or.inl rfl)) ?_
    refine x_iload rfl (xst_ne (by decide) l4 (Or.inl rfl)) ?_
    refine x_iconst rfl ?_
    refine x_iadd rfl ?_
    refine x_gia rfl ⟨by omega, by omega⟩ (by omega) ?_
    refine x_ifeq (t := 556) rfl rfl ⟨y_lo _, y_hi _⟩ (fun _ => ?_) (fun _ => ?_)
    · refine x_iconst rfl ?_
      obtain ⟨-, -, -, -, ⟨_, _, _, _, _, _, _, _, _, _, _, _, _, _, _, h177_1, -⟩, -⟩ := id hI1
      refine x_call [_, _, _] rfl rfl (show (0 : Nat) ≤ 8 from by decide) (show (3 : Nat) ≤ 5 from by decide) (x_rcv (by decide) h177_1) (xca_q (xA156 hI1.1) (vs := [.ref 177, xi _, xi _]) ⟨ygr, ygt, (ygi (by omega) (by omega) (by omega) (by omega)), trivial⟩) (fun r1 f2 hP1 => ?_)
      obtain ⟨hr1, hD1⟩ := hP1
      have hI2 := xINV_D hI1 hD1
      have hF2 := xFT_D hF1 hD1
      match r1, hr1 with
      | none, _ =>
        show xz v0 xs u1 Q 177 560 _ [] f2
        refine x_goto (t := 644) rfl rfl ?_
        exact K _ _ _ _ _ _ _ _ _ (xst_ne (by decide) l0 (Or.inl rfl)) (xst_ne (by decide) l1 (Or.inl rfl)) (xst_ne (by decide) l2 (Or.inl rfl)) (xst_ne (by decide) l3 (Or.inl rfl)) (xst_ne (by decide) l4 (Or.inl rfl)) hI2 hF2 b1 b2
    · refine x_iconst rfl ?_
      refine x_goto (t := 557) rfl rfl ?_
      obtain ⟨-, -, -, -, ⟨_, _, _, _, _, _, _, _, _, _, _, _, _, _, _, h177_1, -⟩, -⟩ := id hI1
      refine x_call [_, _, _] rfl rfl (show (0 : Nat) ≤ 8 from by decide) (show (3 : Nat) ≤ 5 from by decide) (x_rcv (by decide) h177_1) (xca_q (xA156 hI1.1) (vs := [.ref 177, xi _, xi _]) ⟨ygr, ygt, (ygi (by omega) (by omega) (by omega) (by omega)), trivial⟩) (fun r1 f2 hP1 => ?_)
      obtain ⟨hr1, hD1⟩ := hP1
      have hI2 := xINV_D hI1 hD1
      have hF2 := xFT_D hF1 hD1
      match r1, hr1 with
      | none, _ =>
        show xz v0 xs u1 Q 177 560 _ [] f2
        refine x_goto (t := 644) rfl rfl ?_
        exact K _ _ _ _ _ _ _ _ _ (xst_ne (by decide) l0 (Or.inl rfl)) (xst_ne (by decide) l1 (Or.inl rfl)) (xst_ne (by decide) l2 (Or.inl rfl)) (xst_ne (by decide) l3 (Or.inl rfl)) (xst_ne (by decide) l4 (Or.inl rfl)) hI2 hF2 b1 b2
  · refine x_iconst rfl ?_
    refine x_goto (t := 531) rfl rfl ?_
    obtain ⟨kp0, pt0, h53_0⟩ := (xINV_n hI).2.2.2
    refine x_callT [_, _, _] rfl rfl (show (0 : Nat) ≤ 8 from by decide) (show (3 : Nat) ≤ 4 from by decide) rfl (xH155 hI.1 (xA154 (xINV_n hI).2.2.1 hI.1 h53_0) (by omega)) (fun r0 X0 hq0 => ?_) (fun x0 X0 hq0 => by obtain ⟨_, _, _, e1, -⟩ := hq0; cases e1)
    obtain ⟨z0, f1, u1, e1, e2, hD0, b1, b2⟩ := hq0
    cases e1
    subst e2
    have hI1 := xINV_D hI hD0
    have hF1 := xFT_D hF hD0
    show xz v0 xs u1 Q 177 534 _ (xi z0 :: []) f1
    refine x_istore rfl (show (5 : Nat) < 7 from by decide) ?_
    refine x_aload_n rfl (xst_ne (by decide) l2 (Or.inl rfl)) ?_
    refine x_aload_n rfl (xst_ne (by decide) l0 (Or.inl rfl)) ?_
    refine x_iload rfl (xst_ne (by decide) l4 (Or.inl rfl)) ?_
    refine x_iconst rfl ?_
    refine x_iadd rfl ?_
    refine x_gia rfl ⟨by omega, by omega⟩ (by omega) ?_
    refine x_aload_n rfl (xst_ne (by decide) l0 (Or.inl rfl)) ?_
    refine x_iload rfl (xst_ne (by decide) l4 (Or.inl rfl)) ?_
    refine x_iconst rfl ?_
    refine x_iadd rfl ?_
    refine x_gia rfl ⟨by omega, by omega⟩ (by omega) ?_
    refine x_ifeq (t := 556) rfl rfl ⟨y_lo _, y_hi _⟩ (fun _ => ?_) (fun _ => ?_)
    · refine x_iconst rfl ?_
      obtain ⟨-, -, -, -, ⟨_, _, _, _, _, _, _, _, _, _, _, _, _, _, _, h177_1, -⟩, -⟩ := id hI1
      refine x_call [_, _, _] rfl rfl (show (0 : Nat) ≤ 8 from by decide) (show (3 : Nat) ≤ 5 from by decide) (x_rcv (by decide) h177_1) (xca_q (xA156 hI1.1) (vs := [.ref 177, xi _, xi _]) ⟨ygr, ygt, (ygi (by omega) (by omega) (by omega) (by omega)), trivial⟩) (fun r1 f2 hP1 => ?_)
      obtain ⟨hr1, hD1⟩ := hP1
      have hI2 := xINV_D hI1 hD1
      have hF2 := xFT_D hF1 hD1
      match r1, hr1 with
      | none, _ =>
        show xz v0 xs u1 Q 177 560 _ [] f2
        refine x_goto (t := 644) rfl rfl ?_
        exact K _ _ _ _ _ _ _ _ _ (xst_ne (by decide) l0 (Or.inl rfl)) (xst_ne (by decide) l1 (Or.inl rfl)) (xst_ne (by decide) l2 (Or.inl rfl)) (xst_ne (by decide) l3 (Or.inl rfl)) (xst_ne (by decide) l4 (Or.inl rfl)) hI2 hF2 b1 b2
    · refine x_iconst rfl ?_
      refine x_goto (t := 557) rfl rfl ?_
      obtain ⟨-, -, -, -, ⟨_, _, _, _, _, _, _, _, _, _, _, _, _, _, _, h177_1, -⟩, -⟩ := id hI1
      refine x_call [_, _, _] rfl rfl (show (0 : Nat) ≤ 8 from by decide) (show (3 : Nat) ≤ 5 from by decide) (x_rcv (by decide) h177_1) (xca_q (xA156 hI1.1) (vs := [.ref 177, xi _, xi _]) ⟨ygr, ygt, (ygi (by omega) (by omega) (by omega) (by omega)), trivial⟩) (fun r1 f2 hP1 => ?_)
      obtain ⟨hr1, hD1⟩ := hP1
      have hI2 := xINV_D hI1 hD1
      have hF2 := xFT_D hF1 hD1
      match r1, hr1 with
      | none, _ =>
        show xz v0 xs u1 Q 177 560 _ [] f2
        refine x_goto (t := 644) rfl rfl ?_
        exact K _ _ _ _ _ _ _ _ _ (xst_ne (by decide) l0 (Or.inl rfl)) (xst_ne (by decide) l1 (Or.inl rfl)) (xst_ne (by decide) l2 (Or.inl rfl)) (xst_ne (by decide) l3 (Or.inl rfl)) (xst_ne (by decide) l4 (Or.inl rfl)) hI2 hF2 b1 b2
set_option maxRecDepth 20000 in
theorem xK15 {v0 : Value} {xs : List Int32} {u : Nat × Nat} {Q : zO → zX → Prop} {f : Nat → zE} {lv : zL} {i : Nat} {n : Nat} {cs : List Int} {nms : List (List Int)} {bc dp tk0 : Nat → Int} (hxs : xs.length ≤ 1536) (hi : i + 3 ≤ xs.length) (l0 : zlv lv 0 = some (.ref 0)) (l1 : zlv lv 1 = some (.ref 50)) (l2 : zlv lv 2 = some (.ref 177)) (l3 : zlv lv 3 = some (.ref 203)) (l4 : zlv lv 4 = some (xi (i : Nat))) (hI : xINV f n cs nms bc dp tk0) (hF : xFT f) (K : xKN v0 xs u Q i) : xz v0 xs u Q 177 563 lv [] f := by
  refine x_aload_n rfl l1 ?_
  obtain ⟨dd0, lf0, lc0, h50_0, -⟩ := xINV_50 hI.1
  refine x_call [_] rfl rfl (show (0 : Nat) ≤ 8 from by decide) (show (1 : Nat) ≤ 1 from by decide) (x_rcv (by decide) h50_0) (xca_q (xA163 (xINV_n hI).2.2.1 (xINV_n hI).1 (xINV_n hI).2.1) (vs := [.ref 50]) ⟨ygr, trivial⟩) (fun r0 f1 hP0 => ?_)
  obtain ⟨hr0, hD0⟩ := hP0
  have hI1 := xINV_D hI hD0
  have hF1 := xFT_D hF hD0
  match r0, hr0 with
  | none, hr => exact hr.elim
  | some v, hr =>
    obtain ⟨y0, rfl, -, -⟩ := yg_i hr
    show xz v0 xs u Q 177 567 _ (xi y0 :: []) f1
    refine x_pop rfl ?_
    refine x_aload_n rfl l2 ?_
    obtain ⟨-, -, -, -, ⟨_, _, _, _, _, _, _, _, _, _, _, _, _, _, _, h177_1, -⟩, -⟩ := id hI1
    refine x_call [_] rfl rfl (show (0 : Nat) ≤ 8 from by decide) (show (1 : Nat) ≤ 2 from by decide) (x_rcv (by decide) h177_1) (xca_q (xA168 hI1.1) (vs := [.ref 177]) ⟨ygr, trivial⟩) (fun r1 f2 hP1 => ?_)
    obtain ⟨hr1, hD1⟩ := hP1
    have hI2 := xINV_D hI1 hD1
    have hF2 := xFT_D hF1 hD1
    match r1, hr1 with
    | none, hr => exact hr.elim
    | some v, hr =>
      obtain ⟨y1, rfl, -, -⟩ := yg_i hr
      show xz v0 xs u Q 177 572 _ (xi y1 :: []) f2
      refine x_pop rfl ?_
      refine x_goto (t := 644) rfl rfl ?_
      exact K _ _ _ _ _ _ _ _ _ l0 l1 l2 l3 l4 hI2 hF2 (by omega) (by omega)
set_option maxRecDepth 20000 in
theorem xK16 {v0 : Value} {xs : List Int32} {u : Nat × Nat} {Q : zO → zX → Prop} {f : Nat → zE} {lv : zL} {i : Nat} {n : Nat} {cs : List Int} {nms : List (List Int)} {bc dp tk0 : Nat → Int} (hxs : xs.length ≤ 1536) (hi : i + 3 ≤ xs.length) (l0 : zlv lv 0 = some (.ref 0)) (l1 : zlv lv 1 = some (.ref 50)) (l2 : zlv lv 2 = some (.ref 177)) (l3 : zlv lv 3 = some (.ref 203)) (l4 : zlv lv 4 = some (xi (i : Nat))) (hI : xINV f n cs nms bc dp tk0) (hF : xFT f) (K : xKN v0 xs u Q i) : xz v0 xs u Q 177 576 lv [] f := by
  refine x_aload_n rfl l1 ?_
  refine x_aload_n rfl l0 ?_
  refine x_iload rfl l4 ?_
  refine x_iconst rfl ?_
  refine x_iadd rfl ?_
  refine x_gia rfl ⟨by omega, by omega⟩ (by omega) ?_
  refine x_aload_n rfl l3 ?_
  refine x_callT [_, _, _] rfl rfl (show (0 : Nat) ≤ 8 from by decide) (show (3 : Nat) ≤ 4 from by decide) rfl (xH170 hI.1 (xA169 hI.1)) (fun r0 X0 hq0 => ?_) (fun x0 X0 hq0 => by obtain ⟨_, _, _, e1, -⟩ := hq0; cases e1)
  obtain ⟨z0, f1, u1, e1, e2, hD0, b1, b2⟩ := hq0
  cases e1
  subst e2
  have hI1 := xINV_D hI hD0
  have hF1 := xFT_D hF hD0
  show xz v0 xs u1 Q 177 587 _ (xi z0 :: []) f1
  refine x_istore rfl (show (5 : Nat) < 7 from by decide) ?_
  refine x_aload_n rfl (xst_ne (by decide) l2 (Or.inl rfl)) ?_
  refine x_aload_n rfl (xst_ne (by decide) l0 (Or.inl rfl)) ?_
  refine x_iload rfl (xst_ne (by decide) l4 (Or.inl rfl)) ?_
  refine x_iconst rfl ?_
  refine x_iadd rfl ?_
  refine x_gia rfl ⟨by omega, by omega⟩ (by omega) ?_
  obtain ⟨-, -, -, -, ⟨_, _, _, _, _, _, _, _, _, _, _, _, _, _, _, h177_1, -⟩, -⟩ := id hI1
  refine x_call [_, _] rfl rfl (show (0 : Nat) ≤ 8 from by decide) (show (2 : Nat) ≤ 2 from by decide) (x_rcv (by decide) h177_1) (xca_q (xA171 hI1.1) (vs := [.ref 177, xi _]) ⟨ygr, ygt, trivial⟩) (fun r1 f2 hP1 => ?_)
  obtain ⟨hr1, hD1⟩ := hP1
  have hI2 := xINV_D hI1 hD1
  have hF2 := xFT_D hF1 hD1
  match r1, hr1 with
  | none, hr => exact hr.elim
  | some v, hr =>
    obtain ⟨y1, rfl, -, -⟩ := yg_i hr
    show xz v0 xs u1 Q 177 599 _ (xi y1 :: []) f2
    refine x_istore rfl (show (6 : Nat) < 7 from by decide) ?_
    refine x_goto (t := 644) rfl rfl ?_
    exact K _ _ _ _ _ _ _ _ _ (xst_ne (by decide) (xst_ne (by decide) l0 (Or.inl rfl)) (Or.inl rfl)) (xst_ne (by decide) (xst_ne (by decide) l1 (Or.inl rfl)) (Or.inl rfl)) (xst_ne (by decide) (xst_ne (by decide) l2 (Or.inl rfl)) (Or.inl rfl)) (xst_ne (by decide) (xst_ne (by decide) l3 (Or.inl rfl)) (Or.inl rfl)) (xst_ne (by decide) (xst_ne (by decide) l4 (Or.inl rfl)) (Or.inl rfl)) hI2 hF2 b1 b2
set_option maxRecDepth 20000 in
theorem xK17 {v0 : Value} {xs : List Int32} {u : Nat × Nat} {Q : zO → zX → Prop} {f : Nat → zE} {lv : zL} {i : Nat} {n : Nat} {cs : List Int} {nms : List (List Int)} {bc dp tk0 : Nat → Int} (hxs : xs.length ≤ 1536) (hi : i + 3 ≤ xs.length) (l0 : zlv lv 0 = some (.ref 0)) (l1 : zlv lv 1 = some (.ref 50)) (l2 : zlv lv 2 = some (.ref 177)) (l3 : zlv lv 3 = some (.ref 203)) (l4 : zlv lv 4 = some (xi (i : Nat))) (hI : xINV f n cs nms bc dp tk0) (hF : xFT f) (K : xKN v0 xs u Q i) : xz v0 xs u Q 177 604 lv [] f := by
  refine x_aload_n rfl l1 ?_
  refine x_aload_n rfl l0 ?_
  refine x_iload rfl l4 ?_
  refine x_iconst rfl ?_
  refine x_iadd rfl ?_
  refine x_gia rfl ⟨by omega, by omega⟩ (by omega) ?_
  refine x_aload_n rfl l0 ?_
  refine x_iload rfl l4 ?_
  refine x_iconst rfl ?_
  refine x_iadd rfl ?_
  refine x_gia rfl ⟨by omega, by omega⟩ (by omega) ?_
  refine x_aload_n rfl l3 ?_
  refine x_callT [_, _, _, _] rfl rfl (show (0 : Nat) ≤ 8 from by decide) (show (4 : Nat) ≤ 5 from by decide) rfl (xH174 hI.1 (xA173 (xINV_n hI).2.2.1 (xINV_n hI).1 (xINV_n hI).2.1)) (fun r0 X0 hq0 => ?_) (fun x0 X0 hq0 => by obtain ⟨_, _, _, e1, -⟩ := hq0; cases e1)
  obtain ⟨z0, f1, u1, e1, e2, hD0, b1, b2⟩ := hq0
  cases e1
  subst e2
  have hI1 := xINV_D hI hD0
  have hF1 := xFT_D hF hD0
  show xz v0 xs u1 Q 177 621 _ (xi z0 :: []) f1
  refine x_istore rfl (show (5 : Nat) < 7 from by decide) ?_
  refine x_aload_n rfl (xst_ne (by decide) l2 (Or.inl rfl)) ?_
  refine x_aload_n rfl (xst_ne (by decide) l0 (Or.inl rfl)) ?_
  refine x_iload rfl (xst_ne (by decide) l4 (Or.inl rfl)) ?_
  refine x_iconst rfl ?_
  refine x_iadd rfl ?_
  refine x_gia rfl ⟨by omega, by omega⟩ (by omega) ?_
  refine x_aload_n rfl (xst_ne (by decide) l0 (Or.inl rfl)) ?_
  refine x_iload rfl (xst_ne (by decide) l4 (Or.inl rfl)) ?_
  refine x_iconst rfl ?_
  refine x_iadd rfl ?_
  refine x_gia rfl ⟨by omega, by omega⟩ (by omega) ?_
  obtain ⟨-, -, -, -, ⟨_, _, _, _, _, _, _, _, _, _, _, _, _, _, _, h177_1, -⟩, -⟩ := id hI1
  refine x_call [_, _, _] rfl rfl (show (0 : Nat) ≤ 8 from by decide) (show (3 : Nat) ≤ 9 from by decide) (x_rcv (by decide) h177_1) (xca_q (xA176 hI1.1) (vs := [.ref 177, xi _, xi _]) ⟨ygr, ygt, ygt, trivial⟩) (fun r1 f2 hP1 => ?_)
  obtain ⟨hr1, hD1⟩ := hP1
  have hI2 := xINV_D hI1 hD1
  have hF2 := xFT_D hF1 hD1
  match r1, hr1 with
  | none, hr => exact hr.elim
  | some v, hr =>
    obtain ⟨y1, rfl, -, -⟩ := yg_i hr
    show xz v0 xs u1 Q 177 639 _ (xi y1 :: []) f2
    refine x_istore rfl (show (6 : Nat) < 7 from by decide) ?_
    refine x_goto (t := 644) rfl rfl ?_
    exact K _ _ _ _ _ _ _ _ _ (xst_ne (by decide) (xst_ne (by decide) l0 (Or.inl rfl)) (Or.inl rfl)) (xst_ne (by decide) (xst_ne (by decide) l1 (Or.inl rfl)) (Or.inl rfl)) (xst_ne (by decide) (xst_ne (by decide) l2 (Or.inl rfl)) (Or.inl rfl)) (xst_ne (by decide) (xst_ne (by decide) l3 (Or.inl rfl)) (Or.inl rfl)) (xst_ne (by decide) (xst_ne (by decide) l4 (Or.inl rfl)) (Or.inl rfl)) hI2 hF2 b1 b2
def xCW (g : Int64) (n : Nat) (cs : List Int) (f f1 : Nat → zE) (z : Int) : Prop := (¬ xfits g (n : Nat) ∧ z = 0 ∧ f1 = f) ∨ (xfits g (n : Nat) ∧ z = 1 ∧ f1 51 = .inl (1, [.ref 52, xi ((n : Nat) + xcn g 8)]) ∧ f1 52 = xr 1 (xwr g (n : Nat) cs 8) ∧ ∀ p, p ≠ 51 → p ≠ 52 → f1 p = f p)
theorem xK0a {v0 : Value} {xs : List Int32} {u : Nat × Nat} {Q : zO → zX → Prop} {f : Nat → zE} {lv : zL} {n : Nat} {cs : List Int} {nms : List (List Int)} {bc dp tk0 : Nat → Int} {g : Int64} (hI : xINV f n cs nms bc dp tk0) (k : ∀ (z : Int) (f1 : Nat → zE), xCW g n cs f f1 z → xz v0 xs u Q 177 150 lv [xi z] f1) : xz v0 xs u Q 177 147 lv [.long g, .ref 50] f := by
  obtain ⟨hM, ⟨t1, t2, t3, t4, t5, t6⟩, -⟩ := hI
  obtain ⟨dd, lf, lc, h50, -⟩ := xINV_50 hM
  refine x_call [_, _] rfl rfl (show (0 : Nat) ≤ 8 from by decide) (show (3 : Nat) ≤ 3 from by decide) (x_rcv (by decide) h50) (xs_20 h50 t4 t5 (by omega) t2) (fun r1 f1 hP => ?_)
  rcases hP with ⟨rfl, b, c⟩ | ⟨rfl, b⟩
  · exact k 0 f1 (Or.inl ⟨b, rfl, c⟩)
  · exact k 1 f1 (Or.inr ⟨b.1, rfl, b.2⟩)
theorem xK0b {v0 : Value} {xs : List Int32} {u : Nat × Nat} {Q : zO → zX → Prop} {f f1 : Nat → zE} {lv : zL} {i : Nat} {n : Nat} {cs : List Int} {nms : List (List Int)} {bc dp tk0 : Nat → Int} {g : Int64} {z : Int} (l0 : zlv lv 0 = some (.ref 0)) (l1 : zlv lv 1 = some (.ref 50)) (l2 : zlv lv 2 = some (.ref 177)) (l3 : zlv lv 3 = some (.ref 203)) (l4 : zlv lv 4 = some (xi (i : Nat))) (hI : xINV f n cs nms bc dp tk0) (hF : xFT f) (K : xKN v0 xs u Q i) (hP : xCW g n cs f f1 z) : xz v0 xs u Q 177 174 lv [.long g, .ref 177] f1 := by
  obtain ⟨hM, ⟨t1, t2, t3, t4, t5, t6⟩, -, -, ⟨cd, fa, ki, be, en, wo, nu, pa0, op, q, nl, m0, d0, tmM, oaM, k177, -⟩, -⟩ := id hI
  have P1 : ∀ p, p ≠ 51 → p ≠ 52 → f1 p = f p := by
    rcases hP with ⟨-, -, rfl⟩ | ⟨-, -, -, -, h⟩
    · exact fun _ _ _ => rfl
    · exact h
  refine x_call [_, _] rfl rfl (show (0 : Nat) ≤ 8 from by decide) (show (3 : Nat) ≤ 6 from by decide) (x_rcv (by decide) ((P1 177 (by decide) (by decide)).trans k177)) (xs_21 (by omega) t2 ((P1 177 (by decide) (by decide)).trans k177) ((P1 178 (by decide) (by decide)).trans t6)) (fun r2 f2 hP2 => ?_)
  rcases hP2 with ⟨rfl, hnf, h177, hfr⟩ | ⟨rfl, hf, h177, h178, hfr⟩
  · rcases hP with ⟨-, rfl, rfl⟩ | ⟨hf, -⟩
    · show xz v0 xs u Q 177 177 lv [xi 0] f2
      refine x_pop rfl ?_
      refine x_goto (t := 644) rfl rfl ?_
      exact K _ _ _ _ _ _ _ _ _ l0 l1 l2 l3 l4 (xINV_tx (n' := n) (cs' := cs) hI t1 t2 t3 ((hfr 51 (by decide)).trans t4) ((hfr 52 (by decide)).trans t5) ((hfr 178 (by decide)).trans t6) ⟨0, _, k177, h177⟩ (fun p _ _ h _ => hfr p h)) (xFT_tx (v := xi 0) (w := xi (n : Nat)) hF (hfr 50 (by decide)) k177 h177) (by omega) (by omega)
    · exact absurd hf hnf
  · rcases hP with ⟨hnf, -⟩ | ⟨-, rfl, h51, h52, -⟩
    · exact absurd hf hnf
    · show xz v0 xs u Q 177 177 lv [xi 1] f2
      refine x_pop rfl ?_
      refine x_goto (t := 644) rfl rfl ?_
      have hcn := xcn_rg g 8
      obtain ⟨m, hm⟩ : ∃ m : Nat, (m : Int) = (n : Nat) + xcn g 8 := ⟨((n : Nat) + xcn g 8).toNat, by omega⟩
      rw [← hm] at h51 h177
      have hf2 := hf.2
      exact K _ _ _ _ _ _ _ _ _ l0 l1 l2 l3 l4 (xINV_tx (n' := m) (cs' := xwr g (n : Nat) cs 8) hI (by omega) (by rw [xwr_len]; exact t2) (xwr_rg t3 8 hf.1) ((hfr 51 (by decide) (by decide)).trans h51) ((hfr 52 (by decide) (by decide)).trans h52) h178 ⟨0, _, k177, h177⟩ (fun p h1 h2 h3 h4 => (hfr p h3 h4).trans (P1 p h1 h2))) (xFT_tx (v := xi 0) (w := xi (m : Nat)) hF ((hfr 50 (by decide) (by decide)).trans (P1 50 (by decide) (by decide))) k177 h177) (by omega) (by omega)
set_option maxRecDepth 20000 in
theorem xK0 {v0 : Value} {xs : List Int32} {u : Nat × Nat} {Q : zO → zX → Prop} {f : Nat → zE} {lv : zL} {i : Nat} {n : Nat} {cs : List Int} {nms : List (List Int)} {bc dp tk0 : Nat → Int} (hxs : xs.length ≤ 1536) (hi : i + 3 ≤ xs.length) (l0 : zlv lv 0 = some (.ref 0)) (l1 : zlv lv 1 = some (.ref 50)) (l2 : zlv lv 2 = some (.ref 177)) (l3 : zlv lv 3 = some (.ref 203)) (l4 : zlv lv 4 = some (xi (i : Nat))) (hI : xINV f n cs nms bc dp tk0) (hF : xFT f) (K : xKN v0 xs u Q i) : xz v0 xs u Q 177 124 lv [] f := by
  refine x_aload_n rfl l1 ?_
  refine x_aload_n rfl l0 ?_
  refine x_iload rfl l4 ?_
  refine x_iconst rfl ?_
  refine x_iadd rfl ?_
  refine x_gia rfl ⟨by omega, by omega⟩ (by omega) ?_
  refine x_i2l rfl ?_
  refine x_bipush rfl (by decide) ?_
  refine x_lshl rfl ?_
  refine x_aload_n rfl l0 ?_
  refine x_iload rfl l4 ?_
  refine x_iconst rfl ?_
  refine x_iadd rfl ?_
  refine x_gia rfl ⟨by omega, by omega⟩ (by omega) ?_
  refine x_i2l rfl ?_
  refine x_ldc2 rfl ?_
  refine x_land rfl ?_
  refine x_lor rfl ?_
  refine xK0a hI (fun z f1 hP => ?_)
  refine x_pop rfl ?_
  refine x_aload_n rfl l2 ?_
  refine x_aload_n rfl l0 ?_
  refine x_iload rfl l4 ?_
  refine x_iconst rfl ?_
  refine x_iadd rfl ?_
  refine x_gia rfl ⟨by omega, by omega⟩ (by omega) ?_
  refine x_i2l rfl ?_
  refine x_bipush rfl (by decide) ?_
  refine x_lshl rfl ?_
  refine x_aload_n rfl l0 ?_
  refine x_iload rfl l4 ?_
  refine x_iconst rfl ?_
  refine x_iadd rfl ?_
  refine x_gia rfl ⟨by omega, by omega⟩ (by omega) ?_
  refine x_i2l rfl ?_
  refine x_ldc2 rfl ?_
  refine x_land rfl ?_
  refine x_lor rfl ?_
  exact xK0b l0 l1 l2 l3 l4 hI hF K hP
set_option maxRecDepth 20000 in
theorem xK1 {v0 : Value} {xs : List Int32} {u : Nat × Nat} {Q : zO → zX → Prop} {f : Nat → zE} {lv : zL} {i : Nat} {n : Nat} {cs : List Int} {nms : List (List Int)} {bc dp tk0 : Nat → Int} (hxs : xs.length ≤ 1536) (hi : i + 3 ≤ xs.length) (l0 : zlv lv 0 = some (.ref 0)) (l1 : zlv lv 1 = some (.ref 50)) (l2 : zlv lv 2 = some (.ref 177)) (l3 : zlv lv 3 = some (.ref 203)) (l4 : zlv lv 4 = some (xi (i : Nat))) (hI : xINV f n cs nms bc dp tk0) (hF : xFT f) (K : xKN v0 xs u Q i) : xz v0 xs u Q 177 181 lv [] f := by
  obtain ⟨hM, ⟨t1, t2, t3, t4, t5, t6⟩, -, -, ⟨cd, fa, ki, be, en, wo, nu, pa0, op, q, nl, m0, d0, tmM, oaM, k177, -⟩, -⟩ := id hI
  obtain ⟨dd, lf, lc, h50, -⟩ := xINV_50 hM
  refine x_aload_n rfl l1 ?_
  refine x_call [_] rfl rfl (show (0 : Nat) ≤ 8 from by decide) (show (1 : Nat) ≤ 1 from by decide) (x_rcv (by decide) h50) (xs_23 h50 t4) (fun r1 f1 hP => ?_)
  obtain ⟨rfl, rfl⟩ := hP
  show xz v0 xs u Q 177 185 lv [xi (n : Nat)] _
  refine x_pop rfl ?_
  refine x_aload_n rfl l2 ?_
  refine x_call [_] rfl rfl (show (0 : Nat) ≤ 8 from by decide) (show (1 : Nat) ≤ 2 from by decide) (x_rcv (by decide) (xu_ne (by decide) k177)) (xs_24 (xu_ne (by decide) k177)) (fun r2 f2 hP => ?_)
  obtain ⟨rfl, h177, hfr⟩ := hP
  show xz v0 xs u Q 177 190 lv [xi (n : Nat)] f2
  refine x_pop rfl ?_
  refine x_goto (t := 644) rfl rfl ?_
  exact K _ _ _ _ _ _ _ _ _ l0 l1 l2 l3 l4 (xINV_tx (n' := 0) (cs' := cs) hI (by omega) t2 t3 ((hfr 51 (by decide)).trans xu_eq) ((hfr 52 (by decide)).trans (xu_ne (by decide) t5)) ((hfr 178 (by decide)).trans (xu_ne (by decide) t6)) ⟨0, _, k177, h177⟩ (fun p h1 _ h3 _ => (hfr p h3).trans (xu_ne h1 rfl))) (xFT_tx (v := xi 0) (w := xi 0) hF ((hfr 50 (by decide)).trans (xu_ne (by decide) rfl)) k177 h177) (by omega) (by omega)
/-! beats, both sides. -/
theorem x_callU {v0 : Value} {xs : List Int32} {u : Nat × Nat} {Q : zO → zX → Prop} {mi pc b : Nat} {v : Value} {lv : zL} {f : Nat → zE} {r : List Value} {i : Instr} {Q2 : zO → zX → Prop} (as : List Value) (hc : zcd (zt v0) mi pc = some (i, 0, b, as.length, v)) (hki : zki i = 2) (h8 : zcat r ≤ 8) (hn : zcat as ≤ znl (zt v0) b) (hrc : zrcv (zG xs) (xh f, u) v as.reverse = true) (hs : zwp (zt v0) (zG xs) b 0 (lv_args 0 as.reverse) [] (xh f, u) Q2)
    (k1 : ∀ r' X', Q2 (.inl r') X' → zwp (zt v0) (zG xs) mi (pc + 3) lv (r'.toList ++ r) X' Q) (k2 : ∀ x X', Q2 (.inr x) X' → zhn (zt v0) mi pc x = none ∧ Q (.inr x) X') : xz v0 xs u Q mi pc lv (as ++ r) f := by
  obtain ⟨z1, z2, z3, z4, z5⟩ := zk_za (G := zG xs) (df := zdf (zt v0)) (a := 0) (b := b) (c := as.length) (v := v) (nL := znl (zt v0) mi) (pc := pc) (lv := lv) (st := as ++ r) (X := (xh f, u)) hki
  have e1 : (as ++ r).take as.length = as := List.take_left
  have e2 : (as ++ r).drop as.length = r := List.drop_left
  refine zwp_call ⟨hc, z1, z2, z3⟩ z4 hki ⟨rfl, by simp, by rw [e2]; exact h8, by rw [e1]; exact hn, by rw [e1]; exact hrc⟩ ?_
  rw [e1, e2]
  refine zwp_mono hs fun o X' hq => ?_
  cases o with
  | inl r' => exact k1 r' X' hq
  | inr x => exact Or.inl (k2 x X' hq)
theorem xs_85 {v0 : Value} {xs : List Int32} {u : Nat × Nat} {f : Nat → zE} {c : Nat} {kp pt z : Int} (hc : c ≤ 12) (hz : -2147483648 ≤ z ∧ z ≤ 2147483647) (h53 : f 53 = xbo (c : Nat) kp pt) : xq v0 xs u 85 [(0, .ref 53), (1, xi z)] f (fun r f' => f' = f ∧ ((r = some (xi 1) ∧ 0 ≤ z ∧ z < (c : Nat)) ∨ (r = some (xi 0) ∧ ¬ (0 ≤ z ∧ z < (c : Nat))))) := by
  unfold xq
  refine x_iload_n rfl rfl ?_
  refine x_iflt (t := 16) rfl rfl hz (fun h => ?_) (fun h => ?_)
  · refine x_iconst rfl ?_
    exact x_ireturn rfl (Or.inr (Or.inl ⟨rfl, by decide⟩)) ⟨_, _, rfl, rfl, rfl, Or.inr ⟨rfl, by omega⟩⟩
  · refine x_iload_n rfl rfl ?_
    refine x_aload_n rfl rfl ?_
    refine x_getfield rfl (by decide) h53 rfl ?_
    refine x_cge (t := 16) rfl rfl hz ⟨by omega, by omega⟩ (fun h2 => ?_) (fun h2 => ?_)
    · refine x_iconst rfl ?_
      exact x_ireturn rfl (Or.inr (Or.inl ⟨rfl, by decide⟩)) ⟨_, _, rfl, rfl, rfl, Or.inr ⟨rfl, by omega⟩⟩
    · refine x_iconst rfl ?_
      refine x_goto (t := 17) rfl rfl ?_
      exact x_ireturn rfl (Or.inr (Or.inl ⟨rfl, by decide⟩)) ⟨_, _, rfl, rfl, rfl, Or.inl ⟨rfl, by omega, by omega⟩⟩
theorem xs_89 {v0 : Value} {xs : List Int32} {u : Nat × Nat} {f : Nat → zE} {c : Nat} {z : Int} {fs : List Value} (hc : c ≤ 12) (hz : -2147483648 ≤ z ∧ z ≤ 2147483647) (h177 : f 177 = .inl (10, fs)) (h9 : fs[9]? = some (xi (c : Nat))) : xq v0 xs u 89 [(0, .ref 177), (1, xi z)] f (fun r f' => f' = f ∧ ((r = some (xi 1) ∧ 0 ≤ z ∧ z < (c : Nat)) ∨ (r = some (xi 0) ∧ ¬ (0 ≤ z ∧ z < (c : Nat))))) := by
  unfold xq
  refine x_iload_n rfl rfl ?_
  refine x_iflt (t := 16) rfl rfl hz (fun h => ?_) (fun h => ?_)
  · refine x_iconst rfl ?_
    exact x_ireturn rfl (Or.inr (Or.inl ⟨rfl, by decide⟩)) ⟨_, _, rfl, rfl, rfl, Or.inr ⟨rfl, by omega⟩⟩
  · refine x_iload_n rfl rfl ?_
    refine x_aload_n rfl rfl ?_
    refine x_getfield rfl (by decide) h177 h9 ?_
    refine x_cge (t := 16) rfl rfl hz ⟨by omega, by omega⟩ (fun h2 => ?_) (fun h2 => ?_)
    · refine x_iconst rfl ?_
      exact x_ireturn rfl (Or.inr (Or.inl ⟨rfl, by decide⟩)) ⟨_, _, rfl, rfl, rfl, Or.inr ⟨rfl, by omega⟩⟩
    · refine x_iconst rfl ?_
      refine x_goto (t := 17) rfl rfl ?_
      exact x_ireturn rfl (Or.inr (Or.inl ⟨rfl, by decide⟩)) ⟨_, _, rfl, rfl, rfl, Or.inl ⟨rfl, by omega, by omega⟩⟩
theorem xs_86 {v0 : Value} {xs : List Int32} {u : Nat × Nat} {Q : zO → zX → Prop} {f : Nat → zE} {c : Nat} {kp pt z : Int} {dd lf lc : Value} (hc : c ≤ 12) (hz : -2147483648 ≤ z ∧ z ≤ 2147483647) (h50 : f 50 = xfc dd lf lc) (h53 : f 53 = xbo (c : Nat) kp pt) (k1 : 0 ≤ z → z < (c : Nat) → Q (.inl none) (xh f, u)) (k2 : ¬ (0 ≤ z ∧ z < (c : Nat)) → Q (.inr 100) (xh f, u.1 + 1, u.2 + 6)) : xz v0 xs u Q 86 0 [(0, .ref 50), (1, xi z)] [] f := by
  refine x_aload_n rfl rfl ?_
  refine x_getfield rfl (by decide) h50 rfl ?_
  refine x_iload_n rfl rfl ?_
  refine x_call [_, _] rfl rfl (show (0 : Nat) ≤ 8 from by decide) (show (2 : Nat) ≤ 2 from by decide) (x_rcv (by decide) h53) (xs_85 hc hz h53) (fun r' f' hP => ?_)
  obtain ⟨rfl, hP⟩ := hP
  rcases hP with ⟨rfl, h1, h2⟩ | ⟨rfl, h⟩
  · refine x_ifne (t := 21) rfl rfl (by decide) (fun _ => ?_) (fun h => absurd h (by decide))
    exact x_return rfl (k1 h1 h2)
  · refine x_ifne (t := 21) rfl rfl (by decide) (fun h => absurd rfl h) (fun _ => ?_)
    exact x_throw rfl (by decide) rfl (show (0 : Nat) ≤ 4 from by decide) (k2 h)
theorem xs_87 {v0 : Value} {xs : List Int32} {u : Nat × Nat} {Q : zO → zX → Prop} {f : Nat → zE} {c : Nat} {kp pt z : Int} {dd lf lc : Value} {bc : Nat → Int} (hc : c ≤ 12) (hz : -2147483648 ≤ z ∧ z ≤ 2147483647) (h50 : f 50 = xfc dd lf lc) (h53 : f 53 = xbo (c : Nat) kp pt) (h54 : f 54 = .inr (.inr (.inr (3, xfl)))) (hk : ∀ i, i < c → ∃ (nm : Int64) (d al : Value), f (57 + 4 * i) = xfg i nm (xi (bc i)) d al) (k1 : ∀ i : Nat, (i : Int) = z → i < c → Q (.inl (some (xi (bc i)))) (xh f, u)) (k2 : ¬ (0 ≤ z ∧ z < (c : Nat)) → Q (.inr 100) (xh f, u.1 + 1, u.2 + 6)) : xz v0 xs u Q 87 0 [(0, .ref 50), (1, xi z)] [] f := by
  refine x_aload_n rfl rfl ?_
  refine x_iload_n rfl rfl ?_
  refine x_callU [_, _] rfl rfl (show (0 : Nat) ≤ 8 from by decide) (show (2 : Nat) ≤ 2 from by decide) (x_rcv (by decide) h50) (Q2 := fun o X => (o = .inl none ∧ X = (xh f, u) ∧ 0 ≤ z ∧ z < (c : Nat)) ∨ (o = .inr 100 ∧ X = (xh f, u.1 + 1, u.2 + 6) ∧ ¬ (0 ≤ z ∧ z < (c : Nat)))) (xs_86 hc hz h50 h53 (fun h1 h2 => Or.inl ⟨rfl, rfl, h1, h2⟩) (fun h => Or.inr ⟨rfl, rfl, h⟩)) (fun r' X' hq => ?_) (fun x X' hq => ?_)
  · rcases hq with ⟨e1, e2, h1, h2⟩ | ⟨e1, -⟩
    · cases e1
      subst e2
      show xz v0 xs u Q 87 5 _ [] f
      obtain ⟨i, rfl⟩ : ∃ i : Nat, z = (i : Nat) := ⟨z.toNat, by omega⟩
      obtain ⟨nm, d, al, hf⟩ := hk i (by omega)
      refine x_aload_n rfl rfl ?_
      refine x_getfield rfl (by decide) h50 rfl ?_
      refine x_iload_n rfl rfl ?_
      refine x_call [_, _] rfl rfl (show (0 : Nat) ≤ 8 from by decide) (show (2 : Nat) ≤ 2 from by decide) (x_rcv (by decide) h53) (xs_44 (by omega) h53 h54) (fun r' f' hP => ?_)
      obtain ⟨rfl, rfl⟩ := hP
      refine x_getfield rfl (by omega) hf rfl ?_
      exact x_ireturn rfl (Or.inl rfl) (k1 i rfl (by omega))
    · cases e1
  · rcases hq with ⟨e1, -⟩ | ⟨e1, e2, h⟩
    · cases e1
    · cases e1
      subst e2
      exact ⟨rfl, k2 h⟩
def xBQ (f : Nat → zE) (bc : Nat → Int) (c : Nat) (z : Int) (u : Nat × Nat) (o : zO) (X : zX) : Prop := (∃ (i : Nat) (f' : Nat → zE), (i : Int) = z ∧ i < c ∧ o = .inl (some (xi 0)) ∧ X = (xh f', u) ∧ xD f f' ∧ f' 203 = .inr (.inr (.inl [(Int32.ofInt (bc i)).toInt64]))) ∨ (¬ (0 ≤ z ∧ z < (c : Nat)) ∧ o = .inl (some (xi 1)) ∧ X = (xh f, u.1 + 1, u.2 + 6))
theorem xH88b {v0 : Value} {xs : List Int32} {u : Nat × Nat} {f : Nat → zE} {n : Nat} {cs : List Int} {nms : List (List Int)} {bc dp tk0 : Nat → Int} {z : Int} (hz : -2147483648 ≤ z ∧ z ≤ 2147483647) (hI : xINV f n cs nms bc dp tk0) : xz v0 xs u (xBQ f bc nms.length z u) 88 0 [(0, .ref 50), (1, xi z), (2, .ref 203)] [] f := by
  obtain ⟨dd, lf, lc, h50, -⟩ := xINV_50 hI.1
  obtain ⟨l, h203, hl, hw⟩ := xD_203 hI.1
  obtain ⟨g0, rfl⟩ := List.length_eq_one_iff.mp hl
  obtain ⟨kp, pt, h53⟩ := (xINV_n hI).2.2.2
  have hc12 := hI.2.2.1.1
  have hfig : ∀ i, i < nms.length → ∃ (nm : Int64) (d al : Value), f (57 + 4 * i) = xfg i nm (xi (bc i)) d al := by
    intro i hi
    obtain ⟨al, -, -, fp, ep, ta, h, -⟩ := hI.2.2.2.1.2.1 i hi
    exact ⟨_, _, _, h⟩
  refine x_aload_n rfl rfl ?_
  refine x_iconst rfl ?_
  refine x_aload_n rfl rfl ?_
  refine x_iload_n rfl rfl ?_
  refine x_callT [_, _] rfl rfl (show (2 : Nat) ≤ 8 from by decide) (show (2 : Nat) ≤ 2 from by decide) (x_rcv (by decide) h50) (Q2 := fun o X => (∃ i : Nat, (i : Int) = z ∧ i < nms.length ∧ o = .inl (some (xi (bc i))) ∧ X = (xh f, u)) ∨ (¬ (0 ≤ z ∧ z < (nms.length : Nat)) ∧ o = .inr 100 ∧ X = (xh f, u.1 + 1, u.2 + 6))) (xs_87 hc12 hz h50 h53 (xINV_54 hI.1) hfig (fun i h1 h2 => Or.inl ⟨i, h1, h2, rfl, rfl⟩) (fun h => Or.inr ⟨h, rfl, rfl⟩)) (fun r' X' hq => ?_) (fun x X' hq => ?_)
  · rcases hq with ⟨i, h1, h2, e1, e2⟩ | ⟨-, e1, -⟩
    · cases e1
      subst e2
      show xz v0 xs u (xBQ f bc nms.length z u) 88 7 _ [xi (bc i), xi 0, .ref 203] f
      refine x_i2l rfl ?_
      refine x_lastore rfl (by decide) h203 ⟨by omega, by omega⟩ (by omega) ?_
      refine x_goto (t := 15) rfl rfl ?_
      refine x_iconst rfl ?_
      refine x_ireturn rfl (Or.inl rfl) ?_
      exact Or.inl ⟨i, _, h1, h2, rfl, rfl, hw _, xu_eq⟩
    · cases e1
  · rcases hq with ⟨i, -, -, e1, -⟩ | ⟨h, e1, e2⟩
    · cases e1
    · cases e1
      subst e2
      refine ⟨(12, 3), (show zHN 88 4 100 ≠ none from by decide), rfl, ?_⟩
      show xz v0 xs (u.1 + 1, u.2 + 6) (xBQ f bc nms.length z u) 88 13 _ [] f
      refine x_iconst rfl ?_
      exact x_ireturn rfl (Or.inl rfl) (Or.inr ⟨h, rfl, rfl⟩)
theorem xs_90 {v0 : Value} {xs : List Int32} {u : Nat × Nat} {f : Nat → zE} {c : Nat} {z : Int} {cd ty fa ki be en nu pa op : Int} {wo : Int64} {q : Nat → Value} {cn : List Int} (hc : c ≤ 12) (hz : -2147483648 ≤ z ∧ z ≤ 2147483647) (h177 : f 177 = xmo cd ty fa ki be en wo nu (c : Nat) pa op q) (h180 : f 180 = xr 0 cn) (hl : cn.length = 13) : xq v0 xs u 90 [(0, .ref 177), (1, xi z)] f (fun r f' => (∃ i : Nat, (i : Int) = z ∧ i < c ∧ r = some (xi (cn.getD i 0)) ∧ f' = xu f 177 (xmo 0 ty fa ki be en wo nu (c : Nat) pa op q)) ∨ (¬ (0 ≤ z ∧ z < (c : Nat)) ∧ r = some (xi 0) ∧ f' = xu f 177 (xmo 1 ty fa ki be en wo nu (c : Nat) pa op q))) := by
  unfold xq
  refine x_aload_n rfl rfl ?_
  refine x_aload_n rfl rfl ?_
  refine x_iload_n rfl rfl ?_
  refine x_call [_, _] rfl rfl (show (1 : Nat) ≤ 8 from by decide) (show (2 : Nat) ≤ 2 from by decide) (x_rcv (by decide) h177) (xs_89 hc hz h177 rfl) (fun r' f' hP => ?_)
  obtain ⟨rfl, hP⟩ := hP
  rcases hP with ⟨rfl, h1, h2⟩ | ⟨rfl, h⟩
  · refine x_ifeq (t := 13) rfl rfl (by decide) (fun h => absurd h (by decide)) (fun _ => ?_)
    refine x_iconst rfl ?_
    refine x_goto (t := 14) rfl rfl ?_
    refine x_putfield rfl (by decide) h177 (show (0 : Nat) < 41 from by decide) rfl ?_
    refine x_aload_n rfl rfl ?_
    refine x_getfield rfl (by decide) xu_eq rfl ?_
    refine x_ifle (t := 28) rfl rfl (by decide) (fun _ => ?_) (fun h => absurd h (by decide))
    obtain ⟨i, rfl⟩ : ∃ i : Nat, z = (i : Nat) := ⟨z.toNat, by omega⟩
    refine x_aload_n rfl rfl ?_
    refine x_getfield rfl (by decide) xu_eq rfl ?_
    refine x_iload_n rfl rfl ?_
    refine x_iaload rfl (by decide) (xu_ne (by decide) h180) ⟨by omega, by omega⟩ (by omega) ?_
    rw [Int.toNat_natCast]
    exact x_ireturn rfl (Or.inl rfl) ⟨_, _, rfl, rfl, Or.inl ⟨i, rfl, by omega, rfl, rfl⟩⟩
  · refine x_ifeq (t := 13) rfl rfl (by decide) (fun _ => ?_) (fun h => absurd rfl h)
    refine x_iconst rfl ?_
    refine x_putfield rfl (by decide) h177 (show (0 : Nat) < 41 from by decide) rfl ?_
    refine x_aload_n rfl rfl ?_
    refine x_getfield rfl (by decide) xu_eq rfl ?_
    refine x_ifle (t := 28) rfl rfl (by decide) (fun h => absurd h (by decide)) (fun _ => ?_)
    refine x_iconst rfl ?_
    refine x_goto (t := 34) rfl rfl ?_
    exact x_ireturn rfl (Or.inl rfl) ⟨_, _, rfl, rfl, Or.inr ⟨h, rfl, rfl⟩⟩
/-- the law's beats, behind the class's -/
theorem xK4b {v0 : Value} {xs : List Int32} {u u' : Nat × Nat} {Q : zO → zX → Prop} {f1 : Nat → zE} {lv : zL} {i : Nat} {n : Nat} {cs : List Int} {nms : List (List Int)} {bc dp tk0 : Nat → Int} {z k : Int} (hz : -2147483648 ≤ z ∧ z ≤ 2147483647) (l0 : zlv lv 0 = some (.ref 0)) (l1 : zlv lv 1 = some (.ref 50)) (l2 : zlv lv 2 = some (.ref 177)) (l3 : zlv lv 3 = some (.ref 203)) (l4 : zlv lv 4 = some (xi (i : Nat))) (l5 : zlv lv 5 = some (xi k)) (hI : xINV f1 n cs nms bc dp tk0) (hF : xFT f1) (K : xKN v0 xs u Q i) (b1 : u'.1 ≤ u.1 + 1) (b2 : u'.2 ≤ u.2 + 6) (hk : (k = 0 ∧ ∃ j : Nat, (j : Int) = z ∧ j < nms.length ∧ f1 203 = .inr (.inr (.inl [(Int32.ofInt (bc j)).toInt64]))) ∨ (k = 1 ∧ ¬ (0 ≤ z ∧ z < (nms.length : Nat)))) : xz v0 xs u' Q 177 243 lv [xi z, .ref 177] f1 := by
  obtain ⟨hM, ⟨t1, t2, t3, t4, t5, t6⟩, ⟨n1, -⟩, -, ⟨cd, fa, ki, be, en, wo, nu, pa0, op, q, nl, m0, d0, tmM, oaM, k177, -, -, -, -, ⟨cn, dn, tk, pf, pq, k0, -, -, -, -, ⟨g1l, -⟩, -, -, hcn, -⟩, -⟩, -⟩ := id hI
  refine x_call [_, _] rfl rfl (show (0 : Nat) ≤ 8 from by decide) (show (2 : Nat) ≤ 2 from by decide) (x_rcv (by decide) k177) (xs_90 n1 hz k177 k0 g1l) (fun r2 f2 hP => ?_)
  have T : ∀ cd' : Int, xINV (xu f1 177 (xmo cd' (n : Nat) fa ki be en wo nu (nms.length : Nat) pa0 op q)) n cs nms bc dp tk0 := fun cd' => xINV_tx (n' := n) (cs' := cs) hI t1 t2 t3 (xu_ne (by decide) t4) (xu_ne (by decide) t5) (xu_ne (by decide) t6) ⟨cd', _, k177, xu_eq⟩ (fun p _ _ h _ => xu_ne h rfl)
  rcases hP with ⟨j, h1, h2, rfl, rfl⟩ | ⟨h, rfl, rfl⟩
  · rcases hk with ⟨rfl, j', h3, h4, h203⟩ | ⟨-, h3⟩
    · have e : j' = j := by omega
      subst e
      refine x_istore rfl (show (6 : Nat) < 7 from by decide) ?_
      refine xcmp (xst_ne (by decide) l0 (Or.inl rfl)) (xst_ne (by decide) l1 (Or.inl rfl)) (xst_ne (by decide) l2 (Or.inl rfl)) (xst_ne (by decide) l3 (Or.inl rfl)) (xst_ne (by decide) l4 (Or.inl rfl)) (xst_ne (by decide) l5 (Or.inl rfl)) xst_eq (T 0) (xFT_cd (v := xi 0) hF k177) b1 b2 K ⟨by decide, ⟨_, xu_eq, rfl⟩, fun _ => ?_⟩
      rw [hcn j' (by omega)]
      exact xu_ne (by decide) h203
    · exact absurd ⟨by omega, by omega⟩ h3
  · rcases hk with ⟨rfl, j', h3, h4, -⟩ | ⟨rfl, h3⟩
    · exact absurd ⟨by omega, by omega⟩ h
    · refine x_istore rfl (show (6 : Nat) < 7 from by decide) ?_
      exact xcmp (xst_ne (by decide) l0 (Or.inl rfl)) (xst_ne (by decide) l1 (Or.inl rfl)) (xst_ne (by decide) l2 (Or.inl rfl)) (xst_ne (by decide) l3 (Or.inl rfl)) (xst_ne (by decide) l4 (Or.inl rfl)) (xst_ne (by decide) l5 (Or.inl rfl)) xst_eq (T 1) (xFT_cd (v := xi 1) hF k177) b1 b2 K ⟨by decide, ⟨_, xu_eq, rfl⟩, fun h => absurd h (by decide)⟩
set_option maxRecDepth 20000 in
theorem xK4 {v0 : Value} {xs : List Int32} {u : Nat × Nat} {Q : zO → zX → Prop} {f : Nat → zE} {lv : zL} {i : Nat} {n : Nat} {cs : List Int} {nms : List (List Int)} {bc dp tk0 : Nat → Int} (hxs : xs.length ≤ 1536) (hi : i + 3 ≤ xs.length) (l0 : zlv lv 0 = some (.ref 0)) (l1 : zlv lv 1 = some (.ref 50)) (l2 : zlv lv 2 = some (.ref 177)) (l3 : zlv lv 3 = some (.ref 203)) (l4 : zlv lv 4 = some (xi (i : Nat))) (hI : xINV f n cs nms bc dp tk0) (hF : xFT f) (K : xKN v0 xs u Q i) : xz v0 xs u Q 177 223 lv [] f := by
  refine x_aload_n rfl l1 ?_
  refine x_aload_n rfl l0 ?_
  refine x_iload rfl l4 ?_
  refine x_iconst rfl ?_
  refine x_iadd rfl ?_
  refine x_gia rfl ⟨by omega, by omega⟩ (by omega) ?_
  refine x_aload_n rfl l3 ?_
  refine x_callT [_, _, _] rfl rfl (show (0 : Nat) ≤ 8 from by decide) (show (3 : Nat) ≤ 4 from by decide) rfl (xH88b ⟨y_lo _, y_hi _⟩ hI) (fun r0 X0 hq => ?_) (fun x0 X0 hq => ?_)
  · rcases hq with ⟨j, f1, h1, h2, e1, e2, hD, h203⟩ | ⟨h, e1, e2⟩
    · cases e1
      subst e2
      show xz v0 xs u Q 177 234 _ [xi 0] f1
      refine x_istore rfl (show (5 : Nat) < 7 from by decide) ?_
      refine x_aload_n rfl (xst_ne (by decide) l2 (Or.inl rfl)) ?_
      refine x_aload_n rfl (xst_ne (by decide) l0 (Or.inl rfl)) ?_
      refine x_iload rfl (xst_ne (by decide) l4 (Or.inl rfl)) ?_
      refine x_iconst rfl ?_
      refine x_iadd rfl ?_
      refine x_gia rfl ⟨by omega, by omega⟩ (by omega) ?_
      exact xK4b ⟨y_lo _, y_hi _⟩ (xst_ne (by decide) l0 (Or.inl rfl)) (xst_ne (by decide) l1 (Or.inl rfl)) (xst_ne (by decide) l2 (Or.inl rfl)) (xst_ne (by decide) l3 (Or.inl rfl)) (xst_ne (by decide) l4 (Or.inl rfl)) xst_eq (xINV_D hI hD) (xFT_D hF hD) K (by omega) (by omega) (Or.inl ⟨rfl, j, h1, h2, h203⟩)
    · cases e1
      subst e2
      show xz v0 xs (u.1 + 1, u.2 + 6) Q 177 234 _ [xi 1] f
      refine x_istore rfl (show (5 : Nat) < 7 from by decide) ?_
      refine x_aload_n rfl (xst_ne (by decide) l2 (Or.inl rfl)) ?_
      refine x_aload_n rfl (xst_ne (by decide) l0 (Or.inl rfl)) ?_
      refine x_iload rfl (xst_ne (by decide) l4 (Or.inl rfl)) ?_
      refine x_iconst rfl ?_
      refine x_iadd rfl ?_
      refine x_gia rfl ⟨by omega, by omega⟩ (by omega) ?_
      exact xK4b ⟨y_lo _, y_hi _⟩ (xst_ne (by decide) l0 (Or.inl rfl)) (xst_ne (by decide) l1 (Or.inl rfl)) (xst_ne (by decide) l2 (Or.inl rfl)) (xst_ne (by decide) l3 (Or.inl rfl)) (xst_ne (by decide) l4 (Or.inl rfl)) xst_eq hI hF K (Nat.le_refl _) (Nat.le_refl _) (Or.inr ⟨rfl, h⟩)
  · rcases hq with ⟨j, f1, -, -, e1, -⟩ | ⟨-, e1, -⟩
    · cases e1
    · cases e1
