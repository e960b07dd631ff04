/-! The cases of the law. -/
theorem x_gia {v0 : Value} {xs : List Int32} {u : Nat × Nat} {Q : zO → zX → Prop} {mi pc a b c : Nat} {v : Value} {lv : zL} {r : List Value} {f : Nat → zE} {z : Int} (hc : zcd (zt v0) mi pc = some (.iaload, a, b, c, v)) (hz : 0 ≤ z ∧ z < xs.length) (hl : xs.length ≤ 5000) (k : xz v0 xs u Q mi (pc + 1) lv (xi (xs.getD z.toNat 0).toInt :: r) f) : xz v0 xs u Q mi pc lv (xi z :: .ref 0 :: r) f := by
  refine x_b (q := (1, xi (xs.getD z.toNat 0).toInt :: r)) hc ?_ k
  have e : zrd (zG xs) (xh f, u) 0 = some (.inr (.inl (0, xs))) := rfl
  simp only [zb, e]
  rw [if_pos (xin hz.1 hz.2 (by omega)), (xi_clamp hz.1 (by omega)).2, ← xi_of]
theorem x_gln {v0 : Value} {xs : List Int32} {u : Nat × Nat} {Q : zO → zX → Prop} {mi pc a b c : Nat} {v : Value} {lv : zL} {r : List Value} {f : Nat → zE} (hc : zcd (zt v0) mi pc = some (.arraylength, a, b, c, v)) (k : xz v0 xs u Q mi (pc + 1) lv (xi (xs.length : Nat) :: r) f) : xz v0 xs u Q mi pc lv (.ref 0 :: r) f := by
  refine x_b (q := (1, xi (xs.length : Nat) :: r)) hc ?_ k
  have e : zrd (zG xs) (xh f, u) 0 = some (.inr (.inl (0, xs))) := rfl
  simp only [zb, e]
  rfl
set_option maxRecDepth 20000 in
theorem xK4 {v0 : Value} {xs : List Int32} {u : Nat × Nat} {Q : zO → zX → Prop} {f : Nat → zE} {lv : zL} {i : Nat} {n : Nat} {cs : List Int} {nms : List (List Int)} {bc dp tk0 : Nat → Int} (hxs : xs.length ≤ 1536) (hi : i + 3 ≤ xs.length) (l0 : zlv lv 0 = some (.ref 0)) (l1 : zlv lv 1 = some (.ref 50)) (l2 : zlv lv 2 = some (.ref 177)) (l3 : zlv lv 3 = some (.ref 203)) (l4 : zlv lv 4 = some (xi (i : Nat))) (hI : xINV f n cs nms bc dp tk0) (hF : xFT f) (K : xKN v0 xs u Q i) : xz v0 xs u Q 177 223 lv [] f := by
  refine x_aload_n rfl l1 ?_
  refine x_aload_n rfl l0 ?_
  refine x_iload rfl l4 ?_
  refine x_iconst rfl ?_
  refine x_iadd rfl ?_
  refine x_gia rfl ⟨by omega, by omega⟩ (by omega) ?_
  refine x_aload_n rfl l3 ?_
  refine x_callT [_, _, _] rfl rfl (show (0 : Nat) ≤ 8 from by decide) (show (3 : Nat) ≤ 4 from by decide) rfl (xH88 hI.1 (xA87 (xINV_n hI).2.2.1 (xINV_n hI).1 (xINV_n hI).2.1)) (fun r0 X0 hq0 => ?_) (fun x0 X0 hq0 => by obtain ⟨_, _, _, e1, -⟩ := hq0; cases e1)
  obtain ⟨z0, f1, u1, e1, e2, hD0, b1, b2⟩ := hq0
  cases e1
  subst e2
  have hI1 := xINV_D hI hD0
  have hF1 := xFT_D hF hD0
  show xz v0 xs u1 Q 177 234 _ (xi z0 :: []) f1
  refine x_istore rfl (show (5 : Nat) < 7 from by decide) ?_
  refine x_aload_n rfl (xst_ne (by decide) l2 (Or.inl rfl)) ?_
  refine x_aload_n rfl (xst_ne (by decide) l0 (Or.inl rfl)) ?_
  refine x_iload rfl (xst_ne (by decide) l4 (Or.inl rfl)) ?_
  refine x_iconst rfl ?_
  refine x_iadd rfl ?_
  refine x_gia rfl ⟨by omega, by omega⟩ (by omega) ?_
  obtain ⟨-, -, -, -, ⟨_, _, _, _, _, _, _, _, _, _, _, _, _, _, _, h177_1, -⟩, -⟩ := id hI1
  refine x_call [_, _] rfl rfl (show (0 : Nat) ≤ 8 from by decide) (show (2 : Nat) ≤ 2 from by decide) (x_rcv (by decide) h177_1) (xca_q (xA90 hI1.1) (vs := [.ref 177, xi _]) ⟨ygr, ygt, trivial⟩) (fun r1 f2 hP1 => ?_)
  obtain ⟨hr1, hD1⟩ := hP1
  have hI2 := xINV_D hI1 hD1
  have hF2 := xFT_D hF1 hD1
  match r1, hr1 with
  | none, hr => exact hr.elim
  | some v, hr =>
    obtain ⟨y1, rfl, -, -⟩ := yg_i hr
    show xz v0 xs u1 Q 177 246 _ (xi y1 :: []) f2
    refine x_istore rfl (show (6 : Nat) < 7 from by decide) ?_
    refine x_goto (t := 616) rfl rfl ?_
    exact K _ _ _ _ _ _ _ _ _ (xst_ne (by decide) (xst_ne (by decide) l0 (Or.inl rfl)) (Or.inl rfl)) (xst_ne (by decide) (xst_ne (by decide) l1 (Or.inl rfl)) (Or.inl rfl)) (xst_ne (by decide) (xst_ne (by decide) l2 (Or.inl rfl)) (Or.inl rfl)) (xst_ne (by decide) (xst_ne (by decide) l3 (Or.inl rfl)) (Or.inl rfl)) (xst_ne (by decide) (xst_ne (by decide) l4 (Or.inl rfl)) (Or.inl rfl)) hI2 hF2 b1 b2
set_option maxRecDepth 20000 in
theorem xK5 {v0 : Value} {xs : List Int32} {u : Nat × Nat} {Q : zO → zX → Prop} {f : Nat → zE} {lv : zL} {i : Nat} {n : Nat} {cs : List Int} {nms : List (List Int)} {bc dp tk0 : Nat → Int} (hxs : xs.length ≤ 1536) (hi : i + 3 ≤ xs.length) (l0 : zlv lv 0 = some (.ref 0)) (l1 : zlv lv 1 = some (.ref 50)) (l2 : zlv lv 2 = some (.ref 177)) (l3 : zlv lv 3 = some (.ref 203)) (l4 : zlv lv 4 = some (xi (i : Nat))) (hI : xINV f n cs nms bc dp tk0) (hF : xFT f) (K : xKN v0 xs u Q i) : xz v0 xs u Q 177 251 lv [] f := by
  refine x_aload_n rfl l1 ?_
  refine x_aload_n rfl l0 ?_
  refine x_iload rfl l4 ?_
  refine x_iconst rfl ?_
  refine x_iadd rfl ?_
  refine x_gia rfl ⟨by omega, by omega⟩ (by omega) ?_
  refine x_aload_n rfl l3 ?_
  refine x_callT [_, _, _] rfl rfl (show (0 : Nat) ≤ 8 from by decide) (show (3 : Nat) ≤ 4 from by decide) rfl (xH109 hI.1 (xA108 (xINV_n hI).2.2.1 (xINV_n hI).1 (xINV_n hI).2.1)) (fun r0 X0 hq0 => ?_) (fun x0 X0 hq0 => by obtain ⟨_, _, _, e1, -⟩ := hq0; cases e1)
  obtain ⟨z0, f1, u1, e1, e2, hD0, b1, b2⟩ := hq0
  cases e1
  subst e2
  have hI1 := xINV_D hI hD0
  have hF1 := xFT_D hF hD0
  show xz v0 xs u1 Q 177 262 _ (xi z0 :: []) f1
  refine x_istore rfl (show (5 : Nat) < 7 from by decide) ?_
  refine x_aload_n rfl (xst_ne (by decide) l2 (Or.inl rfl)) ?_
  refine x_aload_n rfl (xst_ne (by decide) l0 (Or.inl rfl)) ?_
  refine x_iload rfl (xst_ne (by decide) l4 (Or.inl rfl)) ?_
  refine x_iconst rfl ?_
  refine x_iadd rfl ?_
  refine x_gia rfl ⟨by omega, by omega⟩ (by omega) ?_
  obtain ⟨-, -, -, -, ⟨_, _, _, _, _, _, _, _, _, _, _, _, _, _, _, h177_1, -⟩, -⟩ := id hI1
  refine x_call [_, _] rfl rfl (show (0 : Nat) ≤ 8 from by decide) (show (2 : Nat) ≤ 2 from by decide) (x_rcv (by decide) h177_1) (xca_q (xA125 hI1.1) (vs := [.ref 177, xi _]) ⟨ygr, ygt, trivial⟩) (fun r1 f2 hP1 => ?_)
  obtain ⟨hr1, hD1⟩ := hP1
  have hI2 := xINV_D hI1 hD1
  have hF2 := xFT_D hF1 hD1
  match r1, hr1 with
  | none, hr => exact hr.elim
  | some v, hr =>
    obtain ⟨y1, rfl, -, -⟩ := yg_i hr
    show xz v0 xs u1 Q 177 274 _ (xi y1 :: []) f2
    refine x_istore rfl (show (6 : Nat) < 7 from by decide) ?_
    refine x_goto (t := 616) rfl rfl ?_
    exact K _ _ _ _ _ _ _ _ _ (xst_ne (by decide) (xst_ne (by decide) l0 (Or.inl rfl)) (Or.inl rfl)) (xst_ne (by decide) (xst_ne (by decide) l1 (Or.inl rfl)) (Or.inl rfl)) (xst_ne (by decide) (xst_ne (by decide) l2 (Or.inl rfl)) (Or.inl rfl)) (xst_ne (by decide) (xst_ne (by decide) l3 (Or.inl rfl)) (Or.inl rfl)) (xst_ne (by decide) (xst_ne (by decide) l4 (Or.inl rfl)) (Or.inl rfl)) hI2 hF2 b1 b2
set_option maxRecDepth 20000 in
theorem xK6 {v0 : Value} {xs : List Int32} {u : Nat × Nat} {Q : zO → zX → Prop} {f : Nat → zE} {lv : zL} {i : Nat} {n : Nat} {cs : List Int} {nms : List (List Int)} {bc dp tk0 : Nat → Int} (hxs : xs.length ≤ 1536) (hi : i + 3 ≤ xs.length) (l0 : zlv lv 0 = some (.ref 0)) (l1 : zlv lv 1 = some (.ref 50)) (l2 : zlv lv 2 = some (.ref 177)) (l3 : zlv lv 3 = some (.ref 203)) (l4 : zlv lv 4 = some (xi (i : Nat))) (hI : xINV f n cs nms bc dp tk0) (hF : xFT f) (K : xKN v0 xs u Q i) : xz v0 xs u Q 177 279 lv [] f := by
  refine x_aload_n rfl l1 ?_
  refine x_aload_n rfl l0 ?_
  refine x_iload rfl l4 ?_
  refine x_iconst rfl ?_
  refine x_iadd rfl ?_
  refine x_gia rfl ⟨by omega, by omega⟩ (by omega) ?_
  refine x_aload_n rfl l3 ?_
  refine x_callT [_, _, _] rfl rfl (show (0 : Nat) ≤ 8 from by decide) (show (3 : Nat) ≤ 4 from by decide) rfl (xH127 hI.1 (xA126 (xINV_n hI).2.2.1 (xINV_n hI).1 (xINV_n hI).2.1)) (fun r0 X0 hq0 => ?_) (fun x0 X0 hq0 => by obtain ⟨_, _, _, e1, -⟩ := hq0; cases e1)
  obtain ⟨z0, f1, u1, e1, e2, hD0, b1, b2⟩ := hq0
  cases e1
  subst e2
  have hI1 := xINV_D hI hD0
  have hF1 := xFT_D hF hD0
  show xz v0 xs u1 Q 177 290 _ (xi z0 :: []) f1
  refine x_istore rfl (show (5 : Nat) < 7 from by decide) ?_
  refine x_aload_n rfl (xst_ne (by decide) l2 (Or.inl rfl)) ?_
  refine x_aload_n rfl (xst_ne (by decide) l0 (Or.inl rfl)) ?_
  refine x_iload rfl (xst_ne (by decide) l4 (Or.inl rfl)) ?_
  refine x_iconst rfl ?_
  refine x_iadd rfl ?_
  refine x_gia rfl ⟨by omega, by omega⟩ (by omega) ?_
  obtain ⟨-, -, -, -, ⟨_, _, _, _, _, _, _, _, _, _, _, _, _, _, _, h177_1, -⟩, -⟩ := id hI1
  refine x_call [_, _] rfl rfl (show (0 : Nat) ≤ 8 from by decide) (show (2 : Nat) ≤ 2 from by decide) (x_rcv (by decide) h177_1) (xca_q (xA128 hI1.1) (vs := [.ref 177, xi _]) ⟨ygr, ygt, trivial⟩) (fun r1 f2 hP1 => ?_)
  obtain ⟨hr1, hD1⟩ := hP1
  have hI2 := xINV_D hI1 hD1
  have hF2 := xFT_D hF1 hD1
  match r1, hr1 with
  | none, hr => exact hr.elim
  | some v, hr =>
    obtain ⟨y1, rfl, -, -⟩ := yg_i hr
    show xz v0 xs u1 Q 177 302 _ (xi y1 :: []) f2
    refine x_istore rfl (show (6 : Nat) < 7 from by decide) ?_
    refine x_goto (t := 616) rfl rfl ?_
    exact K _ _ _ _ _ _ _ _ _ (xst_ne (by decide) (xst_ne (by decide) l0 (Or.inl rfl)) (Or.inl rfl)) (xst_ne (by decide) (xst_ne (by decide) l1 (Or.inl rfl)) (Or.inl rfl)) (xst_ne (by decide) (xst_ne (by decide) l2 (Or.inl rfl)) (Or.inl rfl)) (xst_ne (by decide) (xst_ne (by decide) l3 (Or.inl rfl)) (Or.inl rfl)) (xst_ne (by decide) (xst_ne (by decide) l4 (Or.inl rfl)) (Or.inl rfl)) hI2 hF2 b1 b2
set_option maxRecDepth 20000 in
theorem xK7 {v0 : Value} {xs : List Int32} {u : Nat × Nat} {Q : zO → zX → Prop} {f : Nat → zE} {lv : zL} {i : Nat} {n : Nat} {cs : List Int} {nms : List (List Int)} {bc dp tk0 : Nat → Int} (hxs : xs.length ≤ 1536) (hi : i + 3 ≤ xs.length) (l0 : zlv lv 0 = some (.ref 0)) (l1 : zlv lv 1 = some (.ref 50)) (l2 : zlv lv 2 = some (.ref 177)) (l3 : zlv lv 3 = some (.ref 203)) (l4 : zlv lv 4 = some (xi (i : Nat))) (hI : xINV f n cs nms bc dp tk0) (hF : xFT f) (K : xKN v0 xs u Q i) : xz v0 xs u Q 177 307 lv [] f := by
  refine x_aload_n rfl l1 ?_
  obtain ⟨dd0, lf0, lc0, h50_0, -⟩ := xINV_50 hI.1
  refine x_call [_] rfl rfl (show (0 : Nat) ≤ 8 from by decide) (show (1 : Nat) ≤ 1 from by decide) (x_rcv (by decide) h50_0) (xca_q (xA129 hI.1) (vs := [.ref 50]) ⟨ygr, trivial⟩) (fun r0 f1 hP0 => ?_)
  obtain ⟨hr0, hD0⟩ := hP0
  have hI1 := xINV_D hI hD0
  have hF1 := xFT_D hF hD0
  match r0, hr0 with
  | none, hr => exact hr.elim
  | some v, hr =>
    obtain ⟨y0, rfl, -, -⟩ := yg_i hr
    show xz v0 xs u Q 177 311 _ (xi y0 :: []) f1
    refine x_pop rfl ?_
    refine x_aload_n rfl l2 ?_
    obtain ⟨-, -, -, -, ⟨_, _, _, _, _, _, _, _, _, _, _, _, _, _, _, h177_1, -⟩, -⟩ := id hI1
    refine x_call [_] rfl rfl (show (0 : Nat) ≤ 8 from by decide) (show (1 : Nat) ≤ 1 from by decide) (x_rcv (by decide) h177_1) (xca_q (xA130 hI1.1) (vs := [.ref 177]) ⟨ygr, trivial⟩) (fun r1 f2 hP1 => ?_)
    obtain ⟨hr1, hD1⟩ := hP1
    have hI2 := xINV_D hI1 hD1
    have hF2 := xFT_D hF1 hD1
    match r1, hr1 with
    | none, hr => exact hr.elim
    | some v, hr =>
      obtain ⟨y1, rfl, -, -⟩ := yg_i hr
      show xz v0 xs u Q 177 316 _ (xi y1 :: []) f2
      refine x_pop rfl ?_
      refine x_goto (t := 616) rfl rfl ?_
      exact K _ _ _ _ _ _ _ _ _ l0 l1 l2 l3 l4 hI2 hF2 (by omega) (by omega)
set_option maxRecDepth 20000 in
theorem xK8 {v0 : Value} {xs : List Int32} {u : Nat × Nat} {Q : zO → zX → Prop} {f : Nat → zE} {lv : zL} {i : Nat} {n : Nat} {cs : List Int} {nms : List (List Int)} {bc dp tk0 : Nat → Int} (hxs : xs.length ≤ 1536) (hi : i + 3 ≤ xs.length) (l0 : zlv lv 0 = some (.ref 0)) (l1 : zlv lv 1 = some (.ref 50)) (l2 : zlv lv 2 = some (.ref 177)) (l3 : zlv lv 3 = some (.ref 203)) (l4 : zlv lv 4 = some (xi (i : Nat))) (hI : xINV f n cs nms bc dp tk0) (hF : xFT f) (K : xKN v0 xs u Q i) : xz v0 xs u Q 177 320 lv [] f := by
  refine x_aload_n rfl l1 ?_
  refine x_aload_n rfl l3 ?_
  refine x_callT [_, _] rfl rfl (show (0 : Nat) ≤ 8 from by decide) (show (2 : Nat) ≤ 3 from by decide) rfl (xH132 hI.1 (xA131 hI.1)) (fun r0 X0 hq0 => ?_) (fun x0 X0 hq0 => by obtain ⟨_, _, _, e1, -⟩ := hq0; cases e1)
  obtain ⟨z0, f1, u1, e1, e2, hD0, b1, b2⟩ := hq0
  cases e1
  subst e2
  have hI1 := xINV_D hI hD0
  have hF1 := xFT_D hF hD0
  show xz v0 xs u1 Q 177 325 _ (xi z0 :: []) f1
  refine x_istore rfl (show (5 : Nat) < 7 from by decide) ?_
  refine x_aload_n rfl (xst_ne (by decide) l2 (Or.inl rfl)) ?_
  obtain ⟨-, -, -, -, ⟨_, _, _, _, _, _, _, _, _, _, _, _, _, _, _, h177_1, -⟩, -⟩ := id hI1
  refine x_call [_] rfl rfl (show (0 : Nat) ≤ 8 from by decide) (show (1 : Nat) ≤ 2 from by decide) (x_rcv (by decide) h177_1) (xca_q (xA134 hI1.1) (vs := [.ref 177]) ⟨ygr, trivial⟩) (fun r1 f2 hP1 => ?_)
  obtain ⟨hr1, hD1⟩ := hP1
  have hI2 := xINV_D hI1 hD1
  have hF2 := xFT_D hF1 hD1
  match r1, hr1 with
  | none, hr => exact hr.elim
  | some v, hr =>
    obtain ⟨y1, rfl, -, -⟩ := yg_i hr
    show xz v0 xs u1 Q 177 331 _ (xi y1 :: []) f2
    refine x_istore rfl (show (6 : Nat) < 7 from by decide) ?_
    refine x_goto (t := 616) rfl rfl ?_
    exact K _ _ _ _ _ _ _ _ _ (xst_ne (by decide) (xst_ne (by decide) l0 (Or.inl rfl)) (Or.inl rfl)) (xst_ne (by decide) (xst_ne (by decide) l1 (Or.inl rfl)) (Or.inl rfl)) (xst_ne (by decide) (xst_ne (by decide) l2 (Or.inl rfl)) (Or.inl rfl)) (xst_ne (by decide) (xst_ne (by decide) l3 (Or.inl rfl)) (Or.inl rfl)) (xst_ne (by decide) (xst_ne (by decide) l4 (Or.inl rfl)) (Or.inl rfl)) hI2 hF2 b1 b2
set_option maxRecDepth 20000 in
theorem xK9 {v0 : Value} {xs : List Int32} {u : Nat × Nat} {Q : zO → zX → Prop} {f : Nat → zE} {lv : zL} {i : Nat} {n : Nat} {cs : List Int} {nms : List (List Int)} {bc dp tk0 : Nat → Int} (hxs : xs.length ≤ 1536) (hi : i + 3 ≤ xs.length) (l0 : zlv lv 0 = some (.ref 0)) (l1 : zlv lv 1 = some (.ref 50)) (l2 : zlv lv 2 = some (.ref 177)) (l3 : zlv lv 3 = some (.ref 203)) (l4 : zlv lv 4 = some (xi (i : Nat))) (hI : xINV f n cs nms bc dp tk0) (hF : xFT f) (K : xKN v0 xs u Q i) : xz v0 xs u Q 177 336 lv [] f := by
  refine x_aload_n rfl l1 ?_
  obtain ⟨dd0, lf0, lc0, h50_0, -⟩ := xINV_50 hI.1
  refine x_call [_] rfl rfl (show (0 : Nat) ≤ 8 from by decide) (show (1 : Nat) ≤ 2 from by decide) (x_rcv (by decide) h50_0) (xca_q (xA135 hI.1) (vs := [.ref 50]) ⟨ygr, trivial⟩) (fun r0 f1 hP0 => ?_)
  obtain ⟨hr0, hD0⟩ := hP0
  have hI1 := xINV_D hI hD0
  have hF1 := xFT_D hF hD0
  match r0, hr0 with
  | none, hr => exact hr.elim
  | some v, hr =>
    obtain ⟨y0, rfl, -, -⟩ := yg_i hr
    show xz v0 xs u Q 177 340 _ (xi y0 :: []) f1
    refine x_pop rfl ?_
    refine x_aload_n rfl l2 ?_
    obtain ⟨-, -, -, -, ⟨_, _, _, _, _, _, _, _, _, _, _, _, _, _, _, h177_1, -⟩, -⟩ := id hI1
    refine x_call [_] rfl rfl (show (0 : Nat) ≤ 8 from by decide) (show (1 : Nat) ≤ 3 from by decide) (x_rcv (by decide) h177_1) (xca_q (xA136 hI1.1) (vs := [.ref 177]) ⟨ygr, trivial⟩) (fun r1 f2 hP1 => ?_)
    obtain ⟨hr1, hD1⟩ := hP1
    have hI2 := xINV_D hI1 hD1
    have hF2 := xFT_D hF1 hD1
    match r1, hr1 with
    | none, hr => exact hr.elim
    | some v, hr =>
      obtain ⟨y1, rfl, -, -⟩ := yg_i hr
      show xz v0 xs u Q 177 345 _ (xi y1 :: []) f2
      refine x_pop rfl ?_
      refine x_goto (t := 616) rfl rfl ?_
      exact K _ _ _ _ _ _ _ _ _ l0 l1 l2 l3 l4 hI2 hF2 (by omega) (by omega)
set_option maxRecDepth 20000 in
theorem xK10 {v0 : Value} {xs : List Int32} {u : Nat × Nat} {Q : zO → zX → Prop} {f : Nat → zE} {lv : zL} {i : Nat} {n : Nat} {cs : List Int} {nms : List (List Int)} {bc dp tk0 : Nat → Int} (hxs : xs.length ≤ 1536) (hi : i + 3 ≤ xs.length) (l0 : zlv lv 0 = some (.ref 0)) (l1 : zlv lv 1 = some (.ref 50)) (l2 : zlv lv 2 = some (.ref 177)) (l3 : zlv lv 3 = some (.ref 203)) (l4 : zlv lv 4 = some (xi (i : Nat))) (hI : xINV f n cs nms bc dp tk0) (hF : xFT f) (K : xKN v0 xs u Q i) : xz v0 xs u Q 177 349 lv [] f := by
  refine x_aload_n rfl l1 ?_
  refine x_aload_n rfl l0 ?_
  refine x_iload rfl l4 ?_
  refine x_iconst rfl ?_
  refine x_iadd rfl ?_
  refine x_gia rfl ⟨by omega, by omega⟩ (by omega) ?_
  refine x_aload_n rfl l0 ?_
  refine x_iload rfl l4 ?_
  refine x_iconst rfl ?_
  refine x_iadd rfl ?_
  refine x_gia rfl ⟨by omega, by omega⟩ (by omega) ?_
  refine x_aload_n rfl l3 ?_
  refine x_callT [_, _, _, _] rfl rfl (show (0 : Nat) ≤ 8 from by decide) (show (4 : Nat) ≤ 5 from by decide) rfl (xH139 hI.1 (xA138 hI.1)) (fun r0 X0 hq0 => ?_) (fun x0 X0 hq0 => by obtain ⟨_, _, _, e1, -⟩ := hq0; cases e1)
  obtain ⟨z0, f1, u1, e1, e2, hD0, b1, b2⟩ := hq0
  cases e1
  subst e2
  have hI1 := xINV_D hI hD0
  have hF1 := xFT_D hF hD0
  show xz v0 xs u1 Q 177 366 _ (xi z0 :: []) f1
  refine x_istore rfl (show (5 : Nat) < 7 from by decide) ?_
  refine x_aload_n rfl (xst_ne (by decide) l2 (Or.inl rfl)) ?_
  refine x_aload_n rfl (xst_ne (by decide) l0 (Or.inl rfl)) ?_
  refine x_iload rfl (xst_ne (by decide) l4 (Or.inl rfl)) ?_
  refine x_iconst rfl ?_
  refine x_iadd rfl ?_
  refine x_gia rfl ⟨by omega, by omega⟩ (by omega) ?_
  refine x_aload_n rfl (xst_ne (by decide) l0 (Or.inl rfl)) ?_
  refine x_iload rfl (xst_ne (by decide) l4 (Or.inl rfl)) ?_
  refine x_iconst rfl ?_
  refine x_iadd rfl ?_
  refine x_gia rfl ⟨by omega, by omega⟩ (by omega) ?_
  obtain ⟨-, -, -, -, ⟨_, _, _, _, _, _, _, _, _, _, _, _, _, _, _, h177_1, -⟩, -⟩ := id hI1
  refine x_call [_, _, _] rfl rfl (show (0 : Nat) ≤ 8 from by decide) (show (3 : Nat) ≤ 3 from by decide) (x_rcv (by decide) h177_1) (xca_q (xA141 hI1.1) (vs := [.ref 177, xi _, xi _]) ⟨ygr, ygt, ygt, trivial⟩) (fun r1 f2 hP1 => ?_)
  obtain ⟨hr1, hD1⟩ := hP1
  have hI2 := xINV_D hI1 hD1
  have hF2 := xFT_D hF1 hD1
  match r1, hr1 with
  | none, hr => exact hr.elim
  | some v, hr =>
    obtain ⟨y1, rfl, -, -⟩ := yg_i hr
    show xz v0 xs u1 Q 177 384 _ (xi y1 :: []) f2
    refine x_istore rfl (show (6 : Nat) < 7 from by decide) ?_
    refine x_goto (t := 616) rfl rfl ?_
    exact K _ _ _ _ _ _ _ _ _ (xst_ne (by decide) (xst_ne (by decide) l0 (Or.inl rfl)) (Or.inl rfl)) (xst_ne (by decide) (xst_ne (by decide) l1 (Or.inl rfl)) (Or.inl rfl)) (xst_ne (by decide) (xst_ne (by decide) l2 (Or.inl rfl)) (Or.inl rfl)) (xst_ne (by decide) (xst_ne (by decide) l3 (Or.inl rfl)) (Or.inl rfl)) (xst_ne (by decide) (xst_ne (by decide) l4 (Or.inl rfl)) (Or.inl rfl)) hI2 hF2 b1 b2
set_option maxRecDepth 20000 in
theorem xK11 {v0 : Value} {xs : List Int32} {u : Nat × Nat} {Q : zO → zX → Prop} {f : Nat → zE} {lv : zL} {i : Nat} {n : Nat} {cs : List Int} {nms : List (List Int)} {bc dp tk0 : Nat → Int} (hxs : xs.length ≤ 1536) (hi : i + 3 ≤ xs.length) (l0 : zlv lv 0 = some (.ref 0)) (l1 : zlv lv 1 = some (.ref 50)) (l2 : zlv lv 2 = some (.ref 177)) (l3 : zlv lv 3 = some (.ref 203)) (l4 : zlv lv 4 = some (xi (i : Nat))) (hI : xINV f n cs nms bc dp tk0) (hF : xFT f) (K : xKN v0 xs u Q i) : xz v0 xs u Q 177 389 lv [] f := by
  refine x_aload_n rfl l1 ?_
  refine x_aload_n rfl l0 ?_
  refine x_iload rfl l4 ?_
  refine x_iconst rfl ?_
  refine x_iadd rfl ?_
  refine x_gia rfl ⟨by omega, by omega⟩ (by omega) ?_
  refine x_aload_n rfl l0 ?_
  refine x_iload rfl l4 ?_
  refine x_iconst rfl ?_
  refine x_iadd rfl ?_
  refine x_gia rfl ⟨by omega, by omega⟩ (by omega) ?_
  refine x_aload_n rfl l3 ?_
  refine x_callT [_, _, _, _] rfl rfl (show (0 : Nat) ≤ 8 from by decide) (show (4 : Nat) ≤ 5 from by decide) rfl (xH144 hI.1 (xA143 hI.1)) (fun r0 X0 hq0 => ?_) (fun x0 X0 hq0 => by obtain ⟨_, _, _, e1, -⟩ := hq0; cases e1)
  obtain ⟨z0, f1, u1, e1, e2, hD0, b1, b2⟩ := hq0
  cases e1
  subst e2
  have hI1 := xINV_D hI hD0
  have hF1 := xFT_D hF hD0
  show xz v0 xs u1 Q 177 406 _ (xi z0 :: []) f1
  refine x_istore rfl (show (5 : Nat) < 7 from by decide) ?_
  refine x_aload_n rfl (xst_ne (by decide) l2 (Or.inl rfl)) ?_
  refine x_aload_n rfl (xst_ne (by decide) l0 (Or.inl rfl)) ?_
  refine x_iload rfl (xst_ne (by decide) l4 (Or.inl rfl)) ?_
  refine x_iconst rfl ?_
  refine x_iadd rfl ?_
  refine x_gia rfl ⟨by omega, by omega⟩ (by omega) ?_
  refine x_aload_n rfl (xst_ne (by decide) l0 (Or.inl rfl)) ?_
  refine x_iload rfl (xst_ne (by decide) l4 (Or.inl rfl)) ?_
  refine x_iconst rfl ?_
  refine x_iadd rfl ?_
  refine x_gia rfl ⟨by omega, by omega⟩ (by omega) ?_
  obtain ⟨-, -, -, -, ⟨_, _, _, _, _, _, _, _, _, _, _, _, _, _, _, h177_1, -⟩, -⟩ := id hI1
  refine x_call [_, _, _] rfl rfl (show (0 : Nat) ≤ 8 from by decide) (show (3 : Nat) ≤ 4 from by decide) (x_rcv (by decide) h177_1) (xca_q (xA145 hI1.1) (vs := [.ref 177, xi _, xi _]) ⟨ygr, ygt, ygt, trivial⟩) (fun r1 f2 hP1 => ?_)
  obtain ⟨hr1, hD1⟩ := hP1
  have hI2 := xINV_D hI1 hD1
  have hF2 := xFT_D hF1 hD1
  match r1, hr1 with
  | none, hr => exact hr.elim
  | some v, hr =>
    obtain ⟨y1, rfl, -, -⟩ := yg_i hr
    show xz v0 xs u1 Q 177 424 _ (xi y1 :: []) f2
    refine x_istore rfl (show (6 : Nat) < 7 from by decide) ?_
    refine x_goto (t := 616) rfl rfl ?_
    exact K _ _ _ _ _ _ _ _ _ (xst_ne (by decide) (xst_ne (by decide) l0 (Or.inl rfl)) (Or.inl rfl)) (xst_ne (by decide) (xst_ne (by decide) l1 (Or.inl rfl)) (Or.inl rfl)) (xst_ne (by decide) (xst_ne (by decide) l2 (Or.inl rfl)) (Or.inl rfl)) (xst_ne (by decide) (xst_ne (by decide) l3 (Or.inl rfl)) (Or.inl rfl)) (xst_ne (by decide) (xst_ne (by decide) l4 (Or.inl rfl)) (Or.inl rfl)) hI2 hF2 b1 b2
set_option maxRecDepth 20000 in
theorem xK12 {v0 : Value} {xs : List Int32} {u : Nat × Nat} {Q : zO → zX → Prop} {f : Nat → zE} {lv : zL} {i : Nat} {n : Nat} {cs : List Int} {nms : List (List Int)} {bc dp tk0 : Nat → Int} (hxs : xs.length ≤ 1536) (hi : i + 3 ≤ xs.length) (l0 : zlv lv 0 = some (.ref 0)) (l1 : zlv lv 1 = some (.ref 50)) (l2 : zlv lv 2 = some (.ref 177)) (l3 : zlv lv 3 = some (.ref 203)) (l4 : zlv lv 4 = some (xi (i : Nat))) (hI : xINV f n cs nms bc dp tk0) (hF : xFT f) (K : xKN v0 xs u Q i) : xz v0 xs u Q 177 429 lv [] f := by
  refine x_aload_n rfl l1 ?_
  refine x_aload_n rfl l0 ?_
  refine x_iload rfl l4 ?_
  refine x_iconst rfl ?_
  refine x_iadd rfl ?_
  refine x_gia rfl ⟨by omega, by omega⟩ (by omega) ?_
  refine x_aload_n rfl l0 ?_
  refine x_iload rfl l4 ?_
  refine x_iconst rfl ?_
  refine x_iadd rfl ?_
  refine x_gia rfl ⟨by omega, by omega⟩ (by omega) ?_
  refine x_aload_n rfl l3 ?_
  refine x_callT [_, _, _, _] rfl rfl (show (0 : Nat) ≤ 8 from by decide) (show (4 : Nat) ≤ 5 from by decide) rfl (xH147 hI.1 (xA146 hI.1)) (fun r0 X0 hq0 => ?_) (fun x0 X0 hq0 => by obtain ⟨_, _, _, e1, -⟩ := hq0; cases e1)
  obtain ⟨z0, f1, u1, e1, e2, hD0, b1, b2⟩ := hq0
  cases e1
  subst e2
  have hI1 := xINV_D hI hD0
  have hF1 := xFT_D hF hD0
  show xz v0 xs u1 Q 177 446 _ (xi z0 :: []) f1
  refine x_istore rfl (show (5 : Nat) < 7 from by decide) ?_
  refine x_aload_n rfl (xst_ne (by decide) l2 (Or.inl rfl)) ?_
  refine x_aload_n rfl (xst_ne (by decide) l0 (Or.inl rfl)) ?_
  refine x_iload rfl (xst_ne (by decide) l4 (Or.inl rfl)) ?_
  refine x_iconst rfl ?_
  refine x_iadd rfl ?_
  refine x_gia rfl ⟨by omega, by omega⟩ (by omega) ?_
  refine x_aload_n rfl (xst_ne (by decide) l0 (Or.inl rfl)) ?_
  refine x_iload rfl (xst_ne (by decide) l4 (Or.inl rfl)) ?_
  refine x_iconst rfl ?_
  refine x_iadd rfl ?_
  refine x_gia rfl ⟨by omega, by omega⟩ (by omega) ?_
  obtain ⟨-, -, -, -, ⟨_, _, _, _, _, _, _, _, _, _, _, _, _, _, _, h177_1, -⟩, -⟩ := id hI1
  refine x_call [_, _, _] rfl rfl (show (0 : Nat) ≤ 8 from by decide) (show (3 : Nat) ≤ 3 from by decide) (x_rcv (by decide) h177_1) (xca_q (xA148 hI1.1) (vs := [.ref 177, xi _, xi _]) ⟨ygr, ygt, ygt, trivial⟩) (fun r1 f2 hP1 => ?_)
  obtain ⟨hr1, hD1⟩ := hP1
  have hI2 := xINV_D hI1 hD1
  have hF2 := xFT_D hF1 hD1
  match r1, hr1 with
  | none, hr => exact hr.elim
  | some v, hr =>
    obtain ⟨y1, rfl, -, -⟩ := yg_i hr
    show xz v0 xs u1 Q 177 464 _ (xi y1 :: []) f2
    refine x_istore rfl (show (6 : Nat) < 7 from by decide) ?_
    refine x_goto (t := 616) rfl rfl ?_
    exact K _ _ _ _ _ _ _ _ _ (xst_ne (by decide) (xst_ne (by decide) l0 (Or.inl rfl)) (Or.inl rfl)) (xst_ne (by decide) (xst_ne (by decide) l1 (Or.inl rfl)) (Or.inl rfl)) (xst_ne (by decide) (xst_ne (by decide) l2 (Or.inl rfl)) (Or.inl rfl)) (xst_ne (by decide) (xst_ne (by decide) l3 (Or.inl rfl)) (Or.inl rfl)) (xst_ne (by decide) (xst_ne (by decide) l4 (Or.inl rfl)) (Or.inl rfl)) hI2 hF2 b1 b2
set_option maxRecDepth 20000 in
theorem xK13 {v0 : Value} {xs : List Int32} {u : Nat × Nat} {Q : zO → zX → Prop} {f : Nat → zE} {lv : zL} {i : Nat} {n : Nat} {cs : List Int} {nms : List (List Int)} {bc dp tk0 : Nat → Int} (hxs : xs.length ≤ 1536) (hi : i + 3 ≤ xs.length) (l0 : zlv lv 0 = some (.ref 0)) (l1 : zlv lv 1 = some (.ref 50)) (l2 : zlv lv 2 = some (.ref 177)) (l3 : zlv lv 3 = some (.ref 203)) (l4 : zlv lv 4 = some (xi (i : Nat))) (hI : xINV f n cs nms bc dp tk0) (hF : xFT f) (K : xKN v0 xs u Q i) : xz v0 xs u Q 177 469 lv [] f := by
  refine x_aload_n rfl l1 ?_
  obtain ⟨dd0, lf0, lc0, h50_0, -⟩ := xINV_50 hI.1
  refine x_call [_] rfl rfl (show (0 : Nat) ≤ 8 from by decide) (show (1 : Nat) ≤ 1 from by decide) (x_rcv (by decide) h50_0) (xca_q (xA151 hI.1) (vs := [.ref 50]) ⟨ygr, trivial⟩) (fun r0 f1 hP0 => ?_)
  obtain ⟨hr0, hD0⟩ := hP0
  have hI1 := xINV_D hI hD0
  have hF1 := xFT_D hF hD0
  match r0, hr0 with
  | none, hr => exact hr.elim
  | some v, hr =>
    obtain ⟨y0, rfl, -, -⟩ := yg_i hr
    show xz v0 xs u Q 177 473 _ (xi y0 :: []) f1
    refine x_pop rfl ?_
    refine x_aload_n rfl l2 ?_
    obtain ⟨-, -, -, -, ⟨_, _, _, _, _, _, _, _, _, _, _, _, _, _, _, h177_1, -⟩, -⟩ := id hI1
    refine x_call [_] rfl rfl (show (0 : Nat) ≤ 8 from by decide) (show (1 : Nat) ≤ 11 from by decide) (x_rcv (by decide) h177_1) (xca_q (xA152 hI1.1) (vs := [.ref 177]) ⟨ygr, trivial⟩) (fun r1 f2 hP1 => ?_)
    obtain ⟨hr1, hD1⟩ := hP1
    have hI2 := xINV_D hI1 hD1
    have hF2 := xFT_D hF1 hD1
    match r1, hr1 with
    | none, hr => exact hr.elim
    | some v, hr =>
      obtain ⟨y1, rfl, -, -⟩ := yg_i hr
      show xz v0 xs u Q 177 478 _ (xi y1 :: []) f2
      refine x_pop rfl ?_
      refine x_goto (t := 616) rfl rfl ?_
      exact K _ _ _ _ _ _ _ _ _ l0 l1 l2 l3 l4 hI2 hF2 (by omega) (by omega)
set_option maxRecDepth 20000 in
theorem xK14 {v0 : Value} {xs : List Int32} {u : Nat × Nat} {Q : zO → zX → Prop} {f : Nat → zE} {lv : zL} {i : Nat} {n : Nat} {cs : List Int} {nms : List (List Int)} {bc dp tk0 : Nat → Int} (hxs : xs.length ≤ 1536) (hi : i + 3 ≤ xs.length) (l0 : zlv lv 0 = some (.ref 0)) (l1 : zlv lv 1 = some (.ref 50)) (l2 : zlv lv 2 = some (.ref 177)) (l3 : zlv lv 3 = some (.ref 203)) (l4 : zlv lv 4 = some (xi (i : Nat))) (hI : xINV f n cs nms bc dp tk0) (hF : xFT f) (K : xKN v0 xs u Q i) : xz v0 xs u Q 177 482 lv [] f := by
  refine x_aload_n rfl l1 ?_
  refine x_aload_n rfl l0 ?_
  refine x_iload rfl l4 ?_
  refine x_iconst rfl ?_
  refine x_iadd rfl ?_
  refine x_gia rfl ⟨by omega, by omega⟩ (by omega) ?_
  refine x_aload_n rfl l0 ?_
  refine x_iload rfl l4 ?_
  refine x_iconst rfl ?_
  refine x_iadd rfl ?_
  refine x_gia rfl ⟨by omega, by omega⟩ (by omega) ?_
  refine x_ifeq (t := 502) rfl rfl ⟨y_lo _, y_hi _⟩ (fun _ => ?_) (fun _ => ?_)
  · refine x_iconst rfl ?_
    obtain ⟨kp0, pt0, h53_0⟩ := (xINV_n hI).2.2.2
    refine x_callT [_, _, _] rfl rfl (show (0 : Nat) ≤ 8 from by decide) (show (3 : Nat) ≤ 4 from by decide) rfl (xH155 hI.1 (xA154 (xINV_n hI).2.2.1 hI.1 h53_0) (by omega)) (fun r0 X0 hq0 => ?_) (fun x0 X0 hq0 => by obtain ⟨_, _, _, e1, -⟩ := hq0; cases e1)
    obtain ⟨z0, f1, u1, e1, e2, hD0, b1, b2⟩ := hq0
    cases e1
    subst e2
    have hI1 := xINV_D hI hD0
    have hF1 := xFT_D hF hD0
    show xz v0 xs u1 Q 177 506 _ (xi z0 :: []) f1
    refine x_istore rfl (show (5 : Nat) < 7 from by decide) ?_
    refine x_aload_n rfl (xst_ne (by decide) l2 (Or.inl rfl)) ?_
    refine x_aload_n rfl (xst_ne (by decide) l0 (Or.inl rfl)) ?_
    refine x_iload rfl (xst_ne (by decide) l4 (Or.inl rfl)) ?_
    refine x_iconst rfl ?_
    refine x_iadd rfl ?_
    refine x_gia rfl ⟨by omega, by omega⟩ (by omega) ?_
    refine x_aload_n rfl (xst_ne (by decide) l0 (Or.inl rfl)) ?_
    refine x_iload rfl (xst_ne (by decide) l4 (Or.inl rfl)) ?_
    refine x_iconst rfl ?_
    refine x_iadd rfl ?_
    refine x_gia rfl ⟨by omega, by omega⟩ (by omega) ?_
    refine x_ifeq (t := 528) rfl rfl ⟨y_lo _, y_hi _⟩ (fun _ => ?_) (fun _ => ?_)
    · refine x_iconst rfl ?_
      obtain ⟨-, -, -, -, ⟨_, _, _, _, _, _, _, _, _, _, _, _, _, _, _, h177_1, -⟩, -⟩ := id hI1
      refine x_call [_, _, _] rfl rfl (show (0 : Nat) ≤ 8 from by decide) (show (3 : Nat) ≤ 5 from by decide) (x_rcv (by decide) h177_1) (xca_q (xA156 hI1.1) (vs := [.ref 177, xi _, xi _]) ⟨ygr, ygt, (ygi (by omega) (by omega) (by omega) (by omega)), trivial⟩) (fun r1 f2 hP1 => ?_)
      obtain ⟨hr1, hD1⟩ := hP1
      have hI2 := xINV_D hI1 hD1
      have hF2 := xFT_D hF1 hD1
      match r1, hr1 with
      | none, _ =>
        show xz v0 xs u1 Q 177 532 _ [] f2
        refine x_goto (t := 616) rfl rfl ?_
        exact K _ _ _ _ _ _ _ _ _ (xst_ne (by decide) l0 (Or.inl rfl)) (xst_ne (by decide) l1 (Or.inl rfl)) (xst_ne (by decide) l2 (Or.inl rfl)) (xst_ne (by decide) l3 (Or.inl rfl)) (xst_ne (by decide) l4 (Or.inl rfl)) hI2 hF2 b1 b2
    · refine x_iconst rfl ?_
      refine x_goto (t := 529) rfl rfl ?_
      obtain ⟨-, -, -, -, ⟨_, _, _, _, _, _, _, _, _, _, _, _, _, _, _, h177_1, -⟩, -⟩ := id hI1
      refine x_call [_, _, _] rfl rfl (show (0 : Nat) ≤ 8 from by decide) (show (3 : Nat) ≤ 5 from by decide) (x_rcv (by decide) h177_1) (xca_q (xA156 hI1.1) (vs := [.ref 177, xi _, xi _]) ⟨ygr, ygt, (ygi (by omega) (by omega) (by omega) (by omega)), trivial⟩) (fun r1 f2 hP1 => ?_)
      obtain ⟨hr1, hD1⟩ := hP1
      have hI2 := xINV_D hI1 hD1
      have hF2 := xFT_D hF1 hD1
      match r1, hr1 with
      | none, _ =>
        show xz v0 xs u1 Q 177 532 _ [] f2
        refine x_goto (t := 616) rfl rfl ?_
        exact K _ _ _ _ _ _ _ _ _ (xst_ne (by decide) l0 (Or.inl rfl)) (xst_ne (by decide) l1 (Or.inl rfl)) (xst_ne (by decide) l2 (Or.inl rfl)) (xst_ne (by decide) l3 (Or.inl rfl)) (xst_ne (by decide) l4 (Or.inl rfl)) hI2 hF2 b1 b2
  · refine x_iconst rfl ?_
    refine x_goto (t := 503) rfl rfl ?_
    obtain ⟨kp0, pt0, h53_0⟩ := (xINV_n hI).2.2.2
    refine x_callT [_, _, _] rfl rfl (show (0 : Nat) ≤ 8 from by decide) (show (3 : Nat) ≤ 4 from by decide) rfl (xH155 hI.1 (xA154 (xINV_n hI).2.2.1 hI.1 h53_0) (by omega)) (fun r0 X0 hq0 => ?_) (fun x0 X0 hq0 => by obtain ⟨_, _, _, e1, -⟩ := hq0; cases e1)
    obtain ⟨z0, f1, u1, e1, e2, hD0, b1, b2⟩ := hq0
    cases e1
    subst e2
    have hI1 := xINV_D hI hD0
    have hF1 := xFT_D hF hD0
    show xz v0 xs u1 Q 177 506 _ (xi z0 :: []) f1
    refine x_istore rfl (show (5 : Nat) < 7 from by decide) ?_
    refine x_aload_n rfl (xst_ne (by decide) l2 (Or.inl rfl)) ?_
    refine x_aload_n rfl (xst_ne (by decide) l0 (Or.inl rfl)) ?_
    refine x_iload rfl (xst_ne (by decide) l4 (Or.inl rfl)) ?_
    refine x_iconst rfl ?_
    refine x_iadd rfl ?_
    refine x_gia rfl ⟨by omega, by omega⟩ (by omega) ?_
    refine x_aload_n rfl (xst_ne (by decide) l0 (Or.inl rfl)) ?_
    refine x_iload rfl (xst_ne (by decide) l4 (Or.inl rfl)) ?_
    refine x_iconst rfl ?_
    refine x_iadd rfl ?_
    refine x_gia rfl ⟨by omega, by omega⟩ (by omega) ?_
    refine x_ifeq (t := 528) rfl rfl ⟨y_lo _, y_hi _⟩ (fun _ => ?_) (fun _ => ?_)
    · refine x_iconst rfl ?_
      obtain ⟨-, -, -, -, ⟨_, _, _, _, _, _, _, _, _, _, _, _, _, _, _, h177_1, -⟩, -⟩ := id hI1
      refine x_call [_, _, _] rfl rfl (show (0 : Nat) ≤ 8 from by decide) (show (3 : Nat) ≤ 5 from by decide) (x_rcv (by decide) h177_1) (xca_q (xA156 hI1.1) (vs := [.ref 177, xi _, xi _]) ⟨ygr, ygt, (ygi (by omega) (by omega) (by omega) (by omega)), trivial⟩) (fun r1 f2 hP1 => ?_)
      obtain ⟨hr1, hD1⟩ := hP1
      have hI2 := xINV_D hI1 hD1
      have hF2 := xFT_D hF1 hD1
      match r1, hr1 with
      | none, _ =>
        show xz v0 xs u1 Q 177 532 _ [] f2
        refine x_goto (t := 616) rfl rfl ?_
        exact K _ _ _ _ _ _ _ _ _ (xst_ne (by decide) l0 (Or.inl rfl)) (xst_ne (by decide) l1 (Or.inl rfl)) (xst_ne (by decide) l2 (Or.inl rfl)) (xst_ne (by decide) l3 (Or.inl rfl)) (xst_ne (by decide) l4 (Or.inl rfl)) hI2 hF2 b1 b2
    · refine x_iconst rfl ?_
      refine x_goto (t := 529) rfl rfl ?_
      obtain ⟨-, -, -, -, ⟨_, _, _, _, _, _, _, _, _, _, _, _, _, _, _, h177_1, -⟩, -⟩ := id hI1
      refine x_call [_, _, _] rfl rfl (show (0 : Nat) ≤ 8 from by decide) (show (3 : Nat) ≤ 5 from by decide) (x_rcv (by decide) h177_1) (xca_q (xA156 hI1.1) (vs := [.ref 177, xi _, xi _]) ⟨ygr, ygt, (ygi (by omega) (by omega) (by omega) (by omega)), trivial⟩) (fun r1 f2 hP1 => ?_)
      obtain ⟨hr1, hD1⟩ := hP1
      have hI2 := xINV_D hI1 hD1
      have hF2 := xFT_D hF1 hD1
      match r1, hr1 with
      | none, _ =>
        show xz v0 xs u1 Q 177 532 _ [] f2
        refine x_goto (t := 616) rfl rfl ?_
        exact K _ _ _ _ _ _ _ _ _ (xst_ne (by decide) l0 (Or.inl rfl)) (xst_ne (by decide) l1 (Or.inl rfl)) (xst_ne (by decide) l2 (Or.inl rfl)) (xst_ne (by decide) l3 (Or.inl rfl)) (xst_ne (by decide) l4 (Or.inl rfl)) hI2 hF2 b1 b2
set_option maxRecDepth 20000 in
theorem xK15 {v0 : Value} {xs : List Int32} {u : Nat × Nat} {Q : zO → zX → Prop} {f : Nat → zE} {lv : zL} {i : Nat} {n : Nat} {cs : List Int} {nms : List (List Int)} {bc dp tk0 : Nat → Int} (hxs : xs.length ≤ 1536) (hi : i + 3 ≤ xs.length) (l0 : zlv lv 0 = some (.ref 0)) (l1 : zlv lv 1 = some (.ref 50)) (l2 : zlv lv 2 = some (.ref 177)) (l3 : zlv lv 3 = some (.ref 203)) (l4 : zlv lv 4 = some (xi (i : Nat))) (hI : xINV f n cs nms bc dp tk0) (hF : xFT f) (K : xKN v0 xs u Q i) : xz v0 xs u Q 177 535 lv [] f := by
  refine x_aload_n rfl l1 ?_
  obtain ⟨dd0, lf0, lc0, h50_0, -⟩ := xINV_50 hI.1
  refine x_call [_] rfl rfl (show (0 : Nat) ≤ 8 from by decide) (show (1 : Nat) ≤ 1 from by decide) (x_rcv (by decide) h50_0) (xca_q (xA163 (xINV_n hI).2.2.1 (xINV_n hI).1 (xINV_n hI).2.1) (vs := [.ref 50]) ⟨ygr, trivial⟩) (fun r0 f1 hP0 => ?_)
  obtain ⟨hr0, hD0⟩ := hP0
  have hI1 := xINV_D hI hD0
  have hF1 := xFT_D hF hD0
  match r0, hr0 with
  | none, hr => exact hr.elim
  | some v, hr =>
    obtain ⟨y0, rfl, -, -⟩ := yg_i hr
    show xz v0 xs u Q 177 539 _ (xi y0 :: []) f1
    refine x_pop rfl ?_
    refine x_aload_n rfl l2 ?_
    obtain ⟨-, -, -, -, ⟨_, _, _, _, _, _, _, _, _, _, _, _, _, _, _, h177_1, -⟩, -⟩ := id hI1
    refine x_call [_] rfl rfl (show (0 : Nat) ≤ 8 from by decide) (show (1 : Nat) ≤ 2 from by decide) (x_rcv (by decide) h177_1) (xca_q (xA168 hI1.1) (vs := [.ref 177]) ⟨ygr, trivial⟩) (fun r1 f2 hP1 => ?_)
    obtain ⟨hr1, hD1⟩ := hP1
    have hI2 := xINV_D hI1 hD1
    have hF2 := xFT_D hF1 hD1
    match r1, hr1 with
    | none, hr => exact hr.elim
    | some v, hr =>
      obtain ⟨y1, rfl, -, -⟩ := yg_i hr
      show xz v0 xs u Q 177 544 _ (xi y1 :: []) f2
      refine x_pop rfl ?_
      refine x_goto (t := 616) rfl rfl ?_
      exact K _ _ _ _ _ _ _ _ _ l0 l1 l2 l3 l4 hI2 hF2 (by omega) (by omega)
set_option maxRecDepth 20000 in
theorem xK16 {v0 : Value} {xs : List Int32} {u : Nat × Nat} {Q : zO → zX → Prop} {f : Nat → zE} {lv : zL} {i : Nat} {n : Nat} {cs : List Int} {nms : List (List Int)} {bc dp tk0 : Nat → Int} (hxs : xs.length ≤ 1536) (hi : i + 3 ≤ xs.length) (l0 : zlv lv 0 = some (.ref 0)) (l1 : zlv lv 1 = some (.ref 50)) (l2 : zlv lv 2 = some (.ref 177)) (l3 : zlv lv 3 = some (.ref 203)) (l4 : zlv lv 4 = some (xi (i : Nat))) (hI : xINV f n cs nms bc dp tk0) (hF : xFT f) (K : xKN v0 xs u Q i) : xz v0 xs u Q 177 548 lv [] f := by
  refine x_aload_n rfl l1 ?_
  refine x_aload_n rfl l0 ?_
  refine x_iload rfl l4 ?_
  refine x_iconst rfl ?_
  refine x_iadd rfl ?_
  refine x_gia rfl ⟨by omega, by omega⟩ (by omega) ?_
  refine x_aload_n rfl l3 ?_
  refine x_callT [_, _, _] rfl rfl (show (0 : Nat) ≤ 8 from by decide) (show (3 : Nat) ≤ 4 from by decide) rfl (xH170 hI.1 (xA169 hI.1)) (fun r0 X0 hq0 => ?_) (fun x0 X0 hq0 => by obtain ⟨_, _, _, e1, -⟩ := hq0; cases e1)
  obtain ⟨z0, f1, u1, e1, e2, hD0, b1, b2⟩ := hq0
  cases e1
  subst e2
  have hI1 := xINV_D hI hD0
  have hF1 := xFT_D hF hD0
  show xz v0 xs u1 Q 177 559 _ (xi z0 :: []) f1
  refine x_istore rfl (show (5 : Nat) < 7 from by decide) ?_
  refine x_aload_n rfl (xst_ne (by decide) l2 (Or.inl rfl)) ?_
  refine x_aload_n rfl (xst_ne (by decide) l0 (Or.inl rfl)) ?_
  refine x_iload rfl (xst_ne (by decide) l4 (Or.inl rfl)) ?_
  refine x_iconst rfl ?_
  refine x_iadd rfl ?_
  refine x_gia rfl ⟨by omega, by omega⟩ (by omega) ?_
  obtain ⟨-, -, -, -, ⟨_, _, _, _, _, _, _, _, _, _, _, _, _, _, _, h177_1, -⟩, -⟩ := id hI1
  refine x_call [_, _] rfl rfl (show (0 : Nat) ≤ 8 from by decide) (show (2 : Nat) ≤ 2 from by decide) (x_rcv (by decide) h177_1) (xca_q (xA171 hI1.1) (vs := [.ref 177, xi _]) ⟨ygr, ygt, trivial⟩) (fun r1 f2 hP1 => ?_)
  obtain ⟨hr1, hD1⟩ := hP1
  have hI2 := xINV_D hI1 hD1
  have hF2 := xFT_D hF1 hD1
  match r1, hr1 with
  | none, hr => exact hr.elim
  | some v, hr =>
    obtain ⟨y1, rfl, -, -⟩ := yg_i hr
    show xz v0 xs u1 Q 177 571 _ (xi y1 :: []) f2
    refine x_istore rfl (show (6 : Nat) < 7 from by decide) ?_
    refine x_goto (t := 616) rfl rfl ?_
    exact K _ _ _ _ _ _ _ _ _ (xst_ne (by decide) (xst_ne (by decide) l0 (Or.inl rfl)) (Or.inl rfl)) (xst_ne (by decide) (xst_ne (by decide) l1 (Or.inl rfl)) (Or.inl rfl)) (xst_ne (by decide) (xst_ne (by decide) l2 (Or.inl rfl)) (Or.inl rfl)) (xst_ne (by decide) (xst_ne (by decide) l3 (Or.inl rfl)) (Or.inl rfl)) (xst_ne (by decide) (xst_ne (by decide) l4 (Or.inl rfl)) (Or.inl rfl)) hI2 hF2 b1 b2
set_option maxRecDepth 20000 in
theorem xK17 {v0 : Value} {xs : List Int32} {u : Nat × Nat} {Q : zO → zX → Prop} {f : Nat → zE} {lv : zL} {i : Nat} {n : Nat} {cs : List Int} {nms : List (List Int)} {bc dp tk0 : Nat → Int} (hxs : xs.length ≤ 1536) (hi : i + 3 ≤ xs.length) (l0 : zlv lv 0 = some (.ref 0)) (l1 : zlv lv 1 = some (.ref 50)) (l2 : zlv lv 2 = some (.ref 177)) (l3 : zlv lv 3 = some (.ref 203)) (l4 : zlv lv 4 = some (xi (i : Nat))) (hI : xINV f n cs nms bc dp tk0) (hF : xFT f) (K : xKN v0 xs u Q i) : xz v0 xs u Q 177 576 lv [] f := by
  refine x_aload_n rfl l1 ?_
  refine x_aload_n rfl l0 ?_
  refine x_iload rfl l4 ?_
  refine x_iconst rfl ?_
  refine x_iadd rfl ?_
  refine x_gia rfl ⟨by omega, by omega⟩ (by omega) ?_
  refine x_aload_n rfl l0 ?_
  refine x_iload rfl l4 ?_
  refine x_iconst rfl ?_
  refine x_iadd rfl ?_
  refine x_gia rfl ⟨by omega, by omega⟩ (by omega) ?_
  refine x_aload_n rfl l3 ?_
  refine x_callT [_, _, _, _] rfl rfl (show (0 : Nat) ≤ 8 from by decide) (show (4 : Nat) ≤ 5 from by decide) rfl (xH174 hI.1 (xA173 (xINV_n hI).2.2.1 (xINV_n hI).1 (xINV_n hI).2.1)) (fun r0 X0 hq0 => ?_) (fun x0 X0 hq0 => by obtain ⟨_, _, _, e1, -⟩ := hq0; cases e1)
  obtain ⟨z0, f1, u1, e1, e2, hD0, b1, b2⟩ := hq0
  cases e1
  subst e2
  have hI1 := xINV_D hI hD0
  have hF1 := xFT_D hF hD0
  show xz v0 xs u1 Q 177 593 _ (xi z0 :: []) f1
  refine x_istore rfl (show (5 : Nat) < 7 from by decide) ?_
  refine x_aload_n rfl (xst_ne (by decide) l2 (Or.inl rfl)) ?_
  refine x_aload_n rfl (xst_ne (by decide) l0 (Or.inl rfl)) ?_
  refine x_iload rfl (xst_ne (by decide) l4 (Or.inl rfl)) ?_
  refine x_iconst rfl ?_
  refine x_iadd rfl ?_
  refine x_gia rfl ⟨by omega, by omega⟩ (by omega) ?_
  refine x_aload_n rfl (xst_ne (by decide) l0 (Or.inl rfl)) ?_
  refine x_iload rfl (xst_ne (by decide) l4 (Or.inl rfl)) ?_
  refine x_iconst rfl ?_
  refine x_iadd rfl ?_
  refine x_gia rfl ⟨by omega, by omega⟩ (by omega) ?_
  obtain ⟨-, -, -, -, ⟨_, _, _, _, _, _, _, _, _, _, _, _, _, _, _, h177_1, -⟩, -⟩ := id hI1
  refine x_call [_, _, _] rfl rfl (show (0 : Nat) ≤ 8 from by decide) (show (3 : Nat) ≤ 9 from by decide) (x_rcv (by decide) h177_1) (xca_q (xA176 hI1.1) (vs := [.ref 177, xi _, xi _]) ⟨ygr, ygt, ygt, trivial⟩) (fun r1 f2 hP1 => ?_)
  obtain ⟨hr1, hD1⟩ := hP1
  have hI2 := xINV_D hI1 hD1
  have hF2 := xFT_D hF1 hD1
  match r1, hr1 with
  | none, hr => exact hr.elim
  | some v, hr =>
    obtain ⟨y1, rfl, -, -⟩ := yg_i hr
    show xz v0 xs u1 Q 177 611 _ (xi y1 :: []) f2
    refine x_istore rfl (show (6 : Nat) < 7 from by decide) ?_
    refine x_goto (t := 616) rfl rfl ?_
    exact K _ _ _ _ _ _ _ _ _ (xst_ne (by decide) (xst_ne (by decide) l0 (Or.inl rfl)) (Or.inl rfl)) (xst_ne (by decide) (xst_ne (by decide) l1 (Or.inl rfl)) (Or.inl rfl)) (xst_ne (by decide) (xst_ne (by decide) l2 (Or.inl rfl)) (Or.inl rfl)) (xst_ne (by decide) (xst_ne (by decide) l3 (Or.inl rfl)) (Or.inl rfl)) (xst_ne (by decide) (xst_ne (by decide) l4 (Or.inl rfl)) (Or.inl rfl)) hI2 hF2 b1 b2
def xCW (g : Int64) (n : Nat) (cs : List Int) (f f1 : Nat → zE) (z : Int) : Prop := (¬ xfits g (n : Nat) ∧ z = 0 ∧ f1 = f) ∨ (xfits g (n : Nat) ∧ z = 1 ∧ f1 51 = .inl (1, [.ref 52, xi ((n : Nat) + xcn g 8)]) ∧ f1 52 = xr 1 (xwr g (n : Nat) cs 8) ∧ ∀ p, p ≠ 51 → p ≠ 52 → f1 p = f p)
theorem xK0a {v0 : Value} {xs : List Int32} {u : Nat × Nat} {Q : zO → zX → Prop} {f : Nat → zE} {lv : zL} {n : Nat} {cs : List Int} {nms : List (List Int)} {bc dp tk0 : Nat → Int} {g : Int64} (hI : xINV f n cs nms bc dp tk0) (k : ∀ (z : Int) (f1 : Nat → zE), xCW g n cs f f1 z → xz v0 xs u Q 177 150 lv [xi z] f1) : xz v0 xs u Q 177 147 lv [.long g, .ref 50] f := by
  obtain ⟨hM, ⟨t1, t2, t3, t4, t5, t6⟩, -⟩ := hI
  obtain ⟨dd, lf, lc, h50, -⟩ := xINV_50 hM
  refine x_call [_, _] rfl rfl (show (0 : Nat) ≤ 8 from by decide) (show (3 : Nat) ≤ 3 from by decide) (x_rcv (by decide) h50) (xs_20 h50 t4 t5 (by omega) t2) (fun r1 f1 hP => ?_)
  rcases hP with ⟨rfl, b, c⟩ | ⟨rfl, b⟩
  · exact k 0 f1 (Or.inl ⟨b, rfl, c⟩)
  · exact k 1 f1 (Or.inr ⟨b.1, rfl, b.2⟩)
theorem xK0b {v0 : Value} {xs : List Int32} {u : Nat × Nat} {Q : zO → zX → Prop} {f f1 : Nat → zE} {lv : zL} {i : Nat} {n : Nat} {cs : List Int} {nms : List (List Int)} {bc dp tk0 : Nat → Int} {g : Int64} {z : Int} (l0 : zlv lv 0 = some (.ref 0)) (l1 : zlv lv 1 = some (.ref 50)) (l2 : zlv lv 2 = some (.ref 177)) (l3 : zlv lv 3 = some (.ref 203)) (l4 : zlv lv 4 = some (xi (i : Nat))) (hI : xINV f n cs nms bc dp tk0) (hF : xFT f) (K : xKN v0 xs u Q i) (hP : xCW g n cs f f1 z) : xz v0 xs u Q 177 174 lv [.long g, .ref 177] f1 := by
  obtain ⟨hM, ⟨t1, t2, t3, t4, t5, t6⟩, -, -, ⟨cd, fa, ki, be, en, wo, nu, pa0, op, q, nl, m0, d0, tmM, oaM, k177, -⟩, -⟩ := id hI
  have P1 : ∀ p, p ≠ 51 → p ≠ 52 → f1 p = f p := by
    rcases hP with ⟨-, -, rfl⟩ | ⟨-, -, -, -, h⟩
    · exact fun _ _ _ => rfl
    · exact h
  refine x_call [_, _] rfl rfl (show (0 : Nat) ≤ 8 from by decide) (show (3 : Nat) ≤ 6 from by decide) (x_rcv (by decide) ((P1 177 (by decide) (by decide)).trans k177)) (xs_21 (by omega) t2 ((P1 177 (by decide) (by decide)).trans k177) ((P1 178 (by decide) (by decide)).trans t6)) (fun r2 f2 hP2 => ?_)
  rcases hP2 with ⟨rfl, hnf, h177, hfr⟩ | ⟨rfl, hf, h177, h178, hfr⟩
  · rcases hP with ⟨-, rfl, rfl⟩ | ⟨hf, -⟩
    · show xz v0 xs u Q 177 177 lv [xi 0] f2
      refine x_pop rfl ?_
      refine x_goto (t := 616) rfl rfl ?_
      exact K _ _ _ _ _ _ _ _ _ l0 l1 l2 l3 l4 (xINV_tx (n' := n) (cs' := cs) hI t1 t2 t3 ((hfr 51 (by decide)).trans t4) ((hfr 52 (by decide)).trans t5) ((hfr 178 (by decide)).trans t6) ⟨0, _, k177, h177⟩ (fun p _ _ h _ => hfr p h)) (xFT_tx (v := xi 0) (w := xi (n : Nat)) hF (hfr 50 (by decide)) k177 h177) (by omega) (by omega)
    · exact absurd hf hnf
  · rcases hP with ⟨hnf, -⟩ | ⟨-, rfl, h51, h52, -⟩
    · exact absurd hf hnf
    · show xz v0 xs u Q 177 177 lv [xi 1] f2
      refine x_pop rfl ?_
      refine x_goto (t := 616) rfl rfl ?_
      have hcn := xcn_rg g 8
      obtain ⟨m, hm⟩ : ∃ m : Nat, (m : Int) = (n : Nat) + xcn g 8 := ⟨((n : Nat) + xcn g 8).toNat, by omega⟩
      rw [← hm] at h51 h177
      have hf2 := hf.2
      exact K _ _ _ _ _ _ _ _ _ l0 l1 l2 l3 l4 (xINV_tx (n' := m) (cs' := xwr g (n : Nat) cs 8) hI (by omega) (by rw [xwr_len]; exact t2) (xwr_rg t3 8 hf.1) ((hfr 51 (by decide) (by decide)).trans h51) ((hfr 52 (by decide) (by decide)).trans h52) h178 ⟨0, _, k177, h177⟩ (fun p h1 h2 h3 h4 => (hfr p h3 h4).trans (P1 p h1 h2))) (xFT_tx (v := xi 0) (w := xi (m : Nat)) hF ((hfr 50 (by decide) (by decide)).trans (P1 50 (by decide) (by decide))) k177 h177) (by omega) (by omega)
set_option maxRecDepth 20000 in
theorem xK0 {v0 : Value} {xs : List Int32} {u : Nat × Nat} {Q : zO → zX → Prop} {f : Nat → zE} {lv : zL} {i : Nat} {n : Nat} {cs : List Int} {nms : List (List Int)} {bc dp tk0 : Nat → Int} (hxs : xs.length ≤ 1536) (hi : i + 3 ≤ xs.length) (l0 : zlv lv 0 = some (.ref 0)) (l1 : zlv lv 1 = some (.ref 50)) (l2 : zlv lv 2 = some (.ref 177)) (l3 : zlv lv 3 = some (.ref 203)) (l4 : zlv lv 4 = some (xi (i : Nat))) (hI : xINV f n cs nms bc dp tk0) (hF : xFT f) (K : xKN v0 xs u Q i) : xz v0 xs u Q 177 124 lv [] f := by
  refine x_aload_n rfl l1 ?_
  refine x_aload_n rfl l0 ?_
  refine x_iload rfl l4 ?_
  refine x_iconst rfl ?_
  refine x_iadd rfl ?_
  refine x_gia rfl ⟨by omega, by omega⟩ (by omega) ?_
  refine x_i2l rfl ?_
  refine x_bipush rfl (by decide) ?_
  refine x_lshl rfl ?_
  refine x_aload_n rfl l0 ?_
  refine x_iload rfl l4 ?_
  refine x_iconst rfl ?_
  refine x_iadd rfl ?_
  refine x_gia rfl ⟨by omega, by omega⟩ (by omega) ?_
  refine x_i2l rfl ?_
  refine x_ldc2 rfl ?_
  refine x_land rfl ?_
  refine x_lor rfl ?_
  refine xK0a hI (fun z f1 hP => ?_)
  refine x_pop rfl ?_
  refine x_aload_n rfl l2 ?_
  refine x_aload_n rfl l0 ?_
  refine x_iload rfl l4 ?_
  refine x_iconst rfl ?_
  refine x_iadd rfl ?_
  refine x_gia rfl ⟨by omega, by omega⟩ (by omega) ?_
  refine x_i2l rfl ?_
  refine x_bipush rfl (by decide) ?_
  refine x_lshl rfl ?_
  refine x_aload_n rfl l0 ?_
  refine x_iload rfl l4 ?_
  refine x_iconst rfl ?_
  refine x_iadd rfl ?_
  refine x_gia rfl ⟨by omega, by omega⟩ (by omega) ?_
  refine x_i2l rfl ?_
  refine x_ldc2 rfl ?_
  refine x_land rfl ?_
  refine x_lor rfl ?_
  exact xK0b l0 l1 l2 l3 l4 hI hF K hP
set_option maxRecDepth 20000 in
theorem xK1 {v0 : Value} {xs : List Int32} {u : Nat × Nat} {Q : zO → zX → Prop} {f : Nat → zE} {lv : zL} {i : Nat} {n : Nat} {cs : List Int} {nms : List (List Int)} {bc dp tk0 : Nat → Int} (hxs : xs.length ≤ 1536) (hi : i + 3 ≤ xs.length) (l0 : zlv lv 0 = some (.ref 0)) (l1 : zlv lv 1 = some (.ref 50)) (l2 : zlv lv 2 = some (.ref 177)) (l3 : zlv lv 3 = some (.ref 203)) (l4 : zlv lv 4 = some (xi (i : Nat))) (hI : xINV f n cs nms bc dp tk0) (hF : xFT f) (K : xKN v0 xs u Q i) : xz v0 xs u Q 177 181 lv [] f := by
  obtain ⟨hM, ⟨t1, t2, t3, t4, t5, t6⟩, -, -, ⟨cd, fa, ki, be, en, wo, nu, pa0, op, q, nl, m0, d0, tmM, oaM, k177, -⟩, -⟩ := id hI
  obtain ⟨dd, lf, lc, h50, -⟩ := xINV_50 hM
  refine x_aload_n rfl l1 ?_
  refine x_call [_] rfl rfl (show (0 : Nat) ≤ 8 from by decide) (show (1 : Nat) ≤ 1 from by decide) (x_rcv (by decide) h50) (xs_23 h50 t4) (fun r1 f1 hP => ?_)
  obtain ⟨rfl, rfl⟩ := hP
  show xz v0 xs u Q 177 185 lv [xi (n : Nat)] _
  refine x_pop rfl ?_
  refine x_aload_n rfl l2 ?_
  refine x_call [_] rfl rfl (show (0 : Nat) ≤ 8 from by decide) (show (1 : Nat) ≤ 2 from by decide) (x_rcv (by decide) (xu_ne (by decide) k177)) (xs_24 (xu_ne (by decide) k177)) (fun r2 f2 hP => ?_)
  obtain ⟨rfl, h177, hfr⟩ := hP
  show xz v0 xs u Q 177 190 lv [xi (n : Nat)] f2
  refine x_pop rfl ?_
  refine x_goto (t := 616) rfl rfl ?_
  exact K _ _ _ _ _ _ _ _ _ l0 l1 l2 l3 l4 (xINV_tx (n' := 0) (cs' := cs) hI (by omega) t2 t3 ((hfr 51 (by decide)).trans xu_eq) ((hfr 52 (by decide)).trans (xu_ne (by decide) t5)) ((hfr 178 (by decide)).trans (xu_ne (by decide) t6)) ⟨0, _, k177, h177⟩ (fun p h1 _ h3 _ => (hfr p h3).trans (xu_ne h1 rfl))) (xFT_tx (v := xi 0) (w := xi 0) hF ((hfr 50 (by decide)).trans (xu_ne (by decide) rfl)) k177 h177) (by omega) (by omega)
theorem xs_83 {v0 : Value} {xs : List Int32} {u : Nat × Nat} {f : Nat → zE} {z : Int} {fs : List Value} (h : f 50 = .inl (0, fs)) (h0 : fs[11]? = some (xi z)) : xq v0 xs u 83 [(0, .ref 50)] f (fun r f' => r = some (xi z) ∧ f' = f) := by
  unfold xq
  refine x_aload_n rfl rfl ?_
  refine x_getfield rfl (by decide) h h0 ?_
  exact x_ireturn rfl (Or.inl rfl) ⟨_, _, rfl, rfl, rfl, rfl⟩
theorem xs_84 {v0 : Value} {xs : List Int32} {u : Nat × Nat} {f : Nat → zE} {z : Int} {fs : List Value} (h : f 177 = .inl (10, fs)) (h0 : fs[3]? = some (xi z)) : xq v0 xs u 84 [(0, .ref 177)] f (fun r f' => r = some (xi z) ∧ f' = xu f 177 (.inl (10, fs.set 0 (xi 0)))) := by
  unfold xq
  have hl : 3 < fs.length := (List.getElem?_eq_some_iff.mp h0).1
  refine x_aload_n rfl rfl ?_
  refine x_iconst rfl ?_
  refine x_putfield rfl (by decide) h (by omega) rfl ?_
  refine x_aload_n rfl rfl ?_
  refine x_getfield rfl (by decide) xu_eq (by rw [List.getElem?_set_ne (by decide)]; exact h0) ?_
  exact x_ireturn rfl (Or.inl rfl) ⟨_, _, rfl, rfl, rfl, rfl⟩
set_option maxRecDepth 20000 in
theorem xK3 {v0 : Value} {xs : List Int32} {u : Nat × Nat} {Q : zO → zX → Prop} {f : Nat → zE} {lv : zL} {i : Nat} {n : Nat} {cs : List Int} {nms : List (List Int)} {bc dp tk0 : Nat → Int} (hxs : xs.length ≤ 1536) (hi : i + 3 ≤ xs.length) (l0 : zlv lv 0 = some (.ref 0)) (l1 : zlv lv 1 = some (.ref 50)) (l2 : zlv lv 2 = some (.ref 177)) (l3 : zlv lv 3 = some (.ref 203)) (l4 : zlv lv 4 = some (xi (i : Nat))) (hI : xINV f n cs nms bc dp tk0) (hF : xFT f) (K : xKN v0 xs u Q i) : xz v0 xs u Q 177 210 lv [] f := by
  obtain ⟨z, hz, ⟨fs, h50, h11⟩, gs, h177, h3⟩ := id hF
  obtain ⟨hM, ⟨t1, t2, t3, t4, t5, t6⟩, -, -, ⟨cd, fa, ki, be, en, wo, nu, pa0, op, q, nl, m0, d0, tmM, oaM, k177, -⟩, -⟩ := id hI
  rw [k177] at h177
  cases h177
  refine x_aload_n rfl l1 ?_
  refine x_call [_] rfl rfl (show (0 : Nat) ≤ 8 from by decide) (show (1 : Nat) ≤ 1 from by decide) (x_rcv (by decide) h50) (xs_83 h50 h11) (fun r1 f1 hP => ?_)
  obtain ⟨rfl, rfl⟩ := hP
  refine x_aload_n rfl l2 ?_
  refine x_call [_] rfl rfl (show (1 : Nat) ≤ 8 from by decide) (show (1 : Nat) ≤ 1 from by decide) (x_rcv (by decide) k177) (xs_84 k177 h3) (fun r2 f2 hP => ?_)
  obtain ⟨rfl, rfl⟩ := hP
  refine x_ceq (t := 616) rfl rfl ⟨by omega, by omega⟩ ⟨by omega, by omega⟩ (fun _ => ?_) (fun h => absurd rfl h)
  exact K _ _ _ _ _ _ _ _ _ l0 l1 l2 l3 l4 (xINV_tx (n' := n) (cs' := cs) hI t1 t2 t3 (xu_ne (by decide) t4) (xu_ne (by decide) t5) (xu_ne (by decide) t6) ⟨0, _, k177, xu_eq⟩ (fun p _ _ h _ => xu_ne h rfl)) (xFT_cd hF k177) (by omega) (by omega)
