/-! The model's side of dancing: directions, moves. -/
theorem xs_111 {v0 : Value} {xs : List Int32} {u : Nat × Nat} {f : Nat → zE} {w : Int} (hw : -1000 ≤ w ∧ w ≤ 1000) : xq v0 xs u 111 [(0, xi w)] f (fun r' f' => r' = some (xi (sdx w)) ∧ f' = f) := by
  unfold xq
  refine x_iload_n rfl rfl ?_
  refine x_iconst rfl ?_
  refine x_cne (t := 9) rfl rfl ⟨by omega, by omega⟩ (by decide) (fun h1 => ?_) (fun h1 => ?_)
  · refine x_iload_n rfl rfl ?_
    refine x_iconst rfl ?_
    refine x_cne (t := 18) rfl rfl ⟨by omega, by omega⟩ (by decide) (fun h2 => ?_) (fun h2 => ?_)
    · refine x_iconst rfl ?_
      exact x_ireturn rfl (Or.inl rfl) ⟨_, _, rfl, rfl, by unfold sdx; rw [if_neg h1, if_neg h2], rfl⟩
    · refine x_iconst rfl ?_
      refine x_goto (t := 19) rfl rfl ?_
      exact x_ireturn rfl (Or.inl rfl) ⟨_, _, rfl, rfl, by unfold sdx; rw [if_neg h1, if_pos h2], rfl⟩
  · refine x_iconst rfl ?_
    refine x_goto (t := 19) rfl rfl ?_
    exact x_ireturn rfl (Or.inl rfl) ⟨_, _, rfl, rfl, by unfold sdx; rw [if_pos h1], rfl⟩
theorem xs_112 {v0 : Value} {xs : List Int32} {u : Nat × Nat} {f : Nat → zE} {w : Int} (hw : -1000 ≤ w ∧ w ≤ 1000) : xq v0 xs u 112 [(0, xi w)] f (fun r' f' => r' = some (xi (sdy w)) ∧ f' = f) := by
  unfold xq
  refine x_iload_n rfl rfl ?_
  refine x_ifne (t := 8) rfl rfl ⟨by omega, by omega⟩ (fun h1 => ?_) (fun h1 => ?_)
  · refine x_iload_n rfl rfl ?_
    refine x_iconst rfl ?_
    refine x_cne (t := 17) rfl rfl ⟨by omega, by omega⟩ (by decide) (fun h2 => ?_) (fun h2 => ?_)
    · refine x_iconst rfl ?_
      exact x_ireturn rfl (Or.inl rfl) ⟨_, _, rfl, rfl, by unfold sdy; rw [if_neg h1, if_neg h2], rfl⟩
    · refine x_iconst rfl ?_
      refine x_goto (t := 18) rfl rfl ?_
      exact x_ireturn rfl (Or.inl rfl) ⟨_, _, rfl, rfl, by unfold sdy; rw [if_neg h1, if_pos h2], rfl⟩
  · refine x_iconst rfl ?_
    refine x_goto (t := 18) rfl rfl ?_
    exact x_ireturn rfl (Or.inl rfl) ⟨_, _, rfl, rfl, by unfold sdy; rw [if_pos h1], rfl⟩
theorem xs_118 {v0 : Value} {xs : List Int32} {u : Nat × Nat} {f : Nat → zE} {a : Int} (ha : 0 ≤ a ∧ a ≤ 6) : xq v0 xs u 118 [(0, xi a)] f (fun r' f' => r' = some (xi (sexch a)) ∧ f' = f) := by
  unfold xq
  refine x_iload_n rfl rfl ?_
  refine x_ifne (t := 8) rfl rfl ⟨by omega, by omega⟩ (fun h1 => ?_) (fun h1 => ?_)
  · refine x_iload_n rfl rfl ?_
    refine x_iconst rfl ?_
    refine x_irem rfl ⟨by omega, by omega⟩ (by decide) ?_
    refine x_iconst rfl ?_
    refine x_cne (t := 21) rfl rfl ⟨by omega, by omega⟩ (by decide) (fun h2 => ?_) (fun h2 => ?_)
    · refine x_iload_n rfl rfl ?_
      refine x_iconst rfl ?_
      refine x_isub rfl ?_
      exact x_ireturn rfl (Or.inl rfl) ⟨_, _, rfl, rfl, by unfold sexch; rw [if_neg h1, if_neg h2], rfl⟩
    · refine x_iload_n rfl rfl ?_
      refine x_iconst rfl ?_
      refine x_iadd rfl ?_
      refine x_goto (t := 24) rfl rfl ?_
      exact x_ireturn rfl (Or.inl rfl) ⟨_, _, rfl, rfl, by unfold sexch; rw [if_neg h1, if_pos h2], rfl⟩
  · refine x_iconst rfl ?_
    refine x_goto (t := 24) rfl rfl ?_
    exact x_ireturn rfl (Or.inl rfl) ⟨_, _, rfl, rfl, by unfold sexch; rw [if_pos h1], rfl⟩
/-- the model's object, as far as dancing reads it -/
def sMO (f : Nat → zE) (fs : List Value) : Prop := f 177 = .inl (10, fs) ∧ fs.length = 41 ∧ (fs[11]? = some (.ref 180) ∧ fs[13]? = some (.ref 182) ∧ fs[14]? = some (.ref 183) ∧ fs[15]? = some (.ref 184) ∧ fs[17]? = some (.ref 185) ∧ fs[18]? = some (.ref 186)) ∧ fs[25]? = some (.ref 192) ∧ fs[26]? = some (.ref 193) ∧ fs[27]? = some (.ref 194)
/-- its rows of coordinates and facings -/
def sMC (f : Nat → zE) (ax ay af : List Int) : Prop := f 192 = xr 0 ax ∧ f 193 = xr 0 ay ∧ f 194 = xr 0 af ∧ ax.length = 144 ∧ ay.length = 144 ∧ af.length = 144
/-- one place of them -/
def sMP (ax ay af : List Int) (k : Int) (p : Int) : Prop := ax.getD k.toNat 0 = sX p ∧ ay.getD k.toNat 0 = sY p ∧ af.getD k.toNat 0 = sF p
/-- a row of eight places of them -/
def sML (ax ay af : List Int) (at' : Int) (r : Nat → Int) : Prop := 0 ≤ at' ∧ at' + 8 ≤ 144 ∧ ∀ d, d < 8 → sMP ax ay af (at' + (d : Nat)) (r d) ∧ sok (r d)
def mvx (p a : Int) : Int := sX p + (if 1 ≤ a ∧ a ≤ 4 then sdx (sway (sF p) a) else 0)
def mvy (p a : Int) : Int := sY p + (if 1 ≤ a ∧ a ≤ 4 then sdy (sway (sF p) a) else 0)
def mvf (p a : Int) : Int := (sF p + (if a = 5 then 3 else if a = 6 then 1 else 0)) % 4
theorem smv_xy {p a : Int} (hp : sok p) (ha : 0 ≤ a ∧ a ≤ 6) : (smv p a ≠ -1 ∧ mvx p a = sX (smv p a) ∧ mvy p a = sY (smv p a) ∧ mvf p a = sF (smv p a)) ∨ (smv p a = -1 ∧ (mvx p a < 0 ∨ 9 < mvx p a ∨ mvy p a < 0 ∨ 9 < mvy p a)) := by
  have x1 := sX_rg hp
  have y1 := sY_rg hp
  have f1 := sF_rg p
  have e0 := s_eq p
  by_cases h14 : 1 ≤ a ∧ a ≤ 4
  · have e1 : smv p a = sgo p (sway (sF p) a) := by unfold smv; rw [if_pos h14]
    have e2 : mvf p a = sF p := by unfold mvf; rw [if_neg (by omega), if_neg (by omega)]; omega
    have e3 : mvx p a = sX p + sdx (sway (sF p) a) := by unfold mvx; rw [if_pos h14]
    have e4 : mvy p a = sY p + sdy (sway (sF p) a) := by unfold mvy; rw [if_pos h14]
    rw [e1, e2, e3, e4]
    rcases sgo_ok (w := sway (sF p) a) hp with h | ⟨h1, h2, h3, h4⟩
    · right
      refine ⟨h, ?_⟩
      unfold sgo at h
      split at h
      · exfalso
        rename_i hc
        unfold sok at hp
        have d1 := sdx_rg (sway (sF p) a)
        have d2 := sdy_rg (sway (sF p) a)
        omega
      · omega
    · left
      refine ⟨?_, h2.symm, h3.symm, h4.symm⟩
      unfold sok at h1
      omega
  · have e3 : mvx p a = sX p := by unfold mvx; rw [if_neg h14, Int.add_zero]
    have e4 : mvy p a = sY p := by unfold mvy; rw [if_neg h14, Int.add_zero]
    left
    rw [e3, e4]
    unfold sok at hp
    unfold smv mvf
    rw [if_neg h14]
    rcases (show a = 0 ∨ a = 5 ∨ a = 6 by omega) with rfl | rfl | rfl
    · refine ⟨?_, rfl, rfl, ?_⟩
      · simp only [Int.reduceEq, if_false]; omega
      · simp only [Int.reduceEq, if_false]; omega
    · simp only [Int.reduceEq, if_true]
      unfold sX sY sF
      omega
    · simp only [Int.reduceEq, if_true, if_false]
      unfold sX sY sF
      omega
/-! The model's move: 113. -/
theorem xs_113 {v0 : Value} {xs : List Int32} {u : Nat × Nat} {f : Nat → zE} {fs : List Value} {ax ay af : List Int} {at' a p : Int} {d : Nat} (hmo : sMO f fs) (hmc : sMC f ax ay af) (hat : 0 ≤ at' ∧ at' + 16 ≤ 144) (hd : d < 8) (hp : sMP ax ay af (at' + (d : Nat)) p) (ha : 0 ≤ a ∧ a ≤ 6) : xq v0 xs u 113 [(0, .ref 177), (1, xi at'), (2, xi (d : Nat)), (3, xi a)] f (fun r' f' => r' = none ∧ sMC f' (ax.set (at' + 8 + (d : Nat)).toNat (mvx p a)) (ay.set (at' + 8 + (d : Nat)).toNat (mvy p a)) (af.set (at' + 8 + (d : Nat)).toNat (mvf p a)) ∧ ∀ q, q ≠ 192 → q ≠ 193 → q ≠ 194 → f' q = f q) := by
  unfold xq
  obtain ⟨h177, hfl, -, h25, h26, h27⟩ := hmo
  obtain ⟨h192, h193, h194, hx, hy, hf⟩ := hmc
  obtain ⟨px, py, pf⟩ := hp
  have f1 := sF_rg p
  refine x_aload_n rfl rfl ?_
  refine x_getfield rfl (by decide) h177 h27 ?_
  refine x_iload_n rfl rfl ?_
  refine x_iload_n rfl rfl ?_
  refine x_iadd rfl ?_
  refine x_iaload rfl (by decide) h194 ⟨by omega, by omega⟩ (by omega) ?_
  rw [pf]
  refine x_istore rfl (show (4 : Nat) < 7 from by decide) ?_
  rcases (show a = 0 ∨ a = 1 ∨ a = 2 ∨ a = 3 ∨ a = 4 ∨ a = 5 ∨ a = 6 by omega) with rfl | rfl | rfl | rfl | rfl | rfl | rfl
  · refine x_iload_n rfl (xst_ne (by decide) rfl (Or.inl rfl)) ?_
    refine x_iconst rfl ?_
    refine x_cne (t := 20) rfl rfl (by decide) (by decide) (fun _ => ?_) (fun h => absurd h (by decide))
    refine x_iload_n rfl (xst_ne (by decide) rfl (Or.inl rfl)) ?_
    refine x_iconst rfl ?_
    refine x_cne (t := 32) rfl rfl (by decide) (by decide) (fun _ => ?_) (fun h => absurd h (by decide))
    refine x_iload_n rfl (xst_ne (by decide) rfl (Or.inl rfl)) ?_
    refine x_iconst rfl ?_
    refine x_cne (t := 44) rfl rfl (by decide) (by decide) (fun _ => ?_) (fun h => absurd h (by decide))
    refine x_iload rfl xst_eq ?_
    refine x_iconst rfl ?_
    refine x_iadd rfl ?_
    refine x_istore rfl (show (5 : Nat) < 7 from by decide) ?_
    refine x_iload_n rfl (xst_ne (by decide) (xst_ne (by decide) rfl (Or.inl rfl)) (Or.inl rfl)) ?_
    refine x_iconst rfl ?_
    refine x_clt (t := 64) rfl rfl (by decide) (by decide) (fun _ => ?_) (fun h => absurd h (by decide))
    refine x_iconst rfl ?_
    refine x_istore rfl (show (6 : Nat) < 7 from by decide) ?_
    refine x_aload_n rfl (xst_ne (by decide) (xst_ne (by decide) (xst_ne (by decide) rfl (Or.inl rfl)) (Or.inl rfl)) (Or.inl rfl)) ?_
    refine x_getfield rfl (by decide) h177 h25 ?_
    refine x_iload_n rfl (xst_ne (by decide) (xst_ne (by decide) (xst_ne (by decide) rfl (Or.inl rfl)) (Or.inl rfl)) (Or.inl rfl)) ?_
    refine x_bipush rfl (by decide) ?_
    refine x_iadd rfl ?_
    refine x_iload_n rfl (xst_ne (by decide) (xst_ne (by decide) (xst_ne (by decide) rfl (Or.inl rfl)) (Or.inl rfl)) (Or.inl rfl)) ?_
    refine x_iadd rfl ?_
    refine x_aload_n rfl (xst_ne (by decide) (xst_ne (by decide) (xst_ne (by decide) rfl (Or.inl rfl)) (Or.inl rfl)) (Or.inl rfl)) ?_
    refine x_getfield rfl (by decide) h177 h25 ?_
    refine x_iload_n rfl (xst_ne (by decide) (xst_ne (by decide) (xst_ne (by decide) rfl (Or.inl rfl)) (Or.inl rfl)) (Or.inl rfl)) ?_
    refine x_iload_n rfl (xst_ne (by decide) (xst_ne (by decide) (xst_ne (by decide) rfl (Or.inl rfl)) (Or.inl rfl)) (Or.inl rfl)) ?_
    refine x_iadd rfl ?_
    refine x_iaload rfl (by decide) h192 ⟨by omega, by omega⟩ (by omega) ?_
    rw [px]
    refine x_iload rfl xst_eq ?_
    refine x_ifeq (t := 100) rfl rfl (by decide) (fun _ => ?_) (fun h => absurd h (by decide))
    refine x_iconst rfl ?_
    refine x_iadd rfl ?_
    refine x_iastore rfl (by decide) h192 ⟨by omega, by omega⟩ (by omega) ?_
    refine x_aload_n rfl (xst_ne (by decide) (xst_ne (by decide) (xst_ne (by decide) rfl (Or.inl rfl)) (Or.inl rfl)) (Or.inl rfl)) ?_
    refine x_getfield rfl (by decide) (xu_ne (by decide) h177) h26 ?_
    refine x_iload_n rfl (xst_ne (by decide) (xst_ne (by decide) (xst_ne (by decide) rfl (Or.inl rfl)) (Or.inl rfl)) (Or.inl rfl)) ?_
    refine x_bipush rfl (by decide) ?_
    refine x_iadd rfl ?_
    refine x_iload_n rfl (xst_ne (by decide) (xst_ne (by decide) (xst_ne (by decide) rfl (Or.inl rfl)) (Or.inl rfl)) (Or.inl rfl)) ?_
    refine x_iadd rfl ?_
    refine x_aload_n rfl (xst_ne (by decide) (xst_ne (by decide) (xst_ne (by decide) rfl (Or.inl rfl)) (Or.inl rfl)) (Or.inl rfl)) ?_
    refine x_getfield rfl (by decide) (xu_ne (by decide) h177) h26 ?_
    refine x_iload_n rfl (xst_ne (by decide) (xst_ne (by decide) (xst_ne (by decide) rfl (Or.inl rfl)) (Or.inl rfl)) (Or.inl rfl)) ?_
    refine x_iload_n rfl (xst_ne (by decide) (xst_ne (by decide) (xst_ne (by decide) rfl (Or.inl rfl)) (Or.inl rfl)) (Or.inl rfl)) ?_
    refine x_iadd rfl ?_
    refine x_iaload rfl (by decide) (xu_ne (by decide) h193) ⟨by omega, by omega⟩ (by omega) ?_
    rw [py]
    refine x_iload rfl xst_eq ?_
    refine x_ifeq (t := 136) rfl rfl (by decide) (fun _ => ?_) (fun h => absurd h (by decide))
    refine x_iconst rfl ?_
    refine x_iadd rfl ?_
    refine x_iastore rfl (by decide) (xu_ne (by decide) h193) ⟨by omega, by omega⟩ (by omega) ?_
    refine x_aload_n rfl (xst_ne (by decide) (xst_ne (by decide) (xst_ne (by decide) rfl (Or.inl rfl)) (Or.inl rfl)) (Or.inl rfl)) ?_
    refine x_getfield rfl (by decide) (xu_ne (by decide) (xu_ne (by decide) h177)) h27 ?_
    refine x_iload_n rfl (xst_ne (by decide) (xst_ne (by decide) (xst_ne (by decide) rfl (Or.inl rfl)) (Or.inl rfl)) (Or.inl rfl)) ?_
    refine x_bipush rfl (by decide) ?_
    refine x_iadd rfl ?_
    refine x_iload_n rfl (xst_ne (by decide) (xst_ne (by decide) (xst_ne (by decide) rfl (Or.inl rfl)) (Or.inl rfl)) (Or.inl rfl)) ?_
    refine x_iadd rfl ?_
    refine x_iload rfl (xst_ne (by decide) (xst_ne (by decide) xst_eq (Or.inl rfl)) (Or.inl rfl)) ?_
    refine x_iload_n rfl (xst_ne (by decide) (xst_ne (by decide) (xst_ne (by decide) rfl (Or.inl rfl)) (Or.inl rfl)) (Or.inl rfl)) ?_
    refine x_iconst rfl ?_
    refine x_cne (t := 160) rfl rfl (by decide) (by decide) (fun _ => ?_) (fun h => absurd h (by decide))
    refine x_iload_n rfl (xst_ne (by decide) (xst_ne (by decide) (xst_ne (by decide) rfl (Or.inl rfl)) (Or.inl rfl)) (Or.inl rfl)) ?_
    refine x_bipush rfl (by decide) ?_
    refine x_cne (t := 170) rfl rfl (by decide) (by decide) (fun _ => ?_) (fun h => absurd h (by decide))
    refine x_iconst rfl ?_
    refine x_iadd rfl ?_
    refine x_iconst rfl ?_
    refine x_irem rfl ⟨by omega, by omega⟩ (by decide) ?_
    refine x_iastore rfl (by decide) (xu_ne (by decide) (xu_ne (by decide) h194)) ⟨by omega, by omega⟩ (by omega) ?_
    refine x_return rfl ⟨_, _, rfl, rfl, rfl, ⟨?_, ?_, ?_, by rw [List.length_set]; exact hx, by rw [List.length_set]; exact hy, by rw [List.length_set]; exact hf⟩, fun q a1 a2 a3 => xu_ne a3 (xu_ne a2 (xu_ne a1 rfl))⟩
    · refine (xu_ne (by decide) (xu_ne (by decide) xu_eq)).trans (congrArg (fun z => xr 0 (ax.set (at' + 8 + (d : Nat)).toNat z)) ?_)
      rfl
    · refine (xu_ne (by decide) xu_eq).trans (congrArg (fun z => xr 0 (ay.set (at' + 8 + (d : Nat)).toNat z)) ?_)
      rfl
    · refine xu_eq.trans (congrArg (fun z => xr 0 (af.set (at' + 8 + (d : Nat)).toNat z)) ?_)
      rfl
  · refine x_iload_n rfl (xst_ne (by decide) rfl (Or.inl rfl)) ?_
    refine x_iconst rfl ?_
    refine x_cne (t := 20) rfl rfl (by decide) (by decide) (fun h => absurd h (by decide)) (fun _ => ?_)
    refine x_iload rfl xst_eq ?_
    refine x_goto (t := 48) rfl rfl ?_
    refine x_istore rfl (show (5 : Nat) < 7 from by decide) ?_
    refine x_iload_n rfl (xst_ne (by decide) (xst_ne (by decide) rfl (Or.inl rfl)) (Or.inl rfl)) ?_
    refine x_iconst rfl ?_
    refine x_clt (t := 64) rfl rfl (by decide) (by decide) (fun h => absurd h (by decide)) (fun _ => ?_)
    refine x_iload_n rfl (xst_ne (by decide) (xst_ne (by decide) rfl (Or.inl rfl)) (Or.inl rfl)) ?_
    refine x_iconst rfl ?_
    refine x_cgt (t := 64) rfl rfl (by decide) (by decide) (fun h => absurd h (by decide)) (fun _ => ?_)
    refine x_iconst rfl ?_
    refine x_goto (t := 65) rfl rfl ?_
    refine x_istore rfl (show (6 : Nat) < 7 from by decide) ?_
    refine x_aload_n rfl (xst_ne (by decide) (xst_ne (by decide) (xst_ne (by decide) rfl (Or.inl rfl)) (Or.inl rfl)) (Or.inl rfl)) ?_
    refine x_getfield rfl (by decide) h177 h25 ?_
    refine x_iload_n rfl (xst_ne (by decide) (xst_ne (by decide) (xst_ne (by decide) rfl (Or.inl rfl)) (Or.inl rfl)) (Or.inl rfl)) ?_
    refine x_bipush rfl (by decide) ?_
    refine x_iadd rfl ?_
    refine x_iload_n rfl (xst_ne (by decide) (xst_ne (by decide) (xst_ne (by decide) rfl (Or.inl rfl)) (Or.inl rfl)) (Or.inl rfl)) ?_
    refine x_iadd rfl ?_
    refine x_aload_n rfl (xst_ne (by decide) (xst_ne (by decide) (xst_ne (by decide) rfl (Or.inl rfl)) (Or.inl rfl)) (Or.inl rfl)) ?_
    refine x_getfield rfl (by decide) h177 h25 ?_
    refine x_iload_n rfl (xst_ne (by decide) (xst_ne (by decide) (xst_ne (by decide) rfl (Or.inl rfl)) (Or.inl rfl)) (Or.inl rfl)) ?_
    refine x_iload_n rfl (xst_ne (by decide) (xst_ne (by decide) (xst_ne (by decide) rfl (Or.inl rfl)) (Or.inl rfl)) (Or.inl rfl)) ?_
    refine x_iadd rfl ?_
    refine x_iaload rfl (by decide) h192 ⟨by omega, by omega⟩ (by omega) ?_
    rw [px]
    refine x_iload rfl xst_eq ?_
    refine x_ifeq (t := 100) rfl rfl (by decide) (fun h => absurd h (by decide)) (fun _ => ?_)
    refine x_iload rfl (xst_ne (by decide) xst_eq (Or.inl rfl)) ?_
    refine x_iconst rfl ?_
    refine x_irem rfl ⟨by omega, by omega⟩ (by decide) ?_
    refine x_call [_] rfl rfl (show (3 : Nat) ≤ 8 from by decide) (show (1 : Nat) ≤ 1 from by decide) rfl (xs_111 ⟨by omega, by omega⟩) (fun r' f9 hP => ?_)
    obtain ⟨rfl, hPe⟩ := hP
    subst hPe
    refine x_goto (t := 101) rfl rfl ?_
    refine x_iadd rfl ?_
    refine x_iastore rfl (by decide) h192 ⟨by omega, by omega⟩ (by omega) ?_
    refine x_aload_n rfl (xst_ne (by decide) (xst_ne (by decide) (xst_ne (by decide) rfl (Or.inl rfl)) (Or.inl rfl)) (Or.inl rfl)) ?_
    refine x_getfield rfl (by decide) (xu_ne (by decide) h177) h26 ?_
    refine x_iload_n rfl (xst_ne (by decide) (xst_ne (by decide) (xst_ne (by decide) rfl (Or.inl rfl)) (Or.inl rfl)) (Or.inl rfl)) ?_
    refine x_bipush rfl (by decide) ?_
    refine x_iadd rfl ?_
    refine x_iload_n rfl (xst_ne (by decide) (xst_ne (by decide) (xst_ne (by decide) rfl (Or.inl rfl)) (Or.inl rfl)) (Or.inl rfl)) ?_
    refine x_iadd rfl ?_
    refine x_aload_n rfl (xst_ne (by decide) (xst_ne (by decide) (xst_ne (by decide) rfl (Or.inl rfl)) (Or.inl rfl)) (Or.inl rfl)) ?_
    refine x_getfield rfl (by decide) (xu_ne (by decide) h177) h26 ?_
    refine x_iload_n rfl (xst_ne (by decide) (xst_ne (by decide) (xst_ne (by decide) rfl (Or.inl rfl)) (Or.inl rfl)) (Or.inl rfl)) ?_
    refine x_iload_n rfl (xst_ne (by decide) (xst_ne (by decide) (xst_ne (by decide) rfl (Or.inl rfl)) (Or.inl rfl)) (Or.inl rfl)) ?_
    refine x_iadd rfl ?_
    refine x_iaload rfl (by decide) (xu_ne (by decide) h193) ⟨by omega, by omega⟩ (by omega) ?_
    rw [py]
    refine x_iload rfl xst_eq ?_
    refine x_ifeq (t := 136) rfl rfl (by decide) (fun h => absurd h (by decide)) (fun _ => ?_)
    refine x_iload rfl (xst_ne (by decide) xst_eq (Or.inl rfl)) ?_
    refine x_iconst rfl ?_
    refine x_irem rfl ⟨by omega, by omega⟩ (by decide) ?_
    refine x_call [_] rfl rfl (show (3 : Nat) ≤ 8 from by decide) (show (1 : Nat) ≤ 1 from by decide) rfl (xs_112 ⟨by omega, by omega⟩) (fun r' f9 hP => ?_)
    obtain ⟨rfl, hPe⟩ := hP
    subst hPe
    refine x_goto (t := 137) rfl rfl ?_
    refine x_iadd rfl ?_
    refine x_iastore rfl (by decide) (xu_ne (by decide) h193) ⟨by omega, by omega⟩ (by omega) ?_
    refine x_aload_n rfl (xst_ne (by decide) (xst_ne (by decide) (xst_ne (by decide) rfl (Or.inl rfl)) (Or.inl rfl)) (Or.inl rfl)) ?_
    refine x_getfield rfl (by decide) (xu_ne (by decide) (xu_ne (by decide) h177)) h27 ?_
    refine x_iload_n rfl (xst_ne (by decide) (xst_ne (by decide) (xst_ne (by decide) rfl (Or.inl rfl)) (Or.inl rfl)) (Or.inl rfl)) ?_
    refine x_bipush rfl (by decide) ?_
    refine x_iadd rfl ?_
    refine x_iload_n rfl (xst_ne (by decide) (xst_ne (by decide) (xst_ne (by decide) rfl (Or.inl rfl)) (Or.inl rfl)) (Or.inl rfl)) ?_
    refine x_iadd rfl ?_
    refine x_iload rfl (xst_ne (by decide) (xst_ne (by decide) xst_eq (Or.inl rfl)) (Or.inl rfl)) ?_
    refine x_iload_n rfl (xst_ne (by decide) (xst_ne (by decide) (xst_ne (by decide) rfl (Or.inl rfl)) (Or.inl rfl)) (Or.inl rfl)) ?_
    refine x_iconst rfl ?_
    refine x_cne (t := 160) rfl rfl (by decide) (by decide) (fun _ => ?_) (fun h => absurd h (by decide))
    refine x_iload_n rfl (xst_ne (by decide) (xst_ne (by decide) (xst_ne (by decide) rfl (Or.inl rfl)) (Or.inl rfl)) (Or.inl rfl)) ?_
    refine x_bipush rfl (by decide) ?_
    refine x_cne (t := 170) rfl rfl (by decide) (by decide) (fun _ => ?_) (fun h => absurd h (by decide))
    refine x_iconst rfl ?_
    refine x_iadd rfl ?_
    refine x_iconst rfl ?_
    refine x_irem rfl ⟨by omega, by omega⟩ (by decide) ?_
    refine x_iastore rfl (by decide) (xu_ne (by decide) (xu_ne (by decide) h194)) ⟨by omega, by omega⟩ (by omega) ?_
    refine x_return rfl ⟨_, _, rfl, rfl, rfl, ⟨?_, ?_, ?_, by rw [List.length_set]; exact hx, by rw [List.length_set]; exact hy, by rw [List.length_set]; exact hf⟩, fun q a1 a2 a3 => xu_ne a3 (xu_ne a2 (xu_ne a1 rfl))⟩
    · refine (xu_ne (by decide) (xu_ne (by decide) xu_eq)).trans (congrArg (fun z => xr 0 (ax.set (at' + 8 + (d : Nat)).toNat z)) ?_)
      rfl
    · refine (xu_ne (by decide) xu_eq).trans (congrArg (fun z => xr 0 (ay.set (at' + 8 + (d : Nat)).toNat z)) ?_)
      rfl
    · refine xu_eq.trans (congrArg (fun z => xr 0 (af.set (at' + 8 + (d : Nat)).toNat z)) ?_)
      rfl
  · refine x_iload_n rfl (xst_ne (by decide) rfl (Or.inl rfl)) ?_
    refine x_iconst rfl ?_
    refine x_cne (t := 20) rfl rfl (by decide) (by decide) (fun _ => ?_) (fun h => absurd h (by decide))
    refine x_iload_n rfl (xst_ne (by decide) rfl (Or.inl rfl)) ?_
    refine x_iconst rfl ?_
    refine x_cne (t := 32) rfl rfl (by decide) (by decide) (fun h => absurd h (by decide)) (fun _ => ?_)
    refine x_iload rfl xst_eq ?_
    refine x_iconst rfl ?_
    refine x_iadd rfl ?_
    refine x_goto (t := 48) rfl rfl ?_
    refine x_istore rfl (show (5 : Nat) < 7 from by decide) ?_
    refine x_iload_n rfl (xst_ne (by decide) (xst_ne (by decide) rfl (Or.inl rfl)) (Or.inl rfl)) ?_
    refine x_iconst rfl ?_
    refine x_clt (t := 64) rfl rfl (by decide) (by decide) (fun h => absurd h (by decide)) (fun _ => ?_)
    refine x_iload_n rfl (xst_ne (by decide) (xst_ne (by decide) rfl (Or.inl rfl)) (Or.inl rfl)) ?_
    refine x_iconst rfl ?_
    refine x_cgt (t := 64) rfl rfl (by decide) (by decide) (fun h => absurd h (by decide)) (fun _ => ?_)
    refine x_iconst rfl ?_
    refine x_goto (t := 65) rfl rfl ?_
    refine x_istore rfl (show (6 : Nat) < 7 from by decide) ?_
    refine x_aload_n rfl (xst_ne (by decide) (xst_ne (by decide) (xst_ne (by decide) rfl (Or.inl rfl)) (Or.inl rfl)) (Or.inl rfl)) ?_
    refine x_getfield rfl (by decide) h177 h25 ?_
    refine x_iload_n rfl (xst_ne (by decide) (xst_ne (by decide) (xst_ne (by decide) rfl (Or.inl rfl)) (Or.inl rfl)) (Or.inl rfl)) ?_
    refine x_bipush rfl (by decide) ?_
    refine x_iadd rfl ?_
    refine x_iload_n rfl (xst_ne (by decide) (xst_ne (by decide) (xst_ne (by decide) rfl (Or.inl rfl)) (Or.inl rfl)) (Or.inl rfl)) ?_
    refine x_iadd rfl ?_
    refine x_aload_n rfl (xst_ne (by decide) (xst_ne (by decide) (xst_ne (by decide) rfl (Or.inl rfl)) (Or.inl rfl)) (Or.inl rfl)) ?_
    refine x_getfield rfl (by decide) h177 h25 ?_
    refine x_iload_n rfl (xst_ne (by decide) (xst_ne (by decide) (xst_ne (by decide) rfl (Or.inl rfl)) (Or.inl rfl)) (Or.inl rfl)) ?_
    refine x_iload_n rfl (xst_ne (by decide) (xst_ne (by decide) (xst_ne (by decide) rfl (Or.inl rfl)) (Or.inl rfl)) (Or.inl rfl)) ?_
    refine x_iadd rfl ?_
    refine x_iaload rfl (by decide) h192 ⟨by omega, by omega⟩ (by omega) ?_
    rw [px]
    refine x_iload rfl xst_eq ?_
    refine x_ifeq (t := 100) rfl rfl (by decide) (fun h => absurd h (by decide)) (fun _ => ?_)
    refine x_iload rfl (xst_ne (by decide) xst_eq (Or.inl rfl)) ?_
    refine x_iconst rfl ?_
    refine x_irem rfl ⟨by omega, by omega⟩ (by decide) ?_
    refine x_call [_] rfl rfl (show (3 : Nat) ≤ 8 from by decide) (show (1 : Nat) ≤ 1 from by decide) rfl (xs_111 ⟨by omega, by omega⟩) (fun r' f9 hP => ?_)
    obtain ⟨rfl, hPe⟩ := hP
    subst hPe
    refine x_goto (t := 101) rfl rfl ?_
    refine x_iadd rfl ?_
    refine x_iastore rfl (by decide) h192 ⟨by omega, by omega⟩ (by omega) ?_
    refine x_aload_n rfl (xst_ne (by decide) (xst_ne (by decide) (xst_ne (by decide) rfl (Or.inl rfl)) (Or.inl rfl)) (Or.inl rfl)) ?_
    refine x_getfield rfl (by decide) (xu_ne (by decide) h177) h26 ?_
    refine x_iload_n rfl (xst_ne (by decide) (xst_ne (by decide) (xst_ne (by decide) rfl (Or.inl rfl)) (Or.inl rfl)) (Or.inl rfl)) ?_
    refine x_bipush rfl (by decide) ?_
    refine x_iadd rfl ?_
    refine x_iload_n rfl (xst_ne (by decide) (xst_ne (by decide) (xst_ne (by decide) rfl (Or.inl rfl)) (Or.inl rfl)) (Or.inl rfl)) ?_
    refine x_iadd rfl ?_
    refine x_aload_n rfl (xst_ne (by decide) (xst_ne (by decide) (xst_ne (by decide) rfl (Or.inl rfl)) (Or.inl rfl)) (Or.inl rfl)) ?_
    refine x_getfield rfl (by decide) (xu_ne (by decide) h177) h26 ?_
    refine x_iload_n rfl (xst_ne (by decide) (xst_ne (by decide) (xst_ne (by decide) rfl (Or.inl rfl)) (Or.inl rfl)) (Or.inl rfl)) ?_
    refine x_iload_n rfl (xst_ne (by decide) (xst_ne (by decide) (xst_ne (by decide) rfl (Or.inl rfl)) (Or.inl rfl)) (Or.inl rfl)) ?_
    refine x_iadd rfl ?_
    refine x_iaload rfl (by decide) (xu_ne (by decide) h193) ⟨by omega, by omega⟩ (by omega) ?_
    rw [py]
    refine x_iload rfl xst_eq ?_
    refine x_ifeq (t := 136) rfl rfl (by decide) (fun h => absurd h (by decide)) (fun _ => ?_)
    refine x_iload rfl (xst_ne (by decide) xst_eq (Or.inl rfl)) ?_
    refine x_iconst rfl ?_
    refine x_irem rfl ⟨by omega, by omega⟩ (by decide) ?_
    refine x_call [_] rfl rfl (show (3 : Nat) ≤ 8 from by decide) (show (1 : Nat) ≤ 1 from by decide) rfl (xs_112 ⟨by omega, by omega⟩) (fun r' f9 hP => ?_)
    obtain ⟨rfl, hPe⟩ := hP
    subst hPe
    refine x_goto (t := 137) rfl rfl ?_
    refine x_iadd rfl ?_
    refine x_iastore rfl (by decide) (xu_ne (by decide) h193) ⟨by omega, by omega⟩ (by omega) ?_
    refine x_aload_n rfl (xst_ne (by decide) (xst_ne (by decide) (xst_ne (by decide) rfl (Or.inl rfl)) (Or.inl rfl)) (Or.inl rfl)) ?_
    refine x_getfield rfl (by decide) (xu_ne (by decide) (xu_ne (by decide) h177)) h27 ?_
    refine x_iload_n rfl (xst_ne (by decide) (xst_ne (by decide) (xst_ne (by decide) rfl (Or.inl rfl)) (Or.inl rfl)) (Or.inl rfl)) ?_
    refine x_bipush rfl (by decide) ?_
    refine x_iadd rfl ?_
    refine x_iload_n rfl (xst_ne (by decide) (xst_ne (by decide) (xst_ne (by decide) rfl (Or.inl rfl)) (Or.inl rfl)) (Or.inl rfl)) ?_
    refine x_iadd rfl ?_
    refine x_iload rfl (xst_ne (by decide) (xst_ne (by decide) xst_eq (Or.inl rfl)) (Or.inl rfl)) ?_
    refine x_iload_n rfl (xst_ne (by decide) (xst_ne (by decide) (xst_ne (by decide) rfl (Or.inl rfl)) (Or.inl rfl)) (Or.inl rfl)) ?_
    refine x_iconst rfl ?_
    refine x_cne (t := 160) rfl rfl (by decide) (by decide) (fun _ => ?_) (fun h => absurd h (by decide))
    refine x_iload_n rfl (xst_ne (by decide) (xst_ne (by decide) (xst_ne (by decide) rfl (Or.inl rfl)) (Or.inl rfl)) (Or.inl rfl)) ?_
    refine x_bipush rfl (by decide) ?_
    refine x_cne (t := 170) rfl rfl (by decide) (by decide) (fun _ => ?_) (fun h => absurd h (by decide))
    refine x_iconst rfl ?_
    refine x_iadd rfl ?_
    refine x_iconst rfl ?_
    refine x_irem rfl ⟨by omega, by omega⟩ (by decide) ?_
    refine x_iastore rfl (by decide) (xu_ne (by decide) (xu_ne (by decide) h194)) ⟨by omega, by omega⟩ (by omega) ?_
    refine x_return rfl ⟨_, _, rfl, rfl, rfl, ⟨?_, ?_, ?_, by rw [List.length_set]; exact hx, by rw [List.length_set]; exact hy, by rw [List.length_set]; exact hf⟩, fun q a1 a2 a3 => xu_ne a3 (xu_ne a2 (xu_ne a1 rfl))⟩
    · refine (xu_ne (by decide) (xu_ne (by decide) xu_eq)).trans (congrArg (fun z => xr 0 (ax.set (at' + 8 + (d : Nat)).toNat z)) ?_)
      rfl
    · refine (xu_ne (by decide) xu_eq).trans (congrArg (fun z => xr 0 (ay.set (at' + 8 + (d : Nat)).toNat z)) ?_)
      rfl
    · refine xu_eq.trans (congrArg (fun z => xr 0 (af.set (at' + 8 + (d : Nat)).toNat z)) ?_)
      rfl
  · refine x_iload_n rfl (xst_ne (by decide) rfl (Or.inl rfl)) ?_
    refine x_iconst rfl ?_
    refine x_cne (t := 20) rfl rfl (by decide) (by decide) (fun _ => ?_) (fun h => absurd h (by decide))
    refine x_iload_n rfl (xst_ne (by decide) rfl (Or.inl rfl)) ?_
    refine x_iconst rfl ?_
    refine x_cne (t := 32) rfl rfl (by decide) (by decide) (fun _ => ?_) (fun h => absurd h (by decide))
    refine x_iload_n rfl (xst_ne (by decide) rfl (Or.inl rfl)) ?_
    refine x_iconst rfl ?_
    refine x_cne (t := 44) rfl rfl (by decide) (by decide) (fun h => absurd h (by decide)) (fun _ => ?_)
    refine x_iload rfl xst_eq ?_
    refine x_iconst rfl ?_
    refine x_iadd rfl ?_
    refine x_goto (t := 48) rfl rfl ?_
    refine x_istore rfl (show (5 : Nat) < 7 from by decide) ?_
    refine x_iload_n rfl (xst_ne (by decide) (xst_ne (by decide) rfl (Or.inl rfl)) (Or.inl rfl)) ?_
    refine x_iconst rfl ?_
    refine x_clt (t := 64) rfl rfl (by decide) (by decide) (fun h => absurd h (by decide)) (fun _ => ?_)
    refine x_iload_n rfl (xst_ne (by decide) (xst_ne (by decide) rfl (Or.inl rfl)) (Or.inl rfl)) ?_
    refine x_iconst rfl ?_
    refine x_cgt (t := 64) rfl rfl (by decide) (by decide) (fun h => absurd h (by decide)) (fun _ => ?_)
    refine x_iconst rfl ?_
    refine x_goto (t := 65) rfl rfl ?_
    refine x_istore rfl (show (6 : Nat) < 7 from by decide) ?_
    refine x_aload_n rfl (xst_ne (by decide) (xst_ne (by decide) (xst_ne (by decide) rfl (Or.inl rfl)) (Or.inl rfl)) (Or.inl rfl)) ?_
    refine x_getfield rfl (by decide) h177 h25 ?_
    refine x_iload_n rfl (xst_ne (by decide) (xst_ne (by decide) (xst_ne (by decide) rfl (Or.inl rfl)) (Or.inl rfl)) (Or.inl rfl)) ?_
    refine x_bipush rfl (by decide) ?_
    refine x_iadd rfl ?_
    refine x_iload_n rfl (xst_ne (by decide) (xst_ne (by decide) (xst_ne (by decide) rfl (Or.inl rfl)) (Or.inl rfl)) (Or.inl rfl)) ?_
    refine x_iadd rfl ?_
    refine x_aload_n rfl (xst_ne (by decide) (xst_ne (by decide) (xst_ne (by decide) rfl (Or.inl rfl)) (Or.inl rfl)) (Or.inl rfl)) ?_
    refine x_getfield rfl (by decide) h177 h25 ?_
    refine x_iload_n rfl (xst_ne (by decide) (xst_ne (by decide) (xst_ne (by decide) rfl (Or.inl rfl)) (Or.inl rfl)) (Or.inl rfl)) ?_
    refine x_iload_n rfl (xst_ne (by decide) (xst_ne (by decide) (xst_ne (by decide) rfl (Or.inl rfl)) (Or.inl rfl)) (Or.inl rfl)) ?_
    refine x_iadd rfl ?_
    refine x_iaload rfl (by decide) h192 ⟨by omega, by omega⟩ (by omega) ?_
    rw [px]
    refine x_iload rfl xst_eq ?_
    refine x_ifeq (t := 100) rfl rfl (by decide) (fun h => absurd h (by decide)) (fun _ => ?_)
    refine x_iload rfl (xst_ne (by decide) xst_eq (Or.inl rfl)) ?_
    refine x_iconst rfl ?_
    refine x_irem rfl ⟨by omega, by omega⟩ (by decide) ?_
    refine x_call [_] rfl rfl (show (3 : Nat) ≤ 8 from by decide) (show (1 : Nat) ≤ 1 from by decide) rfl (xs_111 ⟨by omega, by omega⟩) (fun r' f9 hP => ?_)
    obtain ⟨rfl, hPe⟩ := hP
    subst hPe
    refine x_goto (t := 101) rfl rfl ?_
    refine x_iadd rfl ?_
    refine x_iastore rfl (by decide) h192 ⟨by omega, by omega⟩ (by omega) ?_
    refine x_aload_n rfl (xst_ne (by decide) (xst_ne (by decide) (xst_ne (by decide) rfl (Or.inl rfl)) (Or.inl rfl)) (Or.inl rfl)) ?_
    refine x_getfield rfl (by decide) (xu_ne (by decide) h177) h26 ?_
    refine x_iload_n rfl (xst_ne (by decide) (xst_ne (by decide) (xst_ne (by decide) rfl (Or.inl rfl)) (Or.inl rfl)) (Or.inl rfl)) ?_
    refine x_bipush rfl (by decide) ?_
    refine x_iadd rfl ?_
    refine x_iload_n rfl (xst_ne (by decide) (xst_ne (by decide) (xst_ne (by decide) rfl (Or.inl rfl)) (Or.inl rfl)) (Or.inl rfl)) ?_
    refine x_iadd rfl ?_
    refine x_aload_n rfl (xst_ne (by decide) (xst_ne (by decide) (xst_ne (by decide) rfl (Or.inl rfl)) (Or.inl rfl)) (Or.inl rfl)) ?_
    refine x_getfield rfl (by decide) (xu_ne (by decide) h177) h26 ?_
    refine x_iload_n rfl (xst_ne (by decide) (xst_ne (by decide) (xst_ne (by decide) rfl (Or.inl rfl)) (Or.inl rfl)) (Or.inl rfl)) ?_
    refine x_iload_n rfl (xst_ne (by decide) (xst_ne (by decide) (xst_ne (by decide) rfl (Or.inl rfl)) (Or.inl rfl)) (Or.inl rfl)) ?_
    refine x_iadd rfl ?_
    refine x_iaload rfl (by decide) (xu_ne (by decide) h193) ⟨by omega, by omega⟩ (by omega) ?_
    rw [py]
    refine x_iload rfl xst_eq ?_
    refine x_ifeq (t := 136) rfl rfl (by decide) (fun h => absurd h (by decide)) (fun _ => ?_)
    refine x_iload rfl (xst_ne (by decide) xst_eq (Or.inl rfl)) ?_
    refine x_iconst rfl ?_
    refine x_irem rfl ⟨by omega, by omega⟩ (by decide) ?_
    refine x_call [_] rfl rfl (show (3 : Nat) ≤ 8 from by decide) (show (1 : Nat) ≤ 1 from by decide) rfl (xs_112 ⟨by omega, by omega⟩) (fun r' f9 hP => ?_)
    obtain ⟨rfl, hPe⟩ := hP
    subst hPe
    refine x_goto (t := 137) rfl rfl ?_
    refine x_iadd rfl ?_
    refine x_iastore rfl (by decide) (xu_ne (by decide) h193) ⟨by omega, by omega⟩ (by omega) ?_
    refine x_aload_n rfl (xst_ne (by decide) (xst_ne (by decide) (xst_ne (by decide) rfl (Or.inl rfl)) (Or.inl rfl)) (Or.inl rfl)) ?_
    refine x_getfield rfl (by decide) (xu_ne (by decide) (xu_ne (by decide) h177)) h27 ?_
    refine x_iload_n rfl (xst_ne (by decide) (xst_ne (by decide) (xst_ne (by decide) rfl (Or.inl rfl)) (Or.inl rfl)) (Or.inl rfl)) ?_
    refine x_bipush rfl (by decide) ?_
    refine x_iadd rfl ?_
    refine x_iload_n rfl (xst_ne (by decide) (xst_ne (by decide) (xst_ne (by decide) rfl (Or.inl rfl)) (Or.inl rfl)) (Or.inl rfl)) ?_
    refine x_iadd rfl ?_
    refine x_iload rfl (xst_ne (by decide) (xst_ne (by decide) xst_eq (Or.inl rfl)) (Or.inl rfl)) ?_
    refine x_iload_n rfl (xst_ne (by decide) (xst_ne (by decide) (xst_ne (by decide) rfl (Or.inl rfl)) (Or.inl rfl)) (Or.inl rfl)) ?_
    refine x_iconst rfl ?_
    refine x_cne (t := 160) rfl rfl (by decide) (by decide) (fun _ => ?_) (fun h => absurd h (by decide))
    refine x_iload_n rfl (xst_ne (by decide) (xst_ne (by decide) (xst_ne (by decide) rfl (Or.inl rfl)) (Or.inl rfl)) (Or.inl rfl)) ?_
    refine x_bipush rfl (by decide) ?_
    refine x_cne (t := 170) rfl rfl (by decide) (by decide) (fun _ => ?_) (fun h => absurd h (by decide))
    refine x_iconst rfl ?_
    refine x_iadd rfl ?_
    refine x_iconst rfl ?_
    refine x_irem rfl ⟨by omega, by omega⟩ (by decide) ?_
    refine x_iastore rfl (by decide) (xu_ne (by decide) (xu_ne (by decide) h194)) ⟨by omega, by omega⟩ (by omega) ?_
    refine x_return rfl ⟨_, _, rfl, rfl, rfl, ⟨?_, ?_, ?_, by rw [List.length_set]; exact hx, by rw [List.length_set]; exact hy, by rw [List.length_set]; exact hf⟩, fun q a1 a2 a3 => xu_ne a3 (xu_ne a2 (xu_ne a1 rfl))⟩
    · refine (xu_ne (by decide) (xu_ne (by decide) xu_eq)).trans (congrArg (fun z => xr 0 (ax.set (at' + 8 + (d : Nat)).toNat z)) ?_)
      rfl
    · refine (xu_ne (by decide) xu_eq).trans (congrArg (fun z => xr 0 (ay.set (at' + 8 + (d : Nat)).toNat z)) ?_)
      rfl
    · refine xu_eq.trans (congrArg (fun z => xr 0 (af.set (at' + 8 + (d : Nat)).toNat z)) ?_)
      rfl
  · refine x_iload_n rfl (xst_ne (by decide) rfl (Or.inl rfl)) ?_
    refine x_iconst rfl ?_
    refine x_cne (t := 20) rfl rfl (by decide) (by decide) (fun _ => ?_) (fun h => absurd h (by decide))
    refine x_iload_n rfl (xst_ne (by decide) rfl (Or.inl rfl)) ?_
    refine x_iconst rfl ?_
    refine x_cne (t := 32) rfl rfl (by decide) (by decide) (fun _ => ?_) (fun h => absurd h (by decide))
    refine x_iload_n rfl (xst_ne (by decide) rfl (Or.inl rfl)) ?_
    refine x_iconst rfl ?_
    refine x_cne (t := 44) rfl rfl (by decide) (by decide) (fun _ => ?_) (fun h => absurd h (by decide))
    refine x_iload rfl xst_eq ?_
    refine x_iconst rfl ?_
    refine x_iadd rfl ?_
    refine x_istore rfl (show (5 : Nat) < 7 from by decide) ?_
    refine x_iload_n rfl (xst_ne (by decide) (xst_ne (by decide) rfl (Or.inl rfl)) (Or.inl rfl)) ?_
    refine x_iconst rfl ?_
    refine x_clt (t := 64) rfl rfl (by decide) (by decide) (fun h => absurd h (by decide)) (fun _ => ?_)
    refine x_iload_n rfl (xst_ne (by decide) (xst_ne (by decide) rfl (Or.inl rfl)) (Or.inl rfl)) ?_
    refine x_iconst rfl ?_
    refine x_cgt (t := 64) rfl rfl (by decide) (by decide) (fun h => absurd h (by decide)) (fun _ => ?_)
    refine x_iconst rfl ?_
    refine x_goto (t := 65) rfl rfl ?_
    refine x_istore rfl (show (6 : Nat) < 7 from by decide) ?_
    refine x_aload_n rfl (xst_ne (by decide) (xst_ne (by decide) (xst_ne (by decide) rfl (Or.inl rfl)) (Or.inl rfl)) (Or.inl rfl)) ?_
    refine x_getfield rfl (by decide) h177 h25 ?_
    refine x_iload_n rfl (xst_ne (by decide) (xst_ne (by decide) (xst_ne (by decide) rfl (Or.inl rfl)) (Or.inl rfl)) (Or.inl rfl)) ?_
    refine x_bipush rfl (by decide) ?_
    refine x_iadd rfl ?_
    refine x_iload_n rfl (xst_ne (by decide) (xst_ne (by decide) (xst_ne (by decide) rfl (Or.inl rfl)) (Or.inl rfl)) (Or.inl rfl)) ?_
    refine x_iadd rfl ?_
    refine x_aload_n rfl (xst_ne (by decide) (xst_ne (by decide) (xst_ne (by decide) rfl (Or.inl rfl)) (Or.inl rfl)) (Or.inl rfl)) ?_
    refine x_getfield rfl (by decide) h177 h25 ?_
    refine x_iload_n rfl (xst_ne (by decide) (xst_ne (by decide) (xst_ne (by decide) rfl (Or.inl rfl)) (Or.inl rfl)) (Or.inl rfl)) ?_
    refine x_iload_n rfl (xst_ne (by decide) (xst_ne (by decide) (xst_ne (by decide) rfl (Or.inl rfl)) (Or.inl rfl)) (Or.inl rfl)) ?_
    refine x_iadd rfl ?_
    refine x_iaload rfl (by decide) h192 ⟨by omega, by omega⟩ (by omega) ?_
    rw [px]
    refine x_iload rfl xst_eq ?_
    refine x_ifeq (t := 100) rfl rfl (by decide) (fun h => absurd h (by decide)) (fun _ => ?_)
    refine x_iload rfl (xst_ne (by decide) xst_eq (Or.inl rfl)) ?_
    refine x_iconst rfl ?_
    refine x_irem rfl ⟨by omega, by omega⟩ (by decide) ?_
    refine x_call [_] rfl rfl (show (3 : Nat) ≤ 8 from by decide) (show (1 : Nat) ≤ 1 from by decide) rfl (xs_111 ⟨by omega, by omega⟩) (fun r' f9 hP => ?_)
    obtain ⟨rfl, hPe⟩ := hP
    subst hPe
    refine x_goto (t := 101) rfl rfl ?_
    refine x_iadd rfl ?_
    refine x_iastore rfl (by decide) h192 ⟨by omega, by omega⟩ (by omega) ?_
    refine x_aload_n rfl (xst_ne (by decide) (xst_ne (by decide) (xst_ne (by decide) rfl (Or.inl rfl)) (Or.inl rfl)) (Or.inl rfl)) ?_
    refine x_getfield rfl (by decide) (xu_ne (by decide) h177) h26 ?_
    refine x_iload_n rfl (xst_ne (by decide) (xst_ne (by decide) (xst_ne (by decide) rfl (Or.inl rfl)) (Or.inl rfl)) (Or.inl rfl)) ?_
    refine x_bipush rfl (by decide) ?_
    refine x_iadd rfl ?_
    refine x_iload_n rfl (xst_ne (by decide) (xst_ne (by decide) (xst_ne (by decide) rfl (Or.inl rfl)) (Or.inl rfl)) (Or.inl rfl)) ?_
    refine x_iadd rfl ?_
    refine x_aload_n rfl (xst_ne (by decide) (xst_ne (by decide) (xst_ne (by decide) rfl (Or.inl rfl)) (Or.inl rfl)) (Or.inl rfl)) ?_
    refine x_getfield rfl (by decide) (xu_ne (by decide) h177) h26 ?_
    refine x_iload_n rfl (xst_ne (by decide) (xst_ne (by decide) (xst_ne (by decide) rfl (Or.inl rfl)) (Or.inl rfl)) (Or.inl rfl)) ?_
    refine x_iload_n rfl (xst_ne (by decide) (xst_ne (by decide) (xst_ne (by decide) rfl (Or.inl rfl)) (Or.inl rfl)) (Or.inl rfl)) ?_
    refine x_iadd rfl ?_
    refine x_iaload rfl (by decide) (xu_ne (by decide) h193) ⟨by omega, by omega⟩ (by omega) ?_
    rw [py]
    refine x_iload rfl xst_eq ?_
    refine x_ifeq (t := 136) rfl rfl (by decide) (fun h => absurd h (by decide)) (fun _ => ?_)
    refine x_iload rfl (xst_ne (by decide) xst_eq (Or.inl rfl)) ?_
    refine x_iconst rfl ?_
    refine x_irem rfl ⟨by omega, by omega⟩ (by decide) ?_
    refine x_call [_] rfl rfl (show (3 : Nat) ≤ 8 from by decide) (show (1 : Nat) ≤ 1 from by decide) rfl (xs_112 ⟨by omega, by omega⟩) (fun r' f9 hP => ?_)
    obtain ⟨rfl, hPe⟩ := hP
    subst hPe
    refine x_goto (t := 137) rfl rfl ?_
    refine x_iadd rfl ?_
    refine x_iastore rfl (by decide) (xu_ne (by decide) h193) ⟨by omega, by omega⟩ (by omega) ?_
    refine x_aload_n rfl (xst_ne (by decide) (xst_ne (by decide) (xst_ne (by decide) rfl (Or.inl rfl)) (Or.inl rfl)) (Or.inl rfl)) ?_
    refine x_getfield rfl (by decide) (xu_ne (by decide) (xu_ne (by decide) h177)) h27 ?_
    refine x_iload_n rfl (xst_ne (by decide) (xst_ne (by decide) (xst_ne (by decide) rfl (Or.inl rfl)) (Or.inl rfl)) (Or.inl rfl)) ?_
    refine x_bipush rfl (by decide) ?_
    refine x_iadd rfl ?_
    refine x_iload_n rfl (xst_ne (by decide) (xst_ne (by decide) (xst_ne (by decide) rfl (Or.inl rfl)) (Or.inl rfl)) (Or.inl rfl)) ?_
    refine x_iadd rfl ?_
    refine x_iload rfl (xst_ne (by decide) (xst_ne (by decide) xst_eq (Or.inl rfl)) (Or.inl rfl)) ?_
    refine x_iload_n rfl (xst_ne (by decide) (xst_ne (by decide) (xst_ne (by decide) rfl (Or.inl rfl)) (Or.inl rfl)) (Or.inl rfl)) ?_
    refine x_iconst rfl ?_
    refine x_cne (t := 160) rfl rfl (by decide) (by decide) (fun _ => ?_) (fun h => absurd h (by decide))
    refine x_iload_n rfl (xst_ne (by decide) (xst_ne (by decide) (xst_ne (by decide) rfl (Or.inl rfl)) (Or.inl rfl)) (Or.inl rfl)) ?_
    refine x_bipush rfl (by decide) ?_
    refine x_cne (t := 170) rfl rfl (by decide) (by decide) (fun _ => ?_) (fun h => absurd h (by decide))
    refine x_iconst rfl ?_
    refine x_iadd rfl ?_
    refine x_iconst rfl ?_
    refine x_irem rfl ⟨by omega, by omega⟩ (by decide) ?_
    refine x_iastore rfl (by decide) (xu_ne (by decide) (xu_ne (by decide) h194)) ⟨by omega, by omega⟩ (by omega) ?_
    refine x_return rfl ⟨_, _, rfl, rfl, rfl, ⟨?_, ?_, ?_, by rw [List.length_set]; exact hx, by rw [List.length_set]; exact hy, by rw [List.length_set]; exact hf⟩, fun q a1 a2 a3 => xu_ne a3 (xu_ne a2 (xu_ne a1 rfl))⟩
    · refine (xu_ne (by decide) (xu_ne (by decide) xu_eq)).trans (congrArg (fun z => xr 0 (ax.set (at' + 8 + (d : Nat)).toNat z)) ?_)
      rfl
    · refine (xu_ne (by decide) xu_eq).trans (congrArg (fun z => xr 0 (ay.set (at' + 8 + (d : Nat)).toNat z)) ?_)
      rfl
    · refine xu_eq.trans (congrArg (fun z => xr 0 (af.set (at' + 8 + (d : Nat)).toNat z)) ?_)
      rfl
  · refine x_iload_n rfl (xst_ne (by decide) rfl (Or.inl rfl)) ?_
    refine x_iconst rfl ?_
    refine x_cne (t := 20) rfl rfl (by decide) (by decide) (fun _ => ?_) (fun h => absurd h (by decide))
    refine x_iload_n rfl (xst_ne (by decide) rfl (Or.inl rfl)) ?_
    refine x_iconst rfl ?_
    refine x_cne (t := 32) rfl rfl (by decide) (by decide) (fun _ => ?_) (fun h => absurd h (by decide))
    refine x_iload_n rfl (xst_ne (by decide) rfl (Or.inl rfl)) ?_
    refine x_iconst rfl ?_
    refine x_cne (t := 44) rfl rfl (by decide) (by decide) (fun _ => ?_) (fun h => absurd h (by decide))
    refine x_iload rfl xst_eq ?_
    refine x_iconst rfl ?_
    refine x_iadd rfl ?_
    refine x_istore rfl (show (5 : Nat) < 7 from by decide) ?_
    refine x_iload_n rfl (xst_ne (by decide) (xst_ne (by decide) rfl (Or.inl rfl)) (Or.inl rfl)) ?_
    refine x_iconst rfl ?_
    refine x_clt (t := 64) rfl rfl (by decide) (by decide) (fun h => absurd h (by decide)) (fun _ => ?_)
    refine x_iload_n rfl (xst_ne (by decide) (xst_ne (by decide) rfl (Or.inl rfl)) (Or.inl rfl)) ?_
    refine x_iconst rfl ?_
    refine x_cgt (t := 64) rfl rfl (by decide) (by decide) (fun _ => ?_) (fun h => absurd h (by decide))
    refine x_iconst rfl ?_
    refine x_istore rfl (show (6 : Nat) < 7 from by decide) ?_
    refine x_aload_n rfl (xst_ne (by decide) (xst_ne (by decide) (xst_ne (by decide) rfl (Or.inl rfl)) (Or.inl rfl)) (Or.inl rfl)) ?_
    refine x_getfield rfl (by decide) h177 h25 ?_
    refine x_iload_n rfl (xst_ne (by decide) (xst_ne (by decide) (xst_ne (by decide) rfl (Or.inl rfl)) (Or.inl rfl)) (Or.inl rfl)) ?_
    refine x_bipush rfl (by decide) ?_
    refine x_iadd rfl ?_
    refine x_iload_n rfl (xst_ne (by decide) (xst_ne (by decide) (xst_ne (by decide) rfl (Or.inl rfl)) (Or.inl rfl)) (Or.inl rfl)) ?_
    refine x_iadd rfl ?_
    refine x_aload_n rfl (xst_ne (by decide) (xst_ne (by decide) (xst_ne (by decide) rfl (Or.inl rfl)) (Or.inl rfl)) (Or.inl rfl)) ?_
    refine x_getfield rfl (by decide) h177 h25 ?_
    refine x_iload_n rfl (xst_ne (by decide) (xst_ne (by decide) (xst_ne (by decide) rfl (Or.inl rfl)) (Or.inl rfl)) (Or.inl rfl)) ?_
    refine x_iload_n rfl (xst_ne (by decide) (xst_ne (by decide) (xst_ne (by decide) rfl (Or.inl rfl)) (Or.inl rfl)) (Or.inl rfl)) ?_
    refine x_iadd rfl ?_
    refine x_iaload rfl (by decide) h192 ⟨by omega, by omega⟩ (by omega) ?_
    rw [px]
    refine x_iload rfl xst_eq ?_
    refine x_ifeq (t := 100) rfl rfl (by decide) (fun _ => ?_) (fun h => absurd h (by decide))
    refine x_iconst rfl ?_
    refine x_iadd rfl ?_
    refine x_iastore rfl (by decide) h192 ⟨by omega, by omega⟩ (by omega) ?_
    refine x_aload_n rfl (xst_ne (by decide) (xst_ne (by decide) (xst_ne (by decide) rfl (Or.inl rfl)) (Or.inl rfl)) (Or.inl rfl)) ?_
    refine x_getfield rfl (by decide) (xu_ne (by decide) h177) h26 ?_
    refine x_iload_n rfl (xst_ne (by decide) (xst_ne (by decide) (xst_ne (by decide) rfl (Or.inl rfl)) (Or.inl rfl)) (Or.inl rfl)) ?_
    refine x_bipush rfl (by decide) ?_
    refine x_iadd rfl ?_
    refine x_iload_n rfl (xst_ne (by decide) (xst_ne (by decide) (xst_ne (by decide) rfl (Or.inl rfl)) (Or.inl rfl)) (Or.inl rfl)) ?_
    refine x_iadd rfl ?_
    refine x_aload_n rfl (xst_ne (by decide) (xst_ne (by decide) (xst_ne (by decide) rfl (Or.inl rfl)) (Or.inl rfl)) (Or.inl rfl)) ?_
    refine x_getfield rfl (by decide) (xu_ne (by decide) h177) h26 ?_
    refine x_iload_n rfl (xst_ne (by decide) (xst_ne (by decide) (xst_ne (by decide) rfl (Or.inl rfl)) (Or.inl rfl)) (Or.inl rfl)) ?_
    refine x_iload_n rfl (xst_ne (by decide) (xst_ne (by decide) (xst_ne (by decide) rfl (Or.inl rfl)) (Or.inl rfl)) (Or.inl rfl)) ?_
    refine x_iadd rfl ?_
    refine x_iaload rfl (by decide) (xu_ne (by decide) h193) ⟨by omega, by omega⟩ (by omega) ?_
    rw [py]
    refine x_iload rfl xst_eq ?_
    refine x_ifeq (t := 136) rfl rfl (by decide) (fun _ => ?_) (fun h => absurd h (by decide))
    refine x_iconst rfl ?_
    refine x_iadd rfl ?_
    refine x_iastore rfl (by decide) (xu_ne (by decide) h193) ⟨by omega, by omega⟩ (by omega) ?_
    refine x_aload_n rfl (xst_ne (by decide) (xst_ne (by decide) (xst_ne (by decide) rfl (Or.inl rfl)) (Or.inl rfl)) (Or.inl rfl)) ?_
    refine x_getfield rfl (by decide) (xu_ne (by decide) (xu_ne (by decide) h177)) h27 ?_
    refine x_iload_n rfl (xst_ne (by decide) (xst_ne (by decide) (xst_ne (by decide) rfl (Or.inl rfl)) (Or.inl rfl)) (Or.inl rfl)) ?_
    refine x_bipush rfl (by decide) ?_
    refine x_iadd rfl ?_
    refine x_iload_n rfl (xst_ne (by decide) (xst_ne (by decide) (xst_ne (by decide) rfl (Or.inl rfl)) (Or.inl rfl)) (Or.inl rfl)) ?_
    refine x_iadd rfl ?_
    refine x_iload rfl (xst_ne (by decide) (xst_ne (by decide) xst_eq (Or.inl rfl)) (Or.inl rfl)) ?_
    refine x_iload_n rfl (xst_ne (by decide) (xst_ne (by decide) (xst_ne (by decide) rfl (Or.inl rfl)) (Or.inl rfl)) (Or.inl rfl)) ?_
    refine x_iconst rfl ?_
    refine x_cne (t := 160) rfl rfl (by decide) (by decide) (fun h => absurd h (by decide)) (fun _ => ?_)
    refine x_iconst rfl ?_
    refine x_goto (t := 171) rfl rfl ?_
    refine x_iadd rfl ?_
    refine x_iconst rfl ?_
    refine x_irem rfl ⟨by omega, by omega⟩ (by decide) ?_
    refine x_iastore rfl (by decide) (xu_ne (by decide) (xu_ne (by decide) h194)) ⟨by omega, by omega⟩ (by omega) ?_
    refine x_return rfl ⟨_, _, rfl, rfl, rfl, ⟨?_, ?_, ?_, by rw [List.length_set]; exact hx, by rw [List.length_set]; exact hy, by rw [List.length_set]; exact hf⟩, fun q a1 a2 a3 => xu_ne a3 (xu_ne a2 (xu_ne a1 rfl))⟩
    · refine (xu_ne (by decide) (xu_ne (by decide) xu_eq)).trans (congrArg (fun z => xr 0 (ax.set (at' + 8 + (d : Nat)).toNat z)) ?_)
      rfl
    · refine (xu_ne (by decide) xu_eq).trans (congrArg (fun z => xr 0 (ay.set (at' + 8 + (d : Nat)).toNat z)) ?_)
      rfl
    · refine xu_eq.trans (congrArg (fun z => xr 0 (af.set (at' + 8 + (d : Nat)).toNat z)) ?_)
      rfl
  · refine x_iload_n rfl (xst_ne (by decide) rfl (Or.inl rfl)) ?_
    refine x_iconst rfl ?_
    refine x_cne (t := 20) rfl rfl (by decide) (by decide) (fun _ => ?_) (fun h => absurd h (by decide))
    refine x_iload_n rfl (xst_ne (by decide) rfl (Or.inl rfl)) ?_
    refine x_iconst rfl ?_
    refine x_cne (t := 32) rfl rfl (by decide) (by decide) (fun _ => ?_) (fun h => absurd h (by decide))
    refine x_iload_n rfl (xst_ne (by decide) rfl (Or.inl rfl)) ?_
    refine x_iconst rfl ?_
    refine x_cne (t := 44) rfl rfl (by decide) (by decide) (fun _ => ?_) (fun h => absurd h (by decide))
    refine x_iload rfl xst_eq ?_
    refine x_iconst rfl ?_
    refine x_iadd rfl ?_
    refine x_istore rfl (show (5 : Nat) < 7 from by decide) ?_
    refine x_iload_n rfl (xst_ne (by decide) (xst_ne (by decide) rfl (Or.inl rfl)) (Or.inl rfl)) ?_
    refine x_iconst rfl ?_
    refine x_clt (t := 64) rfl rfl (by decide) (by decide) (fun h => absurd h (by decide)) (fun _ => ?_)
    refine x_iload_n rfl (xst_ne (by decide) (xst_ne (by decide) rfl (Or.inl rfl)) (Or.inl rfl)) ?_
    refine x_iconst rfl ?_
    refine x_cgt (t := 64) rfl rfl (by decide) (by decide) (fun _ => ?_) (fun h => absurd h (by decide))
    refine x_iconst rfl ?_
    refine x_istore rfl (show (6 : Nat) < 7 from by decide) ?_
    refine x_aload_n rfl (xst_ne (by decide) (xst_ne (by decide) (xst_ne (by decide) rfl (Or.inl rfl)) (Or.inl rfl)) (Or.inl rfl)) ?_
    refine x_getfield rfl (by decide) h177 h25 ?_
    refine x_iload_n rfl (xst_ne (by decide) (xst_ne (by decide) (xst_ne (by decide) rfl (Or.inl rfl)) (Or.inl rfl)) (Or.inl rfl)) ?_
    refine x_bipush rfl (by decide) ?_
    refine x_iadd rfl ?_
    refine x_iload_n rfl (xst_ne (by decide) (xst_ne (by decide) (xst_ne (by decide) rfl (Or.inl rfl)) (Or.inl rfl)) (Or.inl rfl)) ?_
    refine x_iadd rfl ?_
    refine x_aload_n rfl (xst_ne (by decide) (xst_ne (by decide) (xst_ne (by decide) rfl (Or.inl rfl)) (Or.inl rfl)) (Or.inl rfl)) ?_
    refine x_getfield rfl (by decide) h177 h25 ?_
    refine x_iload_n rfl (xst_ne (by decide) (xst_ne (by decide) (xst_ne (by decide) rfl (Or.inl rfl)) (Or.inl rfl)) (Or.inl rfl)) ?_
    refine x_iload_n rfl (xst_ne (by decide) (xst_ne (by decide) (xst_ne (by decide) rfl (Or.inl rfl)) (Or.inl rfl)) (Or.inl rfl)) ?_
    refine x_iadd rfl ?_
    refine x_iaload rfl (by decide) h192 ⟨by omega, by omega⟩ (by omega) ?_
    rw [px]
    refine x_iload rfl xst_eq ?_
    refine x_ifeq (t := 100) rfl rfl (by decide) (fun _ => ?_) (fun h => absurd h (by decide))
    refine x_iconst rfl ?_
    refine x_iadd rfl ?_
    refine x_iastore rfl (by decide) h192 ⟨by omega, by omega⟩ (by omega) ?_
    refine x_aload_n rfl (xst_ne (by decide) (xst_ne (by decide) (xst_ne (by decide) rfl (Or.inl rfl)) (Or.inl rfl)) (Or.inl rfl)) ?_
    refine x_getfield rfl (by decide) (xu_ne (by decide) h177) h26 ?_
    refine x_iload_n rfl (xst_ne (by decide) (xst_ne (by decide) (xst_ne (by decide) rfl (Or.inl rfl)) (Or.inl rfl)) (Or.inl rfl)) ?_
    refine x_bipush rfl (by decide) ?_
    refine x_iadd rfl ?_
    refine x_iload_n rfl (xst_ne (by decide) (xst_ne (by decide) (xst_ne (by decide) rfl (Or.inl rfl)) (Or.inl rfl)) (Or.inl rfl)) ?_
    refine x_iadd rfl ?_
    refine x_aload_n rfl (xst_ne (by decide) (xst_ne (by decide) (xst_ne (by decide) rfl (Or.inl rfl)) (Or.inl rfl)) (Or.inl rfl)) ?_
    refine x_getfield rfl (by decide) (xu_ne (by decide) h177) h26 ?_
    refine x_iload_n rfl (xst_ne (by decide) (xst_ne (by decide) (xst_ne (by decide) rfl (Or.inl rfl)) (Or.inl rfl)) (Or.inl rfl)) ?_
    refine x_iload_n rfl (xst_ne (by decide) (xst_ne (by decide) (xst_ne (by decide) rfl (Or.inl rfl)) (Or.inl rfl)) (Or.inl rfl)) ?_
    refine x_iadd rfl ?_
    refine x_iaload rfl (by decide) (xu_ne (by decide) h193) ⟨by omega, by omega⟩ (by omega) ?_
    rw [py]
    refine x_iload rfl xst_eq ?_
    refine x_ifeq (t := 136) rfl rfl (by decide) (fun _ => ?_) (fun h => absurd h (by decide))
    refine x_iconst rfl ?_
    refine x_iadd rfl ?_
    refine x_iastore rfl (by decide) (xu_ne (by decide) h193) ⟨by omega, by omega⟩ (by omega) ?_
    refine x_aload_n rfl (xst_ne (by decide) (xst_ne (by decide) (xst_ne (by decide) rfl (Or.inl rfl)) (Or.inl rfl)) (Or.inl rfl)) ?_
    refine x_getfield rfl (by decide) (xu_ne (by decide) (xu_ne (by decide) h177)) h27 ?_
    refine x_iload_n rfl (xst_ne (by decide) (xst_ne (by decide) (xst_ne (by decide) rfl (Or.inl rfl)) (Or.inl rfl)) (Or.inl rfl)) ?_
    refine x_bipush rfl (by decide) ?_
    refine x_iadd rfl ?_
    refine x_iload_n rfl (xst_ne (by decide) (xst_ne (by decide) (xst_ne (by decide) rfl (Or.inl rfl)) (Or.inl rfl)) (Or.inl rfl)) ?_
    refine x_iadd rfl ?_
    refine x_iload rfl (xst_ne (by decide) (xst_ne (by decide) xst_eq (Or.inl rfl)) (Or.inl rfl)) ?_
    refine x_iload_n rfl (xst_ne (by decide) (xst_ne (by decide) (xst_ne (by decide) rfl (Or.inl rfl)) (Or.inl rfl)) (Or.inl rfl)) ?_
    refine x_iconst rfl ?_
    refine x_cne (t := 160) rfl rfl (by decide) (by decide) (fun _ => ?_) (fun h => absurd h (by decide))
    refine x_iload_n rfl (xst_ne (by decide) (xst_ne (by decide) (xst_ne (by decide) rfl (Or.inl rfl)) (Or.inl rfl)) (Or.inl rfl)) ?_
    refine x_bipush rfl (by decide) ?_
    refine x_cne (t := 170) rfl rfl (by decide) (by decide) (fun h => absurd h (by decide)) (fun _ => ?_)
    refine x_iconst rfl ?_
    refine x_goto (t := 171) rfl rfl ?_
    refine x_iadd rfl ?_
    refine x_iconst rfl ?_
    refine x_irem rfl ⟨by omega, by omega⟩ (by decide) ?_
    refine x_iastore rfl (by decide) (xu_ne (by decide) (xu_ne (by decide) h194)) ⟨by omega, by omega⟩ (by omega) ?_
    refine x_return rfl ⟨_, _, rfl, rfl, rfl, ⟨?_, ?_, ?_, by rw [List.length_set]; exact hx, by rw [List.length_set]; exact hy, by rw [List.length_set]; exact hf⟩, fun q a1 a2 a3 => xu_ne a3 (xu_ne a2 (xu_ne a1 rfl))⟩
    · refine (xu_ne (by decide) (xu_ne (by decide) xu_eq)).trans (congrArg (fun z => xr 0 (ax.set (at' + 8 + (d : Nat)).toNat z)) ?_)
      rfl
    · refine (xu_ne (by decide) xu_eq).trans (congrArg (fun z => xr 0 (ay.set (at' + 8 + (d : Nat)).toNat z)) ?_)
      rfl
    · refine xu_eq.trans (congrArg (fun z => xr 0 (af.set (at' + 8 + (d : Nat)).toNat z)) ?_)
      rfl
