section
/-! The model's side of dancing: directions, moves. -/
theorem xs_111 {v0 : Value} {xs : List Int32} {u : Nat × Nat} {f : Nat → zE} {w : Int} (hw : -1000 ≤ w ∧ w ≤ 1000) : xq v0 xs u 111 [(0, xi w)] f (fun r' f' => r' = some (xi (sdx w)) ∧ f' = f) := by
  unfold xq
  refine x_iload_n rfl rfl ?_
  refine x_iconst rfl ?_
  refine x_cne (t := 9) rfl rfl ⟨by omega, by omega⟩ (by decide) (fun h1 => ?_) (fun h1 => ?_)
  · refine x_iload_n rfl rfl ?_
    refine x_iconst rfl ?_
    refine x_cne (t := 18) rfl rfl ⟨by omega, by omega⟩ (by decide) (fun h2 => ?_) (fun h2 => ?_)
    · refine x_iconst rfl ?_
      exact x_ireturn rfl (Or.inl rfl) ⟨_, _, rfl, rfl, by unfold sdx; rw [if_neg h1, if_neg h2], rfl⟩
    · refine x_iconst rfl ?_
      refine x_goto (t := 19) rfl rfl ?_
      exact x_ireturn rfl (Or.inl rfl) ⟨_, _, rfl, rfl, by unfold sdx; rw [if_neg h1, if_pos h2], rfl⟩
  · refine x_iconst rfl ?_
    refine x_goto (t := 19) rfl rfl ?_
    exact x_ireturn rfl (Or.inl rfl) ⟨_, _, rfl, rfl, by unfold sdx; rw [if_pos h1], rfl⟩
theorem xs_112 {v0 : Value} {xs : List Int32} {u : Nat × Nat} {f : Nat → zE} {w : Int} (hw : -1000 ≤ w ∧ w ≤ 1000) : xq v0 xs u 112 [(0, xi w)] f (fun r' f' => r' = some (xi (sdy w)) ∧ f' = f) := by
  unfold xq
  refine x_iload_n rfl rfl ?_
  refine x_ifne (t := 8) rfl rfl ⟨by omega, by omega⟩ (fun h1 => ?_) (fun h1 => ?_)
  · refine x_iload_n rfl rfl ?_
    refine x_iconst rfl ?_
    refine x_cne (t := 17) rfl rfl ⟨by omega, by omega⟩ (by decide) (fun h2 => ?_) (fun h2 => ?_)
    · refine x_iconst rfl ?_
      exact x_ireturn rfl (Or.inl rfl) ⟨_, _, rfl, rfl, by unfold sdy; rw [if_neg h1, if_neg h2], rfl⟩
    · refine x_iconst rfl ?_
      refine x_goto (t := 18) rfl rfl ?_
      exact x_ireturn rfl (Or.inl rfl) ⟨_, _, rfl, rfl, by unfold sdy; rw [if_neg h1, if_pos h2], rfl⟩
  · refine x_iconst rfl ?_
    refine x_goto (t := 18) rfl rfl ?_
    exact x_ireturn rfl (Or.inl rfl) ⟨_, _, rfl, rfl, by unfold sdy; rw [if_pos h1], rfl⟩
theorem xs_118 {v0 : Value} {xs : List Int32} {u : Nat × Nat} {f : Nat → zE} {a : Int} (ha : 0 ≤ a ∧ a ≤ 6) : xq v0 xs u 118 [(0, xi a)] f (fun r' f' => r' = some (xi (sexch a)) ∧ f' = f) := by
  unfold xq
  refine x_iload_n rfl rfl ?_
  refine x_ifne (t := 8) rfl rfl ⟨by omega, by omega⟩ (fun h1 => ?_) (fun h1 => ?_)
  · refine x_iload_n rfl rfl ?_
    refine x_iconst rfl ?_
    refine x_irem rfl ⟨by omega, by omega⟩ (by decide) ?_
    refine x_iconst rfl ?_
    refine x_cne (t := 21) rfl rfl ⟨by omega, by omega⟩ (by decide) (fun h2 => ?_) (fun h2 => ?_)
    · refine x_iload_n rfl rfl ?_
      refine x_iconst rfl ?_
      refine x_isub rfl ?_
      exact x_ireturn rfl (Or.inl rfl) ⟨_, _, rfl, rfl, by unfold sexch; rw [if_neg h1, if_neg h2], rfl⟩
    · refine x_iload_n rfl rfl ?_
      refine x_iconst rfl ?_
      refine x_iadd rfl ?_
      refine x_goto (t := 24) rfl rfl ?_
      exact x_ireturn rfl (Or.inl rfl) ⟨_, _, rfl, rfl, by unfold sexch; rw [if_neg h1, if_pos h2], rfl⟩
  · refine x_iconst rfl ?_
    refine x_goto (t := 24) rfl rfl ?_
    exact x_ireturn rfl (Or.inl rfl) ⟨_, _, rfl, rfl, by unfold sexch; rw [if_pos h1], rfl⟩
/-- the model's object, as far as dancing reads it -/
def sMO (f : Nat → zE) (fs : List Value) : Prop := f 177 = .inl (10, fs) ∧ fs.length = 41 ∧ (fs[11]? = some (.ref 180) ∧ fs[13]? = some (.ref 182) ∧ fs[14]? = some (.ref 183) ∧ fs[15]? = some (.ref 184) ∧ fs[17]? = some (.ref 185) ∧ fs[18]? = some (.ref 186)) ∧ fs[25]? = some (.ref 192) ∧ fs[26]? = some (.ref 193) ∧ fs[27]? = some (.ref 194)
/-- its rows of coordinates and facings -/
def sMC (f : Nat → zE) (ax ay af : List Int) : Prop := f 192 = xr 0 ax ∧ f 193 = xr 0 ay ∧ f 194 = xr 0 af ∧ ax.length = 144 ∧ ay.length = 144 ∧ af.length = 144
/-- one place of them -/
def sMP (ax ay af : List Int) (k : Int) (p : Int) : Prop := ax.getD k.toNat 0 = sX p ∧ ay.getD k.toNat 0 = sY p ∧ af.getD k.toNat 0 = sF p
/-- a row of eight places of them -/
def sML (ax ay af : List Int) (at' : Int) (r : Nat → Int) : Prop := 0 ≤ at' ∧ at' + 8 ≤ 144 ∧ ∀ d, d < 8 → sMP ax ay af (at' + (d : Nat)) (r d) ∧ sok (r d)
def mvx (p a : Int) : Int := sX p + (if 1 ≤ a ∧ a ≤ 4 then sdx (sway (sF p) a) else 0)
def mvy (p a : Int) : Int := sY p + (if 1 ≤ a ∧ a ≤ 4 then sdy (sway (sF p) a) else 0)
def mvf (p a : Int) : Int := (sF p + (if a = 5 then 3 else if a = 6 then 1 else 0)) % 4
theorem smv_xy {p a : Int} (hp : sok p) (ha : 0 ≤ a ∧ a ≤ 6) : (smv p a ≠ -1 ∧ mvx p a = sX (smv p a) ∧ mvy p a = sY (smv p a) ∧ mvf p a = sF (smv p a)) ∨ (smv p a = -1 ∧ (mvx p a < 0 ∨ 9 < mvx p a ∨ mvy p a < 0 ∨ 9 < mvy p a)) := by
  have x1 := sX_rg hp
  have y1 := sY_rg hp
  have f1 := sF_rg p
  have e0 := s_eq p
  by_cases h14 : 1 ≤ a ∧ a ≤ 4
  · have e1 : smv p a = sgo p (sway (sF p) a) := by unfold smv; rw [if_pos h14]
    have e2 : mvf p a = sF p := by unfold mvf; rw [if_neg (by omega), if_neg (by omega)]; omega
    have e3 : mvx p a = sX p + sdx (sway (sF p) a) := by unfold mvx; rw [if_pos h14]
    have e4 : mvy p a = sY p + sdy (sway (sF p) a) := by unfold mvy; rw [if_pos h14]
    rw [e1, e2, e3, e4]
    rcases sgo_ok (w := sway (sF p) a) hp with h | ⟨h1, h2, h3, h4⟩
    · right
      refine ⟨h, ?_⟩
      unfold sgo at h
      split at h
      · exfalso
        rename_i hc
        unfold sok at hp
        have d1 := sdx_rg (sway (sF p) a)
        have d2 := sdy_rg (sway (sF p) a)
        omega
      · omega
    · left
      refine ⟨?_, h2.symm, h3.symm, h4.symm⟩
      unfold sok at h1
      omega
  · have e3 : mvx p a = sX p := by unfold mvx; rw [if_neg h14, Int.add_zero]
    have e4 : mvy p a = sY p := by unfold mvy; rw [if_neg h14, Int.add_zero]
    left
    rw [e3, e4]
    unfold sok at hp
    unfold smv mvf
    rw [if_neg h14]
    rcases (show a = 0 ∨ a = 5 ∨ a = 6 by omega) with rfl | rfl | rfl
    · refine ⟨?_, rfl, rfl, ?_⟩
      · simp only [Int.reduceEq, if_false]; omega
      · simp only [Int.reduceEq, if_false]; omega
    · simp only [Int.reduceEq, if_true]
      unfold sX sY sF
      omega
    · simp only [Int.reduceEq, if_true, if_false]
      unfold sX sY sF
      omega
/-! The model's move: 113. -/
theorem xs_113 {v0 : Value} {xs : List Int32} {u : Nat × Nat} {f : Nat → zE} {fs : List Value} {ax ay af : List Int} {at' a p : Int} {d : Nat} (hmo : sMO f fs) (hmc : sMC f ax ay af) (hat : 0 ≤ at' ∧ at' + 16 ≤ 144) (hd : d < 8) (hp : sMP ax ay af (at' + (d : Nat)) p) (ha : 0 ≤ a ∧ a ≤ 6) : xq v0 xs u 113 [(0, .ref 177), (1, xi at'), (2, xi (d : Nat)), (3, xi a)] f (fun r' f' => r' = none ∧ sMC f' (ax.set (at' + 8 + (d : Nat)).toNat (mvx p a)) (ay.set (at' + 8 + (d : Nat)).toNat (mvy p a)) (af.set (at' + 8 + (d : Nat)).toNat (mvf p a)) ∧ ∀ q, q ≠ 192 → q ≠ 193 → q ≠ 194 → f' q = f q) := by
  unfold xq
  obtain ⟨h177, hfl, -, h25, h26, h27⟩ := hmo
  obtain ⟨h192, h193, h194, hx, hy, hf⟩ := hmc
  obtain ⟨px, py, pf⟩ := hp
  have f1 := sF_rg p
  refine x_aload_n rfl rfl ?_
  refine x_getfield rfl (by decide) h177 h27 ?_
  refine x_iload_n rfl rfl ?_
  refine x_iload_n rfl rfl ?_
  refine x_iadd rfl ?_
  refine x_iaload rfl (by decide) h194 ⟨by omega, by omega⟩ (by omega) ?_
  rw [pf]
  refine x_istore rfl (show (4 : Nat) < 7 from by decide) ?_
  rcases (show a = 0 ∨ a = 1 ∨ a = 2 ∨ a = 3 ∨ a = 4 ∨ a = 5 ∨ a = 6 by omega) with rfl | rfl | rfl | rfl | rfl | rfl | rfl
  · refine x_iload_n rfl (xst_ne (by decide) rfl (Or.inl rfl)) ?_
    refine x_iconst rfl ?_
    refine x_cne (t := 20) rfl rfl (by decide) (by decide) (fun _ => ?_) (fun h => absurd h (by decide))
    refine x_iload_n rfl (xst_ne (by decide) rfl (Or.inl rfl)) ?_
    refine x_iconst rfl ?_
    refine x_cne (t := 32) rfl rfl (by decide) (by decide) (fun _ => ?_) (fun h => absurd h (by decide))
    refine x_iload_n rfl (xst_ne (by decide) rfl (Or.inl rfl)) ?_
    refine x_iconst rfl ?_
    refine x_cne (t := 44) rfl rfl (by decide) (by decide) (fun _ => ?_) (fun h => absurd h (by decide))
    refine x_iload rfl xst_eq ?_
    refine x_iconst rfl ?_
    refine x_iadd rfl ?_
    refine x_istore rfl (show (5 : Nat) < 7 from by decide) ?_
    refine x_iload_n rfl (xst_ne (by decide) (xst_ne (by decide) rfl (Or.inl rfl)) (Or.inl rfl)) ?_
    refine x_iconst rfl ?_
    refine x_clt (t := 64) rfl rfl (by decide) (by decide) (fun _ => ?_) (fun h => absurd h (by decide))
    refine x_iconst rfl ?_
    refine x_istore rfl (show (6 : Nat) < 7 from by decide) ?_
    refine x_aload_n rfl (xst_ne (by decide) (xst_ne (by decide) (xst_ne (by decide) rfl (Or.inl rfl)) (Or.inl rfl)) (Or.inl rfl)) ?_
    refine x_getfield rfl (by decide) h177 h25 ?_
    refine x_iload_n rfl (xst_ne (by decide) (xst_ne (by decide) (xst_ne (by decide) rfl (Or.inl rfl)) (Or.inl rfl)) (Or.inl rfl)) ?_
    refine x_bipush rfl (by decide) ?_
    refine x_iadd rfl ?_
    refine x_iload_n rfl (xst_ne (by decide) (xst_ne (by decide) (xst_ne (by decide) rfl (Or.inl rfl)) (Or.inl rfl)) (Or.inl rfl)) ?_
    refine x_iadd rfl ?_
    refine x_aload_n rfl (xst_ne (by decide) (xst_ne (by decide) (xst_ne (by decide) rfl (Or.inl rfl)) (Or.inl rfl)) (Or.inl rfl)) ?_
    refine x_getfield rfl (by decide) h177 h25 ?_
    refine x_iload_n rfl (xst_ne (by decide) (xst_ne (by decide) (xst_ne (by decide) rfl (Or.inl rfl)) (Or.inl rfl)) (Or.inl rfl)) ?_
    refine x_iload_n rfl (xst_ne (by decide) (xst_ne (by decide) (xst_ne (by decide) rfl (Or.inl rfl)) (Or.inl rfl)) (Or.inl rfl)) ?_
    refine x_iadd rfl ?_
    refine x_iaload rfl (by decide) h192 ⟨by omega, by omega⟩ (by omega) ?_
    rw [px]
    refine x_iload rfl xst_eq ?_
    refine x_ifeq (t := 100) rfl rfl (by decide) (fun _ => ?_) (fun h => absurd h (by decide))
    refine x_iconst rfl ?_
    refine x_iadd rfl ?_
    refine x_iastore rfl (by decide) h192 ⟨by omega, by omega⟩ (by omega) ?_
    refine x_aload_n rfl (xst_ne (by decide) (xst_ne (by decide) (xst_ne (by decide) rfl (Or.inl rfl)) (Or.inl rfl)) (Or.inl rfl)) ?_
    refine x_getfield rfl (by decide) (xu_ne (by decide) h177) h26 ?_
    refine x_iload_n rfl (xst_ne (by decide) (xst_ne (by decide) (xst_ne (by decide) rfl (Or.inl rfl)) (Or.inl rfl)) (Or.inl rfl)) ?_
    refine x_bipush rfl (by decide) ?_
    refine x_iadd rfl ?_
    refine x_iload_n rfl (xst_ne (by decide) (xst_ne (by decide) (xst_ne (by decide) rfl (Or.inl rfl)) (Or.inl rfl)) (Or.inl rfl)) ?_
    refine x_iadd rfl ?_
    refine x_aload_n rfl (xst_ne (by decide) (xst_ne (by decide) (xst_ne (by decide) rfl (Or.inl rfl)) (Or.inl rfl)) (Or.inl rfl)) ?_
    refine x_getfield rfl (by decide) (xu_ne (by decide) h177) h26 ?_
    refine x_iload_n rfl (xst_ne (by decide) (xst_ne (by decide) (xst_ne (by decide) rfl (Or.inl rfl)) (Or.inl rfl)) (Or.inl rfl)) ?_
    refine x_iload_n rfl (xst_ne (by decide) (xst_ne (by decide) (xst_ne (by decide) rfl (Or.inl rfl)) (Or.inl rfl)) (Or.inl rfl)) ?_
    refine x_iadd rfl ?_
    refine x_iaload rfl (by decide) (xu_ne (by decide) h193) ⟨by omega, by omega⟩ (by omega) ?_
    rw [py]
    refine x_iload rfl xst_eq ?_
    refine x_ifeq (t := 136) rfl rfl (by decide) (fun _ => ?_) (fun h => absurd h (by decide))
    refine x_iconst rfl ?_
    refine x_iadd rfl ?_
    refine x_iastore rfl (by decide) (xu_ne (by decide) h193) ⟨by omega, by omega⟩ (by omega) ?_
    refine x_aload_n rfl (xst_ne (by decide) (xst_ne (by decide) (xst_ne (by decide) rfl (Or.inl rfl)) (Or.inl rfl)) (Or.inl rfl)) ?_
    refine x_getfield rfl (by decide) (xu_ne (by decide) (xu_ne (by decide) h177)) h27 ?_
    refine x_iload_n rfl (xst_ne (by decide) (xst_ne (by decide) (xst_ne (by decide) rfl (Or.inl rfl)) (Or.inl rfl)) (Or.inl rfl)) ?_
    refine x_bipush rfl (by decide) ?_
    refine x_iadd rfl ?_
    refine x_iload_n rfl (xst_ne (by decide) (xst_ne (by decide) (xst_ne (by decide) rfl (Or.inl rfl)) (Or.inl rfl)) (Or.inl rfl)) ?_
    refine x_iadd rfl ?_
    refine x_iload rfl (xst_ne (by decide) (xst_ne (by decide) xst_eq (Or.inl rfl)) (Or.inl rfl)) ?_
    refine x_iload_n rfl (xst_ne (by decide) (xst_ne (by decide) (xst_ne (by decide) rfl (Or.inl rfl)) (Or.inl rfl)) (Or.inl rfl)) ?_
    refine x_iconst rfl ?_
    refine x_cne (t := 160) rfl rfl (by decide) (by decide) (fun _ => ?_) (fun h => absurd h (by decide))
    refine x_iload_n rfl (xst_ne (by decide) (xst_ne (by decide) (xst_ne (by decide) rfl (Or.inl rfl)) (Or.inl rfl)) (Or.inl rfl)) ?_
    refine x_bipush rfl (by decide) ?_
    refine x_cne (t := 170) rfl rfl (by decide) (by decide) (fun _ => ?_) (fun h => absurd h (by decide))
    refine x_iconst rfl ?_
    refine x_iadd rfl ?_
    refine x_iconst rfl ?_
    refine x_irem rfl ⟨by omega, by omega⟩ (by decide) ?_
    refine x_iastore rfl (by decide) (xu_ne (by decide) (xu_ne (by decide) h194)) ⟨by omega, by omega⟩ (by omega) ?_
    refine x_return rfl ⟨_, _, rfl, rfl, rfl, ⟨?_, ?_, ?_, by rw [List.length_set]; exact hx, by rw [List.length_set]; exact hy, by rw [List.length_set]; exact hf⟩, fun q a1 a2 a3 => xu_ne a3 (xu_ne a2 (xu_ne a1 rfl))⟩
    · refine (xu_ne (by decide) (xu_ne (by decide) xu_eq)).trans (congrArg (fun z => xr 0 (ax.set (at' + 8 + (d : Nat)).toNat z)) ?_)
      rfl
    · refine (xu_ne (by decide) xu_eq).trans (congrArg (fun z => xr 0 (ay.set (at' + 8 + (d : Nat)).toNat z)) ?_)
      rfl
    · refine xu_eq.trans (congrArg (fun z => xr 0 (af.set (at' + 8 + (d : Nat)).toNat z)) ?_)
      rfl
  · refine x_iload_n rfl (xst_ne (by decide) rfl (Or.inl rfl)) ?_
    refine x_iconst rfl ?_
    refine x_cne (t := 20) rfl rfl (by decide) (by decide) (fun h => absurd h (by decide)) (fun _ => ?_)
    refine x_iload rfl xst_eq ?_
    refine x_goto (t := 48) rfl rfl ?_
    refine x_istore rfl (show (5 : Nat) < 7 from by decide) ?_
    refine x_iload_n rfl (xst_ne (by decide) (xst_ne (by decide) rfl (Or.inl rfl)) (Or.inl rfl)) ?_
    refine x_iconst rfl ?_
    refine x_clt (t := 64) rfl rfl (by decide) (by decide) (fun h => absurd h (by decide)) (fun _ => ?_)
    refine x_iload_n rfl (xst_ne (by decide) (xst_ne (by decide) rfl (Or.inl rfl)) (Or.inl rfl)) ?_
    refine x_iconst rfl ?_
    refine x_cgt (t := 64) rfl rfl (by decide) (by decide) (fun h => absurd h (by decide)) (fun _ => ?_)
    refine x_iconst rfl ?_
    refine x_goto (t := 65) rfl rfl ?_
    refine x_istore rfl (show (6 : Nat) < 7 from by decide) ?_
    refine x_aload_n rfl (xst_ne (by decide) (xst_ne (by decide) (xst_ne (by decide) rfl (Or.inl rfl)) (Or.inl rfl)) (Or.inl rfl)) ?_
    refine x_getfield rfl (by decide) h177 h25 ?_
    refine x_iload_n rfl (xst_ne (by decide) (xst_ne (by decide) (xst_ne (by decide) rfl (Or.inl rfl)) (Or.inl rfl)) (Or.inl rfl)) ?_
    refine x_bipush rfl (by decide) ?_
    refine x_iadd rfl ?_
    refine x_iload_n rfl (xst_ne (by decide) (xst_ne (by decide) (xst_ne (by decide) rfl (Or.inl rfl)) (Or.inl rfl)) (Or.inl rfl)) ?_
    refine x_iadd rfl ?_
    refine x_aload_n rfl (xst_ne (by decide) (xst_ne (by decide) (xst_ne (by decide) rfl (Or.inl rfl)) (Or.inl rfl)) (Or.inl rfl)) ?_
    refine x_getfield rfl (by decide) h177 h25 ?_
    refine x_iload_n rfl (xst_ne (by decide) (xst_ne (by decide) (xst_ne (by decide) rfl (Or.inl rfl)) (Or.inl rfl)) (Or.inl rfl)) ?_
    refine x_iload_n rfl (xst_ne (by decide) (xst_ne (by decide) (xst_ne (by decide) rfl (Or.inl rfl)) (Or.inl rfl)) (Or.inl rfl)) ?_
    refine x_iadd rfl ?_
    refine x_iaload rfl (by decide) h192 ⟨by omega, by omega⟩ (by omega) ?_
    rw [px]
    refine x_iload rfl xst_eq ?_
    refine x_ifeq (t := 100) rfl rfl (by decide) (fun h => absurd h (by decide)) (fun _ => ?_)
    refine x_iload rfl (xst_ne (by decide) xst_eq (Or.inl rfl)) ?_
    refine x_iconst rfl ?_
    refine x_irem rfl ⟨by omega, by omega⟩ (by decide) ?_
    refine x_call [_] rfl rfl (show (3 : Nat) ≤ 8 from by decide) (show (1 : Nat) ≤ 1 from by decide) rfl (xs_111 ⟨by omega, by omega⟩) (fun r' f9 hP => ?_)
    obtain ⟨rfl, hPe⟩ := hP
    subst hPe
    refine x_goto (t := 101) rfl rfl ?_
    refine x_iadd rfl ?_
    refine x_iastore rfl (by decide) h192 ⟨by omega, by omega⟩ (by omega) ?_
    refine x_aload_n rfl (xst_ne (by decide) (xst_ne (by decide) (xst_ne (by decide) rfl (Or.inl rfl)) (Or.inl rfl)) (Or.inl rfl)) ?_
    refine x_getfield rfl (by decide) (xu_ne (by decide) h177) h26 ?_
    refine x_iload_n rfl (xst_ne (by decide) (xst_ne (by decide) (xst_ne (by decide) rfl (Or.inl rfl)) (Or.inl rfl)) (Or.inl rfl)) ?_
    refine x_bipush rfl (by decide) ?_
    refine x_iadd rfl ?_
    refine x_iload_n rfl (xst_ne (by decide) (xst_ne (by decide) (xst_ne (by decide) rfl (Or.inl rfl)) (Or.inl rfl)) (Or.inl rfl)) ?_
    refine x_iadd rfl ?_
    refine x_aload_n rfl (xst_ne (by decide) (xst_ne (by decide) (xst_ne (by decide) rfl (Or.inl rfl)) (Or.inl rfl)) (Or.inl rfl)) ?_
    refine x_getfield rfl (by decide) (xu_ne (by decide) h177) h26 ?_
    refine x_iload_n rfl (xst_ne (by decide) (xst_ne (by decide) (xst_ne (by decide) rfl (Or.inl rfl)) (Or.inl rfl)) (Or.inl rfl)) ?_
    refine x_iload_n rfl (xst_ne (by decide) (xst_ne (by decide) (xst_ne (by decide) rfl (Or.inl rfl)) (Or.inl rfl)) (Or.inl rfl)) ?_
    refine x_iadd rfl ?_
    refine x_iaload rfl (by decide) (xu_ne (by decide) h193) ⟨by omega, by omega⟩ (by omega) ?_
    rw [py]
    refine x_iload rfl xst_eq ?_
    refine x_ifeq (t := 136) rfl rfl (by decide) (fun h => absurd h (by decide)) (fun _ => ?_)
    refine x_iload rfl (xst_ne (by decide) xst_eq (Or.inl rfl)) ?_
    refine x_iconst rfl ?_
    refine x_irem rfl ⟨by omega, by omega⟩ (by decide) ?_
    refine x_call [_] rfl rfl (show (3 : Nat) ≤ 8 from by decide) (show (1 : Nat) ≤ 1 from by decide) rfl (xs_112 ⟨by omega, by omega⟩) (fun r' f9 hP => ?_)
    obtain ⟨rfl, hPe⟩ := hP
    subst hPe
    refine x_goto (t := 137) rfl rfl ?_
    refine x_iadd rfl ?_
    refine x_iastore rfl (by decide) (xu_ne (by decide) h193) ⟨by omega, by omega⟩ (by omega) ?_
    refine x_aload_n rfl (xst_ne (by decide) (xst_ne (by decide) (xst_ne (by decide) rfl (Or.inl rfl)) (Or.inl rfl)) (Or.inl rfl)) ?_
    refine x_getfield rfl (by decide) (xu_ne (by decide) (xu_ne (by decide) h177)) h27 ?_
    refine x_iload_n rfl (xst_ne (by decide) (xst_ne (by decide) (xst_ne (by decide) rfl (Or.inl rfl)) (Or.inl rfl)) (Or.inl rfl)) ?_
    refine x_bipush rfl (by decide) ?_
    refine x_iadd rfl ?_
    refine x_iload_n rfl (xst_ne (by decide) (xst_ne (by decide) (xst_ne (by decide) rfl (Or.inl rfl)) (Or.inl rfl)) (Or.inl rfl)) ?_
    refine x_iadd rfl ?_
    refine x_iload rfl (xst_ne (by decide) (xst_ne (by decide) xst_eq (Or.inl rfl)) (Or.inl rfl)) ?_
    refine x_iload_n rfl (xst_ne (by decide) (xst_ne (by decide) (xst_ne (by decide) rfl (Or.inl rfl)) (Or.inl rfl)) (Or.inl rfl)) ?_
    refine x_iconst rfl ?_
    refine x_cne (t := 160) rfl rfl (by decide) (by decide) (fun _ => ?_) (fun h => absurd h (by decide))
    refine x_iload_n rfl (xst_ne (by decide) (xst_ne (by decide) (xst_ne (by decide) rfl (Or.inl rfl)) (Or.inl rfl)) (Or.inl rfl)) ?_
    refine x_bipush rfl (by decide) ?_
    refine x_cne (t := 170) rfl rfl (by decide) (by decide) (fun _ => ?_) (fun h => absurd h (by decide))
    refine x_iconst rfl ?_
    refine x_iadd rfl ?_
    refine x_iconst rfl ?_
    refine x_irem rfl ⟨by omega, by omega⟩ (by decide) ?_
    refine x_iastore rfl (by decide) (xu_ne (by decide) (xu_ne (by decide) h194)) ⟨by omega, by omega⟩ (by omega) ?_
    refine x_return rfl ⟨_, _, rfl, rfl, rfl, ⟨?_, ?_, ?_, by rw [List.length_set]; exact hx, by rw [List.length_set]; exact hy, by rw [List.length_set]; exact hf⟩, fun q a1 a2 a3 => xu_ne a3 (xu_ne a2 (xu_ne a1 rfl))⟩
    · refine (xu_ne (by decide) (xu_ne (by decide) xu_eq)).trans (congrArg (fun z => xr 0 (ax.set (at' + 8 + (d : Nat)).toNat z)) ?_)
      rfl
    · refine (xu_ne (by decide) xu_eq).trans (congrArg (fun z => xr 0 (ay.set (at' + 8 + (d : Nat)).toNat z)) ?_)
      rfl
    · refine xu_eq.trans (congrArg (fun z => xr 0 (af.set (at' + 8 + (d : Nat)).toNat z)) ?_)
      rfl
  · refine x_iload_n rfl (xst_ne (by decide) rfl (Or.inl rfl)) ?_
    refine x_iconst rfl ?_
    refine x_cne (t := 20) rfl rfl (by decide) (by decide) (fun _ => ?_) (fun h => absurd h (by decide))
    refine x_iload_n rfl (xst_ne (by decide) rfl (Or.inl rfl)) ?_
    refine x_iconst rfl ?_
    refine x_cne (t := 32) rfl rfl (by decide) (by decide) (fun h => absurd h (by decide)) (fun _ => ?_)
    refine x_iload rfl xst_eq ?_
    refine x_iconst rfl ?_
    refine x_iadd rfl ?_
    refine x_goto (t := 48) rfl rfl ?_
    refine x_istore rfl (show (5 : Nat) < 7 from by decide) ?_
    refine x_iload_n rfl (xst_ne (by decide) (xst_ne (by decide) rfl (Or.inl rfl)) (Or.inl rfl)) ?_
    refine x_iconst rfl ?_
    refine x_clt (t := 64) rfl rfl (by decide) (by decide) (fun h => absurd h (by decide)) (fun _ => ?_)
    refine x_iload_n rfl (xst_ne (by decide) (xst_ne (by decide) rfl (Or.inl rfl)) (Or.inl rfl)) ?_
    refine x_iconst rfl ?_
    refine x_cgt (t := 64) rfl rfl (by decide) (by decide) (fun h => absurd h (by decide)) (fun _ => ?_)
    refine x_iconst rfl ?_
    refine x_goto (t := 65) rfl rfl ?_
    refine x_istore rfl (show (6 : Nat) < 7 from by decide) ?_
    refine x_aload_n rfl (xst_ne (by decide) (xst_ne (by decide) (xst_ne (by decide) rfl (Or.inl rfl)) (Or.inl rfl)) (Or.inl rfl)) ?_
    refine x_getfield rfl (by decide) h177 h25 ?_
    refine x_iload_n rfl (xst_ne (by decide) (xst_ne (by decide) (xst_ne (by decide) rfl (Or.inl rfl)) (Or.inl rfl)) (Or.inl rfl)) ?_
    refine x_bipush rfl (by decide) ?_
    refine x_iadd rfl ?_
    refine x_iload_n rfl (xst_ne (by decide) (xst_ne (by decide) (xst_ne (by decide) rfl (Or.inl rfl)) (Or.inl rfl)) (Or.inl rfl)) ?_
    refine x_iadd rfl ?_
    refine x_aload_n rfl (xst_ne (by decide) (xst_ne (by decide) (xst_ne (by decide) rfl (Or.inl rfl)) (Or.inl rfl)) (Or.inl rfl)) ?_
    refine x_getfield rfl (by decide) h177 h25 ?_
    refine x_iload_n rfl (xst_ne (by decide) (xst_ne (by decide) (xst_ne (by decide) rfl (Or.inl rfl)) (Or.inl rfl)) (Or.inl rfl)) ?_
    refine x_iload_n rfl (xst_ne (by decide) (xst_ne (by decide) (xst_ne (by decide) rfl (Or.inl rfl)) (Or.inl rfl)) (Or.inl rfl)) ?_
    refine x_iadd rfl ?_
    refine x_iaload rfl (by decide) h192 ⟨by omega, by omega⟩ (by omega) ?_
    rw [px]
    refine x_iload rfl xst_eq ?_
    refine x_ifeq (t := 100) rfl rfl (by decide) (fun h => absurd h (by decide)) (fun _ => ?_)
    refine x_iload rfl (xst_ne (by decide) xst_eq (Or.inl rfl)) ?_
    refine x_iconst rfl ?_
    refine x_irem rfl ⟨by omega, by omega⟩ (by decide) ?_
    refine x_call [_] rfl rfl (show (3 : Nat) ≤ 8 from by decide) (show (1 : Nat) ≤ 1 from by decide) rfl (xs_111 ⟨by omega, by omega⟩) (fun r' f9 hP => ?_)
    obtain ⟨rfl, hPe⟩ := hP
    subst hPe
    refine x_goto (t := 101) rfl rfl ?_
    refine x_iadd rfl ?_
    refine x_iastore rfl (by decide) h192 ⟨by omega, by omega⟩ (by omega) ?_
    refine x_aload_n rfl (xst_ne (by decide) (xst_ne (by decide) (xst_ne (by decide) rfl (Or.inl rfl)) (Or.inl rfl)) (Or.inl rfl)) ?_
    refine x_getfield rfl (by decide) (xu_ne (by decide) h177) h26 ?_
    refine x_iload_n rfl (xst_ne (by decide) (xst_ne (by decide) (xst_ne (by decide) rfl (Or.inl rfl)) (Or.inl rfl)) (Or.inl rfl)) ?_
    refine x_bipush rfl (by decide) ?_
    refine x_iadd rfl ?_
    refine x_iload_n rfl (xst_ne (by decide) (xst_ne (by decide) (xst_ne (by decide) rfl (Or.inl rfl)) (Or.inl rfl)) (Or.inl rfl)) ?_
    refine x_iadd rfl ?_
    refine x_aload_n rfl (xst_ne (by decide) (xst_ne (by decide) (xst_ne (by decide) rfl (Or.inl rfl)) (Or.inl rfl)) (Or.inl rfl)) ?_
    refine x_getfield rfl (by decide) (xu_ne (by decide) h177) h26 ?_
    refine x_iload_n rfl (xst_ne (by decide) (xst_ne (by decide) (xst_ne (by decide) rfl (Or.inl rfl)) (Or.inl rfl)) (Or.inl rfl)) ?_
    refine x_iload_n rfl (xst_ne (by decide) (xst_ne (by decide) (xst_ne (by decide) rfl (Or.inl rfl)) (Or.inl rfl)) (Or.inl rfl)) ?_
    refine x_iadd rfl ?_
    refine x_iaload rfl (by decide) (xu_ne (by decide) h193) ⟨by omega, by omega⟩ (by omega) ?_
    rw [py]
    refine x_iload rfl xst_eq ?_
    refine x_ifeq (t := 136) rfl rfl (by decide) (fun h => absurd h (by decide)) (fun _ => ?_)
    refine x_iload rfl (xst_ne (by decide) xst_eq (Or.inl rfl)) ?_
    refine x_iconst rfl ?_
    refine x_irem rfl ⟨by omega, by omega⟩ (by decide) ?_
    refine x_call [_] rfl rfl (show (3 : Nat) ≤ 8 from by decide) (show (1 : Nat) ≤ 1 from by decide) rfl (xs_112 ⟨by omega, by omega⟩) (fun r' f9 hP => ?_)
    obtain ⟨rfl, hPe⟩ := hP
    subst hPe
    refine x_goto (t := 137) rfl rfl ?_
    refine x_iadd rfl ?_
    refine x_iastore rfl (by decide) (xu_ne (by decide) h193) ⟨by omega, by omega⟩ (by omega) ?_
    refine x_aload_n rfl (xst_ne (by decide) (xst_ne (by decide) (xst_ne (by decide) rfl (Or.inl rfl)) (Or.inl rfl)) (Or.inl rfl)) ?_
    refine x_getfield rfl (by decide) (xu_ne (by decide) (xu_ne (by decide) h177)) h27 ?_
    refine x_iload_n rfl (xst_ne (by decide) (xst_ne (by decide) (xst_ne (by decide) rfl (Or.inl rfl)) (Or.inl rfl)) (Or.inl rfl)) ?_
    refine x_bipush rfl (by decide) ?_
    refine x_iadd rfl ?_
    refine x_iload_n rfl (xst_ne (by decide) (xst_ne (by decide) (xst_ne (by decide) rfl (Or.inl rfl)) (Or.inl rfl)) (Or.inl rfl)) ?_
    refine x_iadd rfl ?_
    refine x_iload rfl (xst_ne (by decide) (xst_ne (by decide) xst_eq (Or.inl rfl)) (Or.inl rfl)) ?_
    refine x_iload_n rfl (xst_ne (by decide) (xst_ne (by decide) (xst_ne (by decide) rfl (Or.inl rfl)) (Or.inl rfl)) (Or.inl rfl)) ?_
    refine x_iconst rfl ?_
    refine x_cne (t := 160) rfl rfl (by decide) (by decide) (fun _ => ?_) (fun h => absurd h (by decide))
    refine x_iload_n rfl (xst_ne (by decide) (xst_ne (by decide) (xst_ne (by decide) rfl (Or.inl rfl)) (Or.inl rfl)) (Or.inl rfl)) ?_
    refine x_bipush rfl (by decide) ?_
    refine x_cne (t := 170) rfl rfl (by decide) (by decide) (fun _ => ?_) (fun h => absurd h (by decide))
    refine x_iconst rfl ?_
    refine x_iadd rfl ?_
    refine x_iconst rfl ?_
    refine x_irem rfl ⟨by omega, by omega⟩ (by decide) ?_
    refine x_iastore rfl (by decide) (xu_ne (by decide) (xu_ne (by decide) h194)) ⟨by omega, by omega⟩ (by omega) ?_
    refine x_return rfl ⟨_, _, rfl, rfl, rfl, ⟨?_, ?_, ?_, by rw [List.length_set]; exact hx, by rw [List.length_set]; exact hy, by rw [List.length_set]; exact hf⟩, fun q a1 a2 a3 => xu_ne a3 (xu_ne a2 (xu_ne a1 rfl))⟩
    · refine (xu_ne (by decide) (xu_ne (by decide) xu_eq)).trans (congrArg (fun z => xr 0 (ax.set (at' + 8 + (d : Nat)).toNat z)) ?_)
      rfl
    · refine (xu_ne (by decide) xu_eq).trans (congrArg (fun z => xr 0 (ay.set (at' + 8 + (d : Nat)).toNat z)) ?_)
      rfl
    · refine xu_eq.trans (congrArg (fun z => xr 0 (af.set (at' + 8 + (d : Nat)).toNat z)) ?_)
      rfl
  · refine x_iload_n rfl (xst_ne (by decide) rfl (Or.inl rfl)) ?_
    refine x_iconst rfl ?_
    refine x_cne (t := 20) rfl rfl (by decide) (by decide) (fun _ => ?_) (fun h => absurd h (by decide))
    refine x_iload_n rfl (xst_ne (by decide) rfl (Or.inl rfl)) ?_
    refine x_iconst rfl ?_
    refine x_cne (t := 32) rfl rfl (by decide) (by decide) (fun _ => ?_) (fun h => absurd h (by decide))
    refine x_iload_n rfl (xst_ne (by decide) rfl (Or.inl rfl)) ?_
    refine x_iconst rfl ?_
    refine x_cne (t := 44) rfl rfl (by decide) (by decide) (fun h => absurd h (by decide)) (fun _ => ?_)
    refine x_iload rfl xst_eq ?_
    refine x_iconst rfl ?_
    refine x_iadd rfl ?_
    refine x_goto (t := 48) rfl rfl ?_
    refine x_istore rfl (show (5 : Nat) < 7 from by decide) ?_
    refine x_iload_n rfl (xst_ne (by decide) (xst_ne (by decide) rfl (Or.inl rfl)) (Or.inl rfl)) ?_
    refine x_iconst rfl ?_
    refine x_clt (t := 64) rfl rfl (by decide) (by decide) (fun h => absurd h (by decide)) (fun _ => ?_)
    refine x_iload_n rfl (xst_ne (by decide) (xst_ne (by decide) rfl (Or.inl rfl)) (Or.inl rfl)) ?_
    refine x_iconst rfl ?_
    refine x_cgt (t := 64) rfl rfl (by decide) (by decide) (fun h => absurd h (by decide)) (fun _ => ?_)
    refine x_iconst rfl ?_
    refine x_goto (t := 65) rfl rfl ?_
    refine x_istore rfl (show (6 : Nat) < 7 from by decide) ?_
    refine x_aload_n rfl (xst_ne (by decide) (xst_ne (by decide) (xst_ne (by decide) rfl (Or.inl rfl)) (Or.inl rfl)) (Or.inl rfl)) ?_
    refine x_getfield rfl (by decide) h177 h25 ?_
    refine x_iload_n rfl (xst_ne (by decide) (xst_ne (by decide) (xst_ne (by decide) rfl (Or.inl rfl)) (Or.inl rfl)) (Or.inl rfl)) ?_
    refine x_bipush rfl (by decide) ?_
    refine x_iadd rfl ?_
    refine x_iload_n rfl (xst_ne (by decide) (xst_ne (by decide) (xst_ne (by decide) rfl (Or.inl rfl)) (Or.inl rfl)) (Or.inl rfl)) ?_
    refine x_iadd rfl ?_
    refine x_aload_n rfl (xst_ne (by decide) (xst_ne (by decide) (xst_ne (by decide) rfl (Or.inl rfl)) (Or.inl rfl)) (Or.inl rfl)) ?_
    refine x_getfield rfl (by decide) h177 h25 ?_
    refine x_iload_n rfl (xst_ne (by decide) (xst_ne (by decide) (xst_ne (by decide) rfl (Or.inl rfl)) (Or.inl rfl)) (Or.inl rfl)) ?_
    refine x_iload_n rfl (xst_ne (by decide) (xst_ne (by decide) (xst_ne (by decide) rfl (Or.inl rfl)) (Or.inl rfl)) (Or.inl rfl)) ?_
    refine x_iadd rfl ?_
    refine x_iaload rfl (by decide) h192 ⟨by omega, by omega⟩ (by omega) ?_
    rw [px]
    refine x_iload rfl xst_eq ?_
    refine x_ifeq (t := 100) rfl rfl (by decide) (fun h => absurd h (by decide)) (fun _ => ?_)
    refine x_iload rfl (xst_ne (by decide) xst_eq (Or.inl rfl)) ?_
    refine x_iconst rfl ?_
    refine x_irem rfl ⟨by omega, by omega⟩ (by decide) ?_
    refine x_call [_] rfl rfl (show (3 : Nat) ≤ 8 from by decide) (show (1 : Nat) ≤ 1 from by decide) rfl (xs_111 ⟨by omega, by omega⟩) (fun r' f9 hP => ?_)
    obtain ⟨rfl, hPe⟩ := hP
    subst hPe
    refine x_goto (t := 101) rfl rfl ?_
    refine x_iadd rfl ?_
    refine x_iastore rfl (by decide) h192 ⟨by omega, by omega⟩ (by omega) ?_
    refine x_aload_n rfl (xst_ne (by decide) (xst_ne (by decide) (xst_ne (by decide) rfl (Or.inl rfl)) (Or.inl rfl)) (Or.inl rfl)) ?_
    refine x_getfield rfl (by decide) (xu_ne (by decide) h177) h26 ?_
    refine x_iload_n rfl (xst_ne (by decide) (xst_ne (by decide) (xst_ne (by decide) rfl (Or.inl rfl)) (Or.inl rfl)) (Or.inl rfl)) ?_
    refine x_bipush rfl (by decide) ?_
    refine x_iadd rfl ?_
    refine x_iload_n rfl (xst_ne (by decide) (xst_ne (by decide) (xst_ne (by decide) rfl (Or.inl rfl)) (Or.inl rfl)) (Or.inl rfl)) ?_
    refine x_iadd rfl ?_
    refine x_aload_n rfl (xst_ne (by decide) (xst_ne (by decide) (xst_ne (by decide) rfl (Or.inl rfl)) (Or.inl rfl)) (Or.inl rfl)) ?_
    refine x_getfield rfl (by decide) (xu_ne (by decide) h177) h26 ?_
    refine x_iload_n rfl (xst_ne (by decide) (xst_ne (by decide) (xst_ne (by decide) rfl (Or.inl rfl)) (Or.inl rfl)) (Or.inl rfl)) ?_
    refine x_iload_n rfl (xst_ne (by decide) (xst_ne (by decide) (xst_ne (by decide) rfl (Or.inl rfl)) (Or.inl rfl)) (Or.inl rfl)) ?_
    refine x_iadd rfl ?_
    refine x_iaload rfl (by decide) (xu_ne (by decide) h193) ⟨by omega, by omega⟩ (by omega) ?_
    rw [py]
    refine x_iload rfl xst_eq ?_
    refine x_ifeq (t := 136) rfl rfl (by decide) (fun h => absurd h (by decide)) (fun _ => ?_)
    refine x_iload rfl (xst_ne (by decide) xst_eq (Or.inl rfl)) ?_
    refine x_iconst rfl ?_
    refine x_irem rfl ⟨by omega, by omega⟩ (by decide) ?_
    refine x_call [_] rfl rfl (show (3 : Nat) ≤ 8 from by decide) (show (1 : Nat) ≤ 1 from by decide) rfl (xs_112 ⟨by omega, by omega⟩) (fun r' f9 hP => ?_)
    obtain ⟨rfl, hPe⟩ := hP
    subst hPe
    refine x_goto (t := 137) rfl rfl ?_
    refine x_iadd rfl ?_
    refine x_iastore rfl (by decide) (xu_ne (by decide) h193) ⟨by omega, by omega⟩ (by omega) ?_
    refine x_aload_n rfl (xst_ne (by decide) (xst_ne (by decide) (xst_ne (by decide) rfl (Or.inl rfl)) (Or.inl rfl)) (Or.inl rfl)) ?_
    refine x_getfield rfl (by decide) (xu_ne (by decide) (xu_ne (by decide) h177)) h27 ?_
    refine x_iload_n rfl (xst_ne (by decide) (xst_ne (by decide) (xst_ne (by decide) rfl (Or.inl rfl)) (Or.inl rfl)) (Or.inl rfl)) ?_
    refine x_bipush rfl (by decide) ?_
    refine x_iadd rfl ?_
    refine x_iload_n rfl (xst_ne (by decide) (xst_ne (by decide) (xst_ne (by decide) rfl (Or.inl rfl)) (Or.inl rfl)) (Or.inl rfl)) ?_
    refine x_iadd rfl ?_
    refine x_iload rfl (xst_ne (by decide) (xst_ne (by decide) xst_eq (Or.inl rfl)) (Or.inl rfl)) ?_
    refine x_iload_n rfl (xst_ne (by decide) (xst_ne (by decide) (xst_ne (by decide) rfl (Or.inl rfl)) (Or.inl rfl)) (Or.inl rfl)) ?_
    refine x_iconst rfl ?_
    refine x_cne (t := 160) rfl rfl (by decide) (by decide) (fun _ => ?_) (fun h => absurd h (by decide))
    refine x_iload_n rfl (xst_ne (by decide) (xst_ne (by decide) (xst_ne (by decide) rfl (Or.inl rfl)) (Or.inl rfl)) (Or.inl rfl)) ?_
    refine x_bipush rfl (by decide) ?_
    refine x_cne (t := 170) rfl rfl (by decide) (by decide) (fun _ => ?_) (fun h => absurd h (by decide))
    refine x_iconst rfl ?_
    refine x_iadd rfl ?_
    refine x_iconst rfl ?_
    refine x_irem rfl ⟨by omega, by omega⟩ (by decide) ?_
    refine x_iastore rfl (by decide) (xu_ne (by decide) (xu_ne (by decide) h194)) ⟨by omega, by omega⟩ (by omega) ?_
    refine x_return rfl ⟨_, _, rfl, rfl, rfl, ⟨?_, ?_, ?_, by rw [List.length_set]; exact hx, by rw [List.length_set]; exact hy, by rw [List.length_set]; exact hf⟩, fun q a1 a2 a3 => xu_ne a3 (xu_ne a2 (xu_ne a1 rfl))⟩
    · refine (xu_ne (by decide) (xu_ne (by decide) xu_eq)).trans (congrArg (fun z => xr 0 (ax.set (at' + 8 + (d : Nat)).toNat z)) ?_)
      rfl
    · refine (xu_ne (by decide) xu_eq).trans (congrArg (fun z => xr 0 (ay.set (at' + 8 + (d : Nat)).toNat z)) ?_)
      rfl
    · refine xu_eq.trans (congrArg (fun z => xr 0 (af.set (at' + 8 + (d : Nat)).toNat z)) ?_)
      rfl
  · refine x_iload_n rfl (xst_ne (by decide) rfl (Or.inl rfl)) ?_
    refine x_iconst rfl ?_
    refine x_cne (t := 20) rfl rfl (by decide) (by decide) (fun _ => ?_) (fun h => absurd h (by decide))
    refine x_iload_n rfl (xst_ne (by decide) rfl (Or.inl rfl)) ?_
    refine x_iconst rfl ?_
    refine x_cne (t := 32) rfl rfl (by decide) (by decide) (fun _ => ?_) (fun h => absurd h (by decide))
    refine x_iload_n rfl (xst_ne (by decide) rfl (Or.inl rfl)) ?_
    refine x_iconst rfl ?_
    refine x_cne (t := 44) rfl rfl (by decide) (by decide) (fun _ => ?_) (fun h => absurd h (by decide))
    refine x_iload rfl xst_eq ?_
    refine x_iconst rfl ?_
    refine x_iadd rfl ?_
    refine x_istore rfl (show (5 : Nat) < 7 from by decide) ?_
    refine x_iload_n rfl (xst_ne (by decide) (xst_ne (by decide) rfl (Or.inl rfl)) (Or.inl rfl)) ?_
    refine x_iconst rfl ?_
    refine x_clt (t := 64) rfl rfl (by decide) (by decide) (fun h => absurd h (by decide)) (fun _ => ?_)
    refine x_iload_n rfl (xst_ne (by decide) (xst_ne (by decide) rfl (Or.inl rfl)) (Or.inl rfl)) ?_
    refine x_iconst rfl ?_
    refine x_cgt (t := 64) rfl rfl (by decide) (by decide) (fun h => absurd h (by decide)) (fun _ => ?_)
    refine x_iconst rfl ?_
    refine x_goto (t := 65) rfl rfl ?_
    refine x_istore rfl (show (6 : Nat) < 7 from by decide) ?_
    refine x_aload_n rfl (xst_ne (by decide) (xst_ne (by decide) (xst_ne (by decide) rfl (Or.inl rfl)) (Or.inl rfl)) (Or.inl rfl)) ?_
    refine x_getfield rfl (by decide) h177 h25 ?_
    refine x_iload_n rfl (xst_ne (by decide) (xst_ne (by decide) (xst_ne (by decide) rfl (Or.inl rfl)) (Or.inl rfl)) (Or.inl rfl)) ?_
    refine x_bipush rfl (by decide) ?_
    refine x_iadd rfl ?_
    refine x_iload_n rfl (xst_ne (by decide) (xst_ne (by decide) (xst_ne (by decide) rfl (Or.inl rfl)) (Or.inl rfl)) (Or.inl rfl)) ?_
    refine x_iadd rfl ?_
    refine x_aload_n rfl (xst_ne (by decide) (xst_ne (by decide) (xst_ne (by decide) rfl (Or.inl rfl)) (Or.inl rfl)) (Or.inl rfl)) ?_
    refine x_getfield rfl (by decide) h177 h25 ?_
    refine x_iload_n rfl (xst_ne (by decide) (xst_ne (by decide) (xst_ne (by decide) rfl (Or.inl rfl)) (Or.inl rfl)) (Or.inl rfl)) ?_
    refine x_iload_n rfl (xst_ne (by decide) (xst_ne (by decide) (xst_ne (by decide) rfl (Or.inl rfl)) (Or.inl rfl)) (Or.inl rfl)) ?_
    refine x_iadd rfl ?_
    refine x_iaload rfl (by decide) h192 ⟨by omega, by omega⟩ (by omega) ?_
    rw [px]
    refine x_iload rfl xst_eq ?_
    refine x_ifeq (t := 100) rfl rfl (by decide) (fun h => absurd h (by decide)) (fun _ => ?_)
    refine x_iload rfl (xst_ne (by decide) xst_eq (Or.inl rfl)) ?_
    refine x_iconst rfl ?_
    refine x_irem rfl ⟨by omega, by omega⟩ (by decide) ?_
    refine x_call [_] rfl rfl (show (3 : Nat) ≤ 8 from by decide) (show (1 : Nat) ≤ 1 from by decide) rfl (xs_111 ⟨by omega, by omega⟩) (fun r' f9 hP => ?_)
    obtain ⟨rfl, hPe⟩ := hP
    subst hPe
    refine x_goto (t := 101) rfl rfl ?_
    refine x_iadd rfl ?_
    refine x_iastore rfl (by decide) h192 ⟨by omega, by omega⟩ (by omega) ?_
    refine x_aload_n rfl (xst_ne (by decide) (xst_ne (by decide) (xst_ne (by decide) rfl (Or.inl rfl)) (Or.inl rfl)) (Or.inl rfl)) ?_
    refine x_getfield rfl (by decide) (xu_ne (by decide) h177) h26 ?_
    refine x_iload_n rfl (xst_ne (by decide) (xst_ne (by decide) (xst_ne (by decide) rfl (Or.inl rfl)) (Or.inl rfl)) (Or.inl rfl)) ?_
    refine x_bipush rfl (by decide) ?_
    refine x_iadd rfl ?_
    refine x_iload_n rfl (xst_ne (by decide) (xst_ne (by decide) (xst_ne (by decide) rfl (Or.inl rfl)) (Or.inl rfl)) (Or.inl rfl)) ?_
    refine x_iadd rfl ?_
    refine x_aload_n rfl (xst_ne (by decide) (xst_ne (by decide) (xst_ne (by decide) rfl (Or.inl rfl)) (Or.inl rfl)) (Or.inl rfl)) ?_
    refine x_getfield rfl (by decide) (xu_ne (by decide) h177) h26 ?_
    refine x_iload_n rfl (xst_ne (by decide) (xst_ne (by decide) (xst_ne (by decide) rfl (Or.inl rfl)) (Or.inl rfl)) (Or.inl rfl)) ?_
    refine x_iload_n rfl (xst_ne (by decide) (xst_ne (by decide) (xst_ne (by decide) rfl (Or.inl rfl)) (Or.inl rfl)) (Or.inl rfl)) ?_
    refine x_iadd rfl ?_
    refine x_iaload rfl (by decide) (xu_ne (by decide) h193) ⟨by omega, by omega⟩ (by omega) ?_
    rw [py]
    refine x_iload rfl xst_eq ?_
    refine x_ifeq (t := 136) rfl rfl (by decide) (fun h => absurd h (by decide)) (fun _ => ?_)
    refine x_iload rfl (xst_ne (by decide) xst_eq (Or.inl rfl)) ?_
    refine x_iconst rfl ?_
    refine x_irem rfl ⟨by omega, by omega⟩ (by decide) ?_
    refine x_call [_] rfl rfl (show (3 : Nat) ≤ 8 from by decide) (show (1 : Nat) ≤ 1 from by decide) rfl (xs_112 ⟨by omega, by omega⟩) (fun r' f9 hP => ?_)
    obtain ⟨rfl, hPe⟩ := hP
    subst hPe
    refine x_goto (t := 137) rfl rfl ?_
    refine x_iadd rfl ?_
    refine x_iastore rfl (by decide) (xu_ne (by decide) h193) ⟨by omega, by omega⟩ (by omega) ?_
    refine x_aload_n rfl (xst_ne (by decide) (xst_ne (by decide) (xst_ne (by decide) rfl (Or.inl rfl)) (Or.inl rfl)) (Or.inl rfl)) ?_
    refine x_getfield rfl (by decide) (xu_ne (by decide) (xu_ne (by decide) h177)) h27 ?_
    refine x_iload_n rfl (xst_ne (by decide) (xst_ne (by decide) (xst_ne (by decide) rfl (Or.inl rfl)) (Or.inl rfl)) (Or.inl rfl)) ?_
    refine x_bipush rfl (by decide) ?_
    refine x_iadd rfl ?_
    refine x_iload_n rfl (xst_ne (by decide) (xst_ne (by decide) (xst_ne (by decide) rfl (Or.inl rfl)) (Or.inl rfl)) (Or.inl rfl)) ?_
    refine x_iadd rfl ?_
    refine x_iload rfl (xst_ne (by decide) (xst_ne (by decide) xst_eq (Or.inl rfl)) (Or.inl rfl)) ?_
    refine x_iload_n rfl (xst_ne (by decide) (xst_ne (by decide) (xst_ne (by decide) rfl (Or.inl rfl)) (Or.inl rfl)) (Or.inl rfl)) ?_
    refine x_iconst rfl ?_
    refine x_cne (t := 160) rfl rfl (by decide) (by decide) (fun _ => ?_) (fun h => absurd h (by decide))
    refine x_iload_n rfl (xst_ne (by decide) (xst_ne (by decide) (xst_ne (by decide) rfl (Or.inl rfl)) (Or.inl rfl)) (Or.inl rfl)) ?_
    refine x_bipush rfl (by decide) ?_
    refine x_cne (t := 170) rfl rfl (by decide) (by decide) (fun _ => ?_) (fun h => absurd h (by decide))
    refine x_iconst rfl ?_
    refine x_iadd rfl ?_
    refine x_iconst rfl ?_
    refine x_irem rfl ⟨by omega, by omega⟩ (by decide) ?_
    refine x_iastore rfl (by decide) (xu_ne (by decide) (xu_ne (by decide) h194)) ⟨by omega, by omega⟩ (by omega) ?_
    refine x_return rfl ⟨_, _, rfl, rfl, rfl, ⟨?_, ?_, ?_, by rw [List.length_set]; exact hx, by rw [List.length_set]; exact hy, by rw [List.length_set]; exact hf⟩, fun q a1 a2 a3 => xu_ne a3 (xu_ne a2 (xu_ne a1 rfl))⟩
    · refine (xu_ne (by decide) (xu_ne (by decide) xu_eq)).trans (congrArg (fun z => xr 0 (ax.set (at' + 8 + (d : Nat)).toNat z)) ?_)
      rfl
    · refine (xu_ne (by decide) xu_eq).trans (congrArg (fun z => xr 0 (ay.set (at' + 8 + (d : Nat)).toNat z)) ?_)
      rfl
    · refine xu_eq.trans (congrArg (fun z => xr 0 (af.set (at' + 8 + (d : Nat)).toNat z)) ?_)
      rfl
  · refine x_iload_n rfl (xst_ne (by decide) rfl (Or.inl rfl)) ?_
    refine x_iconst rfl ?_
    refine x_cne (t := 20) rfl rfl (by decide) (by decide) (fun _ => ?_) (fun h => absurd h (by decide))
    refine x_iload_n rfl (xst_ne (by decide) rfl (Or.inl rfl)) ?_
    refine x_iconst rfl ?_
    refine x_cne (t := 32) rfl rfl (by decide) (by decide) (fun _ => ?_) (fun h => absurd h (by decide))
    refine x_iload_n rfl (xst_ne (by decide) rfl (Or.inl rfl)) ?_
    refine x_iconst rfl ?_
    refine x_cne (t := 44) rfl rfl (by decide) (by decide) (fun _ => ?_) (fun h => absurd h (by decide))
    refine x_iload rfl xst_eq ?_
    refine x_iconst rfl ?_
    refine x_iadd rfl ?_
    refine x_istore rfl (show (5 : Nat) < 7 from by decide) ?_
    refine x_iload_n rfl (xst_ne (by decide) (xst_ne (by decide) rfl (Or.inl rfl)) (Or.inl rfl)) ?_
    refine x_iconst rfl ?_
    refine x_clt (t := 64) rfl rfl (by decide) (by decide) (fun h => absurd h (by decide)) (fun _ => ?_)
    refine x_iload_n rfl (xst_ne (by decide) (xst_ne (by decide) rfl (Or.inl rfl)) (Or.inl rfl)) ?_
    refine x_iconst rfl ?_
    refine x_cgt (t := 64) rfl rfl (by decide) (by decide) (fun _ => ?_) (fun h => absurd h (by decide))
    refine x_iconst rfl ?_
    refine x_istore rfl (show (6 : Nat) < 7 from by decide) ?_
    refine x_aload_n rfl (xst_ne (by decide) (xst_ne (by decide) (xst_ne (by decide) rfl (Or.inl rfl)) (Or.inl rfl)) (Or.inl rfl)) ?_
    refine x_getfield rfl (by decide) h177 h25 ?_
    refine x_iload_n rfl (xst_ne (by decide) (xst_ne (by decide) (xst_ne (by decide) rfl (Or.inl rfl)) (Or.inl rfl)) (Or.inl rfl)) ?_
    refine x_bipush rfl (by decide) ?_
    refine x_iadd rfl ?_
    refine x_iload_n rfl (xst_ne (by decide) (xst_ne (by decide) (xst_ne (by decide) rfl (Or.inl rfl)) (Or.inl rfl)) (Or.inl rfl)) ?_
    refine x_iadd rfl ?_
    refine x_aload_n rfl (xst_ne (by decide) (xst_ne (by decide) (xst_ne (by decide) rfl (Or.inl rfl)) (Or.inl rfl)) (Or.inl rfl)) ?_
    refine x_getfield rfl (by decide) h177 h25 ?_
    refine x_iload_n rfl (xst_ne (by decide) (xst_ne (by decide) (xst_ne (by decide) rfl (Or.inl rfl)) (Or.inl rfl)) (Or.inl rfl)) ?_
    refine x_iload_n rfl (xst_ne (by decide) (xst_ne (by decide) (xst_ne (by decide) rfl (Or.inl rfl)) (Or.inl rfl)) (Or.inl rfl)) ?_
    refine x_iadd rfl ?_
    refine x_iaload rfl (by decide) h192 ⟨by omega, by omega⟩ (by omega) ?_
    rw [px]
    refine x_iload rfl xst_eq ?_
    refine x_ifeq (t := 100) rfl rfl (by decide) (fun _ => ?_) (fun h => absurd h (by decide))
    refine x_iconst rfl ?_
    refine x_iadd rfl ?_
    refine x_iastore rfl (by decide) h192 ⟨by omega, by omega⟩ (by omega) ?_
    refine x_aload_n rfl (xst_ne (by decide) (xst_ne (by decide) (xst_ne (by decide) rfl (Or.inl rfl)) (Or.inl rfl)) (Or.inl rfl)) ?_
    refine x_getfield rfl (by decide) (xu_ne (by decide) h177) h26 ?_
    refine x_iload_n rfl (xst_ne (by decide) (xst_ne (by decide) (xst_ne (by decide) rfl (Or.inl rfl)) (Or.inl rfl)) (Or.inl rfl)) ?_
    refine x_bipush rfl (by decide) ?_
    refine x_iadd rfl ?_
    refine x_iload_n rfl (xst_ne (by decide) (xst_ne (by decide) (xst_ne (by decide) rfl (Or.inl rfl)) (Or.inl rfl)) (Or.inl rfl)) ?_
    refine x_iadd rfl ?_
    refine x_aload_n rfl (xst_ne (by decide) (xst_ne (by decide) (xst_ne (by decide) rfl (Or.inl rfl)) (Or.inl rfl)) (Or.inl rfl)) ?_
    refine x_getfield rfl (by decide) (xu_ne (by decide) h177) h26 ?_
    refine x_iload_n rfl (xst_ne (by decide) (xst_ne (by decide) (xst_ne (by decide) rfl (Or.inl rfl)) (Or.inl rfl)) (Or.inl rfl)) ?_
    refine x_iload_n rfl (xst_ne (by decide) (xst_ne (by decide) (xst_ne (by decide) rfl (Or.inl rfl)) (Or.inl rfl)) (Or.inl rfl)) ?_
    refine x_iadd rfl ?_
    refine x_iaload rfl (by decide) (xu_ne (by decide) h193) ⟨by omega, by omega⟩ (by omega) ?_
    rw [py]
    refine x_iload rfl xst_eq ?_
    refine x_ifeq (t := 136) rfl rfl (by decide) (fun _ => ?_) (fun h => absurd h (by decide))
    refine x_iconst rfl ?_
    refine x_iadd rfl ?_
    refine x_iastore rfl (by decide) (xu_ne (by decide) h193) ⟨by omega, by omega⟩ (by omega) ?_
    refine x_aload_n rfl (xst_ne (by decide) (xst_ne (by decide) (xst_ne (by decide) rfl (Or.inl rfl)) (Or.inl rfl)) (Or.inl rfl)) ?_
    refine x_getfield rfl (by decide) (xu_ne (by decide) (xu_ne (by decide) h177)) h27 ?_
    refine x_iload_n rfl (xst_ne (by decide) (xst_ne (by decide) (xst_ne (by decide) rfl (Or.inl rfl)) (Or.inl rfl)) (Or.inl rfl)) ?_
    refine x_bipush rfl (by decide) ?_
    refine x_iadd rfl ?_
    refine x_iload_n rfl (xst_ne (by decide) (xst_ne (by decide) (xst_ne (by decide) rfl (Or.inl rfl)) (Or.inl rfl)) (Or.inl rfl)) ?_
    refine x_iadd rfl ?_
    refine x_iload rfl (xst_ne (by decide) (xst_ne (by decide) xst_eq (Or.inl rfl)) (Or.inl rfl)) ?_
    refine x_iload_n rfl (xst_ne (by decide) (xst_ne (by decide) (xst_ne (by decide) rfl (Or.inl rfl)) (Or.inl rfl)) (Or.inl rfl)) ?_
    refine x_iconst rfl ?_
    refine x_cne (t := 160) rfl rfl (by decide) (by decide) (fun h => absurd h (by decide)) (fun _ => ?_)
    refine x_iconst rfl ?_
    refine x_goto (t := 171) rfl rfl ?_
    refine x_iadd rfl ?_
    refine x_iconst rfl ?_
    refine x_irem rfl ⟨by omega, by omega⟩ (by decide) ?_
    refine x_iastore rfl (by decide) (xu_ne (by decide) (xu_ne (by decide) h194)) ⟨by omega, by omega⟩ (by omega) ?_
    refine x_return rfl ⟨_, _, rfl, rfl, rfl, ⟨?_, ?_, ?_, by rw [List.length_set]; exact hx, by rw [List.length_set]; exact hy, by rw [List.length_set]; exact hf⟩, fun q a1 a2 a3 => xu_ne a3 (xu_ne a2 (xu_ne a1 rfl))⟩
    · refine (xu_ne (by decide) (xu_ne (by decide) xu_eq)).trans (congrArg (fun z => xr 0 (ax.set (at' + 8 + (d : Nat)).toNat z)) ?_)
      rfl
    · refine (xu_ne (by decide) xu_eq).trans (congrArg (fun z => xr 0 (ay.set (at' + 8 + (d : Nat)).toNat z)) ?_)
      rfl
    · refine xu_eq.trans (congrArg (fun z => xr 0 (af.set (at' + 8 + (d : Nat)).toNat z)) ?_)
      rfl
  · refine x_iload_n rfl (xst_ne (by decide) rfl (Or.inl rfl)) ?_
    refine x_iconst rfl ?_
    refine x_cne (t := 20) rfl rfl (by decide) (by decide) (fun _ => ?_) (fun h => absurd h (by decide))
    refine x_iload_n rfl (xst_ne (by decide) rfl (Or.inl rfl)) ?_
    refine x_iconst rfl ?_
    refine x_cne (t := 32) rfl rfl (by decide) (by decide) (fun _ => ?_) (fun h => absurd h (by decide))
    refine x_iload_n rfl (xst_ne (by decide) rfl (Or.inl rfl)) ?_
    refine x_iconst rfl ?_
    refine x_cne (t := 44) rfl rfl (by decide) (by decide) (fun _ => ?_) (fun h => absurd h (by decide))
    refine x_iload rfl xst_eq ?_
    refine x_iconst rfl ?_
    refine x_iadd rfl ?_
    refine x_istore rfl (show (5 : Nat) < 7 from by decide) ?_
    refine x_iload_n rfl (xst_ne (by decide) (xst_ne (by decide) rfl (Or.inl rfl)) (Or.inl rfl)) ?_
    refine x_iconst rfl ?_
    refine x_clt (t := 64) rfl rfl (by decide) (by decide) (fun h => absurd h (by decide)) (fun _ => ?_)
    refine x_iload_n rfl (xst_ne (by decide) (xst_ne (by decide) rfl (Or.inl rfl)) (Or.inl rfl)) ?_
    refine x_iconst rfl ?_
    refine x_cgt (t := 64) rfl rfl (by decide) (by decide) (fun _ => ?_) (fun h => absurd h (by decide))
    refine x_iconst rfl ?_
    refine x_istore rfl (show (6 : Nat) < 7 from by decide) ?_
    refine x_aload_n rfl (xst_ne (by decide) (xst_ne (by decide) (xst_ne (by decide) rfl (Or.inl rfl)) (Or.inl rfl)) (Or.inl rfl)) ?_
    refine x_getfield rfl (by decide) h177 h25 ?_
    refine x_iload_n rfl (xst_ne (by decide) (xst_ne (by decide) (xst_ne (by decide) rfl (Or.inl rfl)) (Or.inl rfl)) (Or.inl rfl)) ?_
    refine x_bipush rfl (by decide) ?_
    refine x_iadd rfl ?_
    refine x_iload_n rfl (xst_ne (by decide) (xst_ne (by decide) (xst_ne (by decide) rfl (Or.inl rfl)) (Or.inl rfl)) (Or.inl rfl)) ?_
    refine x_iadd rfl ?_
    refine x_aload_n rfl (xst_ne (by decide) (xst_ne (by decide) (xst_ne (by decide) rfl (Or.inl rfl)) (Or.inl rfl)) (Or.inl rfl)) ?_
    refine x_getfield rfl (by decide) h177 h25 ?_
    refine x_iload_n rfl (xst_ne (by decide) (xst_ne (by decide) (xst_ne (by decide) rfl (Or.inl rfl)) (Or.inl rfl)) (Or.inl rfl)) ?_
    refine x_iload_n rfl (xst_ne (by decide) (xst_ne (by decide) (xst_ne (by decide) rfl (Or.inl rfl)) (Or.inl rfl)) (Or.inl rfl)) ?_
    refine x_iadd rfl ?_
    refine x_iaload rfl (by decide) h192 ⟨by omega, by omega⟩ (by omega) ?_
    rw [px]
    refine x_iload rfl xst_eq ?_
    refine x_ifeq (t := 100) rfl rfl (by decide) (fun _ => ?_) (fun h => absurd h (by decide))
    refine x_iconst rfl ?_
    refine x_iadd rfl ?_
    refine x_iastore rfl (by decide) h192 ⟨by omega, by omega⟩ (by omega) ?_
    refine x_aload_n rfl (xst_ne (by decide) (xst_ne (by decide) (xst_ne (by decide) rfl (Or.inl rfl)) (Or.inl rfl)) (Or.inl rfl)) ?_
    refine x_getfield rfl (by decide) (xu_ne (by decide) h177) h26 ?_
    refine x_iload_n rfl (xst_ne (by decide) (xst_ne (by decide) (xst_ne (by decide) rfl (Or.inl rfl)) (Or.inl rfl)) (Or.inl rfl)) ?_
    refine x_bipush rfl (by decide) ?_
    refine x_iadd rfl ?_
    refine x_iload_n rfl (xst_ne (by decide) (xst_ne (by decide) (xst_ne (by decide) rfl (Or.inl rfl)) (Or.inl rfl)) (Or.inl rfl)) ?_
    refine x_iadd rfl ?_
    refine x_aload_n rfl (xst_ne (by decide) (xst_ne (by decide) (xst_ne (by decide) rfl (Or.inl rfl)) (Or.inl rfl)) (Or.inl rfl)) ?_
    refine x_getfield rfl (by decide) (xu_ne (by decide) h177) h26 ?_
    refine x_iload_n rfl (xst_ne (by decide) (xst_ne (by decide) (xst_ne (by decide) rfl (Or.inl rfl)) (Or.inl rfl)) (Or.inl rfl)) ?_
    refine x_iload_n rfl (xst_ne (by decide) (xst_ne (by decide) (xst_ne (by decide) rfl (Or.inl rfl)) (Or.inl rfl)) (Or.inl rfl)) ?_
    refine x_iadd rfl ?_
    refine x_iaload rfl (by decide) (xu_ne (by decide) h193) ⟨by omega, by omega⟩ (by omega) ?_
    rw [py]
    refine x_iload rfl xst_eq ?_
    refine x_ifeq (t := 136) rfl rfl (by decide) (fun _ => ?_) (fun h => absurd h (by decide))
    refine x_iconst rfl ?_
    refine x_iadd rfl ?_
    refine x_iastore rfl (by decide) (xu_ne (by decide) h193) ⟨by omega, by omega⟩ (by omega) ?_
    refine x_aload_n rfl (xst_ne (by decide) (xst_ne (by decide) (xst_ne (by decide) rfl (Or.inl rfl)) (Or.inl rfl)) (Or.inl rfl)) ?_
    refine x_getfield rfl (by decide) (xu_ne (by decide) (xu_ne (by decide) h177)) h27 ?_
    refine x_iload_n rfl (xst_ne (by decide) (xst_ne (by decide) (xst_ne (by decide) rfl (Or.inl rfl)) (Or.inl rfl)) (Or.inl rfl)) ?_
    refine x_bipush rfl (by decide) ?_
    refine x_iadd rfl ?_
    refine x_iload_n rfl (xst_ne (by decide) (xst_ne (by decide) (xst_ne (by decide) rfl (Or.inl rfl)) (Or.inl rfl)) (Or.inl rfl)) ?_
    refine x_iadd rfl ?_
    refine x_iload rfl (xst_ne (by decide) (xst_ne (by decide) xst_eq (Or.inl rfl)) (Or.inl rfl)) ?_
    refine x_iload_n rfl (xst_ne (by decide) (xst_ne (by decide) (xst_ne (by decide) rfl (Or.inl rfl)) (Or.inl rfl)) (Or.inl rfl)) ?_
    refine x_iconst rfl ?_
    refine x_cne (t := 160) rfl rfl (by decide) (by decide) (fun _ => ?_) (fun h => absurd h (by decide))
    refine x_iload_n rfl (xst_ne (by decide) (xst_ne (by decide) (xst_ne (by decide) rfl (Or.inl rfl)) (Or.inl rfl)) (Or.inl rfl)) ?_
    refine x_bipush rfl (by decide) ?_
    refine x_cne (t := 170) rfl rfl (by decide) (by decide) (fun h => absurd h (by decide)) (fun _ => ?_)
    refine x_iconst rfl ?_
    refine x_goto (t := 171) rfl rfl ?_
    refine x_iadd rfl ?_
    refine x_iconst rfl ?_
    refine x_irem rfl ⟨by omega, by omega⟩ (by decide) ?_
    refine x_iastore rfl (by decide) (xu_ne (by decide) (xu_ne (by decide) h194)) ⟨by omega, by omega⟩ (by omega) ?_
    refine x_return rfl ⟨_, _, rfl, rfl, rfl, ⟨?_, ?_, ?_, by rw [List.length_set]; exact hx, by rw [List.length_set]; exact hy, by rw [List.length_set]; exact hf⟩, fun q a1 a2 a3 => xu_ne a3 (xu_ne a2 (xu_ne a1 rfl))⟩
    · refine (xu_ne (by decide) (xu_ne (by decide) xu_eq)).trans (congrArg (fun z => xr 0 (ax.set (at' + 8 + (d : Nat)).toNat z)) ?_)
      rfl
    · refine (xu_ne (by decide) xu_eq).trans (congrArg (fun z => xr 0 (ay.set (at' + 8 + (d : Nat)).toNat z)) ?_)
      rfl
    · refine xu_eq.trans (congrArg (fun z => xr 0 (af.set (at' + 8 + (d : Nat)).toNat z)) ?_)
      rfl
end
section
/-! The model's selectors: 114 to 117. -/
theorem sm_or_z (a : Int) : Int32.ofInt a ||| Int32.ofInt 0 = Int32.ofInt a := by
  rw [show Int32.ofInt 0 = 0 from rfl]
  exact Int32.or_zero
theorem sm_cpl (P : Nat → Bool) : smk (fun d => !P d) 8 = 255 - smk P 8 := by
  have h : ∀ k, smk (fun d => !P d) k + smk P k = ((2 ^ k : Nat) : Int) - 1 := by
    intro k
    induction k with
    | zero => rfl
    | succ k ih =>
      simp only [smk, Nat.pow_succ]
      by_cases hP : P k = true
      · rw [if_neg (by rw [hP]; decide), if_pos hP]; omega
      · rw [if_pos (by rw [bool_f hP]; rfl), if_neg hP]; omega
  have := h 8
  have e : ((2 ^ 8 : Nat) : Int) = 256 := rfl
  omega
theorem s_i2l {z : Int} (h : -2147483648 ≤ z ∧ z ≤ 2147483647) : (Int32.ofInt z).toInt64 = Int64.ofInt z := by
  apply Int64.toInt_inj.mp
  rw [Int32.toInt_toInt64, xi_toInt h.1 h.2, Int64.toInt_ofInt_of_le (by omega) (by omega)]
theorem s_far64 (A B y x : Int) : (100 : Int64) * (Int64.ofInt A * Int64.ofInt A + Int64.ofInt B * Int64.ofInt B) + Int64.ofInt (10 * y) + Int64.ofInt x = Int64.ofInt (100 * (A * A + B * B) + (10 * y + x)) := by
  rw [show (100 * (A * A + B * B) + (10 * y + x)) = 100 * (A * A + B * B) + 10 * y + x from by omega, Int64.ofInt_add (100 * (A * A + B * B) + 10 * y) x, Int64.ofInt_add (100 * (A * A + B * B)) (10 * y), Int64.ofInt_mul 100 (A * A + B * B), Int64.ofInt_add (A * A) (B * B), Int64.ofInt_mul A A, Int64.ofInt_mul B B]
  rfl
theorem s_lt64 {a b : Int} (ha : 0 ≤ a ∧ a < 2000000) (hb : 0 ≤ b ∧ b < 2000000) : Int64.ofInt a < Int64.ofInt b ↔ a < b := by
  rw [Int64.lt_iff_toInt_lt, Int64.toInt_ofInt_of_le (by omega) (by omega), Int64.toInt_ofInt_of_le (by omega) (by omega)]
theorem s_mul {a w : Int} (ha : -9 ≤ a ∧ a ≤ 9) (hw : -1 ≤ w ∧ w ≤ 1) : -9 ≤ a * w ∧ a * w ≤ 9 := by
  rcases (show w = -1 ∨ w = 0 ∨ w = 1 by omega) with rfl | rfl | rfl <;> omega
theorem ssum8 {g : Nat → Int} (hg : ∀ e, e < 8 → 0 ≤ g e ∧ g e ≤ 9) : 0 ≤ ssum g 8 ∧ ssum g 8 ≤ 72 := by
  simp only [ssum]
  have := hg 0 (by omega); have := hg 1 (by omega); have := hg 2 (by omega); have := hg 3 (by omega)
  have := hg 4 (by omega); have := hg 5 (by omega); have := hg 6 (by omega); have := hg 7 (by omega)
  omega
theorem xs_114l {v0 : Value} {xs : List Int32} {u : Nat × Nat} {f : Nat → zE} {fs : List Value} {ax ay af : List Int} {at' : Int} {r : Nat → Int} {d : Nat} (hmo : sMO f fs) (hmc : sMC f ax ay af) (hr : sML ax ay af at' r) (hd : d < 8) : ∀ (k e : Nat) (lv : zL), k + e = 8 → zlv lv 0 = some (.ref 177) → zlv lv 1 = some (xi at') → zlv lv 2 = some (xi (d : Nat)) → zlv lv 3 = some (xi (ssum (fun e => sX (r e)) e)) → zlv lv 4 = some (xi (ssum (fun e => sY (r e)) e)) → zlv lv 5 = some (xi (at' + (e : Nat))) → xz v0 xs u (fun o X => ∃ r' f', o = .inl r' ∧ X = (xh f', u) ∧ (fun r' f' => r' = some (.long (Int64.ofInt (sfar r d))) ∧ f' = f) r' f') 114 8 lv [] f := by
  obtain ⟨h177, hfl, -, h25, h26, h27⟩ := hmo
  obtain ⟨h192, h193, h194, hx, hy, hf⟩ := hmc
  obtain ⟨g0, g1, hrow⟩ := hr
  intro k
  induction k with
  | zero =>
    intro e lv hk l0 l1 l2 l3 l4 l5
    have e8 : e = 8 := by omega
    subst e8
    obtain ⟨⟨px, py, -⟩, pok⟩ := hrow d hd
    have rx := sX_rg pok
    have ry := sY_rg pok
    have sx := ssum8 (g := fun e => sX (r e)) (fun e he => sX_rg (hrow e he).2)
    have sy := ssum8 (g := fun e => sY (r e)) (fun e he => sY_rg (hrow e he).2)
    refine x_iload rfl l5 ?_
    refine x_iload_n rfl l1 ?_
    refine x_bipush rfl (by decide) ?_
    refine x_iadd rfl ?_
    refine x_cge (t := 45) rfl rfl ⟨by omega, by omega⟩ ⟨by omega, by omega⟩ (fun _ => ?_) (fun h => absurd h (by omega))
    refine x_bipush rfl (by decide) ?_
    refine x_aload_n rfl l0 ?_
    refine x_getfield rfl (by decide) h177 h25 ?_
    refine x_iload_n rfl l1 ?_
    refine x_iload_n rfl l2 ?_
    refine x_iadd rfl ?_
    refine x_iaload rfl (by decide) h192 ⟨by omega, by omega⟩ (by omega) ?_
    rw [px]
    refine x_imul rfl ?_
    refine x_iload_n rfl l3 ?_
    refine x_isub rfl ?_
    refine x_i2l rfl ?_
    rw [s_i2l ⟨by omega, by omega⟩]
    refine x_lstore rfl (show (5 : Nat) + 1 < 9 from by decide) ?_
    refine x_bipush rfl (by decide) ?_
    refine x_aload_n rfl (xst2_ne (by decide) (by decide) l0 (Or.inl rfl)) ?_
    refine x_getfield rfl (by decide) h177 h26 ?_
    refine x_iload_n rfl (xst2_ne (by decide) (by decide) l1 (Or.inl rfl)) ?_
    refine x_iload_n rfl (xst2_ne (by decide) (by decide) l2 (Or.inl rfl)) ?_
    refine x_iadd rfl ?_
    refine x_iaload rfl (by decide) h193 ⟨by omega, by omega⟩ (by omega) ?_
    rw [py]
    refine x_imul rfl ?_
    refine x_iload rfl (xst2_ne (by decide) (by decide) l4 (Or.inl rfl)) ?_
    refine x_isub rfl ?_
    refine x_i2l rfl ?_
    rw [s_i2l ⟨by omega, by omega⟩]
    refine x_lstore rfl (show (7 : Nat) + 1 < 9 from by decide) ?_
    refine x_ldc2 rfl ?_
    refine x_lload rfl (xst2_ne (by decide) (by decide) xst2_eq (Or.inr (by decide))) ?_
    refine x_lload rfl (xst2_ne (by decide) (by decide) xst2_eq (Or.inr (by decide))) ?_
    refine x_lmul rfl ?_
    refine x_lload rfl xst2_eq ?_
    refine x_lload rfl xst2_eq ?_
    refine x_lmul rfl ?_
    refine x_ladd rfl ?_
    refine x_lmul rfl ?_
    refine x_bipush rfl (by decide) ?_
    refine x_aload_n rfl (xst2_ne (by decide) (by decide) (xst2_ne (by decide) (by decide) l0 (Or.inl rfl)) (Or.inl rfl)) ?_
    refine x_getfield rfl (by decide) h177 h26 ?_
    refine x_iload_n rfl (xst2_ne (by decide) (by decide) (xst2_ne (by decide) (by decide) l1 (Or.inl rfl)) (Or.inl rfl)) ?_
    refine x_iload_n rfl (xst2_ne (by decide) (by decide) (xst2_ne (by decide) (by decide) l2 (Or.inl rfl)) (Or.inl rfl)) ?_
    refine x_iadd rfl ?_
    refine x_iaload rfl (by decide) h193 ⟨by omega, by omega⟩ (by omega) ?_
    rw [py]
    refine x_imul rfl ?_
    refine x_i2l rfl ?_
    rw [s_i2l ⟨by omega, by omega⟩]
    refine x_ladd rfl ?_
    refine x_aload_n rfl (xst2_ne (by decide) (by decide) (xst2_ne (by decide) (by decide) l0 (Or.inl rfl)) (Or.inl rfl)) ?_
    refine x_getfield rfl (by decide) h177 h25 ?_
    refine x_iload_n rfl (xst2_ne (by decide) (by decide) (xst2_ne (by decide) (by decide) l1 (Or.inl rfl)) (Or.inl rfl)) ?_
    refine x_iload_n rfl (xst2_ne (by decide) (by decide) (xst2_ne (by decide) (by decide) l2 (Or.inl rfl)) (Or.inl rfl)) ?_
    refine x_iadd rfl ?_
    refine x_iaload rfl (by decide) h192 ⟨by omega, by omega⟩ (by omega) ?_
    rw [px]
    refine x_i2l rfl ?_
    rw [s_i2l ⟨by omega, by omega⟩]
    refine x_ladd rfl ?_
    refine x_lreturn rfl ⟨_, _, rfl, rfl, ?_, rfl⟩
    show some (Value.long _) = some (Value.long _)
    rw [show (100 : Int64) * _ + _ + _ = _ from s_far64 _ _ _ _]
    rfl
  | succ k ih =>
    intro e lv hk l0 l1 l2 l3 l4 l5
    have he : e < 8 := by omega
    obtain ⟨⟨px, py, -⟩, pok⟩ := hrow e he
    refine x_iload rfl l5 ?_
    refine x_iload_n rfl l1 ?_
    refine x_bipush rfl (by decide) ?_
    refine x_iadd rfl ?_
    refine x_cge (t := 45) rfl rfl ⟨by omega, by omega⟩ ⟨by omega, by omega⟩ (fun h => absurd h (by omega)) (fun _ => ?_)
    refine x_iload_n rfl l3 ?_
    refine x_aload_n rfl l0 ?_
    refine x_getfield rfl (by decide) h177 h25 ?_
    refine x_iload rfl l5 ?_
    refine x_iaload rfl (by decide) h192 ⟨by omega, by omega⟩ (by omega) ?_
    rw [px]
    refine x_iadd rfl ?_
    refine x_istore_n rfl (show (3 : Nat) < 9 from by decide) ?_
    refine x_iload rfl (xst_ne (by decide) l4 (Or.inl rfl)) ?_
    refine x_aload_n rfl (xst_ne (by decide) l0 (Or.inl rfl)) ?_
    refine x_getfield rfl (by decide) h177 h26 ?_
    refine x_iload rfl (xst_ne (by decide) l5 (Or.inl rfl)) ?_
    refine x_iaload rfl (by decide) h193 ⟨by omega, by omega⟩ (by omega) ?_
    rw [py]
    refine x_iadd rfl ?_
    refine x_istore rfl (show (4 : Nat) < 9 from by decide) ?_
    refine x_iinc rfl (xst_ne (by decide) (xst_ne (by decide) l5 (Or.inl rfl)) (Or.inl rfl)) (show (5 : Nat) < 9 from by decide) ?_
    refine x_goto (t := 8) rfl rfl ?_
    exact ih (e + 1) _ (by omega) (xst_ne (by decide) (xst_ne (by decide) (xst_ne (by decide) l0 (Or.inl rfl)) (Or.inl rfl)) (Or.inl rfl)) (xst_ne (by decide) (xst_ne (by decide) (xst_ne (by decide) l1 (Or.inl rfl)) (Or.inl rfl)) (Or.inl rfl)) (xst_ne (by decide) (xst_ne (by decide) (xst_ne (by decide) l2 (Or.inl rfl)) (Or.inl rfl)) (Or.inl rfl)) (xst_ne (by decide) (xst_ne (by decide) xst_eq (Or.inl rfl)) (Or.inl rfl)) (xst_ne (by decide) xst_eq (Or.inl rfl)) (by rw [show at' + ((e + 1 : Nat) : Int) = at' + (e : Nat) + 1 from by omega]; exact xst_eq)
theorem xs_114 {v0 : Value} {xs : List Int32} {u : Nat × Nat} {f : Nat → zE} {fs : List Value} {ax ay af : List Int} {at' : Int} {r : Nat → Int} {d : Nat} (hmo : sMO f fs) (hmc : sMC f ax ay af) (hr : sML ax ay af at' r) (hd : d < 8) : xq v0 xs u 114 [(0, .ref 177), (1, xi at'), (2, xi (d : Nat))] f (fun r' f' => r' = some (.long (Int64.ofInt (sfar r d))) ∧ f' = f) := by
  unfold xq
  refine x_iconst rfl ?_
  refine x_istore_n rfl (show (3 : Nat) < 9 from by decide) ?_
  refine x_iconst rfl ?_
  refine x_istore rfl (show (4 : Nat) < 9 from by decide) ?_
  refine x_iload_n rfl (xst_ne (by decide) (xst_ne (by decide) rfl (Or.inl rfl)) (Or.inl rfl)) ?_
  refine x_istore rfl (show (5 : Nat) < 9 from by decide) ?_
  exact xs_114l hmo hmc hr hd 8 0 _ rfl (xst_ne (by decide) (xst_ne (by decide) (xst_ne (by decide) rfl (Or.inl rfl)) (Or.inl rfl)) (Or.inl rfl)) (xst_ne (by decide) (xst_ne (by decide) (xst_ne (by decide) rfl (Or.inl rfl)) (Or.inl rfl)) (Or.inl rfl)) (xst_ne (by decide) (xst_ne (by decide) (xst_ne (by decide) rfl (Or.inl rfl)) (Or.inl rfl)) (Or.inl rfl)) (xst_ne (by decide) (xst_ne (by decide) xst_eq (Or.inl rfl)) (Or.inl rfl)) (xst_ne (by decide) xst_eq (Or.inl rfl)) (by rw [show at' + ((0 : Nat) : Int) = at' from by omega]; exact xst_eq)
theorem xs_115i {v0 : Value} {xs : List Int32} {u : Nat × Nat} {Q : zO → zX → Prop} {f : Nat → zE} {fs : List Value} {ax ay af : List Int} {at' : Int} {r : Nat → Int} {d : Nat} {ch : Int} (hmo : sMO f fs) (hmc : sMC f ax ay af) (hr : sML ax ay af at' r) (hd : d < 8) (hk : ∀ lv : zL, zlv lv 0 = some (.ref 177) → zlv lv 1 = some (xi at') → zlv lv 2 = some (xi ch) → zlv lv 3 = some (xi (d : Nat)) → zlv lv 4 = some (xi (scnt (fun e => decide (sfar r e < sfar r d))  8)) → xz v0 xs u Q 115 56 lv [] f) : ∀ (k e : Nat) (lv : zL), k + e = 8 → zlv lv 0 = some (.ref 177) → zlv lv 1 = some (xi at') → zlv lv 2 = some (xi ch) → zlv lv 3 = some (xi (d : Nat)) → zlv lv 4 = some (xi (scnt (fun e => decide (sfar r e < sfar r d))  e)) → zlv lv 5 = some (xi (e : Nat)) → xz v0 xs u Q 115 16 lv [] f := by
  have h177 := hmo.1
  have hok : ∀ e, e < 8 → sok (r e) := fun e he => (hr.2.2 e he).2
  have rd := sfar_rg hok d hd
  intro k
  induction k with
  | zero =>
    intro e lv hk2 l0 l1 l2 l3 l4 l5
    have e8 : e = 8 := by omega
    subst e8
    refine x_iload rfl l5 ?_
    refine x_bipush rfl (by decide) ?_
    refine x_cge (t := 56) rfl rfl (by decide) (by decide) (fun _ => ?_) (fun h => absurd h (by decide))
    exact hk lv l0 l1 l2 l3 l4
  | succ k ih =>
    intro e lv hk2 l0 l1 l2 l3 l4 l5
    have he : e < 8 := by omega
    have re := sfar_rg hok e he
    refine x_iload rfl l5 ?_
    refine x_bipush rfl (by decide) ?_
    refine x_cge (t := 56) rfl rfl ⟨by omega, by omega⟩ (by decide) (fun h => absurd h (by omega)) (fun _ => ?_)
    refine x_iload rfl l4 ?_
    refine x_aload_n rfl l0 ?_
    refine x_iload_n rfl l1 ?_
    refine x_iload rfl l5 ?_
    refine x_call [_, _, _] rfl rfl (show (1 : Nat) ≤ 8 from by decide) (show (3 : Nat) ≤ 9 from by decide) (x_rcv (by decide) h177) (xs_114 hmo hmc hr he) ?_
    intro r' f1 hP
    obtain ⟨rfl, rfl⟩ := hP
    refine x_aload_n rfl l0 ?_
    refine x_iload_n rfl l1 ?_
    refine x_iload_n rfl l3 ?_
    refine x_call [_, _, _] rfl rfl (show (3 : Nat) ≤ 8 from by decide) (show (3 : Nat) ≤ 9 from by decide) (x_rcv (by decide) h177) (xs_114 hmo hmc hr hd) ?_
    intro r' f1 hP
    obtain ⟨rfl, rfl⟩ := hP
    refine x_lcmp rfl ?_
    refine x_lge (t := 46) rfl rfl (fun hlt => ?_) (fun hlt => ?_)
    · rw [s_lt64 re rd] at hlt
      refine x_iconst rfl ?_
      refine x_iadd rfl ?_
      refine x_istore rfl (show (4 : Nat) < 6 from by decide) ?_
      refine x_iinc rfl (xst_ne (by decide) l5 (Or.inl rfl)) (show (5 : Nat) < 6 from by decide) ?_
      refine x_goto (t := 16) rfl rfl ?_
      refine ih (e + 1) _ (by omega) (xst_ne (by decide) (xst_ne (by decide) l0 (Or.inl rfl)) (Or.inl rfl)) (xst_ne (by decide) (xst_ne (by decide) l1 (Or.inl rfl)) (Or.inl rfl)) (xst_ne (by decide) (xst_ne (by decide) l2 (Or.inl rfl)) (Or.inl rfl)) (xst_ne (by decide) (xst_ne (by decide) l3 (Or.inl rfl)) (Or.inl rfl)) ?_ xst_eq
      have e4 : scnt (fun e => decide (sfar r e < sfar r d))  (e + 1) = scnt (fun e => decide (sfar r e < sfar r d))  e + 0 := by
        simp only [scnt]
        rw [if_neg (by rw [decide_eq_true_eq]; exact hlt)]
      rw [e4]
      exact (xst_ne (by decide) xst_eq (Or.inl rfl))
    · rw [s_lt64 re rd] at hlt
      refine x_iconst rfl ?_
      refine x_goto (t := 47) rfl rfl ?_
      refine x_iadd rfl ?_
      refine x_istore rfl (show (4 : Nat) < 6 from by decide) ?_
      refine x_iinc rfl (xst_ne (by decide) l5 (Or.inl rfl)) (show (5 : Nat) < 6 from by decide) ?_
      refine x_goto (t := 16) rfl rfl ?_
      refine ih (e + 1) _ (by omega) (xst_ne (by decide) (xst_ne (by decide) l0 (Or.inl rfl)) (Or.inl rfl)) (xst_ne (by decide) (xst_ne (by decide) l1 (Or.inl rfl)) (Or.inl rfl)) (xst_ne (by decide) (xst_ne (by decide) l2 (Or.inl rfl)) (Or.inl rfl)) (xst_ne (by decide) (xst_ne (by decide) l3 (Or.inl rfl)) (Or.inl rfl)) ?_ xst_eq
      have e4 : scnt (fun e => decide (sfar r e < sfar r d))  (e + 1) = scnt (fun e => decide (sfar r e < sfar r d))  e + 1 := by
        simp only [scnt]
        rw [if_pos (by rw [decide_eq_true_eq]; exact hlt)]
      rw [e4]
      exact (xst_ne (by decide) xst_eq (Or.inl rfl))
theorem xs_115o {v0 : Value} {xs : List Int32} {u : Nat × Nat} {f : Nat → zE} {fs : List Value} {ax ay af : List Int} {at' : Int} {r : Nat → Int} (hmo : sMO f fs) (hmc : sMC f ax ay af) (hr : sML ax ay af at' r) : ∀ (k d : Nat) (lv : zL), k + d = 8 → zlv lv 0 = some (.ref 177) → zlv lv 1 = some (xi at') → zlv lv 2 = some (xi (smk (scen r) d)) → zlv lv 3 = some (xi (d : Nat)) → xz v0 xs u (fun o X => ∃ r' f', o = .inl r' ∧ X = (xh f', u) ∧ (fun r' f' => r' = some (xi (smk (scen r) 8)) ∧ f' = f) r' f') 115 4 lv [] f := by
  intro k
  induction k with
  | zero =>
    intro d lv hk2 l0 l1 l2 l3
    have e8 : d = 8 := by omega
    subst e8
    refine x_iload_n rfl l3 ?_
    refine x_bipush rfl (by decide) ?_
    refine x_cge (t := 78) rfl rfl (by decide) (by decide) (fun _ => ?_) (fun h => absurd h (by decide))
    refine x_iload_n rfl l2 ?_
    exact x_ireturn rfl (Or.inl rfl) ⟨_, _, rfl, rfl, rfl, rfl⟩
  | succ k ih =>
    intro d lv hk2 l0 l1 l2 l3
    have hd : d < 8 := by omega
    have hc8 := scnt_rg (fun e => decide (sfar r e < sfar r d)) 8
    refine x_iload_n rfl l3 ?_
    refine x_bipush rfl (by decide) ?_
    refine x_cge (t := 78) rfl rfl ⟨by omega, by omega⟩ (by decide) (fun h => absurd h (by omega)) (fun _ => ?_)
    refine x_iconst rfl ?_
    refine x_istore rfl (show (4 : Nat) < 6 from by decide) ?_
    refine x_iconst rfl ?_
    refine x_istore rfl (show (5 : Nat) < 6 from by decide) ?_
    refine xs_115i hmo hmc hr hd (fun lv2 m0 m1 m2 m3 m4 => ?_) 8 0 _ rfl (xst_ne (by decide) (xst_ne (by decide) l0 (Or.inl rfl)) (Or.inl rfl)) (xst_ne (by decide) (xst_ne (by decide) l1 (Or.inl rfl)) (Or.inl rfl)) (xst_ne (by decide) (xst_ne (by decide) l2 (Or.inl rfl)) (Or.inl rfl)) (xst_ne (by decide) (xst_ne (by decide) l3 (Or.inl rfl)) (Or.inl rfl)) (xst_ne (by decide) xst_eq (Or.inl rfl)) xst_eq
    refine x_iload_n rfl m2 ?_
    refine x_iload rfl m4 ?_
    refine x_iconst rfl ?_
    refine x_cge (t := 69) rfl rfl ⟨by omega, by omega⟩ (by decide) (fun hlt => ?_) (fun hlt => ?_)
    · refine x_iconst rfl ?_
      refine x_iorg rfl (sm_or_z _) ?_
      refine x_istore_n rfl (show (2 : Nat) < 6 from by decide) ?_
      refine x_iinc rfl (xst_ne (by decide) m3 (Or.inl rfl)) (show (3 : Nat) < 6 from by decide) ?_
      refine x_goto (t := 4) rfl rfl ?_
      refine ih (d + 1) _ (by omega) (xst_ne (by decide) (xst_ne (by decide) m0 (Or.inl rfl)) (Or.inl rfl)) (xst_ne (by decide) (xst_ne (by decide) m1 (Or.inl rfl)) (Or.inl rfl)) ?_ xst_eq
      have e4 : smk (scen r) (d + 1) = smk (scen r) d + 0 := by
        simp only [smk]
        rw [if_neg (by unfold scen; rw [decide_eq_true_eq]; omega)]
      rw [e4, Int.add_zero]
      exact (xst_ne (by decide) xst_eq (Or.inl rfl))
    · refine x_iconst rfl ?_
      refine x_iload_n rfl m3 ?_
      refine x_ishl rfl ?_
      refine x_goto (t := 70) rfl rfl ?_
      refine x_iorg rfl (sm_orbit _ hd) ?_
      refine x_istore_n rfl (show (2 : Nat) < 6 from by decide) ?_
      refine x_iinc rfl (xst_ne (by decide) m3 (Or.inl rfl)) (show (3 : Nat) < 6 from by decide) ?_
      refine x_goto (t := 4) rfl rfl ?_
      refine ih (d + 1) _ (by omega) (xst_ne (by decide) (xst_ne (by decide) m0 (Or.inl rfl)) (Or.inl rfl)) (xst_ne (by decide) (xst_ne (by decide) m1 (Or.inl rfl)) (Or.inl rfl)) ?_ xst_eq
      have e4 : smk (scen r) (d + 1) = smk (scen r) d + ((2 ^ d : Nat) : Int) := by
        simp only [smk]
        rw [if_pos (by unfold scen; rw [decide_eq_true_eq]; omega)]
      rw [e4]
      exact (xst_ne (by decide) xst_eq (Or.inl rfl))
theorem xs_115 {v0 : Value} {xs : List Int32} {u : Nat × Nat} {f : Nat → zE} {fs : List Value} {ax ay af : List Int} {at' : Int} {r : Nat → Int} (hmo : sMO f fs) (hmc : sMC f ax ay af) (hr : sML ax ay af at' r) : xq v0 xs u 115 [(0, .ref 177), (1, xi at')] f (fun r' f' => r' = some (xi (smk (scen r) 8)) ∧ f' = f) := by
  unfold xq
  refine x_iconst rfl ?_
  refine x_istore_n rfl (show (2 : Nat) < 6 from by decide) ?_
  refine x_iconst rfl ?_
  refine x_istore_n rfl (show (3 : Nat) < 6 from by decide) ?_
  exact xs_115o hmo hmc hr 8 0 _ rfl (xst_ne (by decide) (xst_ne (by decide) rfl (Or.inl rfl)) (Or.inl rfl)) (xst_ne (by decide) (xst_ne (by decide) rfl (Or.inl rfl)) (Or.inl rfl)) (xst_ne (by decide) xst_eq (Or.inl rfl)) xst_eq
/-- who is known to be alone before pair k -/
def sal (r : Nat → Int) (t : Int) (k d : Nat) : Bool := sall (fun e => !slies (r d) (r e) ((sF (r d) + t) % 4)) (min 8 (k - 8 * d))
theorem sal_0 (r : Nat → Int) (t : Int) : smk (sal r t 0) 8 = 255 := by
  rw [← sm_255]
  refine smk_congr 8 (fun d _ => ?_)
  unfold sal
  rw [show min 8 (0 - 8 * d) = 0 from by omega]
  rfl
theorem sal_64 (r : Nat → Int) (t : Int) : smk (sal r t 64) 8 = smk (salone r t) 8 := by
  refine smk_congr 8 (fun d hd => ?_)
  unfold sal salone
  rw [show min 8 (64 - 8 * d) = 8 from by omega]
theorem sal_s (r : Nat → Int) (t : Int) {d e : Nat} (he : e < 8) (d' : Nat) : sal r t (8 * d + e + 1) d' = if d' = d then (sal r t (8 * d + e) d' && !slies (r d) (r e) ((sF (r d) + t) % 4)) else sal r t (8 * d + e) d' := by
  unfold sal
  by_cases h : d' = d
  · subst h
    rw [if_pos rfl, show min 8 (8 * d' + e + 1 - 8 * d') = e + 1 from by omega, show min 8 (8 * d' + e - 8 * d') = e from by omega]
    rfl
  · rw [if_neg h]
    by_cases h2 : d' < d
    · rw [show min 8 (8 * d + e + 1 - 8 * d') = 8 from by omega, show min 8 (8 * d + e - 8 * d') = 8 from by omega]
    · rw [show min 8 (8 * d + e + 1 - 8 * d') = 0 from by omega, show min 8 (8 * d + e - 8 * d') = 0 from by omega]
theorem sm_and255 (P : Nat → Bool) : (Int32.ofInt (smk P 8) &&& Int32.ofInt 255) = Int32.ofInt (smk P 8) := by
  rw [← sm_255, sm_and]
  congr 2
  exact funext fun d => Bool.and_true _
theorem xs_116l {v0 : Value} {xs : List Int32} {u : Nat × Nat} {f : Nat → zE} {fs : List Value} {ax ay af : List Int} {at' t : Int} {r : Nat → Int} (hmo : sMO f fs) (hmc : sMC f ax ay af) (hr : sML ax ay af at' r) (ht : 0 ≤ t ∧ t ≤ 3) : ∀ (w k : Nat) (lv : zL), w + k = 64 → zlv lv 0 = some (.ref 177) → zlv lv 1 = some (xi at') → zlv lv 2 = some (xi t) → zlv lv 3 = some (xi (smk (sal r t k) 8)) → zlv lv 4 = some (xi (k : Nat)) → xz v0 xs u (fun o X => ∃ r' f', o = .inl r' ∧ X = (xh f', u) ∧ (fun r' f' => r' = some (xi (smk (salone r t) 8)) ∧ f' = f) r' f') 116 7 lv [] f := by
  obtain ⟨h177, hfl, -, h25, h26, h27⟩ := hmo
  obtain ⟨h192, h193, h194, hx, hy, hf⟩ := hmc
  obtain ⟨g0, g1, hrow⟩ := hr
  intro w
  induction w with
  | zero =>
    intro k lv hk l0 l1 l2 l3 l4
    have e8 : k = 64 := by omega
    subst e8
    refine x_iload rfl l4 ?_
    refine x_bipush rfl (by decide) ?_
    refine x_cge (t := 161) rfl rfl (by decide) (by decide) (fun _ => ?_) (fun h => absurd h (by decide))
    refine x_iload_n rfl l3 ?_
    exact x_ireturn rfl (Or.inl rfl) ⟨_, _, rfl, rfl, by rw [sal_64], rfl⟩
  | succ w ih =>
    intro k lv hk l0 l1 l2 l3 l4
    obtain ⟨d, e, hd, he, hde⟩ : ∃ d e : Nat, d < 8 ∧ e < 8 ∧ k = 8 * d + e := ⟨k / 8, k % 8, by omega, by omega, by omega⟩
    subst hde
    obtain ⟨⟨px, py, pf⟩, pok⟩ := hrow d hd
    obtain ⟨⟨qx, qy, -⟩, qok⟩ := hrow e he
    have rx := sX_rg pok
    have ry := sY_rg pok
    have tx := sX_rg qok
    have ty := sY_rg qok
    have fr := sF_rg (r d)
    have dx1 := sdx_rg ((sF (r d) + t) % 4)
    have dy1 := sdy_rg ((sF (r d) + t) % 4)
    have m1 := s_mul (a := sX (r e) - sX (r d)) ⟨by omega, by omega⟩ dy1
    have m2 := s_mul (a := sY (r e) - sY (r d)) ⟨by omega, by omega⟩ dx1
    have m3 := s_mul (a := sX (r e) - sX (r d)) ⟨by omega, by omega⟩ dx1
    have m4 := s_mul (a := sY (r e) - sY (r d)) ⟨by omega, by omega⟩ dy1
    have T : ∀ (lv : zL) (b : Bool), b = slies (r d) (r e) ((sF (r d) + t) % 4) → zlv lv 0 = some (.ref 177) → zlv lv 1 = some (xi at') → zlv lv 2 = some (xi t) → zlv lv 3 = some (xi (smk (sal r t (8 * d + e)) 8)) → zlv lv 4 = some (xi ((8 * d + e : Nat) : Nat)) → xz v0 xs u (fun o X => ∃ r' f', o = .inl r' ∧ X = (xh f', u) ∧ (fun r' f' => r' = some (xi (smk (salone r t) 8)) ∧ f' = f) r' f') 116 130 lv [xi (if b = true then 1 else 0)] f := by
      intro lv b hb l0 l1 l2 l3 l4
      refine x_istore rfl (show (10 : Nat) < 11 from by decide) ?_
      refine x_iload_n rfl (xst_ne (by decide) l3 (Or.inl rfl)) ?_
      refine x_iload rfl xst_eq ?_
      by_cases h : b = true
      · rw [if_pos h]
        refine x_ifeq (t := 150) rfl rfl (by decide) (fun h => absurd h (by decide)) (fun _ => ?_)
        refine x_iconst rfl ?_
        refine x_iload rfl (xst_ne (by decide) l4 (Or.inl rfl)) ?_
        refine x_bipush rfl (by decide) ?_
        refine x_idiv rfl ⟨by omega, by omega⟩ (by decide) ?_
        rw [show ((8 * d + e : Nat) : Int) / 8 = ((d : Nat) : Int) from by omega]
        refine x_ishl rfl ?_
        refine x_iconst rfl ?_
        refine x_ixorg rfl rfl ?_
        refine x_goto (t := 153) rfl rfl ?_
        refine x_iandg2 rfl (sm_strike _ hd) ?_
        refine x_istore_n rfl (show (3 : Nat) < 11 from by decide) ?_
        refine x_iinc rfl (xst_ne (by decide) (xst_ne (by decide) l4 (Or.inl rfl)) (Or.inl rfl)) (show (4 : Nat) < 11 from by decide) ?_
        refine x_goto (t := 7) rfl rfl ?_
        refine ih (8 * d + e + 1) _ (by omega) (xst_ne (by decide) (xst_ne (by decide) (xst_ne (by decide) l0 (Or.inl rfl)) (Or.inl rfl)) (Or.inl rfl)) (xst_ne (by decide) (xst_ne (by decide) (xst_ne (by decide) l1 (Or.inl rfl)) (Or.inl rfl)) (Or.inl rfl)) (xst_ne (by decide) (xst_ne (by decide) (xst_ne (by decide) l2 (Or.inl rfl)) (Or.inl rfl)) (Or.inl rfl)) ?_ xst_eq
        have e4 : smk (sal r t (8 * d + e + 1)) 8 = smk (fun d_1 => sal r t (8 * d + e) d_1 && !(d_1 == d)) 8 := by
          refine smk_congr 8 (fun d' _ => ?_)
          rw [sal_s r t he d', ← hb, h]
          by_cases h5 : d' = d
          · rw [if_pos h5, h5]; simp
          · rw [if_neg h5]; simp [h5]
        rw [e4]
        exact (xst_ne (by decide) xst_eq (Or.inl rfl))
      · rw [if_neg h]
        refine x_ifeq (t := 150) rfl rfl (by decide) (fun _ => ?_) (fun h => absurd rfl h)
        refine x_sipush rfl (by decide) ?_
        refine x_iandg2 rfl (sm_and255 _) ?_
        refine x_istore_n rfl (show (3 : Nat) < 11 from by decide) ?_
        refine x_iinc rfl (xst_ne (by decide) (xst_ne (by decide) l4 (Or.inl rfl)) (Or.inl rfl)) (show (4 : Nat) < 11 from by decide) ?_
        refine x_goto (t := 7) rfl rfl ?_
        refine ih (8 * d + e + 1) _ (by omega) (xst_ne (by decide) (xst_ne (by decide) (xst_ne (by decide) l0 (Or.inl rfl)) (Or.inl rfl)) (Or.inl rfl)) (xst_ne (by decide) (xst_ne (by decide) (xst_ne (by decide) l1 (Or.inl rfl)) (Or.inl rfl)) (Or.inl rfl)) (xst_ne (by decide) (xst_ne (by decide) (xst_ne (by decide) l2 (Or.inl rfl)) (Or.inl rfl)) (Or.inl rfl)) ?_ xst_eq
        have e4 : smk (sal r t (8 * d + e + 1)) 8 = smk (sal r t (8 * d + e)) 8 := by
          refine smk_congr 8 (fun d' _ => ?_)
          rw [sal_s r t he d', ← hb, bool_f h]
          by_cases h5 : d' = d
          · rw [if_pos h5]; simp
          · rw [if_neg h5]
        rw [e4]
        exact (xst_ne (by decide) xst_eq (Or.inl rfl))
    refine x_iload rfl l4 ?_
    refine x_bipush rfl (by decide) ?_
    refine x_cge (t := 161) rfl rfl ⟨by omega, by omega⟩ (by decide) (fun h => absurd h (by omega)) (fun _ => ?_)
    refine x_iload_n rfl l1 ?_
    refine x_iload rfl l4 ?_
    refine x_bipush rfl (by decide) ?_
    refine x_idiv rfl ⟨by omega, by omega⟩ (by decide) ?_
    rw [show ((8 * d + e : Nat) : Int) / 8 = ((d : Nat) : Int) from by omega]
    refine x_iadd rfl ?_
    refine x_istore rfl (show (5 : Nat) < 11 from by decide) ?_
    refine x_iload_n rfl (xst_ne (by decide) l1 (Or.inl rfl)) ?_
    refine x_iload rfl (xst_ne (by decide) l4 (Or.inl rfl)) ?_
    refine x_bipush rfl (by decide) ?_
    refine x_irem rfl ⟨by omega, by omega⟩ (by decide) ?_
    rw [show ((8 * d + e : Nat) : Int) % 8 = ((e : Nat) : Int) from by omega]
    refine x_iadd rfl ?_
    refine x_istore rfl (show (6 : Nat) < 11 from by decide) ?_
    refine x_aload_n rfl (xst_ne (by decide) (xst_ne (by decide) l0 (Or.inl rfl)) (Or.inl rfl)) ?_
    refine x_getfield rfl (by decide) h177 h27 ?_
    refine x_iload rfl (xst_ne (by decide) xst_eq (Or.inl rfl)) ?_
    refine x_iaload rfl (by decide) h194 ⟨by omega, by omega⟩ (by omega) ?_
    rw [pf]
    refine x_iload_n rfl (xst_ne (by decide) (xst_ne (by decide) l2 (Or.inl rfl)) (Or.inl rfl)) ?_
    refine x_iadd rfl ?_
    refine x_iconst rfl ?_
    refine x_irem rfl ⟨by omega, by omega⟩ (by decide) ?_
    refine x_istore rfl (show (7 : Nat) < 11 from by decide) ?_
    refine x_aload_n rfl (xst_ne (by decide) (xst_ne (by decide) (xst_ne (by decide) l0 (Or.inl rfl)) (Or.inl rfl)) (Or.inl rfl)) ?_
    refine x_getfield rfl (by decide) h177 h25 ?_
    refine x_iload rfl (xst_ne (by decide) xst_eq (Or.inl rfl)) ?_
    refine x_iaload rfl (by decide) h192 ⟨by omega, by omega⟩ (by omega) ?_
    rw [qx]
    refine x_aload_n rfl (xst_ne (by decide) (xst_ne (by decide) (xst_ne (by decide) l0 (Or.inl rfl)) (Or.inl rfl)) (Or.inl rfl)) ?_
    refine x_getfield rfl (by decide) h177 h25 ?_
    refine x_iload rfl (xst_ne (by decide) (xst_ne (by decide) xst_eq (Or.inl rfl)) (Or.inl rfl)) ?_
    refine x_iaload rfl (by decide) h192 ⟨by omega, by omega⟩ (by omega) ?_
    rw [px]
    refine x_isub rfl ?_
    refine x_istore rfl (show (8 : Nat) < 11 from by decide) ?_
    refine x_aload_n rfl (xst_ne (by decide) (xst_ne (by decide) (xst_ne (by decide) (xst_ne (by decide) l0 (Or.inl rfl)) (Or.inl rfl)) (Or.inl rfl)) (Or.inl rfl)) ?_
    refine x_getfield rfl (by decide) h177 h26 ?_
    refine x_iload rfl (xst_ne (by decide) (xst_ne (by decide) xst_eq (Or.inl rfl)) (Or.inl rfl)) ?_
    refine x_iaload rfl (by decide) h193 ⟨by omega, by omega⟩ (by omega) ?_
    rw [qy]
    refine x_aload_n rfl (xst_ne (by decide) (xst_ne (by decide) (xst_ne (by decide) (xst_ne (by decide) l0 (Or.inl rfl)) (Or.inl rfl)) (Or.inl rfl)) (Or.inl rfl)) ?_
    refine x_getfield rfl (by decide) h177 h26 ?_
    refine x_iload rfl (xst_ne (by decide) (xst_ne (by decide) (xst_ne (by decide) xst_eq (Or.inl rfl)) (Or.inl rfl)) (Or.inl rfl)) ?_
    refine x_iaload rfl (by decide) h193 ⟨by omega, by omega⟩ (by omega) ?_
    rw [py]
    refine x_isub rfl ?_
    refine x_istore rfl (show (9 : Nat) < 11 from by decide) ?_
    refine x_iload rfl (xst_ne (by decide) (xst_ne (by decide) (xst_ne (by decide) (xst_ne (by decide) xst_eq (Or.inl rfl)) (Or.inl rfl)) (Or.inl rfl)) (Or.inl rfl)) ?_
    refine x_iload rfl (xst_ne (by decide) (xst_ne (by decide) (xst_ne (by decide) xst_eq (Or.inl rfl)) (Or.inl rfl)) (Or.inl rfl)) ?_
    refine x_ceq (t := 129) rfl rfl ⟨by omega, by omega⟩ ⟨by omega, by omega⟩ (fun heq => ?_) (fun hne => ?_)
    · refine x_iconst rfl ?_
      exact T _ false (by rw [show d = e from by omega, slies_self]) (xst_ne (by decide) (xst_ne (by decide) (xst_ne (by decide) (xst_ne (by decide) (xst_ne (by decide) l0 (Or.inl rfl)) (Or.inl rfl)) (Or.inl rfl)) (Or.inl rfl)) (Or.inl rfl)) (xst_ne (by decide) (xst_ne (by decide) (xst_ne (by decide) (xst_ne (by decide) (xst_ne (by decide) l1 (Or.inl rfl)) (Or.inl rfl)) (Or.inl rfl)) (Or.inl rfl)) (Or.inl rfl)) (xst_ne (by decide) (xst_ne (by decide) (xst_ne (by decide) (xst_ne (by decide) (xst_ne (by decide) l2 (Or.inl rfl)) (Or.inl rfl)) (Or.inl rfl)) (Or.inl rfl)) (Or.inl rfl)) (xst_ne (by decide) (xst_ne (by decide) (xst_ne (by decide) (xst_ne (by decide) (xst_ne (by decide) l3 (Or.inl rfl)) (Or.inl rfl)) (Or.inl rfl)) (Or.inl rfl)) (Or.inl rfl)) (xst_ne (by decide) (xst_ne (by decide) (xst_ne (by decide) (xst_ne (by decide) (xst_ne (by decide) l4 (Or.inl rfl)) (Or.inl rfl)) (Or.inl rfl)) (Or.inl rfl)) (Or.inl rfl))
    · refine x_iload rfl (xst_ne (by decide) xst_eq (Or.inl rfl)) ?_
      refine x_iload rfl (xst_ne (by decide) (xst_ne (by decide) xst_eq (Or.inl rfl)) (Or.inl rfl)) ?_
      refine x_call [_] rfl rfl (show (1 : Nat) ≤ 8 from by decide) (show (1 : Nat) ≤ 1 from by decide) rfl (xs_112 ⟨by omega, by omega⟩) ?_
      intro r' f1 hP
      obtain ⟨rfl, rfl⟩ := hP
      refine x_imul rfl ?_
      refine x_iload rfl xst_eq ?_
      refine x_iload rfl (xst_ne (by decide) (xst_ne (by decide) xst_eq (Or.inl rfl)) (Or.inl rfl)) ?_
      refine x_call [_] rfl rfl (show (2 : Nat) ≤ 8 from by decide) (show (1 : Nat) ≤ 1 from by decide) rfl (xs_111 ⟨by omega, by omega⟩) ?_
      intro r' f1 hP
      obtain ⟨rfl, rfl⟩ := hP
      refine x_imul rfl ?_
      refine x_cne (t := 129) rfl rfl ⟨by omega, by omega⟩ ⟨by omega, by omega⟩ (fun hn1 => ?_) (fun he1 => ?_)
      · refine x_iconst rfl ?_
        exact T _ false (by unfold slies; simp [hn1]) (xst_ne (by decide) (xst_ne (by decide) (xst_ne (by decide) (xst_ne (by decide) (xst_ne (by decide) l0 (Or.inl rfl)) (Or.inl rfl)) (Or.inl rfl)) (Or.inl rfl)) (Or.inl rfl)) (xst_ne (by decide) (xst_ne (by decide) (xst_ne (by decide) (xst_ne (by decide) (xst_ne (by decide) l1 (Or.inl rfl)) (Or.inl rfl)) (Or.inl rfl)) (Or.inl rfl)) (Or.inl rfl)) (xst_ne (by decide) (xst_ne (by decide) (xst_ne (by decide) (xst_ne (by decide) (xst_ne (by decide) l2 (Or.inl rfl)) (Or.inl rfl)) (Or.inl rfl)) (Or.inl rfl)) (Or.inl rfl)) (xst_ne (by decide) (xst_ne (by decide) (xst_ne (by decide) (xst_ne (by decide) (xst_ne (by decide) l3 (Or.inl rfl)) (Or.inl rfl)) (Or.inl rfl)) (Or.inl rfl)) (Or.inl rfl)) (xst_ne (by decide) (xst_ne (by decide) (xst_ne (by decide) (xst_ne (by decide) (xst_ne (by decide) l4 (Or.inl rfl)) (Or.inl rfl)) (Or.inl rfl)) (Or.inl rfl)) (Or.inl rfl))
      · refine x_iload rfl (xst_ne (by decide) xst_eq (Or.inl rfl)) ?_
        refine x_iload rfl (xst_ne (by decide) (xst_ne (by decide) xst_eq (Or.inl rfl)) (Or.inl rfl)) ?_
        refine x_call [_] rfl rfl (show (1 : Nat) ≤ 8 from by decide) (show (1 : Nat) ≤ 1 from by decide) rfl (xs_111 ⟨by omega, by omega⟩) ?_
        intro r' f1 hP
        obtain ⟨rfl, rfl⟩ := hP
        refine x_imul rfl ?_
        refine x_iload rfl xst_eq ?_
        refine x_iload rfl (xst_ne (by decide) (xst_ne (by decide) xst_eq (Or.inl rfl)) (Or.inl rfl)) ?_
        refine x_call [_] rfl rfl (show (2 : Nat) ≤ 8 from by decide) (show (1 : Nat) ≤ 1 from by decide) rfl (xs_112 ⟨by omega, by omega⟩) ?_
        intro r' f1 hP
        obtain ⟨rfl, rfl⟩ := hP
        refine x_imul rfl ?_
        refine x_iadd rfl ?_
        refine x_ifle (t := 129) rfl rfl ⟨by omega, by omega⟩ (fun hn2 => ?_) (fun he2 => ?_)
        · refine x_iconst rfl ?_
          exact T _ false (by unfold slies; rw [decide_eq_true he1, Bool.true_and, decide_eq_false (by omega)]) (xst_ne (by decide) (xst_ne (by decide) (xst_ne (by decide) (xst_ne (by decide) (xst_ne (by decide) l0 (Or.inl rfl)) (Or.inl rfl)) (Or.inl rfl)) (Or.inl rfl)) (Or.inl rfl)) (xst_ne (by decide) (xst_ne (by decide) (xst_ne (by decide) (xst_ne (by decide) (xst_ne (by decide) l1 (Or.inl rfl)) (Or.inl rfl)) (Or.inl rfl)) (Or.inl rfl)) (Or.inl rfl)) (xst_ne (by decide) (xst_ne (by decide) (xst_ne (by decide) (xst_ne (by decide) (xst_ne (by decide) l2 (Or.inl rfl)) (Or.inl rfl)) (Or.inl rfl)) (Or.inl rfl)) (Or.inl rfl)) (xst_ne (by decide) (xst_ne (by decide) (xst_ne (by decide) (xst_ne (by decide) (xst_ne (by decide) l3 (Or.inl rfl)) (Or.inl rfl)) (Or.inl rfl)) (Or.inl rfl)) (Or.inl rfl)) (xst_ne (by decide) (xst_ne (by decide) (xst_ne (by decide) (xst_ne (by decide) (xst_ne (by decide) l4 (Or.inl rfl)) (Or.inl rfl)) (Or.inl rfl)) (Or.inl rfl)) (Or.inl rfl))
        · refine x_iconst rfl ?_
          refine x_goto (t := 130) rfl rfl ?_
          exact T _ true (by unfold slies; rw [decide_eq_true he1, Bool.true_and, decide_eq_true he2]) (xst_ne (by decide) (xst_ne (by decide) (xst_ne (by decide) (xst_ne (by decide) (xst_ne (by decide) l0 (Or.inl rfl)) (Or.inl rfl)) (Or.inl rfl)) (Or.inl rfl)) (Or.inl rfl)) (xst_ne (by decide) (xst_ne (by decide) (xst_ne (by decide) (xst_ne (by decide) (xst_ne (by decide) l1 (Or.inl rfl)) (Or.inl rfl)) (Or.inl rfl)) (Or.inl rfl)) (Or.inl rfl)) (xst_ne (by decide) (xst_ne (by decide) (xst_ne (by decide) (xst_ne (by decide) (xst_ne (by decide) l2 (Or.inl rfl)) (Or.inl rfl)) (Or.inl rfl)) (Or.inl rfl)) (Or.inl rfl)) (xst_ne (by decide) (xst_ne (by decide) (xst_ne (by decide) (xst_ne (by decide) (xst_ne (by decide) l3 (Or.inl rfl)) (Or.inl rfl)) (Or.inl rfl)) (Or.inl rfl)) (Or.inl rfl)) (xst_ne (by decide) (xst_ne (by decide) (xst_ne (by decide) (xst_ne (by decide) (xst_ne (by decide) l4 (Or.inl rfl)) (Or.inl rfl)) (Or.inl rfl)) (Or.inl rfl)) (Or.inl rfl))
theorem xs_116 {v0 : Value} {xs : List Int32} {u : Nat × Nat} {f : Nat → zE} {fs : List Value} {ax ay af : List Int} {at' t : Int} {r : Nat → Int} (hmo : sMO f fs) (hmc : sMC f ax ay af) (hr : sML ax ay af at' r) (ht : 0 ≤ t ∧ t ≤ 3) : xq v0 xs u 116 [(0, .ref 177), (1, xi at'), (2, xi t)] f (fun r' f' => r' = some (xi (smk (salone r t) 8)) ∧ f' = f) := by
  unfold xq
  refine x_sipush rfl (by decide) ?_
  refine x_istore_n rfl (show (3 : Nat) < 11 from by decide) ?_
  refine x_iconst rfl ?_
  refine x_istore rfl (show (4 : Nat) < 11 from by decide) ?_
  exact xs_116l hmo hmc hr ht 64 0 _ rfl (xst_ne (by decide) (xst_ne (by decide) rfl (Or.inl rfl)) (Or.inl rfl)) (xst_ne (by decide) (xst_ne (by decide) rfl (Or.inl rfl)) (Or.inl rfl)) (xst_ne (by decide) (xst_ne (by decide) rfl (Or.inl rfl)) (Or.inl rfl)) (by rw [sal_0]; exact (xst_ne (by decide) xst_eq (Or.inl rfl))) xst_eq
theorem xs_117l {v0 : Value} {xs : List Int32} {u : Nat × Nat} {f : Nat → zE} {fs : List Value} {ax ay af : List Int} {at' s : Int} {r : Nat → Int} (hmo : sMO f fs) (hmc : sMC f ax ay af) (hr : sML ax ay af at' r) (hs : 5 ≤ s ∧ s ≤ 8) : ∀ (k d : Nat) (lv : zL), k + d = 8 → zlv lv 0 = some (.ref 177) → zlv lv 1 = some (xi s) → zlv lv 2 = some (xi at') → zlv lv 3 = some (xi (smk (fun d => sF (r d) == s - 5) d)) → zlv lv 4 = some (xi (d : Nat)) → xz v0 xs u (fun o X => ∃ r' f', o = .inl r' ∧ X = (xh f', u) ∧ (fun r' f' => r' = some (xi (smk (fun d => sF (r d) == s - 5) 8)) ∧ f' = f) r' f') 117 121 lv [] f := by
  obtain ⟨h177, hfl, -, h25, h26, h27⟩ := hmo
  obtain ⟨h192, h193, h194, hx, hy, hf⟩ := hmc
  obtain ⟨g0, g1, hrow⟩ := hr
  intro k
  induction k with
  | zero =>
    intro d lv hk l0 l1 l2 l3 l4
    have e8 : d = 8 := by omega
    subst e8
    refine x_iload rfl l4 ?_
    refine x_bipush rfl (by decide) ?_
    refine x_cge (t := 160) rfl rfl (by decide) (by decide) (fun _ => ?_) (fun h => absurd h (by decide))
    refine x_iload_n rfl l3 ?_
    exact x_ireturn rfl (Or.inl rfl) ⟨_, _, rfl, rfl, rfl, rfl⟩
  | succ k ih =>
    intro d lv hk l0 l1 l2 l3 l4
    have hd : d < 8 := by omega
    obtain ⟨⟨-, -, pf⟩, pok⟩ := hrow d hd
    have fr := sF_rg (r d)
    refine x_iload rfl l4 ?_
    refine x_bipush rfl (by decide) ?_
    refine x_cge (t := 160) rfl rfl ⟨by omega, by omega⟩ (by decide) (fun h => absurd h (by omega)) (fun _ => ?_)
    refine x_iload_n rfl l3 ?_
    refine x_aload_n rfl l0 ?_
    refine x_getfield rfl (by decide) h177 h27 ?_
    refine x_iload_n rfl l2 ?_
    refine x_iload rfl l4 ?_
    refine x_iadd rfl ?_
    refine x_iaload rfl (by decide) h194 ⟨by omega, by omega⟩ (by omega) ?_
    rw [pf]
    refine x_iload_n rfl l1 ?_
    refine x_iconst rfl ?_
    refine x_isub rfl ?_
    refine x_cne (t := 151) rfl rfl ⟨by omega, by omega⟩ ⟨by omega, by omega⟩ (fun hne => ?_) (fun heq => ?_)
    · refine x_iconst rfl ?_
      refine x_iorg rfl (sm_or_z _) ?_
      refine x_istore_n rfl (show (3 : Nat) < 5 from by decide) ?_
      refine x_iinc rfl (xst_ne (by decide) l4 (Or.inl rfl)) (show (4 : Nat) < 5 from by decide) ?_
      refine x_goto (t := 121) rfl rfl ?_
      refine ih (d + 1) _ (by omega) (xst_ne (by decide) (xst_ne (by decide) l0 (Or.inl rfl)) (Or.inl rfl)) (xst_ne (by decide) (xst_ne (by decide) l1 (Or.inl rfl)) (Or.inl rfl)) (xst_ne (by decide) (xst_ne (by decide) l2 (Or.inl rfl)) (Or.inl rfl)) ?_ xst_eq
      have e4 : smk (fun d => sF (r d) == s - 5)  (d + 1) = smk (fun d => sF (r d) == s - 5)  d + 0 := by
        simp only [smk]
        rw [if_neg (by rw [beq_iff_eq]; omega)]
      rw [e4, Int.add_zero]
      exact (xst_ne (by decide) xst_eq (Or.inl rfl))
    · refine x_iconst rfl ?_
      refine x_iload rfl l4 ?_
      refine x_ishl rfl ?_
      refine x_goto (t := 152) rfl rfl ?_
      refine x_iorg rfl (sm_orbit _ hd) ?_
      refine x_istore_n rfl (show (3 : Nat) < 5 from by decide) ?_
      refine x_iinc rfl (xst_ne (by decide) l4 (Or.inl rfl)) (show (4 : Nat) < 5 from by decide) ?_
      refine x_goto (t := 121) rfl rfl ?_
      refine ih (d + 1) _ (by omega) (xst_ne (by decide) (xst_ne (by decide) l0 (Or.inl rfl)) (Or.inl rfl)) (xst_ne (by decide) (xst_ne (by decide) l1 (Or.inl rfl)) (Or.inl rfl)) (xst_ne (by decide) (xst_ne (by decide) l2 (Or.inl rfl)) (Or.inl rfl)) ?_ xst_eq
      have e4 : smk (fun d => sF (r d) == s - 5)  (d + 1) = smk (fun d => sF (r d) == s - 5)  d + ((2 ^ d : Nat) : Int) := by
        simp only [smk]
        rw [if_pos (by rw [beq_iff_eq]; omega)]
      rw [e4]
      exact (xst_ne (by decide) xst_eq (Or.inl rfl))
theorem xs_117 {v0 : Value} {xs : List Int32} {u : Nat × Nat} {f : Nat → zE} {fs : List Value} {ax ay af : List Int} {at' s : Int} {r : Nat → Int} (hmo : sMO f fs) (hmc : sMC f ax ay af) (hr : sML ax ay af at' r) (hs : 0 ≤ s ∧ s ≤ 12) : xq v0 xs u 117 [(0, .ref 177), (1, xi s), (2, xi at')] f (fun r' f' => r' = some (xi (smk (shas s r) 8)) ∧ f' = f) := by
  unfold xq
  have h177 := hmo.1
  have hsh : ∀ P : Nat → Bool, (∀ d, d < 8 → P d = shas s r d) → smk P 8 = smk (shas s r) 8 := fun P h => smk_congr 8 h
  refine x_iload_n rfl rfl ?_
  rcases (show s = 0 ∨ s = 1 ∨ s = 2 ∨ s = 3 ∨ s = 4 ∨ s = 5 ∨ s = 6 ∨ s = 7 ∨ s = 8 ∨ s = 9 ∨ s = 10 ∨ s = 11 ∨ s = 12 by omega) with rfl | rfl | rfl | rfl | rfl | rfl | rfl | rfl | rfl | rfl | rfl | rfl | rfl
  · refine x_sw (t := 68) (e := 67) rfl (by decide) (by decide) rfl ?_
    refine x_sipush rfl (by decide) ?_
    exact x_ireturn rfl (Or.inl rfl) ⟨_, _, rfl, rfl, by rw [← hsh (fun _ => true) (fun d hd => rfl), sm_255], rfl⟩
  · refine x_sw (t := 72) (e := 71) rfl (by decide) (by decide) rfl ?_
    refine x_bipush rfl (by decide) ?_
    exact x_ireturn rfl (Or.inl rfl) ⟨_, _, rfl, rfl, by rw [← hsh (fun d => d % 2 == 0) (fun d hd => rfl), sm_consts.1], rfl⟩
  · refine x_sw (t := 75) (e := 74) rfl (by decide) (by decide) rfl ?_
    refine x_sipush rfl (by decide) ?_
    exact x_ireturn rfl (Or.inl rfl) ⟨_, _, rfl, rfl, by rw [← hsh (fun d => d % 2 == 1) (fun d hd => rfl), sm_consts.2.1], rfl⟩
  · refine x_sw (t := 79) (e := 78) rfl (by decide) (by decide) rfl ?_
    refine x_bipush rfl (by decide) ?_
    exact x_ireturn rfl (Or.inl rfl) ⟨_, _, rfl, rfl, by rw [← hsh (fun d => decide (d % 4 < 2)) (fun d hd => rfl), sm_consts.2.2.1], rfl⟩
  · refine x_sw (t := 82) (e := 81) rfl (by decide) (by decide) rfl ?_
    refine x_sipush rfl (by decide) ?_
    exact x_ireturn rfl (Or.inl rfl) ⟨_, _, rfl, rfl, by rw [← hsh (fun d => decide (2 ≤ d % 4)) (fun d hd => rfl), sm_consts.2.2.2], rfl⟩
  · refine x_sw (t := 116) (e := 115) rfl (by decide) (by decide) rfl ?_
    refine x_iconst rfl ?_
    refine x_istore_n rfl (show (3 : Nat) < 5 from by decide) ?_
    refine x_iconst rfl ?_
    refine x_istore rfl (show (4 : Nat) < 5 from by decide) ?_
    refine zwp_mono (xs_117l hmo hmc hr (by decide) 8 0 _ rfl (xst_ne (by decide) (xst_ne (by decide) rfl (Or.inl rfl)) (Or.inl rfl)) (xst_ne (by decide) (xst_ne (by decide) rfl (Or.inl rfl)) (Or.inl rfl)) (xst_ne (by decide) (xst_ne (by decide) rfl (Or.inl rfl)) (Or.inl rfl)) (xst_ne (by decide) xst_eq (Or.inl rfl)) xst_eq) ?_
    intro o X' hq
    obtain ⟨r9, f9, e1, e2, e3, e4⟩ := hq
    exact ⟨r9, f9, e1, e2, by rw [e3, ← hsh (fun d => sF (r d) == (5 : Int) - 5) (fun d hd => rfl)], e4⟩
  · refine x_sw (t := 116) (e := 115) rfl (by decide) (by decide) rfl ?_
    refine x_iconst rfl ?_
    refine x_istore_n rfl (show (3 : Nat) < 5 from by decide) ?_
    refine x_iconst rfl ?_
    refine x_istore rfl (show (4 : Nat) < 5 from by decide) ?_
    refine zwp_mono (xs_117l hmo hmc hr (by decide) 8 0 _ rfl (xst_ne (by decide) (xst_ne (by decide) rfl (Or.inl rfl)) (Or.inl rfl)) (xst_ne (by decide) (xst_ne (by decide) rfl (Or.inl rfl)) (Or.inl rfl)) (xst_ne (by decide) (xst_ne (by decide) rfl (Or.inl rfl)) (Or.inl rfl)) (xst_ne (by decide) xst_eq (Or.inl rfl)) xst_eq) ?_
    intro o X' hq
    obtain ⟨r9, f9, e1, e2, e3, e4⟩ := hq
    exact ⟨r9, f9, e1, e2, by rw [e3, ← hsh (fun d => sF (r d) == (6 : Int) - 5) (fun d hd => rfl)], e4⟩
  · refine x_sw (t := 116) (e := 115) rfl (by decide) (by decide) rfl ?_
    refine x_iconst rfl ?_
    refine x_istore_n rfl (show (3 : Nat) < 5 from by decide) ?_
    refine x_iconst rfl ?_
    refine x_istore rfl (show (4 : Nat) < 5 from by decide) ?_
    refine zwp_mono (xs_117l hmo hmc hr (by decide) 8 0 _ rfl (xst_ne (by decide) (xst_ne (by decide) rfl (Or.inl rfl)) (Or.inl rfl)) (xst_ne (by decide) (xst_ne (by decide) rfl (Or.inl rfl)) (Or.inl rfl)) (xst_ne (by decide) (xst_ne (by decide) rfl (Or.inl rfl)) (Or.inl rfl)) (xst_ne (by decide) xst_eq (Or.inl rfl)) xst_eq) ?_
    intro o X' hq
    obtain ⟨r9, f9, e1, e2, e3, e4⟩ := hq
    exact ⟨r9, f9, e1, e2, by rw [e3, ← hsh (fun d => sF (r d) == (7 : Int) - 5) (fun d hd => rfl)], e4⟩
  · refine x_sw (t := 116) (e := 115) rfl (by decide) (by decide) rfl ?_
    refine x_iconst rfl ?_
    refine x_istore_n rfl (show (3 : Nat) < 5 from by decide) ?_
    refine x_iconst rfl ?_
    refine x_istore rfl (show (4 : Nat) < 5 from by decide) ?_
    refine zwp_mono (xs_117l hmo hmc hr (by decide) 8 0 _ rfl (xst_ne (by decide) (xst_ne (by decide) rfl (Or.inl rfl)) (Or.inl rfl)) (xst_ne (by decide) (xst_ne (by decide) rfl (Or.inl rfl)) (Or.inl rfl)) (xst_ne (by decide) (xst_ne (by decide) rfl (Or.inl rfl)) (Or.inl rfl)) (xst_ne (by decide) xst_eq (Or.inl rfl)) xst_eq) ?_
    intro o X' hq
    obtain ⟨r9, f9, e1, e2, e3, e4⟩ := hq
    exact ⟨r9, f9, e1, e2, by rw [e3, ← hsh (fun d => sF (r d) == (8 : Int) - 5) (fun d hd => rfl)], e4⟩
  · refine x_sw (t := 86) (e := 85) rfl (by decide) (by decide) rfl ?_
    refine x_aload_n rfl rfl ?_
    refine x_iload_n rfl rfl ?_
    refine x_call [_, _] rfl rfl (show (0 : Nat) ≤ 8 from by decide) (show (2 : Nat) ≤ 6 from by decide) (x_rcv (by decide) h177) (xs_115 hmo hmc hr) ?_
    intro r' f1 hP
    obtain ⟨rfl, rfl⟩ := hP
    exact x_ireturn rfl (Or.inl rfl) ⟨_, _, rfl, rfl, by rw [← hsh (scen r) (fun d hd => rfl)], rfl⟩
  · refine x_sw (t := 92) (e := 91) rfl (by decide) (by decide) rfl ?_
    refine x_sipush rfl (by decide) ?_
    refine x_aload_n rfl rfl ?_
    refine x_iload_n rfl rfl ?_
    refine x_call [_, _] rfl rfl (show (1 : Nat) ≤ 8 from by decide) (show (2 : Nat) ≤ 6 from by decide) (x_rcv (by decide) h177) (xs_115 hmo hmc hr) ?_
    intro r' f1 hP
    obtain ⟨rfl, rfl⟩ := hP
    refine x_isub rfl ?_
    exact x_ireturn rfl (Or.inl rfl) ⟨_, _, rfl, rfl, by rw [← hsh (fun d => !scen r d) (fun d hd => rfl), sm_cpl], rfl⟩
  · refine x_sw (t := 102) (e := 101) rfl (by decide) (by decide) rfl ?_
    refine x_aload_n rfl rfl ?_
    refine x_iload_n rfl rfl ?_
    refine x_iconst rfl ?_
    refine x_call [_, _, _] rfl rfl (show (0 : Nat) ≤ 8 from by decide) (show (3 : Nat) ≤ 11 from by decide) (x_rcv (by decide) h177) (xs_116 hmo hmc hr (by decide)) ?_
    intro r' f1 hP
    obtain ⟨rfl, rfl⟩ := hP
    exact x_ireturn rfl (Or.inl rfl) ⟨_, _, rfl, rfl, by rw [← hsh (salone r 0) (fun d hd => rfl)], rfl⟩
  · refine x_sw (t := 109) (e := 108) rfl (by decide) (by decide) rfl ?_
    refine x_aload_n rfl rfl ?_
    refine x_iload_n rfl rfl ?_
    refine x_iconst rfl ?_
    refine x_call [_, _, _] rfl rfl (show (0 : Nat) ≤ 8 from by decide) (show (3 : Nat) ≤ 11 from by decide) (x_rcv (by decide) h177) (xs_116 hmo hmc hr (by decide)) ?_
    intro r' f1 hP
    obtain ⟨rfl, rfl⟩ := hP
    exact x_ireturn rfl (Or.inl rfl) ⟨_, _, rfl, rfl, by rw [← hsh (salone r 2) (fun d hd => rfl)], rfl⟩
end
section
/-! What goes wrong in a beat, the model's side: 119 to 121. -/
theorem xs_119 {v0 : Value} {xs : List Int32} {u : Nat × Nat} {f : Nat → zE} {fs : List Value} {ax ay af : List Int} {p q P Q : Int} (hmo : sMO f fs) (hmc : sMC f ax ay af) (hp : 0 ≤ p ∧ p < 144) (hq : 0 ≤ q ∧ q < 144) (h1 : sMP ax ay af p P) (h2 : sMP ax ay af q Q) (okP : sok P) (okQ : sok Q) : xq v0 xs u 119 [(0, .ref 177), (1, xi p), (2, xi q)] f (fun r' f' => r' = some (xi (if P / 4 = Q / 4 then 1 else 0)) ∧ f' = f) := by
  unfold xq
  obtain ⟨h177, hfl, -, h25, h26, h27⟩ := hmo
  obtain ⟨h192, h193, h194, hx, hy, hf⟩ := hmc
  obtain ⟨px, py, pf⟩ := h1
  obtain ⟨qx, qy, qf⟩ := h2
  have rx := sX_rg okP
  have ry := sY_rg okP
  have tx := sX_rg okQ
  have ty := sY_rg okQ
  have hsp := spot_inj okP okQ
  refine x_aload_n rfl rfl ?_
  refine x_getfield rfl (by decide) h177 h25 ?_
  refine x_iload_n rfl rfl ?_
  refine x_iaload rfl (by decide) h192 ⟨by omega, by omega⟩ (by omega) ?_
  rw [px]
  refine x_aload_n rfl rfl ?_
  refine x_getfield rfl (by decide) h177 h25 ?_
  refine x_iload_n rfl rfl ?_
  refine x_iaload rfl (by decide) h192 ⟨by omega, by omega⟩ (by omega) ?_
  rw [qx]
  refine x_cne (t := 34) rfl rfl ⟨by omega, by omega⟩ ⟨by omega, by omega⟩ (fun h1 => ?_) (fun h1 => ?_)
  · refine x_iconst rfl ?_
    exact x_ireturn rfl (Or.inr (Or.inl ⟨rfl, by decide⟩)) ⟨_, _, rfl, rfl, by rw [if_neg (fun h => h1 (hsp.mp h).1)], rfl⟩
  · refine x_aload_n rfl rfl ?_
    refine x_getfield rfl (by decide) h177 h26 ?_
    refine x_iload_n rfl rfl ?_
    refine x_iaload rfl (by decide) h193 ⟨by omega, by omega⟩ (by omega) ?_
    rw [py]
    refine x_aload_n rfl rfl ?_
    refine x_getfield rfl (by decide) h177 h26 ?_
    refine x_iload_n rfl rfl ?_
    refine x_iaload rfl (by decide) h193 ⟨by omega, by omega⟩ (by omega) ?_
    rw [qy]
    refine x_cne (t := 34) rfl rfl ⟨by omega, by omega⟩ ⟨by omega, by omega⟩ (fun h2 => ?_) (fun h2 => ?_)
    · refine x_iconst rfl ?_
      exact x_ireturn rfl (Or.inr (Or.inl ⟨rfl, by decide⟩)) ⟨_, _, rfl, rfl, by rw [if_neg (fun h => h2 (hsp.mp h).2)], rfl⟩
    · refine x_iconst rfl ?_
      refine x_goto (t := 35) rfl rfl ?_
      exact x_ireturn rfl (Or.inr (Or.inl ⟨rfl, by decide⟩)) ⟨_, _, rfl, rfl, by rw [if_pos (hsp.mpr ⟨h1, h2⟩)], rfl⟩
theorem xs_120 {v0 : Value} {xs : List Int32} {u : Nat × Nat} {f : Nat → zE} {fs : List Value} {ax ay af : List Int} {p q P Q t : Int} (hmo : sMO f fs) (hmc : sMC f ax ay af) (hp : 0 ≤ p ∧ p < 144) (hq : 0 ≤ q ∧ q < 144) (h1 : sMP ax ay af p P) (h2 : sMP ax ay af q Q) (okP : sok P) (okQ : sok Q) (ht : 0 ≤ t ∧ t ≤ 3) : xq v0 xs u 120 [(0, .ref 177), (1, xi p), (2, xi q), (3, xi t)] f (fun r' f' => r' = some (xi (if slook P Q t = true then 1 else 0)) ∧ f' = f) := by
  unfold xq
  obtain ⟨h177, hfl, -, h25, h26, h27⟩ := hmo
  obtain ⟨h192, h193, h194, hx, hy, hf⟩ := hmc
  obtain ⟨px, py, pf⟩ := h1
  obtain ⟨qx, qy, qf⟩ := h2
  have rx := sX_rg okP
  have ry := sY_rg okP
  have tx := sX_rg okQ
  have ty := sY_rg okQ
  have fr := sF_rg P
  have dx1 := sdx_rg ((sF P + t) % 4)
  have dy1 := sdy_rg ((sF P + t) % 4)
  refine x_aload_n rfl rfl ?_
  refine x_getfield rfl (by decide) h177 h27 ?_
  refine x_iload_n rfl rfl ?_
  refine x_iaload rfl (by decide) h194 ⟨by omega, by omega⟩ (by omega) ?_
  rw [pf]
  refine x_iload_n rfl rfl ?_
  refine x_iadd rfl ?_
  refine x_iconst rfl ?_
  refine x_irem rfl ⟨by omega, by omega⟩ (by decide) ?_
  refine x_istore rfl (show (4 : Nat) < 5 from by decide) ?_
  refine x_aload_n rfl (xst_ne (by decide) rfl (Or.inl rfl)) ?_
  refine x_getfield rfl (by decide) h177 h25 ?_
  refine x_iload_n rfl (xst_ne (by decide) rfl (Or.inl rfl)) ?_
  refine x_iaload rfl (by decide) h192 ⟨by omega, by omega⟩ (by omega) ?_
  rw [px]
  refine x_iload rfl xst_eq ?_
  refine x_call [_] rfl rfl (show (1 : Nat) ≤ 8 from by decide) (show (1 : Nat) ≤ 1 from by decide) rfl (xs_111 ⟨by omega, by omega⟩) ?_
  intro r' f1 hP
  obtain ⟨rfl, rfl⟩ := hP
  refine x_iadd rfl ?_
  refine x_aload_n rfl (xst_ne (by decide) rfl (Or.inl rfl)) ?_
  refine x_getfield rfl (by decide) h177 h25 ?_
  refine x_iload_n rfl (xst_ne (by decide) rfl (Or.inl rfl)) ?_
  refine x_iaload rfl (by decide) h192 ⟨by omega, by omega⟩ (by omega) ?_
  rw [qx]
  refine x_cne (t := 58) rfl rfl ⟨by omega, by omega⟩ ⟨by omega, by omega⟩ (fun h1 => ?_) (fun h1 => ?_)
  · refine x_iconst rfl ?_
    exact x_ireturn rfl (Or.inr (Or.inl ⟨rfl, by decide⟩)) ⟨_, _, rfl, rfl, by rw [if_neg (by unfold slook; simp [h1])], rfl⟩
  · refine x_aload_n rfl (xst_ne (by decide) rfl (Or.inl rfl)) ?_
    refine x_getfield rfl (by decide) h177 h26 ?_
    refine x_iload_n rfl (xst_ne (by decide) rfl (Or.inl rfl)) ?_
    refine x_iaload rfl (by decide) h193 ⟨by omega, by omega⟩ (by omega) ?_
    rw [py]
    refine x_iload rfl xst_eq ?_
    refine x_call [_] rfl rfl (show (1 : Nat) ≤ 8 from by decide) (show (1 : Nat) ≤ 1 from by decide) rfl (xs_112 ⟨by omega, by omega⟩) ?_
    intro r' f1 hP
    obtain ⟨rfl, rfl⟩ := hP
    refine x_iadd rfl ?_
    refine x_aload_n rfl (xst_ne (by decide) rfl (Or.inl rfl)) ?_
    refine x_getfield rfl (by decide) h177 h26 ?_
    refine x_iload_n rfl (xst_ne (by decide) rfl (Or.inl rfl)) ?_
    refine x_iaload rfl (by decide) h193 ⟨by omega, by omega⟩ (by omega) ?_
    rw [qy]
    refine x_cne (t := 58) rfl rfl ⟨by omega, by omega⟩ ⟨by omega, by omega⟩ (fun h2 => ?_) (fun h2 => ?_)
    · refine x_iconst rfl ?_
      exact x_ireturn rfl (Or.inr (Or.inl ⟨rfl, by decide⟩)) ⟨_, _, rfl, rfl, by rw [if_neg (by unfold slook; simp [h2])], rfl⟩
    · refine x_iconst rfl ?_
      refine x_goto (t := 59) rfl rfl ?_
      exact x_ireturn rfl (Or.inr (Or.inl ⟨rfl, by decide⟩)) ⟨_, _, rfl, rfl, by rw [if_pos (by unfold slook; rw [beq_iff_eq.mpr h1, beq_iff_eq.mpr h2]; rfl)], rfl⟩
/-- whether pair j meets, crosses -/
def spm (r2 : Nat → Int) (j : Nat) : Bool := decide (j / 8 < j % 8) && (r2 (j / 8) / 4 == r2 (j % 8) / 4)
def spc (r r2 : Nat → Int) (j : Nat) : Bool := decide (j / 8 < j % 8) && scr (r (j / 8)) (r (j % 8)) (r2 (j / 8)) (r2 (j % 8))
def skd (r r2 : Nat → Int) (k : Nat) : Int := if sany (spm r2) k = true then 2 else if sany (spc r r2) k = true then 3 else 0
theorem skd_rg (r r2 : Nat → Int) (k : Nat) : 0 ≤ skd r r2 k ∧ skd r r2 k ≤ 3 ∧ skd r r2 k ≠ 1 := by
  unfold skd
  split
  · decide
  · split <;> decide
theorem skd_s (r r2 : Nat → Int) (k : Nat) : skd r r2 (k + 1) = if spm r2 k = true then 2 else if skd r r2 k = 0 ∧ spc r r2 k = true then 3 else skd r r2 k := by
  unfold skd
  simp only [sany]
  by_cases h1 : sany (spm r2) k = true <;> by_cases h2 : spm r2 k = true <;> by_cases h3 : sany (spc r r2) k = true <;> by_cases h4 : spc r r2 k = true <;> simp [h1, h2, h3, h4]
theorem sany64 {P : Nat → Nat → Bool} : sany (fun j => decide (j / 8 < j % 8) && P (j / 8) (j % 8)) 64 = sany (fun a => sany (fun b => decide (a < b) && P a b) 8) 8 := by
  rw [Bool.eq_iff_iff, sany_iff, sany_iff]
  constructor
  · rintro ⟨j, hj, h⟩
    exact ⟨j / 8, by omega, (sany_iff _ _).mpr ⟨j % 8, by omega, h⟩⟩
  · rintro ⟨a, ha, h⟩
    obtain ⟨b, hb, h2⟩ := (sany_iff _ _).mp h
    refine ⟨8 * a + b, by omega, ?_⟩
    rw [show (8 * a + b) / 8 = a from by omega, show (8 * a + b) % 8 = b from by omega]
    exact h2
theorem skd_64 {r r2 : Nat → Int} (h : sleave r2 = false) : skd r r2 64 = sclash r r2 := by
  unfold skd sclash smeet scross
  rw [h, ← sany64 (P := fun a b => r2 a / 4 == r2 b / 4), ← sany64 (P := fun a b => scr (r a) (r b) (r2 a) (r2 b))]
  rfl
theorem mvx_rg {p a : Int} (h : sok p) : -1 ≤ mvx p a ∧ mvx p a ≤ 10 := by
  have := sX_rg h
  have := sdx_rg (sway (sF p) a)
  unfold mvx
  split <;> omega
theorem mvy_rg {p a : Int} (h : sok p) : -1 ≤ mvy p a ∧ mvy p a ≤ 10 := by
  have := sY_rg h
  have := sdy_rg (sway (sF p) a)
  unfold mvy
  split <;> omega
theorem xs_121m {v0 : Value} {xs : List Int32} {u : Nat × Nat} {f : Nat → zE} {fs : List Value} {ax ay af : List Int} {at' : Int} {r r2 : Nat → Int} (hmo : sMO f fs) (hmc : sMC f ax ay af) (hr : sML ax ay af at' r) (hr2 : sML ax ay af (at' + 8) r2) : ∀ (w k : Nat) (lv : zL), w + k = 64 → zlv lv 0 = some (.ref 177) → zlv lv 1 = some (xi at') → zlv lv 2 = some (xi (skd r r2 k)) → zlv lv 3 = some (xi (k : Nat)) → xz v0 xs u (fun o X => ∃ r' f', o = .inl r' ∧ X = (xh f', u) ∧ (fun r' f' => r' = some (xi (skd r r2 64)) ∧ f' = f) r' f') 121 69 lv [] f := by
  have h177 := hmo.1
  obtain ⟨g0, g1, hrow⟩ := hr
  obtain ⟨g2, g3, hrow2⟩ := hr2
  intro w
  induction w with
  | zero =>
    intro k lv hk l0 l1 l2 l3
    have e8 : k = 64 := by omega
    subst e8
    refine x_iload_n rfl l3 ?_
    refine x_bipush rfl (by decide) ?_
    refine x_cge (t := 259) rfl rfl (by decide) (by decide) (fun _ => ?_) (fun h => absurd h (by decide))
    refine x_iload_n rfl l2 ?_
    exact x_ireturn rfl (Or.inl rfl) ⟨_, _, rfl, rfl, rfl, rfl⟩
  | succ w ih =>
    intro k lv hk l0 l1 l2 l3
    obtain ⟨d, e, hd, he, hde⟩ : ∃ d e : Nat, d < 8 ∧ e < 8 ∧ k = 8 * d + e := ⟨k / 8, k % 8, by omega, by omega, by omega⟩
    subst hde
    obtain ⟨mp, pok⟩ := hrow d hd
    obtain ⟨mq, qok⟩ := hrow e he
    obtain ⟨mp2, p2ok⟩ := hrow2 d hd
    obtain ⟨mq2, q2ok⟩ := hrow2 e he
    have kr := skd_rg r r2 (8 * d + e)
    have pd : at' + ((d : Nat) : Int) + 8 = at' + 8 + (d : Nat) := by omega
    have pe : at' + ((e : Nat) : Int) + 8 = at' + 8 + (e : Nat) := by omega
    have htw : spm r2 (8 * d + e) = (decide (d < e) && (r2 d / 4 == r2 e / 4)) := by
      unfold spm
      rw [show (8 * d + e) / 8 = d from by omega, show (8 * d + e) % 8 = e from by omega]
    have hcx : spc r r2 (8 * d + e) = ((decide (d < e) && ((r2 d / 4 == r e / 4) && (r2 e / 4 == r d / 4))) && !(slook (r d) (r e) 0 && slook (r e) (r d) 0 || slook (r d) (r e) 2 && slook (r e) (r d) 2)) := by
      unfold spc scr
      rw [show (8 * d + e) / 8 = d from by omega, show (8 * d + e) % 8 = e from by omega, Bool.and_assoc (decide (d < e))]
    have T5 : ∀ (lv : zL), zlv lv 0 = some (.ref 177) → zlv lv 1 = some (xi at') → zlv lv 2 = some (xi (skd r r2 (8 * d + e))) → zlv lv 3 = some (xi ((8 * d + e : Nat) : Int)) → xz v0 xs u (fun o X => ∃ r' f', o = .inl r' ∧ X = (xh f', u) ∧ (fun r' f' => r' = some (xi (skd r r2 64)) ∧ f' = f) r' f') 121 252 lv [xi (skd r r2 (8 * d + e + 1))] f := by
      intro lv l0 l1 l2 l3
      refine x_istore_n rfl (show (2 : Nat) < 9 from by decide) ?_
      refine x_iinc rfl (xst_ne (by decide) l3 (Or.inl rfl)) (show (3 : Nat) < 9 from by decide) ?_
      refine x_goto (t := 69) rfl rfl ?_
      exact ih (8 * d + e + 1) _ (by omega) (xst_ne (by decide) (xst_ne (by decide) l0 (Or.inl rfl)) (Or.inl rfl)) (xst_ne (by decide) (xst_ne (by decide) l1 (Or.inl rfl)) (Or.inl rfl)) (xst_ne (by decide) xst_eq (Or.inl rfl)) xst_eq
    have T4 : ∀ (lv : zL) (b : Bool), b = (slook (r d) (r e) 0 && slook (r e) (r d) 0 || slook (r d) (r e) 2 && slook (r e) (r d) 2) → zlv lv 0 = some (.ref 177) → zlv lv 1 = some (xi at') → zlv lv 2 = some (xi (skd r r2 (8 * d + e))) → zlv lv 3 = some (xi ((8 * d + e : Nat) : Int)) → zlv lv 6 = some (xi (if spm r2 (8 * d + e) = true then 1 else 0)) → zlv lv 7 = some (xi (if (decide (d < e) && ((r2 d / 4 == r e / 4) && (r2 e / 4 == r d / 4))) = true then 1 else 0)) → xz v0 xs u (fun o X => ∃ r' f', o = .inl r' ∧ X = (xh f', u) ∧ (fun r' f' => r' = some (xi (skd r r2 64)) ∧ f' = f) r' f') 121 222 lv [xi (if b = true then 1 else 0)] f := by
      intro lv b hb l0 l1 l2 l3 l6 l7
      refine x_istore rfl (show (8 : Nat) < 9 from by decide) ?_
      refine x_iload rfl (xst_ne (by decide) l6 (Or.inl rfl)) ?_
      by_cases h2 : spm r2 (8 * d + e) = true
      · rw [if_pos h2]
        refine x_ifeq (t := 233) rfl rfl (by decide) (fun h => absurd h (by decide)) (fun _ => ?_)
        refine x_iconst rfl ?_
        refine x_goto (t := 252) rfl rfl ?_
        rw [show (2 : Int) = skd r r2 (8 * d + e + 1) from by rw [skd_s, if_pos h2]]
        exact T5 _ (xst_ne (by decide) l0 (Or.inl rfl)) (xst_ne (by decide) l1 (Or.inl rfl)) (xst_ne (by decide) l2 (Or.inl rfl)) (xst_ne (by decide) l3 (Or.inl rfl))
      · rw [if_neg h2]
        refine x_ifeq (t := 233) rfl rfl (by decide) (fun _ => ?_) (fun h => absurd rfl h)
        refine x_iload_n rfl (xst_ne (by decide) l2 (Or.inl rfl)) ?_
        refine x_ifne (t := 251) rfl rfl ⟨by omega, by omega⟩ (fun hk0 => ?_) (fun hk0 => ?_)
        · refine x_iload_n rfl (xst_ne (by decide) l2 (Or.inl rfl)) ?_
          rw [show skd r r2 (8 * d + e) = skd r r2 (8 * d + e + 1) from by rw [skd_s, if_neg h2, if_neg (fun h => hk0 h.1)]]
          exact T5 _ (xst_ne (by decide) l0 (Or.inl rfl)) (xst_ne (by decide) l1 (Or.inl rfl)) (xst_ne (by decide) l2 (Or.inl rfl)) (xst_ne (by decide) l3 (Or.inl rfl))
        · refine x_iload rfl (xst_ne (by decide) l7 (Or.inl rfl)) ?_
          by_cases h3 : (decide (d < e) && ((r2 d / 4 == r e / 4) && (r2 e / 4 == r d / 4))) = true
          · rw [if_pos h3]
            refine x_ifeq (t := 251) rfl rfl (by decide) (fun h => absurd h (by decide)) (fun _ => ?_)
            refine x_iload rfl xst_eq ?_
            by_cases h4 : b = true
            · rw [if_pos h4]
              refine x_ifne (t := 251) rfl rfl (by decide) (fun _ => ?_) (fun h => absurd h (by decide))
              refine x_iload_n rfl (xst_ne (by decide) l2 (Or.inl rfl)) ?_
              rw [show skd r r2 (8 * d + e) = skd r r2 (8 * d + e + 1) from by rw [skd_s, if_neg h2, if_neg (fun h => by rw [hcx, ← hb, h4] at h; simp at h)]]
              exact T5 _ (xst_ne (by decide) l0 (Or.inl rfl)) (xst_ne (by decide) l1 (Or.inl rfl)) (xst_ne (by decide) l2 (Or.inl rfl)) (xst_ne (by decide) l3 (Or.inl rfl))
            · rw [if_neg h4]
              refine x_ifne (t := 251) rfl rfl (by decide) (fun h => absurd rfl h) (fun _ => ?_)
              refine x_iconst rfl ?_
              refine x_goto (t := 252) rfl rfl ?_
              rw [show (3 : Int) = skd r r2 (8 * d + e + 1) from by rw [skd_s, if_neg h2, if_pos ⟨hk0, by rw [hcx, ← hb, bool_f h4, h3]; rfl⟩]]
              exact T5 _ (xst_ne (by decide) l0 (Or.inl rfl)) (xst_ne (by decide) l1 (Or.inl rfl)) (xst_ne (by decide) l2 (Or.inl rfl)) (xst_ne (by decide) l3 (Or.inl rfl))
          · rw [if_neg h3]
            refine x_ifeq (t := 251) rfl rfl (by decide) (fun _ => ?_) (fun h => absurd rfl h)
            refine x_iload_n rfl (xst_ne (by decide) l2 (Or.inl rfl)) ?_
            rw [show skd r r2 (8 * d + e) = skd r r2 (8 * d + e + 1) from by rw [skd_s, if_neg h2, if_neg (fun h => h3 (by rw [hcx] at h; exact (Bool.and_eq_true_iff.mp h.2).1))]]
            exact T5 _ (xst_ne (by decide) l0 (Or.inl rfl)) (xst_ne (by decide) l1 (Or.inl rfl)) (xst_ne (by decide) l2 (Or.inl rfl)) (xst_ne (by decide) l3 (Or.inl rfl))
    have T3 : ∀ (lv : zL) (b : Bool), b = (decide (d < e) && ((r2 d / 4 == r e / 4) && (r2 e / 4 == r d / 4))) → zlv lv 0 = some (.ref 177) → zlv lv 1 = some (xi at') → zlv lv 2 = some (xi (skd r r2 (8 * d + e))) → zlv lv 3 = some (xi ((8 * d + e : Nat) : Int)) → zlv lv 4 = some (xi (at' + (d : Nat))) → zlv lv 5 = some (xi (at' + (e : Nat))) → zlv lv 6 = some (xi (if spm r2 (8 * d + e) = true then 1 else 0)) → xz v0 xs u (fun o X => ∃ r' f', o = .inl r' ∧ X = (xh f', u) ∧ (fun r' f' => r' = some (xi (skd r r2 64)) ∧ f' = f) r' f') 121 167 lv [xi (if b = true then 1 else 0)] f := by
      intro lv b hb l0 l1 l2 l3 l4 l5 l6
      rw [hb]
      refine x_istore rfl (show (7 : Nat) < 9 from by decide) ?_
      have C : (slook (r d) (r e) 0 && slook (r e) (r d) 0) = false → xz v0 xs u (fun o X => ∃ r' f', o = .inl r' ∧ X = (xh f', u) ∧ (fun r' f' => r' = some (xi (skd r r2 64)) ∧ f' = f) r' f') 121 193 (xst 7 (xi (if (decide (d < e) && ((r2 d / 4 == r e / 4) && (r2 e / 4 == r d / 4))) = true then 1 else 0)) lv) [] f := by
        intro h0
        refine x_aload_n rfl (xst_ne (by decide) l0 (Or.inl rfl)) ?_
        refine x_iload rfl (xst_ne (by decide) l4 (Or.inl rfl)) ?_
        refine x_iload rfl (xst_ne (by decide) l5 (Or.inl rfl)) ?_
        refine x_iconst rfl ?_
        refine x_call [_, _, _, _] rfl rfl (show (0 : Nat) ≤ 8 from by decide) (show (4 : Nat) ≤ 5 from by decide) (x_rcv (by decide) h177) (xs_120 hmo hmc ⟨by omega, by omega⟩ ⟨by omega, by omega⟩ mp mq pok qok (by decide)) ?_
        intro r' f1 hP
        obtain ⟨rfl, rfl⟩ := hP
        by_cases h1 : slook (r d) (r e) 2 = true
        · rw [if_pos h1]
          refine x_ifeq (t := 221) rfl rfl (by decide) (fun h => absurd h (by decide)) (fun _ => ?_)
          refine x_aload_n rfl (xst_ne (by decide) l0 (Or.inl rfl)) ?_
          refine x_iload rfl (xst_ne (by decide) l5 (Or.inl rfl)) ?_
          refine x_iload rfl (xst_ne (by decide) l4 (Or.inl rfl)) ?_
          refine x_iconst rfl ?_
          refine x_call [_, _, _, _] rfl rfl (show (0 : Nat) ≤ 8 from by decide) (show (4 : Nat) ≤ 5 from by decide) (x_rcv (by decide) h177) (xs_120 hmo hmc ⟨by omega, by omega⟩ ⟨by omega, by omega⟩ mq mp qok pok (by decide)) ?_
          intro r' f1 hP
          obtain ⟨rfl, rfl⟩ := hP
          by_cases h2 : slook (r e) (r d) 2 = true
          · rw [if_pos h2]
            refine x_ifeq (t := 221) rfl rfl (by decide) (fun h => absurd h (by decide)) (fun _ => ?_)
            refine x_iconst rfl ?_
            refine x_goto (t := 222) rfl rfl ?_
            exact T4 _ true (by rw [h0, h1, h2]; rfl) (xst_ne (by decide) l0 (Or.inl rfl)) (xst_ne (by decide) l1 (Or.inl rfl)) (xst_ne (by decide) l2 (Or.inl rfl)) (xst_ne (by decide) l3 (Or.inl rfl)) (xst_ne (by decide) l6 (Or.inl rfl)) xst_eq
          · rw [if_neg h2]
            refine x_ifeq (t := 221) rfl rfl (by decide) (fun _ => ?_) (fun h => absurd rfl h)
            refine x_iconst rfl ?_
            exact T4 _ false (by rw [h0, h1, bool_f h2]; rfl) (xst_ne (by decide) l0 (Or.inl rfl)) (xst_ne (by decide) l1 (Or.inl rfl)) (xst_ne (by decide) l2 (Or.inl rfl)) (xst_ne (by decide) l3 (Or.inl rfl)) (xst_ne (by decide) l6 (Or.inl rfl)) xst_eq
        · rw [if_neg h1]
          refine x_ifeq (t := 221) rfl rfl (by decide) (fun _ => ?_) (fun h => absurd rfl h)
          refine x_iconst rfl ?_
          exact T4 _ false (by rw [h0, bool_f h1]; rfl) (xst_ne (by decide) l0 (Or.inl rfl)) (xst_ne (by decide) l1 (Or.inl rfl)) (xst_ne (by decide) l2 (Or.inl rfl)) (xst_ne (by decide) l3 (Or.inl rfl)) (xst_ne (by decide) l6 (Or.inl rfl)) xst_eq
      refine x_aload_n rfl (xst_ne (by decide) l0 (Or.inl rfl)) ?_
      refine x_iload rfl (xst_ne (by decide) l4 (Or.inl rfl)) ?_
      refine x_iload rfl (xst_ne (by decide) l5 (Or.inl rfl)) ?_
      refine x_iconst rfl ?_
      refine x_call [_, _, _, _] rfl rfl (show (0 : Nat) ≤ 8 from by decide) (show (4 : Nat) ≤ 5 from by decide) (x_rcv (by decide) h177) (xs_120 hmo hmc ⟨by omega, by omega⟩ ⟨by omega, by omega⟩ mp mq pok qok (by decide)) ?_
      intro r' f1 hP
      obtain ⟨rfl, rfl⟩ := hP
      by_cases h1 : slook (r d) (r e) 0 = true
      · rw [if_pos h1]
        refine x_ifeq (t := 193) rfl rfl (by decide) (fun h => absurd h (by decide)) (fun _ => ?_)
        refine x_aload_n rfl (xst_ne (by decide) l0 (Or.inl rfl)) ?_
        refine x_iload rfl (xst_ne (by decide) l5 (Or.inl rfl)) ?_
        refine x_iload rfl (xst_ne (by decide) l4 (Or.inl rfl)) ?_
        refine x_iconst rfl ?_
        refine x_call [_, _, _, _] rfl rfl (show (0 : Nat) ≤ 8 from by decide) (show (4 : Nat) ≤ 5 from by decide) (x_rcv (by decide) h177) (xs_120 hmo hmc ⟨by omega, by omega⟩ ⟨by omega, by omega⟩ mq mp qok pok (by decide)) ?_
        intro r' f1 hP
        obtain ⟨rfl, rfl⟩ := hP
        by_cases h2 : slook (r e) (r d) 0 = true
        · rw [if_pos h2]
          refine x_ifne (t := 217) rfl rfl (by decide) (fun _ => ?_) (fun h => absurd h (by decide))
          refine x_iconst rfl ?_
          refine x_goto (t := 222) rfl rfl ?_
          exact T4 _ true (by rw [h1, h2]; rfl) (xst_ne (by decide) l0 (Or.inl rfl)) (xst_ne (by decide) l1 (Or.inl rfl)) (xst_ne (by decide) l2 (Or.inl rfl)) (xst_ne (by decide) l3 (Or.inl rfl)) (xst_ne (by decide) l6 (Or.inl rfl)) xst_eq
        · rw [if_neg h2]
          refine x_ifne (t := 217) rfl rfl (by decide) (fun h => absurd rfl h) (fun _ => ?_)
          exact C (by rw [h1, bool_f h2]; rfl)
      · rw [if_neg h1]
        refine x_ifeq (t := 193) rfl rfl (by decide) (fun _ => ?_) (fun h => absurd rfl h)
        exact C (by rw [bool_f h1]; rfl)
    have T2 : ∀ (lv : zL) (b : Bool), b = spm r2 (8 * d + e) → zlv lv 0 = some (.ref 177) → zlv lv 1 = some (xi at') → zlv lv 2 = some (xi (skd r r2 (8 * d + e))) → zlv lv 3 = some (xi ((8 * d + e : Nat) : Int)) → zlv lv 4 = some (xi (at' + (d : Nat))) → zlv lv 5 = some (xi (at' + (e : Nat))) → xz v0 xs u (fun o X => ∃ r' f', o = .inl r' ∧ X = (xh f', u) ∧ (fun r' f' => r' = some (xi (skd r r2 64)) ∧ f' = f) r' f') 121 125 lv [xi (if b = true then 1 else 0)] f := by
      intro lv b hb l0 l1 l2 l3 l4 l5
      rw [hb]
      refine x_istore rfl (show (6 : Nat) < 9 from by decide) ?_
      refine x_iload rfl (xst_ne (by decide) l4 (Or.inl rfl)) ?_
      refine x_iload rfl (xst_ne (by decide) l5 (Or.inl rfl)) ?_
      refine x_cge (t := 166) rfl rfl ⟨by omega, by omega⟩ ⟨by omega, by omega⟩ (fun hge => ?_) (fun hlt => ?_)
      · refine x_iconst rfl ?_
        exact T3 _ false (by rw [decide_eq_false (by omega : ¬ d < e)]; rfl) (xst_ne (by decide) l0 (Or.inl rfl)) (xst_ne (by decide) l1 (Or.inl rfl)) (xst_ne (by decide) l2 (Or.inl rfl)) (xst_ne (by decide) l3 (Or.inl rfl)) (xst_ne (by decide) l4 (Or.inl rfl)) (xst_ne (by decide) l5 (Or.inl rfl)) xst_eq
      · refine x_aload_n rfl (xst_ne (by decide) l0 (Or.inl rfl)) ?_
        refine x_iload rfl (xst_ne (by decide) l4 (Or.inl rfl)) ?_
        refine x_bipush rfl (by decide) ?_
        refine x_iadd rfl ?_
        rw [pd]
        refine x_iload rfl (xst_ne (by decide) l5 (Or.inl rfl)) ?_
        refine x_call [_, _, _] rfl rfl (show (0 : Nat) ≤ 8 from by decide) (show (3 : Nat) ≤ 3 from by decide) (x_rcv (by decide) h177) (xs_119 hmo hmc ⟨by omega, by omega⟩ ⟨by omega, by omega⟩ mp2 mq p2ok qok) ?_
        intro r' f1 hP
        obtain ⟨rfl, rfl⟩ := hP
        by_cases h1 : r2 d / 4 = r e / 4
        · rw [if_pos h1]
          refine x_ifeq (t := 166) rfl rfl (by decide) (fun h => absurd h (by decide)) (fun _ => ?_)
          refine x_aload_n rfl (xst_ne (by decide) l0 (Or.inl rfl)) ?_
          refine x_iload rfl (xst_ne (by decide) l5 (Or.inl rfl)) ?_
          refine x_bipush rfl (by decide) ?_
          refine x_iadd rfl ?_
          rw [pe]
          refine x_iload rfl (xst_ne (by decide) l4 (Or.inl rfl)) ?_
          refine x_call [_, _, _] rfl rfl (show (0 : Nat) ≤ 8 from by decide) (show (3 : Nat) ≤ 3 from by decide) (x_rcv (by decide) h177) (xs_119 hmo hmc ⟨by omega, by omega⟩ ⟨by omega, by omega⟩ mq2 mp q2ok pok) ?_
          intro r' f1 hP
          obtain ⟨rfl, rfl⟩ := hP
          by_cases h2 : r2 e / 4 = r d / 4
          · rw [if_pos h2]
            refine x_ifeq (t := 166) rfl rfl (by decide) (fun h => absurd h (by decide)) (fun _ => ?_)
            refine x_iconst rfl ?_
            refine x_goto (t := 167) rfl rfl ?_
            exact T3 _ true (by rw [decide_eq_true (by omega : d < e), beq_iff_eq.mpr h1, beq_iff_eq.mpr h2]; rfl) (xst_ne (by decide) l0 (Or.inl rfl)) (xst_ne (by decide) l1 (Or.inl rfl)) (xst_ne (by decide) l2 (Or.inl rfl)) (xst_ne (by decide) l3 (Or.inl rfl)) (xst_ne (by decide) l4 (Or.inl rfl)) (xst_ne (by decide) l5 (Or.inl rfl)) xst_eq
          · rw [if_neg h2]
            refine x_ifeq (t := 166) rfl rfl (by decide) (fun _ => ?_) (fun h => absurd rfl h)
            refine x_iconst rfl ?_
            exact T3 _ false (by rw [beq_eq_false_iff_ne.mpr h2, Bool.and_false, Bool.and_false]) (xst_ne (by decide) l0 (Or.inl rfl)) (xst_ne (by decide) l1 (Or.inl rfl)) (xst_ne (by decide) l2 (Or.inl rfl)) (xst_ne (by decide) l3 (Or.inl rfl)) (xst_ne (by decide) l4 (Or.inl rfl)) (xst_ne (by decide) l5 (Or.inl rfl)) xst_eq
        · rw [if_neg h1]
          refine x_ifeq (t := 166) rfl rfl (by decide) (fun _ => ?_) (fun h => absurd rfl h)
          refine x_iconst rfl ?_
          exact T3 _ false (by rw [beq_eq_false_iff_ne.mpr h1, Bool.false_and, Bool.and_false]) (xst_ne (by decide) l0 (Or.inl rfl)) (xst_ne (by decide) l1 (Or.inl rfl)) (xst_ne (by decide) l2 (Or.inl rfl)) (xst_ne (by decide) l3 (Or.inl rfl)) (xst_ne (by decide) l4 (Or.inl rfl)) (xst_ne (by decide) l5 (Or.inl rfl)) xst_eq
    refine x_iload_n rfl l3 ?_
    refine x_bipush rfl (by decide) ?_
    refine x_cge (t := 259) rfl rfl ⟨by omega, by omega⟩ (by decide) (fun h => absurd h (by omega)) (fun _ => ?_)
    refine x_iload_n rfl l2 ?_
    refine x_iconst rfl ?_
    refine x_ceq (t := 259) rfl rfl ⟨by omega, by omega⟩ (by decide) (fun h => absurd h kr.2.2) (fun _ => ?_)
    refine x_iload_n rfl l1 ?_
    refine x_iload_n rfl l3 ?_
    refine x_bipush rfl (by decide) ?_
    refine x_idiv rfl ⟨by omega, by omega⟩ (by decide) ?_
    rw [show ((8 * d + e : Nat) : Int) / 8 = ((d : Nat) : Int) from by omega]
    refine x_iadd rfl ?_
    refine x_istore rfl (show (4 : Nat) < 9 from by decide) ?_
    refine x_iload_n rfl (xst_ne (by decide) l1 (Or.inl rfl)) ?_
    refine x_iload_n rfl (xst_ne (by decide) l3 (Or.inl rfl)) ?_
    refine x_bipush rfl (by decide) ?_
    refine x_irem rfl ⟨by omega, by omega⟩ (by decide) ?_
    rw [show ((8 * d + e : Nat) : Int) % 8 = ((e : Nat) : Int) from by omega]
    refine x_iadd rfl ?_
    refine x_istore rfl (show (5 : Nat) < 9 from by decide) ?_
    refine x_iload rfl (xst_ne (by decide) xst_eq (Or.inl rfl)) ?_
    refine x_iload rfl xst_eq ?_
    refine x_cge (t := 124) rfl rfl ⟨by omega, by omega⟩ ⟨by omega, by omega⟩ (fun hge => ?_) (fun hlt => ?_)
    · refine x_iconst rfl ?_
      exact T2 _ false (by rw [htw, decide_eq_false (by omega : ¬ d < e)]; rfl) (xst_ne (by decide) (xst_ne (by decide) l0 (Or.inl rfl)) (Or.inl rfl)) (xst_ne (by decide) (xst_ne (by decide) l1 (Or.inl rfl)) (Or.inl rfl)) (xst_ne (by decide) (xst_ne (by decide) l2 (Or.inl rfl)) (Or.inl rfl)) (xst_ne (by decide) (xst_ne (by decide) l3 (Or.inl rfl)) (Or.inl rfl)) (xst_ne (by decide) xst_eq (Or.inl rfl)) xst_eq
    · refine x_aload_n rfl (xst_ne (by decide) (xst_ne (by decide) l0 (Or.inl rfl)) (Or.inl rfl)) ?_
      refine x_iload rfl (xst_ne (by decide) xst_eq (Or.inl rfl)) ?_
      refine x_bipush rfl (by decide) ?_
      refine x_iadd rfl ?_
      rw [pd]
      refine x_iload rfl xst_eq ?_
      refine x_bipush rfl (by decide) ?_
      refine x_iadd rfl ?_
      rw [pe]
      refine x_call [_, _, _] rfl rfl (show (0 : Nat) ≤ 8 from by decide) (show (3 : Nat) ≤ 3 from by decide) (x_rcv (by decide) h177) (xs_119 hmo hmc ⟨by omega, by omega⟩ ⟨by omega, by omega⟩ mp2 mq2 p2ok q2ok) ?_
      intro r' f1 hP
      obtain ⟨rfl, rfl⟩ := hP
      by_cases h1 : r2 d / 4 = r2 e / 4
      · rw [if_pos h1]
        refine x_ifeq (t := 124) rfl rfl (by decide) (fun h => absurd h (by decide)) (fun _ => ?_)
        refine x_iconst rfl ?_
        refine x_goto (t := 125) rfl rfl ?_
        exact T2 _ true (by rw [htw, decide_eq_true (by omega : d < e), beq_iff_eq.mpr h1]; rfl) (xst_ne (by decide) (xst_ne (by decide) l0 (Or.inl rfl)) (Or.inl rfl)) (xst_ne (by decide) (xst_ne (by decide) l1 (Or.inl rfl)) (Or.inl rfl)) (xst_ne (by decide) (xst_ne (by decide) l2 (Or.inl rfl)) (Or.inl rfl)) (xst_ne (by decide) (xst_ne (by decide) l3 (Or.inl rfl)) (Or.inl rfl)) (xst_ne (by decide) xst_eq (Or.inl rfl)) xst_eq
      · rw [if_neg h1]
        refine x_ifeq (t := 124) rfl rfl (by decide) (fun _ => ?_) (fun h => absurd rfl h)
        refine x_iconst rfl ?_
        exact T2 _ false (by rw [htw, beq_eq_false_iff_ne.mpr h1, Bool.and_false]) (xst_ne (by decide) (xst_ne (by decide) l0 (Or.inl rfl)) (Or.inl rfl)) (xst_ne (by decide) (xst_ne (by decide) l1 (Or.inl rfl)) (Or.inl rfl)) (xst_ne (by decide) (xst_ne (by decide) l2 (Or.inl rfl)) (Or.inl rfl)) (xst_ne (by decide) (xst_ne (by decide) l3 (Or.inl rfl)) (Or.inl rfl)) (xst_ne (by decide) xst_eq (Or.inl rfl)) xst_eq
/-- the row behind a beat, where nobody left the floor -/
theorem sML_next {ax ay af : List Int} {at' : Int} {r r2 am : Nat → Int} (hr : sML ax ay af at' r) (hat : at' + 16 ≤ 144) (hn : ∀ d, d < 8 → ax.getD (at' + 8 + (d : Nat)).toNat 0 = mvx (r d) (am d) ∧ ay.getD (at' + 8 + (d : Nat)).toNat 0 = mvy (r d) (am d) ∧ af.getD (at' + 8 + (d : Nat)).toNat 0 = mvf (r d) (am d)) (ham : ∀ d, d < 8 → 0 ≤ am d ∧ am d ≤ 6) (hmv : ∀ d, d < 8 → r2 d = smv (r d) (am d)) (hl : sleave r2 = false) : sML ax ay af (at' + 8) r2 := by
  refine ⟨by have := hr.1; omega, by omega, fun d hd => ?_⟩
  have pok := (hr.2.2 d hd).2
  have hne : smv (r d) (am d) ≠ -1 := by
    intro h
    rw [← hmv d hd] at h
    have : sleave r2 = true := (sany_iff _ _).mpr ⟨d, hd, beq_iff_eq.mpr h⟩
    rw [hl] at this
    cases this
  have h2 : sok (smv (r d) (am d)) := by
    rcases smv_ok (a := am d) pok with h | h
    · exact absurd h hne
    · exact h
  obtain ⟨e1, e2, e3⟩ := hn d hd
  rcases smv_xy pok (ham d hd) with ⟨-, w1, w2, w3⟩ | ⟨h, -⟩
  · rw [hmv d hd]
    exact ⟨⟨by rw [e1, w1], by rw [e2, w2], by rw [e3, w3]⟩, h2⟩
  · exact absurd h hne
theorem xs_121l {v0 : Value} {xs : List Int32} {u : Nat × Nat} {f : Nat → zE} {fs : List Value} {ax ay af : List Int} {at' : Int} {r r2 am : Nat → Int} (hmo : sMO f fs) (hmc : sMC f ax ay af) (hr : sML ax ay af at' r) (hat : at' + 16 ≤ 144) (hn : ∀ d, d < 8 → ax.getD (at' + 8 + (d : Nat)).toNat 0 = mvx (r d) (am d) ∧ ay.getD (at' + 8 + (d : Nat)).toNat 0 = mvy (r d) (am d) ∧ af.getD (at' + 8 + (d : Nat)).toNat 0 = mvf (r d) (am d)) (ham : ∀ d, d < 8 → 0 ≤ am d ∧ am d ≤ 6) (hmv : ∀ d, d < 8 → r2 d = smv (r d) (am d)) : ∀ (w d : Nat) (lv : zL), w + d = 8 → zlv lv 0 = some (.ref 177) → zlv lv 1 = some (xi at') → zlv lv 2 = some (xi (if sany (fun d => r2 d == -1) d = true then 1 else 0)) → zlv lv 3 = some (xi (at' + 8 + (d : Nat))) → xz v0 xs u (fun o X => ∃ r' f', o = .inl r' ∧ X = (xh f', u) ∧ (fun r' f' => r' = some (xi (sclash r r2)) ∧ f' = f) r' f') 121 7 lv [] f := by
  have hmo2 := hmo
  have hmc2 := hmc
  obtain ⟨h177, hfl, -, h25, h26, h27⟩ := hmo2
  obtain ⟨h192, h193, h194, hx, hy, hf⟩ := hmc2
  have g0 := hr.1
  intro w
  induction w with
  | zero =>
    intro d lv hk l0 l1 l2 l3
    have e8 : d = 8 := by omega
    subst e8
    refine x_iload_n rfl l3 ?_
    refine x_iload_n rfl l1 ?_
    refine x_bipush rfl (by decide) ?_
    refine x_iadd rfl ?_
    refine x_cge (t := 67) rfl rfl ⟨by omega, by omega⟩ ⟨by omega, by omega⟩ (fun _ => ?_) (fun h => absurd h (by omega))
    refine x_iconst rfl ?_
    refine x_istore_n rfl (show (3 : Nat) < 9 from by decide) ?_
    by_cases hl : sleave r2 = true
    · have l2b : zlv lv 2 = some (xi 1) := by rw [l2, show sany (fun d => r2 d == -1) 8 = true from hl]; rfl
      refine x_iload_n rfl xst_eq ?_
      refine x_bipush rfl (by decide) ?_
      refine x_cge (t := 259) rfl rfl (by decide) (by decide) (fun h => absurd h (by decide)) (fun _ => ?_)
      refine x_iload_n rfl (xst_ne (by decide) l2b (Or.inl rfl)) ?_
      refine x_iconst rfl ?_
      refine x_ceq (t := 259) rfl rfl (by decide) (by decide) (fun _ => ?_) (fun h => absurd rfl h)
      refine x_iload_n rfl (xst_ne (by decide) l2b (Or.inl rfl)) ?_
      exact x_ireturn rfl (Or.inl rfl) ⟨_, _, rfl, rfl, by unfold sclash; rw [if_pos hl], rfl⟩
    · have l2b : zlv lv 2 = some (xi (skd r r2 0)) := by rw [l2, show sany (fun d => r2 d == -1) 8 = false from bool_f hl]; rfl
      rw [← skd_64 (r := r) (bool_f hl)]
      exact xs_121m hmo hmc hr (sML_next hr hat hn ham hmv (bool_f hl)) 64 0 _ rfl (xst_ne (by decide) l0 (Or.inl rfl)) (xst_ne (by decide) l1 (Or.inl rfl)) (xst_ne (by decide) l2b (Or.inl rfl)) xst_eq
  | succ w ih =>
    intro d lv hk l0 l1 l2 l3
    have hd : d < 8 := by omega
    have pok := (hr.2.2 d hd).2
    obtain ⟨e1, e2, e3⟩ := hn d hd
    have rx := mvx_rg (a := am d) pok
    have ry := mvy_rg (a := am d) pok
    have hxy := smv_xy pok (ham d hd)
    rw [← hmv d hd] at hxy
    have hin : ¬ r2 d = -1 → (0 ≤ mvx (r d) (am d) ∧ mvx (r d) (am d) ≤ 9) ∧ 0 ≤ mvy (r d) (am d) ∧ mvy (r d) (am d) ≤ 9 := by
      intro h
      rcases hxy with ⟨-, w1, w2, -⟩ | ⟨h2, -⟩
      · have hok : sok (r2 d) := by
          rcases smv_ok (a := am d) pok with h3 | h3
          · rw [← hmv d hd] at h3; exact absurd h3 h
          · rw [← hmv d hd] at h3; exact h3
        rw [w1, w2]
        exact ⟨sX_rg hok, sY_rg hok⟩
      · exact absurd h2 h
    have T : ∀ (lv : zL), zlv lv 0 = some (.ref 177) → zlv lv 1 = some (xi at') → zlv lv 3 = some (xi (at' + 8 + (d : Nat))) → xz v0 xs u (fun o X => ∃ r' f', o = .inl r' ∧ X = (xh f', u) ∧ (fun r' f' => r' = some (xi (sclash r r2)) ∧ f' = f) r' f') 121 60 lv [xi (if sany (fun d => r2 d == -1) (d + 1) = true then 1 else 0)] f := by
      intro lv l0 l1 l3
      refine x_istore_n rfl (show (2 : Nat) < 9 from by decide) ?_
      refine x_iinc rfl (xst_ne (by decide) l3 (Or.inl rfl)) (show (3 : Nat) < 9 from by decide) ?_
      refine x_goto (t := 7) rfl rfl ?_
      exact ih (d + 1) _ (by omega) (xst_ne (by decide) (xst_ne (by decide) l0 (Or.inl rfl)) (Or.inl rfl)) (xst_ne (by decide) (xst_ne (by decide) l1 (Or.inl rfl)) (Or.inl rfl)) (xst_ne (by decide) xst_eq (Or.inl rfl)) (by rw [show at' + 8 + ((d + 1 : Nat) : Int) = at' + 8 + (d : Nat) + 1 from by omega]; exact xst_eq)
    have T1 : r2 d = -1 → ∀ (lv : zL), zlv lv 0 = some (.ref 177) → zlv lv 1 = some (xi at') → zlv lv 3 = some (xi (at' + 8 + (d : Nat))) → xz v0 xs u (fun o X => ∃ r' f', o = .inl r' ∧ X = (xh f', u) ∧ (fun r' f' => r' = some (xi (sclash r r2)) ∧ f' = f) r' f') 121 55 lv [] f := by
      intro h9 lv l0 l1 l3
      refine x_iconst rfl ?_
      refine x_goto (t := 60) rfl rfl ?_
      have e : (1 : Int) = if sany (fun d => r2 d == -1) (d + 1) = true then 1 else 0 := by rw [if_pos (sany_t (P := fun d => r2 d == -1) (j := d) (by omega) (beq_iff_eq.mpr h9))]
      rw [e]
      exact T _ l0 l1 l3
    refine x_iload_n rfl l3 ?_
    refine x_iload_n rfl l1 ?_
    refine x_bipush rfl (by decide) ?_
    refine x_iadd rfl ?_
    refine x_cge (t := 67) rfl rfl ⟨by omega, by omega⟩ ⟨by omega, by omega⟩ (fun h => absurd h (by omega)) (fun _ => ?_)
    refine x_aload_n rfl l0 ?_
    refine x_getfield rfl (by decide) h177 h25 ?_
    refine x_iload_n rfl l3 ?_
    refine x_iaload rfl (by decide) h192 ⟨by omega, by omega⟩ (by omega) ?_
    rw [e1]
    refine x_iflt (t := 55) rfl rfl ⟨by omega, by omega⟩ (fun h1 => ?_) (fun h1 => ?_)
    · exact T1 (Classical.byContradiction fun h => by have := hin h; omega) _ l0 l1 l3
    refine x_aload_n rfl l0 ?_
    refine x_getfield rfl (by decide) h177 h25 ?_
    refine x_iload_n rfl l3 ?_
    refine x_iaload rfl (by decide) h192 ⟨by omega, by omega⟩ (by omega) ?_
    rw [e1]
    refine x_bipush rfl (by decide) ?_
    refine x_cgt (t := 55) rfl rfl ⟨by omega, by omega⟩ (by decide) (fun h2 => ?_) (fun h2 => ?_)
    · exact T1 (Classical.byContradiction fun h => by have := hin h; omega) _ l0 l1 l3
    refine x_aload_n rfl l0 ?_
    refine x_getfield rfl (by decide) h177 h26 ?_
    refine x_iload_n rfl l3 ?_
    refine x_iaload rfl (by decide) h193 ⟨by omega, by omega⟩ (by omega) ?_
    rw [e2]
    refine x_iflt (t := 55) rfl rfl ⟨by omega, by omega⟩ (fun h3 => ?_) (fun h3 => ?_)
    · exact T1 (Classical.byContradiction fun h => by have := hin h; omega) _ l0 l1 l3
    refine x_aload_n rfl l0 ?_
    refine x_getfield rfl (by decide) h177 h26 ?_
    refine x_iload_n rfl l3 ?_
    refine x_iaload rfl (by decide) h193 ⟨by omega, by omega⟩ (by omega) ?_
    rw [e2]
    refine x_bipush rfl (by decide) ?_
    refine x_cle (t := 59) rfl rfl ⟨by omega, by omega⟩ (by decide) (fun h4 => ?_) (fun h4 => ?_)
    rotate_left
    · exact T1 (Classical.byContradiction fun h => by have := hin h; omega) _ l0 l1 l3
    refine x_iload_n rfl l2 ?_
    have h9 : ¬ r2 d = -1 := by
      rcases hxy with ⟨h, -⟩ | ⟨-, h⟩
      · exact h
      · omega
    have e : (sany (fun d => r2 d == -1) (d + 1)) = sany (fun d => r2 d == -1) d := by
      simp only [sany]
      rw [beq_eq_false_iff_ne.mpr h9, Bool.or_false]
    rw [← e]
    exact T _ l0 l1 l3
theorem xs_121 {v0 : Value} {xs : List Int32} {u : Nat × Nat} {f : Nat → zE} {fs : List Value} {ax ay af : List Int} {at' : Int} {r r2 am : Nat → Int} (hmo : sMO f fs) (hmc : sMC f ax ay af) (hr : sML ax ay af at' r) (hat : at' + 16 ≤ 144) (hn : ∀ d, d < 8 → ax.getD (at' + 8 + (d : Nat)).toNat 0 = mvx (r d) (am d) ∧ ay.getD (at' + 8 + (d : Nat)).toNat 0 = mvy (r d) (am d) ∧ af.getD (at' + 8 + (d : Nat)).toNat 0 = mvf (r d) (am d)) (ham : ∀ d, d < 8 → 0 ≤ am d ∧ am d ≤ 6) (hmv : ∀ d, d < 8 → r2 d = smv (r d) (am d)) : xq v0 xs u 121 [(0, .ref 177), (1, xi at')] f (fun r' f' => r' = some (xi (sclash r r2)) ∧ f' = f) := by
  unfold xq
  refine x_iconst rfl ?_
  refine x_istore_n rfl (show (2 : Nat) < 9 from by decide) ?_
  refine x_iload_n rfl (xst_ne (by decide) rfl (Or.inl rfl)) ?_
  refine x_bipush rfl (by decide) ?_
  refine x_iadd rfl ?_
  refine x_istore_n rfl (show (3 : Nat) < 9 from by decide) ?_
  exact xs_121l hmo hmc hr hat hn ham hmv 8 0 _ rfl (xst_ne (by decide) (xst_ne (by decide) rfl (Or.inl rfl)) (Or.inl rfl)) (xst_ne (by decide) (xst_ne (by decide) rfl (Or.inl rfl)) (Or.inl rfl)) (xst_ne (by decide) xst_eq (Or.inl rfl)) (by rw [show at' + 8 + ((0 : Nat) : Int) = at' + 8 from by omega]; exact xst_eq)
end
section
/-! The model's run: 122. -/
/-- the parts from F on are L, as the model keeps them -/
def sPM (f : Nat → zE) (F : Int) (L : List (Int × Int)) : Prop := ∃ se at' : List Int, f 185 = xr 0 se ∧ f 186 = xr 0 at' ∧ se.length = 224 ∧ at'.length = 224 ∧ 0 ≤ F ∧ F + (L.length : Nat) ≤ 224 ∧ ∀ k, k < L.length → (se.getD (F + (k : Nat)).toNat 0 = (L.getD k (0, 0)).1 ∧ at'.getD (F + (k : Nat)).toNat 0 = (L.getD k (0, 0)).2) ∧ (0 ≤ (L.getD k (0, 0)).1 ∧ (L.getD k (0, 0)).1 ≤ 12) ∧ 0 ≤ (L.getD k (0, 0)).2 ∧ (L.getD k (0, 0)).2 ≤ 6
/-- a kept call of the model -/
def sKM (f : Nat → zE) (K : List (Int × Int)) (c : Nat) (G : List xBt) : Prop := c < 12 ∧ ∃ cn tk pf pq se at' : List Int, f 180 = xr 0 cn ∧ f 182 = xr 0 tk ∧ f 183 = xr 0 pf ∧ f 184 = xr 0 pq ∧ f 185 = xr 0 se ∧ f 186 = xr 0 at' ∧ (cn.length = 13 ∧ tk.length = 208 ∧ pf.length = 208 ∧ pq.length = 208 ∧ se.length = 224 ∧ at'.length = 224) ∧ cn.getD c 0 = (G.length : Nat) ∧ (∀ j, j < G.length → (pf.getD (16 * c + j) 0, pq.getD (16 * c + j) 0, tk.getD (16 * c + j) 0) = G.getD j (0, 0, 0)) ∧ K.length ≤ 224 ∧ ∀ k, k < K.length → (se.getD k 0, at'.getD k 0) = K.getD k (0, 0) ∧ (0 ≤ (K.getD k (0, 0)).1 ∧ (K.getD k (0, 0)).1 ≤ 12) ∧ 0 ≤ (K.getD k (0, 0)).2 ∧ (K.getD k (0, 0)).2 ≤ 6
theorem sprt_at {K : List (Int × Int)} {b : xBt} (h : 0 ≤ b.1 ∧ b.1 ≤ b.2.1 ∧ b.2.1 ≤ (K.length : Nat)) {k : Nat} (hk : k < (sprt K b).length) : (sprt K b).getD k (0, 0) = K.getD (b.1 + (k : Nat)).toNat (0, 0) ∧ (b.1 + (k : Nat)).toNat < K.length := by
  have hl := sprt_len h
  have e : (b.1 + ((k : Nat) : Int)).toNat = b.1.toNat + k := by omega
  refine ⟨?_, by omega⟩
  rw [e]
  unfold sprt
  rw [List.getD_eq_getElem?_getD, List.getElem?_take, if_pos (by omega), List.getElem?_drop, ← List.getD_eq_getElem?_getD]
theorem sKM_PM {f : Nat → zE} {K : List (Int × Int)} {c : Nat} {G : List xBt} {b : xBt} (h : sKM f K c G) (hb : 0 ≤ b.1 ∧ b.1 ≤ b.2.1 ∧ b.2.1 ≤ (K.length : Nat)) : sPM f b.1 (sprt K b) := by
  obtain ⟨-, cn, tk, pf, pq, se, at', -, -, -, -, h5, h6, ⟨-, -, -, -, e5, e6⟩, -, -, hK, hk⟩ := h
  have hl := sprt_len hb
  refine ⟨se, at', h5, h6, e5, e6, hb.1, by omega, fun k hk2 => ?_⟩
  obtain ⟨w1, w2⟩ := sprt_at hb hk2
  obtain ⟨v1, v2, v3⟩ := hk _ w2
  rw [w1]
  exact ⟨⟨congrArg Prod.fst v1, congrArg Prod.snd v1⟩, v2, v3⟩
def sNX (ax ay af : List Int) (at' : Int) (r am : Nat → Int) (n : Nat) : Prop := ∀ e, e < n → ax.getD (at' + 8 + (e : Nat)).toNat 0 = mvx (r e) (am e) ∧ ay.getD (at' + 8 + (e : Nat)).toNat 0 = mvy (r e) (am e) ∧ af.getD (at' + 8 + (e : Nat)).toNat 0 = mvf (r e) (am e)
/-- the rows up to beat i, and the next one as far as it is made -/
def sQR (f : Nat → zE) (bt : List sB) (back : Bool) (r0 : Nat → Int) (i : Nat) (am : Nat → Int) (n : Nat) : Prop := ∃ ax ay af : List Int, sMC f ax ay af ∧ (∀ j : Nat, j ≤ i → sML ax ay af (8 * (j : Nat)) (srow bt back r0 j)) ∧ sNX ax ay af (8 * (i : Nat)) (srow bt back r0 i) am n
theorem sQR_c {f : Nat → zE} {bt : List sB} {back : Bool} {r0 : Nat → Int} {i n : Nat} {am am' : Nat → Int} (h : sQR f bt back r0 i am n) (e : ∀ d, d < n → am d = am' d) : sQR f bt back r0 i am' n := by
  obtain ⟨ax, ay, af, h1, h2, h3⟩ := h
  exact ⟨ax, ay, af, h1, h2, fun d hd => by rw [← e d hd]; exact h3 d hd⟩
theorem sQR_mv {f f' : Nat → zE} {bt : List sB} {back : Bool} {r0 : Nat → Int} {i n : Nat} {am : Nat → Int} (h : sQR f bt back r0 i am n) (e : ∀ q, q ≠ 177 → f' q = f q) : sQR f' bt back r0 i am n := by
  obtain ⟨ax, ay, af, ⟨h1, h2, h3, h4⟩, h5⟩ := h
  exact ⟨ax, ay, af, ⟨(e _ (by decide)).trans h1, (e _ (by decide)).trans h2, (e _ (by decide)).trans h3, h4⟩, h5⟩
theorem sML_set {ax ay af : List Int} {at' : Int} {r : Nat → Int} {k : Nat} {x y z : Int} (h : sML ax ay af at' r) (hk : at' + 8 ≤ (k : Nat)) : sML (ax.set k x) (ay.set k y) (af.set k z) at' r := by
  obtain ⟨h0, h1, h2⟩ := h
  refine ⟨h0, h1, fun d hd => ⟨?_, (h2 d hd).2⟩⟩
  obtain ⟨e1, e2, e3⟩ := (h2 d hd).1
  refine ⟨?_, ?_, ?_⟩
  · rw [x_gset, if_neg (by omega)]; exact e1
  · rw [x_gset, if_neg (by omega)]; exact e2
  · rw [x_gset, if_neg (by omega)]; exact e3
theorem xs_113s {v0 : Value} {xs : List Int32} {u : Nat × Nat} {f : Nat → zE} {fs : List Value} {bt : List sB} {back : Bool} {r0 am : Nat → Int} {i n d : Nat} {a : Int} (hmo : sMO f fs) (hq : sQR f bt back r0 i am n) (hi : i ≤ 15) (hd : d < 8) (hn : n ≤ d + 1 ∨ n = 8) (hn2 : d ≤ n) (ha : 0 ≤ a ∧ a ≤ 6) : xq v0 xs u 113 [(0, .ref 177), (1, xi (8 * (i : Nat))), (2, xi (d : Nat)), (3, xi a)] f (fun r' f' => r' = none ∧ sQR f' bt back r0 i (fun e => if e = d then a else am e) (max n (d + 1)) ∧ ∀ q, q ≠ 192 → q ≠ 193 → q ≠ 194 → f' q = f q) := by
  obtain ⟨ax, ay, af, hmc, hrow, hnx⟩ := hq
  have hmc2 := hmc
  obtain ⟨-, -, -, hx, hy, hf⟩ := hmc2
  refine xq_mono (xs_113 (p := srow bt back r0 i d) hmo hmc ⟨by omega, by omega⟩ hd ((hrow i (Nat.le_refl _)).2.2 d hd).1 ha) ?_
  rintro r' f' ⟨e1, e2, e3⟩
  refine ⟨e1, ⟨_, _, _, e2, fun j hj => sML_set (hrow j hj) (by omega), fun e he => ?_⟩, e3⟩
  dsimp only
  by_cases h : e = d
  · subst h
    rw [if_pos rfl, x_gset, if_pos ⟨rfl, by omega⟩, x_gset, if_pos ⟨rfl, by omega⟩, x_gset, if_pos ⟨rfl, by omega⟩]
    exact ⟨rfl, rfl, rfl⟩
  · rw [if_neg h, x_gset, if_neg (by omega), x_gset, if_neg (by omega), x_gset, if_neg (by omega)]
    exact hnx e (by omega)
theorem sexch_rg {a : Int} (h : 0 ≤ a ∧ a ≤ 6) : 0 ≤ sexch a ∧ sexch a ≤ 6 := by
  unfold sexch
  split
  · decide
  · split <;> omega
theorem sat_rg {r : Nat → Int} {d : Nat} : ∀ {L : List (Int × Int)}, (∀ k, k < L.length → 0 ≤ (L.getD k (0, 0)).2 ∧ (L.getD k (0, 0)).2 ≤ 6) → 0 ≤ sat r L d ∧ sat r L d ≤ 6 := by
  intro L
  induction L with
  | nil =>
    intro _
    show 0 ≤ (0 : Int) ∧ (0 : Int) ≤ 6
    decide
  | cons q l ih =>
    intro h
    simp only [sat]
    split
    · exact h 0 (by simp)
    · exact ih fun k hk => h (k + 1) (by simpa using hk)
/-- the atoms told by the first k parts -/
def samk (back : Bool) (rl : Nat → Int) (L : List (Int × Int)) (k e : Nat) : Int := if back = true then sexch (sat rl (L.take k) e) else sat rl (L.take k) e
theorem samk_0 (back : Bool) (rl : Nat → Int) (L : List (Int × Int)) (e : Nat) : samk back rl L 0 e = 0 := by
  unfold samk
  rw [List.take_zero]
  cases back <;> rfl
theorem samk_s {back : Bool} {rl : Nat → Int} {L : List (Int × Int)} {k : Nat} (hk : k < L.length) (e : Nat) : samk back rl L (k + 1) e = if (shas (L.getD k (0, 0)).1 rl e && sfree rl (L.take k) e) = true then (if back = true then sexch (L.getD k (0, 0)).2 else (L.getD k (0, 0)).2) else samk back rl L k e := by
  unfold samk
  rw [stake_s hk, sat_app]
  by_cases h : (shas (L.getD k (0, 0)).1 rl e && sfree rl (L.take k) e) = true
  · have h2 := Bool.and_eq_true_iff.mp h
    have h3 : sfree rl (L.take k) e = true ∧ shas (L.getD k (0, 0)).1 rl e = true := ⟨h2.2, h2.1⟩
    rw [if_pos h, if_pos h3]
  · have h3 : ¬ (sfree rl (L.take k) e = true ∧ shas (L.getD k (0, 0)).1 rl e = true) := fun h3 => h (by rw [h3.1, h3.2]; rfl)
    rw [if_neg h, if_neg h3]
theorem smask_s (rl : Nat → Int) {L : List (Int × Int)} {k : Nat} (hk : k < L.length) : smk (fun d => sfree rl (L.take k) d && !(shas (L.getD k (0, 0)).1 rl d && sfree rl (L.take k) d)) 8 = smk (sfree rl (L.take (k + 1))) 8 := by
  refine smk_congr 8 fun d _ => ?_
  rw [stake_s hk, sfree_app]
  cases sfree rl (L.take k) d <;> cases shas (L.getD k (0, 0)).1 rl d <;> rfl
theorem xs_122c {v0 : Value} {xs : List Int32} {u : Nat × Nat} {Q : zO → zX → Prop} {f0 : Nat → zE} {fs : List Value} {bt : List sB} {back : Bool} {r0 : Nat → Int} {i : Nat} {c k : Nat} {ow lk fm F : Int} {L : List (Int × Int)} {P : Nat → Bool} {am : Nat → Int} (hmo : sMO f0 fs) (hP : sPM f0 F L) (hk : k < L.length) (hi : i ≤ 15)
    (hkk : ∀ (lv : zL) (f : Nat → zE), zlv lv 0 = some (.ref 177) → zlv lv 1 = some (xi (c : Nat)) → zlv lv 2 = some (xi (if back = true then 1 else 0)) → zlv lv 3 = some (xi (i : Nat)) → zlv lv 4 = some (xi ow) → zlv lv 5 = some (xi lk) → zlv lv 6 = some (xi fm) → zlv lv 7 = some (xi (F + (k : Nat))) → zlv lv 8 = some (xi (smk P 8)) → sQR f bt back r0 i (fun e => if P e = true then (if back = true then sexch (L.getD k (0, 0)).2 else (L.getD k (0, 0)).2) else am e) 8 → (∀ q, q ≠ 192 → q ≠ 193 → q ≠ 194 → f q = f0 q) → xz v0 xs u Q 122 189 lv [] f) : ∀ (j d : Nat) (lv : zL) (f : Nat → zE), j + d = 8 → zlv lv 0 = some (.ref 177) → zlv lv 1 = some (xi (c : Nat)) → zlv lv 2 = some (xi (if back = true then 1 else 0)) → zlv lv 3 = some (xi (i : Nat)) → zlv lv 4 = some (xi ow) → zlv lv 5 = some (xi lk) → zlv lv 6 = some (xi fm) → zlv lv 7 = some (xi (F + (k : Nat))) → zlv lv 8 = some (xi (smk P 8)) → zlv lv 9 = some (xi (d : Nat)) → sQR f bt back r0 i (fun e => if e < d ∧ P e = true then (if back = true then sexch (L.getD k (0, 0)).2 else (L.getD k (0, 0)).2) else am e) 8 → (∀ q, q ≠ 192 → q ≠ 193 → q ≠ 194 → f q = f0 q) → xz v0 xs u Q 122 131 lv [] f := by
  have hmo0 := hmo
  obtain ⟨h177, hfl, ⟨f11, f13, f14, f15, f17, f18⟩, h25, h26, h27⟩ := hmo
  obtain ⟨se, at', h185, h186, e1, e2, hF0, hF1, hL⟩ := hP
  obtain ⟨⟨b1, b2⟩, b3, b4⟩ := hL k hk
  intro j
  induction j with
  | zero =>
    intro d lv f hj l0 l1 l2 l3 l4 l5 l6 l7 l8 l9 hq hfr
    have e8 : d = 8 := by omega
    subst e8
    refine x_iload rfl l9 ?_
    refine x_bipush rfl (by decide) ?_
    refine x_cge (t := 189) rfl rfl (by decide) (by decide) (fun _ => ?_) (fun h => absurd h (by decide))
    exact hkk lv f l0 l1 l2 l3 l4 l5 l6 l7 l8 (sQR_c hq fun d hd => by simp only [hd, true_and]) hfr
  | succ j ih =>
    intro d lv f hj l0 l1 l2 l3 l4 l5 l6 l7 l8 l9 hq hfr
    have hd : d < 8 := by omega
    have hmo2 : sMO f fs := ⟨(hfr 177 (by decide) (by decide) (by decide)).trans h177, hmo0.2⟩
    refine x_iload rfl l9 ?_
    refine x_bipush rfl (by decide) ?_
    refine x_cge (t := 189) rfl rfl ⟨by omega, by omega⟩ (by decide) (fun h => absurd h (by omega)) (fun _ => ?_)
    refine x_iload rfl l8 ?_
    refine x_iload rfl l9 ?_
    refine x_ishr rfl ?_
    refine x_iconst rfl ?_
    refine x_iandg2 rfl (sm_bit P hd) ?_
    refine x_iconst rfl ?_
    by_cases h : P d = true
    · rw [if_pos h]
      refine x_cne (t := 183) rfl rfl (by decide) (by decide) (fun h => absurd rfl h) (fun _ => ?_)
      refine x_aload_n rfl l0 ?_
      refine x_bipush rfl (by decide) ?_
      refine x_iload_n rfl l3 ?_
      refine x_imul rfl ?_
      refine x_iload rfl l9 ?_
      refine x_iload_n rfl l2 ?_
      have T : xz v0 xs u Q 122 180 lv [xi (if back = true then sexch (L.getD k (0, 0)).2 else (L.getD k (0, 0)).2), xi (d : Nat), xi (8 * (i : Nat)), .ref 177] f := by
        refine x_call [_, _, _, _] rfl rfl (show (0 : Nat) ≤ 8 from by decide) (show (4 : Nat) ≤ 7 from by decide) (x_rcv (by decide) ((hfr 177 (by decide) (by decide) (by decide)).trans h177)) (xs_113s hmo2 hq hi hd (Or.inr rfl) (by omega) (by split; exact sexch_rg b4; exact b4)) ?_
        intro r' f1 hP
        obtain ⟨rfl, hq2, hfr2⟩ := hP
        rw [show max 8 (d + 1) = 8 from by omega] at hq2
        refine x_iinc rfl l9 (show (9 : Nat) < 10 from by decide) ?_
        refine x_goto (t := 131) rfl rfl ?_
        refine ih (d + 1) _ _ (by omega) (xst_ne (by decide) l0 (Or.inl rfl)) (xst_ne (by decide) l1 (Or.inl rfl)) (xst_ne (by decide) l2 (Or.inl rfl)) (xst_ne (by decide) l3 (Or.inl rfl)) (xst_ne (by decide) l4 (Or.inl rfl)) (xst_ne (by decide) l5 (Or.inl rfl)) (xst_ne (by decide) l6 (Or.inl rfl)) (xst_ne (by decide) l7 (Or.inl rfl)) (xst_ne (by decide) l8 (Or.inl rfl)) xst_eq (sQR_c (show sQR f1 bt back r0 i _ 8 from hq2) fun e he => ?_) (fun q a1 a2 a3 => (hfr2 q a1 a2 a3).trans (hfr q a1 a2 a3))
        by_cases he2 : e = d
        · subst he2
          have h7 : e < e + 1 ∧ P e = true := ⟨by omega, h⟩
          rw [if_pos rfl, if_pos h7]
        · rw [if_neg he2]
          by_cases h5 : e < d ∧ P e = true
          · have h7 : e < d + 1 ∧ P e = true := ⟨by omega, h5.2⟩
            rw [if_pos h5, if_pos h7]
          · have h7 : ¬ (e < d + 1 ∧ P e = true) := fun h6 => h5 ⟨by omega, h6.2⟩
            rw [if_neg h5, if_neg h7]
      cases hbk : back with
      | false =>
        rw [hbk] at T
        refine x_ifeq (t := 173) rfl rfl (by decide) (fun _ => ?_) (fun h => absurd rfl h)
        refine x_aload_n rfl l0 ?_
        refine x_getfield rfl (by decide) ((hfr 177 (by decide) (by decide) (by decide)).trans h177) f18 ?_
        refine x_iload rfl l7 ?_
        refine x_iaload rfl (by decide) ((hfr 186 (by decide) (by decide) (by decide)).trans h186) ⟨by omega, by omega⟩ (by omega) ?_
        rw [b2]
        exact T
      | true =>
        rw [hbk] at T
        refine x_ifeq (t := 173) rfl rfl (by decide) (fun h => absurd h (by decide)) (fun _ => ?_)
        refine x_aload_n rfl l0 ?_
        refine x_getfield rfl (by decide) ((hfr 177 (by decide) (by decide) (by decide)).trans h177) f18 ?_
        refine x_iload rfl l7 ?_
        refine x_iaload rfl (by decide) ((hfr 186 (by decide) (by decide) (by decide)).trans h186) ⟨by omega, by omega⟩ (by omega) ?_
        rw [b2]
        refine x_call [_] rfl rfl (show (3 : Nat) ≤ 8 from by decide) (show (1 : Nat) ≤ 1 from by decide) rfl (xs_118 b4) ?_
        intro r' f1 hP
        obtain ⟨rfl, rfl⟩ := hP
        refine x_goto (t := 180) rfl rfl ?_
        exact T
    · rw [if_neg h]
      refine x_cne (t := 183) rfl rfl (by decide) (by decide) (fun _ => ?_) (fun h => absurd h (by decide))
      refine x_iinc rfl l9 (show (9 : Nat) < 10 from by decide) ?_
      refine x_goto (t := 131) rfl rfl ?_
      refine ih (d + 1) _ _ (by omega) (xst_ne (by decide) l0 (Or.inl rfl)) (xst_ne (by decide) l1 (Or.inl rfl)) (xst_ne (by decide) l2 (Or.inl rfl)) (xst_ne (by decide) l3 (Or.inl rfl)) (xst_ne (by decide) l4 (Or.inl rfl)) (xst_ne (by decide) l5 (Or.inl rfl)) (xst_ne (by decide) l6 (Or.inl rfl)) (xst_ne (by decide) l7 (Or.inl rfl)) (xst_ne (by decide) l8 (Or.inl rfl)) xst_eq (sQR_c hq fun e he => ?_) hfr
      by_cases h5 : e < d ∧ P e = true
      · have h7 : e < d + 1 ∧ P e = true := ⟨by omega, h5.2⟩
        rw [if_pos h5, if_pos h7]
      · have h7 : ¬ (e < d + 1 ∧ P e = true) := fun h6 => by
          by_cases he2 : e = d
          · subst he2; exact h h6.2
          · exact h5 ⟨by omega, h6.2⟩
        rw [if_neg h5, if_neg h7]
theorem xs_122b {v0 : Value} {xs : List Int32} {u : Nat × Nat} {Q : zO → zX → Prop} {f0 : Nat → zE} {fs : List Value} {bt : List sB} {back : Bool} {r0 : Nat → Int} {i : Nat} {c : Nat} {ow tk F : Int} {L : List (Int × Int)} {rl : Nat → Int} {pq : List Int} (hmo : sMO f0 fs) (hP : sPM f0 F L) (hi : i ≤ 15) (htk : 0 ≤ tk ∧ tk ≤ (i : Nat)) (hrl : rl = srow bt back r0 tk.toNat) (h184 : f0 184 = xr 0 pq) (hpq : pq.length = 208) (how : 0 ≤ ow ∧ ow < 208) (hE : pq.getD ow.toNat 0 = F + (L.length : Nat))
    (hkk : ∀ (lv : zL) (f : Nat → zE), zlv lv 0 = some (.ref 177) → zlv lv 1 = some (xi (c : Nat)) → zlv lv 2 = some (xi (if back = true then 1 else 0)) → zlv lv 3 = some (xi (i : Nat)) → zlv lv 4 = some (xi ow) → zlv lv 5 = some (xi (8 * tk)) → sQR f bt back r0 i (samk back rl L L.length) 8 → (∀ q, q ≠ 192 → q ≠ 193 → q ≠ 194 → f q = f0 q) → xz v0 xs u Q 122 204 lv [] f) : ∀ (w k : Nat) (lv : zL) (f : Nat → zE), w + k = L.length → zlv lv 0 = some (.ref 177) → zlv lv 1 = some (xi (c : Nat)) → zlv lv 2 = some (xi (if back = true then 1 else 0)) → zlv lv 3 = some (xi (i : Nat)) → zlv lv 4 = some (xi ow) → zlv lv 5 = some (xi (8 * tk)) → zlv lv 6 = some (xi (smk (sfree rl (L.take k)) 8)) → zlv lv 7 = some (xi (F + (k : Nat))) → sQR f bt back r0 i (samk back rl L k) 8 → (∀ q, q ≠ 192 → q ≠ 193 → q ≠ 194 → f q = f0 q) → xz v0 xs u Q 122 98 lv [] f := by
  have hmo0 := hmo
  have hP0 := hP
  obtain ⟨h177, hfl, ⟨f11, f13, f14, f15, f17, f18⟩, h25, h26, h27⟩ := hmo
  obtain ⟨se, at', h185, h186, e1, e2, hF0, hF1, hL⟩ := hP
  intro w
  induction w with
  | zero =>
    intro k lv f hw l0 l1 l2 l3 l4 l5 l6 l7 hq hfr
    have e8 : k = L.length := by omega
    subst e8
    refine x_iload rfl l7 ?_
    refine x_aload_n rfl l0 ?_
    refine x_getfield rfl (by decide) ((hfr 177 (by decide) (by decide) (by decide)).trans h177) f15 ?_
    refine x_iload rfl l4 ?_
    refine x_iaload rfl (by decide) ((hfr 184 (by decide) (by decide) (by decide)).trans h184) ⟨by omega, by omega⟩ (by omega) ?_
    rw [hE]
    refine x_cge (t := 204) rfl rfl ⟨by omega, by omega⟩ ⟨by omega, by omega⟩ (fun _ => ?_) (fun h => absurd h (by omega))
    exact hkk lv f l0 l1 l2 l3 l4 l5 hq hfr
  | succ w ih =>
    intro k lv f hw l0 l1 l2 l3 l4 l5 l6 l7 hq hfr
    have hk : k < L.length := by omega
    obtain ⟨⟨b1, b2⟩, b3, b4⟩ := hL k hk
    have hmo2 : sMO f fs := ⟨(hfr 177 (by decide) (by decide) (by decide)).trans h177, hmo0.2⟩
    have hrw : ∃ ax ay af : List Int, sMC f ax ay af ∧ sML ax ay af (8 * tk) rl := by
      obtain ⟨ax, ay, af, g1, g2, -⟩ := hq
      refine ⟨ax, ay, af, g1, ?_⟩
      have := g2 tk.toNat (by omega)
      rw [show ((tk.toNat : Nat) : Int) = tk from by omega, ← hrl] at this
      exact this
    obtain ⟨ax, ay, af, hmc, hml⟩ := hrw
    refine x_iload rfl l7 ?_
    refine x_aload_n rfl l0 ?_
    refine x_getfield rfl (by decide) ((hfr 177 (by decide) (by decide) (by decide)).trans h177) f15 ?_
    refine x_iload rfl l4 ?_
    refine x_iaload rfl (by decide) ((hfr 184 (by decide) (by decide) (by decide)).trans h184) ⟨by omega, by omega⟩ (by omega) ?_
    rw [hE]
    refine x_cge (t := 204) rfl rfl ⟨by omega, by omega⟩ ⟨by omega, by omega⟩ (fun h => absurd h (by omega)) (fun _ => ?_)
    refine x_aload_n rfl l0 ?_
    refine x_aload_n rfl l0 ?_
    refine x_getfield rfl (by decide) ((hfr 177 (by decide) (by decide) (by decide)).trans h177) f17 ?_
    refine x_iload rfl l7 ?_
    refine x_iaload rfl (by decide) ((hfr 185 (by decide) (by decide) (by decide)).trans h185) ⟨by omega, by omega⟩ (by omega) ?_
    rw [b1]
    refine x_iload rfl l5 ?_
    refine x_call [_, _, _] rfl rfl (show (0 : Nat) ≤ 8 from by decide) (show (3 : Nat) ≤ 5 from by decide) (x_rcv (by decide) ((hfr 177 (by decide) (by decide) (by decide)).trans h177)) (xs_117 hmo2 hmc hml b3) ?_
    intro r' f1 hP
    obtain ⟨rfl, rfl⟩ := hP
    refine x_iload rfl l6 ?_
    refine x_iandg2 rfl (sm_and _ _) ?_
    refine x_istore rfl (show (8 : Nat) < 10 from by decide) ?_
    refine x_iconst rfl ?_
    refine x_istore rfl (show (9 : Nat) < 10 from by decide) ?_
    refine xs_122c (L := L) (k := k) (F := F) (am := samk back rl L k) (P := fun d => shas (L.getD k (0, 0)).1 rl d && sfree rl (L.take k) d) hmo0 hP0 hk hi (fun lv2 f2 m0 m1 m2 m3 m4 m5 m6 m7 m8 hq2 hfr2 => ?_) 8 0 _ _ rfl (xst_ne (by decide) (xst_ne (by decide) l0 (Or.inl rfl)) (Or.inl rfl)) (xst_ne (by decide) (xst_ne (by decide) l1 (Or.inl rfl)) (Or.inl rfl)) (xst_ne (by decide) (xst_ne (by decide) l2 (Or.inl rfl)) (Or.inl rfl)) (xst_ne (by decide) (xst_ne (by decide) l3 (Or.inl rfl)) (Or.inl rfl)) (xst_ne (by decide) (xst_ne (by decide) l4 (Or.inl rfl)) (Or.inl rfl)) (xst_ne (by decide) (xst_ne (by decide) l5 (Or.inl rfl)) (Or.inl rfl)) (xst_ne (by decide) (xst_ne (by decide) l6 (Or.inl rfl)) (Or.inl rfl)) (xst_ne (by decide) (xst_ne (by decide) l7 (Or.inl rfl)) (Or.inl rfl)) (xst_ne (by decide) xst_eq (Or.inl rfl)) xst_eq (sQR_c hq fun e he => by rw [if_neg (fun h => absurd h.1 (Nat.not_lt_zero _))]) hfr
    refine x_iload rfl m6 ?_
    refine x_iload rfl m8 ?_
    refine x_iconst rfl ?_
    refine x_ixorg rfl rfl ?_
    refine x_iandg2 rfl (sm_not _ _) ?_
    refine x_istore rfl (show (6 : Nat) < 10 from by decide) ?_
    refine x_iinc rfl (xst_ne (by decide) m7 (Or.inl rfl)) (show (7 : Nat) < 10 from by decide) ?_
    refine x_goto (t := 98) rfl rfl ?_
    refine ih (k + 1) _ _ (by omega) (xst_ne (by decide) (xst_ne (by decide) m0 (Or.inl rfl)) (Or.inl rfl)) (xst_ne (by decide) (xst_ne (by decide) m1 (Or.inl rfl)) (Or.inl rfl)) (xst_ne (by decide) (xst_ne (by decide) m2 (Or.inl rfl)) (Or.inl rfl)) (xst_ne (by decide) (xst_ne (by decide) m3 (Or.inl rfl)) (Or.inl rfl)) (xst_ne (by decide) (xst_ne (by decide) m4 (Or.inl rfl)) (Or.inl rfl)) (xst_ne (by decide) (xst_ne (by decide) m5 (Or.inl rfl)) (Or.inl rfl)) (by rw [← smask_s rl hk]; exact (xst_ne (by decide) xst_eq (Or.inl rfl))) (by rw [show F + ((k + 1 : Nat) : Int) = F + (k : Nat) + 1 from by omega]; exact xst_eq) (sQR_c hq2 fun e he => (samk_s hk e).symm) hfr2
theorem xs_122a {v0 : Value} {xs : List Int32} {u : Nat × Nat} {Q : zO → zX → Prop} {f0 : Nat → zE} {fs : List Value} {bt : List sB} {back : Bool} {r0 : Nat → Int} {i : Nat} {c : Nat} {ow lk fm : Int} (hmo : sMO f0 fs) (hi : i ≤ 15)
    (hkk : ∀ (lv : zL) (f : Nat → zE), zlv lv 0 = some (.ref 177) → zlv lv 1 = some (xi (c : Nat)) → zlv lv 2 = some (xi (if back = true then 1 else 0)) → zlv lv 3 = some (xi (i : Nat)) → zlv lv 4 = some (xi ow) → zlv lv 5 = some (xi lk) → zlv lv 6 = some (xi fm) → sQR f bt back r0 i (fun _ => 0) 8 → (∀ q, q ≠ 192 → q ≠ 193 → q ≠ 194 → f q = f0 q) → xz v0 xs u Q 122 89 lv [] f) : ∀ (w d : Nat) (lv : zL) (f : Nat → zE), w + d = 8 → zlv lv 0 = some (.ref 177) → zlv lv 1 = some (xi (c : Nat)) → zlv lv 2 = some (xi (if back = true then 1 else 0)) → zlv lv 3 = some (xi (i : Nat)) → zlv lv 4 = some (xi ow) → zlv lv 5 = some (xi lk) → zlv lv 6 = some (xi fm) → zlv lv 7 = some (xi (d : Nat)) → sQR f bt back r0 i (fun _ => 0) d → (∀ q, q ≠ 192 → q ≠ 193 → q ≠ 194 → f q = f0 q) → xz v0 xs u Q 122 65 lv [] f := by
  have h177 := hmo.1
  intro w
  induction w with
  | zero =>
    intro d lv f hw l0 l1 l2 l3 l4 l5 l6 l7 hq hfr
    have e8 : d = 8 := by omega
    subst e8
    refine x_iload rfl l7 ?_
    refine x_bipush rfl (by decide) ?_
    refine x_cge (t := 89) rfl rfl (by decide) (by decide) (fun _ => ?_) (fun h => absurd h (by decide))
    exact hkk lv f l0 l1 l2 l3 l4 l5 l6 hq hfr
  | succ w ih =>
    intro d lv f hw l0 l1 l2 l3 l4 l5 l6 l7 hq hfr
    have hd : d < 8 := by omega
    have hmo2 : sMO f fs := ⟨(hfr 177 (by decide) (by decide) (by decide)).trans h177, hmo.2⟩
    refine x_iload rfl l7 ?_
    refine x_bipush rfl (by decide) ?_
    refine x_cge (t := 89) rfl rfl ⟨by omega, by omega⟩ (by decide) (fun h => absurd h (by omega)) (fun _ => ?_)
    refine x_aload_n rfl l0 ?_
    refine x_bipush rfl (by decide) ?_
    refine x_iload_n rfl l3 ?_
    refine x_imul rfl ?_
    refine x_iload rfl l7 ?_
    refine x_iconst rfl ?_
    refine x_call [_, _, _, _] rfl rfl (show (0 : Nat) ≤ 8 from by decide) (show (4 : Nat) ≤ 7 from by decide) (x_rcv (by decide) ((hfr 177 (by decide) (by decide) (by decide)).trans h177)) (xs_113s hmo2 hq hi hd (Or.inl (by omega)) (Nat.le_refl _) (by decide)) ?_
    intro r' f1 hP
    obtain ⟨rfl, hq2, hfr2⟩ := hP
    rw [show max d (d + 1) = d + 1 from by omega] at hq2
    refine x_iinc rfl l7 (show (7 : Nat) < 10 from by decide) ?_
    refine x_goto (t := 65) rfl rfl ?_
    exact ih (d + 1) _ _ (by omega) (xst_ne (by decide) l0 (Or.inl rfl)) (xst_ne (by decide) l1 (Or.inl rfl)) (xst_ne (by decide) l2 (Or.inl rfl)) (xst_ne (by decide) l3 (Or.inl rfl)) (xst_ne (by decide) l4 (Or.inl rfl)) (xst_ne (by decide) l5 (Or.inl rfl)) (xst_ne (by decide) l6 (Or.inl rfl)) xst_eq (sQR_c hq2 fun e he => by simp) (fun q a1 a2 a3 => (hfr2 q a1 a2 a3).trans (hfr q a1 a2 a3))
end
section
/-- the model's run, from beat i on -/
theorem sMO_set {f f' : Nat → zE} {fs : List Value} {k : Nat} {v : Value} (h : sMO f fs) (hf : f' 177 = .inl (10, fs.set k v)) (hk : k = 28 ∨ k = 29 ∨ k = 0 ∨ k = 30 ∨ k = 31) : sMO f' (fs.set k v) := by
  obtain ⟨h177, hfl, ⟨f11, f13, f14, f15, f17, f18⟩, h25, h26, h27⟩ := h
  have P : ∀ (j : Nat) (w : Value), k ≠ j → fs[j]? = some w → (fs.set k v)[j]? = some w := fun j w hj hw => by rw [List.getElem?_set_ne hj]; exact hw
  exact ⟨hf, by rw [List.length_set]; exact hfl, ⟨P _ _ (by omega) f11, P _ _ (by omega) f13, P _ _ (by omega) f14, P _ _ (by omega) f15, P _ _ (by omega) f17, P _ _ (by omega) f18⟩, P _ _ (by omega) h25, P _ _ (by omega) h26, P _ _ (by omega) h27⟩
theorem sML_r {ax ay af : List Int} {at' : Int} {r r' : Nat → Int} (h : sML ax ay af at' r) (e : ∀ d, d < 8 → r' d = r d) : sML ax ay af at' r' := ⟨h.1, h.2.1, fun d hd => by rw [e d hd]; exact h.2.2 d hd⟩
theorem xs_122l {v0 : Value} {xs : List Int32} {u : Nat × Nat} {f0 : Nat → zE} {fs : List Value} {K : List (Int × Int)} {G : List xBt} {back : Bool} {r0 : Nat → Int} {c : Nat} (hKM : sKM f0 K c G) (hG : sGok K G) : ∀ (w i : Nat) (lv : zL) (f : Nat → zE), w + i = G.length → zlv lv 0 = some (.ref 177) → zlv lv 1 = some (xi (c : Nat)) → zlv lv 2 = some (xi (if back = true then 1 else 0)) → zlv lv 3 = some (xi (i : Nat)) → (∃ fs' : List Value, sMO f fs' ∧ ∀ j, j ≠ 28 → j ≠ 29 → fs'[j]? = fs[j]?) → (∃ ax ay af : List Int, sMC f ax ay af ∧ ∀ j : Nat, j ≤ i → sML ax ay af (8 * (j : Nat)) (srow (sbt K G) back r0 j)) → sres (sbt K G) back r0 i = 0 → (∀ q, q ≠ 177 → q ≠ 192 → q ≠ 193 → q ≠ 194 → f q = f0 q) → xz v0 xs u (fun o X => ∃ r' f', o = .inl r' ∧ X = (xh f', u) ∧ (fun r' f' => r' = some (xi (if sres (sbt K G) back r0 G.length = 0 then 1 else 0)) ∧ (∃ fs' : List Value, sMO f' fs' ∧ (∀ j, j ≠ 28 → j ≠ 29 → fs'[j]? = fs[j]?) ∧ (sres (sbt K G) back r0 G.length ≠ 0 → ∃ b k : Int, fs'[28]? = some (xi b) ∧ fs'[29]? = some (xi k) ∧ 10 * b + k = sres (sbt K G) back r0 G.length)) ∧ (∃ ax ay af : List Int, sMC f' ax ay af ∧ (sres (sbt K G) back r0 G.length = 0 → ∀ j : Nat, j ≤ G.length → sML ax ay af (8 * (j : Nat)) (srow (sbt K G) back r0 j))) ∧ ∀ q, q ≠ 177 → q ≠ 192 → q ≠ 193 → q ≠ 194 → f' q = f0 q) r' f') 122 2 lv [] f := by
  have hKM0 := hKM
  obtain ⟨hc, cn, tk, pf, pq, se, at', h180, h182, h183, h184, h185, h186, ⟨q1, q2, q3, q4, q5, q6⟩, hcn, hGj, hK224, hKK⟩ := hKM
  have hG16 := hG.1
  intro w
  induction w with
  | zero =>
    intro i lv f hw l0 l1 l2 l3 ⟨fs', hmo, hfs⟩ ⟨ax, ay, af, hmc, hrow⟩ hres hfr
    have e8 : i = G.length := by omega
    subst e8
    obtain ⟨h177, hfl, ⟨f11, f13, f14, f15, f17, f18⟩, -⟩ := id hmo
    refine x_iload_n rfl l3 ?_
    refine x_aload_n rfl l0 ?_
    refine x_getfield rfl (by decide) h177 f11 ?_
    refine x_iload_n rfl l1 ?_
    refine x_iaload rfl (by decide) ((hfr 180 (by decide) (by decide) (by decide) (by decide)).trans h180) ⟨by omega, by omega⟩ (by omega) ?_
    rw [Int.toNat_natCast, hcn]
    refine x_cge (t := 238) rfl rfl ⟨by omega, by omega⟩ ⟨by omega, by omega⟩ (fun _ => ?_) (fun h => absurd h (by omega))
    refine x_iconst rfl ?_
    exact x_ireturn rfl (Or.inr (Or.inl ⟨rfl, by decide⟩)) ⟨_, _, rfl, rfl, by rw [if_pos hres], ⟨fs', hmo, hfs, fun h => absurd hres h⟩, ⟨ax, ay, af, hmc, fun _ => hrow⟩, hfr⟩
  | succ w ih =>
    intro i lv f hw l0 l1 l2 l3 ⟨fs', hmo, hfs⟩ ⟨ax, ay, af, hmc, hrow⟩ hres hfr
    have hi : i < G.length := by omega
    have hmo0 := hmo
    obtain ⟨h177, hfl, ⟨f11, f13, f14, f15, f17, f18⟩, -⟩ := id hmo
    have hKMf : sKM f K c G := ⟨hc, cn, tk, pf, pq, se, at', ((hfr 180 (by decide) (by decide) (by decide) (by decide)).trans h180), ((hfr 182 (by decide) (by decide) (by decide) (by decide)).trans h182), ((hfr 183 (by decide) (by decide) (by decide) (by decide)).trans h183), ((hfr 184 (by decide) (by decide) (by decide) (by decide)).trans h184), ((hfr 185 (by decide) (by decide) (by decide) (by decide)).trans h185), ((hfr 186 (by decide) (by decide) (by decide) (by decide)).trans h186), ⟨q1, q2, q3, q4, q5, q6⟩, hcn, hGj, hK224, hKK⟩
    obtain ⟨jb, hjb, hjbd⟩ : ∃ jb : Nat, jb < G.length ∧ jb = if back = true then G.length - 1 - i else i := ⟨_, by split <;> omega, rfl⟩
    obtain ⟨tk', htkd⟩ : ∃ t : Int, t = if back = true then 0 else (G.getD i (0, 0, 0)).2.2 := ⟨_, rfl⟩
    have htk' : 0 ≤ tk' ∧ tk' ≤ (i : Nat) := by
      rw [htkd]
      have := (hG.2 i hi).2
      split <;> omega
    have hbb := (hG.2 jb hjb).1
    have hlen := sprt_len hbb
    have hjj := hGj jb hjb
    have hpf : pf.getD (16 * c + jb) 0 = (G.getD jb (0, 0, 0)).1 := congrArg Prod.fst hjj
    have hpq : pq.getD (16 * c + jb) 0 = (G.getD jb (0, 0, 0)).2.1 := congrArg (fun z => z.2.1) hjj
    have htkj : tk.getD (16 * c + jb) 0 = (G.getD jb (0, 0, 0)).2.2 := congrArg (fun z => z.2.2) hjj
    have htkr : ((sbt K G).getD i (0, [])).1.toNat ≤ i := by
      rw [sbt_at hi]
      have := (hG.2 i hi).2
      omega
    have hmv : ∀ d, d < 8 → srow (sbt K G) back r0 (i + 1) d = smv (srow (sbt K G) back r0 i d) (sam (sbt K G) back r0 i d) := fun d _ => srow_n htkr d
    have hsam : ∀ d, samk back (srow (sbt K G) back r0 tk'.toNat) (sprt K (G.getD jb (0, 0, 0))) (sprt K (G.getD jb (0, 0, 0))).length d = sam (sbt K G) back r0 i d := by
      intro d
      unfold samk sam
      rw [List.take_length, sbt_len]
      cases back with
      | true =>
        rw [if_pos rfl] at hjbd htkd
        rw [if_pos rfl, if_pos rfl, htkd, ← hjbd, sbt_at hjb]
        rfl
      | false =>
        rw [if_neg (by decide)] at hjbd htkd
        rw [if_neg (by decide), if_neg (by decide), sbt_at hi, htkd, hjbd]
    have ham : ∀ d, d < 8 → 0 ≤ sam (sbt K G) back r0 i d ∧ sam (sbt K G) back r0 i d ≤ 6 := by
      intro d _
      obtain ⟨_, _, -, -, -, -, -, -, hL⟩ := sKM_PM hKMf hbb
      rw [← hsam d]
      unfold samk
      rw [List.take_length]
      have r1 := sat_rg (r := srow (sbt K G) back r0 tk'.toNat) (d := d) (L := sprt K (G.getD jb (0, 0, 0))) fun k hk => (hL k hk).2.2
      split
      · exact sexch_rg r1
      · exact r1
    have hcl := sclash_rg (srow (sbt K G) back r0 i) (srow (sbt K G) back r0 (i + 1))
    -- the beat's end
    have T : ∀ (lv : zL) (f2 : Nat → zE), zlv lv 0 = some (.ref 177) → zlv lv 1 = some (xi (c : Nat)) → zlv lv 2 = some (xi (if back = true then 1 else 0)) → zlv lv 3 = some (xi (i : Nat)) → sQR f2 (sbt K G) back r0 i (sam (sbt K G) back r0 i) 8 → (∀ q, q ≠ 192 → q ≠ 193 → q ≠ 194 → f2 q = f q) → xz v0 xs u (fun o X => ∃ r' f', o = .inl r' ∧ X = (xh f', u) ∧ (fun r' f' => r' = some (xi (if sres (sbt K G) back r0 G.length = 0 then 1 else 0)) ∧ (∃ fs' : List Value, sMO f' fs' ∧ (∀ j, j ≠ 28 → j ≠ 29 → fs'[j]? = fs[j]?) ∧ (sres (sbt K G) back r0 G.length ≠ 0 → ∃ b k : Int, fs'[28]? = some (xi b) ∧ fs'[29]? = some (xi k) ∧ 10 * b + k = sres (sbt K G) back r0 G.length)) ∧ (∃ ax ay af : List Int, sMC f' ax ay af ∧ (sres (sbt K G) back r0 G.length = 0 → ∀ j : Nat, j ≤ G.length → sML ax ay af (8 * (j : Nat)) (srow (sbt K G) back r0 j))) ∧ ∀ q, q ≠ 177 → q ≠ 192 → q ≠ 193 → q ≠ 194 → f' q = f0 q) r' f') 122 204 lv [] f2 := by
      intro lv f2 l0 l1 l2 l3 ⟨ax2, ay2, af2, hmc2, hrow2, hnx⟩ hfr2
      have hmo2 : sMO f2 fs' := ⟨(hfr2 177 (by decide) (by decide) (by decide)).trans h177, hmo0.2⟩
      have g177 := hmo2.1
      have hfr3 : ∀ q, q ≠ 177 → q ≠ 192 → q ≠ 193 → q ≠ 194 → f2 q = f0 q := fun q a0 a1 a2 a3 => (hfr2 q a1 a2 a3).trans (hfr q a0 a1 a2 a3)
      refine x_aload_n rfl l0 ?_
      refine x_aload_n rfl l0 ?_
      refine x_bipush rfl (by decide) ?_
      refine x_iload_n rfl l3 ?_
      refine x_imul rfl ?_
      refine x_call [_, _] rfl rfl (show (1 : Nat) ≤ 8 from by decide) (show (2 : Nat) ≤ 9 from by decide) (x_rcv (by decide) g177) (xs_121 hmo2 hmc2 (hrow2 i (Nat.le_refl _)) (by omega) hnx ham hmv) ?_
      intro r' f1 hP
      obtain ⟨rfl, rfl⟩ := hP
      refine x_putfield rfl (by decide) g177 (show (29 : Nat) < fs'.length from by omega) rfl ?_
      refine x_aload_n rfl l0 ?_
      refine x_iload_n rfl l3 ?_
      refine x_iconst rfl ?_
      refine x_iadd rfl ?_
      refine x_putfield rfl (by decide) xu_eq (show (28 : Nat) < (fs'.set 29 _).length from by rw [List.length_set]; omega) rfl ?_
      refine x_aload_n rfl l0 ?_
      refine x_getfield rfl (by decide) xu_eq (by rw [List.getElem?_set_ne (by decide), List.getElem?_set_self (by omega)]) ?_
      refine x_ifle (t := 232) rfl rfl ⟨by omega, by omega⟩ (fun h0 => ?_) (fun h0 => ?_)
      · have hs : sres (sbt K G) back r0 (i + 1) = 0 := by
          rw [sres, if_neg (fun h => h hres), if_neg (fun h => h (by omega))]
        have hlv := sclash_0 (show sclash (srow (sbt K G) back r0 i) (srow (sbt K G) back r0 (i + 1)) = 0 from by omega)
        have hnr := sML_next (hrow2 i (Nat.le_refl _)) (by omega) hnx ham hmv hlv
        refine x_iinc rfl l3 (show (3 : Nat) < 10 from by decide) ?_
        refine x_goto (t := 2) rfl rfl ?_
        refine ih (i + 1) _ _ (by omega) (xst_ne (by decide) l0 (Or.inl rfl)) (xst_ne (by decide) l1 (Or.inl rfl)) (xst_ne (by decide) l2 (Or.inl rfl)) xst_eq ⟨((fs'.set 29 (xi (sclash (srow (sbt K G) back r0 i) (srow (sbt K G) back r0 (i + 1))))).set 28 (xi ((i : Nat) + 1))), ?_, ?_⟩ ⟨ax2, ay2, af2, ?_, fun j hj => ?_⟩ hs (fun q a0 a1 a2 a3 => xu_ne a0 (xu_ne a0 (hfr3 q a0 a1 a2 a3)))
        · exact sMO_set (sMO_set (f' := fun _ => .inl (10, fs'.set 29 (xi (sclash (srow (sbt K G) back r0 i) (srow (sbt K G) back r0 (i + 1)))))) hmo2 rfl (Or.inr (Or.inl rfl))) xu_eq (Or.inl rfl)
        · intro j a1 a2
          rw [List.getElem?_set_ne (fun h => a1 h.symm), List.getElem?_set_ne (fun h => a2 h.symm)]
          exact hfs j a1 a2
        · obtain ⟨w1, w2, w3, w4⟩ := hmc2
          exact ⟨xu_ne (by decide) (xu_ne (by decide) w1), xu_ne (by decide) (xu_ne (by decide) w2), xu_ne (by decide) (xu_ne (by decide) w3), w4⟩
        · by_cases e : j = i + 1
          · subst e
            rw [show (8 * ((i + 1 : Nat) : Int)) = 8 * (i : Nat) + 8 from by omega]
            exact hnr
          · exact hrow2 j (by omega)
      · have hs : sres (sbt K G) back r0 (i + 1) = 10 * ((i : Nat) + 1) + sclash (srow (sbt K G) back r0 i) (srow (sbt K G) back r0 (i + 1)) := by
          rw [sres, if_neg (fun h => h hres), if_pos (by omega)]
        have hs2 : sres (sbt K G) back r0 G.length = sres (sbt K G) back r0 (i + 1) := by
          have := sres_up (bt := sbt K G) (back := back) (r0 := r0) (i := i + 1) (by omega) (G.length - (i + 1))
          rw [show i + 1 + (G.length - (i + 1)) = G.length from by omega] at this
          exact this
        refine x_iconst rfl ?_
        refine x_ireturn rfl (Or.inr (Or.inl ⟨rfl, by decide⟩)) ⟨_, _, rfl, rfl, by rw [if_neg (by omega)], ⟨((fs'.set 29 (xi (sclash (srow (sbt K G) back r0 i) (srow (sbt K G) back r0 (i + 1))))).set 28 (xi ((i : Nat) + 1))), ?_, ?_, fun _ => ⟨(i : Nat) + 1, _, ?_, ?_, by rw [hs2, hs]⟩⟩, ⟨ax2, ay2, af2, ?_, fun h => by omega⟩, fun q a0 a1 a2 a3 => xu_ne a0 (xu_ne a0 (hfr3 q a0 a1 a2 a3))⟩
        · exact sMO_set (sMO_set (f' := fun _ => .inl (10, fs'.set 29 (xi (sclash (srow (sbt K G) back r0 i) (srow (sbt K G) back r0 (i + 1)))))) hmo2 rfl (Or.inr (Or.inl rfl))) xu_eq (Or.inl rfl)
        · intro j a1 a2
          rw [List.getElem?_set_ne (fun h => a1 h.symm), List.getElem?_set_ne (fun h => a2 h.symm)]
          exact hfs j a1 a2
        · rw [List.getElem?_set_self (by rw [List.length_set]; omega)]
        · rw [List.getElem?_set_ne (by decide), List.getElem?_set_self (by omega)]
        · obtain ⟨w1, w2, w3, w4⟩ := hmc2
          exact ⟨xu_ne (by decide) (xu_ne (by decide) w1), xu_ne (by decide) (xu_ne (by decide) w2), xu_ne (by decide) (xu_ne (by decide) w3), w4⟩
    have T2 : ∀ (lv : zL), zlv lv 0 = some (.ref 177) → zlv lv 1 = some (xi (c : Nat)) → zlv lv 2 = some (xi (if back = true then 1 else 0)) → zlv lv 3 = some (xi (i : Nat)) → zlv lv 4 = some (xi ((16 * c + jb : Nat) : Int)) → zlv lv 5 = some (xi (8 * tk')) → xz v0 xs u (fun o X => ∃ r' f', o = .inl r' ∧ X = (xh f', u) ∧ (fun r' f' => r' = some (xi (if sres (sbt K G) back r0 G.length = 0 then 1 else 0)) ∧ (∃ fs' : List Value, sMO f' fs' ∧ (∀ j, j ≠ 28 → j ≠ 29 → fs'[j]? = fs[j]?) ∧ (sres (sbt K G) back r0 G.length ≠ 0 → ∃ b k : Int, fs'[28]? = some (xi b) ∧ fs'[29]? = some (xi k) ∧ 10 * b + k = sres (sbt K G) back r0 G.length)) ∧ (∃ ax ay af : List Int, sMC f' ax ay af ∧ (sres (sbt K G) back r0 G.length = 0 → ∀ j : Nat, j ≤ G.length → sML ax ay af (8 * (j : Nat)) (srow (sbt K G) back r0 j))) ∧ ∀ q, q ≠ 177 → q ≠ 192 → q ≠ 193 → q ≠ 194 → f' q = f0 q) r' f') 122 57 lv [] f := by
      intro lv l0 l1 l2 l3 l4 l5
      refine x_sipush rfl (by decide) ?_
      refine x_istore rfl (show (6 : Nat) < 10 from by decide) ?_
      refine x_iconst rfl ?_
      refine x_istore rfl (show (7 : Nat) < 10 from by decide) ?_
      refine xs_122a (bt := sbt K G) (back := back) (r0 := r0) (ow := ((16 * c + jb : Nat) : Int)) (lk := 8 * tk') hmo0 (by omega) (fun lv2 f2 m0 m1 m2 m3 m4 m5 m6 hq2 hfr2 => ?_) 8 0 _ _ rfl (xst_ne (by decide) (xst_ne (by decide) l0 (Or.inl rfl)) (Or.inl rfl)) (xst_ne (by decide) (xst_ne (by decide) l1 (Or.inl rfl)) (Or.inl rfl)) (xst_ne (by decide) (xst_ne (by decide) l2 (Or.inl rfl)) (Or.inl rfl)) (xst_ne (by decide) (xst_ne (by decide) l3 (Or.inl rfl)) (Or.inl rfl)) (xst_ne (by decide) (xst_ne (by decide) l4 (Or.inl rfl)) (Or.inl rfl)) (xst_ne (by decide) (xst_ne (by decide) l5 (Or.inl rfl)) (Or.inl rfl)) (xst_ne (by decide) xst_eq (Or.inl rfl)) xst_eq ⟨ax, ay, af, hmc, hrow, fun e he => absurd he (Nat.not_lt_zero _)⟩ (fun q _ _ _ => rfl)
      have hmo2 : sMO f2 fs' := ⟨(hfr2 177 (by decide) (by decide) (by decide)).trans h177, hmo0.2⟩
      have hKM2 : sKM f2 K c G := ⟨hc, cn, tk, pf, pq, se, at', ((hfr2 180 (by decide) (by decide) (by decide)).trans ((hfr 180 (by decide) (by decide) (by decide) (by decide)).trans h180)), ((hfr2 182 (by decide) (by decide) (by decide)).trans ((hfr 182 (by decide) (by decide) (by decide) (by decide)).trans h182)), ((hfr2 183 (by decide) (by decide) (by decide)).trans ((hfr 183 (by decide) (by decide) (by decide) (by decide)).trans h183)), ((hfr2 184 (by decide) (by decide) (by decide)).trans ((hfr 184 (by decide) (by decide) (by decide) (by decide)).trans h184)), ((hfr2 185 (by decide) (by decide) (by decide)).trans ((hfr 185 (by decide) (by decide) (by decide) (by decide)).trans h185)), ((hfr2 186 (by decide) (by decide) (by decide)).trans ((hfr 186 (by decide) (by decide) (by decide) (by decide)).trans h186)), ⟨q1, q2, q3, q4, q5, q6⟩, hcn, hGj, hK224, hKK⟩
      refine x_aload_n rfl m0 ?_
      refine x_getfield rfl (by decide) ((hfr2 177 (by decide) (by decide) (by decide)).trans h177) f14 ?_
      refine x_iload rfl m4 ?_
      refine x_iaload rfl (by decide) ((hfr2 183 (by decide) (by decide) (by decide)).trans ((hfr 183 (by decide) (by decide) (by decide) (by decide)).trans h183)) ⟨by omega, by omega⟩ (by omega) ?_
      rw [Int.toNat_natCast, hpf]
      refine x_istore rfl (show (7 : Nat) < 10 from by decide) ?_
      refine xs_122b (tk := tk') (rl := srow (sbt K G) back r0 tk'.toNat) (L := sprt K (G.getD jb (0, 0, 0))) (F := (G.getD jb (0, 0, 0)).1) hmo2 (sKM_PM hKM2 hbb) (by omega) htk' rfl ((hfr2 184 (by decide) (by decide) (by decide)).trans ((hfr 184 (by decide) (by decide) (by decide) (by decide)).trans h184)) q4 ⟨by omega, by omega⟩ (by rw [Int.toNat_natCast, hpq]; omega) (fun lv3 f3 n0 n1 n2 n3 n4 n5 hq3 hfr3 => T lv3 f3 n0 n1 n2 n3 (sQR_c hq3 fun d _ => hsam d) (fun q a1 a2 a3 => (hfr3 q a1 a2 a3).trans (hfr2 q a1 a2 a3))) (sprt K (G.getD jb (0, 0, 0))).length 0 _ _ rfl (xst_ne (by decide) m0 (Or.inl rfl)) (xst_ne (by decide) m1 (Or.inl rfl)) (xst_ne (by decide) m2 (Or.inl rfl)) (xst_ne (by decide) m3 (Or.inl rfl)) (xst_ne (by decide) m4 (Or.inl rfl)) (xst_ne (by decide) m5 (Or.inl rfl)) (by rw [List.take_zero]; exact (xst_ne (by decide) m6 (Or.inl rfl))) (by rw [show (G.getD jb (0, 0, 0)).1 + ((0 : Nat) : Int) = (G.getD jb (0, 0, 0)).1 from by omega]; exact xst_eq) (sQR_c hq2 fun e _ => (samk_0 back _ _ e).symm) (fun q _ _ _ => rfl)
    refine x_iload_n rfl l3 ?_
    refine x_aload_n rfl l0 ?_
    refine x_getfield rfl (by decide) h177 f11 ?_
    refine x_iload_n rfl l1 ?_
    refine x_iaload rfl (by decide) ((hfr 180 (by decide) (by decide) (by decide) (by decide)).trans h180) ⟨by omega, by omega⟩ (by omega) ?_
    rw [Int.toNat_natCast, hcn]
    refine x_cge (t := 238) rfl rfl ⟨by omega, by omega⟩ ⟨by omega, by omega⟩ (fun h => absurd h (by omega)) (fun _ => ?_)
    refine x_bipush rfl (by decide) ?_
    refine x_iload_n rfl l1 ?_
    refine x_imul rfl ?_
    refine x_iload_n rfl l2 ?_
    cases hbk : back with
    | false =>
      rw [hbk] at hjbd htkd T2
      have hj : jb = i := hjbd
      have ht : tk' = (G.getD i (0, 0, 0)).2.2 := htkd
      show xz v0 xs u _ 122 17 lv [xi (if false = true then 1 else 0), xi (16 * (c : Nat))] f
      have l2b : zlv lv 2 = some (xi (if false = true then 1 else 0)) := by
        have h := l2
        rw [hbk] at h
        exact h
      have hjt : (G.getD jb (0, 0, 0)).2.2 = tk' := by rw [hj, ht]
      refine x_ifeq (t := 33) rfl rfl (by decide) (fun _ => ?_) (fun h => absurd rfl h)
      refine x_iload_n rfl l3 ?_
      refine x_iadd rfl ?_
      rw [show 16 * ((c : Nat) : Int) + (i : Nat) = ((16 * c + jb : Nat) : Int) from by omega]
      refine x_istore rfl (show (4 : Nat) < 10 from by decide) ?_
      refine x_iload_n rfl (xst_ne (by decide) l2b (Or.inl rfl)) ?_
      refine x_ifeq (t := 45) rfl rfl (by decide) (fun _ => ?_) (fun h => absurd rfl h)
      refine x_bipush rfl (by decide) ?_
      refine x_aload_n rfl (xst_ne (by decide) l0 (Or.inl rfl)) ?_
      refine x_getfield rfl (by decide) h177 f13 ?_
      refine x_iload rfl xst_eq ?_
      refine x_iaload rfl (by decide) ((hfr 182 (by decide) (by decide) (by decide) (by decide)).trans h182) ⟨by omega, by omega⟩ (by omega) ?_
      rw [Int.toNat_natCast, htkj, hjt]
      refine x_imul rfl ?_
      refine x_istore rfl (show (5 : Nat) < 10 from by decide) ?_
      exact T2 _ (xst_ne (by decide) (xst_ne (by decide) l0 (Or.inl rfl)) (Or.inl rfl)) (xst_ne (by decide) (xst_ne (by decide) l1 (Or.inl rfl)) (Or.inl rfl)) (xst_ne (by decide) (xst_ne (by decide) l2b (Or.inl rfl)) (Or.inl rfl)) (xst_ne (by decide) (xst_ne (by decide) l3 (Or.inl rfl)) (Or.inl rfl)) (xst_ne (by decide) xst_eq (Or.inl rfl)) xst_eq
    | true =>
      rw [hbk] at hjbd htkd T2
      have hj : jb = G.length - 1 - i := hjbd
      have ht : tk' = 0 := htkd
      show xz v0 xs u _ 122 17 lv [xi (if true = true then 1 else 0), xi (16 * (c : Nat))] f
      have l2b : zlv lv 2 = some (xi (if true = true then 1 else 0)) := by
        have h := l2
        rw [hbk] at h
        exact h
      refine x_ifeq (t := 33) rfl rfl (by decide) (fun h => absurd h (by decide)) (fun _ => ?_)
      refine x_aload_n rfl l0 ?_
      refine x_getfield rfl (by decide) h177 f11 ?_
      refine x_iload_n rfl l1 ?_
      refine x_iaload rfl (by decide) ((hfr 180 (by decide) (by decide) (by decide) (by decide)).trans h180) ⟨by omega, by omega⟩ (by omega) ?_
      rw [Int.toNat_natCast, hcn]
      refine x_iconst rfl ?_
      refine x_isub rfl ?_
      refine x_iload_n rfl l3 ?_
      refine x_isub rfl ?_
      refine x_goto (t := 34) rfl rfl ?_
      refine x_iadd rfl ?_
      rw [show 16 * ((c : Nat) : Int) + (((G.length : Nat) : Int) - 1 - (i : Nat)) = ((16 * c + jb : Nat) : Int) from by omega]
      refine x_istore rfl (show (4 : Nat) < 10 from by decide) ?_
      refine x_iload_n rfl (xst_ne (by decide) l2b (Or.inl rfl)) ?_
      refine x_ifeq (t := 45) rfl rfl (by decide) (fun h => absurd h (by decide)) (fun _ => ?_)
      refine x_iconst rfl ?_
      refine x_goto (t := 55) rfl rfl ?_
      refine x_istore rfl (show (5 : Nat) < 10 from by decide) ?_
      exact T2 _ (xst_ne (by decide) (xst_ne (by decide) l0 (Or.inl rfl)) (Or.inl rfl)) (xst_ne (by decide) (xst_ne (by decide) l1 (Or.inl rfl)) (Or.inl rfl)) (xst_ne (by decide) (xst_ne (by decide) l2b (Or.inl rfl)) (Or.inl rfl)) (xst_ne (by decide) (xst_ne (by decide) l3 (Or.inl rfl)) (Or.inl rfl)) (xst_ne (by decide) xst_eq (Or.inl rfl)) (by rw [ht]; exact xst_eq)
theorem xs_122 {v0 : Value} {xs : List Int32} {u : Nat × Nat} {f0 : Nat → zE} {fs : List Value} {K : List (Int × Int)} {G : List xBt} {back : Bool} {r0 : Nat → Int} {c : Nat} (hKM : sKM f0 K c G) (hG : sGok K G) {ax ay af : List Int} (hmo : sMO f0 fs) (hmc : sMC f0 ax ay af) (hr : sML ax ay af 0 r0) : xq v0 xs u 122 [(0, .ref 177), (1, xi (c : Nat)), (2, xi (if back = true then 1 else 0))] f0 (fun r' f' => r' = some (xi (if sres (sbt K G) back r0 G.length = 0 then 1 else 0)) ∧ (∃ fs' : List Value, sMO f' fs' ∧ (∀ j, j ≠ 28 → j ≠ 29 → fs'[j]? = fs[j]?) ∧ (sres (sbt K G) back r0 G.length ≠ 0 → ∃ b k : Int, fs'[28]? = some (xi b) ∧ fs'[29]? = some (xi k) ∧ 10 * b + k = sres (sbt K G) back r0 G.length)) ∧ (∃ ax ay af : List Int, sMC f' ax ay af ∧ (sres (sbt K G) back r0 G.length = 0 → ∀ j : Nat, j ≤ G.length → sML ax ay af (8 * (j : Nat)) (srow (sbt K G) back r0 j))) ∧ ∀ q, q ≠ 177 → q ≠ 192 → q ≠ 193 → q ≠ 194 → f' q = f0 q) := by
  unfold xq
  refine x_iconst rfl ?_
  refine x_istore_n rfl (show (3 : Nat) < 10 from by decide) ?_
  refine xs_122l hKM hG G.length 0 _ _ rfl (xst_ne (by decide) rfl (Or.inl rfl)) (xst_ne (by decide) rfl (Or.inl rfl)) (xst_ne (by decide) rfl (Or.inl rfl)) xst_eq ⟨fs, hmo, fun _ _ _ => rfl⟩ ⟨ax, ay, af, hmc, fun j hj => ?_⟩ rfl (fun q _ _ _ _ => rfl)
  have e : j = 0 := by omega
  subst e
  exact hr
end
section
/-! The model's places and journal. -/
theorem sget_eq {l : List Value} {k : Nat} {v : Value} (h : k < l.length) : (l.set k v)[k]? = some v := List.getElem?_set_self h
theorem sget_ne {l : List Value} {k j : Nat} {v w : Value} (h : k ≠ j) (e : l[j]? = some w) : (l.set k v)[j]? = some w := by rw [List.getElem?_set_ne h]; exact e
theorem slen {l : List Value} {k n : Nat} {v : Value} (h : l.length = n) : (l.set k v).length = n := by rw [List.length_set]; exact h
abbrev sHE := Nat × Bool × (Nat → Int)
abbrev sS := (Nat → Int) × List sHE × Int
def sH0 : sHE := (0, false, fun _ => 0)
/-- the model's object -/
def sMB (f : Nat → zE) (fs : List Value) (ca dn cl : Int) : Prop := sMO f fs ∧ (fs[22]? = some (.ref 189) ∧ fs[23]? = some (.ref 190) ∧ fs[24]? = some (.ref 191) ∧ fs[32]? = some (.ref 195) ∧ fs[33]? = some (.ref 196) ∧ fs[34]? = some (.ref 197)) ∧ fs[9]? = some (xi ca) ∧ fs[31]? = some (xi dn) ∧ fs[30]? = some (xi cl)
theorem sMB_0 {f f' : Nat → zE} {fs : List Value} {ca dn cl : Int} {v : Value} (h : sMB f fs ca dn cl) (hf : f' 177 = .inl (10, fs.set 0 v)) : sMB f' (fs.set 0 v) ca dn cl := by
  obtain ⟨h1, ⟨a1, a2, a3, a4, a5, a6⟩, h2, h3, h4⟩ := h
  exact ⟨sMO_set h1 hf (by simp), ⟨sget_ne (by decide) a1, sget_ne (by decide) a2, sget_ne (by decide) a3, sget_ne (by decide) a4, sget_ne (by decide) a5, sget_ne (by decide) a6⟩, sget_ne (by decide) h2, sget_ne (by decide) h3, sget_ne (by decide) h4⟩
theorem sMB_30 {f f' : Nat → zE} {fs : List Value} {ca dn cl z : Int} (h : sMB f fs ca dn cl) (hf : f' 177 = .inl (10, fs.set 30 (xi z))) : sMB f' (fs.set 30 (xi z)) ca dn z := by
  obtain ⟨h1, ⟨a1, a2, a3, a4, a5, a6⟩, h2, h3, h4⟩ := h
  exact ⟨sMO_set h1 hf (by simp), ⟨sget_ne (by decide) a1, sget_ne (by decide) a2, sget_ne (by decide) a3, sget_ne (by decide) a4, sget_ne (by decide) a5, sget_ne (by decide) a6⟩, sget_ne (by decide) h2, sget_ne (by decide) h3, sget_eq (by rw [h1.2.1]; decide)⟩
theorem sMB_31 {f f' : Nat → zE} {fs : List Value} {ca dn cl z : Int} (h : sMB f fs ca dn cl) (hf : f' 177 = .inl (10, fs.set 31 (xi z))) : sMB f' (fs.set 31 (xi z)) ca z cl := by
  obtain ⟨h1, ⟨a1, a2, a3, a4, a5, a6⟩, h2, h3, h4⟩ := h
  exact ⟨sMO_set h1 hf (by simp), ⟨sget_ne (by decide) a1, sget_ne (by decide) a2, sget_ne (by decide) a3, sget_ne (by decide) a4, sget_ne (by decide) a5, sget_ne (by decide) a6⟩, sget_ne (by decide) h2, sget_eq (by rw [h1.2.1]; decide), sget_ne (by decide) h4⟩
theorem sMB_f {f f' : Nat → zE} {fs : List Value} {ca dn cl : Int} (h : sMB f fs ca dn cl) (hf : f' 177 = f 177) : sMB f' fs ca dn cl := ⟨⟨hf.trans h.1.1, h.1.2⟩, h.2⟩
theorem sMB_k {f f' : Nat → zE} {fs fs' : List Value} {ca dn cl : Int} (h : sMB f fs ca dn cl) (hm : sMO f' fs') (hk : ∀ j, j ≠ 28 → j ≠ 29 → fs'[j]? = fs[j]?) : sMB f' fs' ca dn cl := by
  obtain ⟨h1, ⟨a1, a2, a3, a4, a5, a6⟩, h2, h3, h4⟩ := h
  have P : ∀ j w, j ≠ 28 → j ≠ 29 → fs[j]? = some w → fs'[j]? = some w := fun j w b1 b2 e => (hk j b1 b2).trans e
  exact ⟨hm, ⟨P _ _ (by decide) (by decide) a1, P _ _ (by decide) (by decide) a2, P _ _ (by decide) (by decide) a3, P _ _ (by decide) (by decide) a4, P _ _ (by decide) (by decide) a5, P _ _ (by decide) (by decide) a6⟩, P _ _ (by decide) (by decide) h2, P _ _ (by decide) (by decide) h3, P _ _ (by decide) (by decide) h4⟩
/-- its places -/
def sMX (f : Nat → zE) (cur : Nat → Int) : Prop := ∃ mx my mf : List Int, f 189 = xr 0 mx ∧ f 190 = xr 0 my ∧ f 191 = xr 0 mf ∧ (mx.length = 8 ∧ my.length = 8 ∧ mf.length = 8) ∧ ∀ d, d < 8 → (mx.getD d 0 = sX (cur d) ∧ my.getD d 0 = sY (cur d) ∧ mf.getD d 0 = sF (cur d)) ∧ sok (cur d)
/-- its journal -/
def sMJ (f : Nat → zE) (H : List sHE) : Prop := H.length ≤ 24 ∧ ∃ wl bl be : List Int, f 195 = xr 0 wl ∧ f 196 = xr 2 bl ∧ f 197 = xr 0 be ∧ (wl.length = 24 ∧ bl.length = 24 ∧ be.length = 192) ∧ ∀ i, i < H.length → wl.getD i 0 = ((H.getD i sH0).1 : Nat) ∧ bl.getD i 0 = (if (H.getD i sH0).2.1 = true then 1 else 0) ∧ ∀ d, d < 8 → be.getD (8 * i + d) 0 = (H.getD i sH0).2.2 d ∧ sok ((H.getD i sH0).2.2 d)
theorem sMX_f {f f' : Nat → zE} {cur : Nat → Int} (h : sMX f cur) (e : ∀ q, 189 ≤ q → q ≤ 191 → f' q = f q) : sMX f' cur := by
  obtain ⟨mx, my, mf, h1, h2, h3, h4⟩ := h
  exact ⟨mx, my, mf, (e _ (by decide) (by decide)).trans h1, (e _ (by decide) (by decide)).trans h2, (e _ (by decide) (by decide)).trans h3, h4⟩
theorem sMJ_f {f f' : Nat → zE} {H : List sHE} (h : sMJ f H) (e : ∀ q, 195 ≤ q → q ≤ 197 → f' q = f q) : sMJ f' H := by
  obtain ⟨h0, wl, bl, be, h1, h2, h3, h4⟩ := h
  exact ⟨h0, wl, bl, be, (e _ (by decide) (by decide)).trans h1, (e _ (by decide) (by decide)).trans h2, (e _ (by decide) (by decide)).trans h3, h4⟩
theorem sKM_f {f f' : Nat → zE} {K : List (Int × Int)} {c : Nat} {G : List xBt} (h : sKM f K c G) (e : ∀ q, 180 ≤ q → q ≤ 186 → f' q = f q) : sKM f' K c G := by
  obtain ⟨hc, cn, tk, pf, pq, se, at', h1, h2, h3, h4, h5, h6, h7⟩ := h
  exact ⟨hc, cn, tk, pf, pq, se, at', (e _ (by decide) (by decide)).trans h1, (e _ (by decide) (by decide)).trans h2, (e _ (by decide) (by decide)).trans h3, (e _ (by decide) (by decide)).trans h4, (e _ (by decide) (by decide)).trans h5, (e _ (by decide) (by decide)).trans h6, h7⟩
/-- one place of the rows is set -/
theorem sMP_set {ax ay af : List Int} {k n : Nat} {cur : Nat → Int} {x y z : Int} (hl : ax.length = 144 ∧ ay.length = 144 ∧ af.length = 144) (hk : k < 144) (h : ∀ e, e < k → sMP ax ay af ((e : Nat) : Int) (cur e)) (hx : x = sX (cur k)) (hy : y = sY (cur k)) (hz : z = sF (cur k)) : ∀ e, e < k + 1 → sMP (ax.set k x) (ay.set k y) (af.set k z) ((e : Nat) : Int) (cur e) := by
  intro e he
  unfold sMP
  rw [Int.toNat_natCast, x_gset, x_gset, x_gset]
  by_cases h2 : k = e
  · subst h2
    rw [if_pos ⟨rfl, by omega⟩, if_pos ⟨rfl, by omega⟩, if_pos ⟨rfl, by omega⟩]
    exact ⟨hx, hy, hz⟩
  · rw [if_neg (fun h => h2 h.1), if_neg (fun h => h2 h.1), if_neg (fun h => h2 h.1)]
    have := h e (by omega)
    unfold sMP at this
    rw [Int.toNat_natCast] at this
    exact this
theorem sML_of {ax ay af : List Int} {cur : Nat → Int} (h : ∀ e, e < 8 → sMP ax ay af ((e : Nat) : Int) (cur e)) (hk : ∀ d, d < 8 → sok (cur d)) : sML ax ay af 0 cur := ⟨by decide, by decide, fun d hd => ⟨by rw [Int.zero_add]; exact h d hd, hk d hd⟩⟩
theorem xs_110l {v0 : Value} {xs : List Int32} {u : Nat × Nat} {f0 : Nat → zE} {fs : List Value} {cur : Nat → Int} {ca dn cl : Int} (hB : sMB f0 fs ca dn cl) (hX : sMX f0 cur) : ∀ (w d : Nat) (lv : zL) (f : Nat → zE), w + d = 8 → zlv lv 0 = some (.ref 177) → zlv lv 1 = some (xi (d : Nat)) → (∃ ax ay af : List Int, sMC f ax ay af ∧ ∀ e, e < d → sMP ax ay af ((e : Nat) : Int) (cur e)) → (∀ q, q ≠ 192 → q ≠ 193 → q ≠ 194 → f q = f0 q) → xz v0 xs u (fun o X => ∃ r' f', o = .inl r' ∧ X = (xh f', u) ∧ (fun r' f' => r' = none ∧ (∃ ax ay af : List Int, sMC f' ax ay af ∧ ∀ e, e < 8 → sMP ax ay af ((e : Nat) : Int) (cur e)) ∧ (∀ q, q ≠ 192 → q ≠ 193 → q ≠ 194 → f' q = f0 q)) r' f') 110 2 lv [] f := by
  obtain ⟨⟨h177, hfl, ⟨f11, f13, f14, f15, f17, f18⟩, h25, h26, h27⟩, ⟨a1, a2, a3, a4, a5, a6⟩, h9, h31, h30⟩ := hB
  obtain ⟨mx, my, mf, h189, h190, h191, ⟨x1, x2, x3⟩, hxyf⟩ := hX
  intro w
  induction w with
  | zero =>
    intro d lv f hw l0 l1 hrow hfr
    have e8 : d = 8 := by omega
    subst e8
    refine x_iload_n rfl l1 ?_
    refine x_bipush rfl (by decide) ?_
    refine x_cge (t := 50) rfl rfl (by decide) (by decide) (fun _ => ?_) (fun h => absurd h (by decide))
    exact x_return rfl ⟨_, _, rfl, rfl, rfl, hrow, hfr⟩
  | succ w ih =>
    intro d lv f hw l0 l1 hrow hfr
    obtain ⟨ax, ay, af, ⟨w1, w2, w3, w4, w5, w6⟩, hrow⟩ := hrow
    have hd : d < 8 := by omega
    obtain ⟨⟨g1, g2, g3⟩, -⟩ := hxyf d hd
    refine x_iload_n rfl l1 ?_
    refine x_bipush rfl (by decide) ?_
    refine x_cge (t := 50) rfl rfl ⟨by omega, by omega⟩ (by decide) (fun h => absurd h (by omega)) (fun _ => ?_)
    refine x_aload_n rfl l0 ?_
    refine x_getfield rfl (by decide) ((hfr 177 (by decide) (by decide) (by decide)).trans h177) h25 ?_
    refine x_iload_n rfl l1 ?_
    refine x_aload_n rfl l0 ?_
    refine x_getfield rfl (by decide) ((hfr 177 (by decide) (by decide) (by decide)).trans h177) a1 ?_
    refine x_iload_n rfl l1 ?_
    refine x_iaload rfl (by decide) ((hfr 189 (by decide) (by decide) (by decide)).trans h189) ⟨by omega, by omega⟩ (by omega) ?_
    rw [Int.toNat_natCast, g1]
    refine x_iastore rfl (by decide) w1 ⟨by omega, by omega⟩ (by omega) ?_
    refine x_aload_n rfl l0 ?_
    refine x_getfield rfl (by decide) (xu_ne (by decide) ((hfr 177 (by decide) (by decide) (by decide)).trans h177)) h26 ?_
    refine x_iload_n rfl l1 ?_
    refine x_aload_n rfl l0 ?_
    refine x_getfield rfl (by decide) (xu_ne (by decide) ((hfr 177 (by decide) (by decide) (by decide)).trans h177)) a2 ?_
    refine x_iload_n rfl l1 ?_
    refine x_iaload rfl (by decide) (xu_ne (by decide) ((hfr 190 (by decide) (by decide) (by decide)).trans h190)) ⟨by omega, by omega⟩ (by omega) ?_
    rw [Int.toNat_natCast, g2]
    refine x_iastore rfl (by decide) (xu_ne (by decide) w2) ⟨by omega, by omega⟩ (by omega) ?_
    refine x_aload_n rfl l0 ?_
    refine x_getfield rfl (by decide) (xu_ne (by decide) (xu_ne (by decide) ((hfr 177 (by decide) (by decide) (by decide)).trans h177))) h27 ?_
    refine x_iload_n rfl l1 ?_
    refine x_aload_n rfl l0 ?_
    refine x_getfield rfl (by decide) (xu_ne (by decide) (xu_ne (by decide) ((hfr 177 (by decide) (by decide) (by decide)).trans h177))) a3 ?_
    refine x_iload_n rfl l1 ?_
    refine x_iaload rfl (by decide) (xu_ne (by decide) (xu_ne (by decide) ((hfr 191 (by decide) (by decide) (by decide)).trans h191))) ⟨by omega, by omega⟩ (by omega) ?_
    rw [Int.toNat_natCast, g3]
    refine x_iastore rfl (by decide) (xu_ne (by decide) (xu_ne (by decide) w3)) ⟨by omega, by omega⟩ (by omega) ?_
    refine x_iinc rfl l1 (show (1 : Nat) < 2 from by decide) ?_
    refine x_goto (t := 2) rfl rfl ?_
    refine ih (d + 1) _ _ (by omega) (xst_ne (by decide) l0 (Or.inl rfl)) xst_eq ⟨_, _, _, ⟨(xu_ne (by decide) (xu_ne (by decide) xu_eq)), (xu_ne (by decide) xu_eq), xu_eq, by rw [List.length_set]; exact w4, by rw [List.length_set]; exact w5, by rw [List.length_set]; exact w6⟩, ?_⟩ (fun q b1 b2 b3 => xu_ne b3 (xu_ne b2 (xu_ne b1 (hfr q b1 b2 b3))))
    rw [Int.toNat_natCast]
    exact sMP_set (n := 8) ⟨w4, w5, w6⟩ (by omega) hrow rfl rfl rfl
theorem xs_110 {v0 : Value} {xs : List Int32} {u : Nat × Nat} {f0 : Nat → zE} {fs : List Value} {cur : Nat → Int} {ca dn cl : Int} {ax ay af : List Int} (hB : sMB f0 fs ca dn cl) (hX : sMX f0 cur) (hmc : sMC f0 ax ay af) : xq v0 xs u 110 [(0, .ref 177)] f0 (fun r' f' => r' = none ∧ (∃ ax ay af : List Int, sMC f' ax ay af ∧ sML ax ay af 0 cur) ∧ (∀ q, q ≠ 192 → q ≠ 193 → q ≠ 194 → f' q = f0 q)) := by
  unfold xq
  refine x_iconst rfl ?_
  refine x_istore_n rfl (show (1 : Nat) < 2 from by decide) ?_
  refine zwp_mono (xs_110l hB hX 8 0 _ _ rfl (xst_ne (by decide) rfl (Or.inl rfl)) xst_eq ⟨ax, ay, af, hmc, fun e he => absurd he (Nat.not_lt_zero _)⟩ (fun _ _ _ _ => rfl)) ?_
  rintro o X' ⟨r9, f9, e1, e2, e3, ⟨bx, bY, bf, e4, e5⟩, e6⟩
  obtain ⟨mx, my, mf, h189, h190, h191, hll, hxyf⟩ := hX
  exact ⟨r9, f9, e1, e2, e3, ⟨bx, bY, bf, e4, sML_of e5 fun d hd => (hxyf d hd).2⟩, e6⟩
theorem xs_133 {v0 : Value} {xs : List Int32} {u : Nat × Nat} {f : Nat → zE} {fs : List Value} {ca dn cl p : Int} {d : Nat} {ax ay af : List Int} (hB : sMB f fs ca dn cl) (hmc : sMC f ax ay af) (hd : d < 8) (hp : sok p) : xq v0 xs u 133 [(0, .ref 177), (1, xi (d : Nat)), (2, xi p)] f (fun r' f' => r' = none ∧ sMC f' (ax.set d (sX p)) (ay.set d (sY p)) (af.set d (sF p)) ∧ ∀ q, q ≠ 192 → q ≠ 193 → q ≠ 194 → f' q = f q) := by
  unfold xq
  obtain ⟨⟨h177, hfl, ⟨f11, f13, f14, f15, f17, f18⟩, h25, h26, h27⟩, ⟨a1, a2, a3, a4, a5, a6⟩, h9, h31, h30⟩ := hB
  obtain ⟨w1, w2, w3, w4, w5, w6⟩ := hmc
  unfold sok at hp
  refine x_aload_n rfl rfl ?_
  refine x_getfield rfl (by decide) h177 h27 ?_
  refine x_iload_n rfl rfl ?_
  refine x_iload_n rfl rfl ?_
  refine x_iconst rfl ?_
  refine x_irem rfl ⟨by omega, by omega⟩ (by decide) ?_
  refine x_iastore rfl (by decide) w3 ⟨by omega, by omega⟩ (by omega) ?_
  refine x_aload_n rfl rfl ?_
  refine x_getfield rfl (by decide) (xu_ne (by decide) h177) h25 ?_
  refine x_iload_n rfl rfl ?_
  refine x_iload_n rfl rfl ?_
  refine x_iconst rfl ?_
  refine x_idiv rfl ⟨by omega, by omega⟩ (by decide) ?_
  refine x_bipush rfl (by decide) ?_
  refine x_irem rfl ⟨by omega, by omega⟩ (by decide) ?_
  refine x_iastore rfl (by decide) (xu_ne (by decide) w1) ⟨by omega, by omega⟩ (by omega) ?_
  refine x_aload_n rfl rfl ?_
  refine x_getfield rfl (by decide) (xu_ne (by decide) (xu_ne (by decide) h177)) h26 ?_
  refine x_iload_n rfl rfl ?_
  refine x_iload_n rfl rfl ?_
  refine x_bipush rfl (by decide) ?_
  refine x_idiv rfl ⟨by omega, by omega⟩ (by decide) ?_
  refine x_iastore rfl (by decide) (xu_ne (by decide) (xu_ne (by decide) w2)) ⟨by omega, by omega⟩ (by omega) ?_
  refine x_return rfl ⟨_, _, rfl, rfl, rfl, ⟨?_, ?_, ?_, by rw [List.length_set]; exact w4, by rw [List.length_set]; exact w5, by rw [List.length_set]; exact w6⟩, fun q b1 b2 b3 => xu_ne b2 (xu_ne b1 (xu_ne b3 rfl))⟩
  · exact (xu_ne (by decide) xu_eq)
  · exact xu_eq
  · exact (xu_ne (by decide) (xu_ne (by decide) xu_eq))
theorem xs_123l {v0 : Value} {xs : List Int32} {u : Nat × Nat} {f0 : Nat → zE} {fs : List Value} {cur : Nat → Int} {ca dn cl b : Int} {ax ay af : List Int} (hB : sMB f0 fs ca dn cl) (hmc : sMC f0 ax ay af) (hb : 0 ≤ b ∧ b ≤ 16) (hr : sML ax ay af (8 * b) cur) : ∀ (w d : Nat) (lv : zL) (f : Nat → zE), w + d = 8 → zlv lv 0 = some (.ref 177) → zlv lv 1 = some (xi b) → zlv lv 2 = some (xi (d : Nat)) → (∃ mx my mf : List Int, f 189 = xr 0 mx ∧ f 190 = xr 0 my ∧ f 191 = xr 0 mf ∧ (mx.length = 8 ∧ my.length = 8 ∧ mf.length = 8) ∧ ∀ e, e < d → mx.getD e 0 = sX (cur e) ∧ my.getD e 0 = sY (cur e) ∧ mf.getD e 0 = sF (cur e)) → (∀ q, q ≠ 189 → q ≠ 190 → q ≠ 191 → f q = f0 q) → xz v0 xs u (fun o X => ∃ r' f', o = .inl r' ∧ X = (xh f', u) ∧ (fun r' f' => r' = none ∧ sMX f' cur ∧ ∀ q, q ≠ 189 → q ≠ 190 → q ≠ 191 → f' q = f0 q) r' f') 123 2 lv [] f := by
  obtain ⟨⟨h177, hfl, ⟨f11, f13, f14, f15, f17, f18⟩, h25, h26, h27⟩, ⟨a1, a2, a3, a4, a5, a6⟩, h9, h31, h30⟩ := hB
  obtain ⟨w1, w2, w3, w4, w5, w6⟩ := hmc
  obtain ⟨g0, g1, hrow⟩ := hr
  intro w
  induction w with
  | zero =>
    intro d lv f hw l0 l1 l2 hX hfr
    have e8 : d = 8 := by omega
    subst e8
    refine x_iload_n rfl l2 ?_
    refine x_bipush rfl (by decide) ?_
    refine x_cge (t := 65) rfl rfl (by decide) (by decide) (fun _ => ?_) (fun h => absurd h (by decide))
    obtain ⟨mx, my, mf, x1, x2, x3, hl, hx⟩ := hX
    exact x_return rfl ⟨_, _, rfl, rfl, rfl, ⟨mx, my, mf, x1, x2, x3, hl, fun d hd => ⟨hx d hd, (hrow d hd).2⟩⟩, hfr⟩
  | succ w ih =>
    intro d lv f hw l0 l1 l2 hX hfr
    obtain ⟨mx, my, mf, x1, x2, x3, ⟨y1, y2, y3⟩, hx⟩ := hX
    have hd : d < 8 := by omega
    obtain ⟨⟨p1, p2, p3⟩, -⟩ := hrow d hd
    refine x_iload_n rfl l2 ?_
    refine x_bipush rfl (by decide) ?_
    refine x_cge (t := 65) rfl rfl ⟨by omega, by omega⟩ (by decide) (fun h => absurd h (by omega)) (fun _ => ?_)
    refine x_aload_n rfl l0 ?_
    refine x_getfield rfl (by decide) ((hfr 177 (by decide) (by decide) (by decide)).trans h177) a1 ?_
    refine x_iload_n rfl l2 ?_
    refine x_aload_n rfl l0 ?_
    refine x_getfield rfl (by decide) ((hfr 177 (by decide) (by decide) (by decide)).trans h177) h25 ?_
    refine x_bipush rfl (by decide) ?_
    refine x_iload_n rfl l1 ?_
    refine x_imul rfl ?_
    refine x_iload_n rfl l2 ?_
    refine x_iadd rfl ?_
    refine x_iaload rfl (by decide) ((hfr 192 (by decide) (by decide) (by decide)).trans w1) ⟨by omega, by omega⟩ (by omega) ?_
    rw [p1]
    refine x_iastore rfl (by decide) x1 ⟨by omega, by omega⟩ (by omega) ?_
    refine x_aload_n rfl l0 ?_
    refine x_getfield rfl (by decide) (xu_ne (by decide) ((hfr 177 (by decide) (by decide) (by decide)).trans h177)) a2 ?_
    refine x_iload_n rfl l2 ?_
    refine x_aload_n rfl l0 ?_
    refine x_getfield rfl (by decide) (xu_ne (by decide) ((hfr 177 (by decide) (by decide) (by decide)).trans h177)) h26 ?_
    refine x_bipush rfl (by decide) ?_
    refine x_iload_n rfl l1 ?_
    refine x_imul rfl ?_
    refine x_iload_n rfl l2 ?_
    refine x_iadd rfl ?_
    refine x_iaload rfl (by decide) (xu_ne (by decide) ((hfr 193 (by decide) (by decide) (by decide)).trans w2)) ⟨by omega, by omega⟩ (by omega) ?_
    rw [p2]
    refine x_iastore rfl (by decide) (xu_ne (by decide) x2) ⟨by omega, by omega⟩ (by omega) ?_
    refine x_aload_n rfl l0 ?_
    refine x_getfield rfl (by decide) (xu_ne (by decide) (xu_ne (by decide) ((hfr 177 (by decide) (by decide) (by decide)).trans h177))) a3 ?_
    refine x_iload_n rfl l2 ?_
    refine x_aload_n rfl l0 ?_
    refine x_getfield rfl (by decide) (xu_ne (by decide) (xu_ne (by decide) ((hfr 177 (by decide) (by decide) (by decide)).trans h177))) h27 ?_
    refine x_bipush rfl (by decide) ?_
    refine x_iload_n rfl l1 ?_
    refine x_imul rfl ?_
    refine x_iload_n rfl l2 ?_
    refine x_iadd rfl ?_
    refine x_iaload rfl (by decide) (xu_ne (by decide) (xu_ne (by decide) ((hfr 194 (by decide) (by decide) (by decide)).trans w3))) ⟨by omega, by omega⟩ (by omega) ?_
    rw [p3]
    refine x_iastore rfl (by decide) (xu_ne (by decide) (xu_ne (by decide) x3)) ⟨by omega, by omega⟩ (by omega) ?_
    refine x_iinc rfl l2 (show (2 : Nat) < 3 from by decide) ?_
    refine x_goto (t := 2) rfl rfl ?_
    refine ih (d + 1) _ _ (by omega) (xst_ne (by decide) l0 (Or.inl rfl)) (xst_ne (by decide) l1 (Or.inl rfl)) xst_eq ⟨_, _, _, (xu_ne (by decide) (xu_ne (by decide) xu_eq)), (xu_ne (by decide) xu_eq), xu_eq, ⟨by rw [List.length_set]; exact y1, by rw [List.length_set]; exact y2, by rw [List.length_set]; exact y3⟩, fun e he => ?_⟩ (fun q b1 b2 b3 => xu_ne b3 (xu_ne b2 (xu_ne b1 (hfr q b1 b2 b3))))
    rw [Int.toNat_natCast, x_gset, x_gset, x_gset]
    by_cases h2 : d = e
    · subst h2
      rw [if_pos ⟨rfl, by omega⟩, if_pos ⟨rfl, by omega⟩, if_pos ⟨rfl, by omega⟩]
      exact ⟨rfl, rfl, rfl⟩
    · rw [if_neg (fun h => h2 h.1), if_neg (fun h => h2 h.1), if_neg (fun h => h2 h.1)]
      exact hx e (by omega)
theorem xs_123 {v0 : Value} {xs : List Int32} {u : Nat × Nat} {f0 : Nat → zE} {fs : List Value} {cur cur0 : Nat → Int} {ca dn cl b : Int} {ax ay af : List Int} (hB : sMB f0 fs ca dn cl) (hX : sMX f0 cur0) (hmc : sMC f0 ax ay af) (hb : 0 ≤ b ∧ b ≤ 16) (hr : sML ax ay af (8 * b) cur) : xq v0 xs u 123 [(0, .ref 177), (1, xi b)] f0 (fun r' f' => r' = none ∧ sMX f' cur ∧ ∀ q, q ≠ 189 → q ≠ 190 → q ≠ 191 → f' q = f0 q) := by
  unfold xq
  obtain ⟨mx, my, mf, x1, x2, x3, hl, -⟩ := hX
  refine x_iconst rfl ?_
  refine x_istore_n rfl (show (2 : Nat) < 3 from by decide) ?_
  exact xs_123l hB hmc hb hr 8 0 _ _ rfl (xst_ne (by decide) rfl (Or.inl rfl)) (xst_ne (by decide) rfl (Or.inl rfl)) xst_eq ⟨mx, my, mf, x1, x2, x3, hl, fun e he => absurd he (Nat.not_lt_zero _)⟩ (fun _ _ _ _ => rfl)
end
section
/-! The model dances: 124. -/
theorem xs_89 {v0 : Value} {xs : List Int32} {u : Nat × Nat} {f : Nat → zE} {fs : List Value} {ca dn cl c : Int} (hB : sMB f fs ca dn cl) (hc : -2147483648 ≤ c ∧ c ≤ 2147483647) (hca : 0 ≤ ca ∧ ca ≤ 12) : xq v0 xs u 89 [(0, .ref 177), (1, xi c)] f (fun r' f' => r' = some (xi (if 0 ≤ c ∧ c < ca then 1 else 0)) ∧ f' = f) := by
  unfold xq
  obtain ⟨⟨h177, hfl, ⟨f11, f13, f14, f15, f17, f18⟩, h25, h26, h27⟩, ⟨a1, a2, a3, a4, a5, a6⟩, h9, h31, h30⟩ := hB
  refine x_iload_n rfl rfl ?_
  refine x_iflt (t := 16) rfl rfl hc (fun h1 => ?_) (fun h1 => ?_)
  · refine x_iconst rfl ?_
    exact x_ireturn rfl (Or.inr (Or.inl ⟨rfl, by decide⟩)) ⟨_, _, rfl, rfl, by rw [if_neg (by omega)], rfl⟩
  · refine x_iload_n rfl rfl ?_
    refine x_aload_n rfl rfl ?_
    refine x_getfield rfl (by decide) h177 h9 ?_
    refine x_cge (t := 16) rfl rfl hc ⟨by omega, by omega⟩ (fun h2 => ?_) (fun h2 => ?_)
    · refine x_iconst rfl ?_
      exact x_ireturn rfl (Or.inr (Or.inl ⟨rfl, by decide⟩)) ⟨_, _, rfl, rfl, by rw [if_neg (by omega)], rfl⟩
    · refine x_iconst rfl ?_
      refine x_goto (t := 17) rfl rfl ?_
      exact x_ireturn rfl (Or.inr (Or.inl ⟨rfl, by decide⟩)) ⟨_, _, rfl, rfl, by rw [if_pos ⟨h1, h2⟩], rfl⟩
/-- what a dance comes to -/
def sPF (K : List (Int × Int)) (G : Nat → List xBt) (n : Nat) (back : Bool) (c : Int) (S : sS) : Int × Int × sS := if 0 ≤ c ∧ c < (n : Nat) then (if S.2.1.length = 24 then (2, 0, S) else if sres (sbt K (G c.toNat)) back S.1 (G c.toNat).length = 0 then (0, ((G c.toNat).length : Nat), (srow (sbt K (G c.toNat)) back S.1 (G c.toNat).length, S.2.1 ++ [(c.toNat, back, S.1)], 0)) else (2, 0, (S.1, S.2.1, sres (sbt K (G c.toNat)) back S.1 (G c.toNat).length))) else (1, 0, S)
def sMT (f : Nat → zE) (n : Nat) (S : sS) : Prop := (∃ fs : List Value, sMB f fs (n : Nat) (S.2.1.length : Nat) S.2.2) ∧ sMX f S.1 ∧ sMJ f S.2.1 ∧ ∃ ax ay af : List Int, sMC f ax ay af
def sCD (f : Nat → zE) (t : Int) : Prop := ∃ fs : List Value, f 177 = .inl (10, fs) ∧ fs[0]? = some (xi t)
theorem sH_app (H : List sHE) (e : sHE) (i : Nat) : (H ++ [e]).getD i sH0 = if i < H.length then H.getD i sH0 else if i = H.length then e else sH0 := by
  rw [List.getD_eq_getElem?_getD]
  by_cases h : i < H.length
  · rw [if_pos h, List.getElem?_append_left h, ← List.getD_eq_getElem?_getD]
  · rw [if_neg h, List.getElem?_append_right (by omega)]
    by_cases h2 : i = H.length
    · rw [if_pos h2, h2, Nat.sub_self]
      rfl
    · rw [if_neg h2, List.getElem?_eq_none (by simp; omega)]
      rfl
theorem xs_124l {v0 : Value} {xs : List Int32} {u : Nat × Nat} {Q : zO → zX → Prop} {f0 : Nat → zE} {fs : List Value} {ca dn cl c : Int} {back : Bool} {cur : Nat → Int} {be : List Int} (hB : sMB f0 fs ca dn cl) (hX : sMX f0 cur) (hdn : 0 ≤ dn ∧ dn < 24)
    (hkk : ∀ (lv : zL) (f : Nat → zE), zlv lv 0 = some (.ref 177) → zlv lv 1 = some (xi c) → zlv lv 2 = some (xi (if back = true then 1 else 0)) → (∃ bl : List Int, f 197 = xr 0 bl ∧ bl.length = 192 ∧ (∀ j : Nat, (j : Int) < 8 * dn → bl.getD j 0 = be.getD j 0) ∧ ∀ e : Nat, e < 8 → bl.getD (8 * dn + (e : Nat)).toNat 0 = cur e) → (∀ q, q ≠ 197 → f q = f0 q) → xz v0 xs u Q 124 133 lv [] f) : ∀ (w d : Nat) (lv : zL) (f : Nat → zE), w + d = 8 → zlv lv 0 = some (.ref 177) → zlv lv 1 = some (xi c) → zlv lv 2 = some (xi (if back = true then 1 else 0)) → zlv lv 3 = some (xi (d : Nat)) → (∃ bl : List Int, f 197 = xr 0 bl ∧ bl.length = 192 ∧ (∀ j : Nat, (j : Int) < 8 * dn → bl.getD j 0 = be.getD j 0) ∧ ∀ e : Nat, e < d → bl.getD (8 * dn + (e : Nat)).toNat 0 = cur e) → (∀ q, q ≠ 197 → f q = f0 q) → xz v0 xs u Q 124 82 lv [] f := by
  obtain ⟨⟨h177, hfl, ⟨f11, f13, f14, f15, f17, f18⟩, h25, h26, h27⟩, ⟨a1, a2, a3, a4, a5, a6⟩, h9, h31, h30⟩ := hB
  obtain ⟨mx, my, mf, h189, h190, h191, ⟨x1, x2, x3⟩, hxyf⟩ := hX
  intro w
  induction w with
  | zero =>
    intro d lv f hw l0 l1 l2 l3 hbe hfr
    have e8 : d = 8 := by omega
    subst e8
    refine x_iload_n rfl l3 ?_
    refine x_bipush rfl (by decide) ?_
    refine x_cge (t := 133) rfl rfl (by decide) (by decide) (fun _ => ?_) (fun h => absurd h (by decide))
    exact hkk lv f l0 l1 l2 hbe hfr
  | succ w ih =>
    intro d lv f hw l0 l1 l2 l3 hbe hfr
    obtain ⟨bl, w1, w2, w3, w4⟩ := hbe
    have hd : d < 8 := by omega
    obtain ⟨⟨g1, g2, g3⟩, -⟩ := hxyf d hd
    refine x_iload_n rfl l3 ?_
    refine x_bipush rfl (by decide) ?_
    refine x_cge (t := 133) rfl rfl ⟨by omega, by omega⟩ (by decide) (fun h => absurd h (by omega)) (fun _ => ?_)
    refine x_aload_n rfl l0 ?_
    refine x_getfield rfl (by decide) ((hfr 177 (by decide)).trans h177) a6 ?_
    refine x_bipush rfl (by decide) ?_
    refine x_aload_n rfl l0 ?_
    refine x_getfield rfl (by decide) ((hfr 177 (by decide)).trans h177) h31 ?_
    refine x_imul rfl ?_
    refine x_iload_n rfl l3 ?_
    refine x_iadd rfl ?_
    refine x_iconst rfl ?_
    refine x_bipush rfl (by decide) ?_
    refine x_aload_n rfl l0 ?_
    refine x_getfield rfl (by decide) ((hfr 177 (by decide)).trans h177) a2 ?_
    refine x_iload_n rfl l3 ?_
    refine x_iaload rfl (by decide) ((hfr 190 (by decide)).trans h190) ⟨by omega, by omega⟩ (by omega) ?_
    rw [Int.toNat_natCast, g2]
    refine x_imul rfl ?_
    refine x_aload_n rfl l0 ?_
    refine x_getfield rfl (by decide) ((hfr 177 (by decide)).trans h177) a1 ?_
    refine x_iload_n rfl l3 ?_
    refine x_iaload rfl (by decide) ((hfr 189 (by decide)).trans h189) ⟨by omega, by omega⟩ (by omega) ?_
    rw [Int.toNat_natCast, g1]
    refine x_iadd rfl ?_
    refine x_imul rfl ?_
    refine x_aload_n rfl l0 ?_
    refine x_getfield rfl (by decide) ((hfr 177 (by decide)).trans h177) a3 ?_
    refine x_iload_n rfl l3 ?_
    refine x_iaload rfl (by decide) ((hfr 191 (by decide)).trans h191) ⟨by omega, by omega⟩ (by omega) ?_
    rw [Int.toNat_natCast, g3]
    refine x_iadd rfl ?_
    rw [← s_eq (cur d)]
    refine x_iastore rfl (by decide) w1 ⟨by omega, by omega⟩ (by omega) ?_
    refine x_iinc rfl l3 (show (3 : Nat) < 4 from by decide) ?_
    refine x_goto (t := 82) rfl rfl ?_
    refine ih (d + 1) _ _ (by omega) (xst_ne (by decide) l0 (Or.inl rfl)) (xst_ne (by decide) l1 (Or.inl rfl)) (xst_ne (by decide) l2 (Or.inl rfl)) xst_eq ⟨_, xu_eq, by rw [List.length_set]; exact w2, fun j hj => ?_, fun e he => ?_⟩ (fun q b1 => xu_ne b1 (hfr q b1))
    · rw [x_gset, if_neg (by omega)]; exact w3 j hj
    · rw [x_gset]
      by_cases h2 : d = e
      · subst h2
        rw [if_pos ⟨rfl, by omega⟩]
      · rw [if_neg (by omega)]
        exact w4 e (by omega)
theorem xs_124 {v0 : Value} {xs : List Int32} {u : Nat × Nat} {f : Nat → zE} {K : List (Int × Int)} {G : Nat → List xBt} {n : Nat} {back : Bool} {c : Int} {S : sS} (hT : sMT f n S) (hn : n ≤ 12) (hK : ∀ c, c < n → sKM f K c (G c)) (hG : ∀ c, c < n → sGok K (G c)) (hc : -2147483648 ≤ c ∧ c ≤ 2147483647) : xq v0 xs u 124 [(0, .ref 177), (1, xi c), (2, xi (if back = true then 1 else 0))] f (fun r' f' => r' = some (xi (sPF K G n back c S).2.1) ∧ sCD f' (sPF K G n back c S).1 ∧ sMT f' n (sPF K G n back c S).2.2 ∧ ∀ q, q ≠ 177 → ¬ (189 ≤ q ∧ q ≤ 197) → f' q = f q) := by
  unfold xq
  obtain ⟨⟨fs, hB⟩, hX, hJ, ax0, ay0, af0, hmc⟩ := hT
  have hB0 := hB
  obtain ⟨⟨h177, hfl, ⟨f11, f13, f14, f15, f17, f18⟩, h25, h26, h27⟩, ⟨a1, a2, a3, a4, a5, a6⟩, h9, h31, h30⟩ := hB
  have h24 := hJ.1
  refine x_aload_n rfl rfl ?_
  refine x_aload_n rfl rfl ?_
  refine x_iload_n rfl rfl ?_
  refine x_call [_, _] rfl rfl (show (1 : Nat) ≤ 8 from by decide) (show (2 : Nat) ≤ 2 from by decide) (x_rcv (by decide) h177) (xs_89 hB0 hc ⟨by omega, by omega⟩) ?_
  intro r' f1 hP
  obtain ⟨rfl, hPe⟩ := hP
  subst f1
  by_cases hcc : 0 ≤ c ∧ c < ((n : Nat) : Int)
  rotate_left
  · rw [if_neg hcc]
    refine x_ifne (t := 13) rfl rfl (by decide) (fun h => absurd rfl h) (fun _ => ?_)
    refine x_iconst rfl ?_
    refine x_goto (t := 27) rfl rfl ?_
    refine x_putfield rfl (by decide) h177 (show (0 : Nat) < _ from by rw [hfl]; decide) rfl ?_
    refine x_aload_n rfl rfl ?_
    refine x_getfield rfl (by decide) xu_eq (sget_eq (by rw [hfl]; decide)) ?_
    refine x_ifle (t := 39) rfl rfl (by decide) (fun h => absurd h (by decide)) (fun _ => ?_)
    refine x_iconst rfl ?_
    have e : sPF K G n back c S = (1, 0, S) := by unfold sPF; rw [if_neg hcc]
    rw [e]
    exact x_ireturn rfl (Or.inl rfl) ⟨_, _, rfl, rfl, rfl, ⟨_, xu_eq, sget_eq (by rw [hfl]; decide)⟩, ⟨⟨_, sMB_0 hB0 xu_eq⟩, sMX_f hX (fun q _ _ => xu_ne (by omega) rfl), sMJ_f hJ (fun q _ _ => xu_ne (by omega) rfl), ax0, ay0, af0, xu_ne (by decide) hmc.1, xu_ne (by decide) hmc.2.1, xu_ne (by decide) hmc.2.2.1, hmc.2.2.2⟩, fun q b1 _ => xu_ne b1 rfl⟩
  rw [if_pos hcc]
  refine x_ifne (t := 13) rfl rfl (by decide) (fun _ => ?_) (fun h => absurd h (by decide))
  refine x_aload_n rfl rfl ?_
  refine x_getfield rfl (by decide) h177 h31 ?_
  refine x_bipush rfl (by decide) ?_
  refine x_cne (t := 26) rfl rfl ⟨by omega, by omega⟩ (by decide) (fun hd => ?_) (fun hd => ?_)
  rotate_left
  · refine x_iconst rfl ?_
    refine x_goto (t := 27) rfl rfl ?_
    refine x_putfield rfl (by decide) h177 (show (0 : Nat) < _ from by rw [hfl]; decide) rfl ?_
    refine x_aload_n rfl rfl ?_
    refine x_getfield rfl (by decide) xu_eq (sget_eq (by rw [hfl]; decide)) ?_
    refine x_ifle (t := 39) rfl rfl (by decide) (fun h => absurd h (by decide)) (fun _ => ?_)
    refine x_iconst rfl ?_
    have e : sPF K G n back c S = (2, 0, S) := by unfold sPF; rw [if_pos hcc, if_pos (by omega)]
    rw [e]
    exact x_ireturn rfl (Or.inl rfl) ⟨_, _, rfl, rfl, rfl, ⟨_, xu_eq, sget_eq (by rw [hfl]; decide)⟩, ⟨⟨_, sMB_0 hB0 xu_eq⟩, sMX_f hX (fun q _ _ => xu_ne (by omega) rfl), sMJ_f hJ (fun q _ _ => xu_ne (by omega) rfl), ax0, ay0, af0, xu_ne (by decide) hmc.1, xu_ne (by decide) hmc.2.1, xu_ne (by decide) hmc.2.2.1, hmc.2.2.2⟩, fun q b1 _ => xu_ne b1 rfl⟩
  refine x_iconst rfl ?_
  refine x_putfield rfl (by decide) h177 (show (0 : Nat) < _ from by rw [hfl]; decide) rfl ?_
  refine x_aload_n rfl rfl ?_
  refine x_getfield rfl (by decide) xu_eq (sget_eq (by rw [hfl]; decide)) ?_
  refine x_ifle (t := 39) rfl rfl (by decide) (fun _ => ?_) (fun h => absurd h (by decide))
  have h24b : ¬ S.2.1.length = 24 := by omega
  obtain ⟨cn, rfl⟩ : ∃ k : Nat, c = (k : Int) := ⟨c.toNat, by omega⟩
  have hcn : cn < n := by omega
  have hB1 := sMB_0 (f' := xu f 177 (.inl (10, fs.set 0 (xi 0)))) hB0 xu_eq
  have hX1 : sMX (xu f 177 (.inl (10, fs.set 0 (xi 0)))) S.1 := sMX_f hX (fun q _ _ => xu_ne (by omega) rfl)
  have hmc1 : sMC (xu f 177 (.inl (10, fs.set 0 (xi 0)))) ax0 ay0 af0 := ⟨xu_ne (by decide) hmc.1, xu_ne (by decide) hmc.2.1, xu_ne (by decide) hmc.2.2.1, hmc.2.2.2⟩
  refine x_aload_n rfl rfl ?_
  refine x_call [_] rfl rfl (show (0 : Nat) ≤ 8 from by decide) (show (1 : Nat) ≤ 2 from by decide) (x_rcv (by decide) xu_eq) (xs_110 hB1 hX1 hmc1) ?_
  intro r' f2 hP
  obtain ⟨rfl, ⟨ax, ay, af, hmc2, hml⟩, hfr2⟩ := hP
  have e177 : f2 177 = .inl (10, fs.set 0 (xi 0)) := (hfr2 177 (by decide) (by decide) (by decide)).trans xu_eq
  have hB2 := sMB_f hB1 (f' := f2) (hfr2 177 (by decide) (by decide) (by decide))
  have hfa : ∀ q, q ≠ 177 → q ≠ 192 → q ≠ 193 → q ≠ 194 → f2 q = f q := fun q b0 b1 b2 b3 => (hfr2 q b1 b2 b3).trans (xu_ne b0 rfl)
  have hKM2 : sKM f2 K cn (G cn) := sKM_f (hK cn hcn) (fun q _ _ => hfa q (by omega) (by omega) (by omega) (by omega))
  refine x_aload_n rfl rfl ?_
  refine x_iload_n rfl rfl ?_
  refine x_iload_n rfl rfl ?_
  refine x_call [_, _, _] rfl rfl (show (0 : Nat) ≤ 8 from by decide) (show (3 : Nat) ≤ 10 from by decide) (x_rcv (by decide) e177) (xs_122 hKM2 (hG cn hcn) hB2.1 hmc2 hml) ?_
  intro r' f3 hP
  obtain ⟨rfl, ⟨fs3, hm3, hk3, hbad⟩, ⟨bx, bY, bf, hmc3, hgood⟩, hfr3⟩ := hP
  have hB3 := sMB_k hB2 hm3 hk3
  have hfb : ∀ q, q ≠ 177 → q ≠ 192 → q ≠ 193 → q ≠ 194 → f3 q = f q := fun q b0 b1 b2 b3 => (hfr3 q b0 b1 b2 b3).trans (hfa q b0 b1 b2 b3)
  have hX3 : sMX f3 S.1 := sMX_f hX (fun q _ _ => hfb q (by omega) (by omega) (by omega) (by omega))
  have hJ3 : sMJ f3 S.2.1 := sMJ_f hJ (fun q _ _ => hfb q (by omega) (by omega) (by omega) (by omega))
  have hB30 := hB3
  obtain ⟨⟨gh177, ghfl, ⟨gf11, gf13, gf14, gf15, gf17, gf18⟩, gh25, gh26, gh27⟩, ⟨ga1, ga2, ga3, ga4, ga5, ga6⟩, gh9, gh31, gh30⟩ := hB3
  have hlen16 := (hG cn hcn).1
  by_cases hs : sres (sbt K (G cn)) back S.1 (G cn).length = 0
  rotate_left
  · rw [if_neg hs]
    obtain ⟨b, k, q1, q2, q3⟩ := hbad hs
    refine x_ifne (t := 75) rfl rfl (by decide) (fun h => absurd rfl h) (fun _ => ?_)
    refine x_aload_n rfl rfl ?_
    refine x_bipush rfl (by decide) ?_
    refine x_aload_n rfl rfl ?_
    refine x_getfield rfl (by decide) gh177 q1 ?_
    refine x_imul rfl ?_
    refine x_aload_n rfl rfl ?_
    refine x_getfield rfl (by decide) gh177 q2 ?_
    refine x_iadd rfl ?_
    rw [q3]
    refine x_putfield rfl (by decide) gh177 (show (30 : Nat) < _ from by rw [ghfl]; decide) rfl ?_
    refine x_aload_n rfl rfl ?_
    refine x_iconst rfl ?_
    refine x_putfield rfl (by decide) xu_eq (show (0 : Nat) < _ from by rw [(slen ghfl)]; decide) rfl ?_
    refine x_iconst rfl ?_
    have e : sPF K G n back (cn : Nat) S = (2, 0, (S.1, S.2.1, sres (sbt K (G cn)) back S.1 (G cn).length)) := by unfold sPF; rw [if_pos hcc, if_neg h24b, Int.toNat_natCast, if_neg hs]
    rw [e]
    refine x_ireturn rfl (Or.inl rfl) ⟨_, _, rfl, rfl, rfl, ⟨_, xu_eq, sget_eq (by rw [slen ghfl]; decide)⟩, ⟨⟨_, sMB_0 (sMB_30 (f' := fun _ => .inl (10, fs3.set 30 (xi (sres (sbt K (G cn)) back S.1 (G cn).length)))) hB30 rfl) xu_eq⟩, sMX_f hX3 (fun q _ _ => xu_ne (by omega) (xu_ne (by omega) rfl)), sMJ_f hJ3 (fun q _ _ => xu_ne (by omega) (xu_ne (by omega) rfl)), bx, bY, bf, xu_ne (by decide) (xu_ne (by decide) hmc3.1), xu_ne (by decide) (xu_ne (by decide) hmc3.2.1), xu_ne (by decide) (xu_ne (by decide) hmc3.2.2.1), hmc3.2.2.2⟩, fun q b1 b2 => xu_ne b1 (xu_ne b1 (hfb q b1 (by omega) (by omega) (by omega)))⟩
  rw [if_pos hs]
  have hrows := hgood hs
  obtain ⟨hj24, wl, bl, be, j195, j196, j197, ⟨y1, y2, y3⟩, hji⟩ := id hJ3
  refine x_ifne (t := 75) rfl rfl (by decide) (fun _ => ?_) (fun h => absurd h (by decide))
  refine x_aload_n rfl rfl ?_
  refine x_iconst rfl ?_
  refine x_putfield rfl (by decide) gh177 (show (30 : Nat) < _ from by rw [ghfl]; decide) rfl ?_
  refine x_iconst rfl ?_
  refine x_istore_n rfl (show (3 : Nat) < 4 from by decide) ?_
  have hB4 := sMB_30 (f' := xu f3 177 (.inl (10, fs3.set 30 (xi 0)))) hB30 xu_eq
  have hX4 : sMX (xu f3 177 (.inl (10, fs3.set 30 (xi 0)))) S.1 := sMX_f hX3 (fun q _ _ => xu_ne (by omega) rfl)
  refine xs_124l (be := be) hB4 hX4 ⟨by omega, by omega⟩ (fun lv2 f4 m0 m1 m2 hbe hfr4 => ?_) 8 0 _ _ rfl (xst_ne (by decide) rfl (Or.inl rfl)) (xst_ne (by decide) rfl (Or.inl rfl)) (xst_ne (by decide) rfl (Or.inl rfl)) xst_eq ⟨be, xu_ne (by decide) j197, y3, fun _ _ => rfl, fun e he => absurd he (Nat.not_lt_zero _)⟩ (fun _ _ => rfl)
  obtain ⟨be4, e197, e1, e2, e3⟩ := hbe
  have e177b : f4 177 = .inl (10, fs3.set 30 (xi 0)) := (hfr4 177 (by decide)).trans xu_eq
  have e195 : f4 195 = xr 0 wl := (hfr4 195 (by decide)).trans (xu_ne (by decide) j195)
  have e196 : f4 196 = xr 2 bl := (hfr4 196 (by decide)).trans (xu_ne (by decide) j196)
  have hfc : ∀ q, q ≠ 177 → q ≠ 197 → q ≠ 192 → q ≠ 193 → q ≠ 194 → f4 q = f q := fun q b0 b4 b1 b2 b3 => (hfr4 q b4).trans (xu_ne b0 (hfb q b0 b1 b2 b3))
  obtain ⟨-, cnl, tk, pf, pq, se, at', k180, -, -, -, -, -, ⟨kl, -⟩, hcnt, -⟩ := hK cn hcn
  have e180 : f4 180 = xr 0 cnl := (hfc 180 (by decide) (by decide) (by decide) (by decide) (by decide)).trans k180
  refine x_aload_n rfl m0 ?_
  refine x_getfield rfl (by decide) e177b (sget_ne (by decide) ga4) ?_
  refine x_aload_n rfl m0 ?_
  refine x_getfield rfl (by decide) e177b (sget_ne (by decide) gh31) ?_
  refine x_iload_n rfl m1 ?_
  refine x_iastore rfl (by decide) e195 ⟨by omega, by omega⟩ (by omega) ?_
  refine x_aload_n rfl m0 ?_
  refine x_getfield rfl (by decide) (xu_ne (by decide) e177b) (sget_ne (by decide) ga5) ?_
  refine x_aload_n rfl m0 ?_
  refine x_getfield rfl (by decide) (xu_ne (by decide) e177b) (sget_ne (by decide) gh31) ?_
  refine x_iload_n rfl m2 ?_
  refine x_bastore rfl (by decide) (xu_ne (by decide) e196) ⟨by omega, by omega⟩ (by omega) (by cases back <;> decide) ?_
  refine x_aload_n rfl m0 ?_
  refine x_dup rfl ?_
  refine x_getfield rfl (by decide) (xu_ne (by decide) (xu_ne (by decide) e177b)) (sget_ne (by decide) gh31) ?_
  refine x_iconst rfl ?_
  refine x_iadd rfl ?_
  refine x_putfield rfl (by decide) (xu_ne (by decide) (xu_ne (by decide) e177b)) (show (31 : Nat) < _ from by rw [(slen ghfl)]; decide) rfl ?_
  generalize hf5 : xu (xu (xu f4 195 _) 196 _) 177 _ = f5
  have g177 : f5 177 = .inl (10, (fs3.set 30 (xi 0)).set 31 (xi ((S.2.1.length : Nat) + 1))) := by rw [← hf5]; exact xu_eq
  have g195 : f5 195 = xr 0 (wl.set S.2.1.length (cn : Nat)) := by rw [← hf5]; exact xu_ne (by decide) (xu_ne (by decide) xu_eq)
  have g196 : f5 196 = xr 2 (bl.set S.2.1.length (if back = true then 1 else 0)) := by rw [← hf5]; exact xu_ne (by decide) xu_eq
  have hfd : ∀ q, q ≠ 177 → q ≠ 195 → q ≠ 196 → f5 q = f4 q := fun q b0 b1 b2 => by rw [← hf5]; exact xu_ne b0 (xu_ne b2 (xu_ne b1 rfl))
  have g197 : f5 197 = xr 0 be4 := (hfd 197 (by decide) (by decide) (by decide)).trans e197
  have g180 : f5 180 = xr 0 cnl := (hfd 180 (by decide) (by decide) (by decide)).trans e180
  have hfe : ∀ q, q ≠ 177 → q ≠ 197 → q ≠ 195 → q ≠ 196 → f5 q = f3 q := fun q b0 b4 b1 b2 => (hfd q b0 b1 b2).trans ((hfr4 q b4).trans (xu_ne b0 rfl))
  have hB5 := sMB_31 hB4 g177
  have hmc5 : sMC f5 bx bY bf := ⟨(hfe 192 (by decide) (by decide) (by decide) (by decide)).trans hmc3.1, (hfe 193 (by decide) (by decide) (by decide) (by decide)).trans hmc3.2.1, (hfe 194 (by decide) (by decide) (by decide) (by decide)).trans hmc3.2.2.1, hmc3.2.2.2⟩
  have hX5 : sMX f5 S.1 := sMX_f hX3 (fun q _ _ => hfe q (by omega) (by omega) (by omega) (by omega))
  have hJ5 : sMJ f5 (S.2.1 ++ [(cn, back, S.1)]) := by
    refine ⟨by rw [List.length_append]; simp only [List.length_singleton]; omega, _, _, _, g195, g196, g197, ⟨by rw [List.length_set]; exact y1, by rw [List.length_set]; exact y2, e1⟩, fun i hi => ?_⟩
    rw [List.length_append, List.length_singleton] at hi
    rw [sH_app, x_gset, x_gset]
    by_cases h2 : S.2.1.length = i
    · subst h2
      rw [if_neg (Nat.lt_irrefl _), if_pos rfl, if_pos ⟨rfl, by omega⟩, if_pos ⟨rfl, by omega⟩]
      refine ⟨rfl, rfl, fun d hd => ⟨?_, ?_⟩⟩
      · show be4.getD (8 * S.2.1.length + d) 0 = S.1 d
        rw [← e3 d hd]
        exact congrArg (fun k => be4.getD k 0) (by omega)
      · obtain ⟨_, _, _, -, -, -, -, hxx⟩ := hX
        exact (hxx d hd).2
    · rw [if_pos (show i < S.2.1.length by omega), if_neg (fun h => h2 h.1), if_neg (fun h => h2 h.1)]
      obtain ⟨t1, t2, t3⟩ := hji i (by omega)
      refine ⟨t1, t2, fun d hd => ?_⟩
      rw [e2 _ (by omega)]
      exact t3 d hd
  have hml5 : sML bx bY bf (8 * ((G cn).length : Nat)) (srow (sbt K (G cn)) back S.1 (G cn).length) := hrows _ (Nat.le_refl _)
  refine x_aload_n rfl m0 ?_
  refine x_aload_n rfl m0 ?_
  refine x_getfield rfl (by decide) g177 (sget_ne (by decide) (sget_ne (by decide) gf11)) ?_
  refine x_iload_n rfl m1 ?_
  refine x_iaload rfl (by decide) g180 ⟨by omega, by omega⟩ (by omega) ?_
  rw [Int.toNat_natCast, hcnt]
  refine x_call [_, _] rfl rfl (show (0 : Nat) ≤ 8 from by decide) (show (2 : Nat) ≤ 3 from by decide) (x_rcv (by decide) g177) (xs_123 hB5 hX5 hmc5 ⟨by omega, by omega⟩ hml5) ?_
  intro r' f6 hP
  obtain ⟨rfl, hX6, hfr6⟩ := hP
  refine x_aload_n rfl m0 ?_
  refine x_getfield rfl (by decide) ((hfr6 177 (by decide) (by decide) (by decide)).trans g177) (sget_ne (by decide) (sget_ne (by decide) gf11)) ?_
  refine x_iload_n rfl m1 ?_
  refine x_iaload rfl (by decide) ((hfr6 180 (by decide) (by decide) (by decide)).trans g180) ⟨by omega, by omega⟩ (by omega) ?_
  rw [Int.toNat_natCast, hcnt]
  have e : sPF K G n back (cn : Nat) S = (0, (((G cn).length : Nat) : Int), (srow (sbt K (G cn)) back S.1 (G cn).length, S.2.1 ++ [(cn, back, S.1)], 0)) := by unfold sPF; rw [if_pos hcc, if_neg h24b, Int.toNat_natCast, if_pos hs]
  rw [e]
  refine x_ireturn rfl (Or.inl rfl) ⟨_, _, rfl, rfl, rfl, ⟨_, (hfr6 177 (by decide) (by decide) (by decide)).trans g177, sget_ne (by decide) (sget_ne (by decide) ((hk3 0 (by decide) (by decide)).trans (sget_eq (by rw [hfl]; decide))))⟩, ⟨⟨(fs3.set 30 (xi 0)).set 31 (xi ((S.2.1.length : Nat) + 1)), ?_⟩, hX6, sMJ_f hJ5 (fun q _ _ => hfr6 q (by omega) (by omega) (by omega)), bx, bY, bf, (hfr6 _ (by decide) (by decide) (by decide)).trans hmc5.1, (hfr6 _ (by decide) (by decide) (by decide)).trans hmc5.2.1, (hfr6 _ (by decide) (by decide) (by decide)).trans hmc5.2.2.1, hmc5.2.2.2⟩, fun q b1 b2 => (hfr6 q (by omega) (by omega) (by omega)).trans ((hfe q b1 (by omega) (by omega) (by omega)).trans (hfb q b1 (by omega) (by omega) (by omega)))⟩
  rw [List.length_append, List.length_singleton]
  exact sMB_f hB5 (hfr6 177 (by decide) (by decide) (by decide))
end
section
/-! The model's other methods of dancing. -/
/-- a method of the model: its answer, its code, its state -/
def sMq (v0 : Value) (xs : List Int32) (u : Nat × Nat) (m : Nat) (lv : zL) (f : Nat → zE) (n : Nat) (R : Int × Int × sS) : Prop := xq v0 xs u m lv f (fun r' f' => r' = some (xi R.2.1) ∧ sCD f' R.1 ∧ sMT f' n R.2.2 ∧ ∀ q, q ≠ 177 → ¬ (189 ≤ q ∧ q ≤ 197) → f' q = f q)
theorem sMT_0 {f : Nat → zE} {fs : List Value} {n : Nat} {S : sS} {v : Value} (hB : sMB f fs (n : Nat) (S.2.1.length : Nat) S.2.2) (hX : sMX f S.1) (hJ : sMJ f S.2.1) (hC : ∃ ax ay af : List Int, sMC f ax ay af) : sMT (xu f 177 (.inl (10, fs.set 0 v))) n S := by
  obtain ⟨ax, ay, af, h1, h2, h3, h4⟩ := hC
  exact ⟨⟨_, sMB_0 hB xu_eq⟩, sMX_f hX (fun q _ _ => xu_ne (by omega) rfl), sMJ_f hJ (fun q _ _ => xu_ne (by omega) rfl), ax, ay, af, xu_ne (by decide) h1, xu_ne (by decide) h2, xu_ne (by decide) h3, h4⟩
theorem xs_125 {v0 : Value} {xs : List Int32} {u : Nat × Nat} {f : Nat → zE} {n : Nat} {S : sS} (hT : sMT f n S) {K : List (Int × Int)} {G : Nat → List xBt} (hn : n ≤ 12) (hK : ∀ c, c < n → sKM f K c (G c)) {c : Int} (hG : ∀ c, c < n → sGok K (G c)) (hc : -2147483648 ≤ c ∧ c ≤ 2147483647) : sMq v0 xs u 125 [(0, .ref 177), (1, xi c)] f n (sPF K G n false c S) := by
  unfold sMq xq
  obtain ⟨fs, hB⟩ := hT.1
  have h177 := hB.1.1
  refine x_aload_n rfl rfl ?_
  refine x_iload_n rfl rfl ?_
  refine x_iconst rfl ?_
  refine x_call [_, _, _] rfl rfl (show (0 : Nat) ≤ 8 from by decide) (show (3 : Nat) ≤ 4 from by decide) (x_rcv (by decide) h177) (xs_124 (back := false) (c := c) hT hn hK hG hc) ?_
  intro r' f1 hP
  obtain ⟨rfl, h1, h2, h3⟩ := hP
  exact x_ireturn rfl (Or.inl rfl) ⟨_, _, rfl, rfl, rfl, h1, h2, h3⟩
theorem xs_128 {v0 : Value} {xs : List Int32} {u : Nat × Nat} {f : Nat → zE} {n : Nat} {S : sS} (hT : sMT f n S) {K : List (Int × Int)} {G : Nat → List xBt} (hn : n ≤ 12) (hK : ∀ c, c < n → sKM f K c (G c)) {c : Int} (hG : ∀ c, c < n → sGok K (G c)) (hc : -2147483648 ≤ c ∧ c ≤ 2147483647) : sMq v0 xs u 128 [(0, .ref 177), (1, xi c)] f n (sPF K G n true c S) := by
  unfold sMq xq
  obtain ⟨fs, hB⟩ := hT.1
  have h177 := hB.1.1
  refine x_aload_n rfl rfl ?_
  refine x_iload_n rfl rfl ?_
  refine x_iconst rfl ?_
  refine x_call [_, _, _] rfl rfl (show (0 : Nat) ≤ 8 from by decide) (show (3 : Nat) ≤ 4 from by decide) (x_rcv (by decide) h177) (xs_124 (back := true) (c := c) hT hn hK hG hc) ?_
  intro r' f1 hP
  obtain ⟨rfl, h1, h2, h3⟩ := hP
  exact x_ireturn rfl (Or.inl rfl) ⟨_, _, rfl, rfl, rfl, h1, h2, h3⟩
theorem xs_130 {v0 : Value} {xs : List Int32} {u : Nat × Nat} {f : Nat → zE} {n : Nat} {S : sS} (hT : sMT f n S) : sMq v0 xs u 130 [(0, .ref 177)] f n (0, S.2.2, S) := by
  unfold sMq xq
  obtain ⟨⟨fs, hB⟩, hX, hJ, hC⟩ := hT
  have hB0 := hB
  obtain ⟨⟨h177, hfl, ⟨f11, f13, f14, f15, f17, f18⟩, h25, h26, h27⟩, ⟨a1, a2, a3, a4, a5, a6⟩, h9, h31, h30⟩ := hB
  refine x_aload_n rfl rfl ?_
  refine x_iconst rfl ?_
  refine x_putfield rfl (by decide) h177 (show (0 : Nat) < _ from by rw [hfl]; decide) rfl ?_
  refine x_aload_n rfl rfl ?_
  refine x_getfield rfl (by decide) xu_eq (sget_ne (by decide) h30) ?_
  exact x_ireturn rfl (Or.inl rfl) ⟨_, _, rfl, rfl, rfl, ⟨_, xu_eq, sget_eq (by rw [hfl]; decide)⟩, sMT_0 hB0 hX hJ hC, fun q b1 _ => xu_ne b1 rfl⟩
theorem xs_140 {v0 : Value} {xs : List Int32} {u : Nat × Nat} {f : Nat → zE} {d : Int} (hd : -2147483648 ≤ d ∧ d ≤ 2147483647) : xq v0 xs u 140 [(0, xi d)] f (fun r' f' => r' = some (xi (if 0 ≤ d ∧ d < 8 then 1 else 0)) ∧ f' = f) := by
  unfold xq
  refine x_iload_n rfl rfl ?_
  refine x_iflt (t := 14) rfl rfl hd (fun h1 => ?_) (fun h1 => ?_)
  · refine x_iconst rfl ?_
    exact x_ireturn rfl (Or.inr (Or.inl ⟨rfl, by decide⟩)) ⟨_, _, rfl, rfl, by rw [if_neg (by omega)], rfl⟩
  · refine x_iload_n rfl rfl ?_
    refine x_bipush rfl (by decide) ?_
    refine x_cge (t := 14) rfl rfl hd (by decide) (fun h2 => ?_) (fun h2 => ?_)
    · refine x_iconst rfl ?_
      exact x_ireturn rfl (Or.inr (Or.inl ⟨rfl, by decide⟩)) ⟨_, _, rfl, rfl, by rw [if_neg (by omega)], rfl⟩
    · refine x_iconst rfl ?_
      refine x_goto (t := 15) rfl rfl ?_
      exact x_ireturn rfl (Or.inr (Or.inl ⟨rfl, by decide⟩)) ⟨_, _, rfl, rfl, by rw [if_pos ⟨h1, h2⟩], rfl⟩
def sUN (G : Nat → List xBt) (S : sS) : Int × Int × sS := if S.2.1.length = 0 then (1, 0, S) else (0, ((G (S.2.1.getD (S.2.1.length - 1) sH0).1).length : Nat), ((S.2.1.getD (S.2.1.length - 1) sH0).2.2, S.2.1.take (S.2.1.length - 1), S.2.2))
theorem xs_134l {v0 : Value} {xs : List Int32} {u : Nat × Nat} {Q : zO → zX → Prop} {f0 : Nat → zE} {fs : List Value} {ca dn cl _z : Int} {r : Nat → Int} {be : List Int} (hB : sMB f0 fs ca dn cl) (h197 : f0 197 = xr 0 be) (hbl : be.length = 192) (hdn : 0 ≤ dn ∧ dn < 24) (hr : ∀ d, d < 8 → be.getD (8 * (dn) + (d : Nat)).toNat 0 = r d ∧ sok (r d))
    (hkk : ∀ (lv : zL) (f : Nat → zE), zlv lv 0 = some (.ref 177) → (∃ ax ay af : List Int, sMC f ax ay af ∧ ∀ e, e < 8 → sMP ax ay af ((e : Nat) : Int) (r e)) → (∀ q, q ≠ 192 → q ≠ 193 → q ≠ 194 → f q = f0 q) → xz v0 xs u Q 134 68 lv [] f) : ∀ (w d : Nat) (lv : zL) (f : Nat → zE), w + d = 8 → zlv lv 0 = some (.ref 177) → zlv lv 1 = some (xi (d : Nat)) → (∃ ax ay af : List Int, sMC f ax ay af ∧ ∀ e, e < d → sMP ax ay af ((e : Nat) : Int) (r e)) → (∀ q, q ≠ 192 → q ≠ 193 → q ≠ 194 → f q = f0 q) → xz v0 xs u Q 134 37 lv [] f := by
  have hB0 := hB
  obtain ⟨⟨h177, hfl, ⟨f11, f13, f14, f15, f17, f18⟩, h25, h26, h27⟩, ⟨a1, a2, a3, a4, a5, a6⟩, h9, h31, h30⟩ := hB
  intro w
  induction w with
  | zero =>
    intro d lv f hw l0 l1 hrow hfr
    have e8 : d = 8 := by omega
    subst e8
    refine x_iload_n rfl l1 ?_
    refine x_bipush rfl (by decide) ?_
    refine x_cge (t := 68) rfl rfl (by decide) (by decide) (fun _ => ?_) (fun h => absurd h (by decide))
    exact hkk lv f l0 hrow hfr
  | succ w ih =>
    intro d lv f hw l0 l1 hrow hfr
    obtain ⟨ax, ay, af, hmc, hrow⟩ := hrow
    have hd : d < 8 := by omega
    obtain ⟨r1, r2⟩ := hr d hd
    have hB2 := sMB_f hB0 (f' := f) (hfr 177 (by decide) (by decide) (by decide))
    refine x_iload_n rfl l1 ?_
    refine x_bipush rfl (by decide) ?_
    refine x_cge (t := 68) rfl rfl ⟨by omega, by omega⟩ (by decide) (fun h => absurd h (by omega)) (fun _ => ?_)
    refine x_aload_n rfl l0 ?_
    refine x_iload_n rfl l1 ?_
    refine x_aload_n rfl l0 ?_
    refine x_getfield rfl (by decide) ((hfr 177 (by decide) (by decide) (by decide)).trans h177) a6 ?_
    refine x_bipush rfl (by decide) ?_
    refine x_aload_n rfl l0 ?_
    refine x_getfield rfl (by decide) ((hfr 177 (by decide) (by decide) (by decide)).trans h177) h31 ?_
    refine x_imul rfl ?_
    refine x_iload_n rfl l1 ?_
    refine x_iadd rfl ?_
    refine x_iaload rfl (by decide) ((hfr 197 (by decide) (by decide) (by decide)).trans h197) ⟨by omega, by omega⟩ (by omega) ?_
    rw [r1]
    refine x_call [_, _, _] rfl rfl (show (0 : Nat) ≤ 8 from by decide) (show (3 : Nat) ≤ 3 from by decide) (x_rcv (by decide) ((hfr 177 (by decide) (by decide) (by decide)).trans h177)) (xs_133 hB2 hmc hd r2) ?_
    intro r' f1 hP
    obtain ⟨rfl, hmc1, hfr1⟩ := hP
    refine x_iinc rfl l1 (show (1 : Nat) < 2 from by decide) ?_
    refine x_goto (t := 37) rfl rfl ?_
    refine ih (d + 1) _ _ (by omega) (xst_ne (by decide) l0 (Or.inl rfl)) xst_eq ⟨_, _, _, hmc1, sMP_set (n := 8) hmc.2.2.2 (by omega) hrow rfl rfl rfl⟩ (fun q b1 b2 b3 => (hfr1 q b1 b2 b3).trans (hfr q b1 b2 b3))
theorem xs_134 {v0 : Value} {xs : List Int32} {u : Nat × Nat} {f : Nat → zE} {n : Nat} {S : sS} (hT : sMT f n S) {K : List (Int × Int)} {G : Nat → List xBt} (hn : n ≤ 12) (hK : ∀ c, c < n → sKM f K c (G c)) (hc : ∀ i, i < S.2.1.length → (S.2.1.getD i sH0).1 < n) : sMq v0 xs u 134 [(0, .ref 177)] f n (sUN G S) := by
  unfold sMq xq
  obtain ⟨⟨fs, hB⟩, hX, hJ, hC⟩ := hT
  have hB0 := hB
  obtain ⟨⟨h177, hfl, ⟨f11, f13, f14, f15, f17, f18⟩, h25, h26, h27⟩, ⟨a1, a2, a3, a4, a5, a6⟩, h9, h31, h30⟩ := hB
  have h24 := hJ.1
  refine x_aload_n rfl rfl ?_
  refine x_aload_n rfl rfl ?_
  refine x_getfield rfl (by decide) h177 h31 ?_
  refine x_ifne (t := 12) rfl rfl ⟨by omega, by omega⟩ (fun hd => ?_) (fun hd => ?_)
  rotate_left
  · refine x_iconst rfl ?_
    refine x_goto (t := 13) rfl rfl ?_
    refine x_putfield rfl (by decide) h177 (show (0 : Nat) < _ from by rw [hfl]; decide) rfl ?_
    refine x_aload_n rfl rfl ?_
    refine x_getfield rfl (by decide) xu_eq (sget_eq (by rw [hfl]; decide)) ?_
    refine x_ifle (t := 25) rfl rfl (by decide) (fun h => absurd h (by decide)) (fun _ => ?_)
    refine x_iconst rfl ?_
    have e : sUN G S = (1, 0, S) := by unfold sUN; rw [if_pos (by omega)]
    rw [e]
    exact x_ireturn rfl (Or.inl rfl) ⟨_, _, rfl, rfl, rfl, ⟨_, xu_eq, sget_eq (by rw [hfl]; decide)⟩, sMT_0 hB0 hX hJ hC, fun q b1 _ => xu_ne b1 rfl⟩
  refine x_iconst rfl ?_
  refine x_putfield rfl (by decide) h177 (show (0 : Nat) < _ from by rw [hfl]; decide) rfl ?_
  refine x_aload_n rfl rfl ?_
  refine x_getfield rfl (by decide) xu_eq (sget_eq (by rw [hfl]; decide)) ?_
  refine x_ifle (t := 25) rfl rfl (by decide) (fun _ => ?_) (fun h => absurd h (by decide))
  refine x_aload_n rfl rfl ?_
  refine x_dup rfl ?_
  refine x_getfield rfl (by decide) xu_eq (sget_ne (by decide) h31) ?_
  refine x_iconst rfl ?_
  refine x_isub rfl ?_
  refine x_putfield rfl (by decide) xu_eq (show (31 : Nat) < _ from by rw [(slen hfl)]; decide) rfl ?_
  refine x_iconst rfl ?_
  refine x_istore_n rfl (show (1 : Nat) < 2 from by decide) ?_
  obtain ⟨m, hm⟩ : ∃ m : Nat, S.2.1.length = m + 1 := ⟨S.2.1.length - 1, by omega⟩
  rw [show ((S.2.1.length : Nat) : Int) - 1 = (m : Nat) from by omega]
  obtain ⟨hj24, wl, bl, be, j195, j196, j197, ⟨y1, y2, y3⟩, hji⟩ := id hJ
  obtain ⟨t1, t2, t3⟩ := hji m (by omega)
  obtain ⟨ax0, ay0, af0, hmc⟩ := hC
  have hcm := hc m (by omega)
  generalize hr : S.2.1.getD m sH0 = e at t1 t2 t3 hcm
  generalize hf2 : xu (xu f 177 _) 177 _ = f2
  have g177 : f2 177 = .inl (10, (fs.set 0 (xi 0)).set 31 (xi (m : Nat))) := by rw [← hf2]; exact xu_eq
  have hfa : ∀ q, q ≠ 177 → f2 q = f q := fun q b => by rw [← hf2]; exact xu_ne b (xu_ne b rfl)
  have hB2 := sMB_31 (sMB_0 (f' := fun _ => .inl (10, fs.set 0 (xi 0))) hB0 rfl) g177
  have g197 := (hfa 197 (by decide)).trans j197
  refine xs_134l (_z := 0) (r := e.2.2) hB2 g197 y3 ⟨by omega, by omega⟩ (fun d hd => by rw [show (8 * ((m : Nat) : Int) + (d : Nat)).toNat = 8 * m + d from by omega]; exact t3 d hd) (fun lv2 f3 m0 hrow hfr3 => ?_) 8 0 _ _ rfl (xst_ne (by decide) rfl (Or.inl rfl)) xst_eq ⟨ax0, ay0, af0, ⟨(hfa _ (by decide)).trans hmc.1, (hfa _ (by decide)).trans hmc.2.1, (hfa _ (by decide)).trans hmc.2.2.1, hmc.2.2.2⟩, fun e he => absurd he (Nat.not_lt_zero _)⟩ (fun _ _ _ _ => rfl)
  obtain ⟨ax, ay, af, hmc3, hrow3⟩ := hrow
  have g3 : f3 177 = .inl (10, (fs.set 0 (xi 0)).set 31 (xi (m : Nat))) := (hfr3 177 (by decide) (by decide) (by decide)).trans g177
  have hB3 := sMB_f hB2 (f' := f3) (hfr3 177 (by decide) (by decide) (by decide))
  have hX3 : sMX f3 S.1 := sMX_f hX (fun q _ _ => (hfr3 q (by omega) (by omega) (by omega)).trans (hfa q (by omega)))
  have hml : sML ax ay af (8 * 0) e.2.2 := sML_of hrow3 fun d hd => (t3 d hd).2
  obtain ⟨-, cnl, tk, pf, pq, se, at', k180, -, -, -, -, -, ⟨kl, -⟩, hcnt, -⟩ := hK e.1 hcm
  refine x_aload_n rfl m0 ?_
  refine x_iconst rfl ?_
  refine x_call [_, _] rfl rfl (show (0 : Nat) ≤ 8 from by decide) (show (2 : Nat) ≤ 3 from by decide) (x_rcv (by decide) g3) (xs_123 hB3 hX3 hmc3 (by decide) hml) ?_
  intro r' f4 hP
  obtain ⟨rfl, hX4, hfr4⟩ := hP
  have hfb : ∀ q, q ≠ 177 → ¬ (189 ≤ q ∧ q ≤ 194) → f4 q = f q := fun q b1 b2 => (hfr4 q (by omega) (by omega) (by omega)).trans ((hfr3 q (by omega) (by omega) (by omega)).trans (hfa q b1))
  have g4 : f4 177 = .inl (10, (fs.set 0 (xi 0)).set 31 (xi (m : Nat))) := (hfr4 177 (by decide) (by decide) (by decide)).trans g3
  have g195 : f4 195 = xr 0 wl := (hfb 195 (by decide) (by decide)).trans j195
  have g180 : f4 180 = xr 0 cnl := (hfb 180 (by decide) (by decide)).trans k180
  refine x_aload_n rfl m0 ?_
  refine x_getfield rfl (by decide) g4 (sget_ne (by decide) (sget_ne (by decide) f11)) ?_
  refine x_aload_n rfl m0 ?_
  refine x_getfield rfl (by decide) g4 (sget_ne (by decide) (sget_ne (by decide) a4)) ?_
  refine x_aload_n rfl m0 ?_
  refine x_getfield rfl (by decide) g4 (sget_eq (by rw [slen hfl]; decide)) ?_
  refine x_iaload rfl (by decide) g195 ⟨by omega, by omega⟩ (by omega) ?_
  rw [Int.toNat_natCast, t1]
  refine x_iaload rfl (by decide) g180 ⟨by omega, by omega⟩ (by omega) ?_
  rw [Int.toNat_natCast, hcnt]
  have e9 : sUN G S = (0, (((G e.1).length : Nat) : Int), (e.2.2, S.2.1.take m, S.2.2)) := by unfold sUN; rw [if_neg (by omega), hm, Nat.add_sub_cancel, hr]
  rw [e9]
  have hlm : (S.2.1.take m).length = m := by rw [List.length_take]; omega
  refine x_ireturn rfl (Or.inl rfl) ⟨_, _, rfl, rfl, rfl, ⟨_, g4, sget_ne (by decide) (sget_eq (by rw [hfl]; decide))⟩, ⟨⟨_, by rw [show ((S.2.1.take m).length : Nat) = m from hlm]; exact sMB_f hB3 (hfr4 177 (by decide) (by decide) (by decide))⟩, hX4, ⟨by rw [hlm]; omega, wl, bl, be, g195, (hfb 196 (by decide) (by decide)).trans j196, (hfb 197 (by decide) (by decide)).trans j197, ⟨y1, y2, y3⟩, fun i hi => ?_⟩, ax, ay, af, (hfr4 _ (by decide) (by decide) (by decide)).trans hmc3.1, (hfr4 _ (by decide) (by decide) (by decide)).trans hmc3.2.1, (hfr4 _ (by decide) (by decide) (by decide)).trans hmc3.2.2.1, hmc3.2.2.2⟩, fun q b1 b2 => hfb q b1 (by omega)⟩
  have hi2 : i < m := by rw [← hlm]; exact hi
  have e5 : (S.2.1.take m).getD i sH0 = S.2.1.getD i sH0 := by rw [List.getD_eq_getElem?_getD, List.getElem?_take, if_pos hi2, ← List.getD_eq_getElem?_getD]
  show _ = ((List.getD (S.2.1.take m) i sH0).1 : Int) ∧ _
  rw [e5]
  exact hji i (by omega)
end
section
/-! Home, where, stood, select: the model. -/
def shome (d : Nat) : Int := if d = 0 then 136 else if d = 1 then 140 else if d = 2 then 187 else if d = 3 then 227 else if d = 4 then 262 else if d = 5 then 258 else if d = 6 then 213 else 173
theorem shome_ok (d : Nat) : sok (shome d) := by
  unfold shome
  repeat' split
  all_goals (unfold sok; decide)
theorem xs_13 {v0 : Value} {xs : List Int32} {u : Nat × Nat} {f : Nat → zE} {d : Nat} (hd : d < 8) : xq v0 xs u 13 [(0, xi (d : Nat))] f (fun r' f' => r' = some (xi (sX (shome d))) ∧ f' = f) := by
  unfold xq
  rcases (show d = 0 ∨ d = 1 ∨ d = 2 ∨ d = 3 ∨ d = 4 ∨ d = 5 ∨ d = 6 ∨ d = 7 by omega) with rfl | rfl | rfl | rfl | rfl | rfl | rfl | rfl
  · refine x_iload_n rfl rfl ?_
    refine x_ifeq (t := 9) rfl rfl (by decide) (fun _ => ?_) (fun h => absurd h (by decide))
    refine x_iconst rfl ?_
    refine x_goto (t := 38) rfl rfl ?_
    exact x_ireturn rfl (Or.inl rfl) ⟨_, _, rfl, rfl, congrArg (fun z => some (xi z)) (by decide), rfl⟩
  · refine x_iload_n rfl rfl ?_
    refine x_ifeq (t := 9) rfl rfl (by decide) (fun h => absurd h (by decide)) (fun _ => ?_)
    refine x_iload_n rfl rfl ?_
    refine x_iconst rfl ?_
    refine x_cne (t := 13) rfl rfl (by decide) (by decide) (fun _ => ?_) (fun h => absurd h (by decide))
    refine x_iload_n rfl rfl ?_
    refine x_iconst rfl ?_
    refine x_ceq (t := 23) rfl rfl (by decide) (by decide) (fun _ => ?_) (fun h => absurd h (by decide))
    refine x_iconst rfl ?_
    refine x_goto (t := 38) rfl rfl ?_
    exact x_ireturn rfl (Or.inl rfl) ⟨_, _, rfl, rfl, congrArg (fun z => some (xi z)) (by decide), rfl⟩
  · refine x_iload_n rfl rfl ?_
    refine x_ifeq (t := 9) rfl rfl (by decide) (fun h => absurd h (by decide)) (fun _ => ?_)
    refine x_iload_n rfl rfl ?_
    refine x_iconst rfl ?_
    refine x_cne (t := 13) rfl rfl (by decide) (by decide) (fun _ => ?_) (fun h => absurd h (by decide))
    refine x_iload_n rfl rfl ?_
    refine x_iconst rfl ?_
    refine x_ceq (t := 23) rfl rfl (by decide) (by decide) (fun h => absurd h (by decide)) (fun _ => ?_)
    refine x_iload_n rfl rfl ?_
    refine x_iconst rfl ?_
    refine x_cne (t := 27) rfl rfl (by decide) (by decide) (fun _ => ?_) (fun h => absurd h (by decide))
    refine x_iload_n rfl rfl ?_
    refine x_iconst rfl ?_
    refine x_cge (t := 37) rfl rfl (by decide) (by decide) (fun h => absurd h (by decide)) (fun _ => ?_)
    refine x_bipush rfl (by decide) ?_
    refine x_goto (t := 38) rfl rfl ?_
    exact x_ireturn rfl (Or.inl rfl) ⟨_, _, rfl, rfl, congrArg (fun z => some (xi z)) (by decide), rfl⟩
  · refine x_iload_n rfl rfl ?_
    refine x_ifeq (t := 9) rfl rfl (by decide) (fun h => absurd h (by decide)) (fun _ => ?_)
    refine x_iload_n rfl rfl ?_
    refine x_iconst rfl ?_
    refine x_cne (t := 13) rfl rfl (by decide) (by decide) (fun _ => ?_) (fun h => absurd h (by decide))
    refine x_iload_n rfl rfl ?_
    refine x_iconst rfl ?_
    refine x_ceq (t := 23) rfl rfl (by decide) (by decide) (fun h => absurd h (by decide)) (fun _ => ?_)
    refine x_iload_n rfl rfl ?_
    refine x_iconst rfl ?_
    refine x_cne (t := 27) rfl rfl (by decide) (by decide) (fun _ => ?_) (fun h => absurd h (by decide))
    refine x_iload_n rfl rfl ?_
    refine x_iconst rfl ?_
    refine x_cge (t := 37) rfl rfl (by decide) (by decide) (fun h => absurd h (by decide)) (fun _ => ?_)
    refine x_bipush rfl (by decide) ?_
    refine x_goto (t := 38) rfl rfl ?_
    exact x_ireturn rfl (Or.inl rfl) ⟨_, _, rfl, rfl, congrArg (fun z => some (xi z)) (by decide), rfl⟩
  · refine x_iload_n rfl rfl ?_
    refine x_ifeq (t := 9) rfl rfl (by decide) (fun h => absurd h (by decide)) (fun _ => ?_)
    refine x_iload_n rfl rfl ?_
    refine x_iconst rfl ?_
    refine x_cne (t := 13) rfl rfl (by decide) (by decide) (fun _ => ?_) (fun h => absurd h (by decide))
    refine x_iload_n rfl rfl ?_
    refine x_iconst rfl ?_
    refine x_ceq (t := 23) rfl rfl (by decide) (by decide) (fun h => absurd h (by decide)) (fun _ => ?_)
    refine x_iload_n rfl rfl ?_
    refine x_iconst rfl ?_
    refine x_cne (t := 27) rfl rfl (by decide) (by decide) (fun h => absurd h (by decide)) (fun _ => ?_)
    refine x_iconst rfl ?_
    refine x_goto (t := 38) rfl rfl ?_
    exact x_ireturn rfl (Or.inl rfl) ⟨_, _, rfl, rfl, congrArg (fun z => some (xi z)) (by decide), rfl⟩
  · refine x_iload_n rfl rfl ?_
    refine x_ifeq (t := 9) rfl rfl (by decide) (fun h => absurd h (by decide)) (fun _ => ?_)
    refine x_iload_n rfl rfl ?_
    refine x_iconst rfl ?_
    refine x_cne (t := 13) rfl rfl (by decide) (by decide) (fun h => absurd h (by decide)) (fun _ => ?_)
    refine x_iconst rfl ?_
    refine x_goto (t := 38) rfl rfl ?_
    exact x_ireturn rfl (Or.inl rfl) ⟨_, _, rfl, rfl, congrArg (fun z => some (xi z)) (by decide), rfl⟩
  · refine x_iload_n rfl rfl ?_
    refine x_ifeq (t := 9) rfl rfl (by decide) (fun h => absurd h (by decide)) (fun _ => ?_)
    refine x_iload_n rfl rfl ?_
    refine x_iconst rfl ?_
    refine x_cne (t := 13) rfl rfl (by decide) (by decide) (fun _ => ?_) (fun h => absurd h (by decide))
    refine x_iload_n rfl rfl ?_
    refine x_iconst rfl ?_
    refine x_ceq (t := 23) rfl rfl (by decide) (by decide) (fun h => absurd h (by decide)) (fun _ => ?_)
    refine x_iload_n rfl rfl ?_
    refine x_iconst rfl ?_
    refine x_cne (t := 27) rfl rfl (by decide) (by decide) (fun _ => ?_) (fun h => absurd h (by decide))
    refine x_iload_n rfl rfl ?_
    refine x_iconst rfl ?_
    refine x_cge (t := 37) rfl rfl (by decide) (by decide) (fun _ => ?_) (fun h => absurd h (by decide))
    refine x_iconst rfl ?_
    exact x_ireturn rfl (Or.inl rfl) ⟨_, _, rfl, rfl, congrArg (fun z => some (xi z)) (by decide), rfl⟩
  · refine x_iload_n rfl rfl ?_
    refine x_ifeq (t := 9) rfl rfl (by decide) (fun h => absurd h (by decide)) (fun _ => ?_)
    refine x_iload_n rfl rfl ?_
    refine x_iconst rfl ?_
    refine x_cne (t := 13) rfl rfl (by decide) (by decide) (fun _ => ?_) (fun h => absurd h (by decide))
    refine x_iload_n rfl rfl ?_
    refine x_iconst rfl ?_
    refine x_ceq (t := 23) rfl rfl (by decide) (by decide) (fun h => absurd h (by decide)) (fun _ => ?_)
    refine x_iload_n rfl rfl ?_
    refine x_iconst rfl ?_
    refine x_cne (t := 27) rfl rfl (by decide) (by decide) (fun _ => ?_) (fun h => absurd h (by decide))
    refine x_iload_n rfl rfl ?_
    refine x_iconst rfl ?_
    refine x_cge (t := 37) rfl rfl (by decide) (by decide) (fun _ => ?_) (fun h => absurd h (by decide))
    refine x_iconst rfl ?_
    exact x_ireturn rfl (Or.inl rfl) ⟨_, _, rfl, rfl, congrArg (fun z => some (xi z)) (by decide), rfl⟩
theorem xs_14 {v0 : Value} {xs : List Int32} {u : Nat × Nat} {f : Nat → zE} {d : Nat} (hd : d < 8) : xq v0 xs u 14 [(0, xi (d : Nat))] f (fun r' f' => r' = some (xi (sY (shome d))) ∧ f' = f) := by
  unfold xq
  rcases (show d = 0 ∨ d = 1 ∨ d = 2 ∨ d = 3 ∨ d = 4 ∨ d = 5 ∨ d = 6 ∨ d = 7 by omega) with rfl | rfl | rfl | rfl | rfl | rfl | rfl | rfl
  · refine x_iload_n rfl rfl ?_
    refine x_iconst rfl ?_
    refine x_cge (t := 9) rfl rfl (by decide) (by decide) (fun h => absurd h (by decide)) (fun _ => ?_)
    refine x_iconst rfl ?_
    refine x_goto (t := 40) rfl rfl ?_
    exact x_ireturn rfl (Or.inl rfl) ⟨_, _, rfl, rfl, congrArg (fun z => some (xi z)) (by decide), rfl⟩
  · refine x_iload_n rfl rfl ?_
    refine x_iconst rfl ?_
    refine x_cge (t := 9) rfl rfl (by decide) (by decide) (fun h => absurd h (by decide)) (fun _ => ?_)
    refine x_iconst rfl ?_
    refine x_goto (t := 40) rfl rfl ?_
    exact x_ireturn rfl (Or.inl rfl) ⟨_, _, rfl, rfl, congrArg (fun z => some (xi z)) (by decide), rfl⟩
  · refine x_iload_n rfl rfl ?_
    refine x_iconst rfl ?_
    refine x_cge (t := 9) rfl rfl (by decide) (by decide) (fun _ => ?_) (fun h => absurd h (by decide))
    refine x_iload_n rfl rfl ?_
    refine x_iconst rfl ?_
    refine x_ceq (t := 19) rfl rfl (by decide) (by decide) (fun h => absurd h (by decide)) (fun _ => ?_)
    refine x_iload_n rfl rfl ?_
    refine x_iconst rfl ?_
    refine x_cne (t := 24) rfl rfl (by decide) (by decide) (fun _ => ?_) (fun h => absurd h (by decide))
    refine x_iload_n rfl rfl ?_
    refine x_iconst rfl ?_
    refine x_ceq (t := 35) rfl rfl (by decide) (by decide) (fun _ => ?_) (fun h => absurd h (by decide))
    refine x_iconst rfl ?_
    refine x_goto (t := 40) rfl rfl ?_
    exact x_ireturn rfl (Or.inl rfl) ⟨_, _, rfl, rfl, congrArg (fun z => some (xi z)) (by decide), rfl⟩
  · refine x_iload_n rfl rfl ?_
    refine x_iconst rfl ?_
    refine x_cge (t := 9) rfl rfl (by decide) (by decide) (fun _ => ?_) (fun h => absurd h (by decide))
    refine x_iload_n rfl rfl ?_
    refine x_iconst rfl ?_
    refine x_ceq (t := 19) rfl rfl (by decide) (by decide) (fun h => absurd h (by decide)) (fun _ => ?_)
    refine x_iload_n rfl rfl ?_
    refine x_iconst rfl ?_
    refine x_cne (t := 24) rfl rfl (by decide) (by decide) (fun _ => ?_) (fun h => absurd h (by decide))
    refine x_iload_n rfl rfl ?_
    refine x_iconst rfl ?_
    refine x_ceq (t := 35) rfl rfl (by decide) (by decide) (fun h => absurd h (by decide)) (fun _ => ?_)
    refine x_iload_n rfl rfl ?_
    refine x_bipush rfl (by decide) ?_
    refine x_cne (t := 39) rfl rfl (by decide) (by decide) (fun _ => ?_) (fun h => absurd h (by decide))
    refine x_iconst rfl ?_
    exact x_ireturn rfl (Or.inl rfl) ⟨_, _, rfl, rfl, congrArg (fun z => some (xi z)) (by decide), rfl⟩
  · refine x_iload_n rfl rfl ?_
    refine x_iconst rfl ?_
    refine x_cge (t := 9) rfl rfl (by decide) (by decide) (fun _ => ?_) (fun h => absurd h (by decide))
    refine x_iload_n rfl rfl ?_
    refine x_iconst rfl ?_
    refine x_ceq (t := 19) rfl rfl (by decide) (by decide) (fun _ => ?_) (fun h => absurd h (by decide))
    refine x_bipush rfl (by decide) ?_
    refine x_goto (t := 40) rfl rfl ?_
    exact x_ireturn rfl (Or.inl rfl) ⟨_, _, rfl, rfl, congrArg (fun z => some (xi z)) (by decide), rfl⟩
  · refine x_iload_n rfl rfl ?_
    refine x_iconst rfl ?_
    refine x_cge (t := 9) rfl rfl (by decide) (by decide) (fun _ => ?_) (fun h => absurd h (by decide))
    refine x_iload_n rfl rfl ?_
    refine x_iconst rfl ?_
    refine x_ceq (t := 19) rfl rfl (by decide) (by decide) (fun h => absurd h (by decide)) (fun _ => ?_)
    refine x_iload_n rfl rfl ?_
    refine x_iconst rfl ?_
    refine x_cne (t := 24) rfl rfl (by decide) (by decide) (fun h => absurd h (by decide)) (fun _ => ?_)
    refine x_bipush rfl (by decide) ?_
    refine x_goto (t := 40) rfl rfl ?_
    exact x_ireturn rfl (Or.inl rfl) ⟨_, _, rfl, rfl, congrArg (fun z => some (xi z)) (by decide), rfl⟩
  · refine x_iload_n rfl rfl ?_
    refine x_iconst rfl ?_
    refine x_cge (t := 9) rfl rfl (by decide) (by decide) (fun _ => ?_) (fun h => absurd h (by decide))
    refine x_iload_n rfl rfl ?_
    refine x_iconst rfl ?_
    refine x_ceq (t := 19) rfl rfl (by decide) (by decide) (fun h => absurd h (by decide)) (fun _ => ?_)
    refine x_iload_n rfl rfl ?_
    refine x_iconst rfl ?_
    refine x_cne (t := 24) rfl rfl (by decide) (by decide) (fun _ => ?_) (fun h => absurd h (by decide))
    refine x_iload_n rfl rfl ?_
    refine x_iconst rfl ?_
    refine x_ceq (t := 35) rfl rfl (by decide) (by decide) (fun h => absurd h (by decide)) (fun _ => ?_)
    refine x_iload_n rfl rfl ?_
    refine x_bipush rfl (by decide) ?_
    refine x_cne (t := 39) rfl rfl (by decide) (by decide) (fun _ => ?_) (fun h => absurd h (by decide))
    refine x_iconst rfl ?_
    exact x_ireturn rfl (Or.inl rfl) ⟨_, _, rfl, rfl, congrArg (fun z => some (xi z)) (by decide), rfl⟩
  · refine x_iload_n rfl rfl ?_
    refine x_iconst rfl ?_
    refine x_cge (t := 9) rfl rfl (by decide) (by decide) (fun _ => ?_) (fun h => absurd h (by decide))
    refine x_iload_n rfl rfl ?_
    refine x_iconst rfl ?_
    refine x_ceq (t := 19) rfl rfl (by decide) (by decide) (fun h => absurd h (by decide)) (fun _ => ?_)
    refine x_iload_n rfl rfl ?_
    refine x_iconst rfl ?_
    refine x_cne (t := 24) rfl rfl (by decide) (by decide) (fun _ => ?_) (fun h => absurd h (by decide))
    refine x_iload_n rfl rfl ?_
    refine x_iconst rfl ?_
    refine x_ceq (t := 35) rfl rfl (by decide) (by decide) (fun h => absurd h (by decide)) (fun _ => ?_)
    refine x_iload_n rfl rfl ?_
    refine x_bipush rfl (by decide) ?_
    refine x_cne (t := 39) rfl rfl (by decide) (by decide) (fun h => absurd h (by decide)) (fun _ => ?_)
    refine x_iconst rfl ?_
    refine x_goto (t := 40) rfl rfl ?_
    exact x_ireturn rfl (Or.inl rfl) ⟨_, _, rfl, rfl, congrArg (fun z => some (xi z)) (by decide), rfl⟩
theorem xs_15 {v0 : Value} {xs : List Int32} {u : Nat × Nat} {f : Nat → zE} {d : Nat} (hd : d < 8) : xq v0 xs u 15 [(0, xi (d : Nat))] f (fun r' f' => r' = some (xi (sF (shome d))) ∧ f' = f) := by
  unfold xq
  rcases (show d = 0 ∨ d = 1 ∨ d = 2 ∨ d = 3 ∨ d = 4 ∨ d = 5 ∨ d = 6 ∨ d = 7 by omega) with rfl | rfl | rfl | rfl | rfl | rfl | rfl | rfl
  · refine x_iload_n rfl rfl ?_
    refine x_iconst rfl ?_
    refine x_cge (t := 9) rfl rfl (by decide) (by decide) (fun h => absurd h (by decide)) (fun _ => ?_)
    refine x_iconst rfl ?_
    refine x_goto (t := 29) rfl rfl ?_
    exact x_ireturn rfl (Or.inl rfl) ⟨_, _, rfl, rfl, congrArg (fun z => some (xi z)) (by decide), rfl⟩
  · refine x_iload_n rfl rfl ?_
    refine x_iconst rfl ?_
    refine x_cge (t := 9) rfl rfl (by decide) (by decide) (fun h => absurd h (by decide)) (fun _ => ?_)
    refine x_iconst rfl ?_
    refine x_goto (t := 29) rfl rfl ?_
    exact x_ireturn rfl (Or.inl rfl) ⟨_, _, rfl, rfl, congrArg (fun z => some (xi z)) (by decide), rfl⟩
  · refine x_iload_n rfl rfl ?_
    refine x_iconst rfl ?_
    refine x_cge (t := 9) rfl rfl (by decide) (by decide) (fun _ => ?_) (fun h => absurd h (by decide))
    refine x_iload_n rfl rfl ?_
    refine x_iconst rfl ?_
    refine x_cge (t := 18) rfl rfl (by decide) (by decide) (fun h => absurd h (by decide)) (fun _ => ?_)
    refine x_iconst rfl ?_
    refine x_goto (t := 29) rfl rfl ?_
    exact x_ireturn rfl (Or.inl rfl) ⟨_, _, rfl, rfl, congrArg (fun z => some (xi z)) (by decide), rfl⟩
  · refine x_iload_n rfl rfl ?_
    refine x_iconst rfl ?_
    refine x_cge (t := 9) rfl rfl (by decide) (by decide) (fun _ => ?_) (fun h => absurd h (by decide))
    refine x_iload_n rfl rfl ?_
    refine x_iconst rfl ?_
    refine x_cge (t := 18) rfl rfl (by decide) (by decide) (fun h => absurd h (by decide)) (fun _ => ?_)
    refine x_iconst rfl ?_
    refine x_goto (t := 29) rfl rfl ?_
    exact x_ireturn rfl (Or.inl rfl) ⟨_, _, rfl, rfl, congrArg (fun z => some (xi z)) (by decide), rfl⟩
  · refine x_iload_n rfl rfl ?_
    refine x_iconst rfl ?_
    refine x_cge (t := 9) rfl rfl (by decide) (by decide) (fun _ => ?_) (fun h => absurd h (by decide))
    refine x_iload_n rfl rfl ?_
    refine x_iconst rfl ?_
    refine x_cge (t := 18) rfl rfl (by decide) (by decide) (fun _ => ?_) (fun h => absurd h (by decide))
    refine x_iload_n rfl rfl ?_
    refine x_bipush rfl (by decide) ?_
    refine x_cge (t := 28) rfl rfl (by decide) (by decide) (fun h => absurd h (by decide)) (fun _ => ?_)
    refine x_iconst rfl ?_
    refine x_goto (t := 29) rfl rfl ?_
    exact x_ireturn rfl (Or.inl rfl) ⟨_, _, rfl, rfl, congrArg (fun z => some (xi z)) (by decide), rfl⟩
  · refine x_iload_n rfl rfl ?_
    refine x_iconst rfl ?_
    refine x_cge (t := 9) rfl rfl (by decide) (by decide) (fun _ => ?_) (fun h => absurd h (by decide))
    refine x_iload_n rfl rfl ?_
    refine x_iconst rfl ?_
    refine x_cge (t := 18) rfl rfl (by decide) (by decide) (fun _ => ?_) (fun h => absurd h (by decide))
    refine x_iload_n rfl rfl ?_
    refine x_bipush rfl (by decide) ?_
    refine x_cge (t := 28) rfl rfl (by decide) (by decide) (fun h => absurd h (by decide)) (fun _ => ?_)
    refine x_iconst rfl ?_
    refine x_goto (t := 29) rfl rfl ?_
    exact x_ireturn rfl (Or.inl rfl) ⟨_, _, rfl, rfl, congrArg (fun z => some (xi z)) (by decide), rfl⟩
  · refine x_iload_n rfl rfl ?_
    refine x_iconst rfl ?_
    refine x_cge (t := 9) rfl rfl (by decide) (by decide) (fun _ => ?_) (fun h => absurd h (by decide))
    refine x_iload_n rfl rfl ?_
    refine x_iconst rfl ?_
    refine x_cge (t := 18) rfl rfl (by decide) (by decide) (fun _ => ?_) (fun h => absurd h (by decide))
    refine x_iload_n rfl rfl ?_
    refine x_bipush rfl (by decide) ?_
    refine x_cge (t := 28) rfl rfl (by decide) (by decide) (fun _ => ?_) (fun h => absurd h (by decide))
    refine x_iconst rfl ?_
    exact x_ireturn rfl (Or.inl rfl) ⟨_, _, rfl, rfl, congrArg (fun z => some (xi z)) (by decide), rfl⟩
  · refine x_iload_n rfl rfl ?_
    refine x_iconst rfl ?_
    refine x_cge (t := 9) rfl rfl (by decide) (by decide) (fun _ => ?_) (fun h => absurd h (by decide))
    refine x_iload_n rfl rfl ?_
    refine x_iconst rfl ?_
    refine x_cge (t := 18) rfl rfl (by decide) (by decide) (fun _ => ?_) (fun h => absurd h (by decide))
    refine x_iload_n rfl rfl ?_
    refine x_bipush rfl (by decide) ?_
    refine x_cge (t := 28) rfl rfl (by decide) (by decide) (fun _ => ?_) (fun h => absurd h (by decide))
    refine x_iconst rfl ?_
    exact x_ireturn rfl (Or.inl rfl) ⟨_, _, rfl, rfl, congrArg (fun z => some (xi z)) (by decide), rfl⟩
theorem xs_136l {v0 : Value} {xs : List Int32} {u : Nat × Nat} {f0 : Nat → zE} {fs : List Value} {ca dn cl y : Int} (hB : sMB f0 fs ca dn cl) : ∀ (w d : Nat) (lv : zL) (f : Nat → zE), w + d = 8 → zlv lv 0 = some (.ref 177) → zlv lv 1 = some (xi y) → zlv lv 2 = some (xi (d : Nat)) → (∃ mx my mf : List Int, f 189 = xr 0 mx ∧ f 190 = xr 0 my ∧ f 191 = xr 0 mf ∧ (mx.length = 8 ∧ my.length = 8 ∧ mf.length = 8) ∧ ∀ e, e < d → mx.getD e 0 = sX (shome e) ∧ my.getD e 0 = sY (shome e) ∧ mf.getD e 0 = sF (shome e)) → (∀ q, q ≠ 189 → q ≠ 190 → q ≠ 191 → f q = f0 q) → xz v0 xs u (fun o X => ∃ r' f', o = .inl r' ∧ X = (xh f', u) ∧ (fun r' f' => r' = some (xi y) ∧ sMX f' shome ∧ ∀ q, q ≠ 189 → q ≠ 190 → q ≠ 191 → f' q = f0 q) r' f') 136 17 lv [] f := by
  obtain ⟨⟨h177, hfl, ⟨f11, f13, f14, f15, f17, f18⟩, h25, h26, h27⟩, ⟨a1, a2, a3, a4, a5, a6⟩, h9, h31, h30⟩ := hB
  intro w
  induction w with
  | zero =>
    intro d lv f hw l0 l1 l2 hX hfr
    have e8 : d = 8 := by omega
    subst e8
    obtain ⟨mx, my, mf, x1, x2, x3, hl, hx⟩ := hX
    refine x_iload_n rfl l2 ?_
    refine x_bipush rfl (by decide) ?_
    refine x_cge (t := 59) rfl rfl (by decide) (by decide) (fun _ => ?_) (fun h => absurd h (by decide))
    refine x_iload_n rfl l1 ?_
    exact x_ireturn rfl (Or.inl rfl) ⟨_, _, rfl, rfl, rfl, ⟨mx, my, mf, x1, x2, x3, hl, fun d hd => ⟨hx d hd, shome_ok d⟩⟩, hfr⟩
  | succ w ih =>
    intro d lv f hw l0 l1 l2 hX hfr
    obtain ⟨mx, my, mf, x1, x2, x3, ⟨y1, y2, y3⟩, hx⟩ := hX
    have hd : d < 8 := by omega
    refine x_iload_n rfl l2 ?_
    refine x_bipush rfl (by decide) ?_
    refine x_cge (t := 59) rfl rfl ⟨by omega, by omega⟩ (by decide) (fun h => absurd h (by omega)) (fun _ => ?_)
    refine x_aload_n rfl l0 ?_
    refine x_getfield rfl (by decide) ((hfr 177 (by decide) (by decide) (by decide)).trans h177) a1 ?_
    refine x_iload_n rfl l2 ?_
    refine x_iload_n rfl l2 ?_
    refine x_call [_] rfl rfl (show (2 : Nat) ≤ 8 from by decide) (show (1 : Nat) ≤ 1 from by decide) rfl (xs_13 hd) ?_
    intro r' f9 hP
    obtain ⟨rfl, hPe⟩ := hP
    subst f9
    refine x_iastore rfl (by decide) x1 ⟨by omega, by omega⟩ (by omega) ?_
    refine x_aload_n rfl l0 ?_
    refine x_getfield rfl (by decide) (xu_ne (by decide) ((hfr 177 (by decide) (by decide) (by decide)).trans h177)) a2 ?_
    refine x_iload_n rfl l2 ?_
    refine x_iload_n rfl l2 ?_
    refine x_call [_] rfl rfl (show (2 : Nat) ≤ 8 from by decide) (show (1 : Nat) ≤ 1 from by decide) rfl (xs_14 hd) ?_
    intro r' f9 hP
    obtain ⟨rfl, hPe⟩ := hP
    subst f9
    refine x_iastore rfl (by decide) (xu_ne (by decide) x2) ⟨by omega, by omega⟩ (by omega) ?_
    refine x_aload_n rfl l0 ?_
    refine x_getfield rfl (by decide) (xu_ne (by decide) (xu_ne (by decide) ((hfr 177 (by decide) (by decide) (by decide)).trans h177))) a3 ?_
    refine x_iload_n rfl l2 ?_
    refine x_iload_n rfl l2 ?_
    refine x_call [_] rfl rfl (show (2 : Nat) ≤ 8 from by decide) (show (1 : Nat) ≤ 1 from by decide) rfl (xs_15 hd) ?_
    intro r' f9 hP
    obtain ⟨rfl, hPe⟩ := hP
    subst f9
    refine x_iastore rfl (by decide) (xu_ne (by decide) (xu_ne (by decide) x3)) ⟨by omega, by omega⟩ (by omega) ?_
    refine x_iinc rfl l2 (show (2 : Nat) < 3 from by decide) ?_
    refine x_goto (t := 17) rfl rfl ?_
    refine ih (d + 1) _ _ (by omega) (xst_ne (by decide) l0 (Or.inl rfl)) (xst_ne (by decide) l1 (Or.inl rfl)) xst_eq ⟨_, _, _, (xu_ne (by decide) (xu_ne (by decide) xu_eq)), (xu_ne (by decide) xu_eq), xu_eq, ⟨by rw [List.length_set]; exact y1, by rw [List.length_set]; exact y2, by rw [List.length_set]; exact y3⟩, fun e he => ?_⟩ (fun q b1 b2 b3 => xu_ne b3 (xu_ne b2 (xu_ne b1 (hfr q b1 b2 b3))))
    rw [Int.toNat_natCast, x_gset, x_gset, x_gset]
    by_cases h2 : d = e
    · subst h2
      rw [if_pos ⟨rfl, by omega⟩, if_pos ⟨rfl, by omega⟩, if_pos ⟨rfl, by omega⟩]
      exact ⟨rfl, rfl, rfl⟩
    · rw [if_neg (fun h => h2 h.1), if_neg (fun h => h2 h.1), if_neg (fun h => h2 h.1)]
      exact hx e (by omega)
theorem xs_136 {v0 : Value} {xs : List Int32} {u : Nat × Nat} {f : Nat → zE} {n : Nat} {S : sS} (hT : sMT f n S) : sMq v0 xs u 136 [(0, .ref 177)] f n (0, (S.2.1.length : Nat), (shome, [], S.2.2)) := by
  unfold sMq xq
  obtain ⟨⟨fs, hB⟩, hX, hJ, hC⟩ := hT
  have hB0 := hB
  obtain ⟨⟨h177, hfl, ⟨f11, f13, f14, f15, f17, f18⟩, h25, h26, h27⟩, ⟨a1, a2, a3, a4, a5, a6⟩, h9, h31, h30⟩ := hB
  refine x_aload_n rfl rfl ?_
  refine x_iconst rfl ?_
  refine x_putfield rfl (by decide) h177 (show (0 : Nat) < _ from by rw [hfl]; decide) rfl ?_
  refine x_aload_n rfl rfl ?_
  refine x_getfield rfl (by decide) xu_eq (sget_ne (by decide) h31) ?_
  refine x_istore_n rfl (show (1 : Nat) < 3 from by decide) ?_
  refine x_aload_n rfl (xst_ne (by decide) rfl (Or.inl rfl)) ?_
  refine x_iconst rfl ?_
  refine x_putfield rfl (by decide) xu_eq (show (31 : Nat) < _ from by rw [(slen hfl)]; decide) rfl ?_
  refine x_iconst rfl ?_
  refine x_istore_n rfl (show (2 : Nat) < 3 from by decide) ?_
  obtain ⟨ax0, ay0, af0, hmc⟩ := hC
  obtain ⟨mx, my, mf, x1, x2, x3, hl, -⟩ := hX
  generalize hf2 : xu (xu f 177 _) 177 _ = f2
  have g177 : f2 177 = .inl (10, (fs.set 0 (xi 0)).set 31 (xi 0)) := by rw [← hf2]; exact xu_eq
  have hfa : ∀ q, q ≠ 177 → f2 q = f q := fun q b => by rw [← hf2]; exact xu_ne b (xu_ne b rfl)
  have hB2 := sMB_31 (sMB_0 (f' := fun _ => .inl (10, fs.set 0 (xi 0))) hB0 rfl) g177
  refine zwp_mono (xs_136l hB2 8 0 _ _ rfl (xst_ne (by decide) (xst_ne (by decide) rfl (Or.inl rfl)) (Or.inl rfl)) (xst_ne (by decide) xst_eq (Or.inl rfl)) xst_eq ⟨mx, my, mf, (hfa _ (by decide)).trans x1, (hfa _ (by decide)).trans x2, (hfa _ (by decide)).trans x3, hl, fun e he => absurd he (Nat.not_lt_zero _)⟩ (fun _ _ _ _ => rfl)) ?_
  rintro o X' ⟨r9, f9, e1, e2, e3, e4, e5⟩
  have hfb : ∀ q, q ≠ 177 → ¬ (189 ≤ q ∧ q ≤ 191) → f9 q = f q := fun q b1 b2 => (e5 q (by omega) (by omega) (by omega)).trans (hfa q b1)
  obtain ⟨hj24, wl, bl, be, j195, j196, j197, hjl, hji⟩ := hJ
  exact ⟨r9, f9, e1, e2, e3, ⟨_, (e5 177 (by decide) (by decide) (by decide)).trans g177, sget_ne (by decide) (sget_eq (by rw [hfl]; decide))⟩, ⟨⟨_, sMB_f hB2 (e5 177 (by decide) (by decide) (by decide))⟩, e4, ⟨by simp, wl, bl, be, (hfb _ (by decide) (by decide)).trans j195, (hfb _ (by decide) (by decide)).trans j196, (hfb _ (by decide) (by decide)).trans j197, hjl, fun i hi => absurd hi (Nat.not_lt_zero _)⟩, ax0, ay0, af0, (hfb _ (by decide) (by decide)).trans hmc.1, (hfb _ (by decide) (by decide)).trans hmc.2.1, (hfb _ (by decide) (by decide)).trans hmc.2.2.1, hmc.2.2.2⟩, fun q b1 b2 => hfb q b1 (by omega)⟩
def sWH (S : sS) (d w : Int) : Int × Int × sS := if (0 ≤ d ∧ d < 8) ∧ 0 ≤ w ∧ w ≤ 2 then (0, if w = 0 then sX (S.1 d.toNat) else if w = 1 then sY (S.1 d.toNat) else sF (S.1 d.toNat), S) else (1, 0, S)
theorem xs_141 {v0 : Value} {xs : List Int32} {u : Nat × Nat} {f : Nat → zE} {n : Nat} {S : sS} (hT : sMT f n S) {d w : Int} (hd : -2147483648 ≤ d ∧ d ≤ 2147483647) (hw : -2147483648 ≤ w ∧ w ≤ 2147483647) : sMq v0 xs u 141 [(0, .ref 177), (1, xi d), (2, xi w)] f n (sWH S d w) := by
  unfold sMq xq
  obtain ⟨⟨fs, hB⟩, hX, hJ, hC⟩ := hT
  have hB0 := hB
  obtain ⟨⟨h177, hfl, ⟨f11, f13, f14, f15, f17, f18⟩, h25, h26, h27⟩, ⟨a1, a2, a3, a4, a5, a6⟩, h9, h31, h30⟩ := hB
  obtain ⟨mx, my, mf, x1, x2, x3, ⟨y1, y2, y3⟩, hx⟩ := id hX
  have bad : ¬ ((0 ≤ d ∧ d < 8) ∧ 0 ≤ w ∧ w ≤ 2) → xz v0 xs u (fun o X => ∃ r f', o = .inl r ∧ X = (xh f', u) ∧ (fun r' f' => r' = some (xi (sWH S d w).2.1) ∧ sCD f' (sWH S d w).1 ∧ sMT f' n (sWH S d w).2.2 ∧ ∀ q, q ≠ 177 → ¬ (189 ≤ q ∧ q ≤ 197) → f' q = f q) r f') 141 21 [(0, .ref 177), (1, xi d), (2, xi w)] [.ref 177] f := by
    intro hb
    refine x_iconst rfl ?_
    refine x_putfield rfl (by decide) h177 (show (0 : Nat) < _ from by rw [hfl]; decide) rfl ?_
    refine x_aload_n rfl rfl ?_
    refine x_getfield rfl (by decide) xu_eq (sget_eq (by rw [hfl]; decide)) ?_
    refine x_ifle (t := 36) rfl rfl (by decide) (fun h => absurd h (by decide)) (fun _ => ?_)
    refine x_iconst rfl ?_
    refine x_goto (t := 69) rfl rfl ?_
    have e : sWH S d w = (1, 0, S) := by unfold sWH; rw [if_neg hb]
    rw [e]
    exact x_ireturn rfl (Or.inl rfl) ⟨_, _, rfl, rfl, rfl, ⟨_, xu_eq, sget_eq (by rw [hfl]; decide)⟩, sMT_0 hB0 hX hJ hC, fun q b1 _ => xu_ne b1 rfl⟩
  refine x_aload_n rfl rfl ?_
  refine x_iload_n rfl rfl ?_
  refine x_call [_] rfl rfl (show (1 : Nat) ≤ 8 from by decide) (show (1 : Nat) ≤ 1 from by decide) rfl (xs_140 hd) ?_
  intro r' f1 hP
  obtain ⟨rfl, hPe⟩ := hP
  subst f1
  by_cases h8 : 0 ≤ d ∧ d < 8
  rotate_left
  · rw [if_neg h8]
    refine x_ifeq (t := 21) rfl rfl (by decide) (fun _ => ?_) (fun h => absurd rfl h)
    exact bad (fun h => h8 h.1)
  rw [if_pos h8]
  refine x_ifeq (t := 21) rfl rfl (by decide) (fun h => absurd h (by decide)) (fun _ => ?_)
  refine x_iload_n rfl rfl ?_
  refine x_iflt (t := 21) rfl rfl hw (fun h1 => ?_) (fun h1 => ?_)
  · exact bad (fun h => by omega)
  refine x_iload_n rfl rfl ?_
  refine x_iconst rfl ?_
  refine x_cgt (t := 21) rfl rfl hw (by decide) (fun h2 => ?_) (fun h2 => ?_)
  · exact bad (fun h => by omega)
  refine x_iconst rfl ?_
  refine x_goto (t := 22) rfl rfl ?_
  refine x_putfield rfl (by decide) h177 (show (0 : Nat) < _ from by rw [hfl]; decide) rfl ?_
  refine x_aload_n rfl rfl ?_
  refine x_getfield rfl (by decide) xu_eq (sget_eq (by rw [hfl]; decide)) ?_
  refine x_ifle (t := 36) rfl rfl (by decide) (fun _ => ?_) (fun h => absurd h (by decide))
  obtain ⟨k, rfl⟩ : ∃ k : Nat, d = (k : Int) := ⟨d.toNat, by omega⟩
  obtain ⟨⟨q1, q2, q3⟩, -⟩ := hx k (by omega)
  refine x_iload_n rfl rfl ?_
  refine x_ifne (t := 49) rfl rfl hw (fun h3 => ?_) (fun h3 => ?_)
  · refine x_iload_n rfl rfl ?_
    refine x_iconst rfl ?_
    refine x_cne (t := 63) rfl rfl hw (by decide) (fun h4 => ?_) (fun h4 => ?_)
    · refine x_aload_n rfl rfl ?_
      refine x_getfield rfl (by decide) xu_eq (sget_ne (by decide) a3) ?_
      refine x_iload_n rfl rfl ?_
      refine x_iaload rfl (by decide) (xu_ne (by decide) x3) ⟨by omega, by omega⟩ (by omega) ?_
      rw [Int.toNat_natCast, q3]
      have e : sWH S (k : Nat) w = (0, sF (S.1 k), S) := by unfold sWH; rw [if_pos ⟨h8, h1, h2⟩, Int.toNat_natCast, if_neg h3, if_neg h4]
      rw [e]
      exact x_ireturn rfl (Or.inl rfl) ⟨_, _, rfl, rfl, rfl, ⟨_, xu_eq, sget_eq (by rw [hfl]; decide)⟩, sMT_0 hB0 hX hJ hC, fun q b1 _ => xu_ne b1 rfl⟩
    · refine x_aload_n rfl rfl ?_
      refine x_getfield rfl (by decide) xu_eq (sget_ne (by decide) a2) ?_
      refine x_iload_n rfl rfl ?_
      refine x_iaload rfl (by decide) (xu_ne (by decide) x2) ⟨by omega, by omega⟩ (by omega) ?_
      rw [Int.toNat_natCast, q2]
      refine x_goto (t := 69) rfl rfl ?_
      have e : sWH S (k : Nat) w = (0, sY (S.1 k), S) := by unfold sWH; rw [if_pos ⟨h8, h1, h2⟩, Int.toNat_natCast, if_neg h3, if_pos h4]
      rw [e]
      exact x_ireturn rfl (Or.inl rfl) ⟨_, _, rfl, rfl, rfl, ⟨_, xu_eq, sget_eq (by rw [hfl]; decide)⟩, sMT_0 hB0 hX hJ hC, fun q b1 _ => xu_ne b1 rfl⟩
  · refine x_aload_n rfl rfl ?_
    refine x_getfield rfl (by decide) xu_eq (sget_ne (by decide) a1) ?_
    refine x_iload_n rfl rfl ?_
    refine x_iaload rfl (by decide) (xu_ne (by decide) x1) ⟨by omega, by omega⟩ (by omega) ?_
    rw [Int.toNat_natCast, q1]
    refine x_goto (t := 69) rfl rfl ?_
    have e : sWH S (k : Nat) w = (0, sX (S.1 k), S) := by unfold sWH; rw [if_pos ⟨h8, h1, h2⟩, Int.toNat_natCast, if_pos h3]
    rw [e]
    exact x_ireturn rfl (Or.inl rfl) ⟨_, _, rfl, rfl, rfl, ⟨_, xu_eq, sget_eq (by rw [hfl]; decide)⟩, sMT_0 hB0 hX hJ hC, fun q b1 _ => xu_ne b1 rfl⟩
def sSL (S : sS) (s d : Int) : Int × Int × sS := if (0 ≤ s ∧ s ≤ 12) ∧ 0 ≤ d ∧ d < 8 then (0, if shas s S.1 d.toNat = true then 1 else 0, S) else (1, 0, S)
theorem xs_148 {v0 : Value} {xs : List Int32} {u : Nat × Nat} {f : Nat → zE} {n : Nat} {S : sS} (hT : sMT f n S) {s d : Int} (hs : -2147483648 ≤ s ∧ s ≤ 2147483647) (hd : -2147483648 ≤ d ∧ d ≤ 2147483647) : sMq v0 xs u 148 [(0, .ref 177), (1, xi s), (2, xi d)] f n (sSL S s d) := by
  unfold sMq xq
  obtain ⟨⟨fs, hB⟩, hX, hJ, hC⟩ := hT
  have hB0 := hB
  obtain ⟨⟨h177, hfl, ⟨f11, f13, f14, f15, f17, f18⟩, h25, h26, h27⟩, ⟨a1, a2, a3, a4, a5, a6⟩, h9, h31, h30⟩ := hB
  have bad : ¬ ((0 ≤ s ∧ s ≤ 12) ∧ 0 ≤ d ∧ d < 8) → xz v0 xs u (fun o X => ∃ r f', o = .inl r ∧ X = (xh f', u) ∧ (fun r' f' => r' = some (xi (sSL S s d).2.1) ∧ sCD f' (sSL S s d).1 ∧ sMT f' n (sSL S s d).2.2 ∧ ∀ q, q ≠ 177 → ¬ (189 ≤ q ∧ q ≤ 197) → f' q = f q) r f') 148 22 [(0, .ref 177), (1, xi s), (2, xi d)] [.ref 177] f := by
    intro hb
    refine x_iconst rfl ?_
    refine x_putfield rfl (by decide) h177 (show (0 : Nat) < _ from by rw [hfl]; decide) rfl ?_
    refine x_aload_n rfl rfl ?_
    refine x_getfield rfl (by decide) xu_eq (sget_eq (by rw [hfl]; decide)) ?_
    refine x_ifle (t := 35) rfl rfl (by decide) (fun h => absurd h (by decide)) (fun _ => ?_)
    refine x_iconst rfl ?_
    have e : sSL S s d = (1, 0, S) := by unfold sSL; rw [if_neg hb]
    rw [e]
    exact x_ireturn rfl (Or.inr (Or.inl ⟨rfl, by decide⟩)) ⟨_, _, rfl, rfl, rfl, ⟨_, xu_eq, sget_eq (by rw [hfl]; decide)⟩, sMT_0 hB0 hX hJ hC, fun q b1 _ => xu_ne b1 rfl⟩
  refine x_aload_n rfl rfl ?_
  refine x_iload_n rfl rfl ?_
  refine x_iflt (t := 22) rfl rfl hs (fun h1 => ?_) (fun h1 => ?_)
  · exact bad (fun h => by omega)
  refine x_iload_n rfl rfl ?_
  refine x_bipush rfl (by decide) ?_
  refine x_cgt (t := 22) rfl rfl hs (by decide) (fun h2 => ?_) (fun h2 => ?_)
  · exact bad (fun h => by omega)
  refine x_iload_n rfl rfl ?_
  refine x_call [_] rfl rfl (show (1 : Nat) ≤ 8 from by decide) (show (1 : Nat) ≤ 1 from by decide) rfl (xs_140 hd) ?_
  intro r' f1 hP
  obtain ⟨rfl, hPe⟩ := hP
  subst f1
  by_cases h8 : 0 ≤ d ∧ d < 8
  rotate_left
  · rw [if_neg h8]
    refine x_ifeq (t := 22) rfl rfl (by decide) (fun _ => ?_) (fun h => absurd rfl h)
    exact bad (fun h => h8 h.2)
  rw [if_pos h8]
  refine x_ifeq (t := 22) rfl rfl (by decide) (fun h => absurd h (by decide)) (fun _ => ?_)
  refine x_iconst rfl ?_
  refine x_goto (t := 23) rfl rfl ?_
  refine x_putfield rfl (by decide) h177 (show (0 : Nat) < _ from by rw [hfl]; decide) rfl ?_
  refine x_aload_n rfl rfl ?_
  refine x_getfield rfl (by decide) xu_eq (sget_eq (by rw [hfl]; decide)) ?_
  refine x_ifle (t := 35) rfl rfl (by decide) (fun _ => ?_) (fun h => absurd h (by decide))
  obtain ⟨k, rfl⟩ : ∃ k : Nat, d = (k : Int) := ⟨d.toNat, by omega⟩
  have hk8 : k < 8 := by omega
  obtain ⟨ax0, ay0, af0, hmc⟩ := hC
  have hB1 := sMB_0 (f' := xu f 177 (.inl (10, fs.set 0 (xi 0)))) hB0 xu_eq
  have hX1 : sMX (xu f 177 (.inl (10, fs.set 0 (xi 0)))) S.1 := sMX_f hX (fun q _ _ => xu_ne (by omega) rfl)
  have hmc1 : sMC (xu f 177 (.inl (10, fs.set 0 (xi 0)))) ax0 ay0 af0 := ⟨xu_ne (by decide) hmc.1, xu_ne (by decide) hmc.2.1, xu_ne (by decide) hmc.2.2.1, hmc.2.2.2⟩
  refine x_aload_n rfl rfl ?_
  refine x_call [_] rfl rfl (show (0 : Nat) ≤ 8 from by decide) (show (1 : Nat) ≤ 2 from by decide) (x_rcv (by decide) xu_eq) (xs_110 hB1 hX1 hmc1) ?_
  intro r' f2 hP
  obtain ⟨rfl, ⟨ax, ay, af, hmc2, hml⟩, hfr2⟩ := hP
  have e177 : f2 177 = .inl (10, fs.set 0 (xi 0)) := (hfr2 177 (by decide) (by decide) (by decide)).trans xu_eq
  have hB2 := sMB_f hB1 (f' := f2) (hfr2 177 (by decide) (by decide) (by decide))
  refine x_aload_n rfl rfl ?_
  refine x_iload_n rfl rfl ?_
  refine x_iconst rfl ?_
  refine x_call [_, _, _] rfl rfl (show (0 : Nat) ≤ 8 from by decide) (show (3 : Nat) ≤ 5 from by decide) (x_rcv (by decide) e177) (xs_117 hB2.1 hmc2 hml ⟨h1, h2⟩) ?_
  intro r' f3 hP
  obtain ⟨rfl, hPe⟩ := hP
  subst f3
  refine x_iload_n rfl rfl ?_
  refine x_ishr rfl ?_
  refine x_iconst rfl ?_
  refine x_iandg2 rfl (sm_bit _ hk8) ?_
  refine x_iconst rfl ?_
  have hfa : ∀ q, q ≠ 177 → ¬ (192 ≤ q ∧ q ≤ 194) → f2 q = f q := fun q b1 b2 => (hfr2 q (by omega) (by omega) (by omega)).trans (xu_ne b1 rfl)
  have e : sSL S s (k : Nat) = (0, if shas s S.1 k = true then 1 else 0, S) := by unfold sSL; rw [if_pos ⟨⟨h1, h2⟩, h8⟩, Int.toNat_natCast]
  rw [e]
  by_cases hh : shas s S.1 k = true
  · rw [if_pos hh]
    refine x_cne (t := 57) rfl rfl (by decide) (by decide) (fun h => absurd rfl h) (fun _ => ?_)
    refine x_iconst rfl ?_
    refine x_goto (t := 58) rfl rfl ?_
    exact x_ireturn rfl (Or.inr (Or.inl ⟨rfl, by decide⟩)) ⟨_, _, rfl, rfl, by simp only [if_pos hh], ⟨_, e177, sget_eq (by rw [hfl]; decide)⟩, ⟨⟨_, hB2⟩, sMX_f hX (fun q _ _ => hfa q (by omega) (by omega)), sMJ_f hJ (fun q _ _ => hfa q (by omega) (by omega)), ax, ay, af, hmc2⟩, fun q b1 b2 => hfa q b1 (by omega)⟩
  · rw [if_neg hh]
    refine x_cne (t := 57) rfl rfl (by decide) (by decide) (fun _ => ?_) (fun h => absurd h (by decide))
    refine x_iconst rfl ?_
    exact x_ireturn rfl (Or.inr (Or.inl ⟨rfl, by decide⟩)) ⟨_, _, rfl, rfl, by simp only [if_neg hh], ⟨_, e177, sget_eq (by rw [hfl]; decide)⟩, ⟨⟨_, hB2⟩, sMX_f hX (fun q _ _ => hfa q (by omega) (by omega)), sMJ_f hJ (fun q _ _ => hfa q (by omega) (by omega)), ax, ay, af, hmc2⟩, fun q b1 b2 => hfa q b1 (by omega)⟩
def sSD (K : List (Int × Int)) (G : Nat → List xBt) (S : sS) (b d : Int) : Int × Int × sS := if 0 ≤ d ∧ d < 8 then (if S.2.1.length = 0 ∨ b < 0 ∨ ((G (S.2.1.getD (S.2.1.length - 1) sH0).1).length : Nat) < b then (2, 0, S) else (0, srow (sbt K (G (S.2.1.getD (S.2.1.length - 1) sH0).1)) (S.2.1.getD (S.2.1.length - 1) sH0).2.1 (S.2.1.getD (S.2.1.length - 1) sH0).2.2 b.toNat d.toNat / 4, S)) else (1, 0, S)
theorem xs_145l {v0 : Value} {xs : List Int32} {u : Nat × Nat} {Q : zO → zX → Prop} {f0 : Nat → zE} {fs : List Value} {ca dn cl b d2 : Int} {r : Nat → Int} {be : List Int} (hB : sMB f0 fs ca dn cl) (h197 : f0 197 = xr 0 be) (hbl : be.length = 192) (hdn : 0 ≤ dn - 1 ∧ dn - 1 < 24) (hr : ∀ d, d < 8 → be.getD (8 * (dn - 1) + (d : Nat)).toNat 0 = r d ∧ sok (r d))
    (hkk : ∀ (lv : zL) (f : Nat → zE), zlv lv 0 = some (.ref 177) → zlv lv 1 = some (xi b) → zlv lv 2 = some (xi d2) → (∃ ax ay af : List Int, sMC f ax ay af ∧ ∀ e, e < 8 → sMP ax ay af ((e : Nat) : Int) (r e)) → (∀ q, q ≠ 192 → q ≠ 193 → q ≠ 194 → f q = f0 q) → xz v0 xs u Q 145 120 lv [] f) : ∀ (w d : Nat) (lv : zL) (f : Nat → zE), w + d = 8 → zlv lv 0 = some (.ref 177) → zlv lv 1 = some (xi b) → zlv lv 2 = some (xi d2) → zlv lv 3 = some (xi (d : Nat)) → (∃ ax ay af : List Int, sMC f ax ay af ∧ ∀ e, e < d → sMP ax ay af ((e : Nat) : Int) (r e)) → (∀ q, q ≠ 192 → q ≠ 193 → q ≠ 194 → f q = f0 q) → xz v0 xs u Q 145 87 lv [] f := by
  have hB0 := hB
  obtain ⟨⟨h177, hfl, ⟨f11, f13, f14, f15, f17, f18⟩, h25, h26, h27⟩, ⟨a1, a2, a3, a4, a5, a6⟩, h9, h31, h30⟩ := hB
  intro w
  induction w with
  | zero =>
    intro d lv f hw l0 l1 l2 l3 hrow hfr
    have e8 : d = 8 := by omega
    subst e8
    refine x_iload_n rfl l3 ?_
    refine x_bipush rfl (by decide) ?_
    refine x_cge (t := 120) rfl rfl (by decide) (by decide) (fun _ => ?_) (fun h => absurd h (by decide))
    exact hkk lv f l0 l1 l2 hrow hfr
  | succ w ih =>
    intro d lv f hw l0 l1 l2 l3 hrow hfr
    obtain ⟨ax, ay, af, hmc, hrow⟩ := hrow
    have hd : d < 8 := by omega
    obtain ⟨r1, r2⟩ := hr d hd
    have hB2 := sMB_f hB0 (f' := f) (hfr 177 (by decide) (by decide) (by decide))
    refine x_iload_n rfl l3 ?_
    refine x_bipush rfl (by decide) ?_
    refine x_cge (t := 120) rfl rfl ⟨by omega, by omega⟩ (by decide) (fun h => absurd h (by omega)) (fun _ => ?_)
    refine x_aload_n rfl l0 ?_
    refine x_iload_n rfl l3 ?_
    refine x_aload_n rfl l0 ?_
    refine x_getfield rfl (by decide) ((hfr 177 (by decide) (by decide) (by decide)).trans h177) a6 ?_
    refine x_bipush rfl (by decide) ?_
    refine x_aload_n rfl l0 ?_
    refine x_getfield rfl (by decide) ((hfr 177 (by decide) (by decide) (by decide)).trans h177) h31 ?_
    refine x_iconst rfl ?_
    refine x_isub rfl ?_
    refine x_imul rfl ?_
    refine x_iload_n rfl l3 ?_
    refine x_iadd rfl ?_
    refine x_iaload rfl (by decide) ((hfr 197 (by decide) (by decide) (by decide)).trans h197) ⟨by omega, by omega⟩ (by omega) ?_
    rw [r1]
    refine x_call [_, _, _] rfl rfl (show (0 : Nat) ≤ 8 from by decide) (show (3 : Nat) ≤ 3 from by decide) (x_rcv (by decide) ((hfr 177 (by decide) (by decide) (by decide)).trans h177)) (xs_133 hB2 hmc hd r2) ?_
    intro r' f1 hP
    obtain ⟨rfl, hmc1, hfr1⟩ := hP
    refine x_iinc rfl l3 (show (3 : Nat) < 4 from by decide) ?_
    refine x_goto (t := 87) rfl rfl ?_
    refine ih (d + 1) _ _ (by omega) (xst_ne (by decide) l0 (Or.inl rfl)) (xst_ne (by decide) l1 (Or.inl rfl)) (xst_ne (by decide) l2 (Or.inl rfl)) xst_eq ⟨_, _, _, hmc1, sMP_set (n := 8) hmc.2.2.2 (by omega) hrow rfl rfl rfl⟩ (fun q b1 b2 b3 => (hfr1 q b1 b2 b3).trans (hfr q b1 b2 b3))
theorem xs_145 {v0 : Value} {xs : List Int32} {u : Nat × Nat} {f : Nat → zE} {n : Nat} {S : sS} (hT : sMT f n S) {K : List (Int × Int)} {G : Nat → List xBt} (hn : n ≤ 12) (hK : ∀ c, c < n → sKM f K c (G c)) (hG : ∀ c, c < n → sGok K (G c)) (hc : ∀ i, i < S.2.1.length → (S.2.1.getD i sH0).1 < n ∧ sres (sbt K (G (S.2.1.getD i sH0).1)) (S.2.1.getD i sH0).2.1 (S.2.1.getD i sH0).2.2 (G (S.2.1.getD i sH0).1).length = 0) {b d : Int} (hb : -2147483648 ≤ b ∧ b ≤ 2147483647) (hd : -2147483648 ≤ d ∧ d ≤ 2147483647) : sMq v0 xs u 145 [(0, .ref 177), (1, xi b), (2, xi d)] f n (sSD K G S b d) := by
  unfold sMq xq
  obtain ⟨⟨fs, hB⟩, hX, hJ, hC⟩ := hT
  have hB0 := hB
  obtain ⟨⟨h177, hfl, ⟨f11, f13, f14, f15, f17, f18⟩, h25, h26, h27⟩, ⟨a1, a2, a3, a4, a5, a6⟩, h9, h31, h30⟩ := hB
  have h24 := hJ.1
  refine x_aload_n rfl rfl ?_
  refine x_iload_n rfl rfl ?_
  refine x_call [_] rfl rfl (show (1 : Nat) ≤ 8 from by decide) (show (1 : Nat) ≤ 1 from by decide) rfl (xs_140 hd) ?_
  intro r' f1 hP
  obtain ⟨rfl, hPe⟩ := hP
  subst f1
  by_cases h8 : 0 ≤ d ∧ d < 8
  rotate_left
  · rw [if_neg h8]
    refine x_ifeq (t := 12) rfl rfl (by decide) (fun _ => ?_) (fun h => absurd rfl h)
    refine x_iconst rfl ?_
    refine x_putfield rfl (by decide) h177 (show (0 : Nat) < _ from by rw [hfl]; decide) rfl ?_
    refine x_aload_n rfl rfl ?_
    refine x_getfield rfl (by decide) xu_eq (sget_eq (by rw [hfl]; decide)) ?_
    refine x_ifle (t := 25) rfl rfl (by decide) (fun h => absurd h (by decide)) (fun _ => ?_)
    refine x_iconst rfl ?_
    have e : sSD K G S b d = (1, 0, S) := by unfold sSD; rw [if_neg h8]
    rw [e]
    exact x_ireturn rfl (Or.inl rfl) ⟨_, _, rfl, rfl, rfl, ⟨_, xu_eq, sget_eq (by rw [hfl]; decide)⟩, sMT_0 hB0 hX hJ hC, fun q b1 _ => xu_ne b1 rfl⟩
  rw [if_pos h8]
  refine x_ifeq (t := 12) rfl rfl (by decide) (fun h => absurd h (by decide)) (fun _ => ?_)
  refine x_iconst rfl ?_
  refine x_goto (t := 13) rfl rfl ?_
  refine x_putfield rfl (by decide) h177 (show (0 : Nat) < _ from by rw [hfl]; decide) rfl ?_
  refine x_aload_n rfl rfl ?_
  refine x_getfield rfl (by decide) xu_eq (sget_eq (by rw [hfl]; decide)) ?_
  refine x_ifle (t := 25) rfl rfl (by decide) (fun _ => ?_) (fun h => absurd h (by decide))
  refine x_aload_n rfl rfl ?_
  have hB1 := sMB_0 (f' := xu f 177 (.inl (10, fs.set 0 (xi 0)))) hB0 xu_eq
  have bad : (S.2.1.length = 0 ∨ b < 0 ∨ ((G (S.2.1.getD (S.2.1.length - 1) sH0).1).length : Nat) < b) → xz v0 xs u (fun o X => ∃ r f', o = .inl r ∧ X = (xh f', u) ∧ (fun r' f' => r' = some (xi (sSD K G S b d).2.1) ∧ sCD f' (sSD K G S b d).1 ∧ sMT f' n (sSD K G S b d).2.2 ∧ ∀ q, q ≠ 177 → ¬ (189 ≤ q ∧ q ≤ 197) → f' q = f q) r f') 145 68 [(0, .ref 177), (1, xi b), (2, xi d)] [.ref 177] (xu f 177 (.inl (10, fs.set 0 (xi 0)))) := by
    intro hbb
    refine x_iconst rfl ?_
    refine x_goto (t := 73) rfl rfl ?_
    refine x_putfield rfl (by decide) xu_eq (show (0 : Nat) < _ from by rw [(slen hfl)]; decide) rfl ?_
    refine x_aload_n rfl rfl ?_
    refine x_getfield rfl (by decide) xu_eq (sget_eq (by rw [(slen hfl)]; decide)) ?_
    refine x_ifle (t := 85) rfl rfl (by decide) (fun h => absurd h (by decide)) (fun _ => ?_)
    refine x_iconst rfl ?_
    have e : sSD K G S b d = (2, 0, S) := by unfold sSD; rw [if_pos h8, if_pos hbb]
    rw [e]
    obtain ⟨ax0, ay0, af0, hmc⟩ := hC
    exact x_ireturn rfl (Or.inl rfl) ⟨_, _, rfl, rfl, rfl, ⟨_, xu_eq, sget_eq (by rw [slen hfl]; decide)⟩, ⟨⟨_, sMB_0 hB1 xu_eq⟩, sMX_f hX (fun q _ _ => xu_ne (by omega) (xu_ne (by omega) rfl)), sMJ_f hJ (fun q _ _ => xu_ne (by omega) (xu_ne (by omega) rfl)), ax0, ay0, af0, xu_ne (by decide) (xu_ne (by decide) hmc.1), xu_ne (by decide) (xu_ne (by decide) hmc.2.1), xu_ne (by decide) (xu_ne (by decide) hmc.2.2.1), hmc.2.2.2⟩, fun q b1 _ => xu_ne b1 (xu_ne b1 rfl)⟩
  refine x_aload_n rfl rfl ?_
  refine x_getfield rfl (by decide) xu_eq (sget_ne (by decide) h31) ?_
  refine x_ifeq (t := 68) rfl rfl ⟨by omega, by omega⟩ (fun h1 => ?_) (fun h1 => ?_)
  · exact bad (Or.inl (by omega))
  refine x_iload_n rfl rfl ?_
  refine x_iflt (t := 68) rfl rfl hb (fun h2 => ?_) (fun h2 => ?_)
  · exact bad (Or.inr (Or.inl h2))
  obtain ⟨m, hm⟩ : ∃ m : Nat, S.2.1.length = m + 1 := ⟨S.2.1.length - 1, by omega⟩
  obtain ⟨hj24, wl, bl, be, j195, j196, j197, ⟨y1, y2, y3⟩, hji⟩ := id hJ
  obtain ⟨t1, t2, t3⟩ := hji m (by omega)
  obtain ⟨hcm, hcs⟩ := hc m (by omega)
  have hlast : S.2.1.getD (S.2.1.length - 1) sH0 = S.2.1.getD m sH0 := by rw [hm, Nat.add_sub_cancel]
  generalize hr : S.2.1.getD m sH0 = e at t1 t2 t3 hcm hcs hlast
  have hKe := hK e.1 hcm
  obtain ⟨-, cnl, tk, pf, pq, se, at', k180, -, -, -, -, -, ⟨kl, -⟩, hcnt, -⟩ := id hKe
  have hl16 := (hG e.1 hcm).1
  refine x_iload_n rfl rfl ?_
  refine x_aload_n rfl rfl ?_
  refine x_getfield rfl (by decide) xu_eq (sget_ne (by decide) f11) ?_
  refine x_aload_n rfl rfl ?_
  refine x_getfield rfl (by decide) xu_eq (sget_ne (by decide) a4) ?_
  refine x_aload_n rfl rfl ?_
  refine x_getfield rfl (by decide) xu_eq (sget_ne (by decide) h31) ?_
  refine x_ifle (t := 62) rfl rfl ⟨by omega, by omega⟩ (fun h => by omega) (fun _ => ?_)
  refine x_aload_n rfl rfl ?_
  refine x_getfield rfl (by decide) xu_eq (sget_ne (by decide) h31) ?_
  refine x_iconst rfl ?_
  refine x_isub rfl ?_
  rw [show ((S.2.1.length : Nat) : Int) - 1 = (m : Nat) from by omega]
  refine x_goto (t := 63) rfl rfl ?_
  refine x_iaload rfl (by decide) (xu_ne (by decide) j195) ⟨by omega, by omega⟩ (by omega) ?_
  rw [Int.toNat_natCast, t1]
  refine x_iaload rfl (by decide) (xu_ne (by decide) k180) ⟨by omega, by omega⟩ (by omega) ?_
  rw [Int.toNat_natCast, hcnt]
  refine x_cle (t := 72) rfl rfl hb ⟨by omega, by omega⟩ (fun h3 => ?_) (fun h3 => ?_)
  rotate_left
  · exact bad (Or.inr (Or.inr (by rw [hlast]; exact h3)))
  refine x_iconst rfl ?_
  refine x_putfield rfl (by decide) xu_eq (show (0 : Nat) < _ from by rw [(slen hfl)]; decide) rfl ?_
  refine x_aload_n rfl rfl ?_
  refine x_getfield rfl (by decide) xu_eq (sget_eq (by rw [(slen hfl)]; decide)) ?_
  refine x_ifle (t := 85) rfl rfl (by decide) (fun _ => ?_) (fun h => absurd h (by decide))
  refine x_iconst rfl ?_
  refine x_istore_n rfl (show (3 : Nat) < 4 from by decide) ?_
  obtain ⟨ax0, ay0, af0, hmc⟩ := hC
  generalize hf2 : xu (xu f 177 _) 177 _ = f2
  have g177 : f2 177 = .inl (10, (fs.set 0 (xi 0)).set 0 (xi 0)) := by rw [← hf2]; exact xu_eq
  have hfa : ∀ q, q ≠ 177 → f2 q = f q := fun q b => by rw [← hf2]; exact xu_ne b (xu_ne b rfl)
  have hB2 := sMB_0 hB1 g177
  have g197 := (hfa 197 (by decide)).trans j197
  refine xs_145l (b := b) (d2 := d) (r := e.2.2) hB2 g197 y3 ⟨by omega, by omega⟩ (fun d hd => by rw [show (8 * (((S.2.1.length : Nat) : Int) - 1) + (d : Nat)).toNat = 8 * m + d from by omega]; exact t3 d hd) (fun lv2 f3 m0 m1 m2 hrow hfr3 => ?_) 8 0 _ _ rfl (xst_ne (by decide) rfl (Or.inl rfl)) (xst_ne (by decide) rfl (Or.inl rfl)) (xst_ne (by decide) rfl (Or.inl rfl)) xst_eq ⟨ax0, ay0, af0, ⟨(hfa _ (by decide)).trans hmc.1, (hfa _ (by decide)).trans hmc.2.1, (hfa _ (by decide)).trans hmc.2.2.1, hmc.2.2.2⟩, fun e he => absurd he (Nat.not_lt_zero _)⟩ (fun _ _ _ _ => rfl)
  obtain ⟨ax, ay, af, hmc3, hrow3⟩ := hrow
  have g3 := (hfr3 177 (by decide) (by decide) (by decide)).trans g177
  have hB3 := sMB_f hB2 (f' := f3) (hfr3 177 (by decide) (by decide) (by decide))
  have hfb : ∀ q, q ≠ 177 → q ≠ 192 → q ≠ 193 → q ≠ 194 → f3 q = f q := fun q b0 b1 b2 b3 => (hfr3 q b1 b2 b3).trans (hfa q b0)
  have hml : sML ax ay af 0 e.2.2 := sML_of hrow3 fun d hd => (t3 d hd).2
  have hKM3 : sKM f3 K e.1 (G e.1) := sKM_f hKe (fun q _ _ => hfb q (by omega) (by omega) (by omega) (by omega))
  refine x_aload_n rfl m0 ?_
  refine x_aload_n rfl m0 ?_
  refine x_getfield rfl (by decide) g3 (sget_ne (by decide) (sget_ne (by decide) a4)) ?_
  refine x_aload_n rfl m0 ?_
  refine x_getfield rfl (by decide) g3 (sget_ne (by decide) (sget_ne (by decide) h31)) ?_
  refine x_iconst rfl ?_
  refine x_isub rfl ?_
  rw [show ((S.2.1.length : Nat) : Int) - 1 = (m : Nat) from by omega]
  refine x_iaload rfl (by decide) ((hfb 195 (by decide) (by decide) (by decide) (by decide)).trans j195) ⟨by omega, by omega⟩ (by omega) ?_
  rw [Int.toNat_natCast, t1]
  refine x_aload_n rfl m0 ?_
  refine x_getfield rfl (by decide) g3 (sget_ne (by decide) (sget_ne (by decide) a5)) ?_
  refine x_aload_n rfl m0 ?_
  refine x_getfield rfl (by decide) g3 (sget_ne (by decide) (sget_ne (by decide) h31)) ?_
  refine x_iconst rfl ?_
  refine x_isub rfl ?_
  rw [show ((S.2.1.length : Nat) : Int) - 1 = (m : Nat) from by omega]
  refine x_baload rfl (by decide) ((hfb 196 (by decide) (by decide) (by decide) (by decide)).trans j196) ⟨by omega, by omega⟩ (by omega) ?_
  rw [Int.toNat_natCast, t2]
  refine x_call [_, _, _] rfl rfl (show (0 : Nat) ≤ 8 from by decide) (show (3 : Nat) ≤ 10 from by decide) (x_rcv (by decide) g3) (xs_122 hKM3 (hG e.1 hcm) hB3.1 hmc3 hml) ?_
  intro r' f4 hP
  obtain ⟨rfl, ⟨fs4, hm4, hk4, -⟩, ⟨bx, bY, bf, hmc4, hgood⟩, hfr4⟩ := hP
  refine x_istore_n rfl (show (3 : Nat) < 4 from by decide) ?_
  have hB4 := sMB_k hB3 hm4 hk4
  have hrb := (hgood hcs) b.toNat (by omega)
  rw [show ((b.toNat : Nat) : Int) = b from by omega] at hrb
  obtain ⟨k, rfl⟩ : ∃ k : Nat, d = (k : Int) := ⟨d.toNat, by omega⟩
  obtain ⟨⟨z1, z2, -⟩, -⟩ := hrb.2.2 k (by omega)
  obtain ⟨-, -, -, w25, w26, -⟩ := id hB4.1
  have w177 := hB4.1.1
  obtain ⟨v1, v2, v3, v4, v5, v6⟩ := id hmc4
  have hfc : ∀ q, q ≠ 177 → q ≠ 192 → q ≠ 193 → q ≠ 194 → f4 q = f q := fun q b0 b1 b2 b3 => (hfr4 q b0 b1 b2 b3).trans (hfb q b0 b1 b2 b3)
  refine x_bipush rfl (by decide) ?_
  refine x_aload_n rfl (xst_ne (by decide) m0 (Or.inl rfl)) ?_
  refine x_getfield rfl (by decide) w177 w26 ?_
  refine x_bipush rfl (by decide) ?_
  refine x_iload_n rfl (xst_ne (by decide) m1 (Or.inl rfl)) ?_
  refine x_imul rfl ?_
  refine x_iload_n rfl (xst_ne (by decide) m2 (Or.inl rfl)) ?_
  refine x_iadd rfl ?_
  refine x_iaload rfl (by decide) v2 ⟨by omega, by omega⟩ (by omega) ?_
  rw [z2]
  refine x_imul rfl ?_
  refine x_aload_n rfl (xst_ne (by decide) m0 (Or.inl rfl)) ?_
  refine x_getfield rfl (by decide) w177 w25 ?_
  refine x_bipush rfl (by decide) ?_
  refine x_iload_n rfl (xst_ne (by decide) m1 (Or.inl rfl)) ?_
  refine x_imul rfl ?_
  refine x_iload_n rfl (xst_ne (by decide) m2 (Or.inl rfl)) ?_
  refine x_iadd rfl ?_
  refine x_iaload rfl (by decide) v1 ⟨by omega, by omega⟩ (by omega) ?_
  rw [z1]
  refine x_iadd rfl ?_
  have e9 : sSD K G S b (k : Nat) = (0, srow (sbt K (G e.1)) e.2.1 e.2.2 b.toNat k / 4, S) := by unfold sSD; rw [if_pos h8, hlast, if_neg (by omega), Int.toNat_natCast]
  rw [e9, s_spot]
  exact x_ireturn rfl (Or.inl rfl) ⟨_, _, rfl, rfl, rfl, ⟨_, w177, (hk4 0 (by decide) (by decide)).trans (sget_eq (by rw [slen hfl]; decide))⟩, ⟨⟨_, hB4⟩, sMX_f hX (fun q _ _ => hfc q (by omega) (by omega) (by omega) (by omega)), sMJ_f hJ (fun q _ _ => hfc q (by omega) (by omega) (by omega) (by omega)), bx, bY, bf, hmc4⟩, fun q b1 b2 => hfc q b1 (by omega) (by omega) (by omega)⟩
end
section
/-! The class's dancing, above follow. -/
theorem zwp_and {t : zT} {G : List zE} {mi pc : Nat} {lv : zL} {st : List Value} {X : zX} {Q1 Q2 : zO → zX → Prop} (h1 : zwp t G mi pc lv st X Q1) (h2 : zwp t G mi pc lv st X Q2) : zwp t G mi pc lv st X (fun o X' => Q1 o X' ∧ Q2 o X') := by
  obtain ⟨n1, o1, X1, e1, q1⟩ := h1
  obtain ⟨n2, o2, X2, e2, q2⟩ := h2
  have a := zev_le (Nat.le_max_left n1 n2) e1
  have b := zev_le (Nat.le_max_right n1 n2) e2
  rw [a] at b
  cases b
  exact ⟨_, _, _, a, q1, q2⟩
theorem xD_h {f f1 f2 : Nat → zE} (e : xh f1 = xh f2) (h : xD f f1) : xD f f2 := by
  unfold xD at h ⊢
  rw [← e]
  exact h
/-- what a method of the model does, with the types kept -/
theorem sxq_D {v0 : Value} {xs : List Int32} {u : Nat × Nat} {f : Nat → zE} {m : Nat} {ps : List yA} {ro : Option yA} {vs : List Value} {P : Option Value → (Nat → zE) → Prop} (h : xq v0 xs u m (lv_args 0 vs) f P) (hA : xca f m ps ro []) (hf : yfa ps vs) : xq v0 xs u m (lv_args 0 vs) f (fun r f' => P r f' ∧ xD f f') := by
  refine zwp_mono (zwp_and h (xca_q hA hf)) fun o X hq => ?_
  obtain ⟨⟨r, f1, e1, e2, hP⟩, r2, f2, e3, e4, -, hD⟩ := hq
  refine ⟨r, f1, e1, e2, hP, xD_h ?_ hD⟩
  rw [e2] at e4
  exact (congrArg Prod.fst e4).symm
theorem scopy_at {lx ly : List Int} {s d n : Nat} (h1 : s + n ≤ lx.length) (h2 : d + n ≤ ly.length) (j : Nat) : (ly.take d ++ (lx.drop s).take n ++ ly.drop (d + n)).getD j 0 = if d ≤ j ∧ j < d + n then lx.getD (s + (j - d)) 0 else ly.getD j 0 := by
  have e1 : (ly.take d).length = d := by rw [List.length_take]; omega
  have e2 : ((lx.drop s).take n).length = n := by rw [List.length_take, List.length_drop]; omega
  rw [List.getD_eq_getElem?_getD]
  by_cases hj : j < d
  · rw [if_neg (by omega), List.append_assoc, List.getElem?_append_left (by omega), List.getElem?_take, if_pos hj, ← List.getD_eq_getElem?_getD]
  · by_cases hj2 : j < d + n
    · rw [if_pos ⟨by omega, hj2⟩, List.append_assoc, List.getElem?_append_right (by omega), List.getElem?_append_left (by omega), e1, List.getElem?_take, if_pos (by omega), List.getElem?_drop, ← List.getD_eq_getElem?_getD]
    · rw [if_neg (by omega), List.getElem?_append_right (by rw [List.length_append]; omega), List.length_append, e1, e2, List.getElem?_drop, show d + n + (j - (d + n)) = j by omega, ← List.getD_eq_getElem?_getD]
theorem scopy_len {lx ly : List Int} {s d n : Nat} (h1 : s + n ≤ lx.length) (h2 : d + n ≤ ly.length) : (ly.take d ++ (lx.drop s).take n ++ ly.drop (d + n)).length = ly.length := by
  simp only [List.length_append, List.length_take, List.length_drop]
  omega
theorem x_acopy {v0 : Value} {xs : List Int32} {u : Nat × Nat} {Q : zO → zX → Prop} {mi pc k c : Nat} {v : Value} {lv : zL} {r : List Value} {f : Nat → zE} {p d : Nat} {lx ly : List Int} {sp dp n : Int} (hc : zcd (zt v0) mi pc = some (.invokestatic k, 1, 3, c, v)) (hp : 50 ≤ p ∧ p < 204) (hd : 50 ≤ d ∧ d < 204) (hne : d ≠ p) (h1 : f p = xr 0 lx) (h2 : f d = xr 0 ly) (hn : 0 ≤ n) (hs : 0 ≤ sp ∧ sp + n ≤ (lx.length : Nat)) (hdp : 0 ≤ dp ∧ dp + n ≤ (ly.length : Nat)) (hl : lx.length ≤ 5000) (hl2 : ly.length ≤ 5000) (h8 : zcat r ≤ 8) (kk : xz v0 xs u Q mi (pc + 3) lv r (xu f d (xr 0 (ly.take dp.toNat ++ (lx.drop sp.toNat).take n.toNat ++ ly.drop (dp.toNat + n.toNat))))) : xz v0 xs u Q mi pc lv (xi n :: xi dp :: .ref d :: xi sp :: .ref p :: r) f := by
  obtain ⟨z1, z2, z3, z4, z5⟩ := zk_za (G := zG xs) (df := zdf (zt v0)) (i := .invokestatic k) (a := 1) (b := 3) (c := c) (v := v) (nL := znl (zt v0) mi) (pc := pc) (lv := lv) (st := xi n :: xi dp :: .ref d :: xi sp :: .ref p :: r) (X := (xh f, u)) rfl
  have c1 := xi_clamp hn (show n ≤ 2147483647 by omega)
  have c2 := xi_clamp hs.1 (show sp ≤ 2147483647 by omega)
  have c3 := xi_clamp hdp.1 (show dp ≤ 2147483647 by omega)
  have e : zd 3 (xi n :: xi dp :: .ref d :: xi sp :: .ref p :: r) (xh f, u) = some (r, (xh (xu f d (xr 0 (ly.take dp.toNat ++ (lx.drop sp.toNat).take n.toNat ++ ly.drop (dp.toNat + n.toNat)))), u)) := by
    simp only [zd]
    rw [if_neg (show ¬ (d < 50 ∨ p < 50 ∨ d = p) by omega)]
    simp only [xh_at hp.1 hp.2, xh_at hd.1 hd.2, h1, h2]
    rw [if_pos ⟨c1.1, c2.1, c3.1, by rw [c1.2, c2.2, List.length_map]; omega, by rw [c1.2, c3.2, List.length_map]; omega⟩, c1.2, c2.2, c3.2]
    have e2 : ((ly.map Int32.ofInt).take dp.toNat ++ ((lx.map Int32.ofInt).drop sp.toNat).take n.toNat ++ (ly.map Int32.ofInt).drop (dp.toNat + n.toNat)) = (ly.take dp.toNat ++ (lx.drop sp.toNat).take n.toNat ++ ly.drop (dp.toNat + n.toNat)).map Int32.ofInt := by
      simp only [List.map_append, List.map_take, List.map_drop]
    rw [e2]
    show some (r, ((xh f).set (d - 50) _, u)) = _
    rw [xh_set hd.1]
  exact zwp_jdk ⟨hc, z1, z2, z3⟩ z4 rfl rfl e h8 kk
def xjl : List (Option Nat) := [some 123, some 125, some 127, some 129, some 131, some 133, some 135, some 137, some 139, some 141, some 143, some 145, some 147, some 149, some 151, some 153, some 155, some 157, some 159, some 161, some 163, some 165, some 167, some 169]
theorem xjl_at : ∀ i : Nat, i < 24 → xjl.getD i none = some (123 + 2 * i) := by decide
theorem yT2_trkA : ∀ i : Nat, i < 13 → yT2[73 + 2 * i]? = some (.inl (9, [.inr (.inr [123 + 2 * i + 1]), .inl (0, 16)])) ∧ yT2[73 + 2 * i + 1]? = some (.inr (.inl (0, [(136, 0, 399)]))) := fun i hi => match i, hi with
  | 0, _ => ⟨rfl, rfl⟩
  | 1, _ => ⟨rfl, rfl⟩
  | 2, _ => ⟨rfl, rfl⟩
  | 3, _ => ⟨rfl, rfl⟩
  | 4, _ => ⟨rfl, rfl⟩
  | 5, _ => ⟨rfl, rfl⟩
  | 6, _ => ⟨rfl, rfl⟩
  | 7, _ => ⟨rfl, rfl⟩
  | 8, _ => ⟨rfl, rfl⟩
  | 9, _ => ⟨rfl, rfl⟩
  | 10, _ => ⟨rfl, rfl⟩
  | 11, _ => ⟨rfl, rfl⟩
  | 12, _ => ⟨rfl, rfl⟩
theorem yT2_trkB : ∀ i : Nat, i < 13 → yT2[73 + 2 * (i + 13)]? = some (.inl (9, [.inr (.inr [123 + 2 * (i + 13) + 1]), .inl (0, 16)])) ∧ yT2[73 + 2 * (i + 13) + 1]? = some (.inr (.inl (0, [(136, 0, 399)]))) := fun i hi => match i, hi with
  | 0, _ => ⟨rfl, rfl⟩
  | 1, _ => ⟨rfl, rfl⟩
  | 2, _ => ⟨rfl, rfl⟩
  | 3, _ => ⟨rfl, rfl⟩
  | 4, _ => ⟨rfl, rfl⟩
  | 5, _ => ⟨rfl, rfl⟩
  | 6, _ => ⟨rfl, rfl⟩
  | 7, _ => ⟨rfl, rfl⟩
  | 8, _ => ⟨rfl, rfl⟩
  | 9, _ => ⟨rfl, rfl⟩
  | 10, _ => ⟨rfl, rfl⟩
  | 11, _ => ⟨rfl, rfl⟩
  | 12, _ => ⟨rfl, rfl⟩
theorem yT2_trk (i : Nat) (hi : i < 26) : yT2[73 + 2 * i]? = some (.inl (9, [.inr (.inr [123 + 2 * i + 1]), .inl (0, 16)])) ∧ yT2[73 + 2 * i + 1]? = some (.inr (.inl (0, [(136, 0, 399)]))) := by
  by_cases h : i < 13
  · exact yT2_trkA i h
  · have e := yT2_trkB (i - 13) (by omega)
    rw [show i - 13 + 13 = i by omega] at e
    exact e
theorem sTk {f : Nat → zE} (hM : yM yT2 (xh f)) {i : Nat} (hi : i < 26) : ∃ (z : Int) (l : List Int), f (123 + 2 * i) = .inl (9, [.ref (123 + 2 * i + 1), xi z]) ∧ (0 ≤ z ∧ z ≤ 16) ∧ f (123 + 2 * i + 1) = xr 0 l ∧ l.length = 136 ∧ ∀ j, j < 136 → sok (l.getD j 0) := by
  obtain ⟨y1, y2⟩ := yT2_trk i hi
  obtain ⟨fs, h1, h2, h3⟩ := xT_o (p := 123 + 2 * i) hM (by omega) (by rw [show 123 + 2 * i - 50 = 73 + 2 * i by omega]; exact y1)
  obtain ⟨l, g1, g2, g3⟩ := xT_a (p := 123 + 2 * i + 1) hM (by omega) (by rw [show 123 + 2 * i + 1 - 50 = 73 + 2 * i + 1 by omega]; exact y2)
  have gl : l.length = 136 := g2
  match fs, h2, h1, h3 with
  | [a, b], _, h1, h3 =>
    obtain ⟨_, hv, hg⟩ := h3 0 _ rfl
    cases hv
    obtain ⟨_, hw, hg2⟩ := h3 1 _ rfl
    cases hw
    obtain ⟨z, rfl, z1, z2⟩ := yg_i hg2
    rw [yg_rf hg] at h1
    refine ⟨z, l, h1, ⟨z1, z2⟩, g1, gl, fun j hj => ?_⟩
    obtain ⟨b1, b2⟩ := g3 j (0, 399) (by unfold yat; exact if_pos hj) (by omega)
    dsimp only at b1 b2
    unfold sok
    omega
theorem sDN_M {f : Nat → zE} (hM : yM yT2 (xh f)) : sDN f := by
  obtain ⟨fs, h1, h2, h3⟩ := xT_o (p := 113) hM (by decide) (show yT2[113 - 50]? = some (.inl (6, [.inr (.inr [53]), .inr (.inr [114]), .inr (.inr [116])])) from rfl)
  obtain ⟨gs, i1, i2, i3⟩ := xT_o (p := 114) hM (by decide) (show yT2[114 - 50]? = some (.inl (7, [.inr (.inr [115])])) from rfl)
  obtain ⟨l, j1, j2, -⟩ := xT_a (p := 115) hM (by decide) (show yT2[115 - 50]? = some (.inr (.inl (0, [(8, ytop)]))) from rfl)
  obtain ⟨m, k1, k2, k3⟩ := xT_a (p := 116) hM (by decide) (show yT2[116 - 50]? = some (.inr (.inl (0, [(8, 0, 6)]))) from rfl)
  have k2' : m.length = 8 := k2
  match fs, h2, h1, h3, gs, i2, i1, i3 with
  | [a, b, c], _, h1, h3, [d], _, i1, i3 =>
    obtain ⟨_, hv, g0⟩ := h3 0 _ rfl
    cases hv
    obtain ⟨_, hv, g1⟩ := h3 1 _ rfl
    cases hv
    obtain ⟨_, hv, g2⟩ := h3 2 _ rfl
    cases hv
    obtain ⟨_, hv, g3⟩ := i3 0 _ rfl
    cases hv
    rw [yg_rf g0, yg_rf g1, yg_rf g2] at h1
    rw [yg_rf g3] at i1
    exact ⟨h1, i1, ⟨l, j1, j2⟩, m, k1, k2', fun e he => k3 e (0, 6) (by unfold yat; exact if_pos he) (by omega)⟩
theorem s122 {f : Nat → zE} (hM : yM yT2 (xh f)) : f 122 = .inr (.inr (.inr (9, xjl))) := by
  obtain ⟨c, hc, hok⟩ := hM.2 72 (.inr (.inr (.inr (9, [[123], [125], [127], [129], [131], [133], [135], [137], [139], [141], [143], [145], [147], [149], [151], [153], [155], [157], [159], [161], [163], [165], [167], [169]])))) rfl
  have e : (xh f)[72]? = some (f 122) := xh_at (p := 122) (by decide) (by decide)
  rw [hc] at e
  rw [← Option.some.inj e]
  match c, hok with
  | .inr (.inr (.inr (a, l))), hok =>
    obtain ⟨h1, h2, h3⟩ := hok
    have h1' : 9 = a := h1
    subst h1'
    have hl : l = xjl := by
      apply List.ext_getElem?
      intro k
      have h2' : (24 : Nat) = l.length := h2
      by_cases hk : k < 24
      · have key : ∀ k : Nat, k < 24 → ([[123], [125], [127], [129], [131], [133], [135], [137], [139], [141], [143], [145], [147], [149], [151], [153], [155], [157], [159], [161], [163], [165], [167], [169]] : List (List Nat))[k]? = some [123 + 2 * k] ∧ xjl[k]? = some (some (123 + 2 * k)) := by decide
        obtain ⟨hp1, hp2⟩ := key k hk
        have hk2 : k < l.length := by omega
        obtain ⟨o, ho1, ho2⟩ := h3 k [123 + 2 * k] (l[k]'hk2) hp1 (show l[k]? = some (l[k]'hk2) from List.getElem?_eq_getElem hk2)
        rw [hp2, List.getElem?_eq_getElem hk2, ho1, List.mem_singleton.mp ho2]
      · rw [List.getElem?_eq_none (by omega), List.getElem?_eq_none (by show 24 ≤ k; omega)]
    rw [hl]
theorem xs_91 {v0 : Value} {xs : List Int32} {u : Nat × Nat} {f : Nat → zE} {t p : Nat} {w : Value} {l pl : List Int} {o : Int} (ht : 50 ≤ t ∧ t < 203) (h1 : f t = .inl (9, [.ref (t + 1), w])) (h2 : f (t + 1) = xr 0 l) (hl : l.length = 136) (hp : 50 ≤ p ∧ p < 204) (hpt : t + 1 ≠ p) (h3 : f p = xr 0 pl) (hpl : pl.length ≤ 5000) (ho : 0 ≤ o ∧ o + 8 ≤ (pl.length : Nat)) : xq v0 xs u 91 [(0, .ref t), (1, .ref p), (2, xi o)] f (fun r' f' => r' = none ∧ f' t = .inl (9, [.ref (t + 1), xi 0]) ∧ (∃ l' : List Int, f' (t + 1) = xr 0 l' ∧ l'.length = 136 ∧ ∀ d : Nat, d < 8 → l'.getD d 0 = pl.getD (o + (d : Nat)).toNat 0) ∧ ∀ q, q ≠ t → q ≠ t + 1 → f' q = f q) := by
  unfold xq
  refine x_aload_n rfl rfl ?_
  refine x_iload_n rfl rfl ?_
  refine x_aload_n rfl rfl ?_
  refine x_getfield rfl ⟨by omega, by omega⟩ h1 rfl ?_
  refine x_iconst rfl ?_
  refine x_bipush rfl (by decide) ?_
  refine x_acopy rfl hp ⟨by omega, by omega⟩ hpt h3 h2 (by decide) ho ⟨by omega, by omega⟩ hpl (by omega) (show (0 : Nat) ≤ 8 from by decide) ?_
  refine x_aload_n rfl rfl ?_
  refine x_iconst rfl ?_
  refine x_putfield rfl ⟨by omega, by omega⟩ (xu_ne (by omega) h1) (show (1 : Nat) < 2 from by decide) rfl ?_
  refine x_return rfl ⟨_, _, rfl, rfl, rfl, xu_eq, ⟨_, xu_ne (by omega) xu_eq, ?_, fun d hd => ?_⟩, fun q a b => xu_ne a (xu_ne b rfl)⟩
  · rw [show (8 : Int).toNat = 8 from rfl, show (0 : Int).toNat = 0 from rfl, scopy_len (by omega) (by omega)]
    exact hl
  · rw [show (8 : Int).toNat = 8 from rfl, show (0 : Int).toNat = 0 from rfl, scopy_at (by omega) (by omega), if_pos ⟨by omega, by omega⟩]
    congr 1
    omega
theorem xs_106 {v0 : Value} {xs : List Int32} {u : Nat × Nat} {f : Nat → zE} {t p : Nat} {w : Value} {l ly : List Int} {b o : Int} (ht : 50 ≤ t ∧ t < 203) (h1 : f t = .inl (9, [.ref (t + 1), w])) (h2 : f (t + 1) = xr 0 l) (hl : l.length = 136) (hb : 0 ≤ b ∧ b ≤ 16) (hp : 50 ≤ p ∧ p < 204) (hpt : p ≠ t + 1) (h3 : f p = xr 0 ly) (hly : ly.length ≤ 5000) (ho : 0 ≤ o ∧ o + 8 ≤ (ly.length : Nat)) : xq v0 xs u 106 [(0, .ref t), (1, xi b), (2, .ref p), (3, xi o)] f (fun r' f' => r' = none ∧ (∃ l' : List Int, f' p = xr 0 l' ∧ l'.length = ly.length ∧ ∀ j : Nat, l'.getD j 0 = if o.toNat ≤ j ∧ j < o.toNat + 8 then l.getD ((b * 8).toNat + (j - o.toNat)) 0 else ly.getD j 0) ∧ ∀ q, q ≠ p → f' q = f q) := by
  unfold xq
  refine x_aload_n rfl rfl ?_
  refine x_getfield rfl ⟨by omega, by omega⟩ h1 rfl ?_
  refine x_iload_n rfl rfl ?_
  refine x_bipush rfl (by decide) ?_
  refine x_imul rfl ?_
  refine x_aload_n rfl rfl ?_
  refine x_iload_n rfl rfl ?_
  refine x_bipush rfl (by decide) ?_
  refine x_acopy rfl ⟨by omega, by omega⟩ hp hpt h2 h3 (by decide) ⟨by omega, by omega⟩ ho (by omega) hly (show (0 : Nat) ≤ 8 from by decide) ?_
  refine x_return rfl ⟨_, _, rfl, rfl, rfl, ⟨_, xu_eq, ?_, fun j => ?_⟩, fun q a => xu_ne a rfl⟩
  · rw [show (8 : Int).toNat = 8 from rfl, scopy_len (by omega) (by omega)]
  · rw [show (8 : Int).toNat = 8 from rfl, scopy_at (by omega) (by omega)]
end
