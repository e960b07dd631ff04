/-! The class's reader, token by token. -/
abbrev xrd (c : Nat) (op ex bs sl : Int) : zE := .inl (4, [.ref 51, .ref 53, .ref 112, .ref 110, .ref 111, .ref (57 + 4 * c), xi op, xi ex, xi bs, xi sl])
def xS (wo : Int64) : Int := xix (xgt 5).2 wo (xgt 5).2.length 0 0 0
def xAt (wo : Int64) : Int := xix (xgt 6).2 wo (xgt 6).2.length 0 0 0
theorem xix_rg {zs : List Int} {W : Int64} : ∀ (d i : Nat) (ix rd : Int), -1 ≤ ix → -1 ≤ xix zs W d i ix rd ∧ xix zs W d i ix rd ≤ max (-1) (ix + d) := by
  intro d
  induction d with
  | zero =>
    intro i ix rd h
    simp only [xix]
    split <;> omega
  | succ d ih =>
    intro i ix rd h
    simp only [xix]
    split
    · split
      · omega
      · have := ih (i + 1) (ix + 1) 0 (by omega)
        omega
    · have := ih (i + 1) ix (32 * rd + (zs.getD i 0 - 96)) h
      omega
theorem xS_rg (wo : Int64) : -1 ≤ xS wo ∧ xS wo ≤ 75 := by
  have := xix_rg (zs := (xgt 5).2) (W := wo) (xgt 5).2.length 0 0 0 (by decide)
  have h2 := xgt_l (p := 5) (Or.inl rfl)
  unfold xS
  omega
theorem xAt_rg (wo : Int64) : -1 ≤ xAt wo ∧ xAt wo ≤ 75 := by
  have := xix_rg (zs := (xgt 6).2) (W := wo) (xgt 6).2.length 0 0 0 (by decide)
  have h2 := xgt_l (p := 6) (Or.inr rfl)
  unfold xAt
  omega
theorem xfn_rg {nm : Nat → Int64} {g : Int64} : ∀ (d i : Nat), xfn nm g d i = -1 ∨ ∃ j : Nat, xfn nm g d i = (j : Nat) ∧ i ≤ j ∧ j < i + d := by
  intro d
  induction d with
  | zero => intro i; exact Or.inl rfl
  | succ d ih =>
    intro i
    simp only [xfn]
    split
    · exact Or.inr ⟨i, rfl, Nat.le_refl _, by omega⟩
    · rcases ih (i + 1) with h | ⟨j, h1, h2, h3⟩
      · exact Or.inl h
      · exact Or.inr ⟨j, h1, by omega, by omega⟩
theorem xs_42t {v0 : Value} {xs : List Int32} {u : Nat × Nat} {f : Nat → zE} {c : Nat} {op ex bs sl ki st en di sg : Int} {wo : Int64} {w nx : Int} (h109 : f 109 = xrd c op ex bs sl) (h112 : f 112 = xtk ki st en wo di sg) (hki : 0 ≤ ki ∧ ki ≤ 9) (hsg : ki = 3 → 0 ≤ sg ∧ sg ≤ 65535) (hw0 : 0 ≤ w ∧ w ≤ 65535) (hw : ki = 3 ∧ sg = w) : xq v0 xs u 42 [(0, .ref 109), (1, xi w), (2, xi nx)] f (fun r f' => r = some (xi 1) ∧ f' = xu f 109 (xrd c op nx bs sl)) := by
  unfold xq
  refine x_aload_n rfl rfl ?_
  refine x_getfield rfl (by decide) h109 rfl ?_
  refine x_iload_n rfl rfl ?_
  refine x_call [_, _] rfl rfl (show (0 : Nat) ≤ 8 from by decide) (show (2 : Nat) ≤ 2 from by decide) (x_rcv (by decide) h112) (xs_41 hki hsg hw0 h112) (fun r' f' hP => ?_)
  obtain ⟨rfl, rfl⟩ := hP
  rw [if_pos hw]
  refine x_ifne (t := 13) rfl rfl ⟨by omega, by omega⟩ (fun hb8 => ?_) (fun hb8 => ?_)
  · refine x_aload_n rfl rfl ?_
    refine x_iload_n rfl rfl ?_
    refine x_putfield rfl (by decide) h109 (show (7 : Nat) < 10 from by decide) rfl ?_
    refine x_iconst rfl ?_
    refine x_ireturn rfl (Or.inr (Or.inl ⟨rfl, by decide⟩)) ⟨_, _, rfl, rfl, ?_⟩
    first | (exfalso; omega) | exact ⟨rfl, rfl⟩
  · refine x_iconst rfl ?_
    refine x_ireturn rfl (Or.inr (Or.inl ⟨rfl, by decide⟩)) ⟨_, _, rfl, rfl, ?_⟩
    first | (exfalso; omega) | exact ⟨rfl, rfl⟩
theorem xs_42f {v0 : Value} {xs : List Int32} {u : Nat × Nat} {f : Nat → zE} {c : Nat} {op ex bs sl ki st en di sg : Int} {wo : Int64} {w nx : Int} (h109 : f 109 = xrd c op ex bs sl) (h112 : f 112 = xtk ki st en wo di sg) (hki : 0 ≤ ki ∧ ki ≤ 9) (hsg : ki = 3 → 0 ≤ sg ∧ sg ≤ 65535) (hw0 : 0 ≤ w ∧ w ≤ 65535) (hw : ¬ (ki = 3 ∧ sg = w)) : xq v0 xs u 42 [(0, .ref 109), (1, xi w), (2, xi nx)] f (fun r f' => r = some (xi 0) ∧ f' = f) := by
  unfold xq
  refine x_aload_n rfl rfl ?_
  refine x_getfield rfl (by decide) h109 rfl ?_
  refine x_iload_n rfl rfl ?_
  refine x_call [_, _] rfl rfl (show (0 : Nat) ≤ 8 from by decide) (show (2 : Nat) ≤ 2 from by decide) (x_rcv (by decide) h112) (xs_41 hki hsg hw0 h112) (fun r' f' hP => ?_)
  obtain ⟨rfl, rfl⟩ := hP
  rw [if_neg hw]
  refine x_ifne (t := 13) rfl rfl ⟨by omega, by omega⟩ (fun hb8 => ?_) (fun hb8 => ?_)
  · refine x_aload_n rfl rfl ?_
    refine x_iload_n rfl rfl ?_
    refine x_putfield rfl (by decide) h109 (show (7 : Nat) < 10 from by decide) rfl ?_
    refine x_iconst rfl ?_
    refine x_ireturn rfl (Or.inr (Or.inl ⟨rfl, by decide⟩)) ⟨_, _, rfl, rfl, ?_⟩
    first | (exfalso; omega) | exact ⟨rfl, rfl⟩
  · refine x_iconst rfl ?_
    refine x_ireturn rfl (Or.inr (Or.inl ⟨rfl, by decide⟩)) ⟨_, _, rfl, rfl, ?_⟩
    first | (exfalso; omega) | exact ⟨rfl, rfl⟩
theorem xs_43t {v0 : Value} {xs : List Int32} {u : Nat × Nat} {f : Nat → zE} {c : Nat} {op ex bs sl ki st en di sg : Int} {wo : Int64} {tm : List Int} (h109 : f 109 = xrd c op ex bs sl) (h112 : f 112 = xtk ki st en wo di sg) (hki : 0 ≤ ki ∧ ki ≤ 9) (hsg : ki = 3 → 0 ≤ sg ∧ sg ≤ 65535) (h110 : f 110 = xr 0 tm) (htl : tm.length = 3) (hop : 0 ≤ op ∧ op ≤ 3) (hdi : ki = 2 → -1 ≤ di ∧ di ≤ 100) (hA : ki = 2 ∧ 2 ≤ di ∧ di ≤ 4 ∧ op < 3) : xq v0 xs u 43 [(0, .ref 109)] f (fun r f' => r = some (xi 1) ∧ f' = xu (xu f 110 (xr 0 (tm.set op.toNat di))) 109 (xrd c op 3 bs sl)) := by
  unfold xq
  refine x_aload_n rfl rfl ?_
  refine x_getfield rfl (by decide) h109 rfl ?_
  refine x_getfield rfl (by decide) h112 rfl ?_
  refine x_iconst rfl ?_
  refine x_cne (t := 41) rfl rfl ⟨by omega, by omega⟩ ⟨by omega, by omega⟩ (fun hb8 => ?_) (fun hb8 => ?_)
  · refine x_iconst rfl ?_
    refine x_ireturn rfl (Or.inr (Or.inl ⟨rfl, by decide⟩)) ⟨_, _, rfl, rfl, ?_⟩
    first | (exfalso; omega) | exact ⟨rfl, rfl⟩
  · have hdi := hdi hb8
    refine x_aload_n rfl rfl ?_
    refine x_getfield rfl (by decide) h109 rfl ?_
    refine x_getfield rfl (by decide) h112 rfl ?_
    refine x_iconst rfl ?_
    refine x_clt (t := 41) rfl rfl ⟨by omega, by omega⟩ ⟨by omega, by omega⟩ (fun hb19 => ?_) (fun hb19 => ?_)
    · refine x_iconst rfl ?_
      refine x_ireturn rfl (Or.inr (Or.inl ⟨rfl, by decide⟩)) ⟨_, _, rfl, rfl, ?_⟩
      first | (exfalso; omega) | exact ⟨rfl, rfl⟩
    · refine x_aload_n rfl rfl ?_
      refine x_getfield rfl (by decide) h109 rfl ?_
      refine x_getfield rfl (by decide) h112 rfl ?_
      refine x_iconst rfl ?_
      refine x_cgt (t := 41) rfl rfl ⟨by omega, by omega⟩ ⟨by omega, by omega⟩ (fun hb30 => ?_) (fun hb30 => ?_)
      · refine x_iconst rfl ?_
        refine x_ireturn rfl (Or.inr (Or.inl ⟨rfl, by decide⟩)) ⟨_, _, rfl, rfl, ?_⟩
        first | (exfalso; omega) | exact ⟨rfl, rfl⟩
      · refine x_aload_n rfl rfl ?_
        refine x_getfield rfl (by decide) h109 rfl ?_
        refine x_iconst rfl ?_
        refine x_clt (t := 43) rfl rfl ⟨by omega, by omega⟩ ⟨by omega, by omega⟩ (fun hb38 => ?_) (fun hb38 => ?_)
        · refine x_aload_n rfl rfl ?_
          refine x_getfield rfl (by decide) h109 rfl ?_
          refine x_aload_n rfl rfl ?_
          refine x_getfield rfl (by decide) h109 rfl ?_
          refine x_aload_n rfl rfl ?_
          refine x_getfield rfl (by decide) h109 rfl ?_
          refine x_getfield rfl (by decide) h112 rfl ?_
          refine x_iastore rfl (by decide) h110 ⟨by omega, by omega⟩ (by omega) ?_
          refine x_aload_n rfl rfl ?_
          refine x_iconst rfl ?_
          refine x_putfield rfl (by decide) (xu_ne (by decide) h109) (show (7 : Nat) < 10 from by decide) rfl ?_
          refine x_iconst rfl ?_
          refine x_ireturn rfl (Or.inr (Or.inl ⟨rfl, by decide⟩)) ⟨_, _, rfl, rfl, ?_⟩
          first | (exfalso; omega) | exact ⟨rfl, rfl⟩
        · refine x_iconst rfl ?_
          refine x_ireturn rfl (Or.inr (Or.inl ⟨rfl, by decide⟩)) ⟨_, _, rfl, rfl, ?_⟩
          first | (exfalso; omega) | exact ⟨rfl, rfl⟩
theorem xs_43f {v0 : Value} {xs : List Int32} {u : Nat × Nat} {f : Nat → zE} {c : Nat} {op ex bs sl ki st en di sg : Int} {wo : Int64} {tm : List Int} (h109 : f 109 = xrd c op ex bs sl) (h112 : f 112 = xtk ki st en wo di sg) (hki : 0 ≤ ki ∧ ki ≤ 9) (hsg : ki = 3 → 0 ≤ sg ∧ sg ≤ 65535) (h110 : f 110 = xr 0 tm) (htl : tm.length = 3) (hop : 0 ≤ op ∧ op ≤ 3) (hdi : ki = 2 → -1 ≤ di ∧ di ≤ 100) (hA : ¬ (ki = 2 ∧ 2 ≤ di ∧ di ≤ 4 ∧ op < 3)) : xq v0 xs u 43 [(0, .ref 109)] f (fun r f' => r = some (xi 0) ∧ f' = f) := by
  unfold xq
  refine x_aload_n rfl rfl ?_
  refine x_getfield rfl (by decide) h109 rfl ?_
  refine x_getfield rfl (by decide) h112 rfl ?_
  refine x_iconst rfl ?_
  refine x_cne (t := 41) rfl rfl ⟨by omega, by omega⟩ ⟨by omega, by omega⟩ (fun hb8 => ?_) (fun hb8 => ?_)
  · refine x_iconst rfl ?_
    refine x_ireturn rfl (Or.inr (Or.inl ⟨rfl, by decide⟩)) ⟨_, _, rfl, rfl, ?_⟩
    first | (exfalso; omega) | exact ⟨rfl, rfl⟩
  · have hdi := hdi hb8
    refine x_aload_n rfl rfl ?_
    refine x_getfield rfl (by decide) h109 rfl ?_
    refine x_getfield rfl (by decide) h112 rfl ?_
    refine x_iconst rfl ?_
    refine x_clt (t := 41) rfl rfl ⟨by omega, by omega⟩ ⟨by omega, by omega⟩ (fun hb19 => ?_) (fun hb19 => ?_)
    · refine x_iconst rfl ?_
      refine x_ireturn rfl (Or.inr (Or.inl ⟨rfl, by decide⟩)) ⟨_, _, rfl, rfl, ?_⟩
      first | (exfalso; omega) | exact ⟨rfl, rfl⟩
    · refine x_aload_n rfl rfl ?_
      refine x_getfield rfl (by decide) h109 rfl ?_
      refine x_getfield rfl (by decide) h112 rfl ?_
      refine x_iconst rfl ?_
      refine x_cgt (t := 41) rfl rfl ⟨by omega, by omega⟩ ⟨by omega, by omega⟩ (fun hb30 => ?_) (fun hb30 => ?_)
      · refine x_iconst rfl ?_
        refine x_ireturn rfl (Or.inr (Or.inl ⟨rfl, by decide⟩)) ⟨_, _, rfl, rfl, ?_⟩
        first | (exfalso; omega) | exact ⟨rfl, rfl⟩
      · refine x_aload_n rfl rfl ?_
        refine x_getfield rfl (by decide) h109 rfl ?_
        refine x_iconst rfl ?_
        refine x_clt (t := 43) rfl rfl ⟨by omega, by omega⟩ ⟨by omega, by omega⟩ (fun hb38 => ?_) (fun hb38 => ?_)
        · refine x_aload_n rfl rfl ?_
          refine x_getfield rfl (by decide) h109 rfl ?_
          refine x_aload_n rfl rfl ?_
          refine x_getfield rfl (by decide) h109 rfl ?_
          refine x_aload_n rfl rfl ?_
          refine x_getfield rfl (by decide) h109 rfl ?_
          refine x_getfield rfl (by decide) h112 rfl ?_
          refine x_iastore rfl (by decide) h110 ⟨by omega, by omega⟩ (by omega) ?_
          refine x_aload_n rfl rfl ?_
          refine x_iconst rfl ?_
          refine x_putfield rfl (by decide) (xu_ne (by decide) h109) (show (7 : Nat) < 10 from by decide) rfl ?_
          refine x_iconst rfl ?_
          refine x_ireturn rfl (Or.inr (Or.inl ⟨rfl, by decide⟩)) ⟨_, _, rfl, rfl, ?_⟩
          first | (exfalso; omega) | exact ⟨rfl, rfl⟩
        · refine x_iconst rfl ?_
          refine x_ireturn rfl (Or.inr (Or.inl ⟨rfl, by decide⟩)) ⟨_, _, rfl, rfl, ?_⟩
          first | (exfalso; omega) | exact ⟨rfl, rfl⟩
theorem xs_48t {v0 : Value} {xs : List Int32} {u : Nat × Nat} {f : Nat → zE} {c : Nat} {op ex bs sl ki st en di sg : Int} {wo : Int64} (hv : v0 = .null ∨ v0 = .ref 49) (h109 : f 109 = xrd c op ex bs sl) (h112 : f 112 = xtk ki st en wo di sg) (hki : 0 ≤ ki ∧ ki ≤ 9) (hsg : ki = 3 → 0 ≤ sg ∧ sg ≤ 65535) (hw : ki = 1 ∧ xS wo ≠ -1) : xq v0 xs u 48 [(0, .ref 109)] f (fun r f' => r = some (xi 1) ∧ f' 109 = xrd c op 5 bs (xS wo) ∧ ∀ p, p ≠ 109 → f' p = f p) := by
  unfold xq
  have hS := xS_rg wo
  refine x_aload_n rfl rfl ?_
  refine x_aload_n rfl rfl ?_
  refine x_getfield rfl (by decide) h109 rfl ?_
  refine x_getfield rfl (by decide) h112 rfl ?_
  refine x_iconst rfl ?_
  refine x_cne (t := 24) rfl rfl ⟨by omega, by omega⟩ ⟨by omega, by omega⟩ (fun hb9 => ?_) (fun hb9 => ?_)
  · refine x_iconst rfl ?_
    refine x_putfield rfl (by decide) h109 (show (9 : Nat) < 10 from by decide) rfl ?_
    refine x_aload_n rfl rfl ?_
    refine x_iconst rfl ?_
    refine x_putfield rfl (by decide) xu_eq (show (7 : Nat) < 10 from by decide) rfl ?_
    refine x_aload_n rfl rfl ?_
    refine x_getfield rfl (by decide) xu_eq rfl ?_
    refine x_iconst rfl ?_
    refine x_ceq (t := 45) rfl rfl ⟨by omega, by omega⟩ ⟨by omega, by omega⟩ (fun hb38 => ?_) (fun hb38 => ?_)
    · refine x_iconst rfl ?_
      refine x_ireturn rfl (Or.inr (Or.inl ⟨rfl, by decide⟩)) ⟨_, _, rfl, rfl, ?_⟩
      first | (exfalso; omega) | exact ⟨rfl, xu_eq, fun p hp => xu_ne hp (xu_ne hp rfl)⟩
    · refine x_iconst rfl ?_
      refine x_goto (t := 46) rfl rfl ?_
      refine x_ireturn rfl (Or.inr (Or.inl ⟨rfl, by decide⟩)) ⟨_, _, rfl, rfl, ?_⟩
      first | (exfalso; omega) | exact ⟨rfl, xu_eq, fun p hp => xu_ne hp (xu_ne hp rfl)⟩
  · refine x_aload_n rfl rfl ?_
    refine x_getfield rfl (by decide) h109 rfl ?_
    refine x_ldc rfl ?_
    refine x_call [_, _] rfl rfl (show (1 : Nat) ≤ 8 from by decide) (show (2 : Nat) ≤ 6 from by decide) (x_rcv (by decide) h112) (xs_39 hv (p := 5) (Or.inl rfl) h112) (fun r' f' hP => ?_)
    obtain ⟨rfl, rfl⟩ := hP
    change xz v0 xs u _ _ _ _ (xi (xS wo) :: _) _
    refine x_goto (t := 25) rfl rfl ?_
    refine x_putfield rfl (by decide) h109 (show (9 : Nat) < 10 from by decide) rfl ?_
    refine x_aload_n rfl rfl ?_
    refine x_iconst rfl ?_
    refine x_putfield rfl (by decide) xu_eq (show (7 : Nat) < 10 from by decide) rfl ?_
    refine x_aload_n rfl rfl ?_
    refine x_getfield rfl (by decide) xu_eq rfl ?_
    refine x_iconst rfl ?_
    refine x_ceq (t := 45) rfl rfl ⟨by omega, by omega⟩ ⟨by omega, by omega⟩ (fun hb38 => ?_) (fun hb38 => ?_)
    · refine x_iconst rfl ?_
      refine x_ireturn rfl (Or.inr (Or.inl ⟨rfl, by decide⟩)) ⟨_, _, rfl, rfl, ?_⟩
      first | (exfalso; omega) | exact ⟨rfl, xu_eq, fun p hp => xu_ne hp (xu_ne hp rfl)⟩
    · refine x_iconst rfl ?_
      refine x_goto (t := 46) rfl rfl ?_
      refine x_ireturn rfl (Or.inr (Or.inl ⟨rfl, by decide⟩)) ⟨_, _, rfl, rfl, ?_⟩
      first | (exfalso; omega) | exact ⟨rfl, xu_eq, fun p hp => xu_ne hp (xu_ne hp rfl)⟩
theorem xs_48f {v0 : Value} {xs : List Int32} {u : Nat × Nat} {f : Nat → zE} {c : Nat} {op ex bs sl ki st en di sg : Int} {wo : Int64} (hv : v0 = .null ∨ v0 = .ref 49) (h109 : f 109 = xrd c op ex bs sl) (h112 : f 112 = xtk ki st en wo di sg) (hki : 0 ≤ ki ∧ ki ≤ 9) (hsg : ki = 3 → 0 ≤ sg ∧ sg ≤ 65535) (hw : ¬ (ki = 1 ∧ xS wo ≠ -1)) : xq v0 xs u 48 [(0, .ref 109)] f (fun r f' => r = some (xi 0) ∧ (∃ sl', f' 109 = xrd c op 5 bs sl' ∧ sl' = -1) ∧ ∀ p, p ≠ 109 → f' p = f p) := by
  unfold xq
  have hS := xS_rg wo
  refine x_aload_n rfl rfl ?_
  refine x_aload_n rfl rfl ?_
  refine x_getfield rfl (by decide) h109 rfl ?_
  refine x_getfield rfl (by decide) h112 rfl ?_
  refine x_iconst rfl ?_
  refine x_cne (t := 24) rfl rfl ⟨by omega, by omega⟩ ⟨by omega, by omega⟩ (fun hb9 => ?_) (fun hb9 => ?_)
  · refine x_iconst rfl ?_
    refine x_putfield rfl (by decide) h109 (show (9 : Nat) < 10 from by decide) rfl ?_
    refine x_aload_n rfl rfl ?_
    refine x_iconst rfl ?_
    refine x_putfield rfl (by decide) xu_eq (show (7 : Nat) < 10 from by decide) rfl ?_
    refine x_aload_n rfl rfl ?_
    refine x_getfield rfl (by decide) xu_eq rfl ?_
    refine x_iconst rfl ?_
    refine x_ceq (t := 45) rfl rfl ⟨by omega, by omega⟩ ⟨by omega, by omega⟩ (fun hb38 => ?_) (fun hb38 => ?_)
    · refine x_iconst rfl ?_
      refine x_ireturn rfl (Or.inr (Or.inl ⟨rfl, by decide⟩)) ⟨_, _, rfl, rfl, ?_⟩
      first | (exfalso; omega) | exact ⟨rfl, ⟨_, xu_eq, by omega⟩, fun p hp => xu_ne hp (xu_ne hp rfl)⟩
    · refine x_iconst rfl ?_
      refine x_goto (t := 46) rfl rfl ?_
      refine x_ireturn rfl (Or.inr (Or.inl ⟨rfl, by decide⟩)) ⟨_, _, rfl, rfl, ?_⟩
      first | (exfalso; omega) | exact ⟨rfl, ⟨_, xu_eq, by omega⟩, fun p hp => xu_ne hp (xu_ne hp rfl)⟩
  · refine x_aload_n rfl rfl ?_
    refine x_getfield rfl (by decide) h109 rfl ?_
    refine x_ldc rfl ?_
    refine x_call [_, _] rfl rfl (show (1 : Nat) ≤ 8 from by decide) (show (2 : Nat) ≤ 6 from by decide) (x_rcv (by decide) h112) (xs_39 hv (p := 5) (Or.inl rfl) h112) (fun r' f' hP => ?_)
    obtain ⟨rfl, rfl⟩ := hP
    change xz v0 xs u _ _ _ _ (xi (xS wo) :: _) _
    refine x_goto (t := 25) rfl rfl ?_
    refine x_putfield rfl (by decide) h109 (show (9 : Nat) < 10 from by decide) rfl ?_
    refine x_aload_n rfl rfl ?_
    refine x_iconst rfl ?_
    refine x_putfield rfl (by decide) xu_eq (show (7 : Nat) < 10 from by decide) rfl ?_
    refine x_aload_n rfl rfl ?_
    refine x_getfield rfl (by decide) xu_eq rfl ?_
    refine x_iconst rfl ?_
    refine x_ceq (t := 45) rfl rfl ⟨by omega, by omega⟩ ⟨by omega, by omega⟩ (fun hb38 => ?_) (fun hb38 => ?_)
    · refine x_iconst rfl ?_
      refine x_ireturn rfl (Or.inr (Or.inl ⟨rfl, by decide⟩)) ⟨_, _, rfl, rfl, ?_⟩
      first | (exfalso; omega) | exact ⟨rfl, ⟨_, xu_eq, by omega⟩, fun p hp => xu_ne hp (xu_ne hp rfl)⟩
    · refine x_iconst rfl ?_
      refine x_goto (t := 46) rfl rfl ?_
      refine x_ireturn rfl (Or.inr (Or.inl ⟨rfl, by decide⟩)) ⟨_, _, rfl, rfl, ?_⟩
      first | (exfalso; omega) | exact ⟨rfl, ⟨_, xu_eq, by omega⟩, fun p hp => xu_ne hp (xu_ne hp rfl)⟩
theorem xKF_fig {G : Nat → List xBt} {c : Nat} {f : Nat → zE} {nm : Nat → Int64} {bc dp : Nat → Int} {av : Nat → Value} (h : ∀ i, i < c → xKF (G i) i f (nm i) (bc i) (dp i) (av i)) : ∀ i, i < c → ∃ b d a, f (57 + 4 * i) = xfg i (nm i) b d a := fun i hi => by
  obtain ⟨-, -, fp, ep, ta, h0, -⟩ := h i hi
  exact ⟨_, _, _, h0⟩
theorem xKF_mv {B : List xBt} {i c : Nat} {f f' : Nat → zE} {nm : Int64} {b d : Int} {al : Value} (hi : i < c) (hfr : ∀ p, 57 ≤ p → p < 57 + 4 * c → f' p = f p) (h : xKF B i f nm b d al) : xKF B i f' nm b d al := by
  obtain ⟨h1, h2, fp, ep, ta, h3, h4, h5, h6, h7⟩ := h
  exact ⟨h1, h2, fp, ep, ta, (hfr _ (by omega) (by omega)).trans h3, (hfr _ (by omega) (by omega)).trans h4, (hfr _ (by omega) (by omega)).trans h5, (hfr _ (by omega) (by omega)).trans h6, h7⟩
theorem xDR_mv {B : List xBt} {c : Nat} {f f' : Nat → zE} {nmd : Int64} {m d : Int} {al : Value} (hfr : ∀ p, 57 + 4 * c ≤ p → p ≤ 60 + 4 * c → f' p = f p) (h : xDR B c f nmd m d al) : xDR B c f' nmd m d al := by
  obtain ⟨h1, h2, fp, ep, ta, h3, h4, h5, h6, h7⟩ := h
  exact ⟨h1, h2, fp, ep, ta, (hfr _ (by omega) (by omega)).trans h3, (hfr _ (by omega) (by omega)).trans h4, (hfr _ (by omega) (by omega)).trans h5, (hfr _ (by omega) (by omega)).trans h6, h7⟩
theorem xPT_mv {K E : List (Int × Int)} {pt : Int} {f f' : Nat → zE} (h1 : f' 55 = f 55) (h2 : f' 56 = f 56) (h : xPT K E pt f) : xPT K E pt f' := by
  obtain ⟨se, at', a1, a2, a3⟩ := h
  exact ⟨se, at', h1.trans a1, h2.trans a2, a3⟩
theorem xs_47f {G : Nat → List xBt} {v0 : Value} {xs : List Int32} {u : Nat × Nat} {f : Nat → zE} {c : Nat} {op ex bs sl ki st en di sg : Int} {wo : Int64} {kp pt : Int} {nm : Nat → Int64} {bc dp : Nat → Int} {av : Nat → Value} (h109 : f 109 = xrd c op ex bs sl) (h112 : f 112 = xtk ki st en wo di sg) (hki : 0 ≤ ki ∧ ki ≤ 9) (hsg : ki = 3 → 0 ≤ sg ∧ sg ≤ 65535) (hc : c ≤ 12) (h53 : f 53 = xbo (c : Nat) kp pt) (h54 : f 54 = .inr (.inr (.inr (3, xfl)))) (hkf : ∀ i, i < c → xKF (G i) i f (nm i) (bc i) (dp i) (av i)) (hw : ¬ (ki = 1 ∧ xfn nm wo c 0 ≠ -1)) : xq v0 xs u 47 [(0, .ref 109)] f (fun r f' => r = some (xi 0) ∧ f' = f) := by
  unfold xq
  have hfn : -1 ≤ xfn nm wo c 0 ∧ xfn nm wo c 0 ≤ 12 := by rcases xfn_rg (nm := nm) (g := wo) c 0 with h | ⟨j, h1, h2, h3⟩ <;> omega
  refine x_aload_n rfl rfl ?_
  refine x_getfield rfl (by decide) h109 rfl ?_
  refine x_getfield rfl (by decide) h112 rfl ?_
  refine x_iconst rfl ?_
  refine x_cne (t := 28) rfl rfl ⟨by omega, by omega⟩ ⟨by omega, by omega⟩ (fun hb8 => ?_) (fun hb8 => ?_)
  · refine x_iconst rfl ?_
    refine x_istore_n rfl (show (1 : Nat) < 2 from by decide) ?_
    refine x_iload_n rfl xst_eq ?_
    refine x_iconst rfl ?_
    refine x_cne (t := 37) rfl rfl ⟨by omega, by omega⟩ ⟨by omega, by omega⟩ (fun hb32 => ?_) (fun hb32 => ?_)
    · refine x_aload_n rfl (xst_ne (by decide) rfl (Or.inl rfl)) ?_
      refine x_getfield rfl (by decide) h109 rfl ?_
      refine x_aload_n rfl (xst_ne (by decide) rfl (Or.inl rfl)) ?_
      refine x_getfield rfl (by decide) h109 rfl ?_
      refine x_iload_n rfl xst_eq ?_
      exfalso; omega
    · refine x_iconst rfl ?_
      refine x_ireturn rfl (Or.inr (Or.inl ⟨rfl, by decide⟩)) ⟨_, _, rfl, rfl, ?_⟩
      first | (exfalso; omega) | exact ⟨rfl, rfl⟩
  · refine x_aload_n rfl rfl ?_
    refine x_getfield rfl (by decide) h109 rfl ?_
    refine x_aload_n rfl rfl ?_
    refine x_getfield rfl (by decide) h109 rfl ?_
    refine x_getfield rfl (by decide) h112 rfl ?_
    refine x_call [_, _] rfl rfl (show (0 : Nat) ≤ 8 from by decide) (show (3 : Nat) ≤ 4 from by decide) (x_rcv (by decide) h53) (xs_31 hc h53 h54 (xKF_fig hkf)) (fun r' f' hP => ?_)
    obtain ⟨rfl, rfl⟩ := hP
    refine x_goto (t := 29) rfl rfl ?_
    refine x_istore_n rfl (show (1 : Nat) < 2 from by decide) ?_
    refine x_iload_n rfl xst_eq ?_
    refine x_iconst rfl ?_
    refine x_cne (t := 37) rfl rfl ⟨by omega, by omega⟩ ⟨by omega, by omega⟩ (fun hb32 => ?_) (fun hb32 => ?_)
    · refine x_aload_n rfl (xst_ne (by decide) rfl (Or.inl rfl)) ?_
      refine x_getfield rfl (by decide) h109 rfl ?_
      refine x_aload_n rfl (xst_ne (by decide) rfl (Or.inl rfl)) ?_
      refine x_getfield rfl (by decide) h109 rfl ?_
      refine x_iload_n rfl xst_eq ?_
      exfalso; omega
    · refine x_iconst rfl ?_
      refine x_ireturn rfl (Or.inr (Or.inl ⟨rfl, by decide⟩)) ⟨_, _, rfl, rfl, ?_⟩
      first | (exfalso; omega) | exact ⟨rfl, rfl⟩
theorem xs_47t {G : Nat → List xBt} {B : List xBt} {v0 : Value} {xs : List Int32} {u : Nat × Nat} {f : Nat → zE} {c : Nat} {op ex bs sl ki st en di sg : Int} {wo : Int64} {kp pt : Int} {nm : Nat → Int64} {bc dp : Nat → Int} {av : Nat → Value} {nmd : Int64} {m d : Int} {al : Value} {i : Nat} (h109 : f 109 = xrd c op ex bs sl) (h112 : f 112 = xtk ki st en wo di sg) (hki : 0 ≤ ki ∧ ki ≤ 9) (hsg : ki = 3 → 0 ≤ sg ∧ sg ≤ 65535) (hc : c ≤ 12) (h53 : f 53 = xbo (c : Nat) kp pt) (h54 : f 54 = .inr (.inr (.inr (3, xfl)))) (hkf : ∀ i, i < c → xKF (G i) i f (nm i) (bc i) (dp i) (av i)) (hd : xDR B c f nmd m d al) (hdd : -1000 ≤ d ∧ d ≤ 1000) (hdp : ∀ i, i < c → -1000 ≤ dp i ∧ dp i ≤ 1000) (hi : i < c) (hk1 : ki = 1) (hw : xfn nm wo c 0 = (i : Nat)) : xq v0 xs u 47 [(0, .ref 109)] f (fun r f' => r = some (xi 1) ∧ xDR (B ++ (G i).map (xsh m)) c f' nmd (min (m + bc i) 17) (max d (dp i + 1)) al ∧ f' 109 = xrd c op 7 bs sl ∧ ∀ p, p ≠ 109 → p ≠ 57 + 4 * c → p ≠ 58 + 4 * c → p ≠ 59 + 4 * c → p ≠ 60 + 4 * c → f' p = f p) := by
  unfold xq
  have hd0 := hd
  obtain ⟨hm1, hm2, fp, ep, ta, h0, h1, h2, h3, hty⟩ := hd0
  refine x_aload_n rfl rfl ?_
  refine x_getfield rfl (by decide) h109 rfl ?_
  refine x_getfield rfl (by decide) h112 rfl ?_
  refine x_iconst rfl ?_
  refine x_cne (t := 28) rfl rfl ⟨by omega, by omega⟩ ⟨by omega, by omega⟩ (fun hb8 => ?_) (fun hb8 => ?_)
  · exfalso; omega
  · refine x_aload_n rfl rfl ?_
    refine x_getfield rfl (by decide) h109 rfl ?_
    refine x_aload_n rfl rfl ?_
    refine x_getfield rfl (by decide) h109 rfl ?_
    refine x_getfield rfl (by decide) h112 rfl ?_
    refine x_call [_, _] rfl rfl (show (0 : Nat) ≤ 8 from by decide) (show (3 : Nat) ≤ 4 from by decide) (x_rcv (by decide) h53) (xs_31 hc h53 h54 (xKF_fig hkf)) (fun r' f' hP => ?_)
    obtain ⟨rfl, rfl⟩ := hP
    rw [hw]
    refine x_goto (t := 29) rfl rfl ?_
    refine x_istore_n rfl (show (1 : Nat) < 2 from by decide) ?_
    refine x_iload_n rfl xst_eq ?_
    refine x_iconst rfl ?_
    refine x_cne (t := 37) rfl rfl ⟨by omega, by omega⟩ ⟨by omega, by omega⟩ (fun hb32 => ?_) (fun hb32 => ?_)
    · refine x_aload_n rfl (xst_ne (by decide) rfl (Or.inl rfl)) ?_
      refine x_getfield rfl (by decide) h109 rfl ?_
      refine x_aload_n rfl (xst_ne (by decide) rfl (Or.inl rfl)) ?_
      refine x_getfield rfl (by decide) h109 rfl ?_
      refine x_iload_n rfl xst_eq ?_
      refine x_call [_, _] rfl rfl (show (1 : Nat) ≤ 8 from by decide) (show (2 : Nat) ≤ 2 from by decide) (x_rcv (by decide) h53) (xs_44 (i := i) (by omega) h53 h54) (fun r' f' hP => ?_)
      obtain ⟨rfl, rfl⟩ := hP
      refine x_call [_, _] rfl rfl (show (0 : Nat) ≤ 8 from by decide) (show (2 : Nat) ≤ 4 from by decide) (x_rcv (by omega) h0) (xs_46 hc hi (hkf i hi) hdd (hdp i hi) hd) (fun r' f' hP => ?_)
      obtain ⟨rfl, hP1, hP2⟩ := hP
      refine x_aload_n rfl (xst_ne (by decide) rfl (Or.inl rfl)) ?_
      refine x_bipush rfl (by decide) ?_
      refine x_putfield rfl (by decide) ((hP2 109 (by omega) (by omega) (by omega) (by omega)).trans h109) (show (7 : Nat) < 10 from by decide) rfl ?_
      refine x_iconst rfl ?_
      refine x_ireturn rfl (Or.inr (Or.inl ⟨rfl, by decide⟩)) ⟨_, _, rfl, rfl, ?_⟩
      first | (exfalso; omega) | exact ⟨rfl, xDR_mv (fun p p1 p2 => xu_ne (by omega) rfl) hP1, xu_eq, fun p hp a1 a2 a3 a4 => xu_ne hp (hP2 p a1 a2 a3 a4)⟩
    · exfalso; omega
theorem xs_50t {B : List xBt} {v0 : Value} {xs : List Int32} {u : Nat × Nat} {f : Nat → zE} {c : Nat} {op ex bs sl ki st en di sg : Int} {wo : Int64} {oa : List Int} {nmd : Int64} {m d : Int} {al : Value} (h109 : f 109 = xrd c op ex bs sl) (h112 : f 112 = xtk ki st en wo di sg) (hki : 0 ≤ ki ∧ ki ≤ 9) (hsg : ki = 3 → 0 ≤ sg ∧ sg ≤ 65535) (hc : c ≤ 12) (h111 : f 111 = xr 0 oa) (hol : oa.length = 3) (hop : 0 ≤ op ∧ op < 3) (hd : xDR B c f nmd m d al) (hw : ki = 3 ∧ sg = 40) : xq v0 xs u 50 [(0, .ref 109)] f (fun r f' => r = some (xi 1) ∧ f' 109 = xrd c (op + 1) 2 bs sl ∧ f' 111 = xr 0 (oa.set op.toNat m) ∧ ∀ p, p ≠ 109 → p ≠ 111 → f' p = f p) := by
  unfold xq
  obtain ⟨hm1, hm2, fp, ep, ta, h0, h1, h2, h3, hty⟩ := hd
  refine x_aload_n rfl rfl ?_
  refine x_bipush rfl (by decide) ?_
  refine x_iconst rfl ?_
  refine x_call [_, _, _] rfl rfl (show (0 : Nat) ≤ 8 from by decide) (show (3 : Nat) ≤ 3 from by decide) (x_rcv (by decide) h109) (xs_42t h109 h112 hki hsg (by decide) hw) (fun r' f' hP => ?_)
  obtain ⟨rfl, rfl⟩ := hP
  refine x_ifeq (t := 18) rfl rfl ⟨by omega, by omega⟩ (fun hb7 => ?_) (fun hb7 => ?_)
  · exfalso; omega
  · refine x_aload_n rfl rfl ?_
    refine x_getfield rfl (by decide) xu_eq rfl ?_
    refine x_iconst rfl ?_
    refine x_clt (t := 20) rfl rfl ⟨by omega, by omega⟩ ⟨by omega, by omega⟩ (fun hb15 => ?_) (fun hb15 => ?_)
    · refine x_aload_n rfl rfl ?_
      refine x_getfield rfl (by decide) xu_eq rfl ?_
      refine x_aload_n rfl rfl ?_
      refine x_getfield rfl (by decide) xu_eq rfl ?_
      refine x_aload_n rfl rfl ?_
      refine x_getfield rfl (by decide) xu_eq rfl ?_
      refine x_getfield rfl (by omega) (xu_ne (by omega) h0) rfl ?_
      refine x_iastore rfl (by decide) (xu_ne (by decide) h111) ⟨by omega, by omega⟩ (by omega) ?_
      refine x_aload_n rfl rfl ?_
      refine x_dup rfl ?_
      refine x_getfield rfl (by decide) (xu_ne (by decide) xu_eq) rfl ?_
      refine x_iconst rfl ?_
      refine x_iadd rfl ?_
      refine x_putfield rfl (by decide) (xu_ne (by decide) xu_eq) (show (6 : Nat) < 10 from by decide) rfl ?_
      refine x_iconst rfl ?_
      refine x_ireturn rfl (Or.inr (Or.inl ⟨rfl, by decide⟩)) ⟨_, _, rfl, rfl, ?_⟩
      first | (exfalso; omega) | exact ⟨rfl, xu_eq, xu_ne (by decide) xu_eq, fun p p1 p2 => xu_ne p1 (xu_ne p2 (xu_ne p1 rfl))⟩
    · exfalso; omega
theorem xs_50f {B : List xBt} {v0 : Value} {xs : List Int32} {u : Nat × Nat} {f : Nat → zE} {c : Nat} {op ex bs sl ki st en di sg : Int} {wo : Int64} {oa : List Int} {nmd : Int64} {m d : Int} {al : Value} (h109 : f 109 = xrd c op ex bs sl) (h112 : f 112 = xtk ki st en wo di sg) (hki : 0 ≤ ki ∧ ki ≤ 9) (hsg : ki = 3 → 0 ≤ sg ∧ sg ≤ 65535) (hc : c ≤ 12) (h111 : f 111 = xr 0 oa) (hol : oa.length = 3) (hop : 0 ≤ op ∧ op < 3) (hd : xDR B c f nmd m d al) (hw : ¬ (ki = 3 ∧ sg = 40)) : xq v0 xs u 50 [(0, .ref 109)] f (fun r f' => r = some (xi 0) ∧ f' = f) := by
  unfold xq
  obtain ⟨hm1, hm2, fp, ep, ta, h0, h1, h2, h3, hty⟩ := hd
  refine x_aload_n rfl rfl ?_
  refine x_bipush rfl (by decide) ?_
  refine x_iconst rfl ?_
  refine x_call [_, _, _] rfl rfl (show (0 : Nat) ≤ 8 from by decide) (show (3 : Nat) ≤ 3 from by decide) (x_rcv (by decide) h109) (xs_42f h109 h112 hki hsg (by decide) hw) (fun r' f' hP => ?_)
  obtain ⟨rfl, rfl⟩ := hP
  refine x_ifeq (t := 18) rfl rfl ⟨by omega, by omega⟩ (fun hb7 => ?_) (fun hb7 => ?_)
  · refine x_iconst rfl ?_
    refine x_ireturn rfl (Or.inr (Or.inl ⟨rfl, by decide⟩)) ⟨_, _, rfl, rfl, ?_⟩
    first | (exfalso; omega) | exact ⟨rfl, rfl⟩
  · exfalso; omega
theorem xs_52t {K E : List (Int × Int)} {v0 : Value} {xs : List Int32} {u : Nat × Nat} {f : Nat → zE} {c : Nat} {op ex bs sl ki st en di sg : Int} {wo : Int64} {kp pt : Int} (hv : v0 = .null ∨ v0 = .ref 49) (h109 : f 109 = xrd c op ex bs sl) (h112 : f 112 = xtk ki st en wo di sg) (hki : 0 ≤ ki ∧ ki ≤ 9) (hsg : ki = 3 → 0 ≤ sg ∧ sg ≤ 65535) (hat : xAt wo ≤ 6) (hpt : 0 ≤ pt ∧ pt ≤ 208) (hsl : 0 ≤ sl ∧ sl ≤ 12) (h53 : f 53 = xbo (c : Nat) kp pt) (hPT : xPT K E pt f) (hw : ki = 1 ∧ xAt wo ≠ -1) : xq v0 xs u 52 [(0, .ref 109)] f (fun r f' => r = some (xi 1) ∧ f' 109 = xrd c op 6 bs sl ∧ (∃ pt', (0 ≤ pt' ∧ pt' ≤ 208) ∧ f' 53 = xbo (c : Nat) kp pt' ∧ xPT K (E ++ [(sl, xAt wo)]) pt' f') ∧ ∀ p, p ≠ 109 → p ≠ 53 → p ≠ 55 → p ≠ 56 → f' p = f p) := by
  unfold xq
  have hS := xAt_rg wo
  refine x_aload_n rfl rfl ?_
  refine x_getfield rfl (by decide) h109 rfl ?_
  refine x_getfield rfl (by decide) h112 rfl ?_
  refine x_iconst rfl ?_
  refine x_cne (t := 23) rfl rfl ⟨by omega, by omega⟩ ⟨by omega, by omega⟩ (fun hb8 => ?_) (fun hb8 => ?_)
  · exfalso; omega
  · refine x_aload_n rfl rfl ?_
    refine x_getfield rfl (by decide) h109 rfl ?_
    refine x_ldc rfl ?_
    refine x_call [_, _] rfl rfl (show (0 : Nat) ≤ 8 from by decide) (show (2 : Nat) ≤ 6 from by decide) (x_rcv (by decide) h112) (xs_39 hv (p := 6) (Or.inr rfl) h112) (fun r' f' hP => ?_)
    obtain ⟨rfl, rfl⟩ := hP
    change xz v0 xs u _ _ _ _ (xi (xAt wo) :: _) _
    refine x_goto (t := 24) rfl rfl ?_
    refine x_istore_n rfl (show (1 : Nat) < 2 from by decide) ?_
    refine x_iload_n rfl xst_eq ?_
    refine x_iconst rfl ?_
    refine x_cne (t := 32) rfl rfl ⟨by omega, by omega⟩ ⟨by omega, by omega⟩ (fun hb27 => ?_) (fun hb27 => ?_)
    · refine x_aload_n rfl (xst_ne (by decide) rfl (Or.inl rfl)) ?_
      refine x_getfield rfl (by decide) h109 rfl ?_
      refine x_aload_n rfl (xst_ne (by decide) rfl (Or.inl rfl)) ?_
      refine x_getfield rfl (by decide) h109 rfl ?_
      refine x_iload_n rfl xst_eq ?_
      refine x_call [_, _, _] rfl rfl (show (0 : Nat) ≤ 8 from by decide) (show (3 : Nat) ≤ 3 from by decide) (x_rcv (by decide) h53) (xs_51 hpt hsl ⟨by omega, by omega⟩ h53 hPT) (fun r' f' hP => ?_)
      obtain ⟨rfl, pt', hpt', h53', hPT', hfr⟩ := hP
      refine x_aload_n rfl (xst_ne (by decide) rfl (Or.inl rfl)) ?_
      refine x_bipush rfl (by decide) ?_
      refine x_putfield rfl (by decide) ((hfr 109 (by decide) (by decide) (by decide)).trans h109) (show (7 : Nat) < 10 from by decide) rfl ?_
      refine x_iconst rfl ?_
      refine x_ireturn rfl (Or.inr (Or.inl ⟨rfl, by decide⟩)) ⟨_, _, rfl, rfl, ?_⟩
      first | (exfalso; omega) | exact ⟨rfl, xu_eq, ⟨pt', hpt', xu_ne (by decide) h53', xPT_mv (xu_ne (by decide) rfl) (xu_ne (by decide) rfl) hPT'⟩, fun p p1 p2 p3 p4 => xu_ne p1 (hfr p p2 p3 p4)⟩
    · exfalso; omega
theorem xs_52f {v0 : Value} {xs : List Int32} {u : Nat × Nat} {f : Nat → zE} {c : Nat} {op ex bs sl ki st en di sg : Int} {wo : Int64} {kp pt : Int} (hv : v0 = .null ∨ v0 = .ref 49) (h109 : f 109 = xrd c op ex bs sl) (h112 : f 112 = xtk ki st en wo di sg) (hki : 0 ≤ ki ∧ ki ≤ 9) (hsg : ki = 3 → 0 ≤ sg ∧ sg ≤ 65535) (hw : ¬ (ki = 1 ∧ xAt wo ≠ -1)) : xq v0 xs u 52 [(0, .ref 109)] f (fun r f' => r = some (xi 0) ∧ f' = f) := by
  unfold xq
  have hS := xAt_rg wo
  refine x_aload_n rfl rfl ?_
  refine x_getfield rfl (by decide) h109 rfl ?_
  refine x_getfield rfl (by decide) h112 rfl ?_
  refine x_iconst rfl ?_
  refine x_cne (t := 23) rfl rfl ⟨by omega, by omega⟩ ⟨by omega, by omega⟩ (fun hb8 => ?_) (fun hb8 => ?_)
  · refine x_iconst rfl ?_
    refine x_istore_n rfl (show (1 : Nat) < 2 from by decide) ?_
    refine x_iload_n rfl xst_eq ?_
    refine x_iconst rfl ?_
    refine x_cne (t := 32) rfl rfl ⟨by omega, by omega⟩ ⟨by omega, by omega⟩ (fun hb27 => ?_) (fun hb27 => ?_)
    · exfalso; omega
    · refine x_iconst rfl ?_
      refine x_ireturn rfl (Or.inr (Or.inl ⟨rfl, by decide⟩)) ⟨_, _, rfl, rfl, ?_⟩
      first | (exfalso; omega) | exact ⟨rfl, rfl⟩
  · refine x_aload_n rfl rfl ?_
    refine x_getfield rfl (by decide) h109 rfl ?_
    refine x_ldc rfl ?_
    refine x_call [_, _] rfl rfl (show (0 : Nat) ≤ 8 from by decide) (show (2 : Nat) ≤ 6 from by decide) (x_rcv (by decide) h112) (xs_39 hv (p := 6) (Or.inr rfl) h112) (fun r' f' hP => ?_)
    obtain ⟨rfl, rfl⟩ := hP
    change xz v0 xs u _ _ _ _ (xi (xAt wo) :: _) _
    refine x_goto (t := 24) rfl rfl ?_
    refine x_istore_n rfl (show (1 : Nat) < 2 from by decide) ?_
    refine x_iload_n rfl xst_eq ?_
    refine x_iconst rfl ?_
    refine x_cne (t := 32) rfl rfl ⟨by omega, by omega⟩ ⟨by omega, by omega⟩ (fun hb27 => ?_) (fun hb27 => ?_)
    · exfalso; omega
    · refine x_iconst rfl ?_
      refine x_ireturn rfl (Or.inr (Or.inl ⟨rfl, by decide⟩)) ⟨_, _, rfl, rfl, ?_⟩
      first | (exfalso; omega) | exact ⟨rfl, rfl⟩
theorem xs_40t {G : Nat → List xBt} {B : List xBt} {v0 : Value} {xs : List Int32} {u : Nat × Nat} {f : Nat → zE} {c : Nat} {op ex bs sl ki st en di sg : Int} {wo : Int64} {kp pt : Int} {nm : Nat → Int64} {bc dp : Nat → Int} {av : Nat → Value} {nmd : Int64} {m d : Int} {al : Value} (hv : v0 = .null ∨ v0 = .ref 49) (h109 : f 109 = xrd c op ex bs sl) (h112 : f 112 = xtk ki st en wo di sg) (hki : 0 ≤ ki ∧ ki ≤ 9) (hsg : ki = 3 → 0 ≤ sg ∧ sg ≤ 65535) (hc : c ≤ 12) (h53 : f 53 = xbo (c : Nat) kp pt) (h54 : f 54 = .inr (.inr (.inr (3, xfl)))) (hkf : ∀ i, i < c → xKF (G i) i f (nm i) (bc i) (dp i) (av i)) (hd : xDR B c f nmd m d al) (hw : ki = 1 ∧ ¬ wo = 0 ∧ xfn nm wo c 0 = -1 ∧ xS wo = -1 ∧ xAt wo = -1) : xq v0 xs u 40 [(0, .ref 109)] f (fun r f' => r = some (xi 1) ∧ xDR B c f' wo m d al ∧ f' 109 = xrd c op 1 bs sl ∧ ∀ p, p ≠ 109 → p ≠ 57 + 4 * c → f' p = f p) := by
  unfold xq
  obtain ⟨hm1, hm2, fp, ep, ta, h0, h1, h2, h3, hty⟩ := hd
  have hS := xS_rg wo
  have hA := xAt_rg wo
  have hfn : -1 ≤ xfn nm wo c 0 ∧ xfn nm wo c 0 ≤ 12 := by rcases xfn_rg (nm := nm) (g := wo) c 0 with h | ⟨j, h1, h2, h3⟩ <;> omega
  refine x_aload_n rfl rfl ?_
  refine x_getfield rfl (by decide) h109 rfl ?_
  refine x_getfield rfl (by decide) h112 rfl ?_
  refine x_iconst rfl ?_
  refine x_cne (t := 67) rfl rfl ⟨by omega, by omega⟩ ⟨by omega, by omega⟩ (fun hb8 => ?_) (fun hb8 => ?_)
  · exfalso; omega
  · refine x_aload_n rfl rfl ?_
    refine x_getfield rfl (by decide) h109 rfl ?_
    refine x_getfield rfl (by decide) h112 rfl ?_
    refine x_lconst rfl ?_
    refine x_lcmp rfl ?_
    refine x_leq (t := 67) rfl rfl (fun hb20 => ?_) (fun hb20 => ?_)
    · exact absurd hb20 hw.2.1
    · refine x_aload_n rfl rfl ?_
      refine x_getfield rfl (by decide) h109 rfl ?_
      refine x_aload_n rfl rfl ?_
      refine x_getfield rfl (by decide) h109 rfl ?_
      refine x_getfield rfl (by decide) h112 rfl ?_
      refine x_call [_, _] rfl rfl (show (0 : Nat) ≤ 8 from by decide) (show (3 : Nat) ≤ 4 from by decide) (x_rcv (by decide) h53) (xs_31 hc h53 h54 (xKF_fig hkf)) (fun r' f' hP => ?_)
      obtain ⟨rfl, rfl⟩ := hP
      refine x_iconst rfl ?_
      refine x_cne (t := 67) rfl rfl ⟨by omega, by omega⟩ ⟨by omega, by omega⟩ (fun hb38 => ?_) (fun hb38 => ?_)
      · exfalso; omega
      · refine x_aload_n rfl rfl ?_
        refine x_getfield rfl (by decide) h109 rfl ?_
        refine x_ldc rfl ?_
        refine x_call [_, _] rfl rfl (show (0 : Nat) ≤ 8 from by decide) (show (2 : Nat) ≤ 6 from by decide) (x_rcv (by decide) h112) (xs_39 hv (p := 5) (Or.inl rfl) h112) (fun r' f' hP => ?_)
        obtain ⟨rfl, rfl⟩ := hP
        change xz v0 xs u _ _ _ _ (xi (xS wo) :: _) _
        refine x_iconst rfl ?_
        refine x_cne (t := 67) rfl rfl ⟨by omega, by omega⟩ ⟨by omega, by omega⟩ (fun hb51 => ?_) (fun hb51 => ?_)
        · exfalso; omega
        · refine x_aload_n rfl rfl ?_
          refine x_getfield rfl (by decide) h109 rfl ?_
          refine x_ldc rfl ?_
          refine x_call [_, _] rfl rfl (show (0 : Nat) ≤ 8 from by decide) (show (2 : Nat) ≤ 6 from by decide) (x_rcv (by decide) h112) (xs_39 hv (p := 6) (Or.inr rfl) h112) (fun r' f' hP => ?_)
          obtain ⟨rfl, rfl⟩ := hP
          change xz v0 xs u _ _ _ _ (xi (xAt wo) :: _) _
          refine x_iconst rfl ?_
          refine x_ceq (t := 69) rfl rfl ⟨by omega, by omega⟩ ⟨by omega, by omega⟩ (fun hb64 => ?_) (fun hb64 => ?_)
          · refine x_aload_n rfl rfl ?_
            refine x_getfield rfl (by decide) h109 rfl ?_
            refine x_aload_n rfl rfl ?_
            refine x_getfield rfl (by decide) h109 rfl ?_
            refine x_getfield rfl (by decide) h112 rfl ?_
            refine x_putfield rfl (by omega) h0 (show (3 : Nat) < 7 from by decide) rfl ?_
            refine x_aload_n rfl rfl ?_
            refine x_iconst rfl ?_
            refine x_putfield rfl (by decide) (xu_ne (by omega) h109) (show (7 : Nat) < 10 from by decide) rfl ?_
            refine x_iconst rfl ?_
            refine x_ireturn rfl (Or.inr (Or.inl ⟨rfl, by decide⟩)) ⟨_, _, rfl, rfl, ?_⟩
            first | (exfalso; omega) | exact ⟨rfl, xDR_mv (fun p p1 p2 => xu_ne (by omega) rfl) ⟨hm1, hm2, fp, ep, ta, xu_eq, xu_ne (by omega) h1, xu_ne (by omega) h2, xu_ne (by omega) h3, hty⟩, xu_eq, fun p hp a1 => xu_ne hp (xu_ne a1 rfl)⟩
          · exfalso; omega
theorem xs_40f {G : Nat → List xBt} {B : List xBt} {v0 : Value} {xs : List Int32} {u : Nat × Nat} {f : Nat → zE} {c : Nat} {op ex bs sl ki st en di sg : Int} {wo : Int64} {kp pt : Int} {nm : Nat → Int64} {bc dp : Nat → Int} {av : Nat → Value} {nmd : Int64} {m d : Int} {al : Value} (hv : v0 = .null ∨ v0 = .ref 49) (h109 : f 109 = xrd c op ex bs sl) (h112 : f 112 = xtk ki st en wo di sg) (hki : 0 ≤ ki ∧ ki ≤ 9) (hsg : ki = 3 → 0 ≤ sg ∧ sg ≤ 65535) (hc : c ≤ 12) (h53 : f 53 = xbo (c : Nat) kp pt) (h54 : f 54 = .inr (.inr (.inr (3, xfl)))) (hkf : ∀ i, i < c → xKF (G i) i f (nm i) (bc i) (dp i) (av i)) (hd : xDR B c f nmd m d al) (hw : ¬ (ki = 1 ∧ ¬ wo = 0 ∧ xfn nm wo c 0 = -1 ∧ xS wo = -1 ∧ xAt wo = -1)) : xq v0 xs u 40 [(0, .ref 109)] f (fun r f' => r = some (xi 0) ∧ f' = f) := by
  unfold xq
  obtain ⟨hm1, hm2, fp, ep, ta, h0, h1, h2, h3, hty⟩ := hd
  have hS := xS_rg wo
  have hA := xAt_rg wo
  have hfn : -1 ≤ xfn nm wo c 0 ∧ xfn nm wo c 0 ≤ 12 := by rcases xfn_rg (nm := nm) (g := wo) c 0 with h | ⟨j, h1, h2, h3⟩ <;> omega
  refine x_aload_n rfl rfl ?_
  refine x_getfield rfl (by decide) h109 rfl ?_
  refine x_getfield rfl (by decide) h112 rfl ?_
  refine x_iconst rfl ?_
  refine x_cne (t := 67) rfl rfl ⟨by omega, by omega⟩ ⟨by omega, by omega⟩ (fun hb8 => ?_) (fun hb8 => ?_)
  · refine x_iconst rfl ?_
    refine x_ireturn rfl (Or.inr (Or.inl ⟨rfl, by decide⟩)) ⟨_, _, rfl, rfl, ?_⟩
    first | (exfalso; omega) | exact ⟨rfl, rfl⟩
  · refine x_aload_n rfl rfl ?_
    refine x_getfield rfl (by decide) h109 rfl ?_
    refine x_getfield rfl (by decide) h112 rfl ?_
    refine x_lconst rfl ?_
    refine x_lcmp rfl ?_
    refine x_leq (t := 67) rfl rfl (fun hb20 => ?_) (fun hb20 => ?_)
    · refine x_iconst rfl ?_
      refine x_ireturn rfl (Or.inr (Or.inl ⟨rfl, by decide⟩)) ⟨_, _, rfl, rfl, ?_⟩
      first | (exfalso; omega) | exact ⟨rfl, rfl⟩
    · refine x_aload_n rfl rfl ?_
      refine x_getfield rfl (by decide) h109 rfl ?_
      refine x_aload_n rfl rfl ?_
      refine x_getfield rfl (by decide) h109 rfl ?_
      refine x_getfield rfl (by decide) h112 rfl ?_
      refine x_call [_, _] rfl rfl (show (0 : Nat) ≤ 8 from by decide) (show (3 : Nat) ≤ 4 from by decide) (x_rcv (by decide) h53) (xs_31 hc h53 h54 (xKF_fig hkf)) (fun r' f' hP => ?_)
      obtain ⟨rfl, rfl⟩ := hP
      refine x_iconst rfl ?_
      refine x_cne (t := 67) rfl rfl ⟨by omega, by omega⟩ ⟨by omega, by omega⟩ (fun hb38 => ?_) (fun hb38 => ?_)
      · refine x_iconst rfl ?_
        refine x_ireturn rfl (Or.inr (Or.inl ⟨rfl, by decide⟩)) ⟨_, _, rfl, rfl, ?_⟩
        first | (exfalso; omega) | exact ⟨rfl, rfl⟩
      · refine x_aload_n rfl rfl ?_
        refine x_getfield rfl (by decide) h109 rfl ?_
        refine x_ldc rfl ?_
        refine x_call [_, _] rfl rfl (show (0 : Nat) ≤ 8 from by decide) (show (2 : Nat) ≤ 6 from by decide) (x_rcv (by decide) h112) (xs_39 hv (p := 5) (Or.inl rfl) h112) (fun r' f' hP => ?_)
        obtain ⟨rfl, rfl⟩ := hP
        change xz v0 xs u _ _ _ _ (xi (xS wo) :: _) _
        refine x_iconst rfl ?_
        refine x_cne (t := 67) rfl rfl ⟨by omega, by omega⟩ ⟨by omega, by omega⟩ (fun hb51 => ?_) (fun hb51 => ?_)
        · refine x_iconst rfl ?_
          refine x_ireturn rfl (Or.inr (Or.inl ⟨rfl, by decide⟩)) ⟨_, _, rfl, rfl, ?_⟩
          first | (exfalso; omega) | exact ⟨rfl, rfl⟩
        · refine x_aload_n rfl rfl ?_
          refine x_getfield rfl (by decide) h109 rfl ?_
          refine x_ldc rfl ?_
          refine x_call [_, _] rfl rfl (show (0 : Nat) ≤ 8 from by decide) (show (2 : Nat) ≤ 6 from by decide) (x_rcv (by decide) h112) (xs_39 hv (p := 6) (Or.inr rfl) h112) (fun r' f' hP => ?_)
          obtain ⟨rfl, rfl⟩ := hP
          change xz v0 xs u _ _ _ _ (xi (xAt wo) :: _) _
          refine x_iconst rfl ?_
          refine x_ceq (t := 69) rfl rfl ⟨by omega, by omega⟩ ⟨by omega, by omega⟩ (fun hb64 => ?_) (fun hb64 => ?_)
          · exact absurd ⟨hb8, hb20, by omega, by omega, by omega⟩ hw
          · refine x_iconst rfl ?_
            refine x_ireturn rfl (Or.inr (Or.inl ⟨rfl, by decide⟩)) ⟨_, _, rfl, rfl, ?_⟩
            first | (exfalso; omega) | exact ⟨rfl, rfl⟩
theorem xs_55s {v0 : Value} {xs : List Int32} {u : Nat × Nat} {f : Nat → zE} {c : Nat} {op ex bs sl ki st en di sg : Int} {wo : Int64} (h109 : f 109 = xrd c op ex bs sl) (h112 : f 112 = xtk ki st en wo di sg) (hki : 0 ≤ ki ∧ ki ≤ 9) (hsg : ki = 3 → 0 ≤ sg ∧ sg ≤ 65535) (hw : ki = 3 ∧ sg = 59) : xq v0 xs u 55 [(0, .ref 109)] f (fun r f' => r = some (xi 1) ∧ f' = xu f 109 (xrd c op 2 bs sl)) := by
  unfold xq
  refine x_aload_n rfl rfl ?_
  refine x_bipush rfl (by decide) ?_
  refine x_iconst rfl ?_
  refine x_call [_, _, _] rfl rfl (show (0 : Nat) ≤ 8 from by decide) (show (3 : Nat) ≤ 3 from by decide) (x_rcv (by decide) h109) (xs_42t h109 h112 hki hsg (by decide) hw) (fun r' f' hP => ?_)
  obtain ⟨rfl, rfl⟩ := hP
  refine x_ifeq (t := 12) rfl rfl ⟨by omega, by omega⟩ (fun hb7 => ?_) (fun hb7 => ?_)
  · exfalso; omega
  · refine x_iconst rfl ?_
    refine x_ireturn rfl (Or.inr (Or.inl ⟨rfl, by decide⟩)) ⟨_, _, rfl, rfl, ?_⟩
    first | (exfalso; omega) | exact ⟨rfl, rfl⟩
theorem xs_55f {v0 : Value} {xs : List Int32} {u : Nat × Nat} {f : Nat → zE} {c : Nat} {op ex bs sl ki st en di sg : Int} {wo : Int64} (h109 : f 109 = xrd c op ex bs sl) (h112 : f 112 = xtk ki st en wo di sg) (hki : 0 ≤ ki ∧ ki ≤ 9) (hsg : ki = 3 → 0 ≤ sg ∧ sg ≤ 65535) (hop : 0 ≤ op ∧ op ≤ 3) (hw : ¬ (ki = 3 ∧ sg = 59)) (hw2 : op = 0 ∨ ¬ (ki = 3 ∧ sg = 41)) : xq v0 xs u 55 [(0, .ref 109)] f (fun r f' => r = some (xi 0) ∧ f' = f) := by
  unfold xq
  refine x_aload_n rfl rfl ?_
  refine x_bipush rfl (by decide) ?_
  refine x_iconst rfl ?_
  refine x_call [_, _, _] rfl rfl (show (0 : Nat) ≤ 8 from by decide) (show (3 : Nat) ≤ 3 from by decide) (x_rcv (by decide) h109) (xs_42f h109 h112 hki hsg (by decide) hw) (fun r' f' hP => ?_)
  obtain ⟨rfl, rfl⟩ := hP
  refine x_ifeq (t := 12) rfl rfl ⟨by omega, by omega⟩ (fun hb7 => ?_) (fun hb7 => ?_)
  · refine x_aload_n rfl rfl ?_
    refine x_getfield rfl (by decide) h109 rfl ?_
    refine x_ifeq (t := 30) rfl rfl ⟨by omega, by omega⟩ (fun hb16 => ?_) (fun hb16 => ?_)
    · refine x_iconst rfl ?_
      refine x_ireturn rfl (Or.inr (Or.inl ⟨rfl, by decide⟩)) ⟨_, _, rfl, rfl, ?_⟩
      first | (exfalso; omega) | exact ⟨rfl, rfl⟩
    · refine x_aload_n rfl rfl ?_
      refine x_bipush rfl (by decide) ?_
      refine x_bipush rfl (by decide) ?_
      refine x_call [_, _, _] rfl rfl (show (0 : Nat) ≤ 8 from by decide) (show (3 : Nat) ≤ 3 from by decide) (x_rcv (by decide) h109) (xs_42f h109 h112 hki hsg (by decide) (by omega)) (fun r' f' hP => ?_)
      obtain ⟨rfl, rfl⟩ := hP
      refine x_ifne (t := 32) rfl rfl ⟨by omega, by omega⟩ (fun hb27 => ?_) (fun hb27 => ?_)
      · exfalso; omega
      · refine x_iconst rfl ?_
        refine x_ireturn rfl (Or.inr (Or.inl ⟨rfl, by decide⟩)) ⟨_, _, rfl, rfl, ?_⟩
        first | (exfalso; omega) | exact ⟨rfl, rfl⟩
  · exfalso; omega
theorem xs_55c {B : List xBt} {v0 : Value} {xs : List Int32} {u : Nat × Nat} {f : Nat → zE} {c : Nat} {op ex bs sl ki st en di sg : Int} {wo : Int64} {tm oa : List Int} {nmd : Int64} {m d : Int} {al : Value} (h109 : f 109 = xrd c op ex bs sl) (h112 : f 112 = xtk ki st en wo di sg) (hki : 0 ≤ ki ∧ ki ≤ 9) (hsg : ki = 3 → 0 ≤ sg ∧ sg ≤ 65535) (hc : c ≤ 12) (h110 : f 110 = xr 0 tm) (h111 : f 111 = xr 0 oa) (htl : tm.length = 3) (hol : oa.length = 3) (hop : 0 ≤ op ∧ op ≤ 3) (hd : xDR B c f nmd m d al) (hw : ¬ (ki = 3 ∧ sg = 59)) (hw2 : 0 < op) (hw3 : ki = 3 ∧ sg = 41) (hfr0 : 0 ≤ oa.getD (op - 1).toNat 0 ∧ oa.getD (op - 1).toNat 0 ≤ m) (hti : 1 ≤ tm.getD (op - 1).toNat 0 ∧ tm.getD (op - 1).toNat 0 ≤ 4) : xq v0 xs u 55 [(0, .ref 109)] f (fun r f' => r = some (xi 1) ∧ f' 109 = xrd c (op - 1) 7 bs sl ∧ xDR (B ++ xrd0 B (oa.getD (op - 1).toNat 0).toNat (m - oa.getD (op - 1).toNat 0) (tm.getD (op - 1).toNat 0 - 1).toNat) c f' nmd (min (m + (tm.getD (op - 1).toNat 0 - 1) * (m - oa.getD (op - 1).toNat 0)) 17) d al ∧ ∀ p, p ≠ 109 → p ≠ 57 + 4 * c → p ≠ 58 + 4 * c → p ≠ 59 + 4 * c → p ≠ 60 + 4 * c → f' p = f p) := by
  unfold xq
  have hd0 := hd
  obtain ⟨hm1, hm2, fp, ep, ta, h0, h1, h2, h3, hty⟩ := hd0
  refine x_aload_n rfl rfl ?_
  refine x_bipush rfl (by decide) ?_
  refine x_iconst rfl ?_
  refine x_call [_, _, _] rfl rfl (show (0 : Nat) ≤ 8 from by decide) (show (3 : Nat) ≤ 3 from by decide) (x_rcv (by decide) h109) (xs_42f h109 h112 hki hsg (by decide) hw) (fun r' f' hP => ?_)
  obtain ⟨rfl, rfl⟩ := hP
  refine x_ifeq (t := 12) rfl rfl ⟨by omega, by omega⟩ (fun hb7 => ?_) (fun hb7 => ?_)
  · refine x_aload_n rfl rfl ?_
    refine x_getfield rfl (by decide) h109 rfl ?_
    refine x_ifeq (t := 30) rfl rfl ⟨by omega, by omega⟩ (fun hb16 => ?_) (fun hb16 => ?_)
    · exfalso; omega
    · refine x_aload_n rfl rfl ?_
      refine x_bipush rfl (by decide) ?_
      refine x_bipush rfl (by decide) ?_
      refine x_call [_, _, _] rfl rfl (show (0 : Nat) ≤ 8 from by decide) (show (3 : Nat) ≤ 3 from by decide) (x_rcv (by decide) h109) (xs_42t h109 h112 hki hsg (by decide) hw3) (fun r' f' hP => ?_)
      obtain ⟨rfl, rfl⟩ := hP
      refine x_ifne (t := 32) rfl rfl ⟨by omega, by omega⟩ (fun hb27 => ?_) (fun hb27 => ?_)
      · refine x_aload_n rfl rfl ?_
        refine x_dup rfl ?_
        refine x_getfield rfl (by decide) xu_eq rfl ?_
        refine x_iconst rfl ?_
        refine x_isub rfl ?_
        refine x_putfield rfl (by decide) xu_eq (show (6 : Nat) < 10 from by decide) rfl ?_
        refine x_aload_n rfl rfl ?_
        refine x_getfield rfl (by decide) xu_eq rfl ?_
        refine x_aload_n rfl rfl ?_
        refine x_getfield rfl (by decide) xu_eq rfl ?_
        refine x_aload_n rfl rfl ?_
        refine x_getfield rfl (by decide) xu_eq rfl ?_
        refine x_iaload rfl (by decide) (xu_ne (by decide) (xu_ne (by decide) h111)) ⟨by omega, by omega⟩ (by omega) ?_
        refine x_aload_n rfl rfl ?_
        refine x_getfield rfl (by decide) xu_eq rfl ?_
        refine x_aload_n rfl rfl ?_
        refine x_getfield rfl (by decide) xu_eq rfl ?_
        refine x_iaload rfl (by decide) (xu_ne (by decide) (xu_ne (by decide) h110)) ⟨by omega, by omega⟩ (by omega) ?_
        refine x_call [_, _, _] rfl rfl (show (0 : Nat) ≤ 8 from by decide) (show (3 : Nat) ≤ 7 from by decide) (x_rcv (by omega) (xu_ne (by omega) (xu_ne (by omega) h0))) (xs_54 hc ⟨hm1, hm2⟩ hfr0 hti (xDR_mv (fun p p1 p2 => xu_ne (by omega) (xu_ne (by omega) rfl)) hd)) (fun r' f' hP => ?_)
        obtain ⟨rfl, hP1, hP2⟩ := hP
        refine x_iconst rfl ?_
        refine x_ireturn rfl (Or.inr (Or.inl ⟨rfl, by decide⟩)) ⟨_, _, rfl, rfl, ?_⟩
        first | (exfalso; omega) | exact ⟨rfl, (hP2 109 (by omega) (by omega) (by omega) (by omega)).trans xu_eq, hP1, fun p hp a1 a2 a3 a4 => (hP2 p a1 a2 a3 a4).trans (xu_ne hp (xu_ne hp rfl))⟩
      · exfalso; omega
  · exfalso; omega
