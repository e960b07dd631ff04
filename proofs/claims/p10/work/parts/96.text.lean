/-! The text: write and wipe, of both. -/
/-- the byte i of a long, as the class takes it -/
def xby (g : Int64) (i : Int) : Int := (Int32.ofInt ((g.toUInt64 >>> ((Int32.ofInt (8 * i)).toInt64.toUInt64 &&& Int64.toUInt64 63)).toInt64.toInt32.toInt) &&& Int32.ofInt 255).toInt
theorem xby_rg (g : Int64) (i : Int) : 0 ≤ xby g i ∧ xby g i ≤ 255 := y_and 8 255 255 rfl rfl rfl rfl (by decide)
/-- the same byte, as the model takes it -/
theorem xby_m (g : Int64) (i : Int) : ((g.toUInt64 >>> ((Int32.ofInt (8 * i)).toInt64.toUInt64 &&& Int64.toUInt64 63)).toInt64 &&& 255).toInt32.toInt = xby g i := by
  unfold xby
  rw [Int32.ofInt_toInt, Int64.toInt32_and]
  rfl
/-- how many bytes below k are no 0 -/
def xcn (g : Int64) : Nat → Int
  | 0 => 0
  | k + 1 => xcn g k + (if xby g (k : Nat) = 0 then 0 else 1)
theorem xcn_rg (g : Int64) : ∀ k, 0 ≤ xcn g k ∧ xcn g k ≤ (k : Nat) := by
  intro k
  induction k with
  | zero => exact ⟨Int.le_refl _, Int.le_refl _⟩
  | succ k ih =>
    simp only [xcn]
    split <;> omega
theorem xcn_mono (g : Int64) : ∀ (d k : Nat), xcn g k ≤ xcn g (k + d) := by
  intro d
  induction d with
  | zero => intro k; exact Int.le_refl _
  | succ d ih =>
    intro k
    have := ih k
    have e : k + (d + 1) = (k + d) + 1 := by omega
    rw [e]
    simp only [xcn]
    split <;> omega
def xok (g : Int64) (k : Nat) : Prop := ∀ j : Nat, j < k → xby g (j : Nat) = 0 ∨ (32 ≤ xby g (j : Nat) ∧ xby g (j : Nat) ≤ 126)
/-- what a write takes: every byte is 0 or of 32 .. 126, and there is room -/
def xfits (g : Int64) (n : Int) : Prop := xok g 8 ∧ n + xcn g 8 ≤ 100
theorem xok_s {g : Int64} {k : Nat} (h : xok g k) (hk : xby g (k : Nat) = 0 ∨ (32 ≤ xby g (k : Nat) ∧ xby g (k : Nat) ≤ 126)) : xok g (k + 1) := by
  intro j hj
  by_cases e : j = k
  · subst e; exact hk
  · exact h j (by omega)
/-- the text behind the bytes below k -/
def xwr (g : Int64) (n : Int) (cs : List Int) : Nat → List Int
  | 0 => cs
  | k + 1 => if xby g (k : Nat) = 0 then xwr g n cs k else (xwr g n cs k).set (n + xcn g k).toNat (xby g (k : Nat))
theorem xwr_len (g : Int64) (n : Int) (cs : List Int) : ∀ k, (xwr g n cs k).length = cs.length := by
  intro k
  induction k with
  | zero => rfl
  | succ k ih =>
    simp only [xwr]
    split
    · exact ih
    · rw [List.length_set]; exact ih
theorem xs_17 {v0 : Value} {xs : List Int32} {u : Nat × Nat} {f : Nat → zE} {g : Int64} {i : Int} : xq v0 xs u 17 [(0, .long g), (2, xi i)] f (fun r f' => (r, f') = (some (xi (xby g i)), f)) := by
  unfold xq
  refine x_lload_n rfl rfl ?_
  refine x_bipush rfl (by decide) ?_
  refine x_iload_n rfl rfl ?_
  refine x_imul rfl ?_
  refine x_lushr rfl ?_
  refine x_l2iz rfl ?_
  refine x_sipush rfl (by decide) ?_
  refine x_iandz rfl ?_
  refine x_ireturn rfl (Or.inl rfl) ⟨_, _, rfl, rfl, ?_⟩
  exact rfl
theorem xs_18l {v0 : Value} {xs : List Int32} {u : Nat × Nat} {f : Nat → zE} {g : Int64} {n : Int} (h51 : f 51 = .inl (1, [.ref 52, xi n])) (hn : 0 ≤ n ∧ n ≤ 100) : ∀ (d k : Nat) (lv : zL), d + k = 8 → zlv lv 0 = some (.ref 51) → zlv lv 1 = some (.long g) → zlv lv 4 = some (xi (k : Nat)) → zlv lv 3 = some (xi (xcn g k)) → xok g k → xz v0 xs u (fun o X => ∃ r f', o = .inl r ∧ X = (xh f', u) ∧ (fun r f' => f' = f ∧ ((r = some (xi 1) ∧ xfits g n) ∨ (r = some (xi 0) ∧ ¬ xfits g n))) r f') 18 5 lv [] f := by
  intro d
  induction d with
  | zero =>
    intro k lv hd h0 h1 h4 h3 hok
    have hcg := xcn_rg g k
    refine x_iload rfl h4 ?_
    refine x_bipush rfl (by decide) ?_
    refine x_cge (t := 50) rfl rfl ⟨by omega, by omega⟩ ⟨by omega, by omega⟩ (fun hb9 => ?_) (fun hb9 => ?_)
    · have hk8 : k = 8 := by omega
      refine x_aload_n rfl h0 ?_
      refine x_getfield rfl (by decide) h51 rfl ?_
      refine x_iload_n rfl h3 ?_
      refine x_iadd rfl ?_
      refine x_bipush rfl (by decide) ?_
      refine x_cgt (t := 65) rfl rfl ⟨by omega, by omega⟩ ⟨by omega, by omega⟩ (fun hb58 => ?_) (fun hb58 => ?_)
      · refine x_iconst rfl ?_
        refine x_ireturn rfl (Or.inr (Or.inl ⟨rfl, by decide⟩)) ⟨_, _, rfl, rfl, ?_⟩
        exact ⟨rfl, Or.inr ⟨rfl, fun hx => by have h1 := hx.2; rw [hk8] at hb58; omega⟩⟩
      · refine x_iconst rfl ?_
        refine x_goto (t := 66) rfl rfl ?_
        refine x_ireturn rfl (Or.inr (Or.inl ⟨rfl, by decide⟩)) ⟨_, _, rfl, rfl, ?_⟩
        refine ⟨rfl, Or.inl ⟨rfl, ?_, ?_⟩⟩
        · rw [← hk8]; exact hok
        · rw [← hk8]; omega
    · exfalso; omega
  | succ d ih =>
    intro k lv hd h0 h1 h4 h3 hok
    have hcg := xcn_rg g k
    refine x_iload rfl h4 ?_
    refine x_bipush rfl (by decide) ?_
    refine x_cge (t := 50) rfl rfl ⟨by omega, by omega⟩ ⟨by omega, by omega⟩ (fun hb9 => ?_) (fun hb9 => ?_)
    · exfalso; omega
    · refine x_lload_n rfl h1 ?_
      refine x_iload rfl h4 ?_
      refine x_call [_, _] rfl rfl (show (0 : Nat) ≤ 8 from by decide) (show (3 : Nat) ≤ 3 from by decide) rfl xs_17 (fun r' f' hP => ?_)
      obtain ⟨rfl, rfl⟩ := Prod.mk.inj hP
      have hby := xby_rg g (k : Nat)
      refine x_istore rfl (show (5 : Nat) < 6 from by decide) ?_
      refine x_iload rfl xst_eq ?_
      refine x_ifeq (t := 44) rfl rfl ⟨by omega, by omega⟩ (fun hb22 => ?_) (fun hb22 => ?_)
      · refine x_iinc rfl (xst_ne (by decide) h4 (Or.inl rfl)) (show (4 : Nat) < 6 from by decide) ?_
        refine x_goto (t := 5) rfl rfl ?_
        have hcn : xcn g (k + 1) = xcn g k := by simp only [xcn]; rw [if_pos hb22]; omega
        refine ih (k + 1) _ (by omega) (xst_ne (by decide) (xst_ne (by decide) h0 (Or.inl rfl)) (Or.inl rfl)) (xst_ne (by decide) (xst_ne (by decide) h1 (Or.inr (by decide))) (Or.inr (by decide))) ?_ (by rw [hcn]; exact (xst_ne (by decide) (xst_ne (by decide) h3 (Or.inl rfl)) (Or.inl rfl))) (xok_s hok (by omega))
        exact xst_eq
      · refine x_iload rfl xst_eq ?_
        refine x_bipush rfl (by decide) ?_
        refine x_clt (t := 39) rfl rfl ⟨by omega, by omega⟩ ⟨by omega, by omega⟩ (fun hb29 => ?_) (fun hb29 => ?_)
        · refine x_iconst rfl ?_
          refine x_ireturn rfl (Or.inr (Or.inl ⟨rfl, by decide⟩)) ⟨_, _, rfl, rfl, ?_⟩
          exact ⟨rfl, Or.inr ⟨rfl, fun hx => by have h1 := hx.1 k (by omega); omega⟩⟩
        · refine x_iload rfl xst_eq ?_
          refine x_bipush rfl (by decide) ?_
          refine x_cle (t := 41) rfl rfl ⟨by omega, by omega⟩ ⟨by omega, by omega⟩ (fun hb36 => ?_) (fun hb36 => ?_)
          · refine x_iinc rfl (xst_ne (by decide) h3 (Or.inl rfl)) (show (3 : Nat) < 6 from by decide) ?_
            refine x_iinc rfl (xst_ne (by decide) (xst_ne (by decide) h4 (Or.inl rfl)) (Or.inl rfl)) (show (4 : Nat) < 6 from by decide) ?_
            refine x_goto (t := 5) rfl rfl ?_
            have hcn : xcn g (k + 1) = xcn g k + 1 := by simp only [xcn]; rw [if_neg hb22]
            refine ih (k + 1) _ (by omega) (xst_ne (by decide) (xst_ne (by decide) (xst_ne (by decide) h0 (Or.inl rfl)) (Or.inl rfl)) (Or.inl rfl)) (xst_ne (by decide) (xst_ne (by decide) (xst_ne (by decide) h1 (Or.inr (by decide))) (Or.inr (by decide))) (Or.inr (by decide))) ?_ (by rw [hcn]; exact (xst_ne (by decide) xst_eq (Or.inl rfl))) (xok_s hok (by omega))
            exact xst_eq
          · refine x_iconst rfl ?_
            refine x_ireturn rfl (Or.inr (Or.inl ⟨rfl, by decide⟩)) ⟨_, _, rfl, rfl, ?_⟩
            exact ⟨rfl, Or.inr ⟨rfl, fun hx => by have h1 := hx.1 k (by omega); omega⟩⟩
theorem xs_18 {v0 : Value} {xs : List Int32} {u : Nat × Nat} {f : Nat → zE} {g : Int64} {n : Int} (h51 : f 51 = .inl (1, [.ref 52, xi n])) (hn : 0 ≤ n ∧ n ≤ 100) : xq v0 xs u 18 [(0, .ref 51), (1, .long g)] f (fun r f' => f' = f ∧ ((r = some (xi 1) ∧ xfits g n) ∨ (r = some (xi 0) ∧ ¬ xfits g n))) := by
  unfold xq
  refine x_iconst rfl ?_
  refine x_istore_n rfl (show (3 : Nat) < 6 from by decide) ?_
  refine x_iconst rfl ?_
  refine x_istore rfl (show (4 : Nat) < 6 from by decide) ?_
  exact xs_18l h51 hn 8 0 _ rfl (xst_ne (by decide) (xst_ne (by decide) rfl (Or.inl rfl)) (Or.inl rfl)) (xst_ne (by decide) (xst_ne (by decide) rfl (Or.inr (by decide))) (Or.inr (by decide))) xst_eq (xst_ne (by decide) xst_eq (Or.inl rfl)) (fun j hj => absurd hj (Nat.not_lt_zero j))
theorem xnar {x : Int} (h1 : 0 ≤ x) (h2 : x < 65536) : vp_nar .char (Int32.ofInt x) = Int32.ofInt x := by
  obtain ⟨n, rfl⟩ := Int.eq_ofNat_of_zero_le h1
  have hn : n < 65536 := by omega
  show ((UInt32.ofNat n).toUInt16.toUInt32).toInt32 = Int32.ofNat n
  have e : (UInt32.ofNat n).toUInt16.toUInt32 = UInt32.ofNat n := by
    apply UInt32.toNat_inj.mp
    simp
    omega
  rw [e]
  rfl
theorem xs_19l {v0 : Value} {xs : List Int32} {u : Nat × Nat} {f0 : Nat → zE} {g : Int64} {n : Int} {cs : List Int} (hn : 0 ≤ n ∧ n ≤ 100) (hl : cs.length = 100) (hfit : xfits g n) : ∀ (d k : Nat) (lv : zL) (f : Nat → zE), d + k = 8 → zlv lv 0 = some (.ref 51) → zlv lv 1 = some (.long g) → zlv lv 3 = some (xi (k : Nat)) → f 51 = .inl (1, [.ref 52, xi (n + xcn g k)]) → f 52 = xr 1 (xwr g n cs k) → (∀ p, p ≠ 51 → p ≠ 52 → f p = f0 p) → xz v0 xs u (fun o X => ∃ r f', o = .inl r ∧ X = (xh f', u) ∧ (fun r f' => (r = some (xi 0) ∧ ¬ xfits g n ∧ f' = f0) ∨ (r = some (xi 1) ∧ xfits g n ∧ f' 51 = .inl (1, [.ref 52, xi (n + xcn g 8)]) ∧ f' 52 = xr 1 (xwr g n cs 8) ∧ ∀ p, p ≠ 51 → p ≠ 52 → f' p = f0 p)) r f') 19 12 lv [] f := by
  intro d
  induction d with
  | zero =>
    intro k lv f hd h0 h1 h3 h51 h52 hfr
    have hcg := xcn_rg g k
    have hwl : (xwr g n cs k).length = 100 := by rw [xwr_len]; exact hl
    refine x_iload_n rfl h3 ?_
    refine x_bipush rfl (by decide) ?_
    refine x_cge (t := 67) rfl rfl ⟨by omega, by omega⟩ ⟨by omega, by omega⟩ (fun hb15 => ?_) (fun hb15 => ?_)
    · refine x_iconst rfl ?_
      refine x_ireturn rfl (Or.inr (Or.inl ⟨rfl, by decide⟩)) ⟨_, _, rfl, rfl, ?_⟩
      have hk8 : k = 8 := by omega
      subst hk8
      exact Or.inr ⟨rfl, hfit, h51, h52, hfr⟩
    · exfalso; omega
  | succ d ih =>
    intro k lv f hd h0 h1 h3 h51 h52 hfr
    have hcg := xcn_rg g k
    have hwl : (xwr g n cs k).length = 100 := by rw [xwr_len]; exact hl
    refine x_iload_n rfl h3 ?_
    refine x_bipush rfl (by decide) ?_
    refine x_cge (t := 67) rfl rfl ⟨by omega, by omega⟩ ⟨by omega, by omega⟩ (fun hb15 => ?_) (fun hb15 => ?_)
    · exfalso; omega
    · refine x_lload_n rfl h1 ?_
      refine x_iload_n rfl h3 ?_
      refine x_call [_, _] rfl rfl (show (0 : Nat) ≤ 8 from by decide) (show (3 : Nat) ≤ 3 from by decide) rfl xs_17 (fun r' f' hP => ?_)
      obtain ⟨rfl, rfl⟩ := Prod.mk.inj hP
      have hby := xby_rg g (k : Nat)
      refine x_istore rfl (show (4 : Nat) < 5 from by decide) ?_
      have hm : xcn g (k + 1) ≤ xcn g 8 := by have := xcn_mono g (8 - (k + 1)) (k + 1); rw [show k + 1 + (8 - (k + 1)) = 8 by omega] at this; exact this
      refine x_iload rfl xst_eq ?_
      refine x_ifeq (t := 61) rfl rfl ⟨by omega, by omega⟩ (fun hb27 => ?_) (fun hb27 => ?_)
      · refine x_iinc rfl (xst_ne (by decide) h3 (Or.inl rfl)) (show (3 : Nat) < 5 from by decide) ?_
        refine x_goto (t := 12) rfl rfl ?_
        have hcn : xcn g (k + 1) = xcn g k := by simp only [xcn]; rw [if_pos hb27]; omega
        have hwr : xwr g n cs (k + 1) = xwr g n cs k := by simp only [xwr]; rw [if_pos hb27]
        exact ih (k + 1) _ _ (by omega) (xst_ne (by decide) (xst_ne (by decide) h0 (Or.inl rfl)) (Or.inl rfl)) (xst_ne (by decide) (xst_ne (by decide) h1 (Or.inr (by decide))) (Or.inr (by decide))) xst_eq (by rw [hcn]; exact h51) (by rw [hwr]; exact h52) hfr
      · refine x_aload_n rfl (xst_ne (by decide) h0 (Or.inl rfl)) ?_
        refine x_getfield rfl (by decide) h51 rfl ?_
        refine x_bipush rfl (by decide) ?_
        have hcn1 : xcn g (k + 1) = xcn g k + 1 := by simp only [xcn]; rw [if_neg hb27]
        have hf2 := hfit.2
        refine x_cge (t := 61) rfl rfl ⟨by omega, by omega⟩ ⟨by omega, by omega⟩ (fun hb36 => ?_) (fun hb36 => ?_)
        · exfalso; omega
        · refine x_aload_n rfl (xst_ne (by decide) h0 (Or.inl rfl)) ?_
          refine x_getfield rfl (by decide) h51 rfl ?_
          refine x_aload_n rfl (xst_ne (by decide) h0 (Or.inl rfl)) ?_
          refine x_getfield rfl (by decide) h51 rfl ?_
          refine x_iload rfl xst_eq ?_
          refine x_i2c rfl ⟨by omega, by omega⟩ ?_
          refine x_castore rfl (by decide) h52 ⟨by omega, by omega⟩ (by omega) (xnar (by omega) (by omega)) ?_
          refine x_aload_n rfl (xst_ne (by decide) h0 (Or.inl rfl)) ?_
          refine x_dup rfl ?_
          refine x_getfield rfl (by decide) (xu_ne (by decide) h51) rfl ?_
          refine x_iconst rfl ?_
          refine x_iadd rfl ?_
          refine x_putfield rfl (by decide) (xu_ne (by decide) h51) (show (1 : Nat) < 2 from by decide) rfl ?_
          refine x_iinc rfl (xst_ne (by decide) h3 (Or.inl rfl)) (show (3 : Nat) < 5 from by decide) ?_
          refine x_goto (t := 12) rfl rfl ?_
          have hcn : xcn g (k + 1) = xcn g k + 1 := by simp only [xcn]; rw [if_neg hb27]
          have hwr : xwr g n cs (k + 1) = (xwr g n cs k).set (n + xcn g k).toNat (xby g (k : Nat)) := by simp only [xwr]; rw [if_neg hb27]
          refine ih (k + 1) _ _ (by omega) (xst_ne (by decide) (xst_ne (by decide) h0 (Or.inl rfl)) (Or.inl rfl)) (xst_ne (by decide) (xst_ne (by decide) h1 (Or.inr (by decide))) (Or.inr (by decide))) xst_eq ?_ ?_ ?_
          · rw [hcn, ← Int.add_assoc]; exact xu_eq
          · rw [hwr]; exact (xu_ne (by decide) xu_eq)
          · intro p p1 p2; exact xu_ne p1 (xu_ne p2 (hfr p p1 p2))
theorem xs_19 {v0 : Value} {xs : List Int32} {u : Nat × Nat} {f : Nat → zE} {g : Int64} {n : Int} {cs : List Int} (h51 : f 51 = .inl (1, [.ref 52, xi n])) (h52 : f 52 = xr 1 cs) (hn : 0 ≤ n ∧ n ≤ 100) (hl : cs.length = 100) : xq v0 xs u 19 [(0, .ref 51), (1, .long g)] f (fun r f' => (r = some (xi 0) ∧ ¬ xfits g n ∧ f' = f) ∨ (r = some (xi 1) ∧ xfits g n ∧ f' 51 = .inl (1, [.ref 52, xi (n + xcn g 8)]) ∧ f' 52 = xr 1 (xwr g n cs 8) ∧ ∀ p, p ≠ 51 → p ≠ 52 → f' p = f p)) := by
  unfold xq
  refine x_aload_n rfl rfl ?_
  refine x_lload_n rfl rfl ?_
  refine x_call [_, _] rfl rfl (show (0 : Nat) ≤ 8 from by decide) (show (3 : Nat) ≤ 6 from by decide) (x_rcv (by decide) h51) (xs_18 h51 hn) (fun r' f' hP => ?_)
  obtain ⟨rfl, hP⟩ := hP
  rcases hP with ⟨rfl, hfit⟩ | ⟨rfl, hfit⟩
  · refine x_ifne (t := 10) rfl rfl ⟨by omega, by omega⟩ (fun _ => ?_) (fun h => absurd h (by decide))
    refine x_iconst rfl ?_
    refine x_istore_n rfl (show (3 : Nat) < 5 from by decide) ?_
    exact xs_19l hn hl hfit 8 0 _ _ rfl (xst_ne (by decide) rfl (Or.inl rfl)) (xst_ne (by decide) rfl (Or.inr (by decide))) xst_eq (by simpa [xcn] using h51) h52 (fun p _ _ => rfl)
  · refine x_ifne (t := 10) rfl rfl ⟨by omega, by omega⟩ (fun h => absurd rfl h) (fun _ => ?_)
    refine x_iconst rfl ?_
    refine x_ireturn rfl (Or.inr (Or.inl ⟨rfl, by decide⟩)) ⟨_, _, rfl, rfl, ?_⟩
    exact Or.inl ⟨rfl, hfit, rfl⟩
abbrev xfc (d lf lc : Value) : zE := .inl (0, [.ref 51, .ref 53, .ref 109, .ref 113, .ref 117, .ref 122, .ref 171, .ref 173, .ref 175, .ref 176, d, lf, lc])
theorem xs_20 {v0 : Value} {xs : List Int32} {u : Nat × Nat} {f : Nat → zE} {g : Int64} {n : Int} {cs : List Int} {d lf lc : Value} (h50 : f 50 = xfc d lf lc) (h51 : f 51 = .inl (1, [.ref 52, xi n])) (h52 : f 52 = xr 1 cs) (hn : 0 ≤ n ∧ n ≤ 100) (hl : cs.length = 100) : xq v0 xs u 20 [(0, .ref 50), (1, .long g)] f (fun r f' => (r = some (xi 0) ∧ ¬ xfits g n ∧ f' = f) ∨ (r = some (xi 1) ∧ xfits g n ∧ f' 51 = .inl (1, [.ref 52, xi (n + xcn g 8)]) ∧ f' 52 = xr 1 (xwr g n cs 8) ∧ ∀ p, p ≠ 51 → p ≠ 52 → f' p = f p)) := by
  unfold xq
  refine x_aload_n rfl rfl ?_
  refine x_getfield rfl (by decide) h50 rfl ?_
  refine x_lload_n rfl rfl ?_
  refine x_call [_, _] rfl rfl (show (0 : Nat) ≤ 8 from by decide) (show (3 : Nat) ≤ 5 from by decide) (x_rcv (by decide) h51) (xs_19 h51 h52 hn hl) (fun r' f' hP => ?_)
  rcases hP with ⟨rfl, h1, h2⟩ | ⟨rfl, h1, h2⟩
  · refine x_ireturn rfl (Or.inr (Or.inl ⟨rfl, by decide⟩)) ⟨_, _, rfl, rfl, ?_⟩
    exact Or.inl ⟨rfl, h1, h2⟩
  · refine x_ireturn rfl (Or.inr (Or.inl ⟨rfl, by decide⟩)) ⟨_, _, rfl, rfl, ?_⟩
    exact Or.inr ⟨rfl, h1, h2⟩
theorem xs_22 {v0 : Value} {xs : List Int32} {u : Nat × Nat} {f : Nat → zE} {n : Int} (h51 : f 51 = .inl (1, [.ref 52, xi n])) : xq v0 xs u 22 [(0, .ref 51)] f (fun r f' => r = some (xi n) ∧ f' = xu f 51 (.inl (1, [.ref 52, xi 0]))) := by
  unfold xq
  refine x_aload_n rfl rfl ?_
  refine x_getfield rfl (by decide) h51 rfl ?_
  refine x_istore_n rfl (show (1 : Nat) < 2 from by decide) ?_
  refine x_aload_n rfl (xst_ne (by decide) rfl (Or.inl rfl)) ?_
  refine x_iconst rfl ?_
  refine x_putfield rfl (by decide) h51 (show (1 : Nat) < 2 from by decide) rfl ?_
  refine x_iload_n rfl xst_eq ?_
  refine x_ireturn rfl (Or.inl rfl) ⟨_, _, rfl, rfl, ?_⟩
  exact ⟨rfl, rfl⟩
theorem xs_23 {v0 : Value} {xs : List Int32} {u : Nat × Nat} {f : Nat → zE} {n : Int} {d lf lc : Value} (h50 : f 50 = xfc d lf lc) (h51 : f 51 = .inl (1, [.ref 52, xi n])) : xq v0 xs u 23 [(0, .ref 50)] f (fun r f' => r = some (xi n) ∧ f' = xu f 51 (.inl (1, [.ref 52, xi 0]))) := by
  unfold xq
  refine x_aload_n rfl rfl ?_
  refine x_getfield rfl (by decide) h50 rfl ?_
  refine x_call [_] rfl rfl (show (0 : Nat) ≤ 8 from by decide) (show (1 : Nat) ≤ 2 from by decide) (x_rcv (by decide) h51) (xs_22 h51) (fun r' f' hP => ?_)
  obtain ⟨rfl, rfl⟩ := hP
  refine x_ireturn rfl (Or.inl rfl) ⟨_, _, rfl, rfl, ?_⟩
  exact ⟨rfl, rfl⟩
/-- the model's object -/
abbrev xmo (cd ty fa ki be en : Int) (wo : Int64) (nu ca pa op : Int) (q : Nat → Value) : zE := .inl (10, [xi cd, xi ty, .ref 178, xi fa, xi ki, xi be, xi en, .long wo, xi nu, xi ca, .ref 179, .ref 180, .ref 181, .ref 182, .ref 183, .ref 184, xi pa, .ref 185, .ref 186, xi op, .ref 187, .ref 188, .ref 189, .ref 190, .ref 191, .ref 192, .ref 193, .ref 194, q 0, q 1, q 2, q 3, .ref 195, .ref 196, .ref 197, .ref 198, q 4, .ref 199, .ref 200, .ref 201, .ref 202])
theorem xs_24 {v0 : Value} {xs : List Int32} {u : Nat × Nat} {f : Nat → zE} {cd n fa ki be en nu ca pa op : Int} {wo : Int64} {q : Nat → Value} (h177 : f 177 = xmo cd n fa ki be en wo nu ca pa op q) : xq v0 xs u 24 [(0, .ref 177)] f (fun r f' => r = some (xi n) ∧ f' 177 = xmo 0 0 fa ki be en wo nu ca pa op q ∧ ∀ p, p ≠ 177 → f' p = f p) := by
  unfold xq
  refine x_aload_n rfl rfl ?_
  refine x_iconst rfl ?_
  refine x_putfield rfl (by decide) h177 (show (0 : Nat) < 41 from by decide) rfl ?_
  refine x_aload_n rfl rfl ?_
  refine x_getfield rfl (by decide) xu_eq rfl ?_
  refine x_istore_n rfl (show (1 : Nat) < 2 from by decide) ?_
  refine x_aload_n rfl (xst_ne (by decide) rfl (Or.inl rfl)) ?_
  refine x_iconst rfl ?_
  refine x_putfield rfl (by decide) xu_eq (show (1 : Nat) < 41 from by decide) rfl ?_
  refine x_iload_n rfl xst_eq ?_
  refine x_ireturn rfl (Or.inl rfl) ⟨_, _, rfl, rfl, ?_⟩
  exact ⟨rfl, xu_eq, fun p hp => xu_ne hp (xu_ne hp rfl)⟩
theorem xs_21m {v0 : Value} {xs : List Int32} {u : Nat × Nat} {f0 : Nat → zE} {g : Int64} {cs : List Int} {n fa ki be en nu ca pa op : Int} {wo : Int64} {q : Nat → Value} (hn : 0 ≤ n ∧ n ≤ 100) (hl : cs.length = 100) (hfit : xfits g n) : ∀ (d k : Nat) (lv : zL) (f : Nat → zE), d + k = 8 → zlv lv 0 = some (.ref 177) → zlv lv 1 = some (.long g) → zlv lv 4 = some (xi (k : Nat)) → f 177 = xmo 0 (n + xcn g k) fa ki be en wo nu ca pa op q → f 178 = xr 1 (xwr g n cs k) → (∀ p, p ≠ 177 → p ≠ 178 → f p = f0 p) → xz v0 xs u (fun o X => ∃ r f', o = .inl r ∧ X = (xh f', u) ∧ (fun r f' => (r = some (xi 0) ∧ ¬ xfits g n ∧ f' 177 = xmo 0 n fa ki be en wo nu ca pa op q ∧ ∀ p, p ≠ 177 → f' p = f0 p) ∨ (r = some (xi 1) ∧ xfits g n ∧ f' 177 = xmo 0 (n + xcn g 8) fa ki be en wo nu ca pa op q ∧ f' 178 = xr 1 (xwr g n cs 8) ∧ ∀ p, p ≠ 177 → p ≠ 178 → f' p = f0 p)) r f') 21 87 lv [] f := by
  intro d
  induction d with
  | zero =>
    intro k lv f hd h0 h1 h4 h177 h178 hfr
    have hcg := xcn_rg g k
    have hwl : (xwr g n cs k).length = 100 := by rw [xwr_len]; exact hl
    refine x_iload rfl h4 ?_
    refine x_bipush rfl (by decide) ?_
    refine x_cge (t := 141) rfl rfl ⟨by omega, by omega⟩ ⟨by omega, by omega⟩ (fun hb91 => ?_) (fun hb91 => ?_)
    · refine x_iconst rfl ?_
      refine x_ireturn rfl (Or.inr (Or.inl ⟨rfl, by decide⟩)) ⟨_, _, rfl, rfl, ?_⟩
      have hk8 : k = 8 := by omega
      subst hk8
      exact Or.inr ⟨rfl, hfit, h177, h178, hfr⟩
    · exfalso; omega
  | succ d ih =>
    intro k lv f hd h0 h1 h4 h177 h178 hfr
    have hcg := xcn_rg g k
    have hwl : (xwr g n cs k).length = 100 := by rw [xwr_len]; exact hl
    refine x_iload rfl h4 ?_
    refine x_bipush rfl (by decide) ?_
    refine x_cge (t := 141) rfl rfl ⟨by omega, by omega⟩ ⟨by omega, by omega⟩ (fun hb91 => ?_) (fun hb91 => ?_)
    · exfalso; omega
    · refine x_lload_n rfl h1 ?_
      refine x_bipush rfl (by decide) ?_
      refine x_iload rfl h4 ?_
      refine x_imul rfl ?_
      refine x_lushr rfl ?_
      refine x_ldc2 rfl ?_
      refine x_land rfl ?_
      refine x_l2iz rfl ?_
      rw [xby_m]
      have hby := xby_rg g (k : Nat)
      refine x_istore rfl (show (5 : Nat) < 6 from by decide) ?_
      have hm : xcn g (k + 1) ≤ xcn g 8 := by have := xcn_mono g (8 - (k + 1)) (k + 1); rw [show k + 1 + (8 - (k + 1)) = 8 by omega] at this; exact this
      refine x_iload rfl xst_eq ?_
      refine x_ifeq (t := 135) rfl rfl ⟨by omega, by omega⟩ (fun hb110 => ?_) (fun hb110 => ?_)
      · refine x_iinc rfl (xst_ne (by decide) h4 (Or.inl rfl)) (show (4 : Nat) < 6 from by decide) ?_
        refine x_goto (t := 87) rfl rfl ?_
        have hcn : xcn g (k + 1) = xcn g k := by simp only [xcn]; rw [if_pos hb110]; omega
        have hwr : xwr g n cs (k + 1) = xwr g n cs k := by simp only [xwr]; rw [if_pos hb110]
        exact ih (k + 1) _ _ (by omega) (xst_ne (by decide) (xst_ne (by decide) h0 (Or.inl rfl)) (Or.inl rfl)) (xst_ne (by decide) (xst_ne (by decide) h1 (Or.inr (by decide))) (Or.inr (by decide))) xst_eq (by rw [hcn]; exact h177) (by rw [hwr]; exact h178) hfr
      · have hcn1 : xcn g (k + 1) = xcn g k + 1 := by simp only [xcn]; rw [if_neg hb110]
        have hf2 := hfit.2
        refine x_aload_n rfl (xst_ne (by decide) h0 (Or.inl rfl)) ?_
        refine x_getfield rfl (by decide) h177 rfl ?_
        refine x_aload_n rfl (xst_ne (by decide) h0 (Or.inl rfl)) ?_
        refine x_getfield rfl (by decide) h177 rfl ?_
        refine x_iload rfl xst_eq ?_
        refine x_i2c rfl ⟨by omega, by omega⟩ ?_
        refine x_castore rfl (by decide) h178 ⟨by omega, by omega⟩ (by omega) (xnar (by omega) (by omega)) ?_
        refine x_aload_n rfl (xst_ne (by decide) h0 (Or.inl rfl)) ?_
        refine x_dup rfl ?_
        refine x_getfield rfl (by decide) (xu_ne (by decide) h177) rfl ?_
        refine x_iconst rfl ?_
        refine x_iadd rfl ?_
        refine x_putfield rfl (by decide) (xu_ne (by decide) h177) (show (1 : Nat) < 41 from by decide) rfl ?_
        refine x_iinc rfl (xst_ne (by decide) h4 (Or.inl rfl)) (show (4 : Nat) < 6 from by decide) ?_
        refine x_goto (t := 87) rfl rfl ?_
        have hcn : xcn g (k + 1) = xcn g k + 1 := by simp only [xcn]; rw [if_neg hb110]
        have hwr : xwr g n cs (k + 1) = (xwr g n cs k).set (n + xcn g k).toNat (xby g (k : Nat)) := by simp only [xwr]; rw [if_neg hb110]
        refine ih (k + 1) _ _ (by omega) (xst_ne (by decide) (xst_ne (by decide) h0 (Or.inl rfl)) (Or.inl rfl)) (xst_ne (by decide) (xst_ne (by decide) h1 (Or.inr (by decide))) (Or.inr (by decide))) xst_eq ?_ ?_ ?_
        · rw [hcn, ← Int.add_assoc]; exact xu_eq
        · rw [hwr]; exact (xu_ne (by decide) xu_eq)
        · intro p p1 p2; exact xu_ne p1 (xu_ne p2 (hfr p p1 p2))
theorem xs_21a {v0 : Value} {xs : List Int32} {u : Nat × Nat} {f f0 : Nat → zE} {g : Int64} {cs : List Int} {n fa ki be en nu ca pa op : Int} {wo : Int64} {q : Nat → Value} (hn : 0 ≤ n ∧ n ≤ 100) (hl : cs.length = 100) (h177 : f 177 = xmo 0 n fa ki be en wo nu ca pa op q) (h178 : f0 178 = xr 1 cs) (hfr : ∀ p, p ≠ 177 → f p = f0 p) : ∀ (d k : Nat) (lv : zL), d + k = 8 → zlv lv 0 = some (.ref 177) → zlv lv 1 = some (.long g) → zlv lv 4 = some (xi (k : Nat)) → zlv lv 3 = some (xi (xcn g k)) → xok g k → xz v0 xs u (fun o X => ∃ r f', o = .inl r ∧ X = (xh f', u) ∧ (fun r f' => (r = some (xi 0) ∧ ¬ xfits g n ∧ f' 177 = xmo 0 n fa ki be en wo nu ca pa op q ∧ ∀ p, p ≠ 177 → f' p = f0 p) ∨ (r = some (xi 1) ∧ xfits g n ∧ f' 177 = xmo 0 (n + xcn g 8) fa ki be en wo nu ca pa op q ∧ f' 178 = xr 1 (xwr g n cs 8) ∧ ∀ p, p ≠ 177 → p ≠ 178 → f' p = f0 p)) r f') 21 10 lv [] f := by
  intro d
  induction d with
  | zero =>
    intro k lv hd h0 h1 h4 h3 hok
    have hcg := xcn_rg g k
    refine x_iload rfl h4 ?_
    refine x_bipush rfl (by decide) ?_
    refine x_cge (t := 71) rfl rfl ⟨by omega, by omega⟩ ⟨by omega, by omega⟩ (fun hb14 => ?_) (fun hb14 => ?_)
    · have hk8 : k = 8 := by omega
      refine x_aload_n rfl h0 ?_
      refine x_getfield rfl (by decide) h177 rfl ?_
      refine x_iload_n rfl h3 ?_
      refine x_iadd rfl ?_
      refine x_bipush rfl (by decide) ?_
      refine x_cle (t := 84) rfl rfl ⟨by omega, by omega⟩ ⟨by omega, by omega⟩ (fun hb79 => ?_) (fun hb79 => ?_)
      · refine x_iconst rfl ?_
        refine x_istore rfl (show (4 : Nat) < 6 from by decide) ?_
        refine xs_21m hn hl ⟨by rw [← hk8]; exact hok, by rw [← hk8]; omega⟩ 8 0 _ _ rfl (xst_ne (by decide) h0 (Or.inl rfl)) (xst_ne (by decide) h1 (Or.inr (by decide))) xst_eq (by simpa [xcn] using h177) (by rw [hfr 178 (by decide)]; exact h178) (fun p p1 _ => hfr p p1)
      · refine x_iconst rfl ?_
        refine x_ireturn rfl (Or.inr (Or.inl ⟨rfl, by decide⟩)) ⟨_, _, rfl, rfl, ?_⟩
        exact Or.inl ⟨rfl, fun hx => by have h1 := hx.2; rw [hk8] at hb79; omega, h177, hfr⟩
    · exfalso; omega
  | succ d ih =>
    intro k lv hd h0 h1 h4 h3 hok
    have hcg := xcn_rg g k
    refine x_iload rfl h4 ?_
    refine x_bipush rfl (by decide) ?_
    refine x_cge (t := 71) rfl rfl ⟨by omega, by omega⟩ ⟨by omega, by omega⟩ (fun hb14 => ?_) (fun hb14 => ?_)
    · exfalso; omega
    · refine x_lload_n rfl h1 ?_
      refine x_bipush rfl (by decide) ?_
      refine x_iload rfl h4 ?_
      refine x_imul rfl ?_
      refine x_lushr rfl ?_
      refine x_ldc2 rfl ?_
      refine x_land rfl ?_
      refine x_l2iz rfl ?_
      rw [xby_m]
      have hby := xby_rg g (k : Nat)
      refine x_istore rfl (show (5 : Nat) < 6 from by decide) ?_
      refine x_iload rfl xst_eq ?_
      refine x_ifeq (t := 52) rfl rfl ⟨by omega, by omega⟩ (fun hb33 => ?_) (fun hb33 => ?_)
      · refine x_iload_n rfl (xst_ne (by decide) h3 (Or.inl rfl)) ?_
        refine x_iload rfl xst_eq ?_
        refine x_ifne (t := 62) rfl rfl ⟨by omega, by omega⟩ (fun hb55 => ?_) (fun hb55 => ?_)
        · exfalso; omega
        · refine x_iconst rfl ?_
          refine x_goto (t := 63) rfl rfl ?_
          refine x_iadd rfl ?_
          refine x_istore_n rfl (show (3 : Nat) < 6 from by decide) ?_
          refine x_iinc rfl (xst_ne (by decide) (xst_ne (by decide) h4 (Or.inl rfl)) (Or.inl rfl)) (show (4 : Nat) < 6 from by decide) ?_
          refine x_goto (t := 10) rfl rfl ?_
          have hcn : xcn g (k + 1) = xcn g k + 0 := by simp only [xcn]; rw [if_pos hb55]
          exact ih (k + 1) _ (by omega) (xst_ne (by decide) (xst_ne (by decide) (xst_ne (by decide) h0 (Or.inl rfl)) (Or.inl rfl)) (Or.inl rfl)) (xst_ne (by decide) (xst_ne (by decide) (xst_ne (by decide) h1 (Or.inr (by decide))) (Or.inr (by decide))) (Or.inr (by decide))) xst_eq (by rw [hcn]; exact (xst_ne (by decide) xst_eq (Or.inl rfl))) (xok_s hok (by omega))
      · refine x_iload rfl xst_eq ?_
        refine x_bipush rfl (by decide) ?_
        refine x_clt (t := 50) rfl rfl ⟨by omega, by omega⟩ ⟨by omega, by omega⟩ (fun hb40 => ?_) (fun hb40 => ?_)
        · refine x_iconst rfl ?_
          refine x_ireturn rfl (Or.inr (Or.inl ⟨rfl, by decide⟩)) ⟨_, _, rfl, rfl, ?_⟩
          exact Or.inl ⟨rfl, fun hx => by have h1 := hx.1 k (by omega); omega, h177, hfr⟩
        · refine x_iload rfl xst_eq ?_
          refine x_bipush rfl (by decide) ?_
          refine x_cle (t := 52) rfl rfl ⟨by omega, by omega⟩ ⟨by omega, by omega⟩ (fun hb47 => ?_) (fun hb47 => ?_)
          · refine x_iload_n rfl (xst_ne (by decide) h3 (Or.inl rfl)) ?_
            refine x_iload rfl xst_eq ?_
            refine x_ifne (t := 62) rfl rfl ⟨by omega, by omega⟩ (fun hb55 => ?_) (fun hb55 => ?_)
            · refine x_iconst rfl ?_
              refine x_iadd rfl ?_
              refine x_istore_n rfl (show (3 : Nat) < 6 from by decide) ?_
              refine x_iinc rfl (xst_ne (by decide) (xst_ne (by decide) h4 (Or.inl rfl)) (Or.inl rfl)) (show (4 : Nat) < 6 from by decide) ?_
              refine x_goto (t := 10) rfl rfl ?_
              have hcn : xcn g (k + 1) = xcn g k + 1 := by simp only [xcn]; rw [if_neg hb55]
              exact ih (k + 1) _ (by omega) (xst_ne (by decide) (xst_ne (by decide) (xst_ne (by decide) h0 (Or.inl rfl)) (Or.inl rfl)) (Or.inl rfl)) (xst_ne (by decide) (xst_ne (by decide) (xst_ne (by decide) h1 (Or.inr (by decide))) (Or.inr (by decide))) (Or.inr (by decide))) xst_eq (by rw [hcn]; exact (xst_ne (by decide) xst_eq (Or.inl rfl))) (xok_s hok (by omega))
            · exfalso; omega
          · refine x_iconst rfl ?_
            refine x_ireturn rfl (Or.inr (Or.inl ⟨rfl, by decide⟩)) ⟨_, _, rfl, rfl, ?_⟩
            exact Or.inl ⟨rfl, fun hx => by have h1 := hx.1 k (by omega); omega, h177, hfr⟩
theorem xs_21 {v0 : Value} {xs : List Int32} {u : Nat × Nat} {f : Nat → zE} {g : Int64} {cs : List Int} {cd n fa ki be en nu ca pa op : Int} {wo : Int64} {q : Nat → Value} (hn : 0 ≤ n ∧ n ≤ 100) (hl : cs.length = 100) (h177 : f 177 = xmo cd n fa ki be en wo nu ca pa op q) (h178 : f 178 = xr 1 cs) : xq v0 xs u 21 [(0, .ref 177), (1, .long g)] f (fun r f' => (r = some (xi 0) ∧ ¬ xfits g n ∧ f' 177 = xmo 0 n fa ki be en wo nu ca pa op q ∧ ∀ p, p ≠ 177 → f' p = f p) ∨ (r = some (xi 1) ∧ xfits g n ∧ f' 177 = xmo 0 (n + xcn g 8) fa ki be en wo nu ca pa op q ∧ f' 178 = xr 1 (xwr g n cs 8) ∧ ∀ p, p ≠ 177 → p ≠ 178 → f' p = f p)) := by
  unfold xq
  refine x_aload_n rfl rfl ?_
  refine x_iconst rfl ?_
  refine x_putfield rfl (by decide) h177 (show (0 : Nat) < 41 from by decide) rfl ?_
  refine x_iconst rfl ?_
  refine x_istore_n rfl (show (3 : Nat) < 6 from by decide) ?_
  refine x_iconst rfl ?_
  refine x_istore rfl (show (4 : Nat) < 6 from by decide) ?_
  exact xs_21a hn hl xu_eq h178 (fun p hp => xu_ne hp rfl) 8 0 _ rfl (xst_ne (by decide) (xst_ne (by decide) rfl (Or.inl rfl)) (Or.inl rfl)) (xst_ne (by decide) (xst_ne (by decide) rfl (Or.inr (by decide))) (Or.inr (by decide))) xst_eq (xst_ne (by decide) xst_eq (Or.inl rfl)) (fun j hj => absurd hj (Nat.not_lt_zero j))
