section
/-! The model's tokens. -/
theorem xbits_s : ∀ k : Nat, k < 8 → (Int64.ofInt (5 * (k : Nat)) &&& 63).toBitVec.smod 64 = BitVec.ofNat 64 (5 * k) := by decide
theorem xbits {w d : Int} {k : Nat} (hk : k < 8) (hw : 0 ≤ w ∧ w < 32 ^ k) (hd : 0 ≤ d ∧ d < 32) : Int64.ofInt w ||| (Int64.ofInt d <<< (Int64.ofInt (5 * (k : Nat)) &&& 63)) = Int64.ofInt (w + d * 32 ^ k) := by
  obtain ⟨W, rfl⟩ := Int.eq_ofNat_of_zero_le hw.1
  obtain ⟨D, rfl⟩ := Int.eq_ofNat_of_zero_le hd.1
  have h1 : W < 32 ^ k := by exact_mod_cast hw.2
  have h2 : D < 32 := by exact_mod_cast hd.2
  have e32 : (32 : Nat) ^ k = 2 ^ (5 * k) := by rw [Nat.pow_mul]
  have e : ((W : Nat) : Int) + ((D : Nat) : Int) * 32 ^ k = ((W + D * 32 ^ k : Nat) : Int) := by simp
  rw [e]
  apply Int64.toBitVec.inj
  rw [Int64.toBitVec_or, Int64.toBitVec_shiftLeft, xbits_s k hk]
  apply BitVec.eq_of_toNat_eq
  have hb : D * 2 ^ (5 * k) < 2 ^ 40 := by
    have h5 : 2 ^ (5 * k) ≤ 2 ^ 35 := Nat.pow_le_pow_right (by decide) (by omega)
    have h6 : D * 2 ^ (5 * k) ≤ 31 * 2 ^ 35 := Nat.mul_le_mul (by omega) h5
    omega
  have hW : W < 2 ^ 35 := by
    have h5 : 2 ^ (5 * k) ≤ 2 ^ 35 := Nat.pow_le_pow_right (by decide) (by omega)
    omega
  have hk64 : (5 * k) % 2 ^ 64 = 5 * k := Nat.mod_eq_of_lt (by omega)
  rw [e32] at h1 ⊢
  simp only [BitVec.toNat_or, BitVec.shiftLeft_eq', BitVec.toNat_shiftLeft, Int64.toBitVec_ofInt, BitVec.toNat_ofNat, BitVec.toNat_ofInt, hk64]
  have n1 : (((W : Nat) : Int) % (2 ^ 64 : Nat)).toNat = W := by omega
  have n2 : (((D : Nat) : Int) % (2 ^ 64 : Nat)).toNat = D := by omega
  have n3 : (((W + D * 2 ^ (5 * k) : Nat) : Int) % (2 ^ 64 : Nat)).toNat = W + D * 2 ^ (5 * k) := by omega
  rw [n1, n2, n3, Nat.shiftLeft_eq, Nat.mod_eq_of_lt (by omega), Nat.or_comm, ← Nat.shiftLeft_eq, ← Nat.shiftLeft_add_eq_or_of_lt h1, Nat.shiftLeft_eq, Nat.add_comm]
theorem xpr_app (l : List Int) (d : Int) : xpr (l ++ [d]) = xpr l + d * 32 ^ l.length := by
  induction l with
  | nil => simp [xpr]
  | cons x r ih =>
    simp only [List.cons_append, xpr, ih, List.length_cons, Int.pow_succ]
    rw [Int.mul_add, Int.mul_comm (32 ^ r.length) 32, ← Int.mul_assoc, ← Int.mul_assoc, Int.mul_comm d 32]
    omega
def xsgn (c : Int) : Prop := c = 61 ∨ c = 59 ∨ c = 44 ∨ c = 40 ∨ c = 41
/-- what the model knows of a token -/
def xTM (cs : List Int) (ki : Int) (s e : Nat) (kM : Int) (wo : Int64) (nu : Int) : Prop := (ki = 1 → wo = Int64.ofInt (xwR (xwd cs s e))) ∧ (ki = 2 → nu = (if e - s = 1 then cs.getD s 0 - 48 else 0)) ∧ (ki ≠ 3 → kM = ki) ∧ (ki = 3 → (xsgn (cs.getD s 0) ∧ kM = 3) ∨ (¬ xsgn (cs.getD s 0) ∧ kM = 4))
theorem xs_66 {v0 : Value} {xs : List Int32} {u : Nat × Nat} {f : Nat → zE} {n p : Nat} {cs : List Int} {cd fa ki be en nu ca pa op : Int} {wo : Int64} {q : Nat → Value} (h177 : f 177 = xmo cd (n : Nat) fa ki be en wo nu ca pa op q) (h178 : f 178 = xr 1 cs) (hn : n ≤ 100) (hl : cs.length = 100) (hcs : ∀ j : Nat, 0 ≤ cs.getD j 0 ∧ cs.getD j 0 ≤ 126) (hp : p ≤ 200) : xq v0 xs u 66 [(0, .ref 177), (1, xi (p : Nat))] f (fun r f' => r = some (xi (if p < n then cs.getD p 0 else 0)) ∧ f' = f) := by
  unfold xq
  have hc := hcs p
  refine x_iload_n rfl rfl ?_
  refine x_aload_n rfl rfl ?_
  refine x_getfield rfl (by decide) h177 rfl ?_
  refine x_cge (t := 17) rfl rfl ⟨by omega, by omega⟩ ⟨by omega, by omega⟩ (fun hb5 => ?_) (fun hb5 => ?_)
  · refine x_iconst rfl ?_
    refine x_ireturn rfl (Or.inr (Or.inr (Or.inl ⟨rfl, x_char (by omega) (by omega)⟩))) ⟨_, _, rfl, rfl, ?_⟩
    exact ⟨by rw [if_neg (by omega)], rfl⟩
  · refine x_aload_n rfl rfl ?_
    refine x_getfield rfl (by decide) h177 rfl ?_
    refine x_iload_n rfl rfl ?_
    refine x_caload rfl (by decide) h178 ⟨by omega, by rw [hl]; omega⟩ (by omega) ?_
    rw [Int.toNat_natCast]
    refine x_goto (t := 18) rfl rfl ?_
    refine x_ireturn rfl (Or.inr (Or.inr (Or.inl ⟨rfl, x_char (by omega) (by omega)⟩))) ⟨_, _, rfl, rfl, ?_⟩
    exact ⟨by rw [if_pos (by omega)], rfl⟩
theorem xs_67 {v0 : Value} {xs : List Int32} {u : Nat × Nat} {f : Nat → zE} {c : Int} (hc : 0 ≤ c ∧ c ≤ 1000) : xq v0 xs u 67 [(0, xi c)] f (fun r f' => r = some (xi (if 97 ≤ c ∧ c ≤ 122 then 1 else 0)) ∧ f' = f) := by
  unfold xq
  refine x_iload_n rfl rfl ?_
  refine x_bipush rfl (by decide) ?_
  refine x_clt (t := 16) rfl rfl ⟨by omega, by omega⟩ ⟨by omega, by omega⟩ (fun hb3 => ?_) (fun hb3 => ?_)
  · refine x_iconst rfl ?_
    refine x_ireturn rfl (Or.inr (Or.inl ⟨rfl, by decide⟩)) ⟨_, _, rfl, rfl, ?_⟩
    exact ⟨by rw [if_neg (by omega)], rfl⟩
  · refine x_iload_n rfl rfl ?_
    refine x_bipush rfl (by decide) ?_
    refine x_cgt (t := 16) rfl rfl ⟨by omega, by omega⟩ ⟨by omega, by omega⟩ (fun hb9 => ?_) (fun hb9 => ?_)
    · refine x_iconst rfl ?_
      refine x_ireturn rfl (Or.inr (Or.inl ⟨rfl, by decide⟩)) ⟨_, _, rfl, rfl, ?_⟩
      exact ⟨by rw [if_neg (by omega)], rfl⟩
    · refine x_iconst rfl ?_
      refine x_goto (t := 17) rfl rfl ?_
      refine x_ireturn rfl (Or.inr (Or.inl ⟨rfl, by decide⟩)) ⟨_, _, rfl, rfl, ?_⟩
      exact ⟨by rw [if_pos (by omega)], rfl⟩
theorem xs_68 {v0 : Value} {xs : List Int32} {u : Nat × Nat} {f : Nat → zE} {c : Int} (hc : 0 ≤ c ∧ c ≤ 1000) : xq v0 xs u 68 [(0, xi c)] f (fun r f' => r = some (xi (if 48 ≤ c ∧ c ≤ 57 then 1 else 0)) ∧ f' = f) := by
  unfold xq
  refine x_iload_n rfl rfl ?_
  refine x_bipush rfl (by decide) ?_
  refine x_clt (t := 16) rfl rfl ⟨by omega, by omega⟩ ⟨by omega, by omega⟩ (fun hb3 => ?_) (fun hb3 => ?_)
  · refine x_iconst rfl ?_
    refine x_ireturn rfl (Or.inr (Or.inl ⟨rfl, by decide⟩)) ⟨_, _, rfl, rfl, ?_⟩
    exact ⟨by rw [if_neg (by omega)], rfl⟩
  · refine x_iload_n rfl rfl ?_
    refine x_bipush rfl (by decide) ?_
    refine x_cgt (t := 16) rfl rfl ⟨by omega, by omega⟩ ⟨by omega, by omega⟩ (fun hb9 => ?_) (fun hb9 => ?_)
    · refine x_iconst rfl ?_
      refine x_ireturn rfl (Or.inr (Or.inl ⟨rfl, by decide⟩)) ⟨_, _, rfl, rfl, ?_⟩
      exact ⟨by rw [if_neg (by omega)], rfl⟩
    · refine x_iconst rfl ?_
      refine x_goto (t := 17) rfl rfl ?_
      refine x_ireturn rfl (Or.inr (Or.inl ⟨rfl, by decide⟩)) ⟨_, _, rfl, rfl, ?_⟩
      exact ⟨by rw [if_pos (by omega)], rfl⟩
theorem xs_69w {v0 : Value} {xs : List Int32} {u : Nat × Nat} {f0 : Nat → zE} {p0 s n : Nat} {cs : List Int} {cd fa nu ca pa op : Int} {q : Nat → Value} {lv : zL} (hn : n ≤ 100) (hl : cs.length = 100) (hcs : ∀ j : Nat, 0 ≤ cs.getD j 0 ∧ cs.getD j 0 ≤ 126) (l0 : zlv lv 0 = some (.ref 177)) (hs0 : s = xskip xbl cs n p0) (hsn : s < n) (hsl : xlt (cs.getD s 0) = true) : ∀ (d j : Nat) (f : Nat → zE), d + j = n → s ≤ j → j ≤ n → f 177 = xmo cd (n : Nat) fa 1 (s : Nat) (j : Nat) (Int64.ofInt (xwR (xwd cs s j))) nu ca pa op q → f 178 = xr 1 cs → xskip xlt cs n j = xskip xlt cs n s → (∀ p, p ≠ 177 → f p = f0 p) → xz v0 xs u (fun o X => ∃ r f', o = .inl r ∧ X = (xh f', u) ∧ (fun r f' => r = none ∧ (∃ (ki : Int) (s e : Nat) (kM : Int) (wo' : Int64) (nu' : Int), f' 177 = xmo cd (n : Nat) fa kM (s : Nat) (e : Nat) wo' nu' ca pa op q ∧ xTK cs n p0 ki s e ∧ xTM cs ki s e kM wo' nu') ∧ ∀ p, p ≠ 177 → f' p = f0 p) r f') 69 87 lv [] f := by
  intro d
  induction d with
  | zero =>
    intro j f hd hj hjn h177 h178 hsk hfr
    have hch := hcs j
    refine x_aload_n rfl l0 ?_
    refine x_aload_n rfl l0 ?_
    refine x_getfield rfl (by decide) h177 rfl ?_
    refine x_call [_, _] rfl rfl (show (0 : Nat) ≤ 8 from by decide) (show (2 : Nat) ≤ 2 from by decide) (x_rcv (by decide) h177) (xs_66 h177 h178 hn hl hcs (p := j) (by omega)) (fun r' f' hP => ?_)
    obtain ⟨rfl, rfl⟩ := hP
    refine x_call [_] rfl rfl (show (0 : Nat) ≤ 8 from by decide) (show (1 : Nat) ≤ 1 from by decide) rfl (xs_67 (by split <;> omega)) (fun r' f' hP => ?_)
    obtain ⟨rfl, rfl⟩ := hP
    refine x_ifeq (t := 294) rfl rfl (by (repeat' split) <;> omega) (fun hb98 => ?_) (fun hb98 => ?_)
    · refine x_return rfl ⟨_, _, rfl, rfl, ?_⟩
      have hse : xskip xlt cs n s = j := by rw [← hsk]; exact xskip_e (fun h => by have h1 := xlt_iff.mp h.2; rw [if_pos h.1, if_pos ⟨h1.1, h1.2⟩] at hb98; exact absurd hb98 (by decide))
      exact ⟨rfl, ⟨1, s, j, 1, _, nu, h177, ⟨hs0, Or.inr (Or.inl ⟨hsn, hsl, rfl, hse.symm⟩)⟩, ⟨fun _ => rfl, fun h => absurd h (by decide), fun _ => rfl, fun h => absurd h (by decide)⟩⟩, hfr⟩
    · exfalso
      rw [if_neg (by omega)] at hb98
      exact hb98 rfl
  | succ d ih =>
    intro j f hd hj hjn h177 h178 hsk hfr
    have hch := hcs j
    have hin : ∀ i, s ≤ i → i < j → xlt (cs.getD i 0) = true := fun i h1 h2 => xskip_in (n := n) h1 (by have : j ≤ xskip xlt cs n j := xskip_ge; omega)
    refine x_aload_n rfl l0 ?_
    refine x_aload_n rfl l0 ?_
    refine x_getfield rfl (by decide) h177 rfl ?_
    refine x_call [_, _] rfl rfl (show (0 : Nat) ≤ 8 from by decide) (show (2 : Nat) ≤ 2 from by decide) (x_rcv (by decide) h177) (xs_66 h177 h178 hn hl hcs (p := j) (by omega)) (fun r' f' hP => ?_)
    obtain ⟨rfl, rfl⟩ := hP
    refine x_call [_] rfl rfl (show (0 : Nat) ≤ 8 from by decide) (show (1 : Nat) ≤ 1 from by decide) rfl (xs_67 (by split <;> omega)) (fun r' f' hP => ?_)
    obtain ⟨rfl, rfl⟩ := hP
    refine x_ifeq (t := 294) rfl rfl (by (repeat' split) <;> omega) (fun hb98 => ?_) (fun hb98 => ?_)
    · refine x_return rfl ⟨_, _, rfl, rfl, ?_⟩
      have hse : xskip xlt cs n s = j := by rw [← hsk]; exact xskip_e (fun h => by have h1 := xlt_iff.mp h.2; rw [if_pos h.1, if_pos ⟨h1.1, h1.2⟩] at hb98; exact absurd hb98 (by decide))
      exact ⟨rfl, ⟨1, s, j, 1, _, nu, h177, ⟨hs0, Or.inr (Or.inl ⟨hsn, hsl, rfl, hse.symm⟩)⟩, ⟨fun _ => rfl, fun h => absurd h (by decide), fun _ => rfl, fun h => absurd h (by decide)⟩⟩, hfr⟩
    · have hjn : j < n := by
        by_cases hx : j < n
        · exact hx
        · rw [if_neg hx] at hb98; exact absurd rfl hb98
      rw [if_pos hjn] at hb98
      have hlt : 97 ≤ cs.getD j 0 ∧ cs.getD j 0 ≤ 122 := by
        by_cases hx : 97 ≤ cs.getD j 0 ∧ cs.getD j 0 ≤ 122
        · exact hx
        · rw [if_neg hx] at hb98; exact absurd rfl hb98
      refine x_aload_n rfl l0 ?_
      refine x_aload_n rfl l0 ?_
      refine x_getfield rfl (by decide) h177 rfl ?_
      refine x_aload_n rfl l0 ?_
      refine x_getfield rfl (by decide) h177 rfl ?_
      refine x_isub rfl ?_
      refine x_bipush rfl (by decide) ?_
      refine x_cge (t := 159) rfl rfl ⟨by omega, by omega⟩ ⟨by omega, by omega⟩ (fun hb113 => ?_) (fun hb113 => ?_)
      · refine x_ldc2 rfl ?_
        refine x_putfield rfl (by decide) h177 (show (7 : Nat) < 41 from by decide) rfl ?_
        refine x_aload_n rfl l0 ?_
        refine x_dup rfl ?_
        refine x_getfield rfl (by decide) xu_eq rfl ?_
        refine x_iconst rfl ?_
        refine x_iadd rfl ?_
        refine x_putfield rfl (by decide) xu_eq (show (6 : Nat) < 41 from by decide) rfl ?_
        refine x_goto (t := 87) rfl rfl ?_
        refine ih (j + 1) _ (by omega) (by omega) (by omega) ?_ ?_ ?_ ?_
        · have ew : xwd cs s (j + 1) = none := by unfold xwd; rw [if_pos (by omega)]
          rw [ew]
          exact xu_eq
        · exact (xu_ne (by decide) (xu_ne (by decide) h178))
        · rw [← xskip_s (by omega) (xlt_iff.mpr hlt)]; exact hsk
        · intro p hp; exact xu_ne hp (xu_ne hp (hfr p hp))
      · refine x_aload_n rfl l0 ?_
        refine x_getfield rfl (by decide) h177 rfl ?_
        refine x_lconst rfl ?_
        refine x_lcmp rfl ?_
        refine x_llt (t := 159) rfl rfl (fun hb122 => ?_) (fun hb122 => ?_)
        · exfalso
          have ew : xwd cs s j = some (xds cs s (j - s)) := by unfold xwd; rw [if_neg (by omega)]
          have hlen : (xds cs s (j - s)).length = j - s := by simp [xds]
          have hx : xlw (xds cs s (j - s)) := by
            intro d hd
            obtain ⟨i, h1, rfl⟩ := List.mem_map.mp hd
            have h2 := xlt_iff.mp (hin (s + i) (by omega) (by have := List.mem_range.mp h1; omega))
            omega
          have h8 := xpr_8 hx (by rw [hlen]; omega)
          rw [ew, Int64.lt_iff_toInt_lt] at hb122
          have h7 : (Int64.ofInt (xwR (some (xds cs s (j - s))))).toInt = xpr (xds cs s (j - s)) := Int64.toInt_ofInt_of_le (by simp only [xwR]; omega) (by simp only [xwR]; omega)
          rw [h7] at hb122
          have h9 : xpr (xds cs s (j - s)) < 0 := hb122
          omega
        · refine x_aload_n rfl l0 ?_
          refine x_getfield rfl (by decide) h177 rfl ?_
          refine x_aload_n rfl l0 ?_
          refine x_aload_n rfl l0 ?_
          refine x_getfield rfl (by decide) h177 rfl ?_
          refine x_call [_, _] rfl rfl (show (3 : Nat) ≤ 8 from by decide) (show (2 : Nat) ≤ 2 from by decide) (x_rcv (by decide) h177) (xs_66 h177 h178 hn hl hcs (p := j) (by omega)) (fun r' f' hP => ?_)
          obtain ⟨rfl, rfl⟩ := hP
          rw [if_pos hjn]
          refine x_bipush rfl (by decide) ?_
          refine x_isub rfl ?_
          refine x_iconst rfl ?_
          refine x_iadd rfl ?_
          refine x_i2l rfl ?_
          refine x_iconst rfl ?_
          refine x_aload_n rfl l0 ?_
          refine x_getfield rfl (by decide) h177 rfl ?_
          refine x_aload_n rfl l0 ?_
          refine x_getfield rfl (by decide) h177 rfl ?_
          refine x_isub rfl ?_
          refine x_imul rfl ?_
          refine x_lshl rfl ?_
          refine x_lor rfl ?_
          refine x_goto (t := 162) rfl rfl ?_
          refine x_putfield rfl (by decide) h177 (show (7 : Nat) < 41 from by decide) rfl ?_
          refine x_aload_n rfl l0 ?_
          refine x_dup rfl ?_
          refine x_getfield rfl (by decide) xu_eq rfl ?_
          refine x_iconst rfl ?_
          refine x_iadd rfl ?_
          refine x_putfield rfl (by decide) xu_eq (show (6 : Nat) < 41 from by decide) rfl ?_
          refine x_goto (t := 87) rfl rfl ?_
          refine ih (j + 1) _ (by omega) (by omega) (by omega) ?_ ?_ ?_ ?_
          · have ew : xwd cs s j = some (xds cs s (j - s)) := by unfold xwd; rw [if_neg (by omega)]
            have ew2 : xwd cs s (j + 1) = some (xds cs s (j - s) ++ [cs.getD j 0 - 96]) := by
              unfold xwd
              rw [if_neg (by omega), show j + 1 - s = (j - s) + 1 by omega]
              unfold xds
              rw [List.range_succ, List.map_append]
              simp only [List.map_cons, List.map_nil, show s + (j - s) = j by omega]
            have hlen : (xds cs s (j - s)).length = j - s := by simp [xds]
            have hx : xlw (xds cs s (j - s)) := by
              intro d hd
              obtain ⟨i, h1, rfl⟩ := List.mem_map.mp hd
              have h2 := xlt_iff.mp (hin (s + i) (by omega) (by have := List.mem_range.mp h1; omega))
              omega
            have hr := xpr_rg hx
            rw [hlen] at hr
            have hbit := xbits (w := xpr (xds cs s (j - s))) (d := cs.getD j 0 - 96) (k := j - s) (by omega) hr (by omega)
            have e2 : xwR (xwd cs s (j + 1)) = xpr (xds cs s (j - s)) + (cs.getD j 0 - 96) * 32 ^ (j - s) := by rw [ew2]; simp only [xwR]; rw [xpr_app, hlen]
            rw [e2, ← hbit]
            have e3 : xwR (xwd cs s j) = xpr (xds cs s (j - s)) := by rw [ew]; rfl
            rw [← e3]
            have e5 : ((j : Nat) : Int) - ((s : Nat) : Int) = ((j - s : Nat) : Int) := by omega
            refine Eq.trans xu_eq ?_
            rw [xi_l (by omega) (by omega), e5, xi_l (by omega) (by omega), show cs.getD j 0 - 97 + 1 = cs.getD j 0 - 96 by omega]
            rfl
          · exact (xu_ne (by decide) (xu_ne (by decide) h178))
          · rw [← xskip_s (by omega) (xlt_iff.mpr hlt)]; exact hsk
          · intro p hp; exact xu_ne hp (xu_ne hp (hfr p hp))
theorem xs_69n {v0 : Value} {xs : List Int32} {u : Nat × Nat} {f0 : Nat → zE} {p0 s n : Nat} {cs : List Int} {cd fa nu ca pa op : Int} {wo : Int64} {q : Nat → Value} {lv : zL} (hn : n ≤ 100) (hl : cs.length = 100) (hcs : ∀ j : Nat, 0 ≤ cs.getD j 0 ∧ cs.getD j 0 ≤ 126) (l0 : zlv lv 0 = some (.ref 177)) (l1 : zlv lv 1 = some (xi (cs.getD s 0))) (hs0 : s = xskip xbl cs n p0) (hsn : s < n) (hsl : xlt (cs.getD s 0) = false) (hsd : xdg (cs.getD s 0) = true) : ∀ (d j : Nat) (f : Nat → zE), d + j = n → s ≤ j → j ≤ n → f 177 = xmo cd (n : Nat) fa 2 (s : Nat) (j : Nat) wo nu ca pa op q → f 178 = xr 1 cs → xskip xdg cs n j = xskip xdg cs n s → (∀ p, p ≠ 177 → f p = f0 p) → xz v0 xs u (fun o X => ∃ r f', o = .inl r ∧ X = (xh f', u) ∧ (fun r f' => r = none ∧ (∃ (ki : Int) (s e : Nat) (kM : Int) (wo' : Int64) (nu' : Int), f' 177 = xmo cd (n : Nat) fa kM (s : Nat) (e : Nat) wo' nu' ca pa op q ∧ xTK cs n p0 ki s e ∧ xTM cs ki s e kM wo' nu') ∧ ∀ p, p ≠ 177 → f' p = f0 p) r f') 69 190 lv [] f := by
  have hch0 := hcs s
  intro d
  induction d with
  | zero =>
    intro j f hd hj hjn h177 h178 hsk hfr
    have hch := hcs j
    refine x_aload_n rfl l0 ?_
    refine x_aload_n rfl l0 ?_
    refine x_getfield rfl (by decide) h177 rfl ?_
    refine x_call [_, _] rfl rfl (show (0 : Nat) ≤ 8 from by decide) (show (2 : Nat) ≤ 2 from by decide) (x_rcv (by decide) h177) (xs_66 h177 h178 hn hl hcs (p := j) (by omega)) (fun r' f' hP => ?_)
    obtain ⟨rfl, rfl⟩ := hP
    refine x_call [_] rfl rfl (show (0 : Nat) ≤ 8 from by decide) (show (1 : Nat) ≤ 1 from by decide) rfl (xs_68 (by split <;> omega)) (fun r' f' hP => ?_)
    obtain ⟨rfl, rfl⟩ := hP
    refine x_ifeq (t := 217) rfl rfl (by (repeat' split) <;> omega) (fun hb201 => ?_) (fun hb201 => ?_)
    · refine x_aload_n rfl l0 ?_
      refine x_aload_n rfl l0 ?_
      refine x_getfield rfl (by decide) h177 rfl ?_
      refine x_aload_n rfl l0 ?_
      refine x_getfield rfl (by decide) h177 rfl ?_
      refine x_isub rfl ?_
      refine x_iconst rfl ?_
      refine x_cne (t := 238) rfl rfl ⟨by omega, by omega⟩ ⟨by omega, by omega⟩ (fun hb228 => ?_) (fun hb228 => ?_)
      · refine x_iconst rfl ?_
        refine x_putfield rfl (by decide) h177 (show (8 : Nat) < 41 from by decide) rfl ?_
        refine x_goto (t := 294) rfl rfl ?_
        refine x_return rfl ⟨_, _, rfl, rfl, ?_⟩
        have hse : xskip xdg cs n s = j := by rw [← hsk]; exact xskip_e (fun h => by have h1 := xdg_iff.mp h.2; rw [if_pos h.1, if_pos ⟨h1.1, h1.2⟩] at hb201; exact absurd hb201 (by decide))
        exact ⟨rfl, ⟨2, s, j, 2, wo, _, xu_eq, ⟨hs0, Or.inr (Or.inr (Or.inl ⟨hsn, hsl, hsd, rfl, hse.symm⟩))⟩, ⟨fun h => absurd h (by decide), fun _ => by rw [if_neg (by omega)], fun _ => rfl, fun h => absurd h (by decide)⟩⟩, fun p hp => xu_ne hp (hfr p hp)⟩
      · refine x_iload_n rfl l1 ?_
        refine x_bipush rfl (by decide) ?_
        refine x_isub rfl ?_
        refine x_goto (t := 239) rfl rfl ?_
        refine x_putfield rfl (by decide) h177 (show (8 : Nat) < 41 from by decide) rfl ?_
        refine x_goto (t := 294) rfl rfl ?_
        refine x_return rfl ⟨_, _, rfl, rfl, ?_⟩
        have hse : xskip xdg cs n s = j := by rw [← hsk]; exact xskip_e (fun h => by have h1 := xdg_iff.mp h.2; rw [if_pos h.1, if_pos ⟨h1.1, h1.2⟩] at hb201; exact absurd hb201 (by decide))
        exact ⟨rfl, ⟨2, s, j, 2, wo, _, xu_eq, ⟨hs0, Or.inr (Or.inr (Or.inl ⟨hsn, hsl, hsd, rfl, hse.symm⟩))⟩, ⟨fun h => absurd h (by decide), fun _ => by rw [if_pos (by omega)], fun _ => rfl, fun h => absurd h (by decide)⟩⟩, fun p hp => xu_ne hp (hfr p hp)⟩
    · exfalso
      rw [if_neg (by omega)] at hb201
      exact hb201 rfl
  | succ d ih =>
    intro j f hd hj hjn h177 h178 hsk hfr
    have hch := hcs j
    refine x_aload_n rfl l0 ?_
    refine x_aload_n rfl l0 ?_
    refine x_getfield rfl (by decide) h177 rfl ?_
    refine x_call [_, _] rfl rfl (show (0 : Nat) ≤ 8 from by decide) (show (2 : Nat) ≤ 2 from by decide) (x_rcv (by decide) h177) (xs_66 h177 h178 hn hl hcs (p := j) (by omega)) (fun r' f' hP => ?_)
    obtain ⟨rfl, rfl⟩ := hP
    refine x_call [_] rfl rfl (show (0 : Nat) ≤ 8 from by decide) (show (1 : Nat) ≤ 1 from by decide) rfl (xs_68 (by split <;> omega)) (fun r' f' hP => ?_)
    obtain ⟨rfl, rfl⟩ := hP
    refine x_ifeq (t := 217) rfl rfl (by (repeat' split) <;> omega) (fun hb201 => ?_) (fun hb201 => ?_)
    · refine x_aload_n rfl l0 ?_
      refine x_aload_n rfl l0 ?_
      refine x_getfield rfl (by decide) h177 rfl ?_
      refine x_aload_n rfl l0 ?_
      refine x_getfield rfl (by decide) h177 rfl ?_
      refine x_isub rfl ?_
      refine x_iconst rfl ?_
      refine x_cne (t := 238) rfl rfl ⟨by omega, by omega⟩ ⟨by omega, by omega⟩ (fun hb228 => ?_) (fun hb228 => ?_)
      · refine x_iconst rfl ?_
        refine x_putfield rfl (by decide) h177 (show (8 : Nat) < 41 from by decide) rfl ?_
        refine x_goto (t := 294) rfl rfl ?_
        refine x_return rfl ⟨_, _, rfl, rfl, ?_⟩
        have hse : xskip xdg cs n s = j := by rw [← hsk]; exact xskip_e (fun h => by have h1 := xdg_iff.mp h.2; rw [if_pos h.1, if_pos ⟨h1.1, h1.2⟩] at hb201; exact absurd hb201 (by decide))
        exact ⟨rfl, ⟨2, s, j, 2, wo, _, xu_eq, ⟨hs0, Or.inr (Or.inr (Or.inl ⟨hsn, hsl, hsd, rfl, hse.symm⟩))⟩, ⟨fun h => absurd h (by decide), fun _ => by rw [if_neg (by omega)], fun _ => rfl, fun h => absurd h (by decide)⟩⟩, fun p hp => xu_ne hp (hfr p hp)⟩
      · refine x_iload_n rfl l1 ?_
        refine x_bipush rfl (by decide) ?_
        refine x_isub rfl ?_
        refine x_goto (t := 239) rfl rfl ?_
        refine x_putfield rfl (by decide) h177 (show (8 : Nat) < 41 from by decide) rfl ?_
        refine x_goto (t := 294) rfl rfl ?_
        refine x_return rfl ⟨_, _, rfl, rfl, ?_⟩
        have hse : xskip xdg cs n s = j := by rw [← hsk]; exact xskip_e (fun h => by have h1 := xdg_iff.mp h.2; rw [if_pos h.1, if_pos ⟨h1.1, h1.2⟩] at hb201; exact absurd hb201 (by decide))
        exact ⟨rfl, ⟨2, s, j, 2, wo, _, xu_eq, ⟨hs0, Or.inr (Or.inr (Or.inl ⟨hsn, hsl, hsd, rfl, hse.symm⟩))⟩, ⟨fun h => absurd h (by decide), fun _ => by rw [if_pos (by omega)], fun _ => rfl, fun h => absurd h (by decide)⟩⟩, fun p hp => xu_ne hp (hfr p hp)⟩
    · have hjn : j < n := by
        by_cases hx : j < n
        · exact hx
        · rw [if_neg hx] at hb201; exact absurd rfl hb201
      rw [if_pos hjn] at hb201
      have hlt : 48 ≤ cs.getD j 0 ∧ cs.getD j 0 ≤ 57 := by
        by_cases hx : 48 ≤ cs.getD j 0 ∧ cs.getD j 0 ≤ 57
        · exact hx
        · rw [if_neg hx] at hb201; exact absurd rfl hb201
      refine x_aload_n rfl l0 ?_
      refine x_dup rfl ?_
      refine x_getfield rfl (by decide) h177 rfl ?_
      refine x_iconst rfl ?_
      refine x_iadd rfl ?_
      refine x_putfield rfl (by decide) h177 (show (6 : Nat) < 41 from by decide) rfl ?_
      refine x_goto (t := 190) rfl rfl ?_
      refine ih (j + 1) _ (by omega) (by omega) (by omega) ?_ ?_ ?_ ?_
      · exact xu_eq
      · exact (xu_ne (by decide) h178)
      · rw [← xskip_s (by omega) (xdg_iff.mpr hlt)]; exact hsk
      · intro p hp; exact xu_ne hp (hfr p hp)
theorem xs_69l {v0 : Value} {xs : List Int32} {u : Nat × Nat} {f0 : Nat → zE} {p0 n : Nat} {cs : List Int} {cd fa ki en nu ca pa op : Int} {wo : Int64} {q : Nat → Value} {lv : zL} (hn : n ≤ 100) (hl : cs.length = 100) (hcs : ∀ j : Nat, 0 ≤ cs.getD j 0 ∧ cs.getD j 0 ≤ 126) (l0 : zlv lv 0 = some (.ref 177)) : ∀ (d j : Nat) (f : Nat → zE), d + j = n → j ≤ n → f 177 = xmo cd (n : Nat) fa ki (j : Nat) en wo nu ca pa op q → f 178 = xr 1 cs → xskip xbl cs n j = xskip xbl cs n p0 → (∀ p, p ≠ 177 → f p = f0 p) → xz v0 xs u (fun o X => ∃ r f', o = .inl r ∧ X = (xh f', u) ∧ (fun r f' => r = none ∧ (∃ (ki : Int) (s e : Nat) (kM : Int) (wo' : Int64) (nu' : Int), f' 177 = xmo cd (n : Nat) fa kM (s : Nat) (e : Nat) wo' nu' ca pa op q ∧ xTK cs n p0 ki s e ∧ xTM cs ki s e kM wo' nu') ∧ ∀ p, p ≠ 177 → f' p = f0 p) r f') 69 8 lv [] f := by
  intro d
  induction d with
  | zero =>
    intro j f hd hjn0 h177 h178 hsk hfr
    have hch := hcs j
    refine x_aload_n rfl l0 ?_
    refine x_aload_n rfl l0 ?_
    refine x_getfield rfl (by decide) h177 rfl ?_
    refine x_call [_, _] rfl rfl (show (0 : Nat) ≤ 8 from by decide) (show (2 : Nat) ≤ 2 from by decide) (x_rcv (by decide) h177) (xs_66 h177 h178 hn hl hcs (p := j) (by omega)) (fun r' f' hP => ?_)
    obtain ⟨rfl, rfl⟩ := hP
    refine x_bipush rfl (by decide) ?_
    refine x_cne (t := 34) rfl rfl (by split <;> omega) ⟨by omega, by omega⟩ (fun hb18 => ?_) (fun hb18 => ?_)
    · have hse : j = xskip xbl cs n p0 := by rw [← hsk]; exact (xskip_e (fun h => by have h1 := xbl_iff.mp h.2; rw [if_pos h.1] at hb18; exact hb18 h1)).symm
      refine x_aload_n rfl l0 ?_
      refine x_aload_n rfl l0 ?_
      refine x_getfield rfl (by decide) h177 rfl ?_
      refine x_putfield rfl (by decide) h177 (show (6 : Nat) < 41 from by decide) rfl ?_
      refine x_aload_n rfl l0 ?_
      refine x_aload_n rfl l0 ?_
      refine x_getfield rfl (by decide) xu_eq rfl ?_
      refine x_call [_, _] rfl rfl (show (0 : Nat) ≤ 8 from by decide) (show (2 : Nat) ≤ 2 from by decide) (x_rcv (by decide) xu_eq) (xs_66 xu_eq (xu_ne (by decide) h178) hn hl hcs (p := j) (by omega)) (fun r' f' hP => ?_)
      obtain ⟨rfl, rfl⟩ := hP
      refine x_istore_n rfl (show (1 : Nat) < 2 from by decide) ?_
      refine x_aload_n rfl (xst_ne (by decide) l0 (Or.inl rfl)) ?_
      refine x_getfield rfl (by decide) xu_eq rfl ?_
      refine x_aload_n rfl (xst_ne (by decide) l0 (Or.inl rfl)) ?_
      refine x_getfield rfl (by decide) xu_eq rfl ?_
      refine x_clt (t := 70) rfl rfl ⟨by omega, by omega⟩ ⟨by omega, by omega⟩ (fun hb59 => ?_) (fun hb59 => ?_)
      · have hjn : j < n := by omega
        refine x_iload_n rfl xst_eq ?_
        refine x_call [_] rfl rfl (show (0 : Nat) ≤ 8 from by decide) (show (1 : Nat) ≤ 1 from by decide) rfl (xs_67 (by split <;> omega)) (fun r' f' hP => ?_)
        obtain ⟨rfl, rfl⟩ := hP
        refine x_ifeq (t := 178) rfl rfl (by (repeat' split) <;> omega) (fun hb74 => ?_) (fun hb74 => ?_)
        · rw [if_pos hjn] at hb74
          have hnl : xlt (cs.getD j 0) = false := by
            cases hx : xlt (cs.getD j 0) with
            | false => rfl
            | true => rw [if_pos (xlt_iff.mp hx)] at hb74; exact absurd hb74 (by decide)
          refine x_iload_n rfl xst_eq ?_
          refine x_call [_] rfl rfl (show (0 : Nat) ≤ 8 from by decide) (show (1 : Nat) ≤ 1 from by decide) rfl (xs_68 (by split <;> omega)) (fun r' f' hP => ?_)
          obtain ⟨rfl, rfl⟩ := hP
          refine x_ifeq (t := 245) rfl rfl (by (repeat' split) <;> omega) (fun hb182 => ?_) (fun hb182 => ?_)
          · rw [if_pos hjn] at hb182
            have hnd : xdg (cs.getD j 0) = false := by
              cases hx : xdg (cs.getD j 0) with
              | false => rfl
              | true => rw [if_pos (xdg_iff.mp hx)] at hb182; exact absurd hb182 (by decide)
            rw [if_pos hjn]
            refine x_aload_n rfl (xst_ne (by decide) l0 (Or.inl rfl)) ?_
            refine x_iload_n rfl xst_eq ?_
            refine x_bipush rfl (by decide) ?_
            refine x_ceq (t := 276) rfl rfl ⟨by omega, by omega⟩ ⟨by omega, by omega⟩ (fun hb249 => ?_) (fun hb249 => ?_)
            · refine x_iconst rfl ?_
              refine x_goto (t := 281) rfl rfl ?_
              refine x_putfield rfl (by decide) xu_eq (show (4 : Nat) < 41 from by decide) rfl ?_
              refine x_aload_n rfl (xst_ne (by decide) l0 (Or.inl rfl)) ?_
              refine x_dup rfl ?_
              refine x_getfield rfl (by decide) xu_eq rfl ?_
              refine x_iconst rfl ?_
              refine x_iadd rfl ?_
              refine x_putfield rfl (by decide) xu_eq (show (6 : Nat) < 41 from by decide) rfl ?_
              refine x_return rfl ⟨_, _, rfl, rfl, ?_⟩
              exact ⟨rfl, ⟨3, j, j + 1, 3, wo, nu, xu_eq, ⟨hse, Or.inr (Or.inr (Or.inr ⟨hjn, hnl, hnd, rfl, rfl⟩))⟩, ⟨fun h => absurd h (by decide), fun h => absurd h (by decide), fun h => absurd rfl h, fun _ => Or.inl ⟨by unfold xsgn; omega, rfl⟩⟩⟩, fun p hp => xu_ne hp (xu_ne hp (xu_ne hp (hfr p hp)))⟩
            · refine x_iload_n rfl xst_eq ?_
              refine x_bipush rfl (by decide) ?_
              refine x_ceq (t := 276) rfl rfl ⟨by omega, by omega⟩ ⟨by omega, by omega⟩ (fun hb255 => ?_) (fun hb255 => ?_)
              · refine x_iconst rfl ?_
                refine x_goto (t := 281) rfl rfl ?_
                refine x_putfield rfl (by decide) xu_eq (show (4 : Nat) < 41 from by decide) rfl ?_
                refine x_aload_n rfl (xst_ne (by decide) l0 (Or.inl rfl)) ?_
                refine x_dup rfl ?_
                refine x_getfield rfl (by decide) xu_eq rfl ?_
                refine x_iconst rfl ?_
                refine x_iadd rfl ?_
                refine x_putfield rfl (by decide) xu_eq (show (6 : Nat) < 41 from by decide) rfl ?_
                refine x_return rfl ⟨_, _, rfl, rfl, ?_⟩
                exact ⟨rfl, ⟨3, j, j + 1, 3, wo, nu, xu_eq, ⟨hse, Or.inr (Or.inr (Or.inr ⟨hjn, hnl, hnd, rfl, rfl⟩))⟩, ⟨fun h => absurd h (by decide), fun h => absurd h (by decide), fun h => absurd rfl h, fun _ => Or.inl ⟨by unfold xsgn; omega, rfl⟩⟩⟩, fun p hp => xu_ne hp (xu_ne hp (xu_ne hp (hfr p hp)))⟩
              · refine x_iload_n rfl xst_eq ?_
                refine x_bipush rfl (by decide) ?_
                refine x_ceq (t := 276) rfl rfl ⟨by omega, by omega⟩ ⟨by omega, by omega⟩ (fun hb261 => ?_) (fun hb261 => ?_)
                · refine x_iconst rfl ?_
                  refine x_goto (t := 281) rfl rfl ?_
                  refine x_putfield rfl (by decide) xu_eq (show (4 : Nat) < 41 from by decide) rfl ?_
                  refine x_aload_n rfl (xst_ne (by decide) l0 (Or.inl rfl)) ?_
                  refine x_dup rfl ?_
                  refine x_getfield rfl (by decide) xu_eq rfl ?_
                  refine x_iconst rfl ?_
                  refine x_iadd rfl ?_
                  refine x_putfield rfl (by decide) xu_eq (show (6 : Nat) < 41 from by decide) rfl ?_
                  refine x_return rfl ⟨_, _, rfl, rfl, ?_⟩
                  exact ⟨rfl, ⟨3, j, j + 1, 3, wo, nu, xu_eq, ⟨hse, Or.inr (Or.inr (Or.inr ⟨hjn, hnl, hnd, rfl, rfl⟩))⟩, ⟨fun h => absurd h (by decide), fun h => absurd h (by decide), fun h => absurd rfl h, fun _ => Or.inl ⟨by unfold xsgn; omega, rfl⟩⟩⟩, fun p hp => xu_ne hp (xu_ne hp (xu_ne hp (hfr p hp)))⟩
                · refine x_iload_n rfl xst_eq ?_
                  refine x_bipush rfl (by decide) ?_
                  refine x_ceq (t := 276) rfl rfl ⟨by omega, by omega⟩ ⟨by omega, by omega⟩ (fun hb267 => ?_) (fun hb267 => ?_)
                  · refine x_iconst rfl ?_
                    refine x_goto (t := 281) rfl rfl ?_
                    refine x_putfield rfl (by decide) xu_eq (show (4 : Nat) < 41 from by decide) rfl ?_
                    refine x_aload_n rfl (xst_ne (by decide) l0 (Or.inl rfl)) ?_
                    refine x_dup rfl ?_
                    refine x_getfield rfl (by decide) xu_eq rfl ?_
                    refine x_iconst rfl ?_
                    refine x_iadd rfl ?_
                    refine x_putfield rfl (by decide) xu_eq (show (6 : Nat) < 41 from by decide) rfl ?_
                    refine x_return rfl ⟨_, _, rfl, rfl, ?_⟩
                    exact ⟨rfl, ⟨3, j, j + 1, 3, wo, nu, xu_eq, ⟨hse, Or.inr (Or.inr (Or.inr ⟨hjn, hnl, hnd, rfl, rfl⟩))⟩, ⟨fun h => absurd h (by decide), fun h => absurd h (by decide), fun h => absurd rfl h, fun _ => Or.inl ⟨by unfold xsgn; omega, rfl⟩⟩⟩, fun p hp => xu_ne hp (xu_ne hp (xu_ne hp (hfr p hp)))⟩
                  · refine x_iload_n rfl xst_eq ?_
                    refine x_bipush rfl (by decide) ?_
                    refine x_cne (t := 280) rfl rfl ⟨by omega, by omega⟩ ⟨by omega, by omega⟩ (fun hb273 => ?_) (fun hb273 => ?_)
                    · refine x_iconst rfl ?_
                      refine x_putfield rfl (by decide) xu_eq (show (4 : Nat) < 41 from by decide) rfl ?_
                      refine x_aload_n rfl (xst_ne (by decide) l0 (Or.inl rfl)) ?_
                      refine x_dup rfl ?_
                      refine x_getfield rfl (by decide) xu_eq rfl ?_
                      refine x_iconst rfl ?_
                      refine x_iadd rfl ?_
                      refine x_putfield rfl (by decide) xu_eq (show (6 : Nat) < 41 from by decide) rfl ?_
                      refine x_return rfl ⟨_, _, rfl, rfl, ?_⟩
                      exact ⟨rfl, ⟨3, j, j + 1, 4, wo, nu, xu_eq, ⟨hse, Or.inr (Or.inr (Or.inr ⟨hjn, hnl, hnd, rfl, rfl⟩))⟩, ⟨fun h => absurd h (by decide), fun h => absurd h (by decide), fun h => absurd rfl h, fun _ => Or.inr ⟨by unfold xsgn; omega, rfl⟩⟩⟩, fun p hp => xu_ne hp (xu_ne hp (xu_ne hp (hfr p hp)))⟩
                    · refine x_iconst rfl ?_
                      refine x_goto (t := 281) rfl rfl ?_
                      refine x_putfield rfl (by decide) xu_eq (show (4 : Nat) < 41 from by decide) rfl ?_
                      refine x_aload_n rfl (xst_ne (by decide) l0 (Or.inl rfl)) ?_
                      refine x_dup rfl ?_
                      refine x_getfield rfl (by decide) xu_eq rfl ?_
                      refine x_iconst rfl ?_
                      refine x_iadd rfl ?_
                      refine x_putfield rfl (by decide) xu_eq (show (6 : Nat) < 41 from by decide) rfl ?_
                      refine x_return rfl ⟨_, _, rfl, rfl, ?_⟩
                      exact ⟨rfl, ⟨3, j, j + 1, 3, wo, nu, xu_eq, ⟨hse, Or.inr (Or.inr (Or.inr ⟨hjn, hnl, hnd, rfl, rfl⟩))⟩, ⟨fun h => absurd h (by decide), fun h => absurd h (by decide), fun h => absurd rfl h, fun _ => Or.inl ⟨by unfold xsgn; omega, rfl⟩⟩⟩, fun p hp => xu_ne hp (xu_ne hp (xu_ne hp (hfr p hp)))⟩
          · rw [if_pos hjn] at hb182
            have hdg : xdg (cs.getD j 0) = true := by
              by_cases hx : 48 ≤ cs.getD j 0 ∧ cs.getD j 0 ≤ 57
              · exact xdg_iff.mpr hx
              · rw [if_neg hx] at hb182; exact absurd rfl hb182
            rw [if_pos hjn]
            refine x_aload_n rfl (xst_ne (by decide) l0 (Or.inl rfl)) ?_
            refine x_iconst rfl ?_
            refine x_putfield rfl (by decide) xu_eq (show (4 : Nat) < 41 from by decide) rfl ?_
            exact xs_69n hn hl hcs (xst_ne (by decide) l0 (Or.inl rfl)) xst_eq hse hjn hnl hdg (n - j) j _ (by omega) (Nat.le_refl _) (by omega) xu_eq (xu_ne (by decide) (xu_ne (by decide) h178)) rfl (fun p hp => xu_ne hp (xu_ne hp (hfr p hp)))
        · rw [if_pos hjn] at hb74
          have hlt : xlt (cs.getD j 0) = true := by
            by_cases hx : 97 ≤ cs.getD j 0 ∧ cs.getD j 0 ≤ 122
            · exact xlt_iff.mpr hx
            · rw [if_neg hx] at hb74; exact absurd rfl hb74
          refine x_aload_n rfl (xst_ne (by decide) l0 (Or.inl rfl)) ?_
          refine x_iconst rfl ?_
          refine x_putfield rfl (by decide) xu_eq (show (4 : Nat) < 41 from by decide) rfl ?_
          refine x_aload_n rfl (xst_ne (by decide) l0 (Or.inl rfl)) ?_
          refine x_lconst rfl ?_
          refine x_putfield rfl (by decide) xu_eq (show (7 : Nat) < 41 from by decide) rfl ?_
          exact xs_69w hn hl hcs (xst_ne (by decide) l0 (Or.inl rfl)) hse hjn hlt (n - j) j _ (by omega) (Nat.le_refl _) (by omega) (by rw [show xwd cs j j = some [] by unfold xwd xds; rw [if_neg (by omega), Nat.sub_self]; rfl]; exact xu_eq) (xu_ne (by decide) (xu_ne (by decide) (xu_ne (by decide) h178))) rfl (fun p hp => xu_ne hp (xu_ne hp (xu_ne hp (hfr p hp))))
      · refine x_aload_n rfl (xst_ne (by decide) l0 (Or.inl rfl)) ?_
        refine x_iconst rfl ?_
        refine x_putfield rfl (by decide) xu_eq (show (4 : Nat) < 41 from by decide) rfl ?_
        refine x_goto (t := 294) rfl rfl ?_
        refine x_return rfl ⟨_, _, rfl, rfl, ?_⟩
        exact ⟨rfl, ⟨0, j, j, 0, wo, nu, xu_eq, ⟨hse, Or.inl ⟨by omega, rfl, by omega⟩⟩, ⟨fun h => absurd h (by decide), fun h => absurd h (by decide), fun _ => rfl, fun h => absurd h (by decide)⟩⟩, fun p hp => xu_ne hp (xu_ne hp (hfr p hp))⟩
    · exfalso
      rw [if_neg (by omega)] at hb18
      omega
  | succ d ih =>
    intro j f hd hjn0 h177 h178 hsk hfr
    have hch := hcs j
    refine x_aload_n rfl l0 ?_
    refine x_aload_n rfl l0 ?_
    refine x_getfield rfl (by decide) h177 rfl ?_
    refine x_call [_, _] rfl rfl (show (0 : Nat) ≤ 8 from by decide) (show (2 : Nat) ≤ 2 from by decide) (x_rcv (by decide) h177) (xs_66 h177 h178 hn hl hcs (p := j) (by omega)) (fun r' f' hP => ?_)
    obtain ⟨rfl, rfl⟩ := hP
    refine x_bipush rfl (by decide) ?_
    refine x_cne (t := 34) rfl rfl (by split <;> omega) ⟨by omega, by omega⟩ (fun hb18 => ?_) (fun hb18 => ?_)
    · have hse : j = xskip xbl cs n p0 := by rw [← hsk]; exact (xskip_e (fun h => by have h1 := xbl_iff.mp h.2; rw [if_pos h.1] at hb18; exact hb18 h1)).symm
      refine x_aload_n rfl l0 ?_
      refine x_aload_n rfl l0 ?_
      refine x_getfield rfl (by decide) h177 rfl ?_
      refine x_putfield rfl (by decide) h177 (show (6 : Nat) < 41 from by decide) rfl ?_
      refine x_aload_n rfl l0 ?_
      refine x_aload_n rfl l0 ?_
      refine x_getfield rfl (by decide) xu_eq rfl ?_
      refine x_call [_, _] rfl rfl (show (0 : Nat) ≤ 8 from by decide) (show (2 : Nat) ≤ 2 from by decide) (x_rcv (by decide) xu_eq) (xs_66 xu_eq (xu_ne (by decide) h178) hn hl hcs (p := j) (by omega)) (fun r' f' hP => ?_)
      obtain ⟨rfl, rfl⟩ := hP
      refine x_istore_n rfl (show (1 : Nat) < 2 from by decide) ?_
      refine x_aload_n rfl (xst_ne (by decide) l0 (Or.inl rfl)) ?_
      refine x_getfield rfl (by decide) xu_eq rfl ?_
      refine x_aload_n rfl (xst_ne (by decide) l0 (Or.inl rfl)) ?_
      refine x_getfield rfl (by decide) xu_eq rfl ?_
      refine x_clt (t := 70) rfl rfl ⟨by omega, by omega⟩ ⟨by omega, by omega⟩ (fun hb59 => ?_) (fun hb59 => ?_)
      · have hjn : j < n := by omega
        refine x_iload_n rfl xst_eq ?_
        refine x_call [_] rfl rfl (show (0 : Nat) ≤ 8 from by decide) (show (1 : Nat) ≤ 1 from by decide) rfl (xs_67 (by split <;> omega)) (fun r' f' hP => ?_)
        obtain ⟨rfl, rfl⟩ := hP
        refine x_ifeq (t := 178) rfl rfl (by (repeat' split) <;> omega) (fun hb74 => ?_) (fun hb74 => ?_)
        · rw [if_pos hjn] at hb74
          have hnl : xlt (cs.getD j 0) = false := by
            cases hx : xlt (cs.getD j 0) with
            | false => rfl
            | true => rw [if_pos (xlt_iff.mp hx)] at hb74; exact absurd hb74 (by decide)
          refine x_iload_n rfl xst_eq ?_
          refine x_call [_] rfl rfl (show (0 : Nat) ≤ 8 from by decide) (show (1 : Nat) ≤ 1 from by decide) rfl (xs_68 (by split <;> omega)) (fun r' f' hP => ?_)
          obtain ⟨rfl, rfl⟩ := hP
          refine x_ifeq (t := 245) rfl rfl (by (repeat' split) <;> omega) (fun hb182 => ?_) (fun hb182 => ?_)
          · rw [if_pos hjn] at hb182
            have hnd : xdg (cs.getD j 0) = false := by
              cases hx : xdg (cs.getD j 0) with
              | false => rfl
              | true => rw [if_pos (xdg_iff.mp hx)] at hb182; exact absurd hb182 (by decide)
            rw [if_pos hjn]
            refine x_aload_n rfl (xst_ne (by decide) l0 (Or.inl rfl)) ?_
            refine x_iload_n rfl xst_eq ?_
            refine x_bipush rfl (by decide) ?_
            refine x_ceq (t := 276) rfl rfl ⟨by omega, by omega⟩ ⟨by omega, by omega⟩ (fun hb249 => ?_) (fun hb249 => ?_)
            · refine x_iconst rfl ?_
              refine x_goto (t := 281) rfl rfl ?_
              refine x_putfield rfl (by decide) xu_eq (show (4 : Nat) < 41 from by decide) rfl ?_
              refine x_aload_n rfl (xst_ne (by decide) l0 (Or.inl rfl)) ?_
              refine x_dup rfl ?_
              refine x_getfield rfl (by decide) xu_eq rfl ?_
              refine x_iconst rfl ?_
              refine x_iadd rfl ?_
              refine x_putfield rfl (by decide) xu_eq (show (6 : Nat) < 41 from by decide) rfl ?_
              refine x_return rfl ⟨_, _, rfl, rfl, ?_⟩
              exact ⟨rfl, ⟨3, j, j + 1, 3, wo, nu, xu_eq, ⟨hse, Or.inr (Or.inr (Or.inr ⟨hjn, hnl, hnd, rfl, rfl⟩))⟩, ⟨fun h => absurd h (by decide), fun h => absurd h (by decide), fun h => absurd rfl h, fun _ => Or.inl ⟨by unfold xsgn; omega, rfl⟩⟩⟩, fun p hp => xu_ne hp (xu_ne hp (xu_ne hp (hfr p hp)))⟩
            · refine x_iload_n rfl xst_eq ?_
              refine x_bipush rfl (by decide) ?_
              refine x_ceq (t := 276) rfl rfl ⟨by omega, by omega⟩ ⟨by omega, by omega⟩ (fun hb255 => ?_) (fun hb255 => ?_)
              · refine x_iconst rfl ?_
                refine x_goto (t := 281) rfl rfl ?_
                refine x_putfield rfl (by decide) xu_eq (show (4 : Nat) < 41 from by decide) rfl ?_
                refine x_aload_n rfl (xst_ne (by decide) l0 (Or.inl rfl)) ?_
                refine x_dup rfl ?_
                refine x_getfield rfl (by decide) xu_eq rfl ?_
                refine x_iconst rfl ?_
                refine x_iadd rfl ?_
                refine x_putfield rfl (by decide) xu_eq (show (6 : Nat) < 41 from by decide) rfl ?_
                refine x_return rfl ⟨_, _, rfl, rfl, ?_⟩
                exact ⟨rfl, ⟨3, j, j + 1, 3, wo, nu, xu_eq, ⟨hse, Or.inr (Or.inr (Or.inr ⟨hjn, hnl, hnd, rfl, rfl⟩))⟩, ⟨fun h => absurd h (by decide), fun h => absurd h (by decide), fun h => absurd rfl h, fun _ => Or.inl ⟨by unfold xsgn; omega, rfl⟩⟩⟩, fun p hp => xu_ne hp (xu_ne hp (xu_ne hp (hfr p hp)))⟩
              · refine x_iload_n rfl xst_eq ?_
                refine x_bipush rfl (by decide) ?_
                refine x_ceq (t := 276) rfl rfl ⟨by omega, by omega⟩ ⟨by omega, by omega⟩ (fun hb261 => ?_) (fun hb261 => ?_)
                · refine x_iconst rfl ?_
                  refine x_goto (t := 281) rfl rfl ?_
                  refine x_putfield rfl (by decide) xu_eq (show (4 : Nat) < 41 from by decide) rfl ?_
                  refine x_aload_n rfl (xst_ne (by decide) l0 (Or.inl rfl)) ?_
                  refine x_dup rfl ?_
                  refine x_getfield rfl (by decide) xu_eq rfl ?_
                  refine x_iconst rfl ?_
                  refine x_iadd rfl ?_
                  refine x_putfield rfl (by decide) xu_eq (show (6 : Nat) < 41 from by decide) rfl ?_
                  refine x_return rfl ⟨_, _, rfl, rfl, ?_⟩
                  exact ⟨rfl, ⟨3, j, j + 1, 3, wo, nu, xu_eq, ⟨hse, Or.inr (Or.inr (Or.inr ⟨hjn, hnl, hnd, rfl, rfl⟩))⟩, ⟨fun h => absurd h (by decide), fun h => absurd h (by decide), fun h => absurd rfl h, fun _ => Or.inl ⟨by unfold xsgn; omega, rfl⟩⟩⟩, fun p hp => xu_ne hp (xu_ne hp (xu_ne hp (hfr p hp)))⟩
                · refine x_iload_n rfl xst_eq ?_
                  refine x_bipush rfl (by decide) ?_
                  refine x_ceq (t := 276) rfl rfl ⟨by omega, by omega⟩ ⟨by omega, by omega⟩ (fun hb267 => ?_) (fun hb267 => ?_)
                  · refine x_iconst rfl ?_
                    refine x_goto (t := 281) rfl rfl ?_
                    refine x_putfield rfl (by decide) xu_eq (show (4 : Nat) < 41 from by decide) rfl ?_
                    refine x_aload_n rfl (xst_ne (by decide) l0 (Or.inl rfl)) ?_
                    refine x_dup rfl ?_
                    refine x_getfield rfl (by decide) xu_eq rfl ?_
                    refine x_iconst rfl ?_
                    refine x_iadd rfl ?_
                    refine x_putfield rfl (by decide) xu_eq (show (6 : Nat) < 41 from by decide) rfl ?_
                    refine x_return rfl ⟨_, _, rfl, rfl, ?_⟩
                    exact ⟨rfl, ⟨3, j, j + 1, 3, wo, nu, xu_eq, ⟨hse, Or.inr (Or.inr (Or.inr ⟨hjn, hnl, hnd, rfl, rfl⟩))⟩, ⟨fun h => absurd h (by decide), fun h => absurd h (by decide), fun h => absurd rfl h, fun _ => Or.inl ⟨by unfold xsgn; omega, rfl⟩⟩⟩, fun p hp => xu_ne hp (xu_ne hp (xu_ne hp (hfr p hp)))⟩
                  · refine x_iload_n rfl xst_eq ?_
                    refine x_bipush rfl (by decide) ?_
                    refine x_cne (t := 280) rfl rfl ⟨by omega, by omega⟩ ⟨by omega, by omega⟩ (fun hb273 => ?_) (fun hb273 => ?_)
                    · refine x_iconst rfl ?_
                      refine x_putfield rfl (by decide) xu_eq (show (4 : Nat) < 41 from by decide) rfl ?_
                      refine x_aload_n rfl (xst_ne (by decide) l0 (Or.inl rfl)) ?_
                      refine x_dup rfl ?_
                      refine x_getfield rfl (by decide) xu_eq rfl ?_
                      refine x_iconst rfl ?_
                      refine x_iadd rfl ?_
                      refine x_putfield rfl (by decide) xu_eq (show (6 : Nat) < 41 from by decide) rfl ?_
                      refine x_return rfl ⟨_, _, rfl, rfl, ?_⟩
                      exact ⟨rfl, ⟨3, j, j + 1, 4, wo, nu, xu_eq, ⟨hse, Or.inr (Or.inr (Or.inr ⟨hjn, hnl, hnd, rfl, rfl⟩))⟩, ⟨fun h => absurd h (by decide), fun h => absurd h (by decide), fun h => absurd rfl h, fun _ => Or.inr ⟨by unfold xsgn; omega, rfl⟩⟩⟩, fun p hp => xu_ne hp (xu_ne hp (xu_ne hp (hfr p hp)))⟩
                    · refine x_iconst rfl ?_
                      refine x_goto (t := 281) rfl rfl ?_
                      refine x_putfield rfl (by decide) xu_eq (show (4 : Nat) < 41 from by decide) rfl ?_
                      refine x_aload_n rfl (xst_ne (by decide) l0 (Or.inl rfl)) ?_
                      refine x_dup rfl ?_
                      refine x_getfield rfl (by decide) xu_eq rfl ?_
                      refine x_iconst rfl ?_
                      refine x_iadd rfl ?_
                      refine x_putfield rfl (by decide) xu_eq (show (6 : Nat) < 41 from by decide) rfl ?_
                      refine x_return rfl ⟨_, _, rfl, rfl, ?_⟩
                      exact ⟨rfl, ⟨3, j, j + 1, 3, wo, nu, xu_eq, ⟨hse, Or.inr (Or.inr (Or.inr ⟨hjn, hnl, hnd, rfl, rfl⟩))⟩, ⟨fun h => absurd h (by decide), fun h => absurd h (by decide), fun h => absurd rfl h, fun _ => Or.inl ⟨by unfold xsgn; omega, rfl⟩⟩⟩, fun p hp => xu_ne hp (xu_ne hp (xu_ne hp (hfr p hp)))⟩
          · rw [if_pos hjn] at hb182
            have hdg : xdg (cs.getD j 0) = true := by
              by_cases hx : 48 ≤ cs.getD j 0 ∧ cs.getD j 0 ≤ 57
              · exact xdg_iff.mpr hx
              · rw [if_neg hx] at hb182; exact absurd rfl hb182
            rw [if_pos hjn]
            refine x_aload_n rfl (xst_ne (by decide) l0 (Or.inl rfl)) ?_
            refine x_iconst rfl ?_
            refine x_putfield rfl (by decide) xu_eq (show (4 : Nat) < 41 from by decide) rfl ?_
            exact xs_69n hn hl hcs (xst_ne (by decide) l0 (Or.inl rfl)) xst_eq hse hjn hnl hdg (n - j) j _ (by omega) (Nat.le_refl _) (by omega) xu_eq (xu_ne (by decide) (xu_ne (by decide) h178)) rfl (fun p hp => xu_ne hp (xu_ne hp (hfr p hp)))
        · rw [if_pos hjn] at hb74
          have hlt : xlt (cs.getD j 0) = true := by
            by_cases hx : 97 ≤ cs.getD j 0 ∧ cs.getD j 0 ≤ 122
            · exact xlt_iff.mpr hx
            · rw [if_neg hx] at hb74; exact absurd rfl hb74
          refine x_aload_n rfl (xst_ne (by decide) l0 (Or.inl rfl)) ?_
          refine x_iconst rfl ?_
          refine x_putfield rfl (by decide) xu_eq (show (4 : Nat) < 41 from by decide) rfl ?_
          refine x_aload_n rfl (xst_ne (by decide) l0 (Or.inl rfl)) ?_
          refine x_lconst rfl ?_
          refine x_putfield rfl (by decide) xu_eq (show (7 : Nat) < 41 from by decide) rfl ?_
          exact xs_69w hn hl hcs (xst_ne (by decide) l0 (Or.inl rfl)) hse hjn hlt (n - j) j _ (by omega) (Nat.le_refl _) (by omega) (by rw [show xwd cs j j = some [] by unfold xwd xds; rw [if_neg (by omega), Nat.sub_self]; rfl]; exact xu_eq) (xu_ne (by decide) (xu_ne (by decide) (xu_ne (by decide) h178))) rfl (fun p hp => xu_ne hp (xu_ne hp (xu_ne hp (hfr p hp))))
      · refine x_aload_n rfl (xst_ne (by decide) l0 (Or.inl rfl)) ?_
        refine x_iconst rfl ?_
        refine x_putfield rfl (by decide) xu_eq (show (4 : Nat) < 41 from by decide) rfl ?_
        refine x_goto (t := 294) rfl rfl ?_
        refine x_return rfl ⟨_, _, rfl, rfl, ?_⟩
        exact ⟨rfl, ⟨0, j, j, 0, wo, nu, xu_eq, ⟨hse, Or.inl ⟨by omega, rfl, by omega⟩⟩, ⟨fun h => absurd h (by decide), fun h => absurd h (by decide), fun _ => rfl, fun h => absurd h (by decide)⟩⟩, fun p hp => xu_ne hp (xu_ne hp (hfr p hp))⟩
    · have hjn : j < n := by
        by_cases hx : j < n
        · exact hx
        · rw [if_neg hx] at hb18; omega
      rw [if_pos hjn] at hb18
      refine x_aload_n rfl l0 ?_
      refine x_dup rfl ?_
      refine x_getfield rfl (by decide) h177 rfl ?_
      refine x_iconst rfl ?_
      refine x_iadd rfl ?_
      refine x_putfield rfl (by decide) h177 (show (5 : Nat) < 41 from by decide) rfl ?_
      refine x_goto (t := 8) rfl rfl ?_
      refine ih (j + 1) _ (by omega) (by omega) ?_ ?_ ?_ ?_
      · exact xu_eq
      · exact (xu_ne (by decide) h178)
      · rw [← xskip_s (by omega) (xbl_iff.mpr hb18)]; exact hsk
      · intro p hp; exact xu_ne hp (hfr p hp)
theorem xs_69 {v0 : Value} {xs : List Int32} {u : Nat × Nat} {f : Nat → zE} {n p0 : Nat} {cs : List Int} {cd fa ki be nu ca pa op : Int} {wo : Int64} {q : Nat → Value} (h177 : f 177 = xmo cd (n : Nat) fa ki be (p0 : Nat) wo nu ca pa op q) (h178 : f 178 = xr 1 cs) (hn : n ≤ 100) (hl : cs.length = 100) (hcs : ∀ j : Nat, 0 ≤ cs.getD j 0 ∧ cs.getD j 0 ≤ 126) (hp0 : p0 ≤ n) : xq v0 xs u 69 [(0, .ref 177)] f (fun r f' => r = none ∧ (∃ (ki : Int) (s e : Nat) (kM : Int) (wo' : Int64) (nu' : Int), f' 177 = xmo cd (n : Nat) fa kM (s : Nat) (e : Nat) wo' nu' ca pa op q ∧ xTK cs n p0 ki s e ∧ xTM cs ki s e kM wo' nu') ∧ ∀ p, p ≠ 177 → f' p = f p) := by
  unfold xq
  refine x_aload_n rfl rfl ?_
  refine x_aload_n rfl rfl ?_
  refine x_getfield rfl (by decide) h177 rfl ?_
  refine x_putfield rfl (by decide) h177 (show (5 : Nat) < 41 from by decide) rfl ?_
  exact xs_69l hn hl hcs rfl (n - p0) p0 _ (by omega) hp0 xu_eq (xu_ne (by decide) h178) rfl (fun p hp => xu_ne hp rfl)
theorem xs_70 {v0 : Value} {xs : List Int32} {u : Nat × Nat} {f : Nat → zE} (k : Nat) (hk : k < 13) : xq v0 xs u 70 [(0, xi (k : Nat))] f (fun r f' => r = some (.long (Int64.ofInt (xpr (selW.getD k [])))) ∧ f' = f) := by
  unfold xq
  match k, hk with
  | 0, _ => exact x_iload_n rfl rfl (x_sw (t := 68) rfl (by decide) rfl rfl (x_ldc2 rfl (x_lreturn rfl ⟨_, _, rfl, rfl, rfl, rfl⟩)))
  | 1, _ => exact x_iload_n rfl rfl (x_sw (t := 72) rfl (by decide) rfl rfl (x_ldc2 rfl (x_lreturn rfl ⟨_, _, rfl, rfl, rfl, rfl⟩)))
  | 2, _ => exact x_iload_n rfl rfl (x_sw (t := 76) rfl (by decide) rfl rfl (x_ldc2 rfl (x_lreturn rfl ⟨_, _, rfl, rfl, rfl, rfl⟩)))
  | 3, _ => exact x_iload_n rfl rfl (x_sw (t := 80) rfl (by decide) rfl rfl (x_ldc2 rfl (x_lreturn rfl ⟨_, _, rfl, rfl, rfl, rfl⟩)))
  | 4, _ => exact x_iload_n rfl rfl (x_sw (t := 84) rfl (by decide) rfl rfl (x_ldc2 rfl (x_lreturn rfl ⟨_, _, rfl, rfl, rfl, rfl⟩)))
  | 5, _ => exact x_iload_n rfl rfl (x_sw (t := 88) rfl (by decide) rfl rfl (x_ldc2 rfl (x_lreturn rfl ⟨_, _, rfl, rfl, rfl, rfl⟩)))
  | 6, _ => exact x_iload_n rfl rfl (x_sw (t := 92) rfl (by decide) rfl rfl (x_ldc2 rfl (x_lreturn rfl ⟨_, _, rfl, rfl, rfl, rfl⟩)))
  | 7, _ => exact x_iload_n rfl rfl (x_sw (t := 96) rfl (by decide) rfl rfl (x_ldc2 rfl (x_lreturn rfl ⟨_, _, rfl, rfl, rfl, rfl⟩)))
  | 8, _ => exact x_iload_n rfl rfl (x_sw (t := 100) rfl (by decide) rfl rfl (x_ldc2 rfl (x_lreturn rfl ⟨_, _, rfl, rfl, rfl, rfl⟩)))
  | 9, _ => exact x_iload_n rfl rfl (x_sw (t := 104) rfl (by decide) rfl rfl (x_ldc2 rfl (x_lreturn rfl ⟨_, _, rfl, rfl, rfl, rfl⟩)))
  | 10, _ => exact x_iload_n rfl rfl (x_sw (t := 108) rfl (by decide) rfl rfl (x_ldc2 rfl (x_lreturn rfl ⟨_, _, rfl, rfl, rfl, rfl⟩)))
  | 11, _ => exact x_iload_n rfl rfl (x_sw (t := 112) rfl (by decide) rfl rfl (x_ldc2 rfl (x_lreturn rfl ⟨_, _, rfl, rfl, rfl, rfl⟩)))
  | 12, _ => exact x_iload_n rfl rfl (x_sw (t := 116) rfl (by decide) rfl rfl (x_ldc2 rfl (x_lreturn rfl ⟨_, _, rfl, rfl, rfl, rfl⟩)))
theorem xs_72 {v0 : Value} {xs : List Int32} {u : Nat × Nat} {f : Nat → zE} (k : Nat) (hk : k < 7) : xq v0 xs u 72 [(0, xi (k : Nat))] f (fun r f' => r = some (.long (Int64.ofInt (xpr (atW.getD k [])))) ∧ f' = f) := by
  unfold xq
  match k, hk with
  | 0, _ => exact x_iload_n rfl rfl (x_sw (t := 44) rfl (by decide) rfl rfl (x_ldc2 rfl (x_lreturn rfl ⟨_, _, rfl, rfl, rfl, rfl⟩)))
  | 1, _ => exact x_iload_n rfl rfl (x_sw (t := 48) rfl (by decide) rfl rfl (x_ldc2 rfl (x_lreturn rfl ⟨_, _, rfl, rfl, rfl, rfl⟩)))
  | 2, _ => exact x_iload_n rfl rfl (x_sw (t := 52) rfl (by decide) rfl rfl (x_ldc2 rfl (x_lreturn rfl ⟨_, _, rfl, rfl, rfl, rfl⟩)))
  | 3, _ => exact x_iload_n rfl rfl (x_sw (t := 56) rfl (by decide) rfl rfl (x_ldc2 rfl (x_lreturn rfl ⟨_, _, rfl, rfl, rfl, rfl⟩)))
  | 4, _ => exact x_iload_n rfl rfl (x_sw (t := 60) rfl (by decide) rfl rfl (x_ldc2 rfl (x_lreturn rfl ⟨_, _, rfl, rfl, rfl, rfl⟩)))
  | 5, _ => exact x_iload_n rfl rfl (x_sw (t := 64) rfl (by decide) rfl rfl (x_ldc2 rfl (x_lreturn rfl ⟨_, _, rfl, rfl, rfl, rfl⟩)))
  | 6, _ => exact x_iload_n rfl rfl (x_sw (t := 68) rfl (by decide) rfl rfl (x_ldc2 rfl (x_lreturn rfl ⟨_, _, rfl, rfl, rfl, rfl⟩)))
/-- the last of the first k words that a word is -/
def xla (wd : Option (List Int)) (l : List (List Int)) : Nat → Int
  | 0 => -1
  | k + 1 => if wd = some (l.getD k []) then (k : Nat) else xla wd l k
theorem xla_rg {wd : Option (List Int)} {l : List (List Int)} : ∀ k, -1 ≤ xla wd l k ∧ xla wd l k < (k : Nat) := by
  intro k
  induction k with
  | zero => exact ⟨Int.le_refl _, show (-1 : Int) < 0 by decide⟩
  | succ k ih =>
    simp only [xla]
    split <;> omega
theorem xfi_at {wd : Option (List Int)} : ∀ {l : List (List Int)} {i : Int} {k : Nat} (hk : k < l.length), l.Nodup → wd = some l[k] → xfi wd l i = i + k := by
  intro l
  induction l with
  | nil => intro i k hk; exact absurd hk (Nat.not_lt_zero _)
  | cons w r ih =>
    intro i k hk hn he
    simp only [xfi]
    cases k with
    | zero =>
      rw [if_pos (show wd = some w from he)]
      omega
    | succ k =>
      have hk' : k < r.length := by simpa using hk
      have e : wd = some r[k] := he
      have hne : ¬ wd = some w := by
        intro h
        rw [h] at e
        have := (List.nodup_cons.mp hn).1
        rw [Option.some.inj e] at this
        exact this (List.getElem_mem hk')
      rw [if_neg hne, ih hk' (List.nodup_cons.mp hn).2 e]
      omega
theorem xfi_no {wd : Option (List Int)} : ∀ {l : List (List Int)} {i : Int}, (∀ w ∈ l, wd ≠ some w) → xfi wd l i = -1 := by
  intro l
  induction l with
  | nil => intro i _; rfl
  | cons w r ih =>
    intro i h
    simp only [xfi]
    rw [if_neg (h w (by simp)), ih (fun v hv => h v (by simp [hv]))]
theorem xla_no {wd : Option (List Int)} {l : List (List Int)} : ∀ {k : Nat}, xla wd l k = -1 → ∀ j, j < k → wd ≠ some (l.getD j []) := by
  intro k
  induction k with
  | zero => intro _ j hj; exact absurd hj (Nat.not_lt_zero _)
  | succ k ih =>
    intro h j hj
    simp only [xla] at h
    split at h
    · omega
    · rename_i hne
      by_cases e : j = k
      · subst e; exact hne
      · exact ih h j (by omega)
theorem xla_at {wd : Option (List Int)} {l : List (List Int)} : ∀ {k : Nat}, xla wd l k ≠ -1 → ∃ j, j < k ∧ xla wd l k = (j : Nat) ∧ wd = some (l.getD j []) := by
  intro k
  induction k with
  | zero => intro h; exact absurd rfl h
  | succ k ih =>
    intro h
    simp only [xla] at h ⊢
    split
    · rename_i he
      exact ⟨k, by omega, rfl, he⟩
    · rename_i hne
      rw [if_neg hne] at h
      obtain ⟨j, h1, h2, h3⟩ := ih h
      exact ⟨j, by omega, h2, h3⟩
theorem xla_xfi {wd : Option (List Int)} {l : List (List Int)} (hn : l.Nodup) : xla wd l l.length = xfi wd l 0 := by
  by_cases h : xla wd l l.length = -1
  · rw [h, xfi_no]
    intro w hw e
    obtain ⟨j, hj, rfl⟩ := List.getElem_of_mem hw
    refine xla_no h j hj ?_
    rw [List.getD_eq_getElem?_getD, List.getElem?_eq_getElem hj]
    exact e
  · obtain ⟨j, h1, h2, h3⟩ := xla_at h
    rw [h2, xfi_at (i := 0) h1 hn (by rw [h3, List.getD_eq_getElem?_getD, List.getElem?_eq_getElem h1]; rfl)]
    omega
theorem selW_nd : selW.Nodup := by decide
theorem atW_nd : atW.Nodup := by decide
theorem xs_71l {v0 : Value} {xs : List Int32} {u : Nat × Nat} {f : Nat → zE} {n : Nat} {wd : Option (List Int)} {cd fa ki be en nu ca pa op : Int} {wo : Int64} {q : Nat → Value} (h177 : f 177 = xmo cd (n : Nat) fa ki be en wo nu ca pa op q) (hki : 0 ≤ ki ∧ ki ≤ 9) (hwd : xwo wd) (hwo : ki = 1 → wo = Int64.ofInt (xwR wd)) : ∀ (d k : Nat) (lv : zL), d + k = 13 → zlv lv 0 = some (.ref 177) → zlv lv 1 = some (xi (if ki = 1 then xla wd selW k else -1)) → zlv lv 2 = some (xi (k : Nat)) → xz v0 xs u (fun o X => ∃ r f', o = .inl r ∧ X = (xh f', u) ∧ (fun r f' => r = some (xi (if ki = 1 then xfi wd selW 0 else -1)) ∧ f' = f) r f') 71 4 lv [] f := by
  intro d
  induction d with
  | zero =>
    intro k lv hd l0 l1 l2
    refine x_iload_n rfl l2 ?_
    refine x_bipush rfl (by decide) ?_
    refine x_cge (t := 42) rfl rfl ⟨by omega, by omega⟩ ⟨by omega, by omega⟩ (fun hb7 => ?_) (fun hb7 => ?_)
    · refine x_iload_n rfl l1 ?_
      refine x_ireturn rfl (Or.inl rfl) ⟨_, _, rfl, rfl, ?_⟩
      exact ⟨by rw [show k = 13 by omega]; rw [← xla_xfi selW_nd]; rfl, rfl⟩
    · exfalso; omega
  | succ d ih =>
    intro k lv hd l0 l1 l2
    refine x_iload_n rfl l2 ?_
    refine x_bipush rfl (by decide) ?_
    refine x_cge (t := 42) rfl rfl ⟨by omega, by omega⟩ ⟨by omega, by omega⟩ (fun hb7 => ?_) (fun hb7 => ?_)
    · exfalso; omega
    · refine x_aload_n rfl l0 ?_
      refine x_getfield rfl (by decide) h177 rfl ?_
      refine x_iconst rfl ?_
      refine x_cne (t := 34) rfl rfl ⟨by omega, by omega⟩ ⟨by omega, by omega⟩ (fun hb15 => ?_) (fun hb15 => ?_)
      · refine x_iload_n rfl l1 ?_
        refine x_istore_n rfl (show (1 : Nat) < 3 from by decide) ?_
        refine x_iinc rfl (xst_ne (by decide) l2 (Or.inl rfl)) (show (2 : Nat) < 3 from by decide) ?_
        refine x_goto (t := 4) rfl rfl ?_
        exact ih (k + 1) _ (by omega) (xst_ne (by decide) (xst_ne (by decide) l0 (Or.inl rfl)) (Or.inl rfl)) (by simp only [if_neg hb15]; exact (xst_ne (by decide) xst_eq (Or.inl rfl))) xst_eq
      · have hwo2 := hwo hb15
        subst hwo2
        have hwk : Int64.ofInt (xwR wd) = Int64.ofInt (xpr (selW.getD k [])) ↔ wd = some (selW.getD k []) := xw_R hwd (selW_wf _ (by rw [List.getD_eq_getElem?_getD, List.getElem?_eq_getElem (show k < selW.length from (by omega : k < 13))]; exact List.getElem_mem _))
        refine x_aload_n rfl l0 ?_
        refine x_getfield rfl (by decide) h177 rfl ?_
        refine x_iload_n rfl l2 ?_
        refine x_call [_] rfl rfl (show (2 : Nat) ≤ 8 from by decide) (show (1 : Nat) ≤ 1 from by decide) rfl (xs_70 k (by omega)) (fun r' f' hP => ?_)
        obtain ⟨rfl, rfl⟩ := hP
        refine x_lcmp rfl ?_
        refine x_lne (t := 34) rfl rfl (fun hb27 => ?_) (fun hb27 => ?_)
        · refine x_iload_n rfl l1 ?_
          refine x_istore_n rfl (show (1 : Nat) < 3 from by decide) ?_
          refine x_iinc rfl (xst_ne (by decide) l2 (Or.inl rfl)) (show (2 : Nat) < 3 from by decide) ?_
          refine x_goto (t := 4) rfl rfl ?_
          have e0 : xla wd selW (k + 1) = xla wd selW k := by
            simp only [xla]
            rw [if_neg (fun h => hb27 (hwk.mpr h))]
          exact ih (k + 1) _ (by omega) (xst_ne (by decide) (xst_ne (by decide) l0 (Or.inl rfl)) (Or.inl rfl)) (by rw [e0]; exact (xst_ne (by decide) xst_eq (Or.inl rfl))) xst_eq
        · refine x_iload_n rfl l2 ?_
          refine x_goto (t := 35) rfl rfl ?_
          refine x_istore_n rfl (show (1 : Nat) < 3 from by decide) ?_
          refine x_iinc rfl (xst_ne (by decide) l2 (Or.inl rfl)) (show (2 : Nat) < 3 from by decide) ?_
          refine x_goto (t := 4) rfl rfl ?_
          have e0 : xla wd selW (k + 1) = (k : Nat) := by
            simp only [xla]
            rw [if_pos (hwk.mp hb27)]
          exact ih (k + 1) _ (by omega) (xst_ne (by decide) (xst_ne (by decide) l0 (Or.inl rfl)) (Or.inl rfl)) (by rw [e0, if_pos hb15]; exact (xst_ne (by decide) xst_eq (Or.inl rfl))) xst_eq
theorem xs_71 {v0 : Value} {xs : List Int32} {u : Nat × Nat} {f : Nat → zE} {n : Nat} {wd : Option (List Int)} {cd fa ki be en nu ca pa op : Int} {wo : Int64} {q : Nat → Value} (h177 : f 177 = xmo cd (n : Nat) fa ki be en wo nu ca pa op q) (hki : 0 ≤ ki ∧ ki ≤ 9) (hwd : xwo wd) (hwo : ki = 1 → wo = Int64.ofInt (xwR wd))  : xq v0 xs u 71 [(0, .ref 177)] f (fun r f' => r = some (xi (if ki = 1 then xfi wd selW 0 else -1)) ∧ f' = f) := by
  unfold xq
  refine x_iconst rfl ?_
  refine x_istore_n rfl (show (1 : Nat) < 3 from by decide) ?_
  refine x_iconst rfl ?_
  refine x_istore_n rfl (show (2 : Nat) < 3 from by decide) ?_
  exact xs_71l h177 hki hwd hwo 13 0 _ rfl (xst_ne (by decide) (xst_ne (by decide) rfl (Or.inl rfl)) (Or.inl rfl)) (by simp only [xla]; split <;> exact (xst_ne (by decide) xst_eq (Or.inl rfl))) xst_eq
theorem xs_73l {v0 : Value} {xs : List Int32} {u : Nat × Nat} {f : Nat → zE} {n : Nat} {wd : Option (List Int)} {cd fa ki be en nu ca pa op : Int} {wo : Int64} {q : Nat → Value} (h177 : f 177 = xmo cd (n : Nat) fa ki be en wo nu ca pa op q) (hki : 0 ≤ ki ∧ ki ≤ 9) (hwd : xwo wd) (hwo : ki = 1 → wo = Int64.ofInt (xwR wd)) : ∀ (d k : Nat) (lv : zL), d + k = 7 → zlv lv 0 = some (.ref 177) → zlv lv 1 = some (xi (if ki = 1 then xla wd atW k else -1)) → zlv lv 2 = some (xi (k : Nat)) → xz v0 xs u (fun o X => ∃ r f', o = .inl r ∧ X = (xh f', u) ∧ (fun r f' => r = some (xi (if ki = 1 then xfi wd atW 0 else -1)) ∧ f' = f) r f') 73 4 lv [] f := by
  intro d
  induction d with
  | zero =>
    intro k lv hd l0 l1 l2
    refine x_iload_n rfl l2 ?_
    refine x_bipush rfl (by decide) ?_
    refine x_cge (t := 42) rfl rfl ⟨by omega, by omega⟩ ⟨by omega, by omega⟩ (fun hb7 => ?_) (fun hb7 => ?_)
    · refine x_iload_n rfl l1 ?_
      refine x_ireturn rfl (Or.inl rfl) ⟨_, _, rfl, rfl, ?_⟩
      exact ⟨by rw [show k = 7 by omega]; rw [← xla_xfi atW_nd]; rfl, rfl⟩
    · exfalso; omega
  | succ d ih =>
    intro k lv hd l0 l1 l2
    refine x_iload_n rfl l2 ?_
    refine x_bipush rfl (by decide) ?_
    refine x_cge (t := 42) rfl rfl ⟨by omega, by omega⟩ ⟨by omega, by omega⟩ (fun hb7 => ?_) (fun hb7 => ?_)
    · exfalso; omega
    · refine x_aload_n rfl l0 ?_
      refine x_getfield rfl (by decide) h177 rfl ?_
      refine x_iconst rfl ?_
      refine x_cne (t := 34) rfl rfl ⟨by omega, by omega⟩ ⟨by omega, by omega⟩ (fun hb15 => ?_) (fun hb15 => ?_)
      · refine x_iload_n rfl l1 ?_
        refine x_istore_n rfl (show (1 : Nat) < 3 from by decide) ?_
        refine x_iinc rfl (xst_ne (by decide) l2 (Or.inl rfl)) (show (2 : Nat) < 3 from by decide) ?_
        refine x_goto (t := 4) rfl rfl ?_
        exact ih (k + 1) _ (by omega) (xst_ne (by decide) (xst_ne (by decide) l0 (Or.inl rfl)) (Or.inl rfl)) (by simp only [if_neg hb15]; exact (xst_ne (by decide) xst_eq (Or.inl rfl))) xst_eq
      · have hwo2 := hwo hb15
        subst hwo2
        have hwk : Int64.ofInt (xwR wd) = Int64.ofInt (xpr (atW.getD k [])) ↔ wd = some (atW.getD k []) := xw_R hwd (atW_wf _ (by rw [List.getD_eq_getElem?_getD, List.getElem?_eq_getElem (show k < atW.length from (by omega : k < 7))]; exact List.getElem_mem _))
        refine x_aload_n rfl l0 ?_
        refine x_getfield rfl (by decide) h177 rfl ?_
        refine x_iload_n rfl l2 ?_
        refine x_call [_] rfl rfl (show (2 : Nat) ≤ 8 from by decide) (show (1 : Nat) ≤ 1 from by decide) rfl (xs_72 k (by omega)) (fun r' f' hP => ?_)
        obtain ⟨rfl, rfl⟩ := hP
        refine x_lcmp rfl ?_
        refine x_lne (t := 34) rfl rfl (fun hb27 => ?_) (fun hb27 => ?_)
        · refine x_iload_n rfl l1 ?_
          refine x_istore_n rfl (show (1 : Nat) < 3 from by decide) ?_
          refine x_iinc rfl (xst_ne (by decide) l2 (Or.inl rfl)) (show (2 : Nat) < 3 from by decide) ?_
          refine x_goto (t := 4) rfl rfl ?_
          have e0 : xla wd atW (k + 1) = xla wd atW k := by
            simp only [xla]
            rw [if_neg (fun h => hb27 (hwk.mpr h))]
          exact ih (k + 1) _ (by omega) (xst_ne (by decide) (xst_ne (by decide) l0 (Or.inl rfl)) (Or.inl rfl)) (by rw [e0]; exact (xst_ne (by decide) xst_eq (Or.inl rfl))) xst_eq
        · refine x_iload_n rfl l2 ?_
          refine x_goto (t := 35) rfl rfl ?_
          refine x_istore_n rfl (show (1 : Nat) < 3 from by decide) ?_
          refine x_iinc rfl (xst_ne (by decide) l2 (Or.inl rfl)) (show (2 : Nat) < 3 from by decide) ?_
          refine x_goto (t := 4) rfl rfl ?_
          have e0 : xla wd atW (k + 1) = (k : Nat) := by
            simp only [xla]
            rw [if_pos (hwk.mp hb27)]
          exact ih (k + 1) _ (by omega) (xst_ne (by decide) (xst_ne (by decide) l0 (Or.inl rfl)) (Or.inl rfl)) (by rw [e0, if_pos hb15]; exact (xst_ne (by decide) xst_eq (Or.inl rfl))) xst_eq
theorem xs_73 {v0 : Value} {xs : List Int32} {u : Nat × Nat} {f : Nat → zE} {n : Nat} {wd : Option (List Int)} {cd fa ki be en nu ca pa op : Int} {wo : Int64} {q : Nat → Value} (h177 : f 177 = xmo cd (n : Nat) fa ki be en wo nu ca pa op q) (hki : 0 ≤ ki ∧ ki ≤ 9) (hwd : xwo wd) (hwo : ki = 1 → wo = Int64.ofInt (xwR wd))  : xq v0 xs u 73 [(0, .ref 177)] f (fun r f' => r = some (xi (if ki = 1 then xfi wd atW 0 else -1)) ∧ f' = f) := by
  unfold xq
  refine x_iconst rfl ?_
  refine x_istore_n rfl (show (1 : Nat) < 3 from by decide) ?_
  refine x_iconst rfl ?_
  refine x_istore_n rfl (show (2 : Nat) < 3 from by decide) ?_
  exact xs_73l h177 hki hwd hwo 7 0 _ rfl (xst_ne (by decide) (xst_ne (by decide) rfl (Or.inl rfl)) (Or.inl rfl)) (by simp only [xla]; split <;> exact (xst_ne (by decide) xst_eq (Or.inl rfl))) xst_eq
theorem xs_74l {v0 : Value} {xs : List Int32} {u : Nat × Nat} {f : Nat → zE} {n : Nat} {wd : Option (List Int)} {nl : List Int64} {nms : List (List Int)} {cd fa ki be en nu ca pa op : Int} {wo : Int64} {q : Nat → Value} (h177 : f 177 = xmo cd (n : Nat) fa ki be en wo nu ca pa op q) (hki : 0 ≤ ki ∧ ki ≤ 9) (hwd : xwo wd) (hwo : ki = 1 → wo = Int64.ofInt (xwR wd)) (h179 : f 179 = .inr (.inr (.inl nl))) (hlen : nl.length = 13) (hcl : nms.length ≤ 12) (hca : ca = (nms.length : Nat)) (hw : ∀ w ∈ nms, xwf w) (hnl : ∀ k, k < nms.length → nl.getD k 0 = Int64.ofInt (xpr (nms.getD k []))) (hnd : nms.Nodup) : ∀ (d k : Nat) (lv : zL), d + k = nms.length → zlv lv 0 = some (.ref 177) → zlv lv 1 = some (xi (if ki = 1 then xla wd nms k else -1)) → zlv lv 2 = some (xi (k : Nat)) → xz v0 xs u (fun o X => ∃ r f', o = .inl r ∧ X = (xh f', u) ∧ (fun r f' => r = some (xi (if ki = 1 then xfi wd nms 0 else -1)) ∧ f' = f) r f') 74 4 lv [] f := by
  intro d
  induction d with
  | zero =>
    intro k lv hd l0 l1 l2
    refine x_iload_n rfl l2 ?_
    refine x_aload_n rfl l0 ?_
    refine x_getfield rfl (by decide) h177 rfl ?_
    refine x_cge (t := 46) rfl rfl ⟨by omega, by omega⟩ ⟨by omega, by omega⟩ (fun hb9 => ?_) (fun hb9 => ?_)
    · refine x_iload_n rfl l1 ?_
      refine x_ireturn rfl (Or.inl rfl) ⟨_, _, rfl, rfl, ?_⟩
      exact ⟨by rw [show k = nms.length by omega]; rw [← xla_xfi hnd], rfl⟩
    · exfalso; omega
  | succ d ih =>
    intro k lv hd l0 l1 l2
    refine x_iload_n rfl l2 ?_
    refine x_aload_n rfl l0 ?_
    refine x_getfield rfl (by decide) h177 rfl ?_
    refine x_cge (t := 46) rfl rfl ⟨by omega, by omega⟩ ⟨by omega, by omega⟩ (fun hb9 => ?_) (fun hb9 => ?_)
    · exfalso; omega
    · refine x_aload_n rfl l0 ?_
      refine x_getfield rfl (by decide) h177 rfl ?_
      refine x_iconst rfl ?_
      refine x_cne (t := 38) rfl rfl ⟨by omega, by omega⟩ ⟨by omega, by omega⟩ (fun hb17 => ?_) (fun hb17 => ?_)
      · refine x_iload_n rfl l1 ?_
        refine x_istore_n rfl (show (1 : Nat) < 3 from by decide) ?_
        refine x_iinc rfl (xst_ne (by decide) l2 (Or.inl rfl)) (show (2 : Nat) < 3 from by decide) ?_
        refine x_goto (t := 4) rfl rfl ?_
        exact ih (k + 1) _ (by omega) (xst_ne (by decide) (xst_ne (by decide) l0 (Or.inl rfl)) (Or.inl rfl)) (by simp only [if_neg hb17]; exact (xst_ne (by decide) xst_eq (Or.inl rfl))) xst_eq
      · have hwo2 := hwo hb17
        subst hwo2
        have hwk : Int64.ofInt (xwR wd) = nl.getD k 0 ↔ wd = some (nms.getD k []) := by rw [hnl k (by omega)]; exact xw_R hwd (hw _ (by rw [List.getD_eq_getElem?_getD, List.getElem?_eq_getElem (show k < nms.length by omega)]; exact List.getElem_mem _))
        refine x_aload_n rfl l0 ?_
        refine x_getfield rfl (by decide) h177 rfl ?_
        refine x_aload_n rfl l0 ?_
        refine x_getfield rfl (by decide) h177 rfl ?_
        refine x_iload_n rfl l2 ?_
        refine x_laload rfl (by decide) h179 ⟨by omega, by omega⟩ (by omega) ?_
        rw [Int.toNat_natCast]
        refine x_lcmp rfl ?_
        refine x_lne (t := 38) rfl rfl (fun hb31 => ?_) (fun hb31 => ?_)
        · refine x_iload_n rfl l1 ?_
          refine x_istore_n rfl (show (1 : Nat) < 3 from by decide) ?_
          refine x_iinc rfl (xst_ne (by decide) l2 (Or.inl rfl)) (show (2 : Nat) < 3 from by decide) ?_
          refine x_goto (t := 4) rfl rfl ?_
          have e0 : xla wd nms (k + 1) = xla wd nms k := by
            simp only [xla]
            rw [if_neg (fun h => hb31 (hwk.mpr h))]
          exact ih (k + 1) _ (by omega) (xst_ne (by decide) (xst_ne (by decide) l0 (Or.inl rfl)) (Or.inl rfl)) (by rw [e0]; exact (xst_ne (by decide) xst_eq (Or.inl rfl))) xst_eq
        · refine x_iload_n rfl l2 ?_
          refine x_goto (t := 39) rfl rfl ?_
          refine x_istore_n rfl (show (1 : Nat) < 3 from by decide) ?_
          refine x_iinc rfl (xst_ne (by decide) l2 (Or.inl rfl)) (show (2 : Nat) < 3 from by decide) ?_
          refine x_goto (t := 4) rfl rfl ?_
          have e0 : xla wd nms (k + 1) = (k : Nat) := by
            simp only [xla]
            rw [if_pos (hwk.mp hb31)]
          exact ih (k + 1) _ (by omega) (xst_ne (by decide) (xst_ne (by decide) l0 (Or.inl rfl)) (Or.inl rfl)) (by rw [e0, if_pos hb17]; exact (xst_ne (by decide) xst_eq (Or.inl rfl))) xst_eq
theorem xs_74 {v0 : Value} {xs : List Int32} {u : Nat × Nat} {f : Nat → zE} {n : Nat} {wd : Option (List Int)} {nl : List Int64} {nms : List (List Int)} {cd fa ki be en nu ca pa op : Int} {wo : Int64} {q : Nat → Value} (h177 : f 177 = xmo cd (n : Nat) fa ki be en wo nu ca pa op q) (hki : 0 ≤ ki ∧ ki ≤ 9) (hwd : xwo wd) (hwo : ki = 1 → wo = Int64.ofInt (xwR wd)) (h179 : f 179 = .inr (.inr (.inl nl))) (hlen : nl.length = 13) (hcl : nms.length ≤ 12) (hca : ca = (nms.length : Nat)) (hw : ∀ w ∈ nms, xwf w) (hnl : ∀ k, k < nms.length → nl.getD k 0 = Int64.ofInt (xpr (nms.getD k []))) (hnd : nms.Nodup)  : xq v0 xs u 74 [(0, .ref 177)] f (fun r f' => r = some (xi (if ki = 1 then xfi wd nms 0 else -1)) ∧ f' = f) := by
  unfold xq
  refine x_iconst rfl ?_
  refine x_istore_n rfl (show (1 : Nat) < 3 from by decide) ?_
  refine x_iconst rfl ?_
  refine x_istore_n rfl (show (2 : Nat) < 3 from by decide) ?_
  exact xs_74l h177 hki hwd hwo h179 hlen hcl hca hw hnl hnd nms.length 0 _ rfl (xst_ne (by decide) (xst_ne (by decide) rfl (Or.inl rfl)) (Or.inl rfl)) (by simp only [xla]; split <;> exact (xst_ne (by decide) xst_eq (Or.inl rfl))) xst_eq
end
section
/-! The model's draft: beats, older calls, brackets. -/
theorem xapp_l {l l' : List xBt} {j : Nat} {d : xBt} (h : j < l.length) : (l ++ l').getD j d = l.getD j d := by
  rw [List.getD_eq_getElem?_getD, List.getElem?_append_left h, ← List.getD_eq_getElem?_getD]
/-- the draft's rows hold the beats B, as long as they are no more than sixteen -/
def xmb (B : List xBt) (m : Int) (tk pf pq : List Int) : Prop := m ≤ 16 → (B.length : Int) = m ∧ ∀ j, j < B.length → (pf.getD (192 + j) 0, pq.getD (192 + j) 0, tk.getD (192 + j) 0) = B.getD j (0, 0, 0)
theorem xmb_17 {B : List xBt} {m : Int} {tk pf pq : List Int} (h : 16 < m) : xmb B m tk pf pq := fun h2 => by omega
/-- the model's rows: kept calls as told, the draft's count and depth, the draft's beats in their ranges -/
def xMD (R0 : Nat → Int × Int) (B : List xBt) (cn0 dn0 tk0 : Nat → Int) (f : Nat → zE) (m d : Int) : Prop := ∃ cn dn tk pf pq : List Int, f 180 = xr 0 cn ∧ f 181 = xr 0 dn ∧ f 182 = xr 0 tk ∧ f 183 = xr 0 pf ∧ f 184 = xr 0 pq ∧ (cn.length = 13 ∧ dn.length = 13 ∧ tk.length = 208 ∧ pf.length = 208 ∧ pq.length = 208) ∧ cn.getD 12 0 = m ∧ dn.getD 12 0 = d ∧ (∀ i, i < 12 → cn.getD i 0 = cn0 i) ∧ (∀ i, i < 12 → dn.getD i 0 = dn0 i) ∧ (∀ j, j < 192 → tk.getD j 0 = tk0 j ∧ (0 ≤ pf.getD j 0 ∧ pf.getD j 0 ≤ 224) ∧ (0 ≤ pq.getD j 0 ∧ pq.getD j 0 ≤ 224)) ∧ (∀ j : Nat, j < 16 → (j : Int) < m → (-1 ≤ tk.getD (192 + j) 0 ∧ tk.getD (192 + j) 0 ≤ j) ∧ (0 ≤ pf.getD (192 + j) 0 ∧ pf.getD (192 + j) 0 ≤ 224) ∧ (0 ≤ pq.getD (192 + j) 0 ∧ pq.getD (192 + j) 0 ≤ 224)) ∧ (∀ j, j < 192 → (pf.getD j 0, pq.getD j 0) = R0 j) ∧ xmb B m tk pf pq
def xFM (f f' : Nat → zE) : Prop := ∀ p, p ≠ 180 → p ≠ 182 → p ≠ 183 → p ≠ 184 → f' p = f p
theorem xFM_0 (f : Nat → zE) : xFM f f := fun _ _ _ _ _ => rfl
theorem xFM_t {f g h : Nat → zE} (h1 : xFM f g) (h2 : xFM g h) : xFM f h := fun p a1 a2 a3 a4 => (h2 p a1 a2 a3 a4).trans (h1 p a1 a2 a3 a4)
theorem xMD_mv {R0 : Nat → Int × Int} {B : List xBt} {cn0 dn0 tk0 : Nat → Int} {f f' : Nat → zE} {m d : Int} (h : ∀ p, 180 ≤ p → p ≤ 184 → f' p = f p) (k : xMD R0 B cn0 dn0 tk0 f m d) : xMD R0 B cn0 dn0 tk0 f' m d := by
  obtain ⟨cn, dn, tk, pf, pq, h1, h2, h3, h4, h5, h6⟩ := k
  exact ⟨cn, dn, tk, pf, pq, (h _ (by decide) (by decide)).trans h1, (h _ (by decide) (by decide)).trans h2, (h _ (by decide) (by decide)).trans h3, (h _ (by decide) (by decide)).trans h4, (h _ (by decide) (by decide)).trans h5, h6⟩
theorem xMD_ch {R0 : Nat → Int × Int} {B B' : List xBt} {cn0 dn0 tk0 : Nat → Int} {f : Nat → zE} {m d : Int} (h : m ≤ 16 → B = B') (k : xMD R0 B cn0 dn0 tk0 f m d) : xMD R0 B' cn0 dn0 tk0 f m d := by
  obtain ⟨cn, dn, tk, pf, pq, h1, h2, h3, h4, h5, h6, h7, h8, h9, h10, h11, h12, h13, h14⟩ := k
  exact ⟨cn, dn, tk, pf, pq, h1, h2, h3, h4, h5, h6, h7, h8, h9, h10, h11, h12, h13, fun hm => by rw [← h hm]; exact h14 hm⟩
theorem xMD_B {R0 : Nat → Int × Int} {B : List xBt} {cn0 dn0 tk0 : Nat → Int} {f : Nat → zE} {m d : Int} (k : xMD R0 B cn0 dn0 tk0 f m d) : m ≤ 16 → (B.length : Int) = m := by
  obtain ⟨cn, dn, tk, pf, pq, h1, h2, h3, h4, h5, h6, h7, h8, h9, h10, h11, h12, h13, h14⟩ := k
  exact fun h => (h14 h).1
theorem xs_76 {R0 : Nat → Int × Int} {B : List xBt} {v0 : Value} {xs : List Int32} {u : Nat × Nat} {cn0 dn0 tk0 : Nat → Int} {f : Nat → zE} {m d : Int} {n : Nat} {cd fa ki be en nu ca pa op : Int} {wo : Int64} {q : Nat → Value} {t a b : Int} (h177 : f 177 = xmo cd (n : Nat) fa ki be en wo nu ca pa op q) (hm : 0 ≤ m ∧ m ≤ 1000000) (hd : xMD R0 B cn0 dn0 tk0 f m d) (ht : -1 ≤ t ∧ (m < 16 → t ≤ m)) (ha : 0 ≤ a ∧ a ≤ 224) (hb : 0 ≤ b ∧ b ≤ 224) : xq v0 xs u 76 [(0, .ref 177), (1, xi t), (2, xi a), (3, xi b)] f (fun r f' => r = none ∧ xMD R0 (B ++ [(a, b, t)]) cn0 dn0 tk0 f' (m + 1) d ∧ xFM f f') := by
  unfold xq
  obtain ⟨cn, dn, tk, pf, pq, h180, h181, h182, h183, h184, ⟨g1, g2, g3, g4, g5⟩, hcm, hdd, hk1, hk2, hk3, hk4, hR, hmb⟩ := hd
  refine x_aload_n rfl rfl ?_
  refine x_getfield rfl (by decide) h177 rfl ?_
  refine x_bipush rfl (by decide) ?_
  refine x_iaload rfl (by decide) h180 ⟨by omega, by omega⟩ (by omega) ?_
  rw [show (12 : Int).toNat = 12 from rfl, hcm]
  refine x_bipush rfl (by decide) ?_
  refine x_cge (t := 63) rfl rfl ⟨by omega, by omega⟩ ⟨by omega, by omega⟩ (fun hb9 => ?_) (fun hb9 => ?_)
  · refine x_aload_n rfl rfl ?_
    refine x_getfield rfl (by decide) h177 rfl ?_
    refine x_bipush rfl (by decide) ?_
    refine x_dup2 rfl ?_
    refine x_iaload rfl (by decide) h180 ⟨by omega, by omega⟩ (by omega) ?_
    rw [show (12 : Int).toNat = 12 from rfl, hcm]
    refine x_iconst rfl ?_
    refine x_iadd rfl ?_
    refine x_iastore rfl (by decide) h180 ⟨by omega, by omega⟩ (by omega) ?_
    refine x_return rfl ⟨_, _, rfl, rfl, ?_⟩
    refine ⟨rfl, ⟨_, dn, tk, pf, pq, xu_eq, xu_ne (by decide) h181, xu_ne (by decide) h182, xu_ne (by decide) h183, xu_ne (by decide) h184, ⟨by rw [List.length_set]; exact g1, g2, g3, g4, g5⟩, ?_, hdd, ?_, hk2, hk3, ?_, hR, xmb_17 (by omega)⟩, fun p a1 a2 a3 a4 => xu_ne a1 rfl⟩
    · rw [x_gset, if_pos ⟨rfl, by rw [g1]; decide⟩]
    · intro i hi; rw [x_gset, if_neg (by intro h; have := h.1; simp at this; omega)]; exact hk1 i hi
    · intro j j1 j2; exact hk4 j j1 (by omega)
  · refine x_aload_n rfl rfl ?_
    refine x_getfield rfl (by decide) h177 rfl ?_
    refine x_sipush rfl (by decide) ?_
    refine x_aload_n rfl rfl ?_
    refine x_getfield rfl (by decide) h177 rfl ?_
    refine x_bipush rfl (by decide) ?_
    refine x_iaload rfl (by decide) h180 ⟨by omega, by omega⟩ (by omega) ?_
    rw [show (12 : Int).toNat = 12 from rfl, hcm]
    refine x_iadd rfl ?_
    refine x_iload_n rfl rfl ?_
    refine x_iastore rfl (by decide) h182 ⟨by omega, by omega⟩ (by omega) ?_
    refine x_aload_n rfl rfl ?_
    refine x_getfield rfl (by decide) (xu_ne (by decide) h177) rfl ?_
    refine x_sipush rfl (by decide) ?_
    refine x_aload_n rfl rfl ?_
    refine x_getfield rfl (by decide) (xu_ne (by decide) h177) rfl ?_
    refine x_bipush rfl (by decide) ?_
    refine x_iaload rfl (by decide) (xu_ne (by decide) h180) ⟨by omega, by omega⟩ (by omega) ?_
    rw [show (12 : Int).toNat = 12 from rfl, hcm]
    refine x_iadd rfl ?_
    refine x_iload_n rfl rfl ?_
    refine x_iastore rfl (by decide) (xu_ne (by decide) h183) ⟨by omega, by omega⟩ (by omega) ?_
    refine x_aload_n rfl rfl ?_
    refine x_getfield rfl (by decide) (xu_ne (by decide) (xu_ne (by decide) h177)) rfl ?_
    refine x_sipush rfl (by decide) ?_
    refine x_aload_n rfl rfl ?_
    refine x_getfield rfl (by decide) (xu_ne (by decide) (xu_ne (by decide) h177)) rfl ?_
    refine x_bipush rfl (by decide) ?_
    refine x_iaload rfl (by decide) (xu_ne (by decide) (xu_ne (by decide) h180)) ⟨by omega, by omega⟩ (by omega) ?_
    rw [show (12 : Int).toNat = 12 from rfl, hcm]
    refine x_iadd rfl ?_
    refine x_iload_n rfl rfl ?_
    refine x_iastore rfl (by decide) (xu_ne (by decide) (xu_ne (by decide) h184)) ⟨by omega, by omega⟩ (by omega) ?_
    refine x_aload_n rfl rfl ?_
    refine x_getfield rfl (by decide) (xu_ne (by decide) (xu_ne (by decide) (xu_ne (by decide) h177))) rfl ?_
    refine x_bipush rfl (by decide) ?_
    refine x_dup2 rfl ?_
    refine x_iaload rfl (by decide) (xu_ne (by decide) (xu_ne (by decide) (xu_ne (by decide) h180))) ⟨by omega, by omega⟩ (by omega) ?_
    rw [show (12 : Int).toNat = 12 from rfl, hcm]
    refine x_iconst rfl ?_
    refine x_iadd rfl ?_
    refine x_iastore rfl (by decide) (xu_ne (by decide) (xu_ne (by decide) (xu_ne (by decide) h180))) ⟨by omega, by omega⟩ (by omega) ?_
    refine x_return rfl ⟨_, _, rfl, rfl, ?_⟩
    have e1 : (192 + m).toNat = 192 + m.toNat := by omega
    rw [e1]
    refine ⟨rfl, ⟨_, dn, _, _, _, xu_eq, xu_ne (by decide) (xu_ne (by decide) (xu_ne (by decide) (xu_ne (by decide) h181))), xu_ne (by decide) (xu_ne (by decide) (xu_ne (by decide) xu_eq)), xu_ne (by decide) (xu_ne (by decide) xu_eq), xu_ne (by decide) xu_eq, ⟨by rw [List.length_set]; exact g1, g2, by rw [List.length_set]; exact g3, by rw [List.length_set]; exact g4, by rw [List.length_set]; exact g5⟩, ?_, hdd, ?_, hk2, ?_, ?_, ?_, ?_⟩, fun p a1 a2 a3 a4 => xu_ne a1 (xu_ne a4 (xu_ne a3 (xu_ne a2 rfl)))⟩
    · rw [x_gset, if_pos ⟨rfl, by rw [g1]; decide⟩]
    · intro i hi; rw [x_gset, if_neg (by intro h; have := h.1; simp at this; omega)]; exact hk1 i hi
    · intro j hj; rw [x_gset, x_gset, x_gset, if_neg (by omega), if_neg (by omega), if_neg (by omega)]; exact hk3 j hj
    · intro j j1 j2; rw [x_gset, x_gset, x_gset]
      by_cases e : j = m.toNat
      · rw [if_pos ⟨by omega, by omega⟩, if_pos ⟨by omega, by omega⟩, if_pos ⟨by omega, by omega⟩]; exact ⟨by omega, ha, hb⟩
      · rw [if_neg (by omega), if_neg (by omega), if_neg (by omega)]; exact hk4 j j1 (by omega)
    · intro j hj; rw [x_gset, x_gset, if_neg (by omega), if_neg (by omega)]; exact hR j hj
    · intro _
      obtain ⟨k1, k2⟩ := hmb (by omega)
      refine ⟨by rw [List.length_append, List.length_singleton]; omega, fun j hj => ?_⟩
      rw [List.length_append, List.length_singleton] at hj
      rw [x_gset, x_gset, x_gset]
      by_cases e : j = m.toNat
      · rw [if_pos ⟨by omega, by omega⟩, if_pos ⟨by omega, by omega⟩, if_pos ⟨by omega, by omega⟩, List.getD_eq_getElem?_getD, List.getElem?_append_right (by omega), show j - B.length = 0 by omega]
        rfl
      · rw [if_neg (by omega), if_neg (by omega), if_neg (by omega), k2 j (by omega), List.getD_eq_getElem?_getD, List.getD_eq_getElem?_getD, List.getElem?_append_left (by omega)]
theorem xs_75t {v0 : Value} {xs : List Int32} {u : Nat × Nat} {f : Nat → zE} {w : Int} {n p0 s e : Nat} {cs : List Int} {cd fa ki kM nu ca pa op : Int} {wo : Int64} {q : Nat → Value} (h177 : f 177 = xmo cd (n : Nat) fa kM (s : Nat) (e : Nat) wo nu ca pa op q) (h178 : f 178 = xr 1 cs) (hn : n ≤ 100) (hl : cs.length = 100) (hcs : ∀ j : Nat, 0 ≤ cs.getD j 0 ∧ cs.getD j 0 ≤ 126) (hp : p0 ≤ n) (hT : xTK cs n p0 ki s e) (hM : xTM cs ki s e kM wo nu) (hs : xsgn w) (hw : ki = 3 ∧ cs.getD s 0 = w) : xq v0 xs u 75 [(0, .ref 177), (1, xi w)] f (fun r f' => r = some (xi 1) ∧ (∃ (ki : Int) (s' e' : Nat) (kM : Int) (wo' : Int64) (nu' : Int), f' 177 = xmo cd (n : Nat) fa kM (s' : Nat) (e' : Nat) wo' nu' ca pa op q ∧ xTK cs n e ki s' e' ∧ xTM cs ki s' e' kM wo' nu') ∧ ∀ p, p ≠ 177 → f' p = f p) := by
  unfold xq
  have hr := xTK_rg hT hp
  have hch := hcs s
  have hkm : 0 ≤ kM ∧ kM ≤ 4 := by
    by_cases h3 : ki = 3
    · rcases hM.2.2.2 h3 with ⟨-, h⟩ | ⟨-, h⟩ <;> omega
    · have := hM.2.2.1 h3; omega
  have hw0 : 0 ≤ w ∧ w ≤ 100 := by unfold xsgn at hs; omega
  have hk3 : kM = 3 := by
    rcases hM.2.2.2 hw.1 with ⟨-, h⟩ | ⟨h, -⟩
    · exact h
    · exact absurd (by rw [hw.2]; exact hs) h
  have hse := hr.2.2.2.2.2.1 (by omega)
  refine x_aload_n rfl rfl ?_
  refine x_getfield rfl (by decide) h177 rfl ?_
  refine x_iconst rfl ?_
  refine x_cne (t := 25) rfl rfl ⟨by omega, by omega⟩ ⟨by omega, by omega⟩ (fun hb5 => ?_) (fun hb5 => ?_)
  · refine x_iconst rfl ?_
    refine x_istore_n rfl (show (2 : Nat) < 3 from by decide) ?_
    refine x_iload_n rfl xst_eq ?_
    refine x_ifeq (t := 35) rfl rfl ⟨by omega, by omega⟩ (fun hb28 => ?_) (fun hb28 => ?_)
    · exfalso; omega
    · refine x_aload_n rfl (xst_ne (by decide) rfl (Or.inl rfl)) ?_
      refine x_call [_] rfl rfl (show (0 : Nat) ≤ 8 from by decide) (show (1 : Nat) ≤ 2 from by decide) (x_rcv (by decide) h177) (xs_69 (p0 := e) h177 h178 hn hl hcs (by omega)) (fun r' f' hP => ?_)
      obtain ⟨rfl, hQ1, hQ2⟩ := hP
      refine x_iload_n rfl xst_eq ?_
      refine x_ireturn rfl (Or.inr (Or.inl ⟨rfl, by decide⟩)) ⟨_, _, rfl, rfl, ?_⟩
      first | (exfalso; omega) | exact ⟨rfl, hQ1, hQ2⟩
  · have hsn : s < n := by
      rcases hT.2 with ⟨-, h, -⟩ | ⟨h, -⟩ | ⟨h, -⟩ | ⟨h, -⟩
      · have := hM.2.2.1 (by omega); omega
      · exact h
      · exact h
      · exact h
    refine x_aload_n rfl rfl ?_
    refine x_getfield rfl (by decide) h177 rfl ?_
    refine x_aload_n rfl rfl ?_
    refine x_getfield rfl (by decide) h177 rfl ?_
    refine x_caload rfl (by decide) h178 ⟨by omega, by rw [hl]; omega⟩ (by omega) ?_
    rw [Int.toNat_natCast]
    refine x_iload_n rfl rfl ?_
    refine x_cne (t := 25) rfl rfl ⟨by omega, by omega⟩ ⟨by omega, by omega⟩ (fun hb18 => ?_) (fun hb18 => ?_)
    · refine x_iconst rfl ?_
      refine x_istore_n rfl (show (2 : Nat) < 3 from by decide) ?_
      refine x_iload_n rfl xst_eq ?_
      refine x_ifeq (t := 35) rfl rfl ⟨by omega, by omega⟩ (fun hb28 => ?_) (fun hb28 => ?_)
      · exfalso; omega
      · refine x_aload_n rfl (xst_ne (by decide) rfl (Or.inl rfl)) ?_
        refine x_call [_] rfl rfl (show (0 : Nat) ≤ 8 from by decide) (show (1 : Nat) ≤ 2 from by decide) (x_rcv (by decide) h177) (xs_69 (p0 := e) h177 h178 hn hl hcs (by omega)) (fun r' f' hP => ?_)
        obtain ⟨rfl, hQ1, hQ2⟩ := hP
        refine x_iload_n rfl xst_eq ?_
        refine x_ireturn rfl (Or.inr (Or.inl ⟨rfl, by decide⟩)) ⟨_, _, rfl, rfl, ?_⟩
        first | (exfalso; omega) | exact ⟨rfl, hQ1, hQ2⟩
    · refine x_iconst rfl ?_
      refine x_goto (t := 26) rfl rfl ?_
      refine x_istore_n rfl (show (2 : Nat) < 3 from by decide) ?_
      refine x_iload_n rfl xst_eq ?_
      refine x_ifeq (t := 35) rfl rfl ⟨by omega, by omega⟩ (fun hb28 => ?_) (fun hb28 => ?_)
      · exfalso; omega
      · refine x_aload_n rfl (xst_ne (by decide) rfl (Or.inl rfl)) ?_
        refine x_call [_] rfl rfl (show (0 : Nat) ≤ 8 from by decide) (show (1 : Nat) ≤ 2 from by decide) (x_rcv (by decide) h177) (xs_69 (p0 := e) h177 h178 hn hl hcs (by omega)) (fun r' f' hP => ?_)
        obtain ⟨rfl, hQ1, hQ2⟩ := hP
        refine x_iload_n rfl xst_eq ?_
        refine x_ireturn rfl (Or.inr (Or.inl ⟨rfl, by decide⟩)) ⟨_, _, rfl, rfl, ?_⟩
        first | (exfalso; omega) | exact ⟨rfl, hQ1, hQ2⟩
theorem xs_75f {v0 : Value} {xs : List Int32} {u : Nat × Nat} {f : Nat → zE} {w : Int} {n p0 s e : Nat} {cs : List Int} {cd fa ki kM nu ca pa op : Int} {wo : Int64} {q : Nat → Value} (h177 : f 177 = xmo cd (n : Nat) fa kM (s : Nat) (e : Nat) wo nu ca pa op q) (h178 : f 178 = xr 1 cs) (hn : n ≤ 100) (hl : cs.length = 100) (hcs : ∀ j : Nat, 0 ≤ cs.getD j 0 ∧ cs.getD j 0 ≤ 126) (hp : p0 ≤ n) (hT : xTK cs n p0 ki s e) (hM : xTM cs ki s e kM wo nu) (hs : xsgn w) (hw : ¬ (ki = 3 ∧ cs.getD s 0 = w)) : xq v0 xs u 75 [(0, .ref 177), (1, xi w)] f (fun r f' => r = some (xi 0) ∧ f' = f) := by
  unfold xq
  have hr := xTK_rg hT hp
  have hch := hcs s
  have hkm : 0 ≤ kM ∧ kM ≤ 4 := by
    by_cases h3 : ki = 3
    · rcases hM.2.2.2 h3 with ⟨-, h⟩ | ⟨-, h⟩ <;> omega
    · have := hM.2.2.1 h3; omega
  have hw0 : 0 ≤ w ∧ w ≤ 100 := by unfold xsgn at hs; omega
  have hk3 : kM = 3 → ki = 3 := fun h => by
    by_cases h3 : ki = 3
    · exact h3
    · have := hM.2.2.1 h3; omega
  refine x_aload_n rfl rfl ?_
  refine x_getfield rfl (by decide) h177 rfl ?_
  refine x_iconst rfl ?_
  refine x_cne (t := 25) rfl rfl ⟨by omega, by omega⟩ ⟨by omega, by omega⟩ (fun hb5 => ?_) (fun hb5 => ?_)
  · refine x_iconst rfl ?_
    refine x_istore_n rfl (show (2 : Nat) < 3 from by decide) ?_
    refine x_iload_n rfl xst_eq ?_
    refine x_ifeq (t := 35) rfl rfl ⟨by omega, by omega⟩ (fun hb28 => ?_) (fun hb28 => ?_)
    · refine x_iload_n rfl xst_eq ?_
      refine x_ireturn rfl (Or.inr (Or.inl ⟨rfl, by decide⟩)) ⟨_, _, rfl, rfl, ?_⟩
      first | (exfalso; omega) | exact ⟨rfl, rfl⟩
    · exfalso
      skip
      omega
  · have hsn : s < n := by
      rcases hT.2 with ⟨-, h, -⟩ | ⟨h, -⟩ | ⟨h, -⟩ | ⟨h, -⟩
      · have := hM.2.2.1 (by omega); omega
      · exact h
      · exact h
      · exact h
    refine x_aload_n rfl rfl ?_
    refine x_getfield rfl (by decide) h177 rfl ?_
    refine x_aload_n rfl rfl ?_
    refine x_getfield rfl (by decide) h177 rfl ?_
    refine x_caload rfl (by decide) h178 ⟨by omega, by rw [hl]; omega⟩ (by omega) ?_
    rw [Int.toNat_natCast]
    refine x_iload_n rfl rfl ?_
    refine x_cne (t := 25) rfl rfl ⟨by omega, by omega⟩ ⟨by omega, by omega⟩ (fun hb18 => ?_) (fun hb18 => ?_)
    · refine x_iconst rfl ?_
      refine x_istore_n rfl (show (2 : Nat) < 3 from by decide) ?_
      refine x_iload_n rfl xst_eq ?_
      refine x_ifeq (t := 35) rfl rfl ⟨by omega, by omega⟩ (fun hb28 => ?_) (fun hb28 => ?_)
      · refine x_iload_n rfl xst_eq ?_
        refine x_ireturn rfl (Or.inr (Or.inl ⟨rfl, by decide⟩)) ⟨_, _, rfl, rfl, ?_⟩
        first | (exfalso; omega) | exact ⟨rfl, rfl⟩
      · exfalso
        have := hk3 hb5
        omega
    · refine x_iconst rfl ?_
      refine x_goto (t := 26) rfl rfl ?_
      refine x_istore_n rfl (show (2 : Nat) < 3 from by decide) ?_
      refine x_iload_n rfl xst_eq ?_
      refine x_ifeq (t := 35) rfl rfl ⟨by omega, by omega⟩ (fun hb28 => ?_) (fun hb28 => ?_)
      · refine x_iload_n rfl xst_eq ?_
        refine x_ireturn rfl (Or.inr (Or.inl ⟨rfl, by decide⟩)) ⟨_, _, rfl, rfl, ?_⟩
        first | (exfalso; omega) | exact ⟨rfl, rfl⟩
      · exfalso
        have := hk3 hb5
        omega
theorem xs_78l {R0 : Nat → Int × Int} {B : List xBt} {G : List xBt} {v0 : Value} {xs : List Int32} {u : Nat × Nat} {cn0 dn0 tk0 : Nat → Int} {f0 : Nat → zE} {m d b : Int} {i e : Nat} {n : Nat} {cs : List Int} {cd fa ki be nu ca pa op : Int} {wo : Int64} {q : Nat → Value} (hn : n ≤ 100) (hl : cs.length = 100) (hcs : ∀ j : Nat, 0 ≤ cs.getD j 0 ∧ cs.getD j 0 ≤ 126) (h178 : f0 178 = xr 1 cs) (hen : e ≤ n) (hi : i < 12) (hm : 0 ≤ m ∧ m ≤ 900000) (hdr : -1000 ≤ d ∧ d ≤ 1000) (hdi : -1000 ≤ dn0 i ∧ dn0 i ≤ 1000) (hbi : cn0 i = b) (hb16 : 0 ≤ b ∧ b ≤ 16) (htk : ∀ k : Nat, (k : Int) < b → 0 ≤ tk0 (16 * i + k) ∧ tk0 (16 * i + k) ≤ k) (hG : (G.length : Int) = b ∧ ∀ k, k < G.length → ((R0 (16 * i + k)).1, (R0 (16 * i + k)).2, tk0 (16 * i + k)) = G.getD k (0, 0, 0)) : ∀ (w k : Nat) (lv : zL) (f : Nat → zE), (w : Int) + (k : Nat) = b → zlv lv 0 = some (.ref 177) → zlv lv 1 = some (xi (i : Nat)) → zlv lv 2 = some (xi m) → zlv lv 3 = some (xi (k : Nat)) → f 177 = xmo cd (n : Nat) fa ki be (e : Nat) wo nu ca pa op q → xMD R0 (B ++ (G.take k).map (xsh m)) cn0 dn0 tk0 f (m + (k : Nat)) d → xFM f0 f → xz v0 xs u (fun o X => ∃ r f', o = .inl r ∧ X = (xh f', u) ∧ (fun r f' => r = none ∧ xMD R0 (B ++ G.map (xsh m)) cn0 dn0 tk0 f' (m + b) (max d (dn0 i + 1)) ∧ (∃ (ki : Int) (s' e' : Nat) (kM : Int) (wo' : Int64) (nu' : Int), f' 177 = xmo cd (n : Nat) fa kM (s' : Nat) (e' : Nat) wo' nu' ca pa op q ∧ xTK cs n e ki s' e' ∧ xTM cs ki s' e' kM wo' nu') ∧ ∀ p, p ≠ 177 → p ≠ 180 → p ≠ 181 → p ≠ 182 → p ≠ 183 → p ≠ 184 → f' p = f0 p) r f') 78 10 lv [] f := by
  intro w
  induction w with
  | zero =>
    intro k lv f hw l0 l1 l2 l3 h177 hd hfr
    have hd0 := hd
    have h178 := (hfr 178 (by decide) (by decide) (by decide) (by decide)).trans h178
    obtain ⟨cn, dn, tk, pf, pq, h180, h181, h182, h183, h184, ⟨g1, g2, g3, g4, g5⟩, hcm, hdd, hk1, hk2, hk3, hk4, hR, hmb⟩ := hd
    refine x_iload_n rfl l3 ?_
    refine x_aload_n rfl l0 ?_
    refine x_getfield rfl (by decide) h177 rfl ?_
    refine x_iload_n rfl l1 ?_
    refine x_iaload rfl (by decide) h180 ⟨by omega, by omega⟩ (by omega) ?_
    rw [Int.toNat_natCast, hk1 i (by omega), hbi]
    refine x_cge (t := 65) rfl rfl ⟨by omega, by omega⟩ ⟨by omega, by omega⟩ (fun hb17 => ?_) (fun hb17 => ?_)
    · refine x_aload_n rfl l0 ?_
      refine x_getfield rfl (by decide) h177 rfl ?_
      refine x_bipush rfl (by decide) ?_
      refine x_aload_n rfl l0 ?_
      refine x_getfield rfl (by decide) h177 rfl ?_
      refine x_bipush rfl (by decide) ?_
      refine x_iaload rfl (by decide) h181 ⟨by omega, by omega⟩ (by omega) ?_
      rw [show (12 : Int).toNat = 12 from rfl, hdd]
      refine x_aload_n rfl l0 ?_
      refine x_getfield rfl (by decide) h177 rfl ?_
      refine x_iload_n rfl l1 ?_
      refine x_iaload rfl (by decide) h181 ⟨by omega, by omega⟩ (by omega) ?_
      rw [Int.toNat_natCast, hk2 i (by omega)]
      refine x_iconst rfl ?_
      refine x_iadd rfl ?_
      refine x_cle (t := 99) rfl rfl ⟨by omega, by omega⟩ ⟨by omega, by omega⟩ (fun hb86 => ?_) (fun hb86 => ?_)
      · refine x_aload_n rfl l0 ?_
        refine x_getfield rfl (by decide) h177 rfl ?_
        refine x_iload_n rfl l1 ?_
        refine x_iaload rfl (by decide) h181 ⟨by omega, by omega⟩ (by omega) ?_
        rw [Int.toNat_natCast, hk2 i (by omega)]
        refine x_iconst rfl ?_
        refine x_iadd rfl ?_
        refine x_iastore rfl (by decide) h181 ⟨by omega, by omega⟩ (by omega) ?_
        refine x_aload_n rfl l0 ?_
        refine x_call [_] rfl rfl (show (0 : Nat) ≤ 8 from by decide) (show (1 : Nat) ≤ 2 from by decide) (x_rcv (by decide) (xu_ne (by decide) h177)) (xs_69 (p0 := e) (xu_ne (by decide) h177) (xu_ne (by decide) h178) hn hl hcs hen) (fun r' f' hP => ?_)
        obtain ⟨rfl, hQ1, hQ2⟩ := hP
        refine x_return rfl ⟨_, _, rfl, rfl, ?_⟩
        refine ⟨rfl, ?_, hQ1, fun p a0 a1 a2 a3 a4 a5 => (hQ2 p a0).trans (xu_ne a2 (hfr p a1 a3 a4 a5))⟩
        refine xMD_mv (fun p p1 p2 => hQ2 p (by omega)) ?_
        have ek : m + ((k : Nat) : Int) = m + b := by omega
        refine ⟨cn, _, tk, pf, pq, xu_ne (by decide) h180, xu_eq, xu_ne (by decide) h182, xu_ne (by decide) h183, xu_ne (by decide) h184, ⟨g1, by rw [List.length_set]; exact g2, g3, g4, g5⟩, by rw [← ek]; exact hcm, ?_, hk1, ?_, hk3, by rw [← ek]; exact hk4, hR, ?_⟩
        · rw [x_gset, if_pos ⟨rfl, by rw [g2]; decide⟩]; omega
        · intro j hj; rw [x_gset, if_neg (by intro h; have := h.1; simp at this; omega)]; exact hk2 j hj
        · have hg1 := hG.1
          rw [List.take_of_length_le (by omega)] at hmb
          rw [← ek]; exact hmb
      · refine x_aload_n rfl l0 ?_
        refine x_getfield rfl (by decide) h177 rfl ?_
        refine x_bipush rfl (by decide) ?_
        refine x_iaload rfl (by decide) h181 ⟨by omega, by omega⟩ (by omega) ?_
        rw [show (12 : Int).toNat = 12 from rfl, hdd]
        refine x_goto (t := 107) rfl rfl ?_
        refine x_iastore rfl (by decide) h181 ⟨by omega, by omega⟩ (by omega) ?_
        refine x_aload_n rfl l0 ?_
        refine x_call [_] rfl rfl (show (0 : Nat) ≤ 8 from by decide) (show (1 : Nat) ≤ 2 from by decide) (x_rcv (by decide) (xu_ne (by decide) h177)) (xs_69 (p0 := e) (xu_ne (by decide) h177) (xu_ne (by decide) h178) hn hl hcs hen) (fun r' f' hP => ?_)
        obtain ⟨rfl, hQ1, hQ2⟩ := hP
        refine x_return rfl ⟨_, _, rfl, rfl, ?_⟩
        refine ⟨rfl, ?_, hQ1, fun p a0 a1 a2 a3 a4 a5 => (hQ2 p a0).trans (xu_ne a2 (hfr p a1 a3 a4 a5))⟩
        refine xMD_mv (fun p p1 p2 => hQ2 p (by omega)) ?_
        have ek : m + ((k : Nat) : Int) = m + b := by omega
        refine ⟨cn, _, tk, pf, pq, xu_ne (by decide) h180, xu_eq, xu_ne (by decide) h182, xu_ne (by decide) h183, xu_ne (by decide) h184, ⟨g1, by rw [List.length_set]; exact g2, g3, g4, g5⟩, by rw [← ek]; exact hcm, ?_, hk1, ?_, hk3, by rw [← ek]; exact hk4, hR, ?_⟩
        · rw [x_gset, if_pos ⟨rfl, by rw [g2]; decide⟩]; omega
        · intro j hj; rw [x_gset, if_neg (by intro h; have := h.1; simp at this; omega)]; exact hk2 j hj
        · have hg1 := hG.1
          rw [List.take_of_length_le (by omega)] at hmb
          rw [← ek]; exact hmb
    · exfalso; omega
  | succ w ih =>
    intro k lv f hw l0 l1 l2 l3 h177 hd hfr
    have hd0 := hd
    have h178 := (hfr 178 (by decide) (by decide) (by decide) (by decide)).trans h178
    obtain ⟨cn, dn, tk, pf, pq, h180, h181, h182, h183, h184, ⟨g1, g2, g3, g4, g5⟩, hcm, hdd, hk1, hk2, hk3, hk4, hR, hmb⟩ := hd
    refine x_iload_n rfl l3 ?_
    refine x_aload_n rfl l0 ?_
    refine x_getfield rfl (by decide) h177 rfl ?_
    refine x_iload_n rfl l1 ?_
    refine x_iaload rfl (by decide) h180 ⟨by omega, by omega⟩ (by omega) ?_
    rw [Int.toNat_natCast, hk1 i (by omega), hbi]
    refine x_cge (t := 65) rfl rfl ⟨by omega, by omega⟩ ⟨by omega, by omega⟩ (fun hb17 => ?_) (fun hb17 => ?_)
    · exfalso; omega
    · refine x_aload_n rfl l0 ?_
      refine x_iload_n rfl l2 ?_
      refine x_aload_n rfl l0 ?_
      refine x_getfield rfl (by decide) h177 rfl ?_
      refine x_bipush rfl (by decide) ?_
      refine x_iload_n rfl l1 ?_
      refine x_imul rfl ?_
      refine x_iload_n rfl l3 ?_
      refine x_iadd rfl ?_
      refine x_iaload rfl (by decide) h182 ⟨by omega, by omega⟩ (by omega) ?_
      rw [show (16 * ((i : Nat) : Int) + ((k : Nat) : Int)).toNat = 16 * i + k by omega]
      have ht := htk k (by omega)
      have ht2 := (hk3 (16 * i + k) (by omega)).1
      refine x_iadd rfl ?_
      refine x_aload_n rfl l0 ?_
      refine x_getfield rfl (by decide) h177 rfl ?_
      refine x_bipush rfl (by decide) ?_
      refine x_iload_n rfl l1 ?_
      refine x_imul rfl ?_
      refine x_iload_n rfl l3 ?_
      refine x_iadd rfl ?_
      refine x_iaload rfl (by decide) h183 ⟨by omega, by omega⟩ (by omega) ?_
      rw [show (16 * ((i : Nat) : Int) + ((k : Nat) : Int)).toNat = 16 * i + k by omega]
      refine x_aload_n rfl l0 ?_
      refine x_getfield rfl (by decide) h177 rfl ?_
      refine x_bipush rfl (by decide) ?_
      refine x_iload_n rfl l1 ?_
      refine x_imul rfl ?_
      refine x_iload_n rfl l3 ?_
      refine x_iadd rfl ?_
      refine x_iaload rfl (by decide) h184 ⟨by omega, by omega⟩ (by omega) ?_
      rw [show (16 * ((i : Nat) : Int) + ((k : Nat) : Int)).toNat = 16 * i + k by omega]
      refine x_call [_, _, _, _] rfl rfl (show (0 : Nat) ≤ 8 from by decide) (show (4 : Nat) ≤ 4 from by decide) (x_rcv (by decide) h177) (xs_76 h177 (by omega) hd0 ⟨by omega, fun _ => by omega⟩ (by have := (hk3 (16 * i + k) (by omega)).2.1; omega) (by have := (hk3 (16 * i + k) (by omega)).2.2; omega)) (fun r' f' hP => ?_)
      obtain ⟨rfl, hQ1, hQ2⟩ := hP
      refine x_iinc rfl l3 (show (3 : Nat) < 4 from by decide) ?_
      refine x_goto (t := 10) rfl rfl ?_
      refine ih (k + 1) _ _ (by omega) (xst_ne (by decide) l0 (Or.inl rfl)) (xst_ne (by decide) l1 (Or.inl rfl)) (xst_ne (by decide) l2 (Or.inl rfl)) xst_eq ((hQ2 177 (by decide) (by decide) (by decide) (by decide)).trans h177) (by
        have hg1 := hG.1
        have hg2 := hG.2 k (by omega)
        have hr9 := hR (16 * i + k) (by omega)
        rw [show m + ((k + 1 : Nat) : Int) = m + (k : Nat) + 1 by omega, xtake_s (by omega), List.map_append, ← List.append_assoc, List.map_singleton, ← hg2, ← hr9, ← ht2]
        exact hQ1) (xFM_t hfr hQ2)
theorem xs_78 {R0 : Nat → Int × Int} {B : List xBt} {G : List xBt} {v0 : Value} {xs : List Int32} {u : Nat × Nat} {cn0 dn0 tk0 : Nat → Int} {f : Nat → zE} {m d b : Int} {i e : Nat} {n : Nat} {cs : List Int} {cd fa ki be nu ca pa op : Int} {wo : Int64} {q : Nat → Value} (hn : n ≤ 100) (hl : cs.length = 100) (hcs : ∀ j : Nat, 0 ≤ cs.getD j 0 ∧ cs.getD j 0 ≤ 126) (h178 : f 178 = xr 1 cs) (hen : e ≤ n) (hi : i < 12) (hm : 0 ≤ m ∧ m ≤ 900000) (hdr : -1000 ≤ d ∧ d ≤ 1000) (hdi : -1000 ≤ dn0 i ∧ dn0 i ≤ 1000) (hbi : cn0 i = b) (hb16 : 0 ≤ b ∧ b ≤ 16) (htk : ∀ k : Nat, (k : Int) < b → 0 ≤ tk0 (16 * i + k) ∧ tk0 (16 * i + k) ≤ k) (h177 : f 177 = xmo cd (n : Nat) fa ki be (e : Nat) wo nu ca pa op q) (hG : (G.length : Int) = b ∧ ∀ k, k < G.length → ((R0 (16 * i + k)).1, (R0 (16 * i + k)).2, tk0 (16 * i + k)) = G.getD k (0, 0, 0)) (hd : xMD R0 B cn0 dn0 tk0 f m d) : xq v0 xs u 78 [(0, .ref 177), (1, xi (i : Nat))] f (fun r f' => r = none ∧ xMD R0 (B ++ G.map (xsh m)) cn0 dn0 tk0 f' (m + b) (max d (dn0 i + 1)) ∧ (∃ (ki : Int) (s' e' : Nat) (kM : Int) (wo' : Int64) (nu' : Int), f' 177 = xmo cd (n : Nat) fa kM (s' : Nat) (e' : Nat) wo' nu' ca pa op q ∧ xTK cs n e ki s' e' ∧ xTM cs ki s' e' kM wo' nu') ∧ ∀ p, p ≠ 177 → p ≠ 180 → p ≠ 181 → p ≠ 182 → p ≠ 183 → p ≠ 184 → f' p = f p) := by
  unfold xq
  have hd0 := hd
  obtain ⟨cn, dn, tk, pf, pq, h180, h181, h182, h183, h184, ⟨g1, g2, g3, g4, g5⟩, hcm, hdd, hk1, hk2, hk3, hk4, hR, hmb⟩ := hd
  refine x_aload_n rfl rfl ?_
  refine x_getfield rfl (by decide) h177 rfl ?_
  refine x_bipush rfl (by decide) ?_
  refine x_iaload rfl (by decide) h180 ⟨by omega, by omega⟩ (by omega) ?_
  rw [show (12 : Int).toNat = 12 from rfl, hcm]
  refine x_istore_n rfl (show (2 : Nat) < 4 from by decide) ?_
  refine x_iconst rfl ?_
  refine x_istore_n rfl (show (3 : Nat) < 4 from by decide) ?_
  exact xs_78l hn hl hcs h178 hen hi hm hdr hdi hbi hb16 htk hG b.toNat 0 _ _ (by omega) (xst_ne (by decide) (xst_ne (by decide) rfl (Or.inl rfl)) (Or.inl rfl)) (xst_ne (by decide) (xst_ne (by decide) rfl (Or.inl rfl)) (Or.inl rfl)) (xst_ne (by decide) xst_eq (Or.inl rfl)) xst_eq h177 (by rw [show m + ((0 : Nat) : Int) = m by omega, List.take_zero, List.map_nil, List.append_nil]; exact hd0) (xFM_0 f)
theorem xs_80i {R0 : Nat → Int × Int} {B E : List xBt} {v0 : Value} {xs : List Int32} {u : Nat × Nat} {Q : zO → zX → Prop} {cn0 dn0 tk0 : Nat → Int} {m d fr ti : Int} {n : Nat} {cd fa ki be en nu ca pa op : Int} {wo : Int64} {q : Nat → Value} {tm : List Int} (hop : 0 ≤ op ∧ op < 3) (htl : tm.length = 3) (hti : tm.getD op.toNat 0 = ti) (ht4 : 1 ≤ ti ∧ ti ≤ 4) (hm : 0 ≤ m ∧ m ≤ 150000) (hfr0 : 0 ≤ fr ∧ fr ≤ m) {f0 : Nat → zE} {K rr : Int} (hK : 0 ≤ K ∧ rr * (m - fr) = K + (m - fr)) (hK2 : K ≤ 450000) (hBm : m ≤ 16 → (B.length : Int) = m) (hk : ∀ (lv : zL) (f : Nat → zE), zlv lv 0 = some (.ref 177) → zlv lv 1 = some (xi fr) → zlv lv 2 = some (xi (m - fr)) → zlv lv 3 = some (xi rr) → f 177 = xmo cd (n : Nat) fa ki be en wo nu ca pa op q → f 187 = xr 0 tm → xMD R0 (B ++ E ++ (B.drop fr.toNat).map (xrs (rr * (m - fr)))) cn0 dn0 tk0 f (m + K + (m - fr)) d → xFM f0 f → xz v0 xs u Q 80 125 lv [] f) : ∀ (w : Nat) (i : Int) (lv : zL) (f : Nat → zE), (w : Int) + i = m → fr ≤ i → zlv lv 0 = some (.ref 177) → zlv lv 1 = some (xi fr) → zlv lv 2 = some (xi (m - fr)) → zlv lv 3 = some (xi rr) → zlv lv 4 = some (xi i) → f 177 = xmo cd (n : Nat) fa ki be en wo nu ca pa op q → f 187 = xr 0 tm → xMD R0 (B ++ E ++ ((B.drop fr.toNat).take (i - fr).toNat).map (xrs (rr * (m - fr)))) cn0 dn0 tk0 f (m + K + (i - fr)) d → xFM f0 f → xz v0 xs u Q 80 48 lv [] f := by
  intro w
  induction w with
  | zero =>
    intro i lv f hw hi l0 l1 l2 l3 l4 h177 h187 hd hfr
    have hd0 := hd
    obtain ⟨cn, dn, tk, pf, pq, h180, h181, h182, h183, h184, ⟨g1, g2, g3, g4, g5⟩, hcm, hdd, hk1, hk2, hk3, hk4, hR, hmb⟩ := hd
    refine x_iload rfl l4 ?_
    refine x_iload_n rfl l1 ?_
    refine x_iload_n rfl l2 ?_
    refine x_iadd rfl ?_
    refine x_cge (t := 125) rfl rfl ⟨by omega, by omega⟩ ⟨by omega, by omega⟩ (fun hb53 => ?_) (fun hb53 => ?_)
    · refine hk _ _ l0 l1 l2 l3 h177 h187 (by
        rw [show m + K + (m - fr) = m + K + (i - fr) by omega]
        refine xMD_ch (fun h16 => ?_) hd0
        have hBm2 := hBm (by omega)
        rw [List.take_of_length_le (by rw [List.length_drop]; omega)]) hfr
    · exfalso; omega
  | succ w ih =>
    intro i lv f hw hi l0 l1 l2 l3 l4 h177 h187 hd hfr
    have hd0 := hd
    obtain ⟨cn, dn, tk, pf, pq, h180, h181, h182, h183, h184, ⟨g1, g2, g3, g4, g5⟩, hcm, hdd, hk1, hk2, hk3, hk4, hR, hmb⟩ := hd
    refine x_iload rfl l4 ?_
    refine x_iload_n rfl l1 ?_
    refine x_iload_n rfl l2 ?_
    refine x_iadd rfl ?_
    refine x_cge (t := 125) rfl rfl ⟨by omega, by omega⟩ ⟨by omega, by omega⟩ (fun hb53 => ?_) (fun hb53 => ?_)
    · exfalso; omega
    · refine x_sipush rfl (by decide) ?_
      refine x_iload rfl l4 ?_
      refine x_bipush rfl (by decide) ?_
      refine x_cge (t := 71) rfl rfl ⟨by omega, by omega⟩ ⟨by omega, by omega⟩ (fun hb63 => ?_) (fun hb63 => ?_)
      · refine x_bipush rfl (by decide) ?_
        refine x_iadd rfl ?_
        refine x_istore rfl (show (5 : Nat) < 6 from by decide) ?_
        refine x_aload_n rfl (xst_ne (by decide) l0 (Or.inl rfl)) ?_
        refine x_aload_n rfl (xst_ne (by decide) l0 (Or.inl rfl)) ?_
        refine x_getfield rfl (by decide) h177 rfl ?_
        refine x_iload rfl xst_eq ?_
        refine x_iaload rfl (by decide) h182 ⟨by omega, by omega⟩ (by omega) ?_
        have h4 := hk4 15 (by omega) (by omega)
        rw [show ((192 : Int) + 15).toNat = 192 + 15 from rfl]
        refine x_ifge (t := 91) rfl rfl ⟨by omega, by omega⟩ (fun hb84 => ?_) (fun hb84 => ?_)
        · refine x_aload_n rfl (xst_ne (by decide) l0 (Or.inl rfl)) ?_
          refine x_getfield rfl (by decide) h177 rfl ?_
          refine x_iload rfl xst_eq ?_
          refine x_iaload rfl (by decide) h182 ⟨by omega, by omega⟩ (by omega) ?_
          rw [show ((192 : Int) + 15).toNat = 192 + 15 from rfl]
          refine x_iload_n rfl (xst_ne (by decide) l3 (Or.inl rfl)) ?_
          refine x_iload_n rfl (xst_ne (by decide) l2 (Or.inl rfl)) ?_
          refine x_imul rfl ?_
          refine x_iadd rfl ?_
          refine x_aload_n rfl (xst_ne (by decide) l0 (Or.inl rfl)) ?_
          refine x_getfield rfl (by decide) h177 rfl ?_
          refine x_iload rfl xst_eq ?_
          refine x_iaload rfl (by decide) h183 ⟨by omega, by omega⟩ (by omega) ?_
          rw [show ((192 : Int) + 15).toNat = 192 + 15 from rfl]
          refine x_aload_n rfl (xst_ne (by decide) l0 (Or.inl rfl)) ?_
          refine x_getfield rfl (by decide) h177 rfl ?_
          refine x_iload rfl xst_eq ?_
          refine x_iaload rfl (by decide) h184 ⟨by omega, by omega⟩ (by omega) ?_
          rw [show ((192 : Int) + 15).toNat = 192 + 15 from rfl]
          refine x_call [_, _, _, _] rfl rfl (show (0 : Nat) ≤ 8 from by decide) (show (4 : Nat) ≤ 4 from by decide) (x_rcv (by decide) h177) (xs_76 h177 (by omega) hd0 ⟨by omega, fun _ => by omega⟩ h4.2.1 h4.2.2) (fun r' f' hP => ?_)
          obtain ⟨rfl, hQ1, hQ2⟩ := hP
          refine x_iinc rfl (xst_ne (by decide) l4 (Or.inl rfl)) (show (4 : Nat) < 6 from by decide) ?_
          refine x_goto (t := 48) rfl rfl ?_
          refine ih (i + 1) _ _ (by omega) (by omega) (xst_ne (by decide) (xst_ne (by decide) l0 (Or.inl rfl)) (Or.inl rfl)) (xst_ne (by decide) (xst_ne (by decide) l1 (Or.inl rfl)) (Or.inl rfl)) (xst_ne (by decide) (xst_ne (by decide) l2 (Or.inl rfl)) (Or.inl rfl)) (xst_ne (by decide) (xst_ne (by decide) l3 (Or.inl rfl)) (Or.inl rfl)) xst_eq ((hQ2 177 (by decide) (by decide) (by decide) (by decide)).trans h177) ((hQ2 187 (by decide) (by decide) (by decide) (by decide)).trans h187) (by rw [show m + K + (i + 1 - fr) = m + K + (i - fr) + 1 by omega]; exact xMD_ch (fun h16 => by omega) hQ1) (xFM_t hfr hQ2)
        · refine x_iconst rfl ?_
          refine x_goto (t := 102) rfl rfl ?_
          refine x_aload_n rfl (xst_ne (by decide) l0 (Or.inl rfl)) ?_
          refine x_getfield rfl (by decide) h177 rfl ?_
          refine x_iload rfl xst_eq ?_
          refine x_iaload rfl (by decide) h183 ⟨by omega, by omega⟩ (by omega) ?_
          rw [show ((192 : Int) + 15).toNat = 192 + 15 from rfl]
          refine x_aload_n rfl (xst_ne (by decide) l0 (Or.inl rfl)) ?_
          refine x_getfield rfl (by decide) h177 rfl ?_
          refine x_iload rfl xst_eq ?_
          refine x_iaload rfl (by decide) h184 ⟨by omega, by omega⟩ (by omega) ?_
          rw [show ((192 : Int) + 15).toNat = 192 + 15 from rfl]
          refine x_call [_, _, _, _] rfl rfl (show (0 : Nat) ≤ 8 from by decide) (show (4 : Nat) ≤ 4 from by decide) (x_rcv (by decide) h177) (xs_76 h177 (by omega) hd0 ⟨by omega, fun _ => by omega⟩ h4.2.1 h4.2.2) (fun r' f' hP => ?_)
          obtain ⟨rfl, hQ1, hQ2⟩ := hP
          refine x_iinc rfl (xst_ne (by decide) l4 (Or.inl rfl)) (show (4 : Nat) < 6 from by decide) ?_
          refine x_goto (t := 48) rfl rfl ?_
          refine ih (i + 1) _ _ (by omega) (by omega) (xst_ne (by decide) (xst_ne (by decide) l0 (Or.inl rfl)) (Or.inl rfl)) (xst_ne (by decide) (xst_ne (by decide) l1 (Or.inl rfl)) (Or.inl rfl)) (xst_ne (by decide) (xst_ne (by decide) l2 (Or.inl rfl)) (Or.inl rfl)) (xst_ne (by decide) (xst_ne (by decide) l3 (Or.inl rfl)) (Or.inl rfl)) xst_eq ((hQ2 177 (by decide) (by decide) (by decide) (by decide)).trans h177) ((hQ2 187 (by decide) (by decide) (by decide) (by decide)).trans h187) (by rw [show m + K + (i + 1 - fr) = m + K + (i - fr) + 1 by omega]; exact xMD_ch (fun h16 => by omega) hQ1) (xFM_t hfr hQ2)
      · refine x_iload rfl l4 ?_
        refine x_goto (t := 73) rfl rfl ?_
        refine x_iadd rfl ?_
        refine x_istore rfl (show (5 : Nat) < 6 from by decide) ?_
        refine x_aload_n rfl (xst_ne (by decide) l0 (Or.inl rfl)) ?_
        refine x_aload_n rfl (xst_ne (by decide) l0 (Or.inl rfl)) ?_
        refine x_getfield rfl (by decide) h177 rfl ?_
        refine x_iload rfl xst_eq ?_
        refine x_iaload rfl (by decide) h182 ⟨by omega, by omega⟩ (by omega) ?_
        have h4 := hk4 i.toNat (by omega) (by omega)
        rw [show (192 + i).toNat = 192 + i.toNat by omega]
        refine x_ifge (t := 91) rfl rfl ⟨by omega, by omega⟩ (fun hb84 => ?_) (fun hb84 => ?_)
        · refine x_aload_n rfl (xst_ne (by decide) l0 (Or.inl rfl)) ?_
          refine x_getfield rfl (by decide) h177 rfl ?_
          refine x_iload rfl xst_eq ?_
          refine x_iaload rfl (by decide) h182 ⟨by omega, by omega⟩ (by omega) ?_
          rw [show (192 + i).toNat = 192 + i.toNat by omega]
          refine x_iload_n rfl (xst_ne (by decide) l3 (Or.inl rfl)) ?_
          refine x_iload_n rfl (xst_ne (by decide) l2 (Or.inl rfl)) ?_
          refine x_imul rfl ?_
          refine x_iadd rfl ?_
          refine x_aload_n rfl (xst_ne (by decide) l0 (Or.inl rfl)) ?_
          refine x_getfield rfl (by decide) h177 rfl ?_
          refine x_iload rfl xst_eq ?_
          refine x_iaload rfl (by decide) h183 ⟨by omega, by omega⟩ (by omega) ?_
          rw [show (192 + i).toNat = 192 + i.toNat by omega]
          refine x_aload_n rfl (xst_ne (by decide) l0 (Or.inl rfl)) ?_
          refine x_getfield rfl (by decide) h177 rfl ?_
          refine x_iload rfl xst_eq ?_
          refine x_iaload rfl (by decide) h184 ⟨by omega, by omega⟩ (by omega) ?_
          rw [show (192 + i).toNat = 192 + i.toNat by omega]
          refine x_call [_, _, _, _] rfl rfl (show (0 : Nat) ≤ 8 from by decide) (show (4 : Nat) ≤ 4 from by decide) (x_rcv (by decide) h177) (xs_76 h177 (by omega) hd0 ⟨by omega, fun _ => by omega⟩ h4.2.1 h4.2.2) (fun r' f' hP => ?_)
          obtain ⟨rfl, hQ1, hQ2⟩ := hP
          refine x_iinc rfl (xst_ne (by decide) l4 (Or.inl rfl)) (show (4 : Nat) < 6 from by decide) ?_
          refine x_goto (t := 48) rfl rfl ?_
          refine ih (i + 1) _ _ (by omega) (by omega) (xst_ne (by decide) (xst_ne (by decide) l0 (Or.inl rfl)) (Or.inl rfl)) (xst_ne (by decide) (xst_ne (by decide) l1 (Or.inl rfl)) (Or.inl rfl)) (xst_ne (by decide) (xst_ne (by decide) l2 (Or.inl rfl)) (Or.inl rfl)) (xst_ne (by decide) (xst_ne (by decide) l3 (Or.inl rfl)) (Or.inl rfl)) xst_eq ((hQ2 177 (by decide) (by decide) (by decide) (by decide)).trans h177) ((hQ2 187 (by decide) (by decide) (by decide) (by decide)).trans h187) (by
            rw [show m + K + (i + 1 - fr) = m + K + (i - fr) + 1 by omega]
            refine xMD_ch (fun h16 => ?_) hQ1
            have hBm2 := hBm (by omega)
            obtain ⟨kl, kB⟩ := hmb (by omega)
            have q2 := kB i.toNat (by rw [List.length_append, List.length_append]; omega)
            rw [List.append_assoc, xapp_l (by omega)] at q2
            have q3 : (B.drop fr.toNat).getD (i - fr).toNat (0, 0, 0) = (pf.getD (192 + i.toNat) 0, pq.getD (192 + i.toNat) 0, tk.getD (192 + i.toNat) 0) := by
              rw [q2, List.getD_eq_getElem?_getD, List.getElem?_drop, show fr.toNat + (i - fr).toNat = i.toNat by omega, ← List.getD_eq_getElem?_getD]
            rw [show (i + 1 - fr).toNat = (i - fr).toNat + 1 by omega, xtake_s (by rw [List.length_drop]; omega), List.map_append, ← List.append_assoc, List.map_singleton, q3]
            unfold xrs
            dsimp only
            rw [if_neg (by omega)]) (xFM_t hfr hQ2)
        · refine x_iconst rfl ?_
          refine x_goto (t := 102) rfl rfl ?_
          refine x_aload_n rfl (xst_ne (by decide) l0 (Or.inl rfl)) ?_
          refine x_getfield rfl (by decide) h177 rfl ?_
          refine x_iload rfl xst_eq ?_
          refine x_iaload rfl (by decide) h183 ⟨by omega, by omega⟩ (by omega) ?_
          rw [show (192 + i).toNat = 192 + i.toNat by omega]
          refine x_aload_n rfl (xst_ne (by decide) l0 (Or.inl rfl)) ?_
          refine x_getfield rfl (by decide) h177 rfl ?_
          refine x_iload rfl xst_eq ?_
          refine x_iaload rfl (by decide) h184 ⟨by omega, by omega⟩ (by omega) ?_
          rw [show (192 + i).toNat = 192 + i.toNat by omega]
          refine x_call [_, _, _, _] rfl rfl (show (0 : Nat) ≤ 8 from by decide) (show (4 : Nat) ≤ 4 from by decide) (x_rcv (by decide) h177) (xs_76 h177 (by omega) hd0 ⟨by omega, fun _ => by omega⟩ h4.2.1 h4.2.2) (fun r' f' hP => ?_)
          obtain ⟨rfl, hQ1, hQ2⟩ := hP
          refine x_iinc rfl (xst_ne (by decide) l4 (Or.inl rfl)) (show (4 : Nat) < 6 from by decide) ?_
          refine x_goto (t := 48) rfl rfl ?_
          refine ih (i + 1) _ _ (by omega) (by omega) (xst_ne (by decide) (xst_ne (by decide) l0 (Or.inl rfl)) (Or.inl rfl)) (xst_ne (by decide) (xst_ne (by decide) l1 (Or.inl rfl)) (Or.inl rfl)) (xst_ne (by decide) (xst_ne (by decide) l2 (Or.inl rfl)) (Or.inl rfl)) (xst_ne (by decide) (xst_ne (by decide) l3 (Or.inl rfl)) (Or.inl rfl)) xst_eq ((hQ2 177 (by decide) (by decide) (by decide) (by decide)).trans h177) ((hQ2 187 (by decide) (by decide) (by decide) (by decide)).trans h187) (by
            rw [show m + K + (i + 1 - fr) = m + K + (i - fr) + 1 by omega]
            refine xMD_ch (fun h16 => ?_) hQ1
            have hBm2 := hBm (by omega)
            obtain ⟨kl, kB⟩ := hmb (by omega)
            have q2 := kB i.toNat (by rw [List.length_append, List.length_append]; omega)
            rw [List.append_assoc, xapp_l (by omega)] at q2
            have q3 : (B.drop fr.toNat).getD (i - fr).toNat (0, 0, 0) = (pf.getD (192 + i.toNat) 0, pq.getD (192 + i.toNat) 0, tk.getD (192 + i.toNat) 0) := by
              rw [q2, List.getD_eq_getElem?_getD, List.getElem?_drop, show fr.toNat + (i - fr).toNat = i.toNat by omega, ← List.getD_eq_getElem?_getD]
            rw [show (i + 1 - fr).toNat = (i - fr).toNat + 1 by omega, xtake_s (by rw [List.length_drop]; omega), List.map_append, ← List.append_assoc, List.map_singleton, q3]
            unfold xrs
            dsimp only
            rw [if_pos (by omega)]) (xFM_t hfr hQ2)
theorem xs_80o {R0 : Nat → Int × Int} {B : List xBt} {v0 : Value} {xs : List Int32} {u : Nat × Nat} {cn0 dn0 tk0 : Nat → Int} {m d fr ti : Int} {n : Nat} {cd fa ki be en nu ca pa op : Int} {wo : Int64} {q : Nat → Value} {tm : List Int} (hop : 0 ≤ op ∧ op < 3) (htl : tm.length = 3) (hti : tm.getD op.toNat 0 = ti) (ht4 : 1 ≤ ti ∧ ti ≤ 4) (hm : 0 ≤ m ∧ m ≤ 150000) (hfr0 : 0 ≤ fr ∧ fr ≤ m) (hBm : m ≤ 16 → (B.length : Int) = m) {f0 : Nat → zE} : ∀ (w : Nat) (rr : Int) (lv : zL) (f : Nat → zE), (w : Int) + rr = ti → 1 ≤ rr → zlv lv 0 = some (.ref 177) → zlv lv 1 = some (xi fr) → zlv lv 2 = some (xi (m - fr)) → zlv lv 3 = some (xi rr) → f 177 = xmo cd (n : Nat) fa ki be en wo nu ca pa op q → f 187 = xr 0 tm → xMD R0 (B ++ xrd0 B fr.toNat (m - fr) (rr - 1).toNat) cn0 dn0 tk0 f (m + (rr - 1) * (m - fr)) d → xFM f0 f → xz v0 xs u (fun o X => ∃ r f', o = .inl r ∧ X = (xh f', u) ∧ (fun r f' => r = none ∧ xMD R0 (B ++ xrd0 B fr.toNat (m - fr) (ti - 1).toNat) cn0 dn0 tk0 f' (m + (ti - 1) * (m - fr)) d ∧ f' 177 = xmo cd (n : Nat) fa ki be en wo nu ca pa op q ∧ xFM f0 f') r f') 80 32 lv [] f := by
  intro w
  induction w with
  | zero =>
    intro rr lv f hw hr l0 l1 l2 l3 h177 h187 hd hfr
    refine x_iload_n rfl l3 ?_
    refine x_aload_n rfl l0 ?_
    refine x_getfield rfl (by decide) h177 rfl ?_
    refine x_aload_n rfl l0 ?_
    refine x_getfield rfl (by decide) h177 rfl ?_
    refine x_iaload rfl (by decide) h187 ⟨by omega, by omega⟩ (by omega) ?_
    rw [hti]
    refine x_cge (t := 131) rfl rfl ⟨by omega, by omega⟩ ⟨by omega, by omega⟩ (fun hb42 => ?_) (fun hb42 => ?_)
    · refine x_return rfl ⟨_, _, rfl, rfl, ?_⟩
      have e1 : rr = ti := by omega
      subst e1
      exact ⟨rfl, hd, h177, hfr⟩
    · exfalso; omega
  | succ w ih =>
    intro rr lv f hw hr l0 l1 l2 l3 h177 h187 hd hfr
    refine x_iload_n rfl l3 ?_
    refine x_aload_n rfl l0 ?_
    refine x_getfield rfl (by decide) h177 rfl ?_
    refine x_aload_n rfl l0 ?_
    refine x_getfield rfl (by decide) h177 rfl ?_
    refine x_iaload rfl (by decide) h187 ⟨by omega, by omega⟩ (by omega) ?_
    rw [hti]
    refine x_cge (t := 131) rfl rfl ⟨by omega, by omega⟩ ⟨by omega, by omega⟩ (fun hb42 => ?_) (fun hb42 => ?_)
    · exfalso; omega
    · refine x_iload_n rfl l1 ?_
      refine x_istore rfl (show (4 : Nat) < 6 from by decide) ?_
      have hK0 : 0 ≤ (rr - 1) * (m - fr) := Int.mul_nonneg (by omega) (by omega)
      have hK3 : (rr - 1) * (m - fr) ≤ 3 * (m - fr) := Int.mul_le_mul_of_nonneg_right (by omega) (by omega)
      refine xs_80i (R0 := R0) (B := B) (E := xrd0 B fr.toNat (m - fr) (rr - 1).toNat) (cn0 := cn0) (dn0 := dn0) (tk0 := tk0) (d := d) (ti := ti) hop htl hti ht4 hm hfr0 (K := (rr - 1) * (m - fr)) ⟨hK0, ?_⟩ (by omega) hBm (fun lv f k0 k1 k2 k3 k177 k187 kd kfr => ?_) (m - fr).toNat fr _ _ (by omega) (Int.le_refl _) (xst_ne (by decide) l0 (Or.inl rfl)) (xst_ne (by decide) l1 (Or.inl rfl)) (xst_ne (by decide) l2 (Or.inl rfl)) (xst_ne (by decide) l3 (Or.inl rfl)) xst_eq h177 h187 ?_ hfr
      · rw [show rr * (m - fr) = ((rr - 1) + 1) * (m - fr) by rw [Int.sub_add_cancel], Int.add_mul, Int.one_mul]
      · refine x_iinc rfl k3 (show (3 : Nat) < 6 from by decide) ?_
        refine x_goto (t := 32) rfl rfl ?_
        refine ih (rr + 1) _ _ (by omega) (by omega) (xst_ne (by decide) k0 (Or.inl rfl)) (xst_ne (by decide) k1 (Or.inl rfl)) (xst_ne (by decide) k2 (Or.inl rfl)) xst_eq k177 k187 ?_ kfr
        rw [show m + (rr + 1 - 1) * (m - fr) = m + (rr - 1) * (m - fr) + (m - fr) by rw [show rr + 1 - 1 = (rr - 1) + 1 by omega, Int.add_mul, Int.one_mul]; omega, show (rr + 1 - 1).toNat = (rr - 1).toNat + 1 by omega, xrd0, ← List.append_assoc, show (((rr - 1).toNat + 1 : Nat) : Int) = rr by omega]
        exact kd
      · rw [Int.sub_self, Int.add_zero, show (0 : Int).toNat = 0 from rfl, List.take_zero, List.map_nil, List.append_nil]; exact hd
theorem xs_80 {R0 : Nat → Int × Int} {B : List xBt} {v0 : Value} {xs : List Int32} {u : Nat × Nat} {cn0 dn0 tk0 : Nat → Int} {f : Nat → zE} {m d : Int} {n : Nat} {cd fa ki be en nu ca pa op : Int} {wo : Int64} {q : Nat → Value} {tm oa : List Int} (h177 : f 177 = xmo cd (n : Nat) fa ki be en wo nu ca pa op q) (h187 : f 187 = xr 0 tm) (h188 : f 188 = xr 0 oa) (hop : 0 < op ∧ op ≤ 3) (htl : tm.length = 3) (hol : oa.length = 3) (ht4 : 1 ≤ tm.getD (op - 1).toNat 0 ∧ tm.getD (op - 1).toNat 0 ≤ 4) (hm : 0 ≤ m ∧ m ≤ 150000) (hfr0 : 0 ≤ oa.getD (op - 1).toNat 0 ∧ oa.getD (op - 1).toNat 0 ≤ m) (hd : xMD R0 B cn0 dn0 tk0 f m d) : xq v0 xs u 80 [(0, .ref 177)] f (fun r f' => r = none ∧ xMD R0 (B ++ xrd0 B (oa.getD (op - 1).toNat 0).toNat (m - oa.getD (op - 1).toNat 0) (tm.getD (op - 1).toNat 0 - 1).toNat) cn0 dn0 tk0 f' (m + (tm.getD (op - 1).toNat 0 - 1) * (m - oa.getD (op - 1).toNat 0)) d ∧ f' 177 = xmo cd (n : Nat) fa ki be en wo nu ca pa (op - 1) q ∧ ∀ p, p ≠ 177 → p ≠ 180 → p ≠ 182 → p ≠ 183 → p ≠ 184 → f' p = f p) := by
  unfold xq
  have hd0 := hd
  obtain ⟨cn, dn, tk, pf, pq, h180, h181, h182, h183, h184, ⟨g1, g2, g3, g4, g5⟩, hcm, hdd, hk1, hk2, hk3, hk4, hR, hmb⟩ := hd
  refine x_aload_n rfl rfl ?_
  refine x_dup rfl ?_
  refine x_getfield rfl (by decide) h177 rfl ?_
  refine x_iconst rfl ?_
  refine x_isub rfl ?_
  refine x_putfield rfl (by decide) h177 (show (19 : Nat) < 41 from by decide) rfl ?_
  refine x_aload_n rfl rfl ?_
  refine x_getfield rfl (by decide) xu_eq rfl ?_
  refine x_aload_n rfl rfl ?_
  refine x_getfield rfl (by decide) xu_eq rfl ?_
  refine x_iaload rfl (by decide) (xu_ne (by decide) h188) ⟨by omega, by omega⟩ (by omega) ?_
  refine x_istore_n rfl (show (1 : Nat) < 6 from by decide) ?_
  refine x_aload_n rfl (xst_ne (by decide) rfl (Or.inl rfl)) ?_
  refine x_getfield rfl (by decide) xu_eq rfl ?_
  refine x_bipush rfl (by decide) ?_
  refine x_iaload rfl (by decide) (xu_ne (by decide) h180) ⟨by omega, by omega⟩ (by omega) ?_
  rw [show (12 : Int).toNat = 12 from rfl, hcm]
  refine x_iload_n rfl xst_eq ?_
  refine x_isub rfl ?_
  refine x_istore_n rfl (show (2 : Nat) < 6 from by decide) ?_
  refine x_iconst rfl ?_
  refine x_istore_n rfl (show (3 : Nat) < 6 from by decide) ?_
  refine zwp_mono (xs_80o (f0 := xu f 177 (xmo cd (n : Nat) fa ki be en wo nu ca pa (op - 1) q)) ⟨by omega, by omega⟩ htl rfl ht4 hm hfr0 (fun h => (hmb h).1) (tm.getD (op - 1).toNat 0 - 1).toNat 1 _ _ (by omega) (Int.le_refl _) (xst_ne (by decide) (xst_ne (by decide) (xst_ne (by decide) rfl (Or.inl rfl)) (Or.inl rfl)) (Or.inl rfl)) (xst_ne (by decide) (xst_ne (by decide) xst_eq (Or.inl rfl)) (Or.inl rfl)) (xst_ne (by decide) xst_eq (Or.inl rfl)) xst_eq xu_eq (xu_ne (by decide) h187) (by rw [Int.sub_self, Int.zero_mul, Int.add_zero, show (0 : Int).toNat = 0 from rfl, xrd0, List.append_nil]; exact xMD_mv (fun p p1 p2 => xu_ne (by omega) rfl) hd0) (xFM_0 _)) ?_
  intro oo X' hq
  obtain ⟨r, f', rfl, rfl, h1, h2, h3, h4⟩ := hq
  exact ⟨r, f', rfl, rfl, h1, h2, h3, fun p a0 a1 a2 a3 a4 => (h4 p a1 a2 a3 a4).trans (xu_ne a0 rfl)⟩
end
section
/-! The grammar's run by places; the model's state. -/
theorem xTK_ex (cs : List Int) (n p : Nat) (hp : p ≤ n) : ∃ (ki : Int) (s e : Nat), xTK cs n p ki s e := by
  have h1 : xskip xbl cs n p ≤ n := xskip_le hp
  by_cases h : xskip xbl cs n p = n
  · exact ⟨0, _, n, rfl, Or.inl ⟨h, rfl, rfl⟩⟩
  · cases hl : xlt (cs.getD (xskip xbl cs n p) 0) with
    | true => exact ⟨1, _, _, rfl, Or.inr (Or.inl ⟨by omega, hl, rfl, rfl⟩)⟩
    | false => cases hd : xdg (cs.getD (xskip xbl cs n p) 0) with
      | true => exact ⟨2, _, _, rfl, Or.inr (Or.inr (Or.inl ⟨by omega, hl, hd, rfl, rfl⟩))⟩
      | false => exact ⟨3, _, _, rfl, Or.inr (Or.inr (Or.inr ⟨by omega, hl, hd, rfl, rfl⟩))⟩
theorem xgo_fuel {cs : List Int} {n : Nat} {nms : List (List Int)} {bc dp : Nat → Int} : ∀ (k k' p : Nat) (q : xA), n + 1 ≤ k + p → n + 1 ≤ k' + p → p ≤ n → xgo cs n nms bc dp k p q = xgo cs n nms bc dp k' p q := by
  intro k
  induction k with
  | zero => intro k' p q h1 _ h3; omega
  | succ k ih =>
    intro k' p q h1 h2 h3
    cases k' with
    | zero => omega
    | succ k' =>
      obtain ⟨ki, s, e, hT⟩ := xTK_ex cs n p h3
      have hr := xTK_rg hT h3
      rw [xgo, xgo, xtf_eq hT]
      dsimp only
      split
      · rfl
      · rename_i hne
        have := hr.2.2.2.2.2.1 hne
        cases xtq cs nms bc dp (ki, s, e) q with
        | none => rfl
        | some q' => exact ih k' e q' (by omega) (by omega) hr.2.2.2.1
def xG (cs : List Int) (n : Nat) (nms : List (List Int)) (bc dp : Nat → Int) (p : Nat) (q : xA) : Int ⊕ (Int × Int) := xgo cs n nms bc dp (n + 1 - p) p q
theorem xG_0 {cs : List Int} {n p s e : Nat} {nms : List (List Int)} {bc dp : Nat → Int} {ki : Int} {q : xA} (hp : p ≤ n) (hT : xTK cs n p ki s e) (h : ki = 0) : xG cs n nms bc dp p q = xfo n (xfin q) := by
  unfold xG
  obtain ⟨k, hk⟩ : ∃ k, n + 1 - p = k + 1 := ⟨n - p, by omega⟩
  rw [hk, xgo, xtf_eq hT]
  dsimp only
  rw [if_pos h]
theorem xG_s {cs : List Int} {n p s e : Nat} {nms : List (List Int)} {bc dp : Nat → Int} {ki : Int} {q q' : xA} (hp : p ≤ n) (hT : xTK cs n p ki s e) (h : ki ≠ 0) (hq : xtq cs nms bc dp (ki, s, e) q = some q') : xG cs n nms bc dp p q = xG cs n nms bc dp e q' := by
  have hr := xTK_rg hT hp
  have h1 := hr.2.2.2.2.2.1 h
  unfold xG
  obtain ⟨k, hk⟩ : ∃ k, n + 1 - p = k + 1 := ⟨n - p, by omega⟩
  rw [hk, xgo, xtf_eq hT]
  dsimp only
  rw [if_neg h, hq]
  exact xgo_fuel _ _ _ _ (by omega) (by omega) hr.2.2.2.1
theorem xG_n {cs : List Int} {n p s e : Nat} {nms : List (List Int)} {bc dp : Nat → Int} {ki : Int} {q : xA} (hp : p ≤ n) (hT : xTK cs n p ki s e) (hf : ki = 0 → xfin q = none) (hq : ki ≠ 0 → xtq cs nms bc dp (ki, s, e) q = none) : xG cs n nms bc dp p q = .inl ((s : Nat) : Int) := by
  by_cases h : ki = 0
  · rw [xG_0 hp hT h, hf h, (xTK_rg hT hp).2.2.2.2.2.2 h]
    rfl
  · unfold xG
    obtain ⟨k, hk⟩ : ∃ k, n + 1 - p = k + 1 := ⟨n - p, by omega⟩
    rw [hk, xgo, xtf_eq hT]
    dsimp only
    rw [if_neg h, hq h]
/-- a beat that has no further part is a step -/
theorem xG_67 {cs : List Int} {n p s e : Nat} {nms : List (List Int)} {bc dp : Nat → Int} {ki op m d : Int} {tm oa : List Int} (hp : p ≤ n) (hT : xTK cs n p ki s e) (hc : ¬ (ki = 3 ∧ cs.getD s 0 = 44)) : xG cs n nms bc dp p (6, op, tm, oa, m, d) = xG cs n nms bc dp p (7, op, tm, oa, min (m + 1) 17, d) := by
  by_cases h : ki = 0
  · rw [xG_0 hp hT h, xG_0 hp hT h]
    unfold xfin
    simp
  · have e1 : xtq cs nms bc dp (ki, s, e) (6, op, tm, oa, m, d) = xtq cs nms bc dp (ki, s, e) (7, op, tm, oa, min (m + 1) 17, d) := by
      unfold xtq
      simp only [xstep]
      rw [if_neg hc]
    cases hq : xtq cs nms bc dp (ki, s, e) (7, op, tm, oa, min (m + 1) 17, d) with
    | none => rw [xG_n hp hT (fun h0 => absurd h0 h) (fun _ => hq), xG_n hp hT (fun h0 => absurd h0 h) (fun _ => e1.trans hq)]
    | some q' => rw [xG_s hp hT h hq, xG_s hp hT h (e1.trans hq)]
/-! The content's run by places. -/
theorem xgc_fuel {K : List (Int × Int)} {G : Nat → List xBt} {cs : List Int} {n : Nat} {nms : List (List Int)} {bc dp : Nat → Int} : ∀ (k k' p : Nat) (q : xA) (C : xC), n + 1 ≤ k + p → n + 1 ≤ k' + p → p ≤ n → xgc K G cs n nms bc dp k p q C = xgc K G cs n nms bc dp k' p q C := by
  intro k
  induction k with
  | zero => intro k' p q C h1 _ h3; omega
  | succ k ih =>
    intro k' p q C h1 h2 h3
    cases k' with
    | zero => omega
    | succ k' =>
      obtain ⟨ki, s, e, hT⟩ := xTK_ex cs n p h3
      have hr := xTK_rg hT h3
      rw [xgc, xgc, xtf_eq hT]
      dsimp only
      by_cases hne : ki = 0
      · rw [if_pos hne, if_pos hne]
      · rw [if_neg hne, if_neg hne]
        have := hr.2.2.2.2.2.1 hne
        cases xtq cs nms bc dp (ki, s, e) q with
        | none => rfl
        | some q' => exact ih k' e q' _ (by omega) (by omega) hr.2.2.2.1
def xGC (K : List (Int × Int)) (G : Nat → List xBt) (cs : List Int) (n : Nat) (nms : List (List Int)) (bc dp : Nat → Int) (p : Nat) (q : xA) (C : xC) : xC := xgc K G cs n nms bc dp (n + 1 - p) p q C
theorem xGC_0 {K : List (Int × Int)} {G : Nat → List xBt} {cs : List Int} {n p s e : Nat} {nms : List (List Int)} {bc dp : Nat → Int} {ki : Int} {q : xA} {C : xC} (hp : p ≤ n) (hT : xTK cs n p ki s e) (h : ki = 0) : xGC K G cs n nms bc dp p q C = if q.1 = 6 then xcap K C else C := by
  unfold xGC
  obtain ⟨k, hk⟩ : ∃ k, n + 1 - p = k + 1 := ⟨n - p, by omega⟩
  rw [hk, xgc, xtf_eq hT]
  dsimp only
  rw [if_pos h]
theorem xGC_s {K : List (Int × Int)} {G : Nat → List xBt} {cs : List Int} {n p s e : Nat} {nms : List (List Int)} {bc dp : Nat → Int} {ki : Int} {q q' : xA} {C C' : xC} (hp : p ≤ n) (hT : xTK cs n p ki s e) (h : ki ≠ 0) (hq : xtq cs nms bc dp (ki, s, e) q = some q') (hc : xtc K G cs nms (ki, s, e) q C = C') : xGC K G cs n nms bc dp p q C = xGC K G cs n nms bc dp e q' C' := by
  have hr := xTK_rg hT hp
  have h1 := hr.2.2.2.2.2.1 h
  unfold xGC
  obtain ⟨k, hk⟩ : ∃ k, n + 1 - p = k + 1 := ⟨n - p, by omega⟩
  rw [hk, xgc, xtf_eq hT]
  dsimp only
  rw [if_neg h, hq, hc]
  exact xgc_fuel _ _ _ _ _ (by omega) (by omega) hr.2.2.2.1
theorem xGC_n {K : List (Int × Int)} {G : Nat → List xBt} {cs : List Int} {n p s e : Nat} {nms : List (List Int)} {bc dp : Nat → Int} {ki : Int} {q : xA} {C : xC} (hp : p ≤ n) (hT : xTK cs n p ki s e) (h : ki ≠ 0) (hq : xtq cs nms bc dp (ki, s, e) q = none) : xGC K G cs n nms bc dp p q C = (0, 0, [], []) := by
  unfold xGC
  obtain ⟨k, hk⟩ : ∃ k, n + 1 - p = k + 1 := ⟨n - p, by omega⟩
  rw [hk, xgc, xtf_eq hT]
  dsimp only
  rw [if_neg h, hq]
theorem xGC_67 {K : List (Int × Int)} {G : Nat → List xBt} {cs : List Int} {n p s e : Nat} {nms : List (List Int)} {bc dp : Nat → Int} {ki op m d : Int} {tm oa : List Int} {C : xC} (hp : p ≤ n) (hT : xTK cs n p ki s e) (hc : ¬ (ki = 3 ∧ cs.getD s 0 = 44)) : xGC K G cs n nms bc dp p (6, op, tm, oa, m, d) C = xGC K G cs n nms bc dp p (7, op, tm, oa, min (m + 1) 17, d) (xcap K C) := by
  by_cases h : ki = 0
  · rw [xGC_0 hp hT h, xGC_0 hp hT h]
    simp
  · have e1 : xtq cs nms bc dp (ki, s, e) (6, op, tm, oa, m, d) = xtq cs nms bc dp (ki, s, e) (7, op, tm, oa, min (m + 1) 17, d) := by
      unfold xtq
      simp only [xstep]
      rw [if_neg hc]
    have e2 : xtc K G cs nms (ki, s, e) (6, op, tm, oa, m, d) C = xtc K G cs nms (ki, s, e) (7, op, tm, oa, min (m + 1) 17, d) (xcap K C) := by
      unfold xtc
      simp only [xcst]
      rw [if_neg hc]
    cases hq : xtq cs nms bc dp (ki, s, e) (7, op, tm, oa, min (m + 1) 17, d) with
    | none => rw [xGC_n hp hT h hq, xGC_n hp hT h (e1.trans hq)]
    | some q' => rw [xGC_s hp hT h hq rfl, xGC_s hp hT h (e1.trans hq) e2]
def xchain (op : Int) (oa : List Int) (m : Int) : Prop := 0 ≤ m ∧ (1 ≤ op → 0 ≤ oa.getD 0 0 ∧ oa.getD 0 0 ≤ m) ∧ (2 ≤ op → oa.getD 0 0 ≤ oa.getD 1 0 ∧ oa.getD 1 0 ≤ m) ∧ (3 ≤ op → oa.getD 1 0 ≤ oa.getD 2 0 ∧ oa.getD 2 0 ≤ m)
def xphi (op : Int) (oa : List Int) (m : Int) : Int := if op = 0 then m else if op = 1 then oa.getD 0 0 + 4 * (m - oa.getD 0 0) else if op = 2 then oa.getD 0 0 + 4 * (oa.getD 1 0 - oa.getD 0 0) + 16 * (m - oa.getD 1 0) else oa.getD 0 0 + 4 * (oa.getD 1 0 - oa.getD 0 0) + 16 * (oa.getD 2 0 - oa.getD 1 0) + 64 * (m - oa.getD 2 0)
theorem xphi_m {op m : Int} {oa : List Int} (hop : 0 ≤ op ∧ op ≤ 3) (h : xchain op oa m) : m ≤ xphi op oa m := by
  obtain ⟨h0, h1, h2, h3⟩ := h
  unfold xphi
  split
  · omega
  · split
    · have := h1 (by omega); omega
    · split
      · have := h1 (by omega); have := h2 (by omega); omega
      · have := h1 (by omega); have := h2 (by omega); have := h3 (by omega); omega
theorem xphi_add {op m b : Int} {oa : List Int} (hop : 0 ≤ op ∧ op ≤ 3) (hb : 0 ≤ b) : xphi op oa (m + b) ≤ xphi op oa m + 64 * b := by
  unfold xphi
  split
  · omega
  · split
    · omega
    · split <;> omega
theorem xchain_add {op m b : Int} {oa : List Int} (hb : 0 ≤ b) (h : xchain op oa m) : xchain op oa (m + b) := by
  obtain ⟨h0, h1, h2, h3⟩ := h
  exact ⟨by omega, fun h => by have := h1 h; omega, fun h => by have := h2 h; omega, fun h => by have := h3 h; omega⟩
theorem xphi_open {op m : Int} {oa : List Int} (hop : 0 ≤ op ∧ op < 3) (hl : oa.length = 3) (h : xchain op oa m) : xphi (op + 1) (oa.set op.toNat m) m = xphi op oa m ∧ xchain (op + 1) (oa.set op.toNat m) m := by
  obtain ⟨h0, h1, h2, h3⟩ := h
  have h012 : op = 0 ∨ op = 1 ∨ op = 2 := by omega
  unfold xphi xchain
  rcases h012 with rfl | rfl | rfl
  · simp only [x_gset, hl]
    simp [-List.getD_eq_getElem?_getD]
    omega
  · have := h1 (by omega)
    simp only [x_gset, hl]
    simp [-List.getD_eq_getElem?_getD]
    omega
  · have := h1 (by omega)
    have := h2 (by omega)
    simp only [x_gset, hl]
    simp [-List.getD_eq_getElem?_getD]
    omega
theorem xphi_close {op m t : Int} {oa : List Int} (hop : 0 < op ∧ op ≤ 3) (ht : 1 ≤ t ∧ t ≤ 4) (h : xchain op oa m) : xphi (op - 1) oa (m + (t - 1) * (m - oa.getD (op - 1).toNat 0)) ≤ xphi op oa m ∧ xchain (op - 1) oa (m + (t - 1) * (m - oa.getD (op - 1).toNat 0)) ∧ 0 ≤ oa.getD (op - 1).toNat 0 ∧ oa.getD (op - 1).toNat 0 ≤ m := by
  obtain ⟨h0, h1, h2, h3⟩ := h
  have h123 : op = 1 ∨ op = 2 ∨ op = 3 := by omega
  unfold xphi xchain
  rcases h123 with rfl | rfl | rfl
  · have k1 := h1 (by omega)
    simp only [show ((1 : Int) - 1).toNat = 0 from rfl]
    have z1 : (t - 1) * (m - oa.getD 0 0) ≤ 3 * (m - oa.getD 0 0) := Int.mul_le_mul_of_nonneg_right (by omega) (by omega)
    have z2 : 0 ≤ (t - 1) * (m - oa.getD 0 0) := Int.mul_nonneg (by omega) (by omega)
    simp [-List.getD_eq_getElem?_getD]
    omega
  · have k1 := h1 (by omega)
    have k2 := h2 (by omega)
    simp only [show ((2 : Int) - 1).toNat = 1 from rfl]
    have z1 : (t - 1) * (m - oa.getD 1 0) ≤ 3 * (m - oa.getD 1 0) := Int.mul_le_mul_of_nonneg_right (by omega) (by omega)
    have z2 : 0 ≤ (t - 1) * (m - oa.getD 1 0) := Int.mul_nonneg (by omega) (by omega)
    simp [-List.getD_eq_getElem?_getD]
    omega
  · have k1 := h1 (by omega)
    have k2 := h2 (by omega)
    have k3 := h3 (by omega)
    simp only [show ((3 : Int) - 1).toNat = 2 from rfl]
    have z1 : (t - 1) * (m - oa.getD 2 0) ≤ 3 * (m - oa.getD 2 0) := Int.mul_le_mul_of_nonneg_right (by omega) (by omega)
    have z2 : 0 ≤ (t - 1) * (m - oa.getD 2 0) := Int.mul_nonneg (by omega) (by omega)
    simp [-List.getD_eq_getElem?_getD]
    omega
/-- the model's rows of parts -/
def xMS (K E : List (Int × Int)) (f : Nat → zE) : Prop := ∃ se at' : List Int, f 185 = xr 0 se ∧ f 186 = xr 0 at' ∧ se.length = 224 ∧ at'.length = 224 ∧ (∀ j : Nat, 0 ≤ se.getD j 0 ∧ se.getD j 0 ≤ 12) ∧ (∀ j : Nat, 0 ≤ at'.getD j 0 ∧ at'.getD j 0 ≤ 6) ∧ ∀ j, j < (K ++ E).length → (se.getD j 0, at'.getD j 0) = (K ++ E).getD j (0, 0)
theorem xMS_mv {K E : List (Int × Int)} {f f' : Nat → zE} (h1 : f' 185 = f 185) (h2 : f' 186 = f 186) (h : xMS K E f) : xMS K E f' := by
  obtain ⟨se, at', a1, a2, a3⟩ := h
  exact ⟨se, at', h1.trans a1, h2.trans a2, a3⟩
/-- brackets, counts and rows of the model beside the grammar's state -/
def xCM (K : List (Int × Int)) (R0 : Nat → Int × Int) (C : xC) (bc dp tk0 : Nat → Int) (f0 f : Nat → zE) (op : Int) (tm oa : List Int) (m d B : Int) : Prop := (0 ≤ op ∧ op ≤ 3) ∧ (1 ≤ d ∧ d ≤ 7) ∧ xMS K C.2.2.1 f ∧ (∀ p, p ≠ 177 → p ≠ 180 → p ≠ 181 → p ≠ 182 → p ≠ 183 → p ≠ 184 → p ≠ 185 → p ≠ 186 → p ≠ 187 → p ≠ 188 → f p = f0 p) ∧ ∃ (mt : Int) (tmM oaM : List Int), xMD R0 C.2.2.2 bc dp tk0 f mt d ∧ min mt 17 = m ∧ f 187 = xr 0 tmM ∧ f 188 = xr 0 oaM ∧ tmM.length = 3 ∧ oaM.length = 3 ∧ (∀ j : Nat, (j : Int) < op → tmM.getD j 0 = tm.getD j 0 ∧ (2 ≤ tm.getD j 0 ∧ tm.getD j 0 ≤ 4) ∧ min (oaM.getD j 0) 17 = oa.getD j 0) ∧ xchain op oaM mt ∧ xphi op oaM mt ≤ B
/-- nothing but the model's object has changed -/
theorem xCM_mv {K : List (Int × Int)} {R0 : Nat → Int × Int} {C : xC} {bc dp tk0 : Nat → Int} {f0 f f' : Nat → zE} {op : Int} {tm oa : List Int} {m d B B' : Int} (h : ∀ p, p ≠ 177 → f' p = f p) (hB : B ≤ B') (k : xCM K R0 C bc dp tk0 f0 f op tm oa m d B) : xCM K R0 C bc dp tk0 f0 f' op tm oa m d B' := by
  obtain ⟨k1, k2, k3, k4, mt, tmM, oaM, k5, k6, k7, k8, k9, k10, k11, k12, k13⟩ := k
  exact ⟨k1, k2, xMS_mv (h 185 (by decide)) (h 186 (by decide)) k3, fun p a1 a2 a3 a4 a5 a6 a7 a8 a9 a10 => (h p a1).trans (k4 p a1 a2 a3 a4 a5 a6 a7 a8 a9 a10), mt, tmM, oaM, xMD_mv (fun p p1 p2 => h p (by omega)) k5, k6, (h 187 (by decide)).trans k7, (h 188 (by decide)).trans k8, k9, k10, k11, k12, by omega⟩
theorem xTM_k {cs : List Int} {n p s e : Nat} {ki kM nu : Int} {wo : Int64} (hp : p ≤ n) (hT : xTK cs n p ki s e) (hM : xTM cs ki s e kM wo nu) : (0 ≤ kM ∧ kM ≤ 4) ∧ (kM = 1 ↔ ki = 1) ∧ (kM = 2 ↔ ki = 2) ∧ (kM = 0 ↔ ki = 0) := by
  have hr := xTK_rg hT hp
  by_cases h3 : ki = 3
  · rcases hM.2.2.2 h3 with ⟨-, h⟩ | ⟨-, h⟩ <;> omega
  · have := hM.2.2.1 h3
    omega
theorem xTK_w {cs : List Int} {n p s e : Nat} {ki : Int} (hT : xTK cs n p ki s e) (h : ki = 1) : xwo (xwd cs s e) ∧ e = xskip xlt cs n s ∧ s < n := by
  rcases hT.2 with ⟨-, h1, -⟩ | ⟨h2, -, -, h1⟩ | ⟨-, -, -, h1, -⟩ | ⟨-, -, -, h1, -⟩
  · omega
  · exact ⟨by rw [h1]; exact xwd_wo, h1, h2⟩
  · omega
  · omega
theorem xm_71 {v0 : Value} {xs : List Int32} {u : Nat × Nat} {f : Nat → zE} {n p s e : Nat} {cs : List Int} {cd fa ki kM nu ca pa op : Int} {wo : Int64} {q : Nat → Value} (hp : p ≤ n) (h177 : f 177 = xmo cd (n : Nat) fa kM (s : Nat) (e : Nat) wo nu ca pa op q) (hT : xTK cs n p ki s e) (hM : xTM cs ki s e kM wo nu) : xq v0 xs u 71 [(0, .ref 177)] f (fun r f' => r = some (xi (if ki = 1 then xfi (xwd cs s e) selW 0 else -1)) ∧ f' = f) := by
  have hk := xTM_k hp hT hM
  by_cases h1 : ki = 1
  · refine xq_mono (xs_71 h177 (by omega) (xTK_w hT h1).1 (fun _ => hM.1 h1)) fun r f' h => ?_
    rw [if_pos (hk.2.1.mpr h1)] at h
    rw [if_pos h1]
    exact h
  · refine xq_mono (xs_71 (wd := none) h177 (by omega) (fun l hl => by cases hl) (fun h => absurd (hk.2.1.mp h) h1)) fun r f' h => ?_
    rw [if_neg (fun h => h1 (hk.2.1.mp h))] at h
    rw [if_neg h1]
    exact h
theorem xm_73 {v0 : Value} {xs : List Int32} {u : Nat × Nat} {f : Nat → zE} {n p s e : Nat} {cs : List Int} {cd fa ki kM nu ca pa op : Int} {wo : Int64} {q : Nat → Value} (hp : p ≤ n) (h177 : f 177 = xmo cd (n : Nat) fa kM (s : Nat) (e : Nat) wo nu ca pa op q) (hT : xTK cs n p ki s e) (hM : xTM cs ki s e kM wo nu) : xq v0 xs u 73 [(0, .ref 177)] f (fun r f' => r = some (xi (if ki = 1 then xfi (xwd cs s e) atW 0 else -1)) ∧ f' = f) := by
  have hk := xTM_k hp hT hM
  by_cases h1 : ki = 1
  · refine xq_mono (xs_73 h177 (by omega) (xTK_w hT h1).1 (fun _ => hM.1 h1)) fun r f' h => ?_
    rw [if_pos (hk.2.1.mpr h1)] at h
    rw [if_pos h1]
    exact h
  · refine xq_mono (xs_73 (wd := none) h177 (by omega) (fun l hl => by cases hl) (fun h => absurd (hk.2.1.mp h) h1)) fun r f' h => ?_
    rw [if_neg (fun h => h1 (hk.2.1.mp h))] at h
    rw [if_neg h1]
    exact h
theorem xm_74 {v0 : Value} {xs : List Int32} {u : Nat × Nat} {f : Nat → zE} {nl : List Int64} {nms : List (List Int)} {n p s e : Nat} {cs : List Int} {cd fa ki kM nu ca pa op : Int} {wo : Int64} {q : Nat → Value} (hp : p ≤ n) (h177 : f 177 = xmo cd (n : Nat) fa kM (s : Nat) (e : Nat) wo nu ca pa op q) (hT : xTK cs n p ki s e) (hM : xTM cs ki s e kM wo nu) (h179 : f 179 = .inr (.inr (.inl nl))) (hlen : nl.length = 13) (hcl : nms.length ≤ 12) (hca : ca = (nms.length : Nat)) (hw : ∀ w ∈ nms, xwf w) (hnl : ∀ k, k < nms.length → nl.getD k 0 = Int64.ofInt (xpr (nms.getD k []))) (hnd : nms.Nodup) : xq v0 xs u 74 [(0, .ref 177)] f (fun r f' => r = some (xi (if ki = 1 then xfi (xwd cs s e) nms 0 else -1)) ∧ f' = f) := by
  have hk := xTM_k hp hT hM
  by_cases h1 : ki = 1
  · refine xq_mono (xs_74 h177 (by omega) (xTK_w hT h1).1 (fun _ => hM.1 h1) h179 hlen hcl hca hw hnl hnd) fun r f' h => ?_
    rw [if_pos (hk.2.1.mpr h1)] at h
    rw [if_pos h1]
    exact h
  · refine xq_mono (xs_74 (wd := none) h177 (by omega) (fun l hl => by cases hl) (fun h => absurd (hk.2.1.mp h) h1) h179 hlen hcl hca hw hnl hnd) fun r f' h => ?_
    rw [if_neg (fun h => h1 (hk.2.1.mp h))] at h
    rw [if_neg h1]
    exact h
end
section
/-! The model reads beats and steps. -/
def xST (K : List (Int × Int)) (R0 : Nat → Int × Int) (C : xC) (cs : List Int) (n : Nat) (nms : List (List Int)) (bc dp tk0 : Nat → Int) (cd fa pa0 : Int) (q : Nat → Value) (f0 f : Nat → zE) (p : Nat) (op : Int) (tm oa : List Int) (m d : Int) : Prop := p ≤ n ∧ ∃ (ki : Int) (s e : Nat) (kM : Int) (wo : Int64) (nu pa : Int), f 177 = xmo cd (n : Nat) fa kM (s : Nat) (e : Nat) wo nu (nms.length : Nat) pa op q ∧ xTK cs n p ki s e ∧ xTM cs ki s e kM wo nu ∧ xCM K R0 C bc dp tk0 f0 f op tm oa m d (1024 * (p : Nat)) ∧ pa0 ≤ pa ∧ 6 * (pa - pa0) ≤ (p : Nat) ∧ pa = ((K ++ C.2.2.1).length : Nat)
def xMW (K : List (Int × Int)) (R0 : Nat → Int × Int) (n : Nat) (nms : List (List Int)) (bc dp tk0 : Nat → Int) (cd fa : Int) (q : Nat → Value) (f0 f : Nat → zE) (z : Int) : Prop := ∃ (kM en : Int) (wo : Int64) (nu pa op mt d : Int) (tmM oaM : List Int) (E : List (Int × Int)) (B : List xBt), f 177 = xmo cd (n : Nat) fa kM z en wo nu (nms.length : Nat) pa op q ∧ ((0 ≤ kM ∧ kM ≤ 4) ∧ (0 ≤ z ∧ z ≤ 100) ∧ (kM = 0 → z = (n : Nat))) ∧ xMD R0 B bc dp tk0 f mt d ∧ f 187 = xr 0 tmM ∧ f 188 = xr 0 oaM ∧ tmM.length = 3 ∧ oaM.length = 3 ∧ xMS K E f ∧ ∀ p, p ≠ 177 → p ≠ 180 → p ≠ 181 → p ≠ 182 → p ≠ 183 → p ≠ 184 → p ≠ 185 → p ≠ 186 → p ≠ 187 → p ≠ 188 → f p = f0 p
theorem xCM_W {K : List (Int × Int)} {R0 : Nat → Int × Int} {C : xC} {n : Nat} {nms : List (List Int)} {bc dp tk0 : Nat → Int} {cd fa kM be en nu pa op op2 : Int} {wo : Int64} {q : Nat → Value} {f0 f : Nat → zE} {tm oa : List Int} {m d B : Int} (h177 : f 177 = xmo cd (n : Nat) fa kM be en wo nu (nms.length : Nat) pa op q) (hkb : (0 ≤ kM ∧ kM ≤ 4) ∧ (0 ≤ be ∧ be ≤ 100) ∧ (kM = 0 → be = (n : Nat))) (h : xCM K R0 C bc dp tk0 f0 f op2 tm oa m d B) : xMW K R0 n nms bc dp tk0 cd fa q f0 f be := by
  obtain ⟨k1, k2, k3, k4, mt, tmM, oaM, k5, k6, k7, k8, k9, k10, -⟩ := h
  exact ⟨_, _, _, _, _, _, mt, d, tmM, oaM, _, _, h177, hkb, k5, k7, k8, k9, k10, k3, k4⟩
theorem xfi_mem {wd : Option (List Int)} : ∀ {l : List (List Int)} {i : Int}, 0 ≤ i → 0 ≤ xfi wd l i → ∃ w ∈ l, wd = some w := by
  intro l
  induction l with
  | nil => intro i _ h; exact absurd h (by simp [xfi])
  | cons w r ih =>
    intro i hi h
    simp only [xfi] at h
    split at h
    · rename_i he
      exact ⟨w, by simp, he⟩
    · obtain ⟨v, h1, h2⟩ := ih (by omega) h
      exact ⟨v, by simp [h1], h2⟩
theorem xwd_len {cs : List Int} {s e : Nat} {w : List Int} (h : xwd cs s e = some w) : w.length = e - s := by
  unfold xwd at h
  split at h
  · cases h
  · cases h; simp [xds]
theorem selW_3 : ∀ w ∈ selW, 3 ≤ w.length := by decide
theorem atW_2 : ∀ w ∈ atW, 2 ≤ w.length := by decide
/-- two words are parted -/
theorem xTK_gap {cs : List Int} {n p s e s2 e2 : Nat} {ki ki2 : Int} (hT : xTK cs n p ki s e) (h : ki = 1) (hT2 : xTK cs n e ki2 s2 e2) (h2 : ki2 = 1) : e + 1 ≤ s2 := by
  obtain ⟨-, he, hs⟩ := xTK_w hT h
  have h3 : e ≤ s2 := by rw [hT2.1]; exact xskip_ge
  by_cases hne : s2 = e
  · exfalso
    have hl2 : s2 < n ∧ xlt (cs.getD s2 0) = true := by
      rcases hT2.2 with ⟨-, h1, -⟩ | ⟨a, b, -⟩ | ⟨-, -, -, h1, -⟩ | ⟨-, -, -, h1, -⟩
      · omega
      · exact ⟨a, b⟩
      · omega
      · omega
    have h4 := xskip_stop (P := xlt) (cs := cs) (n := n) (p := s) (by rw [← he, ← hne]; exact hl2.1)
    rw [← he, ← hne, hl2.2] at h4
    cases h4
  · omega
theorem xs_77l {K : List (Int × Int)} {R0 : Nat → Int × Int} {G : Nat → List xBt} {Cf : xC} {v0 : Value} {xs : List Int32} {u : Nat × Nat} {f0 : Nat → zE} {n : Nat} {cs : List Int} {nms : List (List Int)} {nl : List Int64} {bc dp tk0 : Nat → Int} {cd fa pa0 op m d : Int} {q : Nat → Value} {tm oa : List Int} {p0 : Nat} {fr : Int} {G0 : Int ⊕ (Int × Int)} (hn : n ≤ 100) (hl : cs.length = 100) (hcs : ∀ j : Nat, 0 ≤ cs.getD j 0 ∧ cs.getD j 0 ≤ 126) (h179 : f0 179 = .inr (.inr (.inl nl))) (hlen : nl.length = 13) (hcl : nms.length ≤ 12) (hw : ∀ w ∈ nms, xwf w) (hnl : ∀ k, k < nms.length → nl.getD k 0 = Int64.ofInt (xpr (nms.getD k []))) (hnd : nms.Nodup) (hns : ∀ w ∈ nms, w ∉ selW) (hbc : ∀ i, i < nms.length → 0 ≤ bc i ∧ bc i ≤ 16) (hdp : ∀ i, i < nms.length → 1 ≤ dp i ∧ dp i ≤ 6) (htk : ∀ i, i < nms.length → ∀ k : Nat, (k : Int) < bc i → 0 ≤ tk0 (16 * i + k) ∧ tk0 (16 * i + k) ≤ k) (hpa0 : 0 ≤ pa0 ∧ pa0 ≤ 192) (h178 : f0 178 = xr 1 cs) (hfr : 0 ≤ fr ∧ fr ≤ 224) : ∀ (w p : Nat) (C : xC) (f : Nat → zE) (lv : zL), n ≤ w + p → zlv lv 0 = some (.ref 177) → zlv lv 1 = some (xi fr) → zlv lv 2 = some (xi 1) → xG cs n nms bc dp p (4, op, tm, oa, m, d) = G0 → xGC K G cs n nms bc dp p (4, op, tm, oa, m, d) C = Cf → C.1 = fr → p0 ≤ p → xST K R0 C cs n nms bc dp tk0 cd fa pa0 q f0 f p op tm oa m d → xz v0 xs u (fun o X => ∃ r f', o = .inl r ∧ X = (xh f', u) ∧ (fun r f' => (r = some (xi 0) ∧ ∃ z : Int, G0 = .inl z ∧ xMW K R0 n nms bc dp tk0 cd fa q f0 f' z) ∨ (r = some (xi 1) ∧ ∃ (p' : Nat) (C' : xC), p0 < p' ∧ G0 = xG cs n nms bc dp p' (7, op, tm, oa, min (m + 1) 17, d) ∧ Cf = xGC K G cs n nms bc dp p' (7, op, tm, oa, min (m + 1) 17, d) C' ∧ xST K R0 C' cs n nms bc dp tk0 cd fa pa0 q f0 f' p' op tm oa (min (m + 1) 17) d)) r f') 77 7 lv [] f := by
  intro w
  induction w with
  | zero =>
    intro p C f lv hwp l0 l1 l2 hG hGc hC1 hp0 hst
    obtain ⟨hp, ki, s, e, kM, wo, nu, pa, h177, hT, hM, hC, hpa1, hpa2, hpl⟩ := hst
    have hr := xTK_rg hT hp
    have hk := xTM_k hp hT hM
    have hC0 := hC
    obtain ⟨c1, c2, c3, c4, -⟩ := hC0
    have f178 := (c4 178 (by decide) (by decide) (by decide) (by decide) (by decide) (by decide) (by decide) (by decide) (by decide) (by decide)).trans h178
    have hsl := xfi_rg (wd := xwd cs s e) selW 0 (by decide)
    have hslen : (selW.length : Int) = 13 := rfl
    refine x_iload_n rfl l2 ?_
    refine x_ifeq (t := 84) rfl rfl (by decide) (fun h => absurd h (by decide)) (fun _ => ?_)
    refine x_aload_n rfl l0 ?_
    refine x_call [_] rfl rfl (show (0 : Nat) ≤ 8 from by decide) (show (1 : Nat) ≤ 3 from by decide) (x_rcv (by decide) h177) (xm_71 hp h177 hT hM) (fun r' f' hP => ?_)
    obtain ⟨rfl, rfl⟩ := hP
    refine x_istore_n rfl (show (3 : Nat) < 5 from by decide) ?_
    refine x_iload_n rfl xst_eq ?_
    refine x_ifge (t := 22) rfl rfl (by split <;> omega) (fun hsel => ?_) (fun hno => ?_)
    rotate_left
    · refine x_iconst rfl ?_
      refine x_ireturn rfl (Or.inr (Or.inl ⟨rfl, by decide⟩)) ⟨_, _, rfl, rfl, ?_⟩
      refine Or.inl ⟨rfl, ((s : Nat) : Int), ?_, xCM_W h177 ⟨hk.1, ⟨by omega, by omega⟩, fun h => by have h9 := hr.2.2.2.2.2.2 (hk.2.2.2.mp h); omega⟩ hC⟩
      rw [← hG]
      refine xG_n hp hT (fun _ => by simp [xfin]) (fun _ => ?_)
      unfold xtq
      simp only [xstep]
      rw [if_neg]
      intro h
      rw [if_pos h.1] at hno
      omega
    have hk1 : ki = 1 := by
      by_cases h : ki = 1
      · exact h
      · rw [if_neg h] at hsel; omega
    rw [if_pos hk1] at hsel
    rw [if_pos hk1]
    have hse := hr.2.2.2.2.2.1 (by omega)
    obtain ⟨ws, hws, hwe⟩ := xfi_mem (by decide) hsel
    have hl3 := selW_3 ws hws
    rw [xwd_len hwe] at hl3
    have g1 : xG cs n nms bc dp p (4, op, tm, oa, m, d) = xG cs n nms bc dp e (5, op, tm, oa, m, d) := xG_s hp hT (by omega) (by unfold xtq; simp only [xstep]; rw [if_pos ⟨hk1, by omega⟩])
    have g1c : xGC K G cs n nms bc dp p (4, op, tm, oa, m, d) C = xGC K G cs n nms bc dp e (5, op, tm, oa, m, d) (C.1, xfi (xwd cs s e) selW 0, C.2.2.1, C.2.2.2) := xGC_s hp hT (by omega) (by unfold xtq; simp only [xstep]; rw [if_pos ⟨hk1, by omega⟩]) (by unfold xtc; simp only [xcst]; rw [if_pos hk1])
    refine x_aload_n rfl (xst_ne (by decide) l0 (Or.inl rfl)) ?_
    refine x_call [_] rfl rfl (show (0 : Nat) ≤ 8 from by decide) (show (1 : Nat) ≤ 2 from by decide) (x_rcv (by decide) h177) (xs_69 (p0 := e) h177 f178 hn hl hcs hr.2.2.2.1) (fun r' f1 hP => ?_)
    obtain ⟨rfl, ⟨ki2, s2, e2, kM2, wo2, nu2, h177b, hT2, hM2⟩, hf1⟩ := hP
    have hr2 := xTK_rg hT2 hr.2.2.2.1
    have hal := xfi_rg (wd := xwd cs s2 e2) atW 0 (by decide)
    have halen : (atW.length : Int) = 7 := rfl
    refine x_aload_n rfl (xst_ne (by decide) l0 (Or.inl rfl)) ?_
    refine x_call [_] rfl rfl (show (0 : Nat) ≤ 8 from by decide) (show (1 : Nat) ≤ 3 from by decide) (x_rcv (by decide) h177b) (xm_73 hr.2.2.2.1 h177b hT2 hM2) (fun r' f' hP => ?_)
    obtain ⟨rfl, rfl⟩ := hP
    refine x_istore rfl (show (4 : Nat) < 5 from by decide) ?_
    refine x_iload rfl xst_eq ?_
    refine x_ifge (t := 39) rfl rfl (by split <;> omega) (fun hat => ?_) (fun hno => ?_)
    rotate_left
    · refine x_iconst rfl ?_
      refine x_ireturn rfl (Or.inr (Or.inl ⟨rfl, by decide⟩)) ⟨_, _, rfl, rfl, ?_⟩
      refine Or.inl ⟨rfl, ((s2 : Nat) : Int), ?_, xCM_W h177b ⟨(xTM_k hr.2.2.2.1 hT2 hM2).1, ⟨by omega, by omega⟩, fun h => by have h9 := hr2.2.2.2.2.2.2 ((xTM_k hr.2.2.2.1 hT2 hM2).2.2.2.mp h); omega⟩ (xCM_mv hf1 (Int.le_refl _) hC)⟩
      rw [← hG, g1]
      refine xG_n hr.2.2.2.1 hT2 (fun _ => by simp [xfin]) (fun _ => ?_)
      unfold xtq
      simp only [xstep]
      rw [if_neg]
      intro h
      rw [if_pos h.1] at hno
      omega
    have hk2 : ki2 = 1 := by
      by_cases h : ki2 = 1
      · exact h
      · rw [if_neg h] at hat; omega
    rw [if_pos hk2] at hat
    rw [if_pos hk2]
    have hgap := xTK_gap hT hk1 hT2 hk2
    obtain ⟨wa, hwa, hwae⟩ := xfi_mem (by decide) hat
    have hl2 := atW_2 wa hwa
    rw [xwd_len hwae] at hl2
    have g2 : xG cs n nms bc dp e (5, op, tm, oa, m, d) = xG cs n nms bc dp e2 (6, op, tm, oa, m, d) := xG_s hr.2.2.2.1 hT2 (by omega) (by unfold xtq; simp only [xstep]; rw [if_pos ⟨hk2, by omega⟩])
    have g2c : xGC K G cs n nms bc dp e (5, op, tm, oa, m, d) (C.1, xfi (xwd cs s e) selW 0, C.2.2.1, C.2.2.2) = xGC K G cs n nms bc dp e2 (6, op, tm, oa, m, d) (C.1, xfi (xwd cs s e) selW 0, (C.2.2.1 ++ [(xfi (xwd cs s e) selW 0, xfi (xwd cs s2 e2) atW 0)]), C.2.2.2) := xGC_s hr.2.2.2.1 hT2 (by omega) (by unfold xtq; simp only [xstep]; rw [if_pos ⟨hk2, by omega⟩]) (by unfold xtc; simp only [xcst]; rw [if_pos hk2])
    refine x_aload_n rfl (xst_ne (by decide) (xst_ne (by decide) l0 (Or.inl rfl)) (Or.inl rfl)) ?_
    refine x_call [_] rfl rfl (show (0 : Nat) ≤ 8 from by decide) (show (1 : Nat) ≤ 2 from by decide) (x_rcv (by decide) h177b) (xs_69 (p0 := e2) h177b ((hf1 178 (by decide)).trans f178) hn hl hcs hr2.2.2.2.1) (fun r' f2 hP => ?_)
    obtain ⟨rfl, ⟨ki3, s3, e3, kM3, wo3, nu3, h177c, hT3, hM3⟩, hf2⟩ := hP
    have hr3 := xTK_rg hT3 hr2.2.2.2.1
    have hC2 := xCM_mv (B' := 1024 * ((p : Nat) : Int)) (fun p hp => (hf2 p hp).trans (hf1 p hp)) (Int.le_refl _) hC
    have hC3 := hC2
    obtain ⟨-, -, ⟨se, at', m185, m186, ml1, ml2, mh1, mh2, mc⟩, c4b, mt, tmM, oaM, k5, k6, k7, k8, k9, k10, k11, k12, k13⟩ := hC3
    have hmt := xphi_m c1 k12
    have hmt0 := k12.1
    refine x_aload_n rfl (xst_ne (by decide) (xst_ne (by decide) l0 (Or.inl rfl)) (Or.inl rfl)) ?_
    refine x_getfield rfl (by decide) h177c rfl ?_
    refine x_aload_n rfl (xst_ne (by decide) (xst_ne (by decide) l0 (Or.inl rfl)) (Or.inl rfl)) ?_
    refine x_getfield rfl (by decide) h177c rfl ?_
    refine x_iload_n rfl (xst_ne (by decide) xst_eq (Or.inl rfl)) ?_
    refine x_iastore rfl (by decide) m185 ⟨by omega, by omega⟩ (by omega) ?_
    refine x_aload_n rfl (xst_ne (by decide) (xst_ne (by decide) l0 (Or.inl rfl)) (Or.inl rfl)) ?_
    refine x_getfield rfl (by decide) (xu_ne (by decide) h177c) rfl ?_
    refine x_aload_n rfl (xst_ne (by decide) (xst_ne (by decide) l0 (Or.inl rfl)) (Or.inl rfl)) ?_
    refine x_getfield rfl (by decide) (xu_ne (by decide) h177c) rfl ?_
    refine x_iload rfl xst_eq ?_
    refine x_iastore rfl (by decide) (xu_ne (by decide) m186) ⟨by omega, by omega⟩ (by omega) ?_
    refine x_aload_n rfl (xst_ne (by decide) (xst_ne (by decide) l0 (Or.inl rfl)) (Or.inl rfl)) ?_
    refine x_dup rfl ?_
    refine x_getfield rfl (by decide) (xu_ne (by decide) (xu_ne (by decide) h177c)) rfl ?_
    refine x_iconst rfl ?_
    refine x_iadd rfl ?_
    refine x_putfield rfl (by decide) (xu_ne (by decide) (xu_ne (by decide) h177c)) (show (16 : Nat) < 41 from by decide) rfl ?_
    generalize hgf : xu (xu (xu f2 185 (xr 0 (se.set pa.toNat (xfi (xwd cs s e) selW 0)))) 186 (xr 0 (at'.set pa.toNat (xfi (xwd cs s2 e2) atW 0)))) 177 _ = f3
    have d177 : f3 177 = xmo cd (n : Nat) fa kM3 (s3 : Nat) (e3 : Nat) wo3 nu3 (nms.length : Nat) (pa + 1) op q := by rw [← hgf]; exact xu_eq
    have dfr : ∀ p, p ≠ 177 → p ≠ 185 → p ≠ 186 → f3 p = f2 p := fun p a1 a2 a3 => by rw [← hgf]; exact xu_ne a1 (xu_ne a3 (xu_ne a2 rfl))
    have dMS : xMS K (C.2.2.1 ++ [(xfi (xwd cs s e) selW 0, xfi (xwd cs s2 e2) atW 0)]) f3 := by
      refine ⟨_, _, by rw [← hgf]; exact xu_ne (by decide) (xu_ne (by decide) xu_eq), by rw [← hgf]; exact xu_ne (by decide) xu_eq, by rw [List.length_set]; exact ml1, by rw [List.length_set]; exact ml2, fun j => ?_, fun j => ?_, fun j hj => ?_⟩
      · rw [x_gset]; split
        · omega
        · exact mh1 j
      · rw [x_gset]; split
        · omega
        · exact mh2 j
      · rw [← List.append_assoc, List.length_append, List.length_singleton] at hj
        rw [x_gset, x_gset, ← List.append_assoc]
        by_cases e9 : pa.toNat = j
        · rw [if_pos ⟨e9, by omega⟩, if_pos ⟨e9, by omega⟩, List.getD_eq_getElem?_getD, List.getElem?_append_right (by omega), show j - (K ++ C.2.2.1).length = 0 by omega]
          rfl
        · rw [if_neg (fun h => e9 h.1), if_neg (fun h => e9 h.1), mc j (by omega), List.getD_eq_getElem?_getD, List.getD_eq_getElem?_getD, List.getElem?_append_left (l₁ := K ++ C.2.2.1) (by omega)]
    have hpl2 : pa + 1 = ((K ++ (C.2.2.1 ++ [(xfi (xwd cs s e) selW 0, xfi (xwd cs s2 e2) atW 0)])).length : Nat) := by rw [← List.append_assoc, List.length_append, List.length_singleton]; omega
    have dMD : xMD R0 C.2.2.2 bc dp tk0 f3 mt d := xMD_mv (fun p p1 p2 => dfr p (by omega) (by omega) (by omega)) k5
    have dC : xCM K R0 (C.1, xfi (xwd cs s e) selW 0, (C.2.2.1 ++ [(xfi (xwd cs s e) selW 0, xfi (xwd cs s2 e2) atW 0)]), C.2.2.2) bc dp tk0 f0 f3 op tm oa m d (1024 * ((e2 : Nat) : Int)) := ⟨c1, c2, dMS, fun p a1 a2 a3 a4 a5 a6 a7 a8 a9 a10 => (dfr p a1 a7 a8).trans (c4b p a1 a2 a3 a4 a5 a6 a7 a8 a9 a10), mt, tmM, oaM, dMD, k6, (dfr 187 (by decide) (by decide) (by decide)).trans k7, (dfr 188 (by decide) (by decide) (by decide)).trans k8, k9, k10, k11, k12, by omega⟩
    have d178 : f3 178 = xr 1 cs := (dfr 178 (by decide) (by decide) (by decide)).trans ((hf2 178 (by decide)).trans ((hf1 178 (by decide)).trans f178))
    refine x_aload_n rfl (xst_ne (by decide) (xst_ne (by decide) l0 (Or.inl rfl)) (Or.inl rfl)) ?_
    refine x_bipush rfl (by decide) ?_
    by_cases hcm : ki3 = 3 ∧ cs.getD s3 0 = 44
    · skip
      refine x_call [_, _] rfl rfl (show (0 : Nat) ≤ 8 from by decide) (show (2 : Nat) ≤ 3 from by decide) (x_rcv (by decide) d177) (xs_75t d177 d178 hn hl hcs hr2.2.2.2.1 hT3 hM3 (by unfold xsgn; omega) hcm) (fun r' f4 hP => ?_)
      obtain ⟨rfl, ⟨ki4, s4, e4, kM4, wo4, nu4, h177d, hT4, hM4⟩, hf4⟩ := hP
      have hse3 := hr3.2.2.2.2.2.1 (by omega)
      refine x_istore_n rfl (show (2 : Nat) < 5 from by decide) ?_
      refine x_goto (t := 7) rfl rfl ?_
      exfalso; omega
    · skip
      refine x_call [_, _] rfl rfl (show (0 : Nat) ≤ 8 from by decide) (show (2 : Nat) ≤ 3 from by decide) (x_rcv (by decide) d177) (xs_75f d177 d178 hn hl hcs hr2.2.2.2.1 hT3 hM3 (by unfold xsgn; omega) hcm) (fun r' f4 hP => ?_)
      obtain ⟨rfl, rfl⟩ := hP
      refine x_istore_n rfl (show (2 : Nat) < 5 from by decide) ?_
      refine x_goto (t := 7) rfl rfl ?_
      refine x_iload_n rfl xst_eq ?_
      refine x_ifeq (t := 84) rfl rfl (by decide) (fun _ => ?_) (fun h => absurd rfl h)
      refine x_aload_n rfl (xst_ne (by decide) (xst_ne (by decide) (xst_ne (by decide) l0 (Or.inl rfl)) (Or.inl rfl)) (Or.inl rfl)) ?_
      refine x_iconst rfl ?_
      refine x_iload_n rfl (xst_ne (by decide) (xst_ne (by decide) (xst_ne (by decide) l1 (Or.inl rfl)) (Or.inl rfl)) (Or.inl rfl)) ?_
      refine x_aload_n rfl (xst_ne (by decide) (xst_ne (by decide) (xst_ne (by decide) l0 (Or.inl rfl)) (Or.inl rfl)) (Or.inl rfl)) ?_
      refine x_getfield rfl (by decide) d177 rfl ?_
      refine x_call [_, _, _, _] rfl rfl (show (0 : Nat) ≤ 8 from by decide) (show (4 : Nat) ≤ 4 from by decide) (x_rcv (by decide) d177) (xs_76 d177 (by omega) dMD ⟨by omega, fun _ => by omega⟩ hfr ⟨by omega, by omega⟩) (fun r' f5 hP => ?_)
      obtain ⟨rfl, hQ1, hQ2⟩ := hP
      refine x_iconst rfl ?_
      refine x_ireturn rfl (Or.inr (Or.inl ⟨rfl, by decide⟩)) ⟨_, _, rfl, rfl, ?_⟩
      have hcap : C.2.2.2 ++ [(fr, pa + 1, -1)] = (xcap K (C.1, xfi (xwd cs s e) selW 0, (C.2.2.1 ++ [(xfi (xwd cs s e) selW 0, xfi (xwd cs s2 e2) atW 0)]), C.2.2.2)).2.2.2 := by
        show _ = C.2.2.2 ++ [(C.1, ((K ++ (C.2.2.1 ++ [(xfi (xwd cs s e) selW 0, xfi (xwd cs s2 e2) atW 0)])).length : Int), -1)]
        rw [hC1, hpl2]
      have hadd := xphi_add (b := 1) (m := mt) (oa := oaM) c1 (by decide)
      refine Or.inr ⟨rfl, e2, xcap K (C.1, xfi (xwd cs s e) selW 0, (C.2.2.1 ++ [(xfi (xwd cs s e) selW 0, xfi (xwd cs s2 e2) atW 0)]), C.2.2.2), by omega, by rw [← hG, g1, g2]; exact xG_67 hr2.2.2.2.1 hT3 hcm, by rw [← hGc, g1c, g2c]; exact xGC_67 hr2.2.2.2.1 hT3 hcm, hr2.2.2.2.1, ki3, s3, e3, kM3, wo3, nu3, pa + 1, (hQ2 177 (by decide) (by decide) (by decide) (by decide)).trans d177, hT3, hM3, ⟨c1, c2, xMS_mv (hQ2 185 (by decide) (by decide) (by decide) (by decide)) (hQ2 186 (by decide) (by decide) (by decide) (by decide)) dMS, fun p a1 a2 a3 a4 a5 a6 a7 a8 a9 a10 => (hQ2 p a2 a4 a5 a6).trans ((dfr p a1 a7 a8).trans (c4b p a1 a2 a3 a4 a5 a6 a7 a8 a9 a10)), mt + 1, tmM, oaM, by rw [← hcap]; exact hQ1, by omega, (hQ2 187 (by decide) (by decide) (by decide) (by decide)).trans ((dfr 187 (by decide) (by decide) (by decide)).trans k7), (hQ2 188 (by decide) (by decide) (by decide) (by decide)).trans ((dfr 188 (by decide) (by decide) (by decide)).trans k8), k9, k10, k11, xchain_add (by decide) k12, ?_⟩, by omega, by omega, hpl2⟩
      omega
  | succ w ih =>
    intro p C f lv hwp l0 l1 l2 hG hGc hC1 hp0 hst
    obtain ⟨hp, ki, s, e, kM, wo, nu, pa, h177, hT, hM, hC, hpa1, hpa2, hpl⟩ := hst
    have hr := xTK_rg hT hp
    have hk := xTM_k hp hT hM
    have hC0 := hC
    obtain ⟨c1, c2, c3, c4, -⟩ := hC0
    have f178 := (c4 178 (by decide) (by decide) (by decide) (by decide) (by decide) (by decide) (by decide) (by decide) (by decide) (by decide)).trans h178
    have hsl := xfi_rg (wd := xwd cs s e) selW 0 (by decide)
    have hslen : (selW.length : Int) = 13 := rfl
    refine x_iload_n rfl l2 ?_
    refine x_ifeq (t := 84) rfl rfl (by decide) (fun h => absurd h (by decide)) (fun _ => ?_)
    refine x_aload_n rfl l0 ?_
    refine x_call [_] rfl rfl (show (0 : Nat) ≤ 8 from by decide) (show (1 : Nat) ≤ 3 from by decide) (x_rcv (by decide) h177) (xm_71 hp h177 hT hM) (fun r' f' hP => ?_)
    obtain ⟨rfl, rfl⟩ := hP
    refine x_istore_n rfl (show (3 : Nat) < 5 from by decide) ?_
    refine x_iload_n rfl xst_eq ?_
    refine x_ifge (t := 22) rfl rfl (by split <;> omega) (fun hsel => ?_) (fun hno => ?_)
    rotate_left
    · refine x_iconst rfl ?_
      refine x_ireturn rfl (Or.inr (Or.inl ⟨rfl, by decide⟩)) ⟨_, _, rfl, rfl, ?_⟩
      refine Or.inl ⟨rfl, ((s : Nat) : Int), ?_, xCM_W h177 ⟨hk.1, ⟨by omega, by omega⟩, fun h => by have h9 := hr.2.2.2.2.2.2 (hk.2.2.2.mp h); omega⟩ hC⟩
      rw [← hG]
      refine xG_n hp hT (fun _ => by simp [xfin]) (fun _ => ?_)
      unfold xtq
      simp only [xstep]
      rw [if_neg]
      intro h
      rw [if_pos h.1] at hno
      omega
    have hk1 : ki = 1 := by
      by_cases h : ki = 1
      · exact h
      · rw [if_neg h] at hsel; omega
    rw [if_pos hk1] at hsel
    rw [if_pos hk1]
    have hse := hr.2.2.2.2.2.1 (by omega)
    obtain ⟨ws, hws, hwe⟩ := xfi_mem (by decide) hsel
    have hl3 := selW_3 ws hws
    rw [xwd_len hwe] at hl3
    have g1 : xG cs n nms bc dp p (4, op, tm, oa, m, d) = xG cs n nms bc dp e (5, op, tm, oa, m, d) := xG_s hp hT (by omega) (by unfold xtq; simp only [xstep]; rw [if_pos ⟨hk1, by omega⟩])
    have g1c : xGC K G cs n nms bc dp p (4, op, tm, oa, m, d) C = xGC K G cs n nms bc dp e (5, op, tm, oa, m, d) (C.1, xfi (xwd cs s e) selW 0, C.2.2.1, C.2.2.2) := xGC_s hp hT (by omega) (by unfold xtq; simp only [xstep]; rw [if_pos ⟨hk1, by omega⟩]) (by unfold xtc; simp only [xcst]; rw [if_pos hk1])
    refine x_aload_n rfl (xst_ne (by decide) l0 (Or.inl rfl)) ?_
    refine x_call [_] rfl rfl (show (0 : Nat) ≤ 8 from by decide) (show (1 : Nat) ≤ 2 from by decide) (x_rcv (by decide) h177) (xs_69 (p0 := e) h177 f178 hn hl hcs hr.2.2.2.1) (fun r' f1 hP => ?_)
    obtain ⟨rfl, ⟨ki2, s2, e2, kM2, wo2, nu2, h177b, hT2, hM2⟩, hf1⟩ := hP
    have hr2 := xTK_rg hT2 hr.2.2.2.1
    have hal := xfi_rg (wd := xwd cs s2 e2) atW 0 (by decide)
    have halen : (atW.length : Int) = 7 := rfl
    refine x_aload_n rfl (xst_ne (by decide) l0 (Or.inl rfl)) ?_
    refine x_call [_] rfl rfl (show (0 : Nat) ≤ 8 from by decide) (show (1 : Nat) ≤ 3 from by decide) (x_rcv (by decide) h177b) (xm_73 hr.2.2.2.1 h177b hT2 hM2) (fun r' f' hP => ?_)
    obtain ⟨rfl, rfl⟩ := hP
    refine x_istore rfl (show (4 : Nat) < 5 from by decide) ?_
    refine x_iload rfl xst_eq ?_
    refine x_ifge (t := 39) rfl rfl (by split <;> omega) (fun hat => ?_) (fun hno => ?_)
    rotate_left
    · refine x_iconst rfl ?_
      refine x_ireturn rfl (Or.inr (Or.inl ⟨rfl, by decide⟩)) ⟨_, _, rfl, rfl, ?_⟩
      refine Or.inl ⟨rfl, ((s2 : Nat) : Int), ?_, xCM_W h177b ⟨(xTM_k hr.2.2.2.1 hT2 hM2).1, ⟨by omega, by omega⟩, fun h => by have h9 := hr2.2.2.2.2.2.2 ((xTM_k hr.2.2.2.1 hT2 hM2).2.2.2.mp h); omega⟩ (xCM_mv hf1 (Int.le_refl _) hC)⟩
      rw [← hG, g1]
      refine xG_n hr.2.2.2.1 hT2 (fun _ => by simp [xfin]) (fun _ => ?_)
      unfold xtq
      simp only [xstep]
      rw [if_neg]
      intro h
      rw [if_pos h.1] at hno
      omega
    have hk2 : ki2 = 1 := by
      by_cases h : ki2 = 1
      · exact h
      · rw [if_neg h] at hat; omega
    rw [if_pos hk2] at hat
    rw [if_pos hk2]
    have hgap := xTK_gap hT hk1 hT2 hk2
    obtain ⟨wa, hwa, hwae⟩ := xfi_mem (by decide) hat
    have hl2 := atW_2 wa hwa
    rw [xwd_len hwae] at hl2
    have g2 : xG cs n nms bc dp e (5, op, tm, oa, m, d) = xG cs n nms bc dp e2 (6, op, tm, oa, m, d) := xG_s hr.2.2.2.1 hT2 (by omega) (by unfold xtq; simp only [xstep]; rw [if_pos ⟨hk2, by omega⟩])
    have g2c : xGC K G cs n nms bc dp e (5, op, tm, oa, m, d) (C.1, xfi (xwd cs s e) selW 0, C.2.2.1, C.2.2.2) = xGC K G cs n nms bc dp e2 (6, op, tm, oa, m, d) (C.1, xfi (xwd cs s e) selW 0, (C.2.2.1 ++ [(xfi (xwd cs s e) selW 0, xfi (xwd cs s2 e2) atW 0)]), C.2.2.2) := xGC_s hr.2.2.2.1 hT2 (by omega) (by unfold xtq; simp only [xstep]; rw [if_pos ⟨hk2, by omega⟩]) (by unfold xtc; simp only [xcst]; rw [if_pos hk2])
    refine x_aload_n rfl (xst_ne (by decide) (xst_ne (by decide) l0 (Or.inl rfl)) (Or.inl rfl)) ?_
    refine x_call [_] rfl rfl (show (0 : Nat) ≤ 8 from by decide) (show (1 : Nat) ≤ 2 from by decide) (x_rcv (by decide) h177b) (xs_69 (p0 := e2) h177b ((hf1 178 (by decide)).trans f178) hn hl hcs hr2.2.2.2.1) (fun r' f2 hP => ?_)
    obtain ⟨rfl, ⟨ki3, s3, e3, kM3, wo3, nu3, h177c, hT3, hM3⟩, hf2⟩ := hP
    have hr3 := xTK_rg hT3 hr2.2.2.2.1
    have hC2 := xCM_mv (B' := 1024 * ((p : Nat) : Int)) (fun p hp => (hf2 p hp).trans (hf1 p hp)) (Int.le_refl _) hC
    have hC3 := hC2
    obtain ⟨-, -, ⟨se, at', m185, m186, ml1, ml2, mh1, mh2, mc⟩, c4b, mt, tmM, oaM, k5, k6, k7, k8, k9, k10, k11, k12, k13⟩ := hC3
    have hmt := xphi_m c1 k12
    have hmt0 := k12.1
    refine x_aload_n rfl (xst_ne (by decide) (xst_ne (by decide) l0 (Or.inl rfl)) (Or.inl rfl)) ?_
    refine x_getfield rfl (by decide) h177c rfl ?_
    refine x_aload_n rfl (xst_ne (by decide) (xst_ne (by decide) l0 (Or.inl rfl)) (Or.inl rfl)) ?_
    refine x_getfield rfl (by decide) h177c rfl ?_
    refine x_iload_n rfl (xst_ne (by decide) xst_eq (Or.inl rfl)) ?_
    refine x_iastore rfl (by decide) m185 ⟨by omega, by omega⟩ (by omega) ?_
    refine x_aload_n rfl (xst_ne (by decide) (xst_ne (by decide) l0 (Or.inl rfl)) (Or.inl rfl)) ?_
    refine x_getfield rfl (by decide) (xu_ne (by decide) h177c) rfl ?_
    refine x_aload_n rfl (xst_ne (by decide) (xst_ne (by decide) l0 (Or.inl rfl)) (Or.inl rfl)) ?_
    refine x_getfield rfl (by decide) (xu_ne (by decide) h177c) rfl ?_
    refine x_iload rfl xst_eq ?_
    refine x_iastore rfl (by decide) (xu_ne (by decide) m186) ⟨by omega, by omega⟩ (by omega) ?_
    refine x_aload_n rfl (xst_ne (by decide) (xst_ne (by decide) l0 (Or.inl rfl)) (Or.inl rfl)) ?_
    refine x_dup rfl ?_
    refine x_getfield rfl (by decide) (xu_ne (by decide) (xu_ne (by decide) h177c)) rfl ?_
    refine x_iconst rfl ?_
    refine x_iadd rfl ?_
    refine x_putfield rfl (by decide) (xu_ne (by decide) (xu_ne (by decide) h177c)) (show (16 : Nat) < 41 from by decide) rfl ?_
    generalize hgf : xu (xu (xu f2 185 (xr 0 (se.set pa.toNat (xfi (xwd cs s e) selW 0)))) 186 (xr 0 (at'.set pa.toNat (xfi (xwd cs s2 e2) atW 0)))) 177 _ = f3
    have d177 : f3 177 = xmo cd (n : Nat) fa kM3 (s3 : Nat) (e3 : Nat) wo3 nu3 (nms.length : Nat) (pa + 1) op q := by rw [← hgf]; exact xu_eq
    have dfr : ∀ p, p ≠ 177 → p ≠ 185 → p ≠ 186 → f3 p = f2 p := fun p a1 a2 a3 => by rw [← hgf]; exact xu_ne a1 (xu_ne a3 (xu_ne a2 rfl))
    have dMS : xMS K (C.2.2.1 ++ [(xfi (xwd cs s e) selW 0, xfi (xwd cs s2 e2) atW 0)]) f3 := by
      refine ⟨_, _, by rw [← hgf]; exact xu_ne (by decide) (xu_ne (by decide) xu_eq), by rw [← hgf]; exact xu_ne (by decide) xu_eq, by rw [List.length_set]; exact ml1, by rw [List.length_set]; exact ml2, fun j => ?_, fun j => ?_, fun j hj => ?_⟩
      · rw [x_gset]; split
        · omega
        · exact mh1 j
      · rw [x_gset]; split
        · omega
        · exact mh2 j
      · rw [← List.append_assoc, List.length_append, List.length_singleton] at hj
        rw [x_gset, x_gset, ← List.append_assoc]
        by_cases e9 : pa.toNat = j
        · rw [if_pos ⟨e9, by omega⟩, if_pos ⟨e9, by omega⟩, List.getD_eq_getElem?_getD, List.getElem?_append_right (by omega), show j - (K ++ C.2.2.1).length = 0 by omega]
          rfl
        · rw [if_neg (fun h => e9 h.1), if_neg (fun h => e9 h.1), mc j (by omega), List.getD_eq_getElem?_getD, List.getD_eq_getElem?_getD, List.getElem?_append_left (l₁ := K ++ C.2.2.1) (by omega)]
    have hpl2 : pa + 1 = ((K ++ (C.2.2.1 ++ [(xfi (xwd cs s e) selW 0, xfi (xwd cs s2 e2) atW 0)])).length : Nat) := by rw [← List.append_assoc, List.length_append, List.length_singleton]; omega
    have dMD : xMD R0 C.2.2.2 bc dp tk0 f3 mt d := xMD_mv (fun p p1 p2 => dfr p (by omega) (by omega) (by omega)) k5
    have dC : xCM K R0 (C.1, xfi (xwd cs s e) selW 0, (C.2.2.1 ++ [(xfi (xwd cs s e) selW 0, xfi (xwd cs s2 e2) atW 0)]), C.2.2.2) bc dp tk0 f0 f3 op tm oa m d (1024 * ((e2 : Nat) : Int)) := ⟨c1, c2, dMS, fun p a1 a2 a3 a4 a5 a6 a7 a8 a9 a10 => (dfr p a1 a7 a8).trans (c4b p a1 a2 a3 a4 a5 a6 a7 a8 a9 a10), mt, tmM, oaM, dMD, k6, (dfr 187 (by decide) (by decide) (by decide)).trans k7, (dfr 188 (by decide) (by decide) (by decide)).trans k8, k9, k10, k11, k12, by omega⟩
    have d178 : f3 178 = xr 1 cs := (dfr 178 (by decide) (by decide) (by decide)).trans ((hf2 178 (by decide)).trans ((hf1 178 (by decide)).trans f178))
    refine x_aload_n rfl (xst_ne (by decide) (xst_ne (by decide) l0 (Or.inl rfl)) (Or.inl rfl)) ?_
    refine x_bipush rfl (by decide) ?_
    by_cases hcm : ki3 = 3 ∧ cs.getD s3 0 = 44
    · skip
      refine x_call [_, _] rfl rfl (show (0 : Nat) ≤ 8 from by decide) (show (2 : Nat) ≤ 3 from by decide) (x_rcv (by decide) d177) (xs_75t d177 d178 hn hl hcs hr2.2.2.2.1 hT3 hM3 (by unfold xsgn; omega) hcm) (fun r' f4 hP => ?_)
      obtain ⟨rfl, ⟨ki4, s4, e4, kM4, wo4, nu4, h177d, hT4, hM4⟩, hf4⟩ := hP
      have hse3 := hr3.2.2.2.2.2.1 (by omega)
      refine x_istore_n rfl (show (2 : Nat) < 5 from by decide) ?_
      refine x_goto (t := 7) rfl rfl ?_
      refine ih e3 (C.1, xfi (xwd cs s e) selW 0, (C.2.2.1 ++ [(xfi (xwd cs s e) selW 0, xfi (xwd cs s2 e2) atW 0)]), C.2.2.2) f4 _ (by omega) (xst_ne (by decide) (xst_ne (by decide) (xst_ne (by decide) l0 (Or.inl rfl)) (Or.inl rfl)) (Or.inl rfl)) (xst_ne (by decide) (xst_ne (by decide) (xst_ne (by decide) l1 (Or.inl rfl)) (Or.inl rfl)) (Or.inl rfl)) xst_eq ?_ ?_ hC1 (by omega) ⟨hr3.2.2.2.1, ki4, s4, e4, kM4, wo4, nu4, pa + 1, h177d, hT4, hM4, xCM_mv hf4 (by omega) dC, by omega, by omega, hpl2⟩
      · rw [← hG, g1, g2]
        exact (xG_s hr2.2.2.2.1 hT3 (by omega) (by unfold xtq; simp only [xstep]; rw [if_pos hcm])).symm
      · rw [← hGc, g1c, g2c]
        exact (xGC_s hr2.2.2.2.1 hT3 (by omega) (by unfold xtq; simp only [xstep]; rw [if_pos hcm]) (by unfold xtc; simp only [xcst]; rw [if_pos hcm])).symm
    · skip
      refine x_call [_, _] rfl rfl (show (0 : Nat) ≤ 8 from by decide) (show (2 : Nat) ≤ 3 from by decide) (x_rcv (by decide) d177) (xs_75f d177 d178 hn hl hcs hr2.2.2.2.1 hT3 hM3 (by unfold xsgn; omega) hcm) (fun r' f4 hP => ?_)
      obtain ⟨rfl, rfl⟩ := hP
      refine x_istore_n rfl (show (2 : Nat) < 5 from by decide) ?_
      refine x_goto (t := 7) rfl rfl ?_
      refine x_iload_n rfl xst_eq ?_
      refine x_ifeq (t := 84) rfl rfl (by decide) (fun _ => ?_) (fun h => absurd rfl h)
      refine x_aload_n rfl (xst_ne (by decide) (xst_ne (by decide) (xst_ne (by decide) l0 (Or.inl rfl)) (Or.inl rfl)) (Or.inl rfl)) ?_
      refine x_iconst rfl ?_
      refine x_iload_n rfl (xst_ne (by decide) (xst_ne (by decide) (xst_ne (by decide) l1 (Or.inl rfl)) (Or.inl rfl)) (Or.inl rfl)) ?_
      refine x_aload_n rfl (xst_ne (by decide) (xst_ne (by decide) (xst_ne (by decide) l0 (Or.inl rfl)) (Or.inl rfl)) (Or.inl rfl)) ?_
      refine x_getfield rfl (by decide) d177 rfl ?_
      refine x_call [_, _, _, _] rfl rfl (show (0 : Nat) ≤ 8 from by decide) (show (4 : Nat) ≤ 4 from by decide) (x_rcv (by decide) d177) (xs_76 d177 (by omega) dMD ⟨by omega, fun _ => by omega⟩ hfr ⟨by omega, by omega⟩) (fun r' f5 hP => ?_)
      obtain ⟨rfl, hQ1, hQ2⟩ := hP
      refine x_iconst rfl ?_
      refine x_ireturn rfl (Or.inr (Or.inl ⟨rfl, by decide⟩)) ⟨_, _, rfl, rfl, ?_⟩
      have hcap : C.2.2.2 ++ [(fr, pa + 1, -1)] = (xcap K (C.1, xfi (xwd cs s e) selW 0, (C.2.2.1 ++ [(xfi (xwd cs s e) selW 0, xfi (xwd cs s2 e2) atW 0)]), C.2.2.2)).2.2.2 := by
        show _ = C.2.2.2 ++ [(C.1, ((K ++ (C.2.2.1 ++ [(xfi (xwd cs s e) selW 0, xfi (xwd cs s2 e2) atW 0)])).length : Int), -1)]
        rw [hC1, hpl2]
      have hadd := xphi_add (b := 1) (m := mt) (oa := oaM) c1 (by decide)
      refine Or.inr ⟨rfl, e2, xcap K (C.1, xfi (xwd cs s e) selW 0, (C.2.2.1 ++ [(xfi (xwd cs s e) selW 0, xfi (xwd cs s2 e2) atW 0)]), C.2.2.2), by omega, by rw [← hG, g1, g2]; exact xG_67 hr2.2.2.2.1 hT3 hcm, by rw [← hGc, g1c, g2c]; exact xGC_67 hr2.2.2.2.1 hT3 hcm, hr2.2.2.2.1, ki3, s3, e3, kM3, wo3, nu3, pa + 1, (hQ2 177 (by decide) (by decide) (by decide) (by decide)).trans d177, hT3, hM3, ⟨c1, c2, xMS_mv (hQ2 185 (by decide) (by decide) (by decide) (by decide)) (hQ2 186 (by decide) (by decide) (by decide) (by decide)) dMS, fun p a1 a2 a3 a4 a5 a6 a7 a8 a9 a10 => (hQ2 p a2 a4 a5 a6).trans ((dfr p a1 a7 a8).trans (c4b p a1 a2 a3 a4 a5 a6 a7 a8 a9 a10)), mt + 1, tmM, oaM, by rw [← hcap]; exact hQ1, by omega, (hQ2 187 (by decide) (by decide) (by decide) (by decide)).trans ((dfr 187 (by decide) (by decide) (by decide)).trans k7), (hQ2 188 (by decide) (by decide) (by decide) (by decide)).trans ((dfr 188 (by decide) (by decide) (by decide)).trans k8), k9, k10, k11, xchain_add (by decide) k12, ?_⟩, by omega, by omega, hpl2⟩
      omega
end
section
/-! The model reads a step. -/
theorem xs_77 {K : List (Int × Int)} {R0 : Nat → Int × Int} {G : Nat → List xBt} {C : xC} {v0 : Value} {xs : List Int32} {u : Nat × Nat} {f0 : Nat → zE} {n : Nat} {cs : List Int} {nms : List (List Int)} {nl : List Int64} {bc dp tk0 : Nat → Int} {cd fa pa0 op m d : Int} {q : Nat → Value} {tm oa : List Int} {p : Nat} {f : Nat → zE} (hn : n ≤ 100) (hl : cs.length = 100) (hcs : ∀ j : Nat, 0 ≤ cs.getD j 0 ∧ cs.getD j 0 ≤ 126) (h179 : f0 179 = .inr (.inr (.inl nl))) (hlen : nl.length = 13) (hcl : nms.length ≤ 12) (hw : ∀ w ∈ nms, xwf w) (hnl : ∀ k, k < nms.length → nl.getD k 0 = Int64.ofInt (xpr (nms.getD k []))) (hnd : nms.Nodup) (hns : ∀ w ∈ nms, w ∉ selW) (hbc : ∀ i, i < nms.length → 0 ≤ bc i ∧ bc i ≤ 16) (hdp : ∀ i, i < nms.length → 1 ≤ dp i ∧ dp i ≤ 6) (htk : ∀ i, i < nms.length → ∀ k : Nat, (k : Int) < bc i → 0 ≤ tk0 (16 * i + k) ∧ tk0 (16 * i + k) ≤ k) (hpa0 : 0 ≤ pa0 ∧ pa0 ≤ 192) (h178 : f0 178 = xr 1 cs) (hC1 : C.1 = ((K ++ C.2.2.1).length : Nat)) (hst : xST K R0 C cs n nms bc dp tk0 cd fa pa0 q f0 f p op tm oa m d) : xq v0 xs u 77 [(0, .ref 177)] f (fun r f' => (r = some (xi 0) ∧ ∃ z : Int, xG cs n nms bc dp p (4, op, tm, oa, m, d) = .inl z ∧ xMW K R0 n nms bc dp tk0 cd fa q f0 f' z) ∨ (r = some (xi 1) ∧ ∃ (p' : Nat) (C' : xC), p < p' ∧ xG cs n nms bc dp p (4, op, tm, oa, m, d) = xG cs n nms bc dp p' (7, op, tm, oa, min (m + 1) 17, d) ∧ xGC K G cs n nms bc dp p (4, op, tm, oa, m, d) C = xGC K G cs n nms bc dp p' (7, op, tm, oa, min (m + 1) 17, d) C' ∧ xST K R0 C' cs n nms bc dp tk0 cd fa pa0 q f0 f' p' op tm oa (min (m + 1) 17) d)) := by
  unfold xq
  have hst0 := hst
  obtain ⟨hp, ki, s, e, kM, wo, nu, pa, h177, hT, hM, hC, hpa1, hpa2, hpl⟩ := hst
  refine x_aload_n rfl rfl ?_
  refine x_getfield rfl (by decide) h177 rfl ?_
  refine x_istore_n rfl (show (1 : Nat) < 5 from by decide) ?_
  refine x_iconst rfl ?_
  refine x_istore_n rfl (show (2 : Nat) < 5 from by decide) ?_
  exact xs_77l hn hl hcs h179 hlen hcl hw hnl hnd hns hbc hdp htk hpa0 h178 ⟨by omega, by omega⟩ n p C f _ (by omega) (xst_ne (by decide) (xst_ne (by decide) rfl (Or.inl rfl)) (Or.inl rfl)) (xst_ne (by decide) xst_eq (Or.inl rfl)) xst_eq rfl rfl (hC1.trans hpl.symm) (Nat.le_refl _) hst0
theorem xs_79 {K : List (Int × Int)} {R0 : Nat → Int × Int} {G : Nat → List xBt} {C : xC} {v0 : Value} {xs : List Int32} {u : Nat × Nat} {f0 : Nat → zE} {n : Nat} {cs : List Int} {nms : List (List Int)} {nl : List Int64} {bc dp tk0 : Nat → Int} {cd fa pa0 op m d : Int} {q : Nat → Value} {tm oa : List Int} {p : Nat} {f : Nat → zE} (hn : n ≤ 100) (hl : cs.length = 100) (hcs : ∀ j : Nat, 0 ≤ cs.getD j 0 ∧ cs.getD j 0 ≤ 126) (h179 : f0 179 = .inr (.inr (.inl nl))) (hlen : nl.length = 13) (hcl : nms.length ≤ 12) (hw : ∀ w ∈ nms, xwf w) (hnl : ∀ k, k < nms.length → nl.getD k 0 = Int64.ofInt (xpr (nms.getD k []))) (hnd : nms.Nodup) (hns : ∀ w ∈ nms, w ∉ selW) (hbc : ∀ i, i < nms.length → 0 ≤ bc i ∧ bc i ≤ 16) (hdp : ∀ i, i < nms.length → 1 ≤ dp i ∧ dp i ≤ 6) (htk : ∀ i, i < nms.length → ∀ k : Nat, (k : Int) < bc i → 0 ≤ tk0 (16 * i + k) ∧ tk0 (16 * i + k) ≤ k) (hpa0 : 0 ≤ pa0 ∧ pa0 ≤ 192) (h178 : f0 178 = xr 1 cs) (hGk : ∀ i, i < nms.length → ((G i).length : Int) = bc i ∧ ∀ k, k < (G i).length → ((R0 (16 * i + k)).1, (R0 (16 * i + k)).2, tk0 (16 * i + k)) = (G i).getD k (0, 0, 0)) (htl : tm.length = 3) (hol : oa.length = 3) (hst : xST K R0 C cs n nms bc dp tk0 cd fa pa0 q f0 f p op tm oa m d) : xq v0 xs u 79 [(0, .ref 177)] f (fun r f' => (r = some (xi 0) ∧ ∃ z : Int, xG cs n nms bc dp p (2, op, tm, oa, m, d) = .inl z ∧ xMW K R0 n nms bc dp tk0 cd fa q f0 f' z) ∨ (r = some (xi 1) ∧ ∃ (p' : Nat) (m' d' : Int) (C' : xC), p < p' ∧ xG cs n nms bc dp p (2, op, tm, oa, m, d) = xG cs n nms bc dp p' (7, op, tm, oa, m', d') ∧ xGC K G cs n nms bc dp p (2, op, tm, oa, m, d) C = xGC K G cs n nms bc dp p' (7, op, tm, oa, m', d') C' ∧ xST K R0 C' cs n nms bc dp tk0 cd fa pa0 q f0 f' p' op tm oa m' d') ∨ (r = some (xi 1) ∧ ∃ (p' : Nat) (tm' oa' : List Int), p < p' ∧ op < 3 ∧ tm'.length = 3 ∧ oa'.length = 3 ∧ xG cs n nms bc dp p (2, op, tm, oa, m, d) = xG cs n nms bc dp p' (2, op + 1, tm', oa', m, d) ∧ xGC K G cs n nms bc dp p (2, op, tm, oa, m, d) C = xGC K G cs n nms bc dp p' (2, op + 1, tm', oa', m, d) C ∧ xST K R0 C cs n nms bc dp tk0 cd fa pa0 q f0 f' p' (op + 1) tm' oa' m d)) := by
  unfold xq
  have hst0 := hst
  obtain ⟨hp, ki, s, e, kM, wo, nu, pa, h177, hT, hM, hC, hpa1, hpa2, hpl⟩ := hst
  have hr := xTK_rg hT hp
  have hk := xTM_k hp hT hM
  have hC0 := hC
  obtain ⟨c1, c2, c3, c4, mt, tmM, oaM, k5, k6, k7, k8, k9, k10, k11, k12, k13⟩ := hC0
  have f178 := (c4 178 (by decide) (by decide) (by decide) (by decide) (by decide) (by decide) (by decide) (by decide) (by decide) (by decide)).trans h178
  have f179 := (c4 179 (by decide) (by decide) (by decide) (by decide) (by decide) (by decide) (by decide) (by decide) (by decide) (by decide)).trans h179
  have hmt := xphi_m c1 k12
  have hmt0 := k12.1
  have hsl := xfi_rg (wd := xwd cs s e) selW 0 (by decide)
  have hslen : (selW.length : Int) = 13 := rfl
  have hol0 := xfi_rg (wd := xwd cs s e) nms 0 (by decide)
  have hnu : ki = 2 → ((2 ≤ (if e - s > 1 then -1 else cs.getD s 0 - 48) ∧ (if e - s > 1 then -1 else cs.getD s 0 - 48) ≤ 4) ↔ (2 ≤ nu ∧ nu ≤ 4)) ∧ (2 ≤ nu ∧ nu ≤ 4 → (if e - s > 1 then -1 else cs.getD s 0 - 48) = nu) ∧ (-100 ≤ nu ∧ nu ≤ 100) := fun h => by
    have h1 := hM.2.1 h
    have h2 := hr.2.2.2.2.2.1 (by omega)
    have hch := hcs s
    by_cases h3 : e - s = 1
    · rw [if_pos h3] at h1
      rw [if_neg (by omega), h1]
      exact ⟨Iff.rfl, fun _ => rfl, by omega, by omega⟩
    · rw [if_neg h3] at h1
      rw [if_pos (by omega), h1]
      exact ⟨by omega, by omega, by omega, by omega⟩
  have hnone : ¬ (ki = 2 ∧ (2 ≤ nu ∧ nu ≤ 4) ∧ op < 3) → (ki = 1 → xfi (xwd cs s e) nms 0 = -1 ∧ xfi (xwd cs s e) selW 0 = -1) → xG cs n nms bc dp p (2, op, tm, oa, m, d) = .inl ((s : Nat) : Int) := fun hA hB => by
    refine xG_n hp hT (fun _ => by simp [xfin]) (fun _ => ?_)
    unfold xtq
    simp only [xstep]
    rw [if_neg (fun h => hA ⟨h.1, ((hnu h.1).1.mp ⟨h.2.1, h.2.2.1⟩), h.2.2.2⟩), if_neg (fun h => h.2 (hB h.1).1), if_neg (fun h => h.2 (hB h.1).2)]
  refine x_aload_n rfl rfl ?_
  refine x_call [_] rfl rfl (show (0 : Nat) ≤ 8 from by decide) (show (1 : Nat) ≤ 3 from by decide) (x_rcv (by decide) h177) (xm_74 hp h177 hT hM f179 hlen hcl rfl hw hnl hnd) (fun r' f' hP => ?_)
  obtain ⟨rfl, rfl⟩ := hP
  refine x_istore_n rfl (show (1 : Nat) < 2 from by decide) ?_
  refine x_aload_n rfl (xst_ne (by decide) rfl (Or.inl rfl)) ?_
  refine x_call [_] rfl rfl (show (0 : Nat) ≤ 8 from by decide) (show (1 : Nat) ≤ 3 from by decide) (x_rcv (by decide) h177) (xm_71 hp h177 hT hM) (fun r' f' hP => ?_)
  obtain ⟨rfl, rfl⟩ := hP
  refine x_iflt (t := 17) rfl rfl (by split <;> omega) (fun hno => ?_) (fun hsel => ?_)
  rotate_left
  · have hk1 : ki = 1 := by
      by_cases h : ki = 1
      · exact h
      · rw [if_neg h] at hsel; omega
    rw [if_pos hk1] at hsel
    obtain ⟨ws, hws, hwe⟩ := xfi_mem (by decide) hsel
    have hol : xfi (xwd cs s e) nms 0 = -1 := xfi_no (fun w hw2 he => by rw [hwe] at he; rw [← Option.some.inj he] at hw2; exact hns ws hw2 hws)
    have g24 : xG cs n nms bc dp p (2, op, tm, oa, m, d) = xG cs n nms bc dp p (4, op, tm, oa, m, d) := by
      rw [xG_s hp hT (by omega) (q' := (5, op, tm, oa, m, d)) (by unfold xtq; simp only [xstep]; rw [if_neg (by omega), if_neg (fun h => h.2 hol), if_pos ⟨hk1, by omega⟩]), xG_s hp hT (by omega) (q' := (5, op, tm, oa, m, d)) (by unfold xtq; simp only [xstep]; rw [if_pos ⟨hk1, by omega⟩])]
    have g24c : xGC K G cs n nms bc dp p (2, op, tm, oa, m, d) C = xGC K G cs n nms bc dp p (4, op, tm, oa, m, d) ((((K ++ C.2.2.1).length : Nat) : Int), C.2.1, C.2.2.1, C.2.2.2) := by
      rw [xGC_s (C' := ((((K ++ C.2.2.1).length : Nat) : Int), xfi (xwd cs s e) selW 0, C.2.2.1, C.2.2.2)) hp hT (by omega) (q' := (5, op, tm, oa, m, d)) (by unfold xtq; simp only [xstep]; rw [if_neg (by omega), if_neg (fun h => h.2 hol), if_pos ⟨hk1, by omega⟩]) (by unfold xtc; simp only [xcst]; rw [if_neg (by omega), if_neg (fun h => h.2 hol), if_pos hk1]), xGC_s (C' := ((((K ++ C.2.2.1).length : Nat) : Int), xfi (xwd cs s e) selW 0, C.2.2.1, C.2.2.2)) hp hT (by omega) (q' := (5, op, tm, oa, m, d)) (by unfold xtq; simp only [xstep]; rw [if_pos ⟨hk1, by omega⟩]) (by unfold xtc; simp only [xcst]; rw [if_pos hk1])]
    refine x_aload_n rfl (xst_ne (by decide) rfl (Or.inl rfl)) ?_
    refine x_call [_] rfl rfl (show (0 : Nat) ≤ 8 from by decide) (show (1 : Nat) ≤ 5 from by decide) (x_rcv (by decide) h177) (xs_77 (G := G) (C := ((((K ++ C.2.2.1).length : Nat) : Int), C.2.1, C.2.2.1, C.2.2.2)) hn hl hcs h179 hlen hcl hw hnl hnd hns hbc hdp htk hpa0 h178 rfl hst0) (fun r' f1 hP => ?_)
    rcases hP with ⟨rfl, z9, h1, h2⟩ | ⟨rfl, p1, C9, h1, h2, h2c, h3⟩
    · refine x_ireturn rfl (Or.inr (Or.inl ⟨rfl, by decide⟩)) ⟨_, _, rfl, rfl, ?_⟩
      exact Or.inl ⟨rfl, z9, g24.trans h1, h2⟩
    · refine x_ireturn rfl (Or.inr (Or.inl ⟨rfl, by decide⟩)) ⟨_, _, rfl, rfl, ?_⟩
      exact Or.inr (Or.inl ⟨rfl, p1, _, d, C9, h1, g24.trans h2, g24c.trans h2c, h3⟩)
  have hsl1 : ki = 1 → xfi (xwd cs s e) selW 0 = -1 := fun h => by rw [if_pos h] at hno; omega
  refine x_iload_n rfl xst_eq ?_
  refine x_iflt (t := 28) rfl rfl (by split <;> omega) (fun hno2 => ?_) (fun hold => ?_)
  rotate_left
  · have hk1 : ki = 1 := by
      by_cases h : ki = 1
      · exact h
      · rw [if_neg h] at hold; omega
    rw [if_pos hk1] at hold
    rw [if_pos hk1]
    have hse := hr.2.2.2.2.2.1 (by omega)
    obtain ⟨i, hi⟩ := Int.eq_ofNat_of_zero_le hold
    have hil : i < nms.length := by omega
    rw [hi]
    have hb := hbc i hil
    have hdi := hdp i hil
    have g1 : xG cs n nms bc dp p (2, op, tm, oa, m, d) = xG cs n nms bc dp e (7, op, tm, oa, min (m + bc i) 17, max d (dp i + 1)) := xG_s hp hT (by omega) (by unfold xtq; simp only [xstep]; rw [if_neg (by omega), if_pos ⟨hk1, by omega⟩, hi, Int.toNat_natCast])
    have g1c : xGC K G cs n nms bc dp p (2, op, tm, oa, m, d) C = xGC K G cs n nms bc dp e (7, op, tm, oa, min (m + bc i) 17, max d (dp i + 1)) (C.1, C.2.1, C.2.2.1, C.2.2.2 ++ (G i).map (xsh (C.2.2.2.length : Nat))) := xGC_s hp hT (by omega) (by unfold xtq; simp only [xstep]; rw [if_neg (by omega), if_pos ⟨hk1, by omega⟩, hi, Int.toNat_natCast]) (by unfold xtc; simp only [xcst]; rw [if_neg (by omega), if_pos ⟨hk1, by omega⟩, hi, Int.toNat_natCast])
    refine x_aload_n rfl (xst_ne (by decide) rfl (Or.inl rfl)) ?_
    refine x_iload_n rfl xst_eq ?_
    refine x_call [_, _] rfl rfl (show (0 : Nat) ≤ 8 from by decide) (show (2 : Nat) ≤ 4 from by decide) (x_rcv (by decide) h177) (xs_78 (e := e) (i := i) hn hl hcs f178 hr.2.2.2.1 (by omega) (by omega) (by omega) (by omega) rfl hb (htk i hil) h177 (hGk i hil) k5) (fun r' f1 hP => ?_)
    obtain ⟨rfl, hQ1, ⟨ki2, s2, e2, kM2, wo2, nu2, h177b, hT2, hM2⟩, hf1⟩ := hP
    refine x_iconst rfl ?_
    refine x_ireturn rfl (Or.inr (Or.inl ⟨rfl, by decide⟩)) ⟨_, _, rfl, rfl, ?_⟩
    have hadd := xphi_add (b := bc i) (m := mt) (oa := oaM) c1 hb.1
    exact Or.inr (Or.inl ⟨rfl, e, _, _, (C.1, C.2.1, C.2.2.1, C.2.2.2 ++ (G i).map (xsh (C.2.2.2.length : Nat))), by omega, g1, g1c, hr.2.2.2.1, ki2, s2, e2, kM2, wo2, nu2, pa, h177b, hT2, hM2, ⟨c1, by omega, xMS_mv (hf1 185 (by decide) (by decide) (by decide) (by decide) (by decide) (by decide)) (hf1 186 (by decide) (by decide) (by decide) (by decide) (by decide) (by decide)) c3, fun p a1 a2 a3 a4 a5 a6 a7 a8 a9 a10 => (hf1 p a1 a2 a3 a4 a5 a6).trans (c4 p a1 a2 a3 a4 a5 a6 a7 a8 a9 a10), mt + bc i, tmM, oaM, xMD_ch (fun h16 => by show _ = C.2.2.2 ++ (G i).map (xsh (C.2.2.2.length : Int)); rw [xMD_B k5 (by omega)]) hQ1, by omega, (hf1 187 (by decide) (by decide) (by decide) (by decide) (by decide) (by decide)).trans k7, (hf1 188 (by decide) (by decide) (by decide) (by decide) (by decide) (by decide)).trans k8, k9, k10, k11, xchain_add hb.1 k12, by omega⟩, hpa1, by omega, hpl⟩)
  have hol1 : ki = 1 → xfi (xwd cs s e) nms 0 = -1 := fun h => by rw [if_pos h] at hno2; omega
  have hRet : ¬ (ki = 2 ∧ (2 ≤ nu ∧ nu ≤ 4) ∧ op < 3) → xz v0 xs u (fun o X => ∃ r f', o = .inl r ∧ X = (xh f', u) ∧ (fun r f' => (r = some (xi 0) ∧ ∃ z : Int, xG cs n nms bc dp p (2, op, tm, oa, m, d) = .inl z ∧ xMW K R0 n nms bc dp tk0 cd fa q f0 f' z) ∨ (r = some (xi 1) ∧ ∃ (p' : Nat) (m' d' : Int) (C' : xC), p < p' ∧ xG cs n nms bc dp p (2, op, tm, oa, m, d) = xG cs n nms bc dp p' (7, op, tm, oa, m', d') ∧ xGC K G cs n nms bc dp p (2, op, tm, oa, m, d) C = xGC K G cs n nms bc dp p' (7, op, tm, oa, m', d') C' ∧ xST K R0 C' cs n nms bc dp tk0 cd fa pa0 q f0 f' p' op tm oa m' d') ∨ (r = some (xi 1) ∧ ∃ (p' : Nat) (tm' oa' : List Int), p < p' ∧ op < 3 ∧ tm'.length = 3 ∧ oa'.length = 3 ∧ xG cs n nms bc dp p (2, op, tm, oa, m, d) = xG cs n nms bc dp p' (2, op + 1, tm', oa', m, d) ∧ xGC K G cs n nms bc dp p (2, op, tm, oa, m, d) C = xGC K G cs n nms bc dp p' (2, op + 1, tm', oa', m, d) C ∧ xST K R0 C cs n nms bc dp tk0 cd fa pa0 q f0 f' p' (op + 1) tm' oa' m d)) r f') 79 60 (xst (1 : Nat) (xi (if ki = 1 then xfi (xwd cs s e) nms 0 else -1)) [(0, .ref 177)]) [] f' := fun hA => by
    refine x_iconst rfl ?_
    refine x_ireturn rfl (Or.inr (Or.inl ⟨rfl, by decide⟩)) ⟨_, _, rfl, rfl, ?_⟩
    exact Or.inl ⟨rfl, _, hnone hA (fun h => ⟨hol1 h, hsl1 h⟩), xCM_W h177 ⟨hk.1, ⟨by omega, by omega⟩, fun h => by have h9 := hr.2.2.2.2.2.2 (hk.2.2.2.mp h); omega⟩ hC⟩
  refine x_aload_n rfl (xst_ne (by decide) rfl (Or.inl rfl)) ?_
  refine x_getfield rfl (by decide) h177 rfl ?_
  refine x_iconst rfl ?_
  refine x_cne (t := 60) rfl rfl ⟨by omega, by omega⟩ (by decide) (fun h => hRet (by omega)) (fun hk2 => ?_)
  have hki2 := hk.2.2.1.mp hk2
  have hn2 := hnu hki2
  refine x_aload_n rfl (xst_ne (by decide) rfl (Or.inl rfl)) ?_
  refine x_getfield rfl (by decide) h177 rfl ?_
  refine x_iconst rfl ?_
  refine x_clt (t := 60) rfl rfl ⟨by omega, by omega⟩ (by decide) (fun h => hRet (by omega)) (fun hlo => ?_)
  refine x_aload_n rfl (xst_ne (by decide) rfl (Or.inl rfl)) ?_
  refine x_getfield rfl (by decide) h177 rfl ?_
  refine x_iconst rfl ?_
  refine x_cgt (t := 60) rfl rfl ⟨by omega, by omega⟩ (by decide) (fun h => hRet (by omega)) (fun hhi => ?_)
  refine x_aload_n rfl (xst_ne (by decide) rfl (Or.inl rfl)) ?_
  refine x_getfield rfl (by decide) h177 rfl ?_
  refine x_iconst rfl ?_
  refine x_cne (t := 62) rfl rfl ⟨by omega, by omega⟩ (by decide) (fun hop3 => ?_) (fun h => hRet (by omega))
  have hse := hr.2.2.2.2.2.1 (by omega)
  have g1 : xG cs n nms bc dp p (2, op, tm, oa, m, d) = xG cs n nms bc dp e (3, op, tm.set op.toNat nu, oa, m, d) := xG_s hp hT (by omega) (by unfold xtq; simp only [xstep]; rw [if_pos ⟨hki2, (hn2.1.mpr ⟨hlo, hhi⟩).1, (hn2.1.mpr ⟨hlo, hhi⟩).2, by omega⟩, hn2.2.1 ⟨hlo, hhi⟩])
  have g1c : xGC K G cs n nms bc dp p (2, op, tm, oa, m, d) C = xGC K G cs n nms bc dp e (3, op, tm.set op.toNat nu, oa, m, d) C := xGC_s hp hT (by omega) (by unfold xtq; simp only [xstep]; rw [if_pos ⟨hki2, (hn2.1.mpr ⟨hlo, hhi⟩).1, (hn2.1.mpr ⟨hlo, hhi⟩).2, by omega⟩, hn2.2.1 ⟨hlo, hhi⟩]) (by unfold xtc; simp only [xcst]; rw [if_pos ⟨hki2, (hn2.1.mpr ⟨hlo, hhi⟩).1, (hn2.1.mpr ⟨hlo, hhi⟩).2, by omega⟩])
  refine x_aload_n rfl (xst_ne (by decide) rfl (Or.inl rfl)) ?_
  refine x_getfield rfl (by decide) h177 rfl ?_
  refine x_aload_n rfl (xst_ne (by decide) rfl (Or.inl rfl)) ?_
  refine x_getfield rfl (by decide) h177 rfl ?_
  refine x_aload_n rfl (xst_ne (by decide) rfl (Or.inl rfl)) ?_
  refine x_getfield rfl (by decide) h177 rfl ?_
  refine x_iastore rfl (by decide) k7 ⟨by omega, by omega⟩ (by omega) ?_
  refine x_aload_n rfl (xst_ne (by decide) rfl (Or.inl rfl)) ?_
  refine x_call [_] rfl rfl (show (0 : Nat) ≤ 8 from by decide) (show (1 : Nat) ≤ 2 from by decide) (x_rcv (by decide) (xu_ne (by decide) h177)) (xs_69 (p0 := e) (xu_ne (by decide) h177) (xu_ne (by decide) f178) hn hl hcs hr.2.2.2.1) (fun r' f1 hP => ?_)
  obtain ⟨rfl, ⟨ki2, s2, e2, kM2, wo2, nu2, h177b, hT2, hM2⟩, hf1⟩ := hP
  have hr2 := xTK_rg hT2 hr.2.2.2.1
  refine x_aload_n rfl (xst_ne (by decide) rfl (Or.inl rfl)) ?_
  refine x_bipush rfl (by decide) ?_
  have f1178 : f1 178 = xr 1 cs := (hf1 178 (by decide)).trans (xu_ne (by decide) f178)
  by_cases hbr : ki2 = 3 ∧ cs.getD s2 0 = 40
  · skip
    refine x_call [_, _] rfl rfl (show (0 : Nat) ≤ 8 from by decide) (show (2 : Nat) ≤ 3 from by decide) (x_rcv (by decide) h177b) (xs_75t h177b f1178 hn hl hcs hr.2.2.2.1 hT2 hM2 (by unfold xsgn; omega) hbr) (fun r' f2 hP => ?_)
    obtain ⟨rfl, ⟨ki3, s3, e3, kM3, wo3, nu3, h177c, hT3, hM3⟩, hf2⟩ := hP
    have hse2 := hr2.2.2.2.2.2.1 (by omega)
    refine x_ifne (t := 90) rfl rfl (by decide) (fun _ => ?_) (fun h => absurd h (by decide))
    have k5b := k5
    obtain ⟨cn, dn, tk, pf, pq, h180, h181, h182, h183, h184, ⟨g1l, g2l, g3l, g4l, g5l⟩, hcm, hdd, hk1, hk2b, hk3, hk4⟩ := k5b
    refine x_aload_n rfl (xst_ne (by decide) rfl (Or.inl rfl)) ?_
    refine x_getfield rfl (by decide) h177c rfl ?_
    refine x_aload_n rfl (xst_ne (by decide) rfl (Or.inl rfl)) ?_
    refine x_getfield rfl (by decide) h177c rfl ?_
    refine x_aload_n rfl (xst_ne (by decide) rfl (Or.inl rfl)) ?_
    refine x_getfield rfl (by decide) h177c rfl ?_
    refine x_bipush rfl (by decide) ?_
    refine x_iaload rfl (by decide) ((hf2 180 (by decide)).trans ((hf1 180 (by decide)).trans (xu_ne (by decide) h180))) ⟨by omega, by omega⟩ (by omega) ?_
    rw [show (12 : Int).toNat = 12 from rfl, hcm]
    refine x_iastore rfl (by decide) ((hf2 188 (by decide)).trans ((hf1 188 (by decide)).trans (xu_ne (by decide) k8))) ⟨by omega, by omega⟩ (by omega) ?_
    refine x_aload_n rfl (xst_ne (by decide) rfl (Or.inl rfl)) ?_
    refine x_dup rfl ?_
    refine x_getfield rfl (by decide) (xu_ne (by decide) h177c) rfl ?_
    refine x_iconst rfl ?_
    refine x_iadd rfl ?_
    refine x_putfield rfl (by decide) (xu_ne (by decide) h177c) (show (19 : Nat) < 41 from by decide) rfl ?_
    refine x_iconst rfl ?_
    refine x_ireturn rfl (Or.inr (Or.inl ⟨rfl, by decide⟩)) ⟨_, _, rfl, rfl, ?_⟩
    obtain ⟨ph1, ph2⟩ := xphi_open ⟨c1.1, by omega⟩ k10 k12
    refine Or.inr (Or.inr ⟨rfl, e2, tm.set op.toNat nu, oa.set op.toNat m, by omega, by omega, by rw [List.length_set]; exact htl, by rw [List.length_set]; exact hol, ?_, ?_, hr2.2.2.2.1, ki3, s3, e3, kM3, wo3, nu3, pa, xu_eq, hT3, hM3, ⟨by omega, c2, xMS_mv (xu_ne (by decide) (xu_ne (by decide) ((hf2 185 (by decide)).trans ((hf1 185 (by decide)).trans (xu_ne (by decide) rfl))))) (xu_ne (by decide) (xu_ne (by decide) ((hf2 186 (by decide)).trans ((hf1 186 (by decide)).trans (xu_ne (by decide) rfl))))) c3, ?_, mt, tmM.set op.toNat nu, oaM.set op.toNat mt, ?_, k6, (xu_ne (by decide) (xu_ne (by decide) ((hf2 187 (by decide)).trans ((hf1 187 (by decide)).trans xu_eq)))), xu_ne (by decide) xu_eq, by rw [List.length_set]; exact k9, by rw [List.length_set]; exact k10, ?_, ph2, by rw [ph1]; omega⟩, hpa1, by omega, hpl⟩)
    · rw [g1]; exact xG_s hr.2.2.2.1 hT2 (by omega) (by unfold xtq; simp only [xstep]; rw [if_pos hbr])
    · rw [g1c]; exact xGC_s hr.2.2.2.1 hT2 (by omega) (by unfold xtq; simp only [xstep]; rw [if_pos hbr]) rfl
    · intro p a1 a2 a3 a4 a5 a6 a7 a8 a9 a10
      exact xu_ne a1 (xu_ne a10 ((hf2 p a1).trans ((hf1 p a1).trans (xu_ne a9 (c4 p a1 a2 a3 a4 a5 a6 a7 a8 a9 a10)))))
    · exact xMD_mv (fun p p1 p2 => xu_ne (by omega) (xu_ne (by omega) ((hf2 p (by omega)).trans ((hf1 p (by omega)).trans (xu_ne (by omega) rfl))))) k5
    · intro j hj
      rw [x_gset, x_gset, x_gset, x_gset, k9, htl, k10, hol]
      by_cases ej : op.toNat = j
      · rw [if_pos ⟨ej, by omega⟩, if_pos ⟨ej, by omega⟩, if_pos ⟨ej, by omega⟩, if_pos ⟨ej, by omega⟩]; exact ⟨rfl, ⟨hlo, hhi⟩, k6⟩
      · rw [if_neg (fun h => ej h.1), if_neg (fun h => ej h.1), if_neg (fun h => ej h.1), if_neg (fun h => ej h.1)]; exact k11 j (by omega)
  · skip
    refine x_call [_, _] rfl rfl (show (0 : Nat) ≤ 8 from by decide) (show (2 : Nat) ≤ 3 from by decide) (x_rcv (by decide) h177b) (xs_75f h177b f1178 hn hl hcs hr.2.2.2.1 hT2 hM2 (by unfold xsgn; omega) hbr) (fun r' f2 hP => ?_)
    obtain ⟨rfl, rfl⟩ := hP
    refine x_ifne (t := 90) rfl rfl (by decide) (fun h => absurd rfl h) (fun _ => ?_)
    refine x_iconst rfl ?_
    refine x_ireturn rfl (Or.inr (Or.inl ⟨rfl, by decide⟩)) ⟨_, _, rfl, rfl, ?_⟩
    refine Or.inl ⟨rfl, ((s2 : Nat) : Int), ?_, _, _, _, _, _, _, mt, d, tmM.set op.toNat nu, oaM, _, _, h177b, ⟨(xTM_k hr.2.2.2.1 hT2 hM2).1, ⟨by omega, by omega⟩, fun h => by have h9 := hr2.2.2.2.2.2.2 ((xTM_k hr.2.2.2.1 hT2 hM2).2.2.2.mp h); omega⟩, xMD_mv (fun p p1 p2 => (hf1 p (by omega)).trans (xu_ne (by omega) rfl)) k5, (hf1 187 (by decide)).trans xu_eq, (hf1 188 (by decide)).trans (xu_ne (by decide) k8), by rw [List.length_set]; exact k9, k10, xMS_mv ((hf1 185 (by decide)).trans (xu_ne (by decide) rfl)) ((hf1 186 (by decide)).trans (xu_ne (by decide) rfl)) c3, fun p a1 a2 a3 a4 a5 a6 a7 a8 a9 a10 => (hf1 p a1).trans (xu_ne a9 (c4 p a1 a2 a3 a4 a5 a6 a7 a8 a9 a10))⟩
    rw [g1]
    refine xG_n hr.2.2.2.1 hT2 (fun _ => by simp [xfin]) (fun _ => ?_)
    unfold xtq
    simp only [xstep]
    rw [if_neg hbr]
end
section
/-! The model reads a text. -/
/-- behind a text that is a call: b beats, depth e -/
def xMA (K : List (Int × Int)) (R0 : Nat → Int × Int) (C : xC) (n : Nat) (nms : List (List Int)) (bc dp tk0 : Nat → Int) (cd fa pa0 : Int) (q : Nat → Value) (f0 f : Nat → zE) (b e : Int) : Prop := (0 ≤ b ∧ b ≤ 16) ∧ (1 ≤ e ∧ e ≤ 6) ∧ ∃ (kM be en : Int) (wo : Int64) (nu pa op : Int) (tmM oaM : List Int), f 177 = xmo cd (n : Nat) fa kM be en wo nu (nms.length : Nat) pa op q ∧ (pa0 ≤ pa ∧ pa ≤ pa0 + 16 ∧ pa = ((K ++ C.2.2.1).length : Nat)) ∧ xMD R0 C.2.2.2 bc dp tk0 f b e ∧ f 187 = xr 0 tmM ∧ f 188 = xr 0 oaM ∧ tmM.length = 3 ∧ oaM.length = 3 ∧ xMS K C.2.2.1 f ∧ ∀ p, p ≠ 177 → p ≠ 180 → p ≠ 181 → p ≠ 182 → p ≠ 183 → p ≠ 184 → p ≠ 185 → p ≠ 186 → p ≠ 187 → p ≠ 188 → f p = f0 p
theorem xs_81e {K : List (Int × Int)} {R0 : Nat → Int × Int} {G : Nat → List xBt} {C Cf : xC} {v0 : Value} {xs : List Int32} {u : Nat × Nat} {f0 : Nat → zE} {n : Nat} {cs : List Int} {nms : List (List Int)} {nl : List Int64} {bc dp tk0 : Nat → Int} {cd fa pa0 op m d : Int} {q : Nat → Value} {tm oa : List Int} {p : Nat} {f : Nat → zE} {lv : zL} {G0 : Int ⊕ (Int × Int)} (hn : n ≤ 100) (hl : cs.length = 100) (hcs : ∀ j : Nat, 0 ≤ cs.getD j 0 ∧ cs.getD j 0 ≤ 126) (h179 : f0 179 = .inr (.inr (.inl nl))) (hlen : nl.length = 13) (hcl : nms.length ≤ 12) (hw : ∀ w ∈ nms, xwf w) (hnl : ∀ k, k < nms.length → nl.getD k 0 = Int64.ofInt (xpr (nms.getD k []))) (hnd : nms.Nodup) (hns : ∀ w ∈ nms, w ∉ selW) (hbc : ∀ i, i < nms.length → 0 ≤ bc i ∧ bc i ≤ 16) (hdp : ∀ i, i < nms.length → 1 ≤ dp i ∧ dp i ≤ 6) (htk : ∀ i, i < nms.length → ∀ k : Nat, (k : Int) < bc i → 0 ≤ tk0 (16 * i + k) ∧ tk0 (16 * i + k) ≤ k) (hpa0 : 0 ≤ pa0 ∧ pa0 ≤ 192) (h178 : f0 178 = xr 1 cs) (l0 : zlv lv 0 = some (.ref 177)) (hG : xG cs n nms bc dp p (7, op, tm, oa, m, d) = G0) (hGc : xGC K G cs n nms bc dp p (7, op, tm, oa, m, d) C = Cf) (hst : xST K R0 C cs n nms bc dp tk0 cd fa pa0 q f0 f p op tm oa m d) (hend : ∀ (ki : Int) (s e : Nat), xTK cs n p ki s e → ¬ (ki = 3 ∧ cs.getD s 0 = 59) ∧ (op ≠ 0 → ¬ (ki = 3 ∧ cs.getD s 0 = 41))) : xz v0 xs u (fun o X => ∃ r f', o = .inl r ∧ X = (xh f', u) ∧ (fun r f' => (∃ b e' : Int, G0 = .inr (b, e') ∧ r = some (xi (-1)) ∧ xMA K R0 Cf n nms bc dp tk0 cd fa pa0 q f0 f' b e') ∨ (∃ z : Int, G0 = .inl z ∧ r = some (xi z) ∧ (0 ≤ z ∧ z ≤ 100) ∧ xMW K R0 n nms bc dp tk0 cd fa q f0 f' z)) r f') 81 240 lv [] f := by
  obtain ⟨hp, ki, s, e, kM, wo, nu, pa, h177, hT, hM, hC, hpa1, hpa2, hpl⟩ := hst
  have hr := xTK_rg hT hp
  have hk := xTM_k hp hT hM
  have hC0 := hC
  obtain ⟨c1, c2, c3, c4, mt, tmM, oaM, k5, k6, k7, k8, k9, k10, k11, k12, k13⟩ := hC0
  have hmt0 := k12.1
  have hmt := xphi_m c1 k12
  have hnot := hend ki s e hT
  refine x_aload_n rfl l0 ?_
  refine x_getfield rfl (by decide) h177 rfl ?_
  refine x_ifne (t := 254) rfl rfl ⟨by omega, by omega⟩ (fun hne => ?_) (fun h0 => ?_)
  · have hki : ki ≠ 0 := fun h => hne (hk.2.2.2.mpr h)
    have hnone : G0 = .inl ((s : Nat) : Int) := by
      rw [← hG]
      refine xG_n hp hT (fun h => absurd h hki) (fun _ => ?_)
      unfold xtq
      simp only [xstep]
      unfold xeos
      rw [if_neg hnot.1]
      by_cases hop : op = 0
      · rw [if_pos hop]
      · rw [if_neg hop, if_neg (hnot.2 hop)]
    refine x_aload_n rfl l0 ?_
    refine x_getfield rfl (by decide) h177 rfl ?_
    refine x_ifne (t := 268) rfl rfl ⟨by omega, by omega⟩ (fun _ => ?_) (fun h9 => absurd h9 hne)
    refine x_aload_n rfl l0 ?_
    refine x_getfield rfl (by decide) h177 rfl ?_
    refine x_ireturn rfl (Or.inl rfl) ⟨_, _, rfl, rfl, ?_⟩
    exact Or.inr ⟨_, hnone, rfl, ⟨by omega, by omega⟩, xCM_W h177 ⟨hk.1, ⟨by omega, by omega⟩, fun h => by have h9 := hr.2.2.2.2.2.2 (hk.2.2.2.mp h); omega⟩ hC⟩
  · have hki : ki = 0 := hk.2.2.2.mp h0
    have hCf : Cf = C := by rw [← hGc, xGC_0 hp hT hki]; simp
    subst hCf
    have hsn : ((s : Nat) : Int) = ((n : Nat) : Int) := by have h9 := hr.2.2.2.2.2.2 hki; omega
    have hG2 : G0 = xfo n (xfin (7, op, tm, oa, m, d)) := by rw [← hG]; exact xG_0 hp hT hki
    refine x_aload_n rfl l0 ?_
    refine x_getfield rfl (by decide) h177 rfl ?_
    refine x_ifle (t := 273) rfl rfl ⟨by omega, by omega⟩ (fun hop => ?_) (fun hop => ?_)
    rotate_left
    · have hnone : G0 = .inl ((s : Nat) : Int) := by rw [hG2]; unfold xfin; rw [if_neg (by dsimp only; omega), hsn]; rfl
      refine x_aload_n rfl l0 ?_
      refine x_getfield rfl (by decide) h177 rfl ?_
      refine x_ifne (t := 268) rfl rfl ⟨by omega, by omega⟩ (fun h9 => absurd h0 h9) (fun _ => ?_)
      refine x_aload_n rfl l0 ?_
      refine x_getfield rfl (by decide) h177 rfl ?_
      refine x_goto (t := 272) rfl rfl ?_
      refine x_ireturn rfl (Or.inl rfl) ⟨_, _, rfl, rfl, ?_⟩
      exact Or.inr ⟨_, hnone, by rw [hsn], ⟨by omega, by omega⟩, xCM_W h177 ⟨hk.1, ⟨by omega, by omega⟩, fun h => by have h9 := hr.2.2.2.2.2.2 (hk.2.2.2.mp h); omega⟩ hC⟩
    have hop0 : op = 0 := by omega
    have k5b := k5
    obtain ⟨cn, dn, tk, pf, pq, h180, h181, h182, h183, h184, ⟨g1l, g2l, g3l, g4l, g5l⟩, hcm, hdd, hk1, hk2b, hk3, hk4, hR9, hmb9⟩ := k5b
    have hfin : xfin (7, op, tm, oa, m, d) = if m ≤ 16 ∧ d ≤ 6 then some (m, d) else none := by unfold xfin; rw [if_pos ⟨Or.inr rfl, hop0⟩]; rfl
    refine x_aload_n rfl l0 ?_
    refine x_getfield rfl (by decide) h177 rfl ?_
    refine x_bipush rfl (by decide) ?_
    refine x_iaload rfl (by decide) h180 ⟨by omega, by omega⟩ (by omega) ?_
    rw [show (12 : Int).toNat = 12 from rfl, hcm]
    refine x_bipush rfl (by decide) ?_
    refine x_cgt (t := 297) rfl rfl ⟨by omega, by omega⟩ (by decide) (fun hbig => ?_) (fun hsm => ?_)
    · refine x_aload_n rfl l0 ?_
      refine x_getfield rfl (by decide) h177 rfl ?_
      refine x_goto (t := 305) rfl rfl ?_
      refine x_ireturn rfl (Or.inl rfl) ⟨_, _, rfl, rfl, ?_⟩
      exact Or.inr ⟨((s : Nat) : Int), by rw [hG2, hfin, if_neg (by omega), hsn]; rfl, by rw [hsn], ⟨by omega, by omega⟩, xCM_W h177 ⟨hk.1, ⟨by omega, by omega⟩, fun h => by have h9 := hr.2.2.2.2.2.2 (hk.2.2.2.mp h); omega⟩ hC⟩
    · refine x_aload_n rfl l0 ?_
      refine x_getfield rfl (by decide) h177 rfl ?_
      refine x_bipush rfl (by decide) ?_
      refine x_iaload rfl (by decide) h181 ⟨by omega, by omega⟩ (by omega) ?_
      rw [show (12 : Int).toNat = 12 from rfl, hdd]
      refine x_bipush rfl (by decide) ?_
      refine x_cle (t := 304) rfl rfl ⟨by omega, by omega⟩ (by decide) (fun hd6 => ?_) (fun hd6 => ?_)
      · refine x_iconst rfl ?_
        refine x_ireturn rfl (Or.inl rfl) ⟨_, _, rfl, rfl, ?_⟩
        have em : mt = m := by omega
        refine Or.inl ⟨m, d, by rw [hG2, hfin, if_pos ⟨by omega, hd6⟩]; rfl, rfl, ⟨by omega, by omega⟩, ⟨c2.1, hd6⟩, _, _, _, _, _, pa, _, tmM, oaM, h177, ⟨hpa1, by omega, hpl⟩, by rw [← em]; exact k5, k7, k8, k9, k10, c3, c4⟩
      · refine x_aload_n rfl l0 ?_
        refine x_getfield rfl (by decide) h177 rfl ?_
        refine x_goto (t := 305) rfl rfl ?_
        refine x_ireturn rfl (Or.inl rfl) ⟨_, _, rfl, rfl, ?_⟩
        exact Or.inr ⟨((s : Nat) : Int), by rw [hG2, hfin, if_neg (by omega), hsn]; rfl, by rw [hsn], ⟨by omega, by omega⟩, xCM_W h177 ⟨hk.1, ⟨by omega, by omega⟩, fun h => by have h9 := hr.2.2.2.2.2.2 (hk.2.2.2.mp h); omega⟩ hC⟩
theorem xs_81i {K : List (Int × Int)} {R0 : Nat → Int × Int} {G : Nat → List xBt} {Cf : xC} {v0 : Value} {xs : List Int32} {u : Nat × Nat} {f0 : Nat → zE} {n : Nat} {cs : List Int} {nms : List (List Int)} {nl : List Int64} {bc dp tk0 : Nat → Int} {cd fa pa0 : Int} {q : Nat → Value} {tm oa : List Int} {G0 : Int ⊕ (Int × Int)} (hn : n ≤ 100) (hl : cs.length = 100) (hcs : ∀ j : Nat, 0 ≤ cs.getD j 0 ∧ cs.getD j 0 ≤ 126) (h179 : f0 179 = .inr (.inr (.inl nl))) (hlen : nl.length = 13) (hcl : nms.length ≤ 12) (hw : ∀ w ∈ nms, xwf w) (hnl : ∀ k, k < nms.length → nl.getD k 0 = Int64.ofInt (xpr (nms.getD k []))) (hnd : nms.Nodup) (hns : ∀ w ∈ nms, w ∉ selW) (hbc : ∀ i, i < nms.length → 0 ≤ bc i ∧ bc i ≤ 16) (hdp : ∀ i, i < nms.length → 1 ≤ dp i ∧ dp i ≤ 6) (htk : ∀ i, i < nms.length → ∀ k : Nat, (k : Int) < bc i → 0 ≤ tk0 (16 * i + k) ∧ tk0 (16 * i + k) ≤ k) (hpa0 : 0 ≤ pa0 ∧ pa0 ≤ 192) (h178 : f0 178 = xr 1 cs) : ∀ (w p : Nat) (C : xC) (f : Nat → zE) (lv : zL) (op m d : Int), n ≤ w + p → zlv lv 0 = some (.ref 177) → zlv lv 2 = some (xi 0) → xG cs n nms bc dp p (7, op, tm, oa, m, d) = G0 → xGC K G cs n nms bc dp p (7, op, tm, oa, m, d) C = Cf → (∀ (p' : Nat) (C' : xC) (f' : Nat → zE) (lv' : zL) (op' m' d' : Int), p < p' → zlv lv' 0 = some (.ref 177) → zlv lv' 2 = some (xi 1) → xG cs n nms bc dp p' (2, op', tm, oa, m', d') = G0 → xGC K G cs n nms bc dp p' (2, op', tm, oa, m', d') C' = Cf → xST K R0 C' cs n nms bc dp tk0 cd fa pa0 q f0 f' p' op' tm oa m' d' → xz v0 xs u (fun o X => ∃ r f', o = .inl r ∧ X = (xh f', u) ∧ (fun r f' => (∃ b e' : Int, G0 = .inr (b, e') ∧ r = some (xi (-1)) ∧ xMA K R0 Cf n nms bc dp tk0 cd fa pa0 q f0 f' b e') ∨ (∃ z : Int, G0 = .inl z ∧ r = some (xi z) ∧ (0 ≤ z ∧ z ≤ 100) ∧ xMW K R0 n nms bc dp tk0 cd fa q f0 f' z)) r f') 81 142 lv' [] f') → xST K R0 C cs n nms bc dp tk0 cd fa pa0 q f0 f p op tm oa m d → xz v0 xs u (fun o X => ∃ r f', o = .inl r ∧ X = (xh f', u) ∧ (fun r f' => (∃ b e' : Int, G0 = .inr (b, e') ∧ r = some (xi (-1)) ∧ xMA K R0 Cf n nms bc dp tk0 cd fa pa0 q f0 f' b e') ∨ (∃ z : Int, G0 = .inl z ∧ r = some (xi z) ∧ (0 ≤ z ∧ z ≤ 100) ∧ xMW K R0 n nms bc dp tk0 cd fa q f0 f' z)) r f') 81 191 lv [] f := by
  intro w
  induction w with
  | zero =>
    intro p C f lv op m d hwp l0 l2 hG hGc hback hst
    have hst0 := hst
    obtain ⟨hp, ki, s, e, kM, wo, nu, pa, h177, hT, hM, hC, hpa1, hpa2, hpl⟩ := hst
    have hr := xTK_rg hT hp
    have hk := xTM_k hp hT hM
    have hC0 := hC
    obtain ⟨c1, c2, c3, c4, mt, tmM, oaM, k5, k6, k7, k8, k9, k10, k11, k12, k13⟩ := hC0
    have hmt0 := k12.1
    have hmt := xphi_m c1 k12
    have f178 := (c4 178 (by decide) (by decide) (by decide) (by decide) (by decide) (by decide) (by decide) (by decide) (by decide) (by decide)).trans h178
    have hsemi : (op ≠ 0 → ¬ (ki = 3 ∧ cs.getD s 0 = 41)) → xz v0 xs u (fun o X => ∃ r f', o = .inl r ∧ X = (xh f', u) ∧ (fun r f' => (∃ b e' : Int, G0 = .inr (b, e') ∧ r = some (xi (-1)) ∧ xMA K R0 Cf n nms bc dp tk0 cd fa pa0 q f0 f' b e') ∨ (∃ z : Int, G0 = .inl z ∧ r = some (xi z) ∧ (0 ≤ z ∧ z ≤ 100) ∧ xMW K R0 n nms bc dp tk0 cd fa q f0 f' z)) r f') 81 218 lv [] f := fun hcx => by
      refine x_iload_n rfl l2 ?_
      refine x_ifne (t := 231) rfl rfl (by decide) (fun h => absurd rfl h) (fun _ => ?_)
      refine x_aload_n rfl l0 ?_
      refine x_bipush rfl (by decide) ?_
      by_cases hs : ki = 3 ∧ cs.getD s 0 = 59
      · skip
        refine x_call [_, _] rfl rfl (show (0 : Nat) ≤ 8 from by decide) (show (2 : Nat) ≤ 3 from by decide) (x_rcv (by decide) h177) (xs_75t h177 f178 hn hl hcs hp hT hM (by unfold xsgn; omega) hs) (fun r' f1 hP => ?_)
        obtain ⟨rfl, ⟨ki2, s2, e2, kM2, wo2, nu2, h177b, hT2, hM2⟩, hf1⟩ := hP
        have hse := hr.2.2.2.2.2.1 (by omega)
        refine x_ifeq (t := 235) rfl rfl (by decide) (fun h => absurd h (by decide)) (fun _ => ?_)
        refine x_iconst rfl ?_
        refine x_goto (t := 236) rfl rfl ?_
        refine x_istore_n rfl (show (2 : Nat) < 4 from by decide) ?_
        refine x_goto (t := 142) rfl rfl ?_
        refine hback e C f1 _ op m d (by omega) (xst_ne (by decide) l0 (Or.inl rfl)) xst_eq ?_ ?_ ⟨hr.2.2.2.1, ki2, s2, e2, kM2, wo2, nu2, pa, h177b, hT2, hM2, xCM_mv hf1 (by omega) hC, hpa1, by omega, hpl⟩
        · rw [← hG]
          exact (xG_s hp hT (by omega) (by unfold xtq; simp only [xstep]; unfold xeos; rw [if_pos hs])).symm
        · rw [← hGc]
          exact (xGC_s hp hT (by omega) (by unfold xtq; simp only [xstep]; unfold xeos; rw [if_pos hs]) (by unfold xtc; simp only [xcst]; unfold xceos; rw [if_pos hs])).symm
      · skip
        refine x_call [_, _] rfl rfl (show (0 : Nat) ≤ 8 from by decide) (show (2 : Nat) ≤ 3 from by decide) (x_rcv (by decide) h177) (xs_75f h177 f178 hn hl hcs hp hT hM (by unfold xsgn; omega) hs) (fun r' f1 hP => ?_)
        obtain ⟨rfl, hPe⟩ := hP
        subst hPe
        refine x_ifeq (t := 235) rfl rfl (by decide) (fun _ => ?_) (fun h => absurd rfl h)
        refine x_iconst rfl ?_
        refine x_istore_n rfl (show (2 : Nat) < 4 from by decide) ?_
        refine x_goto (t := 142) rfl rfl ?_
        refine x_iload_n rfl xst_eq ?_
        refine x_ifeq (t := 240) rfl rfl (by decide) (fun _ => ?_) (fun h => absurd rfl h)
        refine xs_81e hn hl hcs h179 hlen hcl hw hnl hnd hns hbc hdp htk hpa0 h178 (xst_ne (by decide) l0 (Or.inl rfl)) hG hGc hst0 (fun ki9 s9 e9 hT9 => ?_)
        have e9 := (xtf_eq hT).symm.trans (xtf_eq hT9)
        injection e9 with e91 e92
        injection e92 with e93 e94
        rw [← e91, ← e93]
        exact ⟨hs, hcx⟩
    refine x_iload_n rfl l2 ?_
    refine x_ifne (t := 218) rfl rfl (by decide) (fun h => absurd rfl h) (fun _ => ?_)
    refine x_aload_n rfl l0 ?_
    refine x_getfield rfl (by decide) h177 rfl ?_
    refine x_ifle (t := 218) rfl rfl ⟨by omega, by omega⟩ (fun hop => hsemi (fun h => by omega)) (fun hop => ?_)
    refine x_aload_n rfl l0 ?_
    refine x_bipush rfl (by decide) ?_
    by_cases hs : ki = 3 ∧ cs.getD s 0 = 41
    · skip
      refine x_call [_, _] rfl rfl (show (0 : Nat) ≤ 8 from by decide) (show (2 : Nat) ≤ 3 from by decide) (x_rcv (by decide) h177) (xs_75t h177 f178 hn hl hcs hp hT hM (by unfold xsgn; omega) hs) (fun r' f1 hP => ?_)
      obtain ⟨rfl, ⟨ki2, s2, e2, kM2, wo2, nu2, h177b, hT2, hM2⟩, hf1⟩ := hP
      have hse := hr.2.2.2.2.2.1 (by omega)
      have hj := k11 (op - 1).toNat (by omega)
      have hcy := xphi_close (t := tm.getD (op - 1).toNat 0) ⟨hop, c1.2⟩ ⟨by omega, by omega⟩ k12
      refine x_ifeq (t := 218) rfl rfl (by decide) (fun h => absurd h (by decide)) (fun _ => ?_)
      refine x_aload_n rfl l0 ?_
      refine x_call [_] rfl rfl (show (0 : Nat) ≤ 8 from by decide) (show (1 : Nat) ≤ 6 from by decide) (x_rcv (by decide) h177b) (xs_80 h177b ((hf1 187 (by decide)).trans k7) ((hf1 188 (by decide)).trans k8) ⟨hop, c1.2⟩ k9 k10 ⟨by omega, by omega⟩ ⟨by omega, by omega⟩ hcy.2.2 (xMD_mv (fun p p1 p2 => hf1 p (by omega)) k5)) (fun r' f2 hP => ?_)
      obtain ⟨rfl, hQ1, hQ2, hQ3⟩ := hP
      rw [hj.1] at hQ1
      refine x_goto (t := 191) rfl rfl ?_
      have k0 : 0 ≤ tm.getD (op - 1).toNat 0 - 1 := by omega
      have hmin : min (mt + (tm.getD (op - 1).toNat 0 - 1) * (mt - oaM.getD (op - 1).toNat 0)) 17 = min (m + (tm.getD (op - 1).toNat 0 - 1) * (m - oa.getD (op - 1).toNat 0)) 17 := by
        by_cases hbig : mt ≤ 16
        · rw [show m = mt by omega, show oa.getD (op - 1).toNat 0 = oaM.getD (op - 1).toNat 0 by have := hj.2.2; have := hcy.2.2; omega]
        · have z1 : 0 ≤ (tm.getD (op - 1).toNat 0 - 1) * (mt - oaM.getD (op - 1).toNat 0) := Int.mul_nonneg k0 (by have := hcy.2.2; omega)
          have z2 : 0 ≤ (tm.getD (op - 1).toNat 0 - 1) * (m - oa.getD (op - 1).toNat 0) := Int.mul_nonneg k0 (by have := hj.2.2; omega)
          omega
      exfalso; omega
    · skip
      refine x_call [_, _] rfl rfl (show (0 : Nat) ≤ 8 from by decide) (show (2 : Nat) ≤ 3 from by decide) (x_rcv (by decide) h177) (xs_75f h177 f178 hn hl hcs hp hT hM (by unfold xsgn; omega) hs) (fun r' f1 hP => ?_)
      obtain ⟨rfl, hPe⟩ := hP
      subst hPe
      refine x_ifeq (t := 218) rfl rfl (by decide) (fun _ => hsemi (fun _ => hs)) (fun h => absurd rfl h)
  | succ w ih =>
    intro p C f lv op m d hwp l0 l2 hG hGc hback hst
    have hst0 := hst
    obtain ⟨hp, ki, s, e, kM, wo, nu, pa, h177, hT, hM, hC, hpa1, hpa2, hpl⟩ := hst
    have hr := xTK_rg hT hp
    have hk := xTM_k hp hT hM
    have hC0 := hC
    obtain ⟨c1, c2, c3, c4, mt, tmM, oaM, k5, k6, k7, k8, k9, k10, k11, k12, k13⟩ := hC0
    have hmt0 := k12.1
    have hmt := xphi_m c1 k12
    have f178 := (c4 178 (by decide) (by decide) (by decide) (by decide) (by decide) (by decide) (by decide) (by decide) (by decide) (by decide)).trans h178
    have hsemi : (op ≠ 0 → ¬ (ki = 3 ∧ cs.getD s 0 = 41)) → xz v0 xs u (fun o X => ∃ r f', o = .inl r ∧ X = (xh f', u) ∧ (fun r f' => (∃ b e' : Int, G0 = .inr (b, e') ∧ r = some (xi (-1)) ∧ xMA K R0 Cf n nms bc dp tk0 cd fa pa0 q f0 f' b e') ∨ (∃ z : Int, G0 = .inl z ∧ r = some (xi z) ∧ (0 ≤ z ∧ z ≤ 100) ∧ xMW K R0 n nms bc dp tk0 cd fa q f0 f' z)) r f') 81 218 lv [] f := fun hcx => by
      refine x_iload_n rfl l2 ?_
      refine x_ifne (t := 231) rfl rfl (by decide) (fun h => absurd rfl h) (fun _ => ?_)
      refine x_aload_n rfl l0 ?_
      refine x_bipush rfl (by decide) ?_
      by_cases hs : ki = 3 ∧ cs.getD s 0 = 59
      · skip
        refine x_call [_, _] rfl rfl (show (0 : Nat) ≤ 8 from by decide) (show (2 : Nat) ≤ 3 from by decide) (x_rcv (by decide) h177) (xs_75t h177 f178 hn hl hcs hp hT hM (by unfold xsgn; omega) hs) (fun r' f1 hP => ?_)
        obtain ⟨rfl, ⟨ki2, s2, e2, kM2, wo2, nu2, h177b, hT2, hM2⟩, hf1⟩ := hP
        have hse := hr.2.2.2.2.2.1 (by omega)
        refine x_ifeq (t := 235) rfl rfl (by decide) (fun h => absurd h (by decide)) (fun _ => ?_)
        refine x_iconst rfl ?_
        refine x_goto (t := 236) rfl rfl ?_
        refine x_istore_n rfl (show (2 : Nat) < 4 from by decide) ?_
        refine x_goto (t := 142) rfl rfl ?_
        refine hback e C f1 _ op m d (by omega) (xst_ne (by decide) l0 (Or.inl rfl)) xst_eq ?_ ?_ ⟨hr.2.2.2.1, ki2, s2, e2, kM2, wo2, nu2, pa, h177b, hT2, hM2, xCM_mv hf1 (by omega) hC, hpa1, by omega, hpl⟩
        · rw [← hG]
          exact (xG_s hp hT (by omega) (by unfold xtq; simp only [xstep]; unfold xeos; rw [if_pos hs])).symm
        · rw [← hGc]
          exact (xGC_s hp hT (by omega) (by unfold xtq; simp only [xstep]; unfold xeos; rw [if_pos hs]) (by unfold xtc; simp only [xcst]; unfold xceos; rw [if_pos hs])).symm
      · skip
        refine x_call [_, _] rfl rfl (show (0 : Nat) ≤ 8 from by decide) (show (2 : Nat) ≤ 3 from by decide) (x_rcv (by decide) h177) (xs_75f h177 f178 hn hl hcs hp hT hM (by unfold xsgn; omega) hs) (fun r' f1 hP => ?_)
        obtain ⟨rfl, hPe⟩ := hP
        subst hPe
        refine x_ifeq (t := 235) rfl rfl (by decide) (fun _ => ?_) (fun h => absurd rfl h)
        refine x_iconst rfl ?_
        refine x_istore_n rfl (show (2 : Nat) < 4 from by decide) ?_
        refine x_goto (t := 142) rfl rfl ?_
        refine x_iload_n rfl xst_eq ?_
        refine x_ifeq (t := 240) rfl rfl (by decide) (fun _ => ?_) (fun h => absurd rfl h)
        refine xs_81e hn hl hcs h179 hlen hcl hw hnl hnd hns hbc hdp htk hpa0 h178 (xst_ne (by decide) l0 (Or.inl rfl)) hG hGc hst0 (fun ki9 s9 e9 hT9 => ?_)
        have e9 := (xtf_eq hT).symm.trans (xtf_eq hT9)
        injection e9 with e91 e92
        injection e92 with e93 e94
        rw [← e91, ← e93]
        exact ⟨hs, hcx⟩
    refine x_iload_n rfl l2 ?_
    refine x_ifne (t := 218) rfl rfl (by decide) (fun h => absurd rfl h) (fun _ => ?_)
    refine x_aload_n rfl l0 ?_
    refine x_getfield rfl (by decide) h177 rfl ?_
    refine x_ifle (t := 218) rfl rfl ⟨by omega, by omega⟩ (fun hop => hsemi (fun h => by omega)) (fun hop => ?_)
    refine x_aload_n rfl l0 ?_
    refine x_bipush rfl (by decide) ?_
    by_cases hs : ki = 3 ∧ cs.getD s 0 = 41
    · skip
      refine x_call [_, _] rfl rfl (show (0 : Nat) ≤ 8 from by decide) (show (2 : Nat) ≤ 3 from by decide) (x_rcv (by decide) h177) (xs_75t h177 f178 hn hl hcs hp hT hM (by unfold xsgn; omega) hs) (fun r' f1 hP => ?_)
      obtain ⟨rfl, ⟨ki2, s2, e2, kM2, wo2, nu2, h177b, hT2, hM2⟩, hf1⟩ := hP
      have hse := hr.2.2.2.2.2.1 (by omega)
      have hj := k11 (op - 1).toNat (by omega)
      have hcy := xphi_close (t := tm.getD (op - 1).toNat 0) ⟨hop, c1.2⟩ ⟨by omega, by omega⟩ k12
      refine x_ifeq (t := 218) rfl rfl (by decide) (fun h => absurd h (by decide)) (fun _ => ?_)
      refine x_aload_n rfl l0 ?_
      refine x_call [_] rfl rfl (show (0 : Nat) ≤ 8 from by decide) (show (1 : Nat) ≤ 6 from by decide) (x_rcv (by decide) h177b) (xs_80 h177b ((hf1 187 (by decide)).trans k7) ((hf1 188 (by decide)).trans k8) ⟨hop, c1.2⟩ k9 k10 ⟨by omega, by omega⟩ ⟨by omega, by omega⟩ hcy.2.2 (xMD_mv (fun p p1 p2 => hf1 p (by omega)) k5)) (fun r' f2 hP => ?_)
      obtain ⟨rfl, hQ1, hQ2, hQ3⟩ := hP
      rw [hj.1] at hQ1
      refine x_goto (t := 191) rfl rfl ?_
      have k0 : 0 ≤ tm.getD (op - 1).toNat 0 - 1 := by omega
      have hmin : min (mt + (tm.getD (op - 1).toNat 0 - 1) * (mt - oaM.getD (op - 1).toNat 0)) 17 = min (m + (tm.getD (op - 1).toNat 0 - 1) * (m - oa.getD (op - 1).toNat 0)) 17 := by
        by_cases hbig : mt ≤ 16
        · rw [show m = mt by omega, show oa.getD (op - 1).toNat 0 = oaM.getD (op - 1).toNat 0 by have := hj.2.2; have := hcy.2.2; omega]
        · have z1 : 0 ≤ (tm.getD (op - 1).toNat 0 - 1) * (mt - oaM.getD (op - 1).toNat 0) := Int.mul_nonneg k0 (by have := hcy.2.2; omega)
          have z2 : 0 ≤ (tm.getD (op - 1).toNat 0 - 1) * (m - oa.getD (op - 1).toNat 0) := Int.mul_nonneg k0 (by have := hj.2.2; omega)
          omega
      have hcrp : mt + (tm.getD (op - 1).toNat 0 - 1) * (mt - oaM.getD (op - 1).toNat 0) ≤ 16 → C.2.2.2 ++ xrd0 C.2.2.2 (oaM.getD (op - 1).toNat 0).toNat (mt - oaM.getD (op - 1).toNat 0) (tm.getD (op - 1).toNat 0 - 1).toNat = (xcrp op tm oa C).2.2.2 := fun h16 => by
        have z1 : 0 ≤ (tm.getD (op - 1).toNat 0 - 1) * (mt - oaM.getD (op - 1).toNat 0) := Int.mul_nonneg k0 (by have := hcy.2.2; omega)
        have hbl := xMD_B k5 (by omega)
        show _ = C.2.2.2 ++ xrd0 C.2.2.2 (oa.getD (op - 1).toNat 0).toNat ((C.2.2.2.length : Int) - oa.getD (op - 1).toNat 0) (tm.getD (op - 1).toNat 0 - 1).toNat
        rw [hbl, show oa.getD (op - 1).toNat 0 = oaM.getD (op - 1).toNat 0 by have := hj.2.2; have := hcy.2.2; omega]
      refine ih e (xcrp op tm oa C) f2 lv (op - 1) _ d (by omega) l0 l2 ?_ ?_ (fun p9 C9 f9 lv9 o9 m9 d9 h9 => hback p9 C9 f9 lv9 o9 m9 d9 (by omega)) ⟨hr.2.2.2.1, ki2, s2, e2, kM2, wo2, nu2, pa, hQ2, hT2, hM2, ⟨⟨by omega, by omega⟩, c2, xMS_mv ((hQ3 185 (by decide) (by decide) (by decide) (by decide) (by decide)).trans (hf1 185 (by decide))) ((hQ3 186 (by decide) (by decide) (by decide) (by decide) (by decide)).trans (hf1 186 (by decide))) c3, fun p a1 a2 a3 a4 a5 a6 a7 a8 a9 a10 => (hQ3 p a1 a2 a4 a5 a6).trans ((hf1 p a1).trans (c4 p a1 a2 a3 a4 a5 a6 a7 a8 a9 a10)), _, tmM, oaM, xMD_ch hcrp hQ1, hmin, ((hQ3 187 (by decide) (by decide) (by decide) (by decide) (by decide)).trans (hf1 187 (by decide))).trans k7, ((hQ3 188 (by decide) (by decide) (by decide) (by decide) (by decide)).trans (hf1 188 (by decide))).trans k8, k9, k10, fun j hj => k11 j (by omega), hcy.2.1, by omega⟩, hpa1, by omega, hpl⟩
      · rw [← hG]
        exact (xG_s hp hT (by omega) (by unfold xtq; simp only [xstep]; unfold xeos; rw [if_neg (by omega), if_neg (by omega), if_pos hs])).symm
      · rw [← hGc]
        exact (xGC_s hp hT (by omega) (by unfold xtq; simp only [xstep]; unfold xeos; rw [if_neg (by omega), if_neg (by omega), if_pos hs]) (by unfold xtc; simp only [xcst]; unfold xceos; rw [if_neg (by omega)])).symm
    · skip
      refine x_call [_, _] rfl rfl (show (0 : Nat) ≤ 8 from by decide) (show (2 : Nat) ≤ 3 from by decide) (x_rcv (by decide) h177) (xs_75f h177 f178 hn hl hcs hp hT hM (by unfold xsgn; omega) hs) (fun r' f1 hP => ?_)
      obtain ⟨rfl, hPe⟩ := hP
      subst hPe
      refine x_ifeq (t := 218) rfl rfl (by decide) (fun _ => hsemi (fun _ => hs)) (fun h => absurd rfl h)
theorem xs_81l {K : List (Int × Int)} {R0 : Nat → Int × Int} {G : Nat → List xBt} {Cf : xC} {v0 : Value} {xs : List Int32} {u : Nat × Nat} {f0 : Nat → zE} {n : Nat} {cs : List Int} {nms : List (List Int)} {nl : List Int64} {bc dp tk0 : Nat → Int} {cd fa pa0 : Int} {q : Nat → Value} {G0 : Int ⊕ (Int × Int)} (hn : n ≤ 100) (hl : cs.length = 100) (hcs : ∀ j : Nat, 0 ≤ cs.getD j 0 ∧ cs.getD j 0 ≤ 126) (h179 : f0 179 = .inr (.inr (.inl nl))) (hlen : nl.length = 13) (hcl : nms.length ≤ 12) (hw : ∀ w ∈ nms, xwf w) (hnl : ∀ k, k < nms.length → nl.getD k 0 = Int64.ofInt (xpr (nms.getD k []))) (hnd : nms.Nodup) (hns : ∀ w ∈ nms, w ∉ selW) (hbc : ∀ i, i < nms.length → 0 ≤ bc i ∧ bc i ≤ 16) (hdp : ∀ i, i < nms.length → 1 ≤ dp i ∧ dp i ≤ 6) (htk : ∀ i, i < nms.length → ∀ k : Nat, (k : Int) < bc i → 0 ≤ tk0 (16 * i + k) ∧ tk0 (16 * i + k) ≤ k) (hpa0 : 0 ≤ pa0 ∧ pa0 ≤ 192) (h178 : f0 178 = xr 1 cs) (hGk : ∀ i, i < nms.length → ((G i).length : Int) = bc i ∧ ∀ k, k < (G i).length → ((R0 (16 * i + k)).1, (R0 (16 * i + k)).2, tk0 (16 * i + k)) = (G i).getD k (0, 0, 0)) : ∀ (w p : Nat) (C : xC) (f : Nat → zE) (lv : zL) (op m d : Int) (tm oa : List Int), n < w + p → zlv lv 0 = some (.ref 177) → zlv lv 2 = some (xi 1) → xG cs n nms bc dp p (2, op, tm, oa, m, d) = G0 → xGC K G cs n nms bc dp p (2, op, tm, oa, m, d) C = Cf → tm.length = 3 → oa.length = 3 → xST K R0 C cs n nms bc dp tk0 cd fa pa0 q f0 f p op tm oa m d → xz v0 xs u (fun o X => ∃ r f', o = .inl r ∧ X = (xh f', u) ∧ (fun r f' => (∃ b e' : Int, G0 = .inr (b, e') ∧ r = some (xi (-1)) ∧ xMA K R0 Cf n nms bc dp tk0 cd fa pa0 q f0 f' b e') ∨ (∃ z : Int, G0 = .inl z ∧ r = some (xi z) ∧ (0 ≤ z ∧ z ≤ 100) ∧ xMW K R0 n nms bc dp tk0 cd fa q f0 f' z)) r f') 81 142 lv [] f := by
  intro w
  induction w with
  | zero =>
    intro p C f lv op m d tm oa hwp l0 l2 hG hGc htl hol hst
    exact absurd hst.1 (by omega)
  | succ w ih =>
    intro p C f lv op m d tm oa hwp l0 l2 hG hGc htl hol hst
    have hst0 := hst
    obtain ⟨hp, ki, s, e, kM, wo, nu, pa, h177, hT, hM, hC, hpa1, hpa2, hpl⟩ := hst
    have hC0 := hC
    obtain ⟨c1, -⟩ := hC0
    refine x_iload_n rfl l2 ?_
    refine x_ifeq (t := 240) rfl rfl (by decide) (fun h => absurd h (by decide)) (fun _ => ?_)
    refine x_aload_n rfl l0 ?_
    refine x_getfield rfl (by decide) h177 rfl ?_
    refine x_istore_n rfl (show (3 : Nat) < 4 from by decide) ?_
    refine x_aload_n rfl (xst_ne (by decide) l0 (Or.inl rfl)) ?_
    refine x_call [_] rfl rfl (show (0 : Nat) ≤ 8 from by decide) (show (1 : Nat) ≤ 2 from by decide) (x_rcv (by decide) h177) (xs_79 hn hl hcs h179 hlen hcl hw hnl hnd hns hbc hdp htk hpa0 h178 hGk htl hol hst0) (fun r' f1 hP => ?_)
    rcases hP with ⟨rfl, z9, h1, h2⟩ | ⟨rfl, p1, m1, d1, C9, h1, h2, h2c, h3⟩ | ⟨rfl, p1, tm1, oa1, h1, h2, h3, h4, h5, h5c, h6⟩
    · refine x_ifne (t := 177) rfl rfl (by decide) (fun h => absurd rfl h) (fun _ => ?_)
      have h2b := h2
      obtain ⟨kM1, en1, wo1, nu1, pa1, op1, mt1, dd1, tm1, oa1, E1, B1, j177, jk, -⟩ := h2b
      refine x_aload_n rfl (xst_ne (by decide) l0 (Or.inl rfl)) ?_
      refine x_getfield rfl (by decide) j177 rfl ?_
      refine x_ifne (t := 172) rfl rfl ⟨by omega, by omega⟩ (fun _ => ?_) (fun h9 => ?_)
      · refine x_aload_n rfl (xst_ne (by decide) l0 (Or.inl rfl)) ?_
        refine x_getfield rfl (by decide) j177 rfl ?_
        refine x_ireturn rfl (Or.inl rfl) ⟨_, _, rfl, rfl, ?_⟩
        exact Or.inr ⟨z9, hG.symm.trans h1, rfl, jk.2.1, h2⟩ --j177h2
      · refine x_aload_n rfl (xst_ne (by decide) l0 (Or.inl rfl)) ?_
        refine x_getfield rfl (by decide) j177 rfl ?_
        refine x_goto (t := 176) rfl rfl ?_
        refine x_ireturn rfl (Or.inl rfl) ⟨_, _, rfl, rfl, ?_⟩
        exact Or.inr ⟨z9, hG.symm.trans h1, by rw [jk.2.2 h9], jk.2.1, h2⟩ --j177h2
    · refine x_ifne (t := 177) rfl rfl (by decide) (fun _ => ?_) (fun h => absurd h (by decide))
      have h3b := h3
      obtain ⟨hp1, ki1, s1, e1, kM1, wo1, nu1, pa1, j177, -⟩ := h3b
      refine x_aload_n rfl (xst_ne (by decide) l0 (Or.inl rfl)) ?_
      refine x_getfield rfl (by decide) j177 rfl ?_
      refine x_iload_n rfl xst_eq ?_
      refine x_cle (t := 189) rfl rfl ⟨by omega, by omega⟩ ⟨by omega, by omega⟩ (fun _ => ?_) (fun h => by omega)
      refine x_iconst rfl ?_
      refine x_istore_n rfl (show (2 : Nat) < 4 from by decide) ?_
      refine xs_81i hn hl hcs h179 hlen hcl hw hnl hnd hns hbc hdp htk hpa0 h178 n p1 C9 f1 _ op m1 d1 (by omega) (xst_ne (by decide) (xst_ne (by decide) l0 (Or.inl rfl)) (Or.inl rfl)) xst_eq (h2.symm.trans hG) (h2c.symm.trans hGc) (fun p9 C8 f9 lv9 o9 m9 d9 h9 a1 a2 a3 a3c a4 => ih p9 C8 f9 lv9 o9 m9 d9 tm oa (by omega) a1 a2 a3 a3c htl hol a4) h3
    · refine x_ifne (t := 177) rfl rfl (by decide) (fun _ => ?_) (fun h => absurd h (by decide))
      have h6b := h6
      obtain ⟨hp1, ki1, s1, e1, kM1, wo1, nu1, pa1, j177, -⟩ := h6b
      refine x_aload_n rfl (xst_ne (by decide) l0 (Or.inl rfl)) ?_
      refine x_getfield rfl (by decide) j177 rfl ?_
      refine x_iload_n rfl xst_eq ?_
      refine x_cle (t := 189) rfl rfl ⟨by omega, by omega⟩ ⟨by omega, by omega⟩ (fun h => by omega) (fun _ => ?_)
      refine x_iconst rfl ?_
      refine x_goto (t := 190) rfl rfl ?_
      refine x_istore_n rfl (show (2 : Nat) < 4 from by decide) ?_
      refine x_iload_n rfl xst_eq ?_
      refine x_ifne (t := 218) rfl rfl (by decide) (fun _ => ?_) (fun h => absurd h (by decide))
      refine x_iload_n rfl xst_eq ?_
      refine x_ifne (t := 231) rfl rfl (by decide) (fun _ => ?_) (fun h => absurd h (by decide))
      refine x_iconst rfl ?_
      refine x_goto (t := 236) rfl rfl ?_
      refine x_istore_n rfl (show (2 : Nat) < 4 from by decide) ?_
      refine x_goto (t := 142) rfl rfl ?_
      exact ih p1 C f1 _ (op + 1) m d tm1 oa1 (by omega) (xst_ne (by decide) (xst_ne (by decide) (xst_ne (by decide) l0 (Or.inl rfl)) (Or.inl rfl)) (Or.inl rfl)) xst_eq (h5.symm.trans hG) (h5c.symm.trans hGc) h3 h4 h6
end
section
/-! The model's read, whole. -/
/-- what stands behind the kept parts does not count -/
theorem xMS_K {K E : List (Int × Int)} {f : Nat → zE} (h : xMS K E f) : xMS K [] f := by
  obtain ⟨se, at', h1, h2, h3, h4, h5, h6, h7⟩ := h
  refine ⟨se, at', h1, h2, h3, h4, h5, h6, fun j hj => ?_⟩
  rw [List.append_nil] at hj ⊢
  rw [h7 j (by rw [List.length_append]; omega), List.getD_eq_getElem?_getD, List.getD_eq_getElem?_getD, List.getElem?_append_left hj]
theorem xs_81 {K : List (Int × Int)} {R0 : Nat → Int × Int} {G : Nat → List xBt} {B0 : List xBt} {E0 : List (Int × Int)} {v0 : Value} {xs : List Int32} {u : Nat × Nat} {f : Nat → zE} {n : Nat} {cs : List Int} {nms : List (List Int)} {nl : List Int64} {bc dp tk0 : Nat → Int} {cd fa ki be en nu pa0 op m0 d0 : Int} {wo : Int64} {q : Nat → Value} {tm oa tmM oaM : List Int} (hn : n ≤ 100) (hl : cs.length = 100) (hcs : ∀ j : Nat, 0 ≤ cs.getD j 0 ∧ cs.getD j 0 ≤ 126) (h179 : f 179 = .inr (.inr (.inl nl))) (hlen : nl.length = 13) (hcl : nms.length ≤ 12) (hw : ∀ w ∈ nms, xwf w) (hnl : ∀ k, k < nms.length → nl.getD k 0 = Int64.ofInt (xpr (nms.getD k []))) (hnd : nms.Nodup) (hns : ∀ w ∈ nms, w ∉ selW) (hbc : ∀ i, i < nms.length → 0 ≤ bc i ∧ bc i ≤ 16) (hdp : ∀ i, i < nms.length → 1 ≤ dp i ∧ dp i ≤ 6) (htk : ∀ i, i < nms.length → ∀ k : Nat, (k : Int) < bc i → 0 ≤ tk0 (16 * i + k) ∧ tk0 (16 * i + k) ≤ k) (hpa0 : 0 ≤ pa0 ∧ pa0 ≤ 192) (h178 : f 178 = xr 1 cs) (h177 : f 177 = xmo cd (n : Nat) fa ki be en wo nu (nms.length : Nat) pa0 op q) (hGk : ∀ i, i < nms.length → ((G i).length : Int) = bc i ∧ ∀ k, k < (G i).length → ((R0 (16 * i + k)).1, (R0 (16 * i + k)).2, tk0 (16 * i + k)) = (G i).getD k (0, 0, 0)) (hKp : (K.length : Int) = pa0) (hmd : xMD R0 B0 bc dp tk0 f m0 d0) (k7 : f 187 = xr 0 tmM) (k8 : f 188 = xr 0 oaM) (k9 : tmM.length = 3) (k10 : oaM.length = 3) (hMS : xMS K E0 f) (htl : tm.length = 3) (hol : oa.length = 3) : xq v0 xs u 81 [(0, .ref 177)] f (fun r f' => ∃ W : Int64, (∃ b e' : Int, xG cs n nms bc dp 0 (0, 0, tm, oa, 0, 1) = .inr (b, e') ∧ r = some (xi (-1)) ∧ W = (Int64.ofInt (xwR (xwd cs (xtf cs n 0).2.1 (xtf cs n 0).2.2))) ∧ xMA K R0 (xGC K G cs n nms bc dp 0 (0, 0, tm, oa, 0, 1) xC0) n nms bc dp tk0 cd fa pa0 q (xu f 179 (.inr (.inr (.inl (nl.set 12 W))))) f' b e') ∨ (∃ z : Int, xG cs n nms bc dp 0 (0, 0, tm, oa, 0, 1) = .inl z ∧ r = some (xi z) ∧ (0 ≤ z ∧ z ≤ 100) ∧ xMW K R0 n nms bc dp tk0 cd fa q (xu f 179 (.inr (.inr (.inl (nl.set 12 W))))) f' z)) := by
  unfold xq
  obtain ⟨cn, dn, tk, pf, pq, h180, h181, h182, h183, h184, ⟨g1l, g2l, g3l, g4l, g5l⟩, hcm, hdd, hk1, hk2, hk3, hk4, hR, hmb⟩ := hmd
  refine x_aload_n rfl rfl ?_
  refine x_iconst rfl ?_
  refine x_putfield rfl (by decide) h177 (show (6 : Nat) < 41 from by decide) rfl ?_
  refine x_aload_n rfl rfl ?_
  refine x_iconst rfl ?_
  refine x_putfield rfl (by decide) xu_eq (show (19 : Nat) < 41 from by decide) rfl ?_
  refine x_aload_n rfl rfl ?_
  refine x_getfield rfl (by decide) xu_eq rfl ?_
  refine x_bipush rfl (by decide) ?_
  refine x_iconst rfl ?_
  refine x_iastore rfl (by decide) (xu_ne (by decide) (xu_ne (by decide) h180)) ⟨by omega, by omega⟩ (by omega) ?_
  refine x_aload_n rfl rfl ?_
  refine x_getfield rfl (by decide) (xu_ne (by decide) xu_eq) rfl ?_
  refine x_bipush rfl (by decide) ?_
  refine x_iconst rfl ?_
  refine x_iastore rfl (by decide) (xu_ne (by decide) (xu_ne (by decide) (xu_ne (by decide) h181))) ⟨by omega, by omega⟩ (by omega) ?_
  generalize hgf : xu (xu (xu (xu f 177 _) 177 _) 180 _) 181 _ = f1
  have a177 : f1 177 = xmo cd (n : Nat) fa ki be ((0 : Nat) : Int) wo nu (nms.length : Nat) pa0 0 q := by rw [← hgf]; exact xu_ne (by decide) (xu_ne (by decide) xu_eq)
  have afr : ∀ p, p ≠ 177 → p ≠ 180 → p ≠ 181 → f1 p = f p := fun p b1 b2 b3 => by rw [← hgf]; exact xu_ne b3 (xu_ne b2 (xu_ne b1 (xu_ne b1 rfl)))
  have aMD : xMD R0 [] bc dp tk0 f1 0 1 := by
    refine ⟨cn.set 12 0, dn.set 12 1, tk, pf, pq, by rw [← hgf]; exact xu_ne (by decide) xu_eq, by rw [← hgf]; exact xu_eq, (afr 182 (by decide) (by decide) (by decide)).trans h182, (afr 183 (by decide) (by decide) (by decide)).trans h183, (afr 184 (by decide) (by decide) (by decide)).trans h184, ⟨by rw [List.length_set]; exact g1l, by rw [List.length_set]; exact g2l, g3l, g4l, g5l⟩, ?_, ?_, ?_, ?_, hk3, fun j _ hj => by omega, hR, fun _ => ⟨rfl, fun j hj => absurd hj (Nat.not_lt_zero j)⟩⟩
    · rw [x_gset, if_pos ⟨rfl, by omega⟩]
    · rw [x_gset, if_pos ⟨rfl, by omega⟩]
    · intro i hi; rw [x_gset, if_neg (by omega)]; exact hk1 i hi
    · intro i hi; rw [x_gset, if_neg (by omega)]; exact hk2 i hi
  clear hgf
  have a178 := (afr 178 (by decide) (by decide) (by decide)).trans h178
  refine x_aload_n rfl rfl ?_
  refine x_call [_] rfl rfl (show (0 : Nat) ≤ 8 from by decide) (show (1 : Nat) ≤ 2 from by decide) (x_rcv (by decide) a177) (xs_69 (p0 := 0) a177 a178 hn hl hcs (Nat.zero_le _)) (fun r' f2 hP => ?_)
  obtain ⟨rfl, ⟨ki1, s, e, kM, wo1, nu1, b177, hT, hM⟩, hf2⟩ := hP
  have hr := xTK_rg hT (Nat.zero_le _)
  have hk := xTM_k (Nat.zero_le _) hT hM
  have et := xtf_eq hT
  have b179 : f2 179 = .inr (.inr (.inl nl)) := (hf2 179 (by decide)).trans ((afr 179 (by decide) (by decide) (by decide)).trans h179)
  have b178 : f2 178 = xr 1 cs := (hf2 178 (by decide)).trans a178
  have bMD : xMD R0 [] bc dp tk0 f2 0 1 := xMD_mv (fun p p1 p2 => hf2 p (by omega)) aMD
  have bfr : ∀ p, p ≠ 177 → p ≠ 180 → p ≠ 181 → f2 p = f p := fun p b1 b2 b3 => (hf2 p b1).trans (afr p b1 b2 b3)
  have hnl2 : ∀ k, k < nms.length → (nl.set 12 wo1).getD k 0 = Int64.ofInt (xpr (nms.getD k [])) := fun k hk => by
    rw [List.getD_eq_getElem?_getD, List.getElem?_set_ne (by omega), ← List.getD_eq_getElem?_getD]; exact hnl k hk
  have c177 : (xu f2 179 (.inr (.inr (.inl (nl.set 12 wo1))))) 177 = xmo cd (n : Nat) fa kM (s : Nat) (e : Nat) wo1 nu1 (nms.length : Nat) pa0 0 q := xu_ne (by decide) b177
  have cCM : ∀ B : Int, 0 ≤ B → xCM K R0 xC0 bc dp tk0 (xu f 179 (.inr (.inr (.inl (nl.set 12 wo1))))) (xu f2 179 (.inr (.inr (.inl (nl.set 12 wo1))))) 0 tm oa 0 1 B := fun B hB => by
    refine ⟨by decide, by decide, xMS_mv (xu_ne (by decide) (bfr 185 (by decide) (by decide) (by decide))) (xu_ne (by decide) (bfr 186 (by decide) (by decide) (by decide))) (xMS_K hMS), ?_, 0, tmM, oaM, xMD_mv (fun p p1 p2 => xu_ne (by omega) rfl) bMD, by decide, xu_ne (by decide) ((bfr 187 (by decide) (by decide) (by decide)).trans k7), xu_ne (by decide) ((bfr 188 (by decide) (by decide) (by decide)).trans k8), k9, k10, fun j hj => by omega, ⟨by decide, fun h => by omega, fun h => by omega, fun h => by omega⟩, by unfold xphi; rw [if_pos rfl]; exact hB⟩
    intro p a1 a2 a3 a4 a5 a6 a7 a8 a9 a10
    by_cases hp : p = 179
    · subst hp; rw [xu_eq, xu_eq]
    · rw [xu_ne hp rfl, xu_ne hp rfl]; exact bfr p a1 a2 a3
  have hbad : ¬ (ki1 = 1 ∧ (xwd cs s e).isNone = false ∧ xfi (xwd cs s e) nms 0 = -1 ∧ xfi (xwd cs s e) selW 0 = -1 ∧ xfi (xwd cs s e) atW 0 = -1) → xz v0 xs u (fun o X => ∃ r f', o = .inl r ∧ X = (xh f', u) ∧ (fun r f' => ∃ W : Int64, (∃ b e' : Int, xG cs n nms bc dp 0 (0, 0, tm, oa, 0, 1) = .inr (b, e') ∧ r = some (xi (-1)) ∧ W = (Int64.ofInt (xwR (xwd cs (xtf cs n 0).2.1 (xtf cs n 0).2.2))) ∧ xMA K R0 (xGC K G cs n nms bc dp 0 (0, 0, tm, oa, 0, 1) xC0) n nms bc dp tk0 cd fa pa0 q (xu f 179 (.inr (.inr (.inl (nl.set 12 W))))) f' b e') ∨ (∃ z : Int, xG cs n nms bc dp 0 (0, 0, tm, oa, 0, 1) = .inl z ∧ r = some (xi z) ∧ (0 ≤ z ∧ z ≤ 100) ∧ xMW K R0 n nms bc dp tk0 cd fa q (xu f 179 (.inr (.inr (.inl (nl.set 12 W))))) f' z)) r f') 81 73 [(0, .ref 177)] [xi 0] f2 := fun hno => by
    refine x_istore_n rfl (show (1 : Nat) < 4 from by decide) ?_
    refine x_aload_n rfl (xst_ne (by decide) rfl (Or.inl rfl)) ?_
    refine x_getfield rfl (by decide) b177 rfl ?_
    refine x_bipush rfl (by decide) ?_
    refine x_aload_n rfl (xst_ne (by decide) rfl (Or.inl rfl)) ?_
    refine x_getfield rfl (by decide) b177 rfl ?_
    refine x_lastore rfl (by decide) b179 ⟨by omega, by omega⟩ (by omega) ?_
    refine x_iload_n rfl xst_eq ?_
    refine x_ifne (t := 108) rfl rfl (by decide) (fun h => absurd rfl h) (fun _ => ?_)
    have hnone : xG cs n nms bc dp 0 (0, 0, tm, oa, 0, 1) = .inl ((s : Nat) : Int) := by
      refine xG_n (Nat.zero_le _) hT (fun _ => by simp [xfin]) (fun _ => ?_)
      unfold xtq
      simp only [xstep]
      rw [if_neg hno]
    refine x_aload_n rfl (xst_ne (by decide) rfl (Or.inl rfl)) ?_
    refine x_getfield rfl (by decide) c177 rfl ?_
    refine x_ifne (t := 103) rfl rfl ⟨by omega, by omega⟩ (fun _ => ?_) (fun h9 => ?_)
    · refine x_aload_n rfl (xst_ne (by decide) rfl (Or.inl rfl)) ?_
      refine x_getfield rfl (by decide) c177 rfl ?_
      refine x_ireturn rfl (Or.inl rfl) ⟨_, _, rfl, rfl, ?_⟩
      exact ⟨wo1, Or.inr ⟨_, hnone, rfl, ⟨by omega, by omega⟩, xCM_W c177 ⟨hk.1, ⟨by omega, by omega⟩, fun h => by have h8 := hr.2.2.2.2.2.2 (hk.2.2.2.mp h); omega⟩ (cCM 0 (Int.le_refl _))⟩⟩
    · refine x_aload_n rfl (xst_ne (by decide) rfl (Or.inl rfl)) ?_
      refine x_getfield rfl (by decide) c177 rfl ?_
      refine x_goto (t := 107) rfl rfl ?_
      refine x_ireturn rfl (Or.inl rfl) ⟨_, _, rfl, rfl, ?_⟩
      exact ⟨wo1, Or.inr ⟨_, hnone, by rw [hr.2.2.2.2.2.2 (hk.2.2.2.mp h9)], ⟨by omega, by omega⟩, xCM_W c177 ⟨hk.1, ⟨by omega, by omega⟩, fun h => by have h8 := hr.2.2.2.2.2.2 (hk.2.2.2.mp h); omega⟩ (cCM 0 (Int.le_refl _))⟩⟩
  have hgood : (ki1 = 1 ∧ (xwd cs s e).isNone = false ∧ xfi (xwd cs s e) nms 0 = -1 ∧ xfi (xwd cs s e) selW 0 = -1 ∧ xfi (xwd cs s e) atW 0 = -1) → xz v0 xs u (fun o X => ∃ r f', o = .inl r ∧ X = (xh f', u) ∧ (fun r f' => ∃ W : Int64, (∃ b e' : Int, xG cs n nms bc dp 0 (0, 0, tm, oa, 0, 1) = .inr (b, e') ∧ r = some (xi (-1)) ∧ W = (Int64.ofInt (xwR (xwd cs (xtf cs n 0).2.1 (xtf cs n 0).2.2))) ∧ xMA K R0 (xGC K G cs n nms bc dp 0 (0, 0, tm, oa, 0, 1) xC0) n nms bc dp tk0 cd fa pa0 q (xu f 179 (.inr (.inr (.inl (nl.set 12 W))))) f' b e') ∨ (∃ z : Int, xG cs n nms bc dp 0 (0, 0, tm, oa, 0, 1) = .inl z ∧ r = some (xi z) ∧ (0 ≤ z ∧ z ≤ 100) ∧ xMW K R0 n nms bc dp tk0 cd fa q (xu f 179 (.inr (.inr (.inl (nl.set 12 W))))) f' z)) r f') 81 73 [(0, .ref 177)] [xi 1] f2 := fun hyes => by
    have hse := hr.2.2.2.2.2.1 (by omega)
    refine x_istore_n rfl (show (1 : Nat) < 4 from by decide) ?_
    refine x_aload_n rfl (xst_ne (by decide) rfl (Or.inl rfl)) ?_
    refine x_getfield rfl (by decide) b177 rfl ?_
    refine x_bipush rfl (by decide) ?_
    refine x_aload_n rfl (xst_ne (by decide) rfl (Or.inl rfl)) ?_
    refine x_getfield rfl (by decide) b177 rfl ?_
    refine x_lastore rfl (by decide) b179 ⟨by omega, by omega⟩ (by omega) ?_
    refine x_iload_n rfl xst_eq ?_
    refine x_ifne (t := 108) rfl rfl (by decide) (fun _ => ?_) (fun h => absurd h (by decide))
    have g1 : xG cs n nms bc dp 0 (0, 0, tm, oa, 0, 1) = xG cs n nms bc dp e (1, 0, tm, oa, 0, 1) := xG_s (Nat.zero_le _) hT (by omega) (by unfold xtq; simp only [xstep]; rw [if_pos hyes])
    have g1c : xGC K G cs n nms bc dp 0 (0, 0, tm, oa, 0, 1) xC0 = xGC K G cs n nms bc dp e (1, 0, tm, oa, 0, 1) xC0 := xGC_s (Nat.zero_le _) hT (by omega) (by unfold xtq; simp only [xstep]; rw [if_pos hyes]) rfl
    refine x_aload_n rfl (xst_ne (by decide) rfl (Or.inl rfl)) ?_
    refine x_call [_] rfl rfl (show (0 : Nat) ≤ 8 from by decide) (show (1 : Nat) ≤ 2 from by decide) (x_rcv (by decide) c177) (xs_69 (p0 := e) c177 (xu_ne (by decide) b178) hn hl hcs hr.2.2.2.1) (fun r' f3 hP => ?_)
    obtain ⟨rfl, ⟨ki2, s2, e2, kM2, wo2, nu2, d177, hT2, hM2⟩, hf3⟩ := hP
    have hr2 := xTK_rg hT2 hr.2.2.2.1
    have hk2b := xTM_k hr.2.2.2.1 hT2 hM2
    have d178 : f3 178 = xr 1 cs := (hf3 178 (by decide)).trans (xu_ne (by decide) b178)
    refine x_aload_n rfl (xst_ne (by decide) rfl (Or.inl rfl)) ?_
    refine x_bipush rfl (by decide) ?_
    by_cases hq : ki2 = 3 ∧ cs.getD s2 0 = 61
    · skip
      refine x_call [_, _] rfl rfl (show (0 : Nat) ≤ 8 from by decide) (show (2 : Nat) ≤ 3 from by decide) (x_rcv (by decide) d177) (xs_75t d177 d178 hn hl hcs hr.2.2.2.1 hT2 hM2 (by unfold xsgn; omega) hq) (fun r' f4 hP => ?_)
      obtain ⟨rfl, ⟨ki3, s3, e3, kM3, wo3, nu3, e177, hT3, hM3⟩, hf4⟩ := hP
      refine x_ifne (t := 140) rfl rfl (by decide) (fun _ => ?_) (fun h => absurd h (by decide))
      refine x_iconst rfl ?_
      refine x_istore_n rfl (show (2 : Nat) < 4 from by decide) ?_
      have g2 : xG cs n nms bc dp e (1, 0, tm, oa, 0, 1) = xG cs n nms bc dp e2 (2, 0, tm, oa, 0, 1) := xG_s hr.2.2.2.1 hT2 (by omega) (by unfold xtq; simp only [xstep]; rw [if_pos hq])
      have g2c : xGC K G cs n nms bc dp e (1, 0, tm, oa, 0, 1) xC0 = xGC K G cs n nms bc dp e2 (2, 0, tm, oa, 0, 1) xC0 := xGC_s hr.2.2.2.1 hT2 (by omega) (by unfold xtq; simp only [xstep]; rw [if_pos hq]) rfl
      refine zwp_mono (xs_81l (f0 := xu f 179 (.inr (.inr (.inl (nl.set 12 wo1))))) (nl := nl.set 12 wo1) hn hl hcs xu_eq (by rw [List.length_set]; exact hlen) hcl hw hnl2 hnd hns hbc hdp htk hpa0 (xu_ne (by decide) h178) hGk (n + 1) e2 xC0 f4 _ 0 0 1 tm oa (by omega) (xst_ne (by decide) (xst_ne (by decide) rfl (Or.inl rfl)) (Or.inl rfl)) xst_eq (g1.trans g2).symm (g1c.trans g2c).symm htl hol ⟨hr2.2.2.2.1, ki3, s3, e3, kM3, wo3, nu3, pa0, e177, hT3, hM3, xCM_mv (fun p hp => (hf4 p hp).trans (hf3 p hp)) (Int.le_refl _) (cCM _ (by omega)), Int.le_refl _, by omega, by show pa0 = ((K ++ []).length : Int); rw [List.append_nil]; exact hKp.symm⟩) ?_
      intro oo X' hq2
      obtain ⟨r, f', rfl, rfl, hq2⟩ := hq2
      refine ⟨r, f', rfl, rfl, wo1, ?_⟩
      rcases hq2 with ⟨b, e9, h1, h2, h3⟩ | h
      · exact Or.inl ⟨b, e9, h1, h2, by rw [et]; exact hM.1 hyes.1, h3⟩
      · exact Or.inr h
    · skip
      refine x_call [_, _] rfl rfl (show (0 : Nat) ≤ 8 from by decide) (show (2 : Nat) ≤ 3 from by decide) (x_rcv (by decide) d177) (xs_75f d177 d178 hn hl hcs hr.2.2.2.1 hT2 hM2 (by unfold xsgn; omega) hq) (fun r' f4 hP => ?_)
      obtain ⟨rfl, hPe⟩ := hP
      subst hPe
      refine x_ifne (t := 140) rfl rfl (by decide) (fun h => absurd rfl h) (fun _ => ?_)
      have hnone : xG cs n nms bc dp 0 (0, 0, tm, oa, 0, 1) = .inl ((s2 : Nat) : Int) := by
        rw [g1]
        refine xG_n hr.2.2.2.1 hT2 (fun _ => by simp [xfin]) (fun _ => ?_)
        unfold xtq
        simp only [xstep]
        rw [if_neg hq]
      refine x_aload_n rfl (xst_ne (by decide) rfl (Or.inl rfl)) ?_
      refine x_getfield rfl (by decide) d177 rfl ?_
      refine x_ifne (t := 135) rfl rfl ⟨by omega, by omega⟩ (fun _ => ?_) (fun h9 => ?_)
      · refine x_aload_n rfl (xst_ne (by decide) rfl (Or.inl rfl)) ?_
        refine x_getfield rfl (by decide) d177 rfl ?_
        refine x_ireturn rfl (Or.inl rfl) ⟨_, _, rfl, rfl, ?_⟩
        exact ⟨wo1, Or.inr ⟨_, hnone, rfl, ⟨by omega, by omega⟩, xCM_W d177 ⟨hk2b.1, ⟨by omega, by omega⟩, fun h => by have h8 := hr2.2.2.2.2.2.2 (hk2b.2.2.2.mp h); omega⟩ (xCM_mv hf3 (Int.le_refl _) (cCM 0 (Int.le_refl _)))⟩⟩
      · refine x_aload_n rfl (xst_ne (by decide) rfl (Or.inl rfl)) ?_
        refine x_getfield rfl (by decide) d177 rfl ?_
        refine x_goto (t := 139) rfl rfl ?_
        refine x_ireturn rfl (Or.inl rfl) ⟨_, _, rfl, rfl, ?_⟩
        exact ⟨wo1, Or.inr ⟨_, hnone, by rw [hr2.2.2.2.2.2.2 (hk2b.2.2.2.mp h9)], ⟨by omega, by omega⟩, xCM_W d177 ⟨hk2b.1, ⟨by omega, by omega⟩, fun h => by have h8 := hr2.2.2.2.2.2.2 (hk2b.2.2.2.mp h); omega⟩ (xCM_mv hf3 (Int.le_refl _) (cCM 0 (Int.le_refl _)))⟩⟩
  have hB : ¬ (ki1 = 1 ∧ (xwd cs s e).isNone = false ∧ xfi (xwd cs s e) nms 0 = -1 ∧ xfi (xwd cs s e) selW 0 = -1 ∧ xfi (xwd cs s e) atW 0 = -1) → xz v0 xs u (fun o X => ∃ r f', o = .inl r ∧ X = (xh f', u) ∧ (fun r f' => ∃ W : Int64, (∃ b e' : Int, xG cs n nms bc dp 0 (0, 0, tm, oa, 0, 1) = .inr (b, e') ∧ r = some (xi (-1)) ∧ W = (Int64.ofInt (xwR (xwd cs (xtf cs n 0).2.1 (xtf cs n 0).2.2))) ∧ xMA K R0 (xGC K G cs n nms bc dp 0 (0, 0, tm, oa, 0, 1) xC0) n nms bc dp tk0 cd fa pa0 q (xu f 179 (.inr (.inr (.inl (nl.set 12 W))))) f' b e') ∨ (∃ z : Int, xG cs n nms bc dp 0 (0, 0, tm, oa, 0, 1) = .inl z ∧ r = some (xi z) ∧ (0 ≤ z ∧ z ≤ 100) ∧ xMW K R0 n nms bc dp tk0 cd fa q (xu f 179 (.inr (.inr (.inl (nl.set 12 W))))) f' z)) r f') 81 72 [(0, .ref 177)] [] f2 := fun hno => x_iconst rfl (hbad hno)
  have hsl := xfi_rg (wd := xwd cs s e) selW 0 (by decide)
  have hslen : (selW.length : Int) = 13 := rfl
  have hal := xfi_rg (wd := xwd cs s e) atW 0 (by decide)
  have halen : (atW.length : Int) = 7 := rfl
  have hol0 := xfi_rg (wd := xwd cs s e) nms 0 (by decide)
  refine x_aload_n rfl rfl ?_
  refine x_getfield rfl (by decide) b177 rfl ?_
  refine x_iconst rfl ?_
  refine x_cne (t := 72) rfl rfl ⟨by omega, by omega⟩ (by decide) (fun h => hB (fun h2 => h (hk.2.1.mpr h2.1))) (fun hk1b => ?_)
  have hki := hk.2.1.mp hk1b
  have hwo1 := hM.1 hki
  have hxo := (xTK_w hT hki).1
  refine x_aload_n rfl rfl ?_
  refine x_getfield rfl (by decide) b177 rfl ?_
  refine x_lconst rfl ?_
  refine x_lcmp rfl ?_
  have hneg : wo1 < Int64.ofNat ((0 : Fin 2) : Nat) ↔ (xwd cs s e).isNone = true := by
    rw [hwo1, Int64.lt_iff_toInt_lt]
    cases hwd : xwd cs s e with
    | none => simp [xwR]
    | some l =>
      have h8 := hxo l hwd
      have h9 := xpr_8 h8.2 h8.1
      have h7 : (Int64.ofInt (xwR (some l))).toInt = xpr l := Int64.toInt_ofInt_of_le (by simp only [xwR]; omega) (by simp only [xwR]; omega)
      rw [h7]
      have h6 : (Int64.ofNat ((0 : Fin 2) : Nat)).toInt = 0 := rfl
      rw [h6]
      simp
      omega
  refine x_llt (t := 72) rfl rfl (fun h => hB (fun h2 => by rw [hneg.mp h] at h2; exact absurd h2.2.1 (by decide))) (fun hge => ?_)
  have hsome : (xwd cs s e).isNone = false := by
    cases hx : (xwd cs s e).isNone with
    | false => rfl
    | true => exact absurd (hneg.mpr hx) hge
  refine x_aload_n rfl rfl ?_
  refine x_call [_] rfl rfl (show (0 : Nat) ≤ 8 from by decide) (show (1 : Nat) ≤ 3 from by decide) (x_rcv (by decide) b177) (xm_71 (Nat.zero_le _) b177 hT hM) (fun r' f9 hP => ?_)
  obtain ⟨rfl, hPe⟩ := hP
  subst hPe
  rw [if_pos hki]
  refine x_ifge (t := 72) rfl rfl ⟨by omega, by omega⟩ (fun h => hB (fun h2 => by omega)) (fun hx71 => ?_)
  refine x_aload_n rfl rfl ?_
  refine x_call [_] rfl rfl (show (0 : Nat) ≤ 8 from by decide) (show (1 : Nat) ≤ 3 from by decide) (x_rcv (by decide) b177) (xm_73 (Nat.zero_le _) b177 hT hM) (fun r' f9 hP => ?_)
  obtain ⟨rfl, hPe⟩ := hP
  subst hPe
  rw [if_pos hki]
  refine x_ifge (t := 72) rfl rfl ⟨by omega, by omega⟩ (fun h => hB (fun h2 => by omega)) (fun hx73 => ?_)
  refine x_aload_n rfl rfl ?_
  refine x_call [_] rfl rfl (show (0 : Nat) ≤ 8 from by decide) (show (1 : Nat) ≤ 3 from by decide) (x_rcv (by decide) b177) (xm_74 (Nat.zero_le _) b177 hT hM b179 hlen hcl rfl hw hnl hnd) (fun r' f9 hP => ?_)
  obtain ⟨rfl, hPe⟩ := hP
  subst hPe
  rw [if_pos hki]
  refine x_ifge (t := 72) rfl rfl ⟨by omega, by omega⟩ (fun h => hB (fun h2 => by omega)) (fun hx74 => ?_)
  refine x_iconst rfl ?_
  refine x_goto (t := 73) rfl rfl ?_
  exact hgood ⟨hki, hsome, by omega, by omega, by omega⟩
end
section
/-! The model's define. -/
/-- behind a define of the model that kept its call -/
def xMK (K : List (Int × Int)) (R0 : Nat → Int × Int) (C : xC) (n : Nat) (nms : List (List Int)) (bc dp tk0 : Nat → Int) (pa0 : Int) (q : Nat → Value) (nl : List Int64) (W : Int64) (f f' : Nat → zE) (b e : Int) : Prop := (0 ≤ b ∧ b ≤ 16) ∧ (1 ≤ e ∧ e ≤ 6) ∧ ∃ (kM be en : Int) (wo : Int64) (nu pa op : Int) (tmM oaM : List Int) (tk1 : Nat → Int) (R1 : Nat → Int × Int), f' 177 = xmo 0 0 (-1) kM be en wo nu ((nms.length : Nat) + 1) pa op q ∧ (pa0 ≤ pa ∧ pa ≤ pa0 + 16 ∧ pa = ((K ++ C.2.2.1).length : Nat)) ∧ f' 179 = .inr (.inr (.inl ((nl.set 12 W).set nms.length W))) ∧ xMD R1 C.2.2.2 (fun i => if i = nms.length then b else bc i) (fun i => if i = nms.length then e else dp i) tk1 f' b e ∧ (∀ j, j < 192 → 0 ≤ tk1 j ∧ tk1 j ≤ 16) ∧ (∀ j, j < 16 * nms.length → tk1 j = tk0 j) ∧ (∀ k : Nat, (k : Int) < b → 0 ≤ tk1 (16 * nms.length + k) ∧ tk1 (16 * nms.length + k) ≤ k) ∧ (∀ j, j < 16 * nms.length → R1 j = R0 j) ∧ ((C.2.2.2.length : Int) = b ∧ ∀ k, k < C.2.2.2.length → ((R1 (16 * nms.length + k)).1, (R1 (16 * nms.length + k)).2, tk1 (16 * nms.length + k)) = (C.2.2.2.map xse).getD k (0, 0, 0)) ∧ f' 187 = xr 0 tmM ∧ f' 188 = xr 0 oaM ∧ tmM.length = 3 ∧ oaM.length = 3 ∧ xMS K C.2.2.1 f' ∧ ∀ p, p ≠ 177 → p ≠ 179 → p ≠ 180 → p ≠ 181 → p ≠ 182 → p ≠ 183 → p ≠ 184 → p ≠ 185 → p ≠ 186 → p ≠ 187 → p ≠ 188 → f' p = f p
/-- behind one that did not -/
def xMN (K : List (Int × Int)) (R0 : Nat → Int × Int) (n : Nat) (nms : List (List Int)) (bc dp tk0 : Nat → Int) (pa0 : Int) (q : Nat → Value) (nl : List Int64) (f f' : Nat → zE) (cd fa : Int) : Prop := ∃ (W : Int64) (kM be en : Int) (wo : Int64) (nu op mt d : Int) (tmM oaM : List Int) (E : List (Int × Int)) (B : List xBt), f' 177 = xmo cd (n : Nat) fa kM be en wo nu (nms.length : Nat) pa0 op q ∧ f' 179 = .inr (.inr (.inl (nl.set 12 W))) ∧ xMD R0 B bc dp tk0 f' mt d ∧ f' 187 = xr 0 tmM ∧ f' 188 = xr 0 oaM ∧ tmM.length = 3 ∧ oaM.length = 3 ∧ xMS K E f' ∧ ∀ p, p ≠ 177 → p ≠ 179 → p ≠ 180 → p ≠ 181 → p ≠ 182 → p ≠ 183 → p ≠ 184 → p ≠ 185 → p ≠ 186 → p ≠ 187 → p ≠ 188 → f' p = f p
/-- the first k of the draft's beats are copied -/
def xcp (c : Nat) (b : Int) (tk0 tk pf pq : List Int) (k : Nat) : Prop := tk.length = 208 ∧ pf.length = 208 ∧ pq.length = 208 ∧ (∀ j, j < 192 → 0 ≤ tk.getD j 0 ∧ tk.getD j 0 ≤ 16) ∧ (∀ j, j < 192 → (0 ≤ pf.getD j 0 ∧ pf.getD j 0 ≤ 224) ∧ (0 ≤ pq.getD j 0 ∧ pq.getD j 0 ≤ 224)) ∧ (∀ j, j < 16 * c → tk.getD j 0 = tk0.getD j 0) ∧ (∀ i, i < k → 0 ≤ tk.getD (16 * c + i) 0 ∧ tk.getD (16 * c + i) 0 ≤ i) ∧ ∀ j : Nat, j < 16 → (j : Int) < b → (-1 ≤ tk.getD (192 + j) 0 ∧ tk.getD (192 + j) 0 ≤ j) ∧ (0 ≤ pf.getD (192 + j) 0 ∧ pf.getD (192 + j) 0 ≤ 224) ∧ (0 ≤ pq.getD (192 + j) 0 ∧ pq.getD (192 + j) 0 ≤ 224)
theorem xcp_s {c : Nat} {b : Int} {tk0 tk pf pq : List Int} {k : Nat} {t a z : Int} (hc : c < 12) (hk : k < 16) (h : xcp c b tk0 tk pf pq k) (ht : 0 ≤ t ∧ t ≤ k) (ha : 0 ≤ a ∧ a ≤ 224) (hz : 0 ≤ z ∧ z ≤ 224) : xcp c b tk0 (tk.set (16 * c + k) t) (pf.set (16 * c + k) a) (pq.set (16 * c + k) z) (k + 1) := by
  obtain ⟨h1, h2, h3, h4, h5, h6, h7, h8⟩ := h
  refine ⟨by rw [List.length_set]; exact h1, by rw [List.length_set]; exact h2, by rw [List.length_set]; exact h3, fun j hj => ?_, fun j hj => ?_, fun j hj => ?_, fun i hi => ?_, fun j hj hb => ?_⟩
  · rw [x_gset]
    split
    · omega
    · exact h4 j hj
  · rw [x_gset, x_gset]
    split
    · rename_i hx
      rw [if_pos ⟨hx.1, by omega⟩]
      exact ⟨ha, hz⟩
    · rename_i hx
      rw [if_neg (fun h => hx ⟨h.1, by omega⟩)]
      exact h5 j hj
  · rw [x_gset, if_neg (by omega)]
    exact h6 j hj
  · rw [x_gset]
    split
    · omega
    · rename_i hx
      by_cases e : i = k
      · exact absurd ⟨by omega, by omega⟩ hx
      · exact h7 i (by omega)
  · rw [x_gset, x_gset, x_gset, if_neg (by omega), if_neg (by omega), if_neg (by omega)]
    exact h8 j hj hb
/-- what the first k of the copied beats hold -/
def xcc (B : List xBt) (c : Nat) (pf0 pq0 tk pf pq : List Int) (k : Nat) : Prop := (∀ j, j < 16 * c → pf.getD j 0 = pf0.getD j 0 ∧ pq.getD j 0 = pq0.getD j 0) ∧ (∀ i, i < k → (pf.getD (16 * c + i) 0, pq.getD (16 * c + i) 0, tk.getD (16 * c + i) 0) = xse (B.getD i (0, 0, 0))) ∧ ∀ j, j < 16 → j < B.length → (pf.getD (192 + j) 0, pq.getD (192 + j) 0, tk.getD (192 + j) 0) = B.getD j (0, 0, 0)
theorem xcc_s {B : List xBt} {c : Nat} {pf0 pq0 tk pf pq : List Int} {k : Nat} {t : Int} (hc : c < 12) (hk : k < 16) (hkB : k < B.length) (g3 : tk.length = 208) (g4 : pf.length = 208) (g5 : pq.length = 208) (h : xcc B c pf0 pq0 tk pf pq k) (ht : t = if tk.getD (192 + k) 0 = -1 then 0 else tk.getD (192 + k) 0) : xcc B c pf0 pq0 (tk.set (16 * c + k) t) (pf.set (16 * c + k) (pf.getD (192 + k) 0)) (pq.set (16 * c + k) (pq.getD (192 + k) 0)) (k + 1) := by
  obtain ⟨h1, h2, h3⟩ := h
  refine ⟨fun j hj => ?_, fun i hi => ?_, fun j hj hb => ?_⟩
  · rw [x_gset, x_gset, if_neg (by omega), if_neg (by omega)]
    exact h1 j hj
  · rw [x_gset, x_gset, x_gset]
    by_cases e : i = k
    · subst e
      rw [if_pos ⟨rfl, by omega⟩, if_pos ⟨rfl, by omega⟩, if_pos ⟨rfl, by omega⟩, ← h3 i hk hkB, ht]
      rfl
    · rw [if_neg (by omega), if_neg (by omega), if_neg (by omega)]
      exact h2 i (by omega)
  · rw [x_gset, x_gset, x_gset, if_neg (by omega), if_neg (by omega), if_neg (by omega)]
    exact h3 j hj hb
theorem xs_82l {B : List xBt} {pf0 pq0 : List Int} {v0 : Value} {xs : List Int32} {u : Nat × Nat} {f0 : Nat → zE} {c : Nat} {b fa kM be en nu pa op ty : Int} {wo : Int64} {q : Nat → Value} {cn tk0l : List Int} (hc : c < 12) (hb : 0 ≤ b ∧ b ≤ 16) (hcn : cn.length = 13) (hcm : cn.getD 12 0 = b) (hBb : (B.length : Int) = b) : ∀ (w k : Nat) (lv : zL) (f : Nat → zE) (tk pf pq : List Int), (w : Int) + (k : Nat) = b → zlv lv 0 = some (.ref 177) → zlv lv 2 = some (xi (k : Nat)) → f 177 = xmo 0 ty fa kM be en wo nu (c : Nat) pa op q → f 180 = xr 0 cn → f 182 = xr 0 tk → f 183 = xr 0 pf → f 184 = xr 0 pq → xcp c b tk0l tk pf pq k → xcc B c pf0 pq0 tk pf pq k → (∀ p, p ≠ 182 → p ≠ 183 → p ≠ 184 → f p = f0 p) → xz v0 xs u (fun o X => ∃ r f', o = .inl r ∧ X = (xh f', u) ∧ (fun r f' => ∃ tk pf pq : List Int, r = some (xi (c : Nat)) ∧ f' 177 = xmo 0 0 fa kM be en wo nu ((c : Nat) + 1) pa op q ∧ f' 182 = xr 0 tk ∧ f' 183 = xr 0 pf ∧ f' 184 = xr 0 pq ∧ xcp c b tk0l tk pf pq b.toNat ∧ xcc B c pf0 pq0 tk pf pq b.toNat ∧ ∀ p, p ≠ 177 → p ≠ 182 → p ≠ 183 → p ≠ 184 → f' p = f0 p) r f') 82 106 lv [] f := by
  intro w
  induction w with
  | zero =>
    intro k lv f tk pf pq hw l0 l2 h177 h180 h182 h183 h184 hcp hcc hfr
    refine x_iload_n rfl l2 ?_
    refine x_aload_n rfl l0 ?_
    refine x_getfield rfl (by decide) h177 rfl ?_
    refine x_bipush rfl (by decide) ?_
    refine x_iaload rfl (by decide) h180 ⟨by omega, by omega⟩ (by omega) ?_
    rw [show (12 : Int).toNat = 12 from rfl, hcm]
    refine x_cge (t := 198) rfl rfl ⟨by omega, by omega⟩ ⟨by omega, by omega⟩ (fun hb114 => ?_) (fun hb114 => ?_)
    · refine x_aload_n rfl l0 ?_
      refine x_dup rfl ?_
      refine x_getfield rfl (by decide) h177 rfl ?_
      refine x_iconst rfl ?_
      refine x_iadd rfl ?_
      refine x_putfield rfl (by decide) h177 (show (9 : Nat) < 41 from by decide) rfl ?_
      refine x_aload_n rfl l0 ?_
      refine x_iconst rfl ?_
      refine x_putfield rfl (by decide) xu_eq (show (1 : Nat) < 41 from by decide) rfl ?_
      refine x_aload_n rfl l0 ?_
      refine x_getfield rfl (by decide) xu_eq rfl ?_
      refine x_iconst rfl ?_
      refine x_isub rfl ?_
      refine x_ireturn rfl (Or.inl rfl) ⟨_, _, rfl, rfl, ?_⟩
      refine ⟨tk, pf, pq, by rw [show (c : Nat) + (1 : Int) - 1 = (c : Nat) by omega], xu_eq, (xu_ne (by decide) (xu_ne (by decide) h182)), (xu_ne (by decide) (xu_ne (by decide) h183)), (xu_ne (by decide) (xu_ne (by decide) h184)), by rw [show b.toNat = k by omega]; exact hcp, by rw [show b.toNat = k by omega]; exact hcc, fun p a0 a1 a2 a3 => xu_ne a0 (xu_ne a0 (hfr p a1 a2 a3))⟩
    · exfalso; omega
  | succ w ih =>
    intro k lv f tk pf pq hw l0 l2 h177 h180 h182 h183 h184 hcp hcc hfr
    refine x_iload_n rfl l2 ?_
    refine x_aload_n rfl l0 ?_
    refine x_getfield rfl (by decide) h177 rfl ?_
    refine x_bipush rfl (by decide) ?_
    refine x_iaload rfl (by decide) h180 ⟨by omega, by omega⟩ (by omega) ?_
    rw [show (12 : Int).toNat = 12 from rfl, hcm]
    refine x_cge (t := 198) rfl rfl ⟨by omega, by omega⟩ ⟨by omega, by omega⟩ (fun hb114 => ?_) (fun hb114 => ?_)
    · exfalso; omega
    · have h8 := hcp.2.2.2.2.2.2.2 k (by omega) (by omega)
      have g3 := hcp.1
      have g4 := hcp.2.1
      have g5 := hcp.2.2.1
      refine x_bipush rfl (by decide) ?_
      refine x_aload_n rfl l0 ?_
      refine x_getfield rfl (by decide) h177 rfl ?_
      refine x_imul rfl ?_
      refine x_iload_n rfl l2 ?_
      refine x_iadd rfl ?_
      refine x_istore_n rfl (show (3 : Nat) < 4 from by decide) ?_
      refine x_aload_n rfl (xst_ne (by decide) l0 (Or.inl rfl)) ?_
      refine x_getfield rfl (by decide) h177 rfl ?_
      refine x_iload_n rfl xst_eq ?_
      refine x_aload_n rfl (xst_ne (by decide) l0 (Or.inl rfl)) ?_
      refine x_getfield rfl (by decide) h177 rfl ?_
      refine x_sipush rfl (by decide) ?_
      refine x_iload_n rfl (xst_ne (by decide) l2 (Or.inl rfl)) ?_
      refine x_iadd rfl ?_
      refine x_iaload rfl (by decide) h182 ⟨by omega, by omega⟩ (by omega) ?_
      rw [show ((192 : Int) + ((k : Nat) : Int)).toNat = 192 + k by omega]
      refine x_ifge (t := 149) rfl rfl ⟨by omega, by omega⟩ (fun hb142 => ?_) (fun hb142 => ?_)
      · refine x_aload_n rfl (xst_ne (by decide) l0 (Or.inl rfl)) ?_
        refine x_getfield rfl (by decide) h177 rfl ?_
        refine x_sipush rfl (by decide) ?_
        refine x_iload_n rfl (xst_ne (by decide) l2 (Or.inl rfl)) ?_
        refine x_iadd rfl ?_
        refine x_iaload rfl (by decide) h182 ⟨by omega, by omega⟩ (by omega) ?_
        rw [show ((192 : Int) + ((k : Nat) : Int)).toNat = 192 + k by omega]
        refine x_iastore rfl (by decide) h182 ⟨by omega, by omega⟩ (by omega) ?_
        rw [show (16 * ((c : Nat) : Int) + ((k : Nat) : Int)).toNat = 16 * c + k by omega]
        refine x_aload_n rfl (xst_ne (by decide) l0 (Or.inl rfl)) ?_
        refine x_getfield rfl (by decide) (xu_ne (by decide) h177) rfl ?_
        refine x_iload_n rfl xst_eq ?_
        refine x_aload_n rfl (xst_ne (by decide) l0 (Or.inl rfl)) ?_
        refine x_getfield rfl (by decide) (xu_ne (by decide) h177) rfl ?_
        refine x_sipush rfl (by decide) ?_
        refine x_iload_n rfl (xst_ne (by decide) l2 (Or.inl rfl)) ?_
        refine x_iadd rfl ?_
        refine x_iaload rfl (by decide) (xu_ne (by decide) h183) ⟨by omega, by omega⟩ (by omega) ?_
        rw [show ((192 : Int) + ((k : Nat) : Int)).toNat = 192 + k by omega]
        refine x_iastore rfl (by decide) (xu_ne (by decide) h183) ⟨by omega, by omega⟩ (by omega) ?_
        rw [show (16 * ((c : Nat) : Int) + ((k : Nat) : Int)).toNat = 16 * c + k by omega]
        refine x_aload_n rfl (xst_ne (by decide) l0 (Or.inl rfl)) ?_
        refine x_getfield rfl (by decide) (xu_ne (by decide) (xu_ne (by decide) h177)) rfl ?_
        refine x_iload_n rfl xst_eq ?_
        refine x_aload_n rfl (xst_ne (by decide) l0 (Or.inl rfl)) ?_
        refine x_getfield rfl (by decide) (xu_ne (by decide) (xu_ne (by decide) h177)) rfl ?_
        refine x_sipush rfl (by decide) ?_
        refine x_iload_n rfl (xst_ne (by decide) l2 (Or.inl rfl)) ?_
        refine x_iadd rfl ?_
        refine x_iaload rfl (by decide) (xu_ne (by decide) (xu_ne (by decide) h184)) ⟨by omega, by omega⟩ (by omega) ?_
        rw [show ((192 : Int) + ((k : Nat) : Int)).toNat = 192 + k by omega]
        refine x_iastore rfl (by decide) (xu_ne (by decide) (xu_ne (by decide) h184)) ⟨by omega, by omega⟩ (by omega) ?_
        rw [show (16 * ((c : Nat) : Int) + ((k : Nat) : Int)).toNat = 16 * c + k by omega]
        refine x_iinc rfl (xst_ne (by decide) l2 (Or.inl rfl)) (show (2 : Nat) < 4 from by decide) ?_
        refine x_goto (t := 106) rfl rfl ?_
        refine ih (k + 1) _ _ (tk.set (16 * c + k) (tk.getD (192 + k) 0)) (pf.set (16 * c + k) (pf.getD (192 + k) 0)) (pq.set (16 * c + k) (pq.getD (192 + k) 0)) (by omega) (xst_ne (by decide) (xst_ne (by decide) l0 (Or.inl rfl)) (Or.inl rfl)) xst_eq (xu_ne (by decide) (xu_ne (by decide) (xu_ne (by decide) h177))) (xu_ne (by decide) (xu_ne (by decide) (xu_ne (by decide) h180))) (xu_ne (by decide) (xu_ne (by decide) xu_eq)) (xu_ne (by decide) xu_eq) xu_eq (xcp_s hc (by omega) hcp (by omega) h8.2.1 h8.2.2) (xcc_s hc (by omega) (by omega) g3 g4 g5 hcc (by split <;> omega)) (fun p a1 a2 a3 => xu_ne a3 (xu_ne a2 (xu_ne a1 (hfr p a1 a2 a3))))
      · refine x_iconst rfl ?_
        refine x_goto (t := 159) rfl rfl ?_
        refine x_iastore rfl (by decide) h182 ⟨by omega, by omega⟩ (by omega) ?_
        rw [show (16 * ((c : Nat) : Int) + ((k : Nat) : Int)).toNat = 16 * c + k by omega]
        refine x_aload_n rfl (xst_ne (by decide) l0 (Or.inl rfl)) ?_
        refine x_getfield rfl (by decide) (xu_ne (by decide) h177) rfl ?_
        refine x_iload_n rfl xst_eq ?_
        refine x_aload_n rfl (xst_ne (by decide) l0 (Or.inl rfl)) ?_
        refine x_getfield rfl (by decide) (xu_ne (by decide) h177) rfl ?_
        refine x_sipush rfl (by decide) ?_
        refine x_iload_n rfl (xst_ne (by decide) l2 (Or.inl rfl)) ?_
        refine x_iadd rfl ?_
        refine x_iaload rfl (by decide) (xu_ne (by decide) h183) ⟨by omega, by omega⟩ (by omega) ?_
        rw [show ((192 : Int) + ((k : Nat) : Int)).toNat = 192 + k by omega]
        refine x_iastore rfl (by decide) (xu_ne (by decide) h183) ⟨by omega, by omega⟩ (by omega) ?_
        rw [show (16 * ((c : Nat) : Int) + ((k : Nat) : Int)).toNat = 16 * c + k by omega]
        refine x_aload_n rfl (xst_ne (by decide) l0 (Or.inl rfl)) ?_
        refine x_getfield rfl (by decide) (xu_ne (by decide) (xu_ne (by decide) h177)) rfl ?_
        refine x_iload_n rfl xst_eq ?_
        refine x_aload_n rfl (xst_ne (by decide) l0 (Or.inl rfl)) ?_
        refine x_getfield rfl (by decide) (xu_ne (by decide) (xu_ne (by decide) h177)) rfl ?_
        refine x_sipush rfl (by decide) ?_
        refine x_iload_n rfl (xst_ne (by decide) l2 (Or.inl rfl)) ?_
        refine x_iadd rfl ?_
        refine x_iaload rfl (by decide) (xu_ne (by decide) (xu_ne (by decide) h184)) ⟨by omega, by omega⟩ (by omega) ?_
        rw [show ((192 : Int) + ((k : Nat) : Int)).toNat = 192 + k by omega]
        refine x_iastore rfl (by decide) (xu_ne (by decide) (xu_ne (by decide) h184)) ⟨by omega, by omega⟩ (by omega) ?_
        rw [show (16 * ((c : Nat) : Int) + ((k : Nat) : Int)).toNat = 16 * c + k by omega]
        refine x_iinc rfl (xst_ne (by decide) l2 (Or.inl rfl)) (show (2 : Nat) < 4 from by decide) ?_
        refine x_goto (t := 106) rfl rfl ?_
        refine ih (k + 1) _ _ (tk.set (16 * c + k) (0)) (pf.set (16 * c + k) (pf.getD (192 + k) 0)) (pq.set (16 * c + k) (pq.getD (192 + k) 0)) (by omega) (xst_ne (by decide) (xst_ne (by decide) l0 (Or.inl rfl)) (Or.inl rfl)) xst_eq (xu_ne (by decide) (xu_ne (by decide) (xu_ne (by decide) h177))) (xu_ne (by decide) (xu_ne (by decide) (xu_ne (by decide) h180))) (xu_ne (by decide) (xu_ne (by decide) xu_eq)) (xu_ne (by decide) xu_eq) xu_eq (xcp_s hc (by omega) hcp (by omega) h8.2.1 h8.2.2) (xcc_s hc (by omega) (by omega) g3 g4 g5 hcc (by split <;> omega)) (fun p a1 a2 a3 => xu_ne a3 (xu_ne a2 (xu_ne a1 (hfr p a1 a2 a3))))
end
section
/-! The model's define, whole. -/
theorem xs_82 {K : List (Int × Int)} {R0 : Nat → Int × Int} {G : Nat → List xBt} {B0 : List xBt} {E0 : List (Int × Int)} {v0 : Value} {xs : List Int32} {u : Nat × Nat} {f : Nat → zE} {n : Nat} {cs : List Int} {nms : List (List Int)} {nl : List Int64} {bc dp tk0 : Nat → Int} {cd fa ki be en nu pa0 op m0 d0 : Int} {wo : Int64} {q : Nat → Value} {tm oa tmM oaM : List Int} (hn : n ≤ 100) (hl : cs.length = 100) (hcs : ∀ j : Nat, 0 ≤ cs.getD j 0 ∧ cs.getD j 0 ≤ 126) (h179 : f 179 = .inr (.inr (.inl nl))) (hlen : nl.length = 13) (hcl : nms.length ≤ 12) (hw : ∀ w ∈ nms, xwf w) (hnl : ∀ k, k < nms.length → nl.getD k 0 = Int64.ofInt (xpr (nms.getD k []))) (hnd : nms.Nodup) (hns : ∀ w ∈ nms, w ∉ selW) (hbc : ∀ i, i < nms.length → 0 ≤ bc i ∧ bc i ≤ 16) (hdp : ∀ i, i < nms.length → 1 ≤ dp i ∧ dp i ≤ 6) (htk : ∀ i, i < nms.length → ∀ k : Nat, (k : Int) < bc i → 0 ≤ tk0 (16 * i + k) ∧ tk0 (16 * i + k) ≤ k) (hpa0 : 0 ≤ pa0 ∧ pa0 ≤ 192) (h178 : f 178 = xr 1 cs) (h177 : f 177 = xmo cd (n : Nat) fa ki be en wo nu (nms.length : Nat) pa0 op q) (hGk : ∀ i, i < nms.length → ((G i).length : Int) = bc i ∧ ∀ k, k < (G i).length → ((R0 (16 * i + k)).1, (R0 (16 * i + k)).2, tk0 (16 * i + k)) = (G i).getD k (0, 0, 0)) (hKp : (K.length : Int) = pa0) (hmd : xMD R0 B0 bc dp tk0 f m0 d0) (k7 : f 187 = xr 0 tmM) (k8 : f 188 = xr 0 oaM) (k9 : tmM.length = 3) (k10 : oaM.length = 3) (hMS : xMS K E0 f) (htl : tm.length = 3) (hol : oa.length = 3) (htk16 : ∀ j, j < 192 → 0 ≤ tk0 j ∧ tk0 j ≤ 16) : xq v0 xs u 82 [(0, .ref 177)] f (fun r f' => (∃ b e' : Int, xG cs n nms bc dp 0 (0, 0, tm, oa, 0, 1) = .inr (b, e') ∧ nms.length < 12 ∧ r = some (xi (nms.length : Nat)) ∧ xMK K R0 (xGC K G cs n nms bc dp 0 (0, 0, tm, oa, 0, 1) xC0) n nms bc dp tk0 pa0 q nl (Int64.ofInt (xwR (xwd cs (xtf cs n 0).2.1 (xtf cs n 0).2.2))) f f' b e') ∨ (r = some (xi 0) ∧ ((∃ z : Int, xG cs n nms bc dp 0 (0, 0, tm, oa, 0, 1) = .inl z ∧ (0 ≤ z ∧ z ≤ 100) ∧ xMN K R0 n nms bc dp tk0 pa0 q nl f f' 1 z) ∨ ((∃ b e' : Int, xG cs n nms bc dp 0 (0, 0, tm, oa, 0, 1) = .inr (b, e')) ∧ nms.length = 12 ∧ xMN K R0 n nms bc dp tk0 pa0 q nl f f' 2 (-1))))) := by
  unfold xq
  refine x_aload_n rfl rfl ?_
  refine x_getfield rfl (by decide) h177 rfl ?_
  refine x_istore_n rfl (show (1 : Nat) < 4 from by decide) ?_
  refine x_aload_n rfl (xst_ne (by decide) rfl (Or.inl rfl)) ?_
  refine x_aload_n rfl (xst_ne (by decide) rfl (Or.inl rfl)) ?_
  refine x_call [_] rfl rfl (show (1 : Nat) ≤ 8 from by decide) (show (1 : Nat) ≤ 4 from by decide) (x_rcv (by decide) h177) (xs_81 (G := G) (tm := tm) (oa := oa) hn hl hcs h179 hlen hcl hw hnl hnd hns hbc hdp htk hpa0 h178 h177 hGk hKp hmd k7 k8 k9 k10 hMS htl hol) (fun r' f1 hP => ?_)
  obtain ⟨W, ⟨b, e, hG, rfl, hW, hA⟩ | ⟨z, hG, rfl, hz, hA⟩⟩ := hP
  · obtain ⟨hb, he, kM, be1, en1, wo1, nu1, pa1, op1, tm1, oa1, j177, jpa, jmd, j187, j188, jl1, jl2, jms, jfr⟩ := hA
    have j179 : f1 179 = .inr (.inr (.inl (nl.set 12 W))) := (jfr 179 (by decide) (by decide) (by decide) (by decide) (by decide) (by decide) (by decide) (by decide) (by decide) (by decide)).trans xu_eq
    refine x_putfield rfl (by decide) j177 (show (3 : Nat) < 41 from by decide) rfl ?_
    refine x_aload_n rfl (xst_ne (by decide) rfl (Or.inl rfl)) ?_
    refine x_aload_n rfl (xst_ne (by decide) rfl (Or.inl rfl)) ?_
    refine x_getfield rfl (by decide) xu_eq rfl ?_
    refine x_iflt (t := 25) rfl rfl (by decide) (fun _ => ?_) (fun h => absurd h (by decide))
    refine x_aload_n rfl (xst_ne (by decide) rfl (Or.inl rfl)) ?_
    refine x_getfield rfl (by decide) xu_eq rfl ?_
    refine x_bipush rfl (by decide) ?_
    refine x_cne (t := 38) rfl rfl ⟨by omega, by omega⟩ (by decide) (fun h12 => ?_) (fun h12 => ?_)
    rotate_left
    · refine x_iconst rfl ?_
      refine x_goto (t := 39) rfl rfl ?_
      refine x_putfield rfl (by decide) xu_eq (show (0 : Nat) < 41 from by decide) rfl ?_
      refine x_aload_n rfl (xst_ne (by decide) rfl (Or.inl rfl)) ?_
      refine x_getfield rfl (by decide) xu_eq rfl ?_
      refine x_ifle (t := 56) rfl rfl (by decide) (fun h => absurd h (by decide)) (fun _ => ?_)
      refine x_aload_n rfl (xst_ne (by decide) rfl (Or.inl rfl)) ?_
      refine x_iload_n rfl xst_eq ?_
      refine x_putfield rfl (by decide) xu_eq (show (16 : Nat) < 41 from by decide) rfl ?_
      refine x_iconst rfl ?_
      refine x_ireturn rfl (Or.inl rfl) ⟨_, _, rfl, rfl, ?_⟩
      refine Or.inr ⟨rfl, Or.inr ⟨⟨b, e, hG⟩, by omega, W, _, _, _, _, _, _, _, _, tm1, oa1, _, _, xu_eq, (xu_ne (by decide) (xu_ne (by decide) (xu_ne (by decide) j179))), xMD_mv (fun p p1 p2 => xu_ne (by omega) (xu_ne (by omega) (xu_ne (by omega) rfl))) jmd, (xu_ne (by decide) (xu_ne (by decide) (xu_ne (by decide) j187))), (xu_ne (by decide) (xu_ne (by decide) (xu_ne (by decide) j188))), jl1, jl2, xMS_mv (xu_ne (by decide) (xu_ne (by decide) (xu_ne (by decide) rfl))) (xu_ne (by decide) (xu_ne (by decide) (xu_ne (by decide) rfl))) jms, fun p a1 a2 a3 a4 a5 a6 a7 a8 a9 a10 a11 => xu_ne a1 (xu_ne a1 (xu_ne a1 ((jfr p a1 a3 a4 a5 a6 a7 a8 a9 a10 a11).trans (xu_ne a2 rfl))))⟩⟩
    have hc12 : nms.length < 12 := by omega
    refine x_iconst rfl ?_
    refine x_putfield rfl (by decide) xu_eq (show (0 : Nat) < 41 from by decide) rfl ?_
    refine x_aload_n rfl (xst_ne (by decide) rfl (Or.inl rfl)) ?_
    refine x_getfield rfl (by decide) xu_eq rfl ?_
    refine x_ifle (t := 56) rfl rfl (by decide) (fun _ => ?_) (fun h => absurd h (by decide))
    obtain ⟨cn, dn, tk, pf, pq, h180, h181, h182, h183, h184, ⟨g1l, g2l, g3l, g4l, g5l⟩, hcm, hdd, hk1, hk2, hk3, hk4, hR, hmb⟩ := jmd
    obtain ⟨hBb, hBc⟩ := hmb hb.2
    generalize hgf : xu (xu f1 177 _) 177 _ = f2
    have b177 : f2 177 = xmo 0 (n : Nat) (-1) kM be1 en1 wo1 nu1 (nms.length : Nat) pa1 op1 q := by rw [← hgf]; exact xu_eq
    have bfr : ∀ p, p ≠ 177 → f2 p = f1 p := fun p hp => by rw [← hgf]; exact xu_ne hp (xu_ne hp rfl)
    clear hgf
    have b179 := (bfr 179 (by decide)).trans j179
    have b180 := (bfr 180 (by decide)).trans h180
    have b181 := (bfr 181 (by decide)).trans h181
    have b182 := (bfr 182 (by decide)).trans h182
    have b183 := (bfr 183 (by decide)).trans h183
    have b184 := (bfr 184 (by decide)).trans h184
    refine x_aload_n rfl (xst_ne (by decide) rfl (Or.inl rfl)) ?_
    refine x_getfield rfl (by decide) b177 rfl ?_
    refine x_aload_n rfl (xst_ne (by decide) rfl (Or.inl rfl)) ?_
    refine x_getfield rfl (by decide) b177 rfl ?_
    refine x_aload_n rfl (xst_ne (by decide) rfl (Or.inl rfl)) ?_
    refine x_getfield rfl (by decide) b177 rfl ?_
    refine x_bipush rfl (by decide) ?_
    refine x_laload rfl (by decide) b179 ⟨by omega, by rw [List.length_set]; omega⟩ (by rw [List.length_set]; omega) ?_
    have eW : (nl.set 12 W).getD (12 : Int).toNat 0 = W := by
      rw [show (12 : Int).toNat = 12 from rfl, List.getD_eq_getElem?_getD, List.getElem?_set_self (by omega)]; rfl
    rw [eW]
    refine x_lastore rfl (by decide) b179 ⟨by omega, by rw [List.length_set]; omega⟩ (by rw [List.length_set]; omega) ?_
    rw [Int.toNat_natCast]
    refine x_aload_n rfl (xst_ne (by decide) rfl (Or.inl rfl)) ?_
    refine x_getfield rfl (by decide) (xu_ne (by decide) b177) rfl ?_
    refine x_aload_n rfl (xst_ne (by decide) rfl (Or.inl rfl)) ?_
    refine x_getfield rfl (by decide) (xu_ne (by decide) b177) rfl ?_
    refine x_aload_n rfl (xst_ne (by decide) rfl (Or.inl rfl)) ?_
    refine x_getfield rfl (by decide) (xu_ne (by decide) b177) rfl ?_
    refine x_bipush rfl (by decide) ?_
    refine x_iaload rfl (by decide) (xu_ne (by decide) b180) ⟨by omega, by omega⟩ (by omega) ?_
    rw [show (12 : Int).toNat = 12 from rfl, hcm]
    refine x_iastore rfl (by decide) (xu_ne (by decide) b180) ⟨by omega, by omega⟩ (by omega) ?_
    rw [Int.toNat_natCast]
    refine x_aload_n rfl (xst_ne (by decide) rfl (Or.inl rfl)) ?_
    refine x_getfield rfl (by decide) (xu_ne (by decide) (xu_ne (by decide) b177)) rfl ?_
    refine x_aload_n rfl (xst_ne (by decide) rfl (Or.inl rfl)) ?_
    refine x_getfield rfl (by decide) (xu_ne (by decide) (xu_ne (by decide) b177)) rfl ?_
    refine x_aload_n rfl (xst_ne (by decide) rfl (Or.inl rfl)) ?_
    refine x_getfield rfl (by decide) (xu_ne (by decide) (xu_ne (by decide) b177)) rfl ?_
    refine x_bipush rfl (by decide) ?_
    refine x_iaload rfl (by decide) (xu_ne (by decide) (xu_ne (by decide) b181)) ⟨by omega, by omega⟩ (by omega) ?_
    rw [show (12 : Int).toNat = 12 from rfl, hdd]
    refine x_iastore rfl (by decide) (xu_ne (by decide) (xu_ne (by decide) b181)) ⟨by omega, by omega⟩ (by omega) ?_
    rw [Int.toNat_natCast]
    generalize hgf : xu (xu (xu f2 179 _) 180 _) 181 _ = f3
    have d177 : f3 177 = xmo 0 (n : Nat) (-1) kM be1 en1 wo1 nu1 (nms.length : Nat) pa1 op1 q := by rw [← hgf]; exact (xu_ne (by decide) (xu_ne (by decide) (xu_ne (by decide) b177)))
    have d179 : f3 179 = .inr (.inr (.inl ((nl.set 12 W).set nms.length W))) := by rw [← hgf]; exact xu_ne (by decide) (xu_ne (by decide) xu_eq)
    have d180 : f3 180 = xr 0 (cn.set nms.length b) := by rw [← hgf]; exact xu_ne (by decide) xu_eq
    have d181 : f3 181 = xr 0 (dn.set nms.length e) := by rw [← hgf]; exact xu_eq
    have dfr : ∀ p, p ≠ 177 → p ≠ 179 → p ≠ 180 → p ≠ 181 → f3 p = f1 p := fun p a1 a2 a3 a4 => by rw [← hgf]; exact xu_ne a4 (xu_ne a3 (xu_ne a2 (bfr p a1)))
    clear hgf
    refine x_iconst rfl ?_
    refine x_istore_n rfl (show (2 : Nat) < 4 from by decide) ?_
    refine zwp_mono (xs_82l (f0 := f3) (cn := cn.set nms.length b) (tk0l := tk) (B := (xGC K G cs n nms bc dp 0 (0, 0, tm, oa, 0, 1) xC0).2.2.2) (pf0 := pf) (pq0 := pq) hc12 hb (by rw [List.length_set]; exact g1l) (by rw [x_gset, if_neg (by omega)]; exact hcm) hBb b.toNat 0 _ f3 tk pf pq (by omega) (xst_ne (by decide) (xst_ne (by decide) rfl (Or.inl rfl)) (Or.inl rfl)) xst_eq d177 d180 ((dfr 182 (by decide) (by decide) (by decide) (by decide)).trans h182) ((dfr 183 (by decide) (by decide) (by decide) (by decide)).trans h183) ((dfr 184 (by decide) (by decide) (by decide) (by decide)).trans h184) ?_ ⟨fun j hj => ⟨rfl, rfl⟩, fun i hi => absurd hi (Nat.not_lt_zero _), fun j _ hj => hBc j hj⟩ (fun p _ _ _ => rfl)) ?_
    · exact ⟨g3l, g4l, g5l, fun j hj => by rw [(hk3 j hj).1]; exact htk16 j hj, fun j hj => (hk3 j hj).2, fun j hj => rfl, fun i hi => absurd hi (Nat.not_lt_zero _), hk4⟩
    · intro oo X' hq
      obtain ⟨r, f', rfl, rfl, tk', pf', pq', rfl, m177, m182, m183, m184, mcp, mcc, mfr⟩ := hq
      refine ⟨_, f', rfl, rfl, Or.inl ⟨b, e, hG, hc12, rfl, hb, he, kM, be1, en1, wo1, nu1, pa1, op1, tm1, oa1, fun j => tk'.getD j 0, fun j => (pf'.getD j 0, pq'.getD j 0), m177, jpa, ?_, ?_, mcp.2.2.2.1, ?_, ?_, ?_, ⟨hBb, ?_⟩, ?_, ?_, jl1, jl2, ?_, ?_⟩⟩
      · rw [← hW]; exact (mfr 179 (by decide) (by decide) (by decide) (by decide)).trans d179
      · refine ⟨cn.set nms.length b, dn.set nms.length e, tk', pf', pq', (mfr 180 (by decide) (by decide) (by decide) (by decide)).trans d180, (mfr 181 (by decide) (by decide) (by decide) (by decide)).trans d181, m182, m183, m184, ⟨by rw [List.length_set]; exact g1l, by rw [List.length_set]; exact g2l, mcp.1, mcp.2.1, mcp.2.2.1⟩, by rw [x_gset, if_neg (by omega)]; exact hcm, by rw [x_gset, if_neg (by omega)]; exact hdd, fun i hi => ?_, fun i hi => ?_, fun j hj => ⟨rfl, mcp.2.2.2.2.1 j hj⟩, mcp.2.2.2.2.2.2.2, fun j hj => rfl, fun _ => ⟨hBb, fun j hj => mcc.2.2 j (by omega) hj⟩⟩
        · rw [x_gset]; dsimp only; by_cases ei : i = nms.length
          · rw [if_pos ⟨ei.symm, by omega⟩, if_pos ei]
          · rw [if_neg (fun h => ei h.1.symm), if_neg ei]; exact hk1 i hi
        · rw [x_gset]; dsimp only; by_cases ei : i = nms.length
          · rw [if_pos ⟨ei.symm, by omega⟩, if_pos ei]
          · rw [if_neg (fun h => ei h.1.symm), if_neg ei]; exact hk2 i hi
      · intro j hj; exact (mcp.2.2.2.2.2.1 j hj).trans (hk3 j (by omega)).1
      · intro k hk; exact mcp.2.2.2.2.2.2.1 k (by omega)
      · intro j hj
        obtain ⟨z1, z2⟩ := mcc.1 j hj
        show (pf'.getD j 0, pq'.getD j 0) = _
        rw [z1, z2]
        exact hR j (by omega)
      · intro k hk
        show (pf'.getD (16 * nms.length + k) 0, pq'.getD (16 * nms.length + k) 0, tk'.getD (16 * nms.length + k) 0) = _
        rw [mcc.2.1 k (by omega), List.getD_eq_getElem?_getD, List.getD_eq_getElem?_getD, List.getElem?_map, List.getElem?_eq_getElem hk]
        rfl
      · exact (mfr 187 (by decide) (by decide) (by decide) (by decide)).trans ((dfr 187 (by decide) (by decide) (by decide) (by decide)).trans j187)
      · exact (mfr 188 (by decide) (by decide) (by decide) (by decide)).trans ((dfr 188 (by decide) (by decide) (by decide) (by decide)).trans j188)
      · exact xMS_mv ((mfr 185 (by decide) (by decide) (by decide) (by decide)).trans (dfr 185 (by decide) (by decide) (by decide) (by decide))) ((mfr 186 (by decide) (by decide) (by decide) (by decide)).trans (dfr 186 (by decide) (by decide) (by decide) (by decide))) jms
      · intro p a1 a2 a3 a4 a5 a6 a7 a8 a9 a10 a11
        exact (mfr p a1 a5 a6 a7).trans ((dfr p a1 a2 a3 a4).trans ((jfr p a1 a3 a4 a5 a6 a7 a8 a9 a10 a11).trans (xu_ne a2 rfl)))
  · obtain ⟨kM, en1, wo1, nu1, pa1, op1, mt1, dd1, tm1, oa1, E1, B1, j177, -, jmd, j187, j188, jl1, jl2, jms, jfr⟩ := hA
    have j179 : f1 179 = .inr (.inr (.inl (nl.set 12 W))) := (jfr 179 (by decide) (by decide) (by decide) (by decide) (by decide) (by decide) (by decide) (by decide) (by decide) (by decide)).trans xu_eq
    refine x_putfield rfl (by decide) j177 (show (3 : Nat) < 41 from by decide) rfl ?_
    refine x_aload_n rfl (xst_ne (by decide) rfl (Or.inl rfl)) ?_
    refine x_aload_n rfl (xst_ne (by decide) rfl (Or.inl rfl)) ?_
    refine x_getfield rfl (by decide) xu_eq rfl ?_
    refine x_iflt (t := 25) rfl rfl ⟨by omega, by omega⟩ (fun h => by omega) (fun _ => ?_)
    refine x_iconst rfl ?_
    refine x_goto (t := 39) rfl rfl ?_
    refine x_putfield rfl (by decide) xu_eq (show (0 : Nat) < 41 from by decide) rfl ?_
    refine x_aload_n rfl (xst_ne (by decide) rfl (Or.inl rfl)) ?_
    refine x_getfield rfl (by decide) xu_eq rfl ?_
    refine x_ifle (t := 56) rfl rfl (by decide) (fun h => absurd h (by decide)) (fun _ => ?_)
    refine x_aload_n rfl (xst_ne (by decide) rfl (Or.inl rfl)) ?_
    refine x_iload_n rfl xst_eq ?_
    refine x_putfield rfl (by decide) xu_eq (show (16 : Nat) < 41 from by decide) rfl ?_
    refine x_iconst rfl ?_
    refine x_ireturn rfl (Or.inl rfl) ⟨_, _, rfl, rfl, ?_⟩
    refine Or.inr ⟨rfl, Or.inl ⟨z, hG, hz, W, _, _, _, _, _, _, _, _, tm1, oa1, _, _, xu_eq, (xu_ne (by decide) (xu_ne (by decide) (xu_ne (by decide) j179))), xMD_mv (fun p p1 p2 => xu_ne (by omega) (xu_ne (by omega) (xu_ne (by omega) rfl))) jmd, (xu_ne (by decide) (xu_ne (by decide) (xu_ne (by decide) j187))), (xu_ne (by decide) (xu_ne (by decide) (xu_ne (by decide) j188))), jl1, jl2, xMS_mv (xu_ne (by decide) (xu_ne (by decide) (xu_ne (by decide) rfl))) (xu_ne (by decide) (xu_ne (by decide) (xu_ne (by decide) rfl))) jms, fun p a1 a2 a3 a4 a5 a6 a7 a8 a9 a10 a11 => xu_ne a1 (xu_ne a1 (xu_ne a1 ((jfr p a1 a3 a4 a5 a6 a7 a8 a9 a10 a11).trans (xu_ne a2 rfl))))⟩⟩
end
