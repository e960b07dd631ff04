/-! The model's tokens. -/
theorem xbits_s : ∀ k : Nat, k < 8 → (Int64.ofInt (5 * (k : Nat)) &&& 63).toBitVec.smod 64 = BitVec.ofNat 64 (5 * k) := by decide
theorem xbits {w d : Int} {k : Nat} (hk : k < 8) (hw : 0 ≤ w ∧ w < 32 ^ k) (hd : 0 ≤ d ∧ d < 32) : Int64.ofInt w ||| (Int64.ofInt d <<< (Int64.ofInt (5 * (k : Nat)) &&& 63)) = Int64.ofInt (w + d * 32 ^ k) := by
  obtain ⟨W, rfl⟩ := Int.eq_ofNat_of_zero_le hw.1
  obtain ⟨D, rfl⟩ := Int.eq_ofNat_of_zero_le hd.1
  have h1 : W < 32 ^ k := by exact_mod_cast hw.2
  have h2 : D < 32 := by exact_mod_cast hd.2
  have e32 : (32 : Nat) ^ k = 2 ^ (5 * k) := by rw [Nat.pow_mul]
  have e : ((W : Nat) : Int) + ((D : Nat) : Int) * 32 ^ k = ((W + D * 32 ^ k : Nat) : Int) := by simp
  rw [e]
  apply Int64.toBitVec.inj
  rw [Int64.toBitVec_or, Int64.toBitVec_shiftLeft, xbits_s k hk]
  apply BitVec.eq_of_toNat_eq
  have hb : D * 2 ^ (5 * k) < 2 ^ 40 := by
    have h5 : 2 ^ (5 * k) ≤ 2 ^ 35 := Nat.pow_le_pow_right (by decide) (by omega)
    have h6 : D * 2 ^ (5 * k) ≤ 31 * 2 ^ 35 := Nat.mul_le_mul (by omega) h5
    omega
  have hW : W < 2 ^ 35 := by
    have h5 : 2 ^ (5 * k) ≤ 2 ^ 35 := Nat.pow_le_pow_right (by decide) (by omega)
    omega
  have hk64 : (5 * k) % 2 ^ 64 = 5 * k := Nat.mod_eq_of_lt (by omega)
  rw [e32] at h1 ⊢
  simp only [BitVec.toNat_or, BitVec.shiftLeft_eq', BitVec.toNat_shiftLeft, Int64.toBitVec_ofInt, BitVec.toNat_ofNat, BitVec.toNat_ofInt, hk64]
  have n1 : (((W : Nat) : Int) % (2 ^ 64 : Nat)).toNat = W := by omega
  have n2 : (((D : Nat) : Int) % (2 ^ 64 : Nat)).toNat = D := by omega
  have n3 : (((W + D * 2 ^ (5 * k) : Nat) : Int) % (2 ^ 64 : Nat)).toNat = W + D * 2 ^ (5 * k) := by omega
  rw [n1, n2, n3, Nat.shiftLeft_eq, Nat.mod_eq_of_lt (by omega), Nat.or_comm, ← Nat.shiftLeft_eq, ← Nat.shiftLeft_add_eq_or_of_lt h1, Nat.shiftLeft_eq, Nat.add_comm]
theorem xpr_app (l : List Int) (d : Int) : xpr (l ++ [d]) = xpr l + d * 32 ^ l.length := by
  induction l with
  | nil => simp [xpr]
  | cons x r ih =>
    simp only [List.cons_append, xpr, ih, List.length_cons, Int.pow_succ]
    rw [Int.mul_add, Int.mul_comm (32 ^ r.length) 32, ← Int.mul_assoc, ← Int.mul_assoc, Int.mul_comm d 32]
    omega
def xsgn (c : Int) : Prop := c = 61 ∨ c = 59 ∨ c = 44 ∨ c = 40 ∨ c = 41
/-- what the model knows of a token -/
def xTM (cs : List Int) (ki : Int) (s e : Nat) (kM : Int) (wo : Int64) (nu : Int) : Prop := (ki = 1 → wo = Int64.ofInt (xwR (xwd cs s e))) ∧ (ki = 2 → nu = (if e - s = 1 then cs.getD s 0 - 48 else 0)) ∧ (ki ≠ 3 → kM = ki) ∧ (ki = 3 → (xsgn (cs.getD s 0) ∧ kM = 3) ∨ (¬ xsgn (cs.getD s 0) ∧ kM = 4))
theorem xs_66 {v0 : Value} {xs : List Int32} {u : Nat × Nat} {f : Nat → zE} {n p : Nat} {cs : List Int} {cd fa ki be en nu ca pa op : Int} {wo : Int64} {q : Nat → Value} (h177 : f 177 = xmo cd (n : Nat) fa ki be en wo nu ca pa op q) (h178 : f 178 = xr 1 cs) (hn : n ≤ 100) (hl : cs.length = 100) (hcs : ∀ j : Nat, 0 ≤ cs.getD j 0 ∧ cs.getD j 0 ≤ 126) (hp : p ≤ 200) : xq v0 xs u 66 [(0, .ref 177), (1, xi (p : Nat))] f (fun r f' => r = some (xi (if p < n then cs.getD p 0 else 0)) ∧ f' = f) := by
  unfold xq
  have hc := hcs p
  refine x_iload_n rfl rfl ?_
  refine x_aload_n rfl rfl ?_
  refine x_getfield rfl (by decide) h177 rfl ?_
  refine x_cge (t := 17) rfl rfl ⟨by omega, by omega⟩ ⟨by omega, by omega⟩ (fun hb5 => ?_) (fun hb5 => ?_)
  · refine x_iconst rfl ?_
    refine x_ireturn rfl (Or.inr (Or.inr (Or.inl ⟨rfl, x_char (by omega) (by omega)⟩))) ⟨_, _, rfl, rfl, ?_⟩
    exact ⟨by rw [if_neg (by omega)], rfl⟩
  · refine x_aload_n rfl rfl ?_
    refine x_getfield rfl (by decide) h177 rfl ?_
    refine x_iload_n rfl rfl ?_
    refine x_caload rfl (by decide) h178 ⟨by omega, by rw [hl]; omega⟩ (by omega) ?_
    rw [Int.toNat_natCast]
    refine x_goto (t := 18) rfl rfl ?_
    refine x_ireturn rfl (Or.inr (Or.inr (Or.inl ⟨rfl, x_char (by omega) (by omega)⟩))) ⟨_, _, rfl, rfl, ?_⟩
    exact ⟨by rw [if_pos (by omega)], rfl⟩
theorem xs_67 {v0 : Value} {xs : List Int32} {u : Nat × Nat} {f : Nat → zE} {c : Int} (hc : 0 ≤ c ∧ c ≤ 1000) : xq v0 xs u 67 [(0, xi c)] f (fun r f' => r = some (xi (if 97 ≤ c ∧ c ≤ 122 then 1 else 0)) ∧ f' = f) := by
  unfold xq
  refine x_iload_n rfl rfl ?_
  refine x_bipush rfl (by decide) ?_
  refine x_clt (t := 16) rfl rfl ⟨by omega, by omega⟩ ⟨by omega, by omega⟩ (fun hb3 => ?_) (fun hb3 => ?_)
  · refine x_iconst rfl ?_
    refine x_ireturn rfl (Or.inr (Or.inl ⟨rfl, by decide⟩)) ⟨_, _, rfl, rfl, ?_⟩
    exact ⟨by rw [if_neg (by omega)], rfl⟩
  · refine x_iload_n rfl rfl ?_
    refine x_bipush rfl (by decide) ?_
    refine x_cgt (t := 16) rfl rfl ⟨by omega, by omega⟩ ⟨by omega, by omega⟩ (fun hb9 => ?_) (fun hb9 => ?_)
    · refine x_iconst rfl ?_
      refine x_ireturn rfl (Or.inr (Or.inl ⟨rfl, by decide⟩)) ⟨_, _, rfl, rfl, ?_⟩
      exact ⟨by rw [if_neg (by omega)], rfl⟩
    · refine x_iconst rfl ?_
      refine x_goto (t := 17) rfl rfl ?_
      refine x_ireturn rfl (Or.inr (Or.inl ⟨rfl, by decide⟩)) ⟨_, _, rfl, rfl, ?_⟩
      exact ⟨by rw [if_pos (by omega)], rfl⟩
theorem xs_68 {v0 : Value} {xs : List Int32} {u : Nat × Nat} {f : Nat → zE} {c : Int} (hc : 0 ≤ c ∧ c ≤ 1000) : xq v0 xs u 68 [(0, xi c)] f (fun r f' => r = some (xi (if 48 ≤ c ∧ c ≤ 57 then 1 else 0)) ∧ f' = f) := by
  unfold xq
  refine x_iload_n rfl rfl ?_
  refine x_bipush rfl (by decide) ?_
  refine x_clt (t := 16) rfl rfl ⟨by omega, by omega⟩ ⟨by omega, by omega⟩ (fun hb3 => ?_) (fun hb3 => ?_)
  · refine x_iconst rfl ?_
    refine x_ireturn rfl (Or.inr (Or.inl ⟨rfl, by decide⟩)) ⟨_, _, rfl, rfl, ?_⟩
    exact ⟨by rw [if_neg (by omega)], rfl⟩
  · refine x_iload_n rfl rfl ?_
    refine x_bipush rfl (by decide) ?_
    refine x_cgt (t := 16) rfl rfl ⟨by omega, by omega⟩ ⟨by omega, by omega⟩ (fun hb9 => ?_) (fun hb9 => ?_)
    · refine x_iconst rfl ?_
      refine x_ireturn rfl (Or.inr (Or.inl ⟨rfl, by decide⟩)) ⟨_, _, rfl, rfl, ?_⟩
      exact ⟨by rw [if_neg (by omega)], rfl⟩
    · refine x_iconst rfl ?_
      refine x_goto (t := 17) rfl rfl ?_
      refine x_ireturn rfl (Or.inr (Or.inl ⟨rfl, by decide⟩)) ⟨_, _, rfl, rfl, ?_⟩
      exact ⟨by rw [if_pos (by omega)], rfl⟩
theorem xs_69w {v0 : Value} {xs : List Int32} {u : Nat × Nat} {f0 : Nat → zE} {p0 s n : Nat} {cs : List Int} {cd fa nu ca pa op : Int} {q : Nat → Value} {lv : zL} (hn : n ≤ 100) (hl : cs.length = 100) (hcs : ∀ j : Nat, 0 ≤ cs.getD j 0 ∧ cs.getD j 0 ≤ 126) (l0 : zlv lv 0 = some (.ref 177)) (hs0 : s = xskip xbl cs n p0) (hsn : s < n) (hsl : xlt (cs.getD s 0) = true) : ∀ (d j : Nat) (f : Nat → zE), d + j = n → s ≤ j → j ≤ n → f 177 = xmo cd (n : Nat) fa 1 (s : Nat) (j : Nat) (Int64.ofInt (xwR (xwd cs s j))) nu ca pa op q → f 178 = xr 1 cs → xskip xlt cs n j = xskip xlt cs n s → (∀ p, p ≠ 177 → f p = f0 p) → xz v0 xs u (fun o X => ∃ r f', o = .inl r ∧ X = (xh f', u) ∧ (fun r f' => r = none ∧ (∃ (ki : Int) (s e : Nat) (kM : Int) (wo' : Int64) (nu' : Int), f' 177 = xmo cd (n : Nat) fa kM (s : Nat) (e : Nat) wo' nu' ca pa op q ∧ xTK cs n p0 ki s e ∧ xTM cs ki s e kM wo' nu') ∧ ∀ p, p ≠ 177 → f' p = f0 p) r f') 69 87 lv [] f := by
  intro d
  induction d with
  | zero =>
    intro j f hd hj hjn h177 h178 hsk hfr
    have hch := hcs j
    refine x_aload_n rfl l0 ?_
    refine x_aload_n rfl l0 ?_
    refine x_getfield rfl (by decide) h177 rfl ?_
    refine x_call [_, _] rfl rfl (show (0 : Nat) ≤ 8 from by decide) (show (2 : Nat) ≤ 2 from by decide) (x_rcv (by decide) h177) (xs_66 h177 h178 hn hl hcs (p := j) (by omega)) (fun r' f' hP => ?_)
    obtain ⟨rfl, rfl⟩ := hP
    refine x_call [_] rfl rfl (show (0 : Nat) ≤ 8 from by decide) (show (1 : Nat) ≤ 1 from by decide) rfl (xs_67 (by split <;> omega)) (fun r' f' hP => ?_)
    obtain ⟨rfl, rfl⟩ := hP
    refine x_ifeq (t := 294) rfl rfl (by (repeat' split) <;> omega) (fun hb98 => ?_) (fun hb98 => ?_)
    · refine x_return rfl ⟨_, _, rfl, rfl, ?_⟩
      have hse : xskip xlt cs n s = j := by rw [← hsk]; exact xskip_e (fun h => by have h1 := xlt_iff.mp h.2; rw [if_pos h.1, if_pos ⟨h1.1, h1.2⟩] at hb98; exact absurd hb98 (by decide))
      exact ⟨rfl, ⟨1, s, j, 1, _, nu, h177, ⟨hs0, Or.inr (Or.inl ⟨hsn, hsl, rfl, hse.symm⟩)⟩, ⟨fun _ => rfl, fun h => absurd h (by decide), fun _ => rfl, fun h => absurd h (by decide)⟩⟩, hfr⟩
    · exfalso
      rw [if_neg (by omega)] at hb98
      exact hb98 rfl
  | succ d ih =>
    intro j f hd hj hjn h177 h178 hsk hfr
    have hch := hcs j
    have hin : ∀ i, s ≤ i → i < j → xlt (cs.getD i 0) = true := fun i h1 h2 => xskip_in (n := n) h1 (by have : j ≤ xskip xlt cs n j := xskip_ge; omega)
    refine x_aload_n rfl l0 ?_
    refine x_aload_n rfl l0 ?_
    refine x_getfield rfl (by decide) h177 rfl ?_
    refine x_call [_, _] rfl rfl (show (0 : Nat) ≤ 8 from by decide) (show (2 : Nat) ≤ 2 from by decide) (x_rcv (by decide) h177) (xs_66 h177 h178 hn hl hcs (p := j) (by omega)) (fun r' f' hP => ?_)
    obtain ⟨rfl, rfl⟩ := hP
    refine x_call [_] rfl rfl (show (0 : Nat) ≤ 8 from by decide) (show (1 : Nat) ≤ 1 from by decide) rfl (xs_67 (by split <;> omega)) (fun r' f' hP => ?_)
    obtain ⟨rfl, rfl⟩ := hP
    refine x_ifeq (t := 294) rfl rfl (by (repeat' split) <;> omega) (fun hb98 => ?_) (fun hb98 => ?_)
    · refine x_return rfl ⟨_, _, rfl, rfl, ?_⟩
      have hse : xskip xlt cs n s = j := by rw [← hsk]; exact xskip_e (fun h => by have h1 := xlt_iff.mp h.2; rw [if_pos h.1, if_pos ⟨h1.1, h1.2⟩] at hb98; exact absurd hb98 (by decide))
      exact ⟨rfl, ⟨1, s, j, 1, _, nu, h177, ⟨hs0, Or.inr (Or.inl ⟨hsn, hsl, rfl, hse.symm⟩)⟩, ⟨fun _ => rfl, fun h => absurd h (by decide), fun _ => rfl, fun h => absurd h (by decide)⟩⟩, hfr⟩
    · have hjn : j < n := by
        by_cases hx : j < n
        · exact hx
        · rw [if_neg hx] at hb98; exact absurd rfl hb98
      rw [if_pos hjn] at hb98
      have hlt : 97 ≤ cs.getD j 0 ∧ cs.getD j 0 ≤ 122 := by
        by_cases hx : 97 ≤ cs.getD j 0 ∧ cs.getD j 0 ≤ 122
        · exact hx
        · rw [if_neg hx] at hb98; exact absurd rfl hb98
      refine x_aload_n rfl l0 ?_
      refine x_aload_n rfl l0 ?_
      refine x_getfield rfl (by decide) h177 rfl ?_
      refine x_aload_n rfl l0 ?_
      refine x_getfield rfl (by decide) h177 rfl ?_
      refine x_isub rfl ?_
      refine x_bipush rfl (by decide) ?_
      refine x_cge (t := 159) rfl rfl ⟨by omega, by omega⟩ ⟨by omega, by omega⟩ (fun hb113 => ?_) (fun hb113 => ?_)
      · refine x_ldc2 rfl ?_
        refine x_putfield rfl (by decide) h177 (show (7 : Nat) < 41 from by decide) rfl ?_
        refine x_aload_n rfl l0 ?_
        refine x_dup rfl ?_
        refine x_getfield rfl (by decide) xu_eq rfl ?_
        refine x_iconst rfl ?_
        refine x_iadd rfl ?_
        refine x_putfield rfl (by decide) xu_eq (show (6 : Nat) < 41 from by decide) rfl ?_
        refine x_goto (t := 87) rfl rfl ?_
        refine ih (j + 1) _ (by omega) (by omega) (by omega) ?_ ?_ ?_ ?_
        · have ew : xwd cs s (j + 1) = none := by unfold xwd; rw [if_pos (by omega)]
          rw [ew]
          exact xu_eq
        · exact (xu_ne (by decide) (xu_ne (by decide) h178))
        · rw [← xskip_s (by omega) (xlt_iff.mpr hlt)]; exact hsk
        · intro p hp; exact xu_ne hp (xu_ne hp (hfr p hp))
      · refine x_aload_n rfl l0 ?_
        refine x_getfield rfl (by decide) h177 rfl ?_
        refine x_lconst rfl ?_
        refine x_lcmp rfl ?_
        refine x_llt (t := 159) rfl rfl (fun hb122 => ?_) (fun hb122 => ?_)
        · exfalso
          have ew : xwd cs s j = some (xds cs s (j - s)) := by unfold xwd; rw [if_neg (by omega)]
          have hlen : (xds cs s (j - s)).length = j - s := by simp [xds]
          have hx : xlw (xds cs s (j - s)) := by
            intro d hd
            obtain ⟨i, h1, rfl⟩ := List.mem_map.mp hd
            have h2 := xlt_iff.mp (hin (s + i) (by omega) (by have := List.mem_range.mp h1; omega))
            omega
          have h8 := xpr_8 hx (by rw [hlen]; omega)
          rw [ew, Int64.lt_iff_toInt_lt] at hb122
          have h7 : (Int64.ofInt (xwR (some (xds cs s (j - s))))).toInt = xpr (xds cs s (j - s)) := Int64.toInt_ofInt_of_le (by simp only [xwR]; omega) (by simp only [xwR]; omega)
          rw [h7] at hb122
          have h9 : xpr (xds cs s (j - s)) < 0 := hb122
          omega
        · refine x_aload_n rfl l0 ?_
          refine x_getfield rfl (by decide) h177 rfl ?_
          refine x_aload_n rfl l0 ?_
          refine x_aload_n rfl l0 ?_
          refine x_getfield rfl (by decide) h177 rfl ?_
          refine x_call [_, _] rfl rfl (show (3 : Nat) ≤ 8 from by decide) (show (2 : Nat) ≤ 2 from by decide) (x_rcv (by decide) h177) (xs_66 h177 h178 hn hl hcs (p := j) (by omega)) (fun r' f' hP => ?_)
          obtain ⟨rfl, rfl⟩ := hP
          rw [if_pos hjn]
          refine x_bipush rfl (by decide) ?_
          refine x_isub rfl ?_
          refine x_iconst rfl ?_
          refine x_iadd rfl ?_
          refine x_i2l rfl ?_
          refine x_iconst rfl ?_
          refine x_aload_n rfl l0 ?_
          refine x_getfield rfl (by decide) h177 rfl ?_
          refine x_aload_n rfl l0 ?_
          refine x_getfield rfl (by decide) h177 rfl ?_
          refine x_isub rfl ?_
          refine x_imul rfl ?_
          refine x_lshl rfl ?_
          refine x_lor rfl ?_
          refine x_goto (t := 162) rfl rfl ?_
          refine x_putfield rfl (by decide) h177 (show (7 : Nat) < 41 from by decide) rfl ?_
          refine x_aload_n rfl l0 ?_
          refine x_dup rfl ?_
          refine x_getfield rfl (by decide) xu_eq rfl ?_
          refine x_iconst rfl ?_
          refine x_iadd rfl ?_
          refine x_putfield rfl (by decide) xu_eq (show (6 : Nat) < 41 from by decide) rfl ?_
          refine x_goto (t := 87) rfl rfl ?_
          refine ih (j + 1) _ (by omega) (by omega) (by omega) ?_ ?_ ?_ ?_
          · have ew : xwd cs s j = some (xds cs s (j - s)) := by unfold xwd; rw [if_neg (by omega)]
            have ew2 : xwd cs s (j + 1) = some (xds cs s (j - s) ++ [cs.getD j 0 - 96]) := by
              unfold xwd
              rw [if_neg (by omega), show j + 1 - s = (j - s) + 1 by omega]
              unfold xds
              rw [List.range_succ, List.map_append]
              simp only [List.map_cons, List.map_nil, show s + (j - s) = j by omega]
            have hlen : (xds cs s (j - s)).length = j - s := by simp [xds]
            have hx : xlw (xds cs s (j - s)) := by
              intro d hd
              obtain ⟨i, h1, rfl⟩ := List.mem_map.mp hd
              have h2 := xlt_iff.mp (hin (s + i) (by omega) (by have := List.mem_range.mp h1; omega))
              omega
            have hr := xpr_rg hx
            rw [hlen] at hr
            have hbit := xbits (w := xpr (xds cs s (j - s))) (d := cs.getD j 0 - 96) (k := j - s) (by omega) hr (by omega)
            have e2 : xwR (xwd cs s (j + 1)) = xpr (xds cs s (j - s)) + (cs.getD j 0 - 96) * 32 ^ (j - s) := by rw [ew2]; simp only [xwR]; rw [xpr_app, hlen]
            rw [e2, ← hbit]
            have e3 : xwR (xwd cs s j) = xpr (xds cs s (j - s)) := by rw [ew]; rfl
            rw [← e3]
            have e5 : ((j : Nat) : Int) - ((s : Nat) : Int) = ((j - s : Nat) : Int) := by omega
            refine Eq.trans xu_eq ?_
            rw [xi_l (by omega) (by omega), e5, xi_l (by omega) (by omega), show cs.getD j 0 - 97 + 1 = cs.getD j 0 - 96 by omega]
            rfl
          · exact (xu_ne (by decide) (xu_ne (by decide) h178))
          · rw [← xskip_s (by omega) (xlt_iff.mpr hlt)]; exact hsk
          · intro p hp; exact xu_ne hp (xu_ne hp (hfr p hp))
theorem xs_69n {v0 : Value} {xs : List Int32} {u : Nat × Nat} {f0 : Nat → zE} {p0 s n : Nat} {cs : List Int} {cd fa nu ca pa op : Int} {wo : Int64} {q : Nat → Value} {lv : zL} (hn : n ≤ 100) (hl : cs.length = 100) (hcs : ∀ j : Nat, 0 ≤ cs.getD j 0 ∧ cs.getD j 0 ≤ 126) (l0 : zlv lv 0 = some (.ref 177)) (l1 : zlv lv 1 = some (xi (cs.getD s 0))) (hs0 : s = xskip xbl cs n p0) (hsn : s < n) (hsl : xlt (cs.getD s 0) = false) (hsd : xdg (cs.getD s 0) = true) : ∀ (d j : Nat) (f : Nat → zE), d + j = n → s ≤ j → j ≤ n → f 177 = xmo cd (n : Nat) fa 2 (s : Nat) (j : Nat) wo nu ca pa op q → f 178 = xr 1 cs → xskip xdg cs n j = xskip xdg cs n s → (∀ p, p ≠ 177 → f p = f0 p) → xz v0 xs u (fun o X => ∃ r f', o = .inl r ∧ X = (xh f', u) ∧ (fun r f' => r = none ∧ (∃ (ki : Int) (s e : Nat) (kM : Int) (wo' : Int64) (nu' : Int), f' 177 = xmo cd (n : Nat) fa kM (s : Nat) (e : Nat) wo' nu' ca pa op q ∧ xTK cs n p0 ki s e ∧ xTM cs ki s e kM wo' nu') ∧ ∀ p, p ≠ 177 → f' p = f0 p) r f') 69 190 lv [] f := by
  have hch0 := hcs s
  intro d
  induction d with
  | zero =>
    intro j f hd hj hjn h177 h178 hsk hfr
    have hch := hcs j
    refine x_aload_n rfl l0 ?_
    refine x_aload_n rfl l0 ?_
    refine x_getfield rfl (by decide) h177 rfl ?_
    refine x_call [_, _] rfl rfl (show (0 : Nat) ≤ 8 from by decide) (show (2 : Nat) ≤ 2 from by decide) (x_rcv (by decide) h177) (xs_66 h177 h178 hn hl hcs (p := j) (by omega)) (fun r' f' hP => ?_)
    obtain ⟨rfl, rfl⟩ := hP
    refine x_call [_] rfl rfl (show (0 : Nat) ≤ 8 from by decide) (show (1 : Nat) ≤ 1 from by decide) rfl (xs_68 (by split <;> omega)) (fun r' f' hP => ?_)
    obtain ⟨rfl, rfl⟩ := hP
    refine x_ifeq (t := 217) rfl rfl (by (repeat' split) <;> omega) (fun hb201 => ?_) (fun hb201 => ?_)
    · refine x_aload_n rfl l0 ?_
      refine x_aload_n rfl l0 ?_
      refine x_getfield rfl (by decide) h177 rfl ?_
      refine x_aload_n rfl l0 ?_
      refine x_getfield rfl (by decide) h177 rfl ?_
      refine x_isub rfl ?_
      refine x_iconst rfl ?_
      refine x_cne (t := 238) rfl rfl ⟨by omega, by omega⟩ ⟨by omega, by omega⟩ (fun hb228 => ?_) (fun hb228 => ?_)
      · refine x_iconst rfl ?_
        refine x_putfield rfl (by decide) h177 (show (8 : Nat) < 41 from by decide) rfl ?_
        refine x_goto (t := 294) rfl rfl ?_
        refine x_return rfl ⟨_, _, rfl, rfl, ?_⟩
        have hse : xskip xdg cs n s = j := by rw [← hsk]; exact xskip_e (fun h => by have h1 := xdg_iff.mp h.2; rw [if_pos h.1, if_pos ⟨h1.1, h1.2⟩] at hb201; exact absurd hb201 (by decide))
        exact ⟨rfl, ⟨2, s, j, 2, wo, _, xu_eq, ⟨hs0, Or.inr (Or.inr (Or.inl ⟨hsn, hsl, hsd, rfl, hse.symm⟩))⟩, ⟨fun h => absurd h (by decide), fun _ => by rw [if_neg (by omega)], fun _ => rfl, fun h => absurd h (by decide)⟩⟩, fun p hp => xu_ne hp (hfr p hp)⟩
      · refine x_iload_n rfl l1 ?_
        refine x_bipush rfl (by decide) ?_
        refine x_isub rfl ?_
        refine x_goto (t := 239) rfl rfl ?_
        refine x_putfield rfl (by decide) h177 (show (8 : Nat) < 41 from by decide) rfl ?_
        refine x_goto (t := 294) rfl rfl ?_
        refine x_return rfl ⟨_, _, rfl, rfl, ?_⟩
        have hse : xskip xdg cs n s = j := by rw [← hsk]; exact xskip_e (fun h => by have h1 := xdg_iff.mp h.2; rw [if_pos h.1, if_pos ⟨h1.1, h1.2⟩] at hb201; exact absurd hb201 (by decide))
        exact ⟨rfl, ⟨2, s, j, 2, wo, _, xu_eq, ⟨hs0, Or.inr (Or.inr (Or.inl ⟨hsn, hsl, hsd, rfl, hse.symm⟩))⟩, ⟨fun h => absurd h (by decide), fun _ => by rw [if_pos (by omega)], fun _ => rfl, fun h => absurd h (by decide)⟩⟩, fun p hp => xu_ne hp (hfr p hp)⟩
    · exfalso
      rw [if_neg (by omega)] at hb201
      exact hb201 rfl
  | succ d ih =>
    intro j f hd hj hjn h177 h178 hsk hfr
    have hch := hcs j
    refine x_aload_n rfl l0 ?_
    refine x_aload_n rfl l0 ?_
    refine x_getfield rfl (by decide) h177 rfl ?_
    refine x_call [_, _] rfl rfl (show (0 : Nat) ≤ 8 from by decide) (show (2 : Nat) ≤ 2 from by decide) (x_rcv (by decide) h177) (xs_66 h177 h178 hn hl hcs (p := j) (by omega)) (fun r' f' hP => ?_)
    obtain ⟨rfl, rfl⟩ := hP
    refine x_call [_] rfl rfl (show (0 : Nat) ≤ 8 from by decide) (show (1 : Nat) ≤ 1 from by decide) rfl (xs_68 (by split <;> omega)) (fun r' f' hP => ?_)
    obtain ⟨rfl, rfl⟩ := hP
    refine x_ifeq (t := 217) rfl rfl (by (repeat' split) <;> omega) (fun hb201 => ?_) (fun hb201 => ?_)
    · refine x_aload_n rfl l0 ?_
      refine x_aload_n rfl l0 ?_
      refine x_getfield rfl (by decide) h177 rfl ?_
      refine x_aload_n rfl l0 ?_
      refine x_getfield rfl (by decide) h177 rfl ?_
      refine x_isub rfl ?_
      refine x_iconst rfl ?_
      refine x_cne (t := 238) rfl rfl ⟨by omega, by omega⟩ ⟨by omega, by omega⟩ (fun hb228 => ?_) (fun hb228 => ?_)
      · refine x_iconst rfl ?_
        refine x_putfield rfl (by decide) h177 (show (8 : Nat) < 41 from by decide) rfl ?_
        refine x_goto (t := 294) rfl rfl ?_
        refine x_return rfl ⟨_, _, rfl, rfl, ?_⟩
        have hse : xskip xdg cs n s = j := by rw [← hsk]; exact xskip_e (fun h => by have h1 := xdg_iff.mp h.2; rw [if_pos h.1, if_pos ⟨h1.1, h1.2⟩] at hb201; exact absurd hb201 (by decide))
        exact ⟨rfl, ⟨2, s, j, 2, wo, _, xu_eq, ⟨hs0, Or.inr (Or.inr (Or.inl ⟨hsn, hsl, hsd, rfl, hse.symm⟩))⟩, ⟨fun h => absurd h (by decide), fun _ => by rw [if_neg (by omega)], fun _ => rfl, fun h => absurd h (by decide)⟩⟩, fun p hp => xu_ne hp (hfr p hp)⟩
      · refine x_iload_n rfl l1 ?_
        refine x_bipush rfl (by decide) ?_
        refine x_isub rfl ?_
        refine x_goto (t := 239) rfl rfl ?_
        refine x_putfield rfl (by decide) h177 (show (8 : Nat) < 41 from by decide) rfl ?_
        refine x_goto (t := 294) rfl rfl ?_
        refine x_return rfl ⟨_, _, rfl, rfl, ?_⟩
        have hse : xskip xdg cs n s = j := by rw [← hsk]; exact xskip_e (fun h => by have h1 := xdg_iff.mp h.2; rw [if_pos h.1, if_pos ⟨h1.1, h1.2⟩] at hb201; exact absurd hb201 (by decide))
        exact ⟨rfl, ⟨2, s, j, 2, wo, _, xu_eq, ⟨hs0, Or.inr (Or.inr (Or.inl ⟨hsn, hsl, hsd, rfl, hse.symm⟩))⟩, ⟨fun h => absurd h (by decide), fun _ => by rw [if_pos (by omega)], fun _ => rfl, fun h => absurd h (by decide)⟩⟩, fun p hp => xu_ne hp (hfr p hp)⟩
    · have hjn : j < n := by
        by_cases hx : j < n
        · exact hx
        · rw [if_neg hx] at hb201; exact absurd rfl hb201
      rw [if_pos hjn] at hb201
      have hlt : 48 ≤ cs.getD j 0 ∧ cs.getD j 0 ≤ 57 := by
        by_cases hx : 48 ≤ cs.getD j 0 ∧ cs.getD j 0 ≤ 57
        · exact hx
        · rw [if_neg hx] at hb201; exact absurd rfl hb201
      refine x_aload_n rfl l0 ?_
      refine x_dup rfl ?_
      refine x_getfield rfl (by decide) h177 rfl ?_
      refine x_iconst rfl ?_
      refine x_iadd rfl ?_
      refine x_putfield rfl (by decide) h177 (show (6 : Nat) < 41 from by decide) rfl ?_
      refine x_goto (t := 190) rfl rfl ?_
      refine ih (j + 1) _ (by omega) (by omega) (by omega) ?_ ?_ ?_ ?_
      · exact xu_eq
      · exact (xu_ne (by decide) h178)
      · rw [← xskip_s (by omega) (xdg_iff.mpr hlt)]; exact hsk
      · intro p hp; exact xu_ne hp (hfr p hp)
theorem xs_69l {v0 : Value} {xs : List Int32} {u : Nat × Nat} {f0 : Nat → zE} {p0 n : Nat} {cs : List Int} {cd fa ki en nu ca pa op : Int} {wo : Int64} {q : Nat → Value} {lv : zL} (hn : n ≤ 100) (hl : cs.length = 100) (hcs : ∀ j : Nat, 0 ≤ cs.getD j 0 ∧ cs.getD j 0 ≤ 126) (l0 : zlv lv 0 = some (.ref 177)) : ∀ (d j : Nat) (f : Nat → zE), d + j = n → j ≤ n → f 177 = xmo cd (n : Nat) fa ki (j : Nat) en wo nu ca pa op q → f 178 = xr 1 cs → xskip xbl cs n j = xskip xbl cs n p0 → (∀ p, p ≠ 177 → f p = f0 p) → xz v0 xs u (fun o X => ∃ r f', o = .inl r ∧ X = (xh f', u) ∧ (fun r f' => r = none ∧ (∃ (ki : Int) (s e : Nat) (kM : Int) (wo' : Int64) (nu' : Int), f' 177 = xmo cd (n : Nat) fa kM (s : Nat) (e : Nat) wo' nu' ca pa op q ∧ xTK cs n p0 ki s e ∧ xTM cs ki s e kM wo' nu') ∧ ∀ p, p ≠ 177 → f' p = f0 p) r f') 69 8 lv [] f := by
  intro d
  induction d with
  | zero =>
    intro j f hd hjn0 h177 h178 hsk hfr
    have hch := hcs j
    refine x_aload_n rfl l0 ?_
    refine x_aload_n rfl l0 ?_
    refine x_getfield rfl (by decide) h177 rfl ?_
    refine x_call [_, _] rfl rfl (show (0 : Nat) ≤ 8 from by decide) (show (2 : Nat) ≤ 2 from by decide) (x_rcv (by decide) h177) (xs_66 h177 h178 hn hl hcs (p := j) (by omega)) (fun r' f' hP => ?_)
    obtain ⟨rfl, rfl⟩ := hP
    refine x_bipush rfl (by decide) ?_
    refine x_cne (t := 34) rfl rfl (by split <;> omega) ⟨by omega, by omega⟩ (fun hb18 => ?_) (fun hb18 => ?_)
    · have hse : j = xskip xbl cs n p0 := by rw [← hsk]; exact (xskip_e (fun h => by have h1 := xbl_iff.mp h.2; rw [if_pos h.1] at hb18; exact hb18 h1)).symm
      refine x_aload_n rfl l0 ?_
      refine x_aload_n rfl l0 ?_
      refine x_getfield rfl (by decide) h177 rfl ?_
      refine x_putfield rfl (by decide) h177 (show (6 : Nat) < 41 from by decide) rfl ?_
      refine x_aload_n rfl l0 ?_
      refine x_aload_n rfl l0 ?_
      refine x_getfield rfl (by decide) xu_eq rfl ?_
      refine x_call [_, _] rfl rfl (show (0 : Nat) ≤ 8 from by decide) (show (2 : Nat) ≤ 2 from by decide) (x_rcv (by decide) xu_eq) (xs_66 xu_eq (xu_ne (by decide) h178) hn hl hcs (p := j) (by omega)) (fun r' f' hP => ?_)
      obtain ⟨rfl, rfl⟩ := hP
      refine x_istore_n rfl (show (1 : Nat) < 2 from by decide) ?_
      refine x_aload_n rfl (xst_ne (by decide) l0 (Or.inl rfl)) ?_
      refine x_getfield rfl (by decide) xu_eq rfl ?_
      refine x_aload_n rfl (xst_ne (by decide) l0 (Or.inl rfl)) ?_
      refine x_getfield rfl (by decide) xu_eq rfl ?_
      refine x_clt (t := 70) rfl rfl ⟨by omega, by omega⟩ ⟨by omega, by omega⟩ (fun hb59 => ?_) (fun hb59 => ?_)
      · have hjn : j < n := by omega
        refine x_iload_n rfl xst_eq ?_
        refine x_call [_] rfl rfl (show (0 : Nat) ≤ 8 from by decide) (show (1 : Nat) ≤ 1 from by decide) rfl (xs_67 (by split <;> omega)) (fun r' f' hP => ?_)
        obtain ⟨rfl, rfl⟩ := hP
        refine x_ifeq (t := 178) rfl rfl (by (repeat' split) <;> omega) (fun hb74 => ?_) (fun hb74 => ?_)
        · rw [if_pos hjn] at hb74
          have hnl : xlt (cs.getD j 0) = false := by
            cases hx : xlt (cs.getD j 0) with
            | false => rfl
            | true => rw [if_pos (xlt_iff.mp hx)] at hb74; exact absurd hb74 (by decide)
          refine x_iload_n rfl xst_eq ?_
          refine x_call [_] rfl rfl (show (0 : Nat) ≤ 8 from by decide) (show (1 : Nat) ≤ 1 from by decide) rfl (xs_68 (by split <;> omega)) (fun r' f' hP => ?_)
          obtain ⟨rfl, rfl⟩ := hP
          refine x_ifeq (t := 245) rfl rfl (by (repeat' split) <;> omega) (fun hb182 => ?_) (fun hb182 => ?_)
          · rw [if_pos hjn] at hb182
            have hnd : xdg (cs.getD j 0) = false := by
              cases hx : xdg (cs.getD j 0) with
              | false => rfl
              | true => rw [if_pos (xdg_iff.mp hx)] at hb182; exact absurd hb182 (by decide)
            rw [if_pos hjn]
            refine x_aload_n rfl (xst_ne (by decide) l0 (Or.inl rfl)) ?_
            refine x_iload_n rfl xst_eq ?_
            refine x_bipush rfl (by decide) ?_
            refine x_ceq (t := 276) rfl rfl ⟨by omega, by omega⟩ ⟨by omega, by omega⟩ (fun hb249 => ?_) (fun hb249 => ?_)
            · refine x_iconst rfl ?_
              refine x_goto (t := 281) rfl rfl ?_
              refine x_putfield rfl (by decide) xu_eq (show (4 : Nat) < 41 from by decide) rfl ?_
              refine x_aload_n rfl (xst_ne (by decide) l0 (Or.inl rfl)) ?_
              refine x_dup rfl ?_
              refine x_getfield rfl (by decide) xu_eq rfl ?_
              refine x_iconst rfl ?_
              refine x_iadd rfl ?_
              refine x_putfield rfl (by decide) xu_eq (show (6 : Nat) < 41 from by decide) rfl ?_
              refine x_return rfl ⟨_, _, rfl, rfl, ?_⟩
              exact ⟨rfl, ⟨3, j, j + 1, 3, wo, nu, xu_eq, ⟨hse, Or.inr (Or.inr (Or.inr ⟨hjn, hnl, hnd, rfl, rfl⟩))⟩, ⟨fun h => absurd h (by decide), fun h => absurd h (by decide), fun h => absurd rfl h, fun _ => Or.inl ⟨by unfold xsgn; omega, rfl⟩⟩⟩, fun p hp => xu_ne hp (xu_ne hp (xu_ne hp (hfr p hp)))⟩
            · refine x_iload_n rfl xst_eq ?_
              refine x_bipush rfl (by decide) ?_
              refine x_ceq (t := 276) rfl rfl ⟨by omega, by omega⟩ ⟨by omega, by omega⟩ (fun hb255 => ?_) (fun hb255 => ?_)
              · refine x_iconst rfl ?_
                refine x_goto (t := 281) rfl rfl ?_
                refine x_putfield rfl (by decide) xu_eq (show (4 : Nat) < 41 from by decide) rfl ?_
                refine x_aload_n rfl (xst_ne (by decide) l0 (Or.inl rfl)) ?_
                refine x_dup rfl ?_
                refine x_getfield rfl (by decide) xu_eq rfl ?_
                refine x_iconst rfl ?_
                refine x_iadd rfl ?_
                refine x_putfield rfl (by decide) xu_eq (show (6 : Nat) < 41 from by decide) rfl ?_
                refine x_return rfl ⟨_, _, rfl, rfl, ?_⟩
                exact ⟨rfl, ⟨3, j, j + 1, 3, wo, nu, xu_eq, ⟨hse, Or.inr (Or.inr (Or.inr ⟨hjn, hnl, hnd, rfl, rfl⟩))⟩, ⟨fun h => absurd h (by decide), fun h => absurd h (by decide), fun h => absurd rfl h, fun _ => Or.inl ⟨by unfold xsgn; omega, rfl⟩⟩⟩, fun p hp => xu_ne hp (xu_ne hp (xu_ne hp (hfr p hp)))⟩
              · refine x_iload_n rfl xst_eq ?_
                refine x_bipush rfl (by decide) ?_
                refine x_ceq (t := 276) rfl rfl ⟨by omega, by omega⟩ ⟨by omega, by omega⟩ (fun hb261 => ?_) (fun hb261 => ?_)
                · refine x_iconst rfl ?_
                  refine x_goto (t := 281) rfl rfl ?_
                  refine x_putfield rfl (by decide) xu_eq (show (4 : Nat) < 41 from by decide) rfl ?_
                  refine x_aload_n rfl (xst_ne (by decide) l0 (Or.inl rfl)) ?_
                  refine x_dup rfl ?_
                  refine x_getfield rfl (by decide) xu_eq rfl ?_
                  refine x_iconst rfl ?_
                  refine x_iadd rfl ?_
                  refine x_putfield rfl (by decide) xu_eq (show (6 : Nat) < 41 from by decide) rfl ?_
                  refine x_return rfl ⟨_, _, rfl, rfl, ?_⟩
                  exact ⟨rfl, ⟨3, j, j + 1, 3, wo, nu, xu_eq, ⟨hse, Or.inr (Or.inr (Or.inr ⟨hjn, hnl, hnd, rfl, rfl⟩))⟩, ⟨fun h => absurd h (by decide), fun h => absurd h (by decide), fun h => absurd rfl h, fun _ => Or.inl ⟨by unfold xsgn; omega, rfl⟩⟩⟩, fun p hp => xu_ne hp (xu_ne hp (xu_ne hp (hfr p hp)))⟩
                · refine x_iload_n rfl xst_eq ?_
                  refine x_bipush rfl (by decide) ?_
                  refine x_ceq (t := 276) rfl rfl ⟨by omega, by omega⟩ ⟨by omega, by omega⟩ (fun hb267 => ?_) (fun hb267 => ?_)
                  · refine x_iconst rfl ?_
                    refine x_goto (t := 281) rfl rfl ?_
                    refine x_putfield rfl (by decide) xu_eq (show (4 : Nat) < 41 from by decide) rfl ?_
                    refine x_aload_n rfl (xst_ne (by decide) l0 (Or.inl rfl)) ?_
                    refine x_dup rfl ?_
                    refine x_getfield rfl (by decide) xu_eq rfl ?_
                    refine x_iconst rfl ?_
                    refine x_iadd rfl ?_
                    refine x_putfield rfl (by decide) xu_eq (show (6 : Nat) < 41 from by decide) rfl ?_
                    refine x_return rfl ⟨_, _, rfl, rfl, ?_⟩
                    exact ⟨rfl, ⟨3, j, j + 1, 3, wo, nu, xu_eq, ⟨hse, Or.inr (Or.inr (Or.inr ⟨hjn, hnl, hnd, rfl, rfl⟩))⟩, ⟨fun h => absurd h (by decide), fun h => absurd h (by decide), fun h => absurd rfl h, fun _ => Or.inl ⟨by unfold xsgn; omega, rfl⟩⟩⟩, fun p hp => xu_ne hp (xu_ne hp (xu_ne hp (hfr p hp)))⟩
                  · refine x_iload_n rfl xst_eq ?_
                    refine x_bipush rfl (by decide) ?_
                    refine x_cne (t := 280) rfl rfl ⟨by omega, by omega⟩ ⟨by omega, by omega⟩ (fun hb273 => ?_) (fun hb273 => ?_)
                    · refine x_iconst rfl ?_
                      refine x_putfield rfl (by decide) xu_eq (show (4 : Nat) < 41 from by decide) rfl ?_
                      refine x_aload_n rfl (xst_ne (by decide) l0 (Or.inl rfl)) ?_
                      refine x_dup rfl ?_
                      refine x_getfield rfl (by decide) xu_eq rfl ?_
                      refine x_iconst rfl ?_
                      refine x_iadd rfl ?_
                      refine x_putfield rfl (by decide) xu_eq (show (6 : Nat) < 41 from by decide) rfl ?_
                      refine x_return rfl ⟨_, _, rfl, rfl, ?_⟩
                      exact ⟨rfl, ⟨3, j, j + 1, 4, wo, nu, xu_eq, ⟨hse, Or.inr (Or.inr (Or.inr ⟨hjn, hnl, hnd, rfl, rfl⟩))⟩, ⟨fun h => absurd h (by decide), fun h => absurd h (by decide), fun h => absurd rfl h, fun _ => Or.inr ⟨by unfold xsgn; omega, rfl⟩⟩⟩, fun p hp => xu_ne hp (xu_ne hp (xu_ne hp (hfr p hp)))⟩
                    · refine x_iconst rfl ?_
                      refine x_goto (t := 281) rfl rfl ?_
                      refine x_putfield rfl (by decide) xu_eq (show (4 : Nat) < 41 from by decide) rfl ?_
                      refine x_aload_n rfl (xst_ne (by decide) l0 (Or.inl rfl)) ?_
                      refine x_dup rfl ?_
                      refine x_getfield rfl (by decide) xu_eq rfl ?_
                      refine x_iconst rfl ?_
                      refine x_iadd rfl ?_
                      refine x_putfield rfl (by decide) xu_eq (show (6 : Nat) < 41 from by decide) rfl ?_
                      refine x_return rfl ⟨_, _, rfl, rfl, ?_⟩
                      exact ⟨rfl, ⟨3, j, j + 1, 3, wo, nu, xu_eq, ⟨hse, Or.inr (Or.inr (Or.inr ⟨hjn, hnl, hnd, rfl, rfl⟩))⟩, ⟨fun h => absurd h (by decide), fun h => absurd h (by decide), fun h => absurd rfl h, fun _ => Or.inl ⟨by unfold xsgn; omega, rfl⟩⟩⟩, fun p hp => xu_ne hp (xu_ne hp (xu_ne hp (hfr p hp)))⟩
          · rw [if_pos hjn] at hb182
            have hdg : xdg (cs.getD j 0) = true := by
              by_cases hx : 48 ≤ cs.getD j 0 ∧ cs.getD j 0 ≤ 57
              · exact xdg_iff.mpr hx
              · rw [if_neg hx] at hb182; exact absurd rfl hb182
            rw [if_pos hjn]
            refine x_aload_n rfl (xst_ne (by decide) l0 (Or.inl rfl)) ?_
            refine x_iconst rfl ?_
            refine x_putfield rfl (by decide) xu_eq (show (4 : Nat) < 41 from by decide) rfl ?_
            exact xs_69n hn hl hcs (xst_ne (by decide) l0 (Or.inl rfl)) xst_eq hse hjn hnl hdg (n - j) j _ (by omega) (Nat.le_refl _) (by omega) xu_eq (xu_ne (by decide) (xu_ne (by decide) h178)) rfl (fun p hp => xu_ne hp (xu_ne hp (hfr p hp)))
        · rw [if_pos hjn] at hb74
          have hlt : xlt (cs.getD j 0) = true := by
            by_cases hx : 97 ≤ cs.getD j 0 ∧ cs.getD j 0 ≤ 122
            · exact xlt_iff.mpr hx
            · rw [if_neg hx] at hb74; exact absurd rfl hb74
          refine x_aload_n rfl (xst_ne (by decide) l0 (Or.inl rfl)) ?_
          refine x_iconst rfl ?_
          refine x_putfield rfl (by decide) xu_eq (show (4 : Nat) < 41 from by decide) rfl ?_
          refine x_aload_n rfl (xst_ne (by decide) l0 (Or.inl rfl)) ?_
          refine x_lconst rfl ?_
          refine x_putfield rfl (by decide) xu_eq (show (7 : Nat) < 41 from by decide) rfl ?_
          exact xs_69w hn hl hcs (xst_ne (by decide) l0 (Or.inl rfl)) hse hjn hlt (n - j) j _ (by omega) (Nat.le_refl _) (by omega) (by rw [show xwd cs j j = some [] by unfold xwd xds; rw [if_neg (by omega), Nat.sub_self]; rfl]; exact xu_eq) (xu_ne (by decide) (xu_ne (by decide) (xu_ne (by decide) h178))) rfl (fun p hp => xu_ne hp (xu_ne hp (xu_ne hp (hfr p hp))))
      · refine x_aload_n rfl (xst_ne (by decide) l0 (Or.inl rfl)) ?_
        refine x_iconst rfl ?_
        refine x_putfield rfl (by decide) xu_eq (show (4 : Nat) < 41 from by decide) rfl ?_
        refine x_goto (t := 294) rfl rfl ?_
        refine x_return rfl ⟨_, _, rfl, rfl, ?_⟩
        exact ⟨rfl, ⟨0, j, j, 0, wo, nu, xu_eq, ⟨hse, Or.inl ⟨by omega, rfl, by omega⟩⟩, ⟨fun h => absurd h (by decide), fun h => absurd h (by decide), fun _ => rfl, fun h => absurd h (by decide)⟩⟩, fun p hp => xu_ne hp (xu_ne hp (hfr p hp))⟩
    · exfalso
      rw [if_neg (by omega)] at hb18
      omega
  | succ d ih =>
    intro j f hd hjn0 h177 h178 hsk hfr
    have hch := hcs j
    refine x_aload_n rfl l0 ?_
    refine x_aload_n rfl l0 ?_
    refine x_getfield rfl (by decide) h177 rfl ?_
    refine x_call [_, _] rfl rfl (show (0 : Nat) ≤ 8 from by decide) (show (2 : Nat) ≤ 2 from by decide) (x_rcv (by decide) h177) (xs_66 h177 h178 hn hl hcs (p := j) (by omega)) (fun r' f' hP => ?_)
    obtain ⟨rfl, rfl⟩ := hP
    refine x_bipush rfl (by decide) ?_
    refine x_cne (t := 34) rfl rfl (by split <;> omega) ⟨by omega, by omega⟩ (fun hb18 => ?_) (fun hb18 => ?_)
    · have hse : j = xskip xbl cs n p0 := by rw [← hsk]; exact (xskip_e (fun h => by have h1 := xbl_iff.mp h.2; rw [if_pos h.1] at hb18; exact hb18 h1)).symm
      refine x_aload_n rfl l0 ?_
      refine x_aload_n rfl l0 ?_
      refine x_getfield rfl (by decide) h177 rfl ?_
      refine x_putfield rfl (by decide) h177 (show (6 : Nat) < 41 from by decide) rfl ?_
      refine x_aload_n rfl l0 ?_
      refine x_aload_n rfl l0 ?_
      refine x_getfield rfl (by decide) xu_eq rfl ?_
      refine x_call [_, _] rfl rfl (show (0 : Nat) ≤ 8 from by decide) (show (2 : Nat) ≤ 2 from by decide) (x_rcv (by decide) xu_eq) (xs_66 xu_eq (xu_ne (by decide) h178) hn hl hcs (p := j) (by omega)) (fun r' f' hP => ?_)
      obtain ⟨rfl, rfl⟩ := hP
      refine x_istore_n rfl (show (1 : Nat) < 2 from by decide) ?_
      refine x_aload_n rfl (xst_ne (by decide) l0 (Or.inl rfl)) ?_
      refine x_getfield rfl (by decide) xu_eq rfl ?_
      refine x_aload_n rfl (xst_ne (by decide) l0 (Or.inl rfl)) ?_
      refine x_getfield rfl (by decide) xu_eq rfl ?_
      refine x_clt (t := 70) rfl rfl ⟨by omega, by omega⟩ ⟨by omega, by omega⟩ (fun hb59 => ?_) (fun hb59 => ?_)
      · have hjn : j < n := by omega
        refine x_iload_n rfl xst_eq ?_
        refine x_call [_] rfl rfl (show (0 : Nat) ≤ 8 from by decide) (show (1 : Nat) ≤ 1 from by decide) rfl (xs_67 (by split <;> omega)) (fun r' f' hP => ?_)
        obtain ⟨rfl, rfl⟩ := hP
        refine x_ifeq (t := 178) rfl rfl (by (repeat' split) <;> omega) (fun hb74 => ?_) (fun hb74 => ?_)
        · rw [if_pos hjn] at hb74
          have hnl : xlt (cs.getD j 0) = false := by
            cases hx : xlt (cs.getD j 0) with
            | false => rfl
            | true => rw [if_pos (xlt_iff.mp hx)] at hb74; exact absurd hb74 (by decide)
          refine x_iload_n rfl xst_eq ?_
          refine x_call [_] rfl rfl (show (0 : Nat) ≤ 8 from by decide) (show (1 : Nat) ≤ 1 from by decide) rfl (xs_68 (by split <;> omega)) (fun r' f' hP => ?_)
          obtain ⟨rfl, rfl⟩ := hP
          refine x_ifeq (t := 245) rfl rfl (by (repeat' split) <;> omega) (fun hb182 => ?_) (fun hb182 => ?_)
          · rw [if_pos hjn] at hb182
            have hnd : xdg (cs.getD j 0) = false := by
              cases hx : xdg (cs.getD j 0) with
              | false => rfl
              | true => rw [if_pos (xdg_iff.mp hx)] at hb182; exact absurd hb182 (by decide)
            rw [if_pos hjn]
            refine x_aload_n rfl (xst_ne (by decide) l0 (Or.inl rfl)) ?_
            refine x_iload_n rfl xst_eq ?_
            refine x_bipush rfl (by decide) ?_
            refine x_ceq (t := 276) rfl rfl ⟨by omega, by omega⟩ ⟨by omega, by omega⟩ (fun hb249 => ?_) (fun hb249 => ?_)
            · refine x_iconst rfl ?_
              refine x_goto (t := 281) rfl rfl ?_
              refine x_putfield rfl (by decide) xu_eq (show (4 : Nat) < 41 from by decide) rfl ?_
              refine x_aload_n rfl (xst_ne (by decide) l0 (Or.inl rfl)) ?_
              refine x_dup rfl ?_
              refine x_getfield rfl (by decide) xu_eq rfl ?_
              refine x_iconst rfl ?_
              refine x_iadd rfl ?_
              refine x_putfield rfl (by decide) xu_eq (show (6 : Nat) < 41 from by decide) rfl ?_
              refine x_return rfl ⟨_, _, rfl, rfl, ?_⟩
              exact ⟨rfl, ⟨3, j, j + 1, 3, wo, nu, xu_eq, ⟨hse, Or.inr (Or.inr (Or.inr ⟨hjn, hnl, hnd, rfl, rfl⟩))⟩, ⟨fun h => absurd h (by decide), fun h => absurd h (by decide), fun h => absurd rfl h, fun _ => Or.inl ⟨by unfold xsgn; omega, rfl⟩⟩⟩, fun p hp => xu_ne hp (xu_ne hp (xu_ne hp (hfr p hp)))⟩
            · refine x_iload_n rfl xst_eq ?_
              refine x_bipush rfl (by decide) ?_
              refine x_ceq (t := 276) rfl rfl ⟨by omega, by omega⟩ ⟨by omega, by omega⟩ (fun hb255 => ?_) (fun hb255 => ?_)
              · refine x_iconst rfl ?_
                refine x_goto (t := 281) rfl rfl ?_
                refine x_putfield rfl (by decide) xu_eq (show (4 : Nat) < 41 from by decide) rfl ?_
                refine x_aload_n rfl (xst_ne (by decide) l0 (Or.inl rfl)) ?_
                refine x_dup rfl ?_
                refine x_getfield rfl (by decide) xu_eq rfl ?_
                refine x_iconst rfl ?_
                refine x_iadd rfl ?_
                refine x_putfield rfl (by decide) xu_eq (show (6 : Nat) < 41 from by decide) rfl ?_
                refine x_return rfl ⟨_, _, rfl, rfl, ?_⟩
                exact ⟨rfl, ⟨3, j, j + 1, 3, wo, nu, xu_eq, ⟨hse, Or.inr (Or.inr (Or.inr ⟨hjn, hnl, hnd, rfl, rfl⟩))⟩, ⟨fun h => absurd h (by decide), fun h => absurd h (by decide), fun h => absurd rfl h, fun _ => Or.inl ⟨by unfold xsgn; omega, rfl⟩⟩⟩, fun p hp => xu_ne hp (xu_ne hp (xu_ne hp (hfr p hp)))⟩
              · refine x_iload_n rfl xst_eq ?_
                refine x_bipush rfl (by decide) ?_
                refine x_ceq (t := 276) rfl rfl ⟨by omega, by omega⟩ ⟨by omega, by omega⟩ (fun hb261 => ?_) (fun hb261 => ?_)
                · refine x_iconst rfl ?_
                  refine x_goto (t := 281) rfl rfl ?_
                  refine x_putfield rfl (by decide) xu_eq (show (4 : Nat) < 41 from by decide) rfl ?_
                  refine x_aload_n rfl (xst_ne (by decide) l0 (Or.inl rfl)) ?_
                  refine x_dup rfl ?_
                  refine x_getfield rfl (by decide) xu_eq rfl ?_
                  refine x_iconst rfl ?_
                  refine x_iadd rfl ?_
                  refine x_putfield rfl (by decide) xu_eq (show (6 : Nat) < 41 from by decide) rfl ?_
                  refine x_return rfl ⟨_, _, rfl, rfl, ?_⟩
                  exact ⟨rfl, ⟨3, j, j + 1, 3, wo, nu, xu_eq, ⟨hse, Or.inr (Or.inr (Or.inr ⟨hjn, hnl, hnd, rfl, rfl⟩))⟩, ⟨fun h => absurd h (by decide), fun h => absurd h (by decide), fun h => absurd rfl h, fun _ => Or.inl ⟨by unfold xsgn; omega, rfl⟩⟩⟩, fun p hp => xu_ne hp (xu_ne hp (xu_ne hp (hfr p hp)))⟩
                · refine x_iload_n rfl xst_eq ?_
                  refine x_bipush rfl (by decide) ?_
                  refine x_ceq (t := 276) rfl rfl ⟨by omega, by omega⟩ ⟨by omega, by omega⟩ (fun hb267 => ?_) (fun hb267 => ?_)
                  · refine x_iconst rfl ?_
                    refine x_goto (t := 281) rfl rfl ?_
                    refine x_putfield rfl (by decide) xu_eq (show (4 : Nat) < 41 from by decide) rfl ?_
                    refine x_aload_n rfl (xst_ne (by decide) l0 (Or.inl rfl)) ?_
                    refine x_dup rfl ?_
                    refine x_getfield rfl (by decide) xu_eq rfl ?_
                    refine x_iconst rfl ?_
                    refine x_iadd rfl ?_
                    refine x_putfield rfl (by decide) xu_eq (show (6 : Nat) < 41 from by decide) rfl ?_
                    refine x_return rfl ⟨_, _, rfl, rfl, ?_⟩
                    exact ⟨rfl, ⟨3, j, j + 1, 3, wo, nu, xu_eq, ⟨hse, Or.inr (Or.inr (Or.inr ⟨hjn, hnl, hnd, rfl, rfl⟩))⟩, ⟨fun h => absurd h (by decide), fun h => absurd h (by decide), fun h => absurd rfl h, fun _ => Or.inl ⟨by unfold xsgn; omega, rfl⟩⟩⟩, fun p hp => xu_ne hp (xu_ne hp (xu_ne hp (hfr p hp)))⟩
                  · refine x_iload_n rfl xst_eq ?_
                    refine x_bipush rfl (by decide) ?_
                    refine x_cne (t := 280) rfl rfl ⟨by omega, by omega⟩ ⟨by omega, by omega⟩ (fun hb273 => ?_) (fun hb273 => ?_)
                    · refine x_iconst rfl ?_
                      refine x_putfield rfl (by decide) xu_eq (show (4 : Nat) < 41 from by decide) rfl ?_
                      refine x_aload_n rfl (xst_ne (by decide) l0 (Or.inl rfl)) ?_
                      refine x_dup rfl ?_
                      refine x_getfield rfl (by decide) xu_eq rfl ?_
                      refine x_iconst rfl ?_
                      refine x_iadd rfl ?_
                      refine x_putfield rfl (by decide) xu_eq (show (6 : Nat) < 41 from by decide) rfl ?_
                      refine x_return rfl ⟨_, _, rfl, rfl, ?_⟩
                      exact ⟨rfl, ⟨3, j, j + 1, 4, wo, nu, xu_eq, ⟨hse, Or.inr (Or.inr (Or.inr ⟨hjn, hnl, hnd, rfl, rfl⟩))⟩, ⟨fun h => absurd h (by decide), fun h => absurd h (by decide), fun h => absurd rfl h, fun _ => Or.inr ⟨by unfold xsgn; omega, rfl⟩⟩⟩, fun p hp => xu_ne hp (xu_ne hp (xu_ne hp (hfr p hp)))⟩
                    · refine x_iconst rfl ?_
                      refine x_goto (t := 281) rfl rfl ?_
                      refine x_putfield rfl (by decide) xu_eq (show (4 : Nat) < 41 from by decide) rfl ?_
                      refine x_aload_n rfl (xst_ne (by decide) l0 (Or.inl rfl)) ?_
                      refine x_dup rfl ?_
                      refine x_getfield rfl (by decide) xu_eq rfl ?_
                      refine x_iconst rfl ?_
                      refine x_iadd rfl ?_
                      refine x_putfield rfl (by decide) xu_eq (show (6 : Nat) < 41 from by decide) rfl ?_
                      refine x_return rfl ⟨_, _, rfl, rfl, ?_⟩
                      exact ⟨rfl, ⟨3, j, j + 1, 3, wo, nu, xu_eq, ⟨hse, Or.inr (Or.inr (Or.inr ⟨hjn, hnl, hnd, rfl, rfl⟩))⟩, ⟨fun h => absurd h (by decide), fun h => absurd h (by decide), fun h => absurd rfl h, fun _ => Or.inl ⟨by unfold xsgn; omega, rfl⟩⟩⟩, fun p hp => xu_ne hp (xu_ne hp (xu_ne hp (hfr p hp)))⟩
          · rw [if_pos hjn] at hb182
            have hdg : xdg (cs.getD j 0) = true := by
              by_cases hx : 48 ≤ cs.getD j 0 ∧ cs.getD j 0 ≤ 57
              · exact xdg_iff.mpr hx
              · rw [if_neg hx] at hb182; exact absurd rfl hb182
            rw [if_pos hjn]
            refine x_aload_n rfl (xst_ne (by decide) l0 (Or.inl rfl)) ?_
            refine x_iconst rfl ?_
            refine x_putfield rfl (by decide) xu_eq (show (4 : Nat) < 41 from by decide) rfl ?_
            exact xs_69n hn hl hcs (xst_ne (by decide) l0 (Or.inl rfl)) xst_eq hse hjn hnl hdg (n - j) j _ (by omega) (Nat.le_refl _) (by omega) xu_eq (xu_ne (by decide) (xu_ne (by decide) h178)) rfl (fun p hp => xu_ne hp (xu_ne hp (hfr p hp)))
        · rw [if_pos hjn] at hb74
          have hlt : xlt (cs.getD j 0) = true := by
            by_cases hx : 97 ≤ cs.getD j 0 ∧ cs.getD j 0 ≤ 122
            · exact xlt_iff.mpr hx
            · rw [if_neg hx] at hb74; exact absurd rfl hb74
          refine x_aload_n rfl (xst_ne (by decide) l0 (Or.inl rfl)) ?_
          refine x_iconst rfl ?_
          refine x_putfield rfl (by decide) xu_eq (show (4 : Nat) < 41 from by decide) rfl ?_
          refine x_aload_n rfl (xst_ne (by decide) l0 (Or.inl rfl)) ?_
          refine x_lconst rfl ?_
          refine x_putfield rfl (by decide) xu_eq (show (7 : Nat) < 41 from by decide) rfl ?_
          exact xs_69w hn hl hcs (xst_ne (by decide) l0 (Or.inl rfl)) hse hjn hlt (n - j) j _ (by omega) (Nat.le_refl _) (by omega) (by rw [show xwd cs j j = some [] by unfold xwd xds; rw [if_neg (by omega), Nat.sub_self]; rfl]; exact xu_eq) (xu_ne (by decide) (xu_ne (by decide) (xu_ne (by decide) h178))) rfl (fun p hp => xu_ne hp (xu_ne hp (xu_ne hp (hfr p hp))))
      · refine x_aload_n rfl (xst_ne (by decide) l0 (Or.inl rfl)) ?_
        refine x_iconst rfl ?_
        refine x_putfield rfl (by decide) xu_eq (show (4 : Nat) < 41 from by decide) rfl ?_
        refine x_goto (t := 294) rfl rfl ?_
        refine x_return rfl ⟨_, _, rfl, rfl, ?_⟩
        exact ⟨rfl, ⟨0, j, j, 0, wo, nu, xu_eq, ⟨hse, Or.inl ⟨by omega, rfl, by omega⟩⟩, ⟨fun h => absurd h (by decide), fun h => absurd h (by decide), fun _ => rfl, fun h => absurd h (by decide)⟩⟩, fun p hp => xu_ne hp (xu_ne hp (hfr p hp))⟩
    · have hjn : j < n := by
        by_cases hx : j < n
        · exact hx
        · rw [if_neg hx] at hb18; omega
      rw [if_pos hjn] at hb18
      refine x_aload_n rfl l0 ?_
      refine x_dup rfl ?_
      refine x_getfield rfl (by decide) h177 rfl ?_
      refine x_iconst rfl ?_
      refine x_iadd rfl ?_
      refine x_putfield rfl (by decide) h177 (show (5 : Nat) < 41 from by decide) rfl ?_
      refine x_goto (t := 8) rfl rfl ?_
      refine ih (j + 1) _ (by omega) (by omega) ?_ ?_ ?_ ?_
      · exact xu_eq
      · exact (xu_ne (by decide) h178)
      · rw [← xskip_s (by omega) (xbl_iff.mpr hb18)]; exact hsk
      · intro p hp; exact xu_ne hp (hfr p hp)
theorem xs_69 {v0 : Value} {xs : List Int32} {u : Nat × Nat} {f : Nat → zE} {n p0 : Nat} {cs : List Int} {cd fa ki be nu ca pa op : Int} {wo : Int64} {q : Nat → Value} (h177 : f 177 = xmo cd (n : Nat) fa ki be (p0 : Nat) wo nu ca pa op q) (h178 : f 178 = xr 1 cs) (hn : n ≤ 100) (hl : cs.length = 100) (hcs : ∀ j : Nat, 0 ≤ cs.getD j 0 ∧ cs.getD j 0 ≤ 126) (hp0 : p0 ≤ n) : xq v0 xs u 69 [(0, .ref 177)] f (fun r f' => r = none ∧ (∃ (ki : Int) (s e : Nat) (kM : Int) (wo' : Int64) (nu' : Int), f' 177 = xmo cd (n : Nat) fa kM (s : Nat) (e : Nat) wo' nu' ca pa op q ∧ xTK cs n p0 ki s e ∧ xTM cs ki s e kM wo' nu') ∧ ∀ p, p ≠ 177 → f' p = f p) := by
  unfold xq
  refine x_aload_n rfl rfl ?_
  refine x_aload_n rfl rfl ?_
  refine x_getfield rfl (by decide) h177 rfl ?_
  refine x_putfield rfl (by decide) h177 (show (5 : Nat) < 41 from by decide) rfl ?_
  exact xs_69l hn hl hcs rfl (n - p0) p0 _ (by omega) hp0 xu_eq (xu_ne (by decide) h178) rfl (fun p hp => xu_ne hp rfl)
theorem xs_70 {v0 : Value} {xs : List Int32} {u : Nat × Nat} {f : Nat → zE} (k : Nat) (hk : k < 13) : xq v0 xs u 70 [(0, xi (k : Nat))] f (fun r f' => r = some (.long (Int64.ofInt (xpr (selW.getD k [])))) ∧ f' = f) := by
  unfold xq
  match k, hk with
  | 0, _ => exact x_iload_n rfl rfl (x_sw (t := 68) rfl (by decide) rfl rfl (x_ldc2 rfl (x_lreturn rfl ⟨_, _, rfl, rfl, rfl, rfl⟩)))
  | 1, _ => exact x_iload_n rfl rfl (x_sw (t := 72) rfl (by decide) rfl rfl (x_ldc2 rfl (x_lreturn rfl ⟨_, _, rfl, rfl, rfl, rfl⟩)))
  | 2, _ => exact x_iload_n rfl rfl (x_sw (t := 76) rfl (by decide) rfl rfl (x_ldc2 rfl (x_lreturn rfl ⟨_, _, rfl, rfl, rfl, rfl⟩)))
  | 3, _ => exact x_iload_n rfl rfl (x_sw (t := 80) rfl (by decide) rfl rfl (x_ldc2 rfl (x_lreturn rfl ⟨_, _, rfl, rfl, rfl, rfl⟩)))
  | 4, _ => exact x_iload_n rfl rfl (x_sw (t := 84) rfl (by decide) rfl rfl (x_ldc2 rfl (x_lreturn rfl ⟨_, _, rfl, rfl, rfl, rfl⟩)))
  | 5, _ => exact x_iload_n rfl rfl (x_sw (t := 88) rfl (by decide) rfl rfl (x_ldc2 rfl (x_lreturn rfl ⟨_, _, rfl, rfl, rfl, rfl⟩)))
  | 6, _ => exact x_iload_n rfl rfl (x_sw (t := 92) rfl (by decide) rfl rfl (x_ldc2 rfl (x_lreturn rfl ⟨_, _, rfl, rfl, rfl, rfl⟩)))
  | 7, _ => exact x_iload_n rfl rfl (x_sw (t := 96) rfl (by decide) rfl rfl (x_ldc2 rfl (x_lreturn rfl ⟨_, _, rfl, rfl, rfl, rfl⟩)))
  | 8, _ => exact x_iload_n rfl rfl (x_sw (t := 100) rfl (by decide) rfl rfl (x_ldc2 rfl (x_lreturn rfl ⟨_, _, rfl, rfl, rfl, rfl⟩)))
  | 9, _ => exact x_iload_n rfl rfl (x_sw (t := 104) rfl (by decide) rfl rfl (x_ldc2 rfl (x_lreturn rfl ⟨_, _, rfl, rfl, rfl, rfl⟩)))
  | 10, _ => exact x_iload_n rfl rfl (x_sw (t := 108) rfl (by decide) rfl rfl (x_ldc2 rfl (x_lreturn rfl ⟨_, _, rfl, rfl, rfl, rfl⟩)))
  | 11, _ => exact x_iload_n rfl rfl (x_sw (t := 112) rfl (by decide) rfl rfl (x_ldc2 rfl (x_lreturn rfl ⟨_, _, rfl, rfl, rfl, rfl⟩)))
  | 12, _ => exact x_iload_n rfl rfl (x_sw (t := 116) rfl (by decide) rfl rfl (x_ldc2 rfl (x_lreturn rfl ⟨_, _, rfl, rfl, rfl, rfl⟩)))
theorem xs_72 {v0 : Value} {xs : List Int32} {u : Nat × Nat} {f : Nat → zE} (k : Nat) (hk : k < 7) : xq v0 xs u 72 [(0, xi (k : Nat))] f (fun r f' => r = some (.long (Int64.ofInt (xpr (atW.getD k [])))) ∧ f' = f) := by
  unfold xq
  match k, hk with
  | 0, _ => exact x_iload_n rfl rfl (x_sw (t := 44) rfl (by decide) rfl rfl (x_ldc2 rfl (x_lreturn rfl ⟨_, _, rfl, rfl, rfl, rfl⟩)))
  | 1, _ => exact x_iload_n rfl rfl (x_sw (t := 48) rfl (by decide) rfl rfl (x_ldc2 rfl (x_lreturn rfl ⟨_, _, rfl, rfl, rfl, rfl⟩)))
  | 2, _ => exact x_iload_n rfl rfl (x_sw (t := 52) rfl (by decide) rfl rfl (x_ldc2 rfl (x_lreturn rfl ⟨_, _, rfl, rfl, rfl, rfl⟩)))
  | 3, _ => exact x_iload_n rfl rfl (x_sw (t := 56) rfl (by decide) rfl rfl (x_ldc2 rfl (x_lreturn rfl ⟨_, _, rfl, rfl, rfl, rfl⟩)))
  | 4, _ => exact x_iload_n rfl rfl (x_sw (t := 60) rfl (by decide) rfl rfl (x_ldc2 rfl (x_lreturn rfl ⟨_, _, rfl, rfl, rfl, rfl⟩)))
  | 5, _ => exact x_iload_n rfl rfl (x_sw (t := 64) rfl (by decide) rfl rfl (x_ldc2 rfl (x_lreturn rfl ⟨_, _, rfl, rfl, rfl, rfl⟩)))
  | 6, _ => exact x_iload_n rfl rfl (x_sw (t := 68) rfl (by decide) rfl rfl (x_ldc2 rfl (x_lreturn rfl ⟨_, _, rfl, rfl, rfl, rfl⟩)))
/-- the last of the first k words that a word is -/
def xla (wd : Option (List Int)) (l : List (List Int)) : Nat → Int
  | 0 => -1
  | k + 1 => if wd = some (l.getD k []) then (k : Nat) else xla wd l k
theorem xla_rg {wd : Option (List Int)} {l : List (List Int)} : ∀ k, -1 ≤ xla wd l k ∧ xla wd l k < (k : Nat) := by
  intro k
  induction k with
  | zero => exact ⟨Int.le_refl _, show (-1 : Int) < 0 by decide⟩
  | succ k ih =>
    simp only [xla]
    split <;> omega
theorem xfi_at {wd : Option (List Int)} : ∀ {l : List (List Int)} {i : Int} {k : Nat} (hk : k < l.length), l.Nodup → wd = some l[k] → xfi wd l i = i + k := by
  intro l
  induction l with
  | nil => intro i k hk; exact absurd hk (Nat.not_lt_zero _)
  | cons w r ih =>
    intro i k hk hn he
    simp only [xfi]
    cases k with
    | zero =>
      rw [if_pos (show wd = some w from he)]
      omega
    | succ k =>
      have hk' : k < r.length := by simpa using hk
      have e : wd = some r[k] := he
      have hne : ¬ wd = some w := by
        intro h
        rw [h] at e
        have := (List.nodup_cons.mp hn).1
        rw [Option.some.inj e] at this
        exact this (List.getElem_mem hk')
      rw [if_neg hne, ih hk' (List.nodup_cons.mp hn).2 e]
      omega
theorem xfi_no {wd : Option (List Int)} : ∀ {l : List (List Int)} {i : Int}, (∀ w ∈ l, wd ≠ some w) → xfi wd l i = -1 := by
  intro l
  induction l with
  | nil => intro i _; rfl
  | cons w r ih =>
    intro i h
    simp only [xfi]
    rw [if_neg (h w (by simp)), ih (fun v hv => h v (by simp [hv]))]
theorem xla_no {wd : Option (List Int)} {l : List (List Int)} : ∀ {k : Nat}, xla wd l k = -1 → ∀ j, j < k → wd ≠ some (l.getD j []) := by
  intro k
  induction k with
  | zero => intro _ j hj; exact absurd hj (Nat.not_lt_zero _)
  | succ k ih =>
    intro h j hj
    simp only [xla] at h
    split at h
    · omega
    · rename_i hne
      by_cases e : j = k
      · subst e; exact hne
      · exact ih h j (by omega)
theorem xla_at {wd : Option (List Int)} {l : List (List Int)} : ∀ {k : Nat}, xla wd l k ≠ -1 → ∃ j, j < k ∧ xla wd l k = (j : Nat) ∧ wd = some (l.getD j []) := by
  intro k
  induction k with
  | zero => intro h; exact absurd rfl h
  | succ k ih =>
    intro h
    simp only [xla] at h ⊢
    split
    · rename_i he
      exact ⟨k, by omega, rfl, he⟩
    · rename_i hne
      rw [if_neg hne] at h
      obtain ⟨j, h1, h2, h3⟩ := ih h
      exact ⟨j, by omega, h2, h3⟩
theorem xla_xfi {wd : Option (List Int)} {l : List (List Int)} (hn : l.Nodup) : xla wd l l.length = xfi wd l 0 := by
  by_cases h : xla wd l l.length = -1
  · rw [h, xfi_no]
    intro w hw e
    obtain ⟨j, hj, rfl⟩ := List.getElem_of_mem hw
    refine xla_no h j hj ?_
    rw [List.getD_eq_getElem?_getD, List.getElem?_eq_getElem hj]
    exact e
  · obtain ⟨j, h1, h2, h3⟩ := xla_at h
    rw [h2, xfi_at (i := 0) h1 hn (by rw [h3, List.getD_eq_getElem?_getD, List.getElem?_eq_getElem h1]; rfl)]
    omega
theorem selW_nd : selW.Nodup := by decide
theorem atW_nd : atW.Nodup := by decide
theorem xs_71l {v0 : Value} {xs : List Int32} {u : Nat × Nat} {f : Nat → zE} {n : Nat} {wd : Option (List Int)} {cd fa ki be en nu ca pa op : Int} {wo : Int64} {q : Nat → Value} (h177 : f 177 = xmo cd (n : Nat) fa ki be en wo nu ca pa op q) (hki : 0 ≤ ki ∧ ki ≤ 9) (hwd : xwo wd) (hwo : ki = 1 → wo = Int64.ofInt (xwR wd)) : ∀ (d k : Nat) (lv : zL), d + k = 13 → zlv lv 0 = some (.ref 177) → zlv lv 1 = some (xi (if ki = 1 then xla wd selW k else -1)) → zlv lv 2 = some (xi (k : Nat)) → xz v0 xs u (fun o X => ∃ r f', o = .inl r ∧ X = (xh f', u) ∧ (fun r f' => r = some (xi (if ki = 1 then xfi wd selW 0 else -1)) ∧ f' = f) r f') 71 4 lv [] f := by
  intro d
  induction d with
  | zero =>
    intro k lv hd l0 l1 l2
    refine x_iload_n rfl l2 ?_
    refine x_bipush rfl (by decide) ?_
    refine x_cge (t := 42) rfl rfl ⟨by omega, by omega⟩ ⟨by omega, by omega⟩ (fun hb7 => ?_) (fun hb7 => ?_)
    · refine x_iload_n rfl l1 ?_
      refine x_ireturn rfl (Or.inl rfl) ⟨_, _, rfl, rfl, ?_⟩
      exact ⟨by rw [show k = 13 by omega]; rw [← xla_xfi selW_nd]; rfl, rfl⟩
    · exfalso; omega
  | succ d ih =>
    intro k lv hd l0 l1 l2
    refine x_iload_n rfl l2 ?_
    refine x_bipush rfl (by decide) ?_
    refine x_cge (t := 42) rfl rfl ⟨by omega, by omega⟩ ⟨by omega, by omega⟩ (fun hb7 => ?_) (fun hb7 => ?_)
    · exfalso; omega
    · refine x_aload_n rfl l0 ?_
      refine x_getfield rfl (by decide) h177 rfl ?_
      refine x_iconst rfl ?_
      refine x_cne (t := 34) rfl rfl ⟨by omega, by omega⟩ ⟨by omega, by omega⟩ (fun hb15 => ?_) (fun hb15 => ?_)
      · refine x_iload_n rfl l1 ?_
        refine x_istore_n rfl (show (1 : Nat) < 3 from by decide) ?_
        refine x_iinc rfl (xst_ne (by decide) l2 (Or.inl rfl)) (show (2 : Nat) < 3 from by decide) ?_
        refine x_goto (t := 4) rfl rfl ?_
        exact ih (k + 1) _ (by omega) (xst_ne (by decide) (xst_ne (by decide) l0 (Or.inl rfl)) (Or.inl rfl)) (by simp only [if_neg hb15]; exact (xst_ne (by decide) xst_eq (Or.inl rfl))) xst_eq
      · have hwo2 := hwo hb15
        subst hwo2
        have hwk : Int64.ofInt (xwR wd) = Int64.ofInt (xpr (selW.getD k [])) ↔ wd = some (selW.getD k []) := xw_R hwd (selW_wf _ (by rw [List.getD_eq_getElem?_getD, List.getElem?_eq_getElem (show k < selW.length from (by omega : k < 13))]; exact List.getElem_mem _))
        refine x_aload_n rfl l0 ?_
        refine x_getfield rfl (by decide) h177 rfl ?_
        refine x_iload_n rfl l2 ?_
        refine x_call [_] rfl rfl (show (2 : Nat) ≤ 8 from by decide) (show (1 : Nat) ≤ 1 from by decide) rfl (xs_70 k (by omega)) (fun r' f' hP => ?_)
        obtain ⟨rfl, rfl⟩ := hP
        refine x_lcmp rfl ?_
        refine x_lne (t := 34) rfl rfl (fun hb27 => ?_) (fun hb27 => ?_)
        · refine x_iload_n rfl l1 ?_
          refine x_istore_n rfl (show (1 : Nat) < 3 from by decide) ?_
          refine x_iinc rfl (xst_ne (by decide) l2 (Or.inl rfl)) (show (2 : Nat) < 3 from by decide) ?_
          refine x_goto (t := 4) rfl rfl ?_
          have e0 : xla wd selW (k + 1) = xla wd selW k := by
            simp only [xla]
            rw [if_neg (fun h => hb27 (hwk.mpr h))]
          exact ih (k + 1) _ (by omega) (xst_ne (by decide) (xst_ne (by decide) l0 (Or.inl rfl)) (Or.inl rfl)) (by rw [e0]; exact (xst_ne (by decide) xst_eq (Or.inl rfl))) xst_eq
        · refine x_iload_n rfl l2 ?_
          refine x_goto (t := 35) rfl rfl ?_
          refine x_istore_n rfl (show (1 : Nat) < 3 from by decide) ?_
          refine x_iinc rfl (xst_ne (by decide) l2 (Or.inl rfl)) (show (2 : Nat) < 3 from by decide) ?_
          refine x_goto (t := 4) rfl rfl ?_
          have e0 : xla wd selW (k + 1) = (k : Nat) := by
            simp only [xla]
            rw [if_pos (hwk.mp hb27)]
          exact ih (k + 1) _ (by omega) (xst_ne (by decide) (xst_ne (by decide) l0 (Or.inl rfl)) (Or.inl rfl)) (by rw [e0, if_pos hb15]; exact (xst_ne (by decide) xst_eq (Or.inl rfl))) xst_eq
theorem xs_71 {v0 : Value} {xs : List Int32} {u : Nat × Nat} {f : Nat → zE} {n : Nat} {wd : Option (List Int)} {cd fa ki be en nu ca pa op : Int} {wo : Int64} {q : Nat → Value} (h177 : f 177 = xmo cd (n : Nat) fa ki be en wo nu ca pa op q) (hki : 0 ≤ ki ∧ ki ≤ 9) (hwd : xwo wd) (hwo : ki = 1 → wo = Int64.ofInt (xwR wd))  : xq v0 xs u 71 [(0, .ref 177)] f (fun r f' => r = some (xi (if ki = 1 then xfi wd selW 0 else -1)) ∧ f' = f) := by
  unfold xq
  refine x_iconst rfl ?_
  refine x_istore_n rfl (show (1 : Nat) < 3 from by decide) ?_
  refine x_iconst rfl ?_
  refine x_istore_n rfl (show (2 : Nat) < 3 from by decide) ?_
  exact xs_71l h177 hki hwd hwo 13 0 _ rfl (xst_ne (by decide) (xst_ne (by decide) rfl (Or.inl rfl)) (Or.inl rfl)) (by simp only [xla]; split <;> exact (xst_ne (by decide) xst_eq (Or.inl rfl))) xst_eq
theorem xs_73l {v0 : Value} {xs : List Int32} {u : Nat × Nat} {f : Nat → zE} {n : Nat} {wd : Option (List Int)} {cd fa ki be en nu ca pa op : Int} {wo : Int64} {q : Nat → Value} (h177 : f 177 = xmo cd (n : Nat) fa ki be en wo nu ca pa op q) (hki : 0 ≤ ki ∧ ki ≤ 9) (hwd : xwo wd) (hwo : ki = 1 → wo = Int64.ofInt (xwR wd)) : ∀ (d k : Nat) (lv : zL), d + k = 7 → zlv lv 0 = some (.ref 177) → zlv lv 1 = some (xi (if ki = 1 then xla wd atW k else -1)) → zlv lv 2 = some (xi (k : Nat)) → xz v0 xs u (fun o X => ∃ r f', o = .inl r ∧ X = (xh f', u) ∧ (fun r f' => r = some (xi (if ki = 1 then xfi wd atW 0 else -1)) ∧ f' = f) r f') 73 4 lv [] f := by
  intro d
  induction d with
  | zero =>
    intro k lv hd l0 l1 l2
    refine x_iload_n rfl l2 ?_
    refine x_bipush rfl (by decide) ?_
    refine x_cge (t := 42) rfl rfl ⟨by omega, by omega⟩ ⟨by omega, by omega⟩ (fun hb7 => ?_) (fun hb7 => ?_)
    · refine x_iload_n rfl l1 ?_
      refine x_ireturn rfl (Or.inl rfl) ⟨_, _, rfl, rfl, ?_⟩
      exact ⟨by rw [show k = 7 by omega]; rw [← xla_xfi atW_nd]; rfl, rfl⟩
    · exfalso; omega
  | succ d ih =>
    intro k lv hd l0 l1 l2
    refine x_iload_n rfl l2 ?_
    refine x_bipush rfl (by decide) ?_
    refine x_cge (t := 42) rfl rfl ⟨by omega, by omega⟩ ⟨by omega, by omega⟩ (fun hb7 => ?_) (fun hb7 => ?_)
    · exfalso; omega
    · refine x_aload_n rfl l0 ?_
      refine x_getfield rfl (by decide) h177 rfl ?_
      refine x_iconst rfl ?_
      refine x_cne (t := 34) rfl rfl ⟨by omega, by omega⟩ ⟨by omega, by omega⟩ (fun hb15 => ?_) (fun hb15 => ?_)
      · refine x_iload_n rfl l1 ?_
        refine x_istore_n rfl (show (1 : Nat) < 3 from by decide) ?_
        refine x_iinc rfl (xst_ne (by decide) l2 (Or.inl rfl)) (show (2 : Nat) < 3 from by decide) ?_
        refine x_goto (t := 4) rfl rfl ?_
        exact ih (k + 1) _ (by omega) (xst_ne (by decide) (xst_ne (by decide) l0 (Or.inl rfl)) (Or.inl rfl)) (by simp only [if_neg hb15]; exact (xst_ne (by decide) xst_eq (Or.inl rfl))) xst_eq
      · have hwo2 := hwo hb15
        subst hwo2
        have hwk : Int64.ofInt (xwR wd) = Int64.ofInt (xpr (atW.getD k [])) ↔ wd = some (atW.getD k []) := xw_R hwd (atW_wf _ (by rw [List.getD_eq_getElem?_getD, List.getElem?_eq_getElem (show k < atW.length from (by omega : k < 7))]; exact List.getElem_mem _))
        refine x_aload_n rfl l0 ?_
        refine x_getfield rfl (by decide) h177 rfl ?_
        refine x_iload_n rfl l2 ?_
        refine x_call [_] rfl rfl (show (2 : Nat) ≤ 8 from by decide) (show (1 : Nat) ≤ 1 from by decide) rfl (xs_72 k (by omega)) (fun r' f' hP => ?_)
        obtain ⟨rfl, rfl⟩ := hP
        refine x_lcmp rfl ?_
        refine x_lne (t := 34) rfl rfl (fun hb27 => ?_) (fun hb27 => ?_)
        · refine x_iload_n rfl l1 ?_
          refine x_istore_n rfl (show (1 : Nat) < 3 from by decide) ?_
          refine x_iinc rfl (xst_ne (by decide) l2 (Or.inl rfl)) (show (2 : Nat) < 3 from by decide) ?_
          refine x_goto (t := 4) rfl rfl ?_
          have e0 : xla wd atW (k + 1) = xla wd atW k := by
            simp only [xla]
            rw [if_neg (fun h => hb27 (hwk.mpr h))]
          exact ih (k + 1) _ (by omega) (xst_ne (by decide) (xst_ne (by decide) l0 (Or.inl rfl)) (Or.inl rfl)) (by rw [e0]; exact (xst_ne (by decide) xst_eq (Or.inl rfl))) xst_eq
        · refine x_iload_n rfl l2 ?_
          refine x_goto (t := 35) rfl rfl ?_
          refine x_istore_n rfl (show (1 : Nat) < 3 from by decide) ?_
          refine x_iinc rfl (xst_ne (by decide) l2 (Or.inl rfl)) (show (2 : Nat) < 3 from by decide) ?_
          refine x_goto (t := 4) rfl rfl ?_
          have e0 : xla wd atW (k + 1) = (k : Nat) := by
            simp only [xla]
            rw [if_pos (hwk.mp hb27)]
          exact ih (k + 1) _ (by omega) (xst_ne (by decide) (xst_ne (by decide) l0 (Or.inl rfl)) (Or.inl rfl)) (by rw [e0, if_pos hb15]; exact (xst_ne (by decide) xst_eq (Or.inl rfl))) xst_eq
theorem xs_73 {v0 : Value} {xs : List Int32} {u : Nat × Nat} {f : Nat → zE} {n : Nat} {wd : Option (List Int)} {cd fa ki be en nu ca pa op : Int} {wo : Int64} {q : Nat → Value} (h177 : f 177 = xmo cd (n : Nat) fa ki be en wo nu ca pa op q) (hki : 0 ≤ ki ∧ ki ≤ 9) (hwd : xwo wd) (hwo : ki = 1 → wo = Int64.ofInt (xwR wd))  : xq v0 xs u 73 [(0, .ref 177)] f (fun r f' => r = some (xi (if ki = 1 then xfi wd atW 0 else -1)) ∧ f' = f) := by
  unfold xq
  refine x_iconst rfl ?_
  refine x_istore_n rfl (show (1 : Nat) < 3 from by decide) ?_
  refine x_iconst rfl ?_
  refine x_istore_n rfl (show (2 : Nat) < 3 from by decide) ?_
  exact xs_73l h177 hki hwd hwo 7 0 _ rfl (xst_ne (by decide) (xst_ne (by decide) rfl (Or.inl rfl)) (Or.inl rfl)) (by simp only [xla]; split <;> exact (xst_ne (by decide) xst_eq (Or.inl rfl))) xst_eq
theorem xs_74l {v0 : Value} {xs : List Int32} {u : Nat × Nat} {f : Nat → zE} {n : Nat} {wd : Option (List Int)} {nl : List Int64} {nms : List (List Int)} {cd fa ki be en nu ca pa op : Int} {wo : Int64} {q : Nat → Value} (h177 : f 177 = xmo cd (n : Nat) fa ki be en wo nu ca pa op q) (hki : 0 ≤ ki ∧ ki ≤ 9) (hwd : xwo wd) (hwo : ki = 1 → wo = Int64.ofInt (xwR wd)) (h179 : f 179 = .inr (.inr (.inl nl))) (hlen : nl.length = 13) (hcl : nms.length ≤ 12) (hca : ca = (nms.length : Nat)) (hw : ∀ w ∈ nms, xwf w) (hnl : ∀ k, k < nms.length → nl.getD k 0 = Int64.ofInt (xpr (nms.getD k []))) (hnd : nms.Nodup) : ∀ (d k : Nat) (lv : zL), d + k = nms.length → zlv lv 0 = some (.ref 177) → zlv lv 1 = some (xi (if ki = 1 then xla wd nms k else -1)) → zlv lv 2 = some (xi (k : Nat)) → xz v0 xs u (fun o X => ∃ r f', o = .inl r ∧ X = (xh f', u) ∧ (fun r f' => r = some (xi (if ki = 1 then xfi wd nms 0 else -1)) ∧ f' = f) r f') 74 4 lv [] f := by
  intro d
  induction d with
  | zero =>
    intro k lv hd l0 l1 l2
    refine x_iload_n rfl l2 ?_
    refine x_aload_n rfl l0 ?_
    refine x_getfield rfl (by decide) h177 rfl ?_
    refine x_cge (t := 46) rfl rfl ⟨by omega, by omega⟩ ⟨by omega, by omega⟩ (fun hb9 => ?_) (fun hb9 => ?_)
    · refine x_iload_n rfl l1 ?_
      refine x_ireturn rfl (Or.inl rfl) ⟨_, _, rfl, rfl, ?_⟩
      exact ⟨by rw [show k = nms.length by omega]; rw [← xla_xfi hnd], rfl⟩
    · exfalso; omega
  | succ d ih =>
    intro k lv hd l0 l1 l2
    refine x_iload_n rfl l2 ?_
    refine x_aload_n rfl l0 ?_
    refine x_getfield rfl (by decide) h177 rfl ?_
    refine x_cge (t := 46) rfl rfl ⟨by omega, by omega⟩ ⟨by omega, by omega⟩ (fun hb9 => ?_) (fun hb9 => ?_)
    · exfalso; omega
    · refine x_aload_n rfl l0 ?_
      refine x_getfield rfl (by decide) h177 rfl ?_
      refine x_iconst rfl ?_
      refine x_cne (t := 38) rfl rfl ⟨by omega, by omega⟩ ⟨by omega, by omega⟩ (fun hb17 => ?_) (fun hb17 => ?_)
      · refine x_iload_n rfl l1 ?_
        refine x_istore_n rfl (show (1 : Nat) < 3 from by decide) ?_
        refine x_iinc rfl (xst_ne (by decide) l2 (Or.inl rfl)) (show (2 : Nat) < 3 from by decide) ?_
        refine x_goto (t := 4) rfl rfl ?_
        exact ih (k + 1) _ (by omega) (xst_ne (by decide) (xst_ne (by decide) l0 (Or.inl rfl)) (Or.inl rfl)) (by simp only [if_neg hb17]; exact (xst_ne (by decide) xst_eq (Or.inl rfl))) xst_eq
      · have hwo2 := hwo hb17
        subst hwo2
        have hwk : Int64.ofInt (xwR wd) = nl.getD k 0 ↔ wd = some (nms.getD k []) := by rw [hnl k (by omega)]; exact xw_R hwd (hw _ (by rw [List.getD_eq_getElem?_getD, List.getElem?_eq_getElem (show k < nms.length by omega)]; exact List.getElem_mem _))
        refine x_aload_n rfl l0 ?_
        refine x_getfield rfl (by decide) h177 rfl ?_
        refine x_aload_n rfl l0 ?_
        refine x_getfield rfl (by decide) h177 rfl ?_
        refine x_iload_n rfl l2 ?_
        refine x_laload rfl (by decide) h179 ⟨by omega, by omega⟩ (by omega) ?_
        rw [Int.toNat_natCast]
        refine x_lcmp rfl ?_
        refine x_lne (t := 38) rfl rfl (fun hb31 => ?_) (fun hb31 => ?_)
        · refine x_iload_n rfl l1 ?_
          refine x_istore_n rfl (show (1 : Nat) < 3 from by decide) ?_
          refine x_iinc rfl (xst_ne (by decide) l2 (Or.inl rfl)) (show (2 : Nat) < 3 from by decide) ?_
          refine x_goto (t := 4) rfl rfl ?_
          have e0 : xla wd nms (k + 1) = xla wd nms k := by
            simp only [xla]
            rw [if_neg (fun h => hb31 (hwk.mpr h))]
          exact ih (k + 1) _ (by omega) (xst_ne (by decide) (xst_ne (by decide) l0 (Or.inl rfl)) (Or.inl rfl)) (by rw [e0]; exact (xst_ne (by decide) xst_eq (Or.inl rfl))) xst_eq
        · refine x_iload_n rfl l2 ?_
          refine x_goto (t := 39) rfl rfl ?_
          refine x_istore_n rfl (show (1 : Nat) < 3 from by decide) ?_
          refine x_iinc rfl (xst_ne (by decide) l2 (Or.inl rfl)) (show (2 : Nat) < 3 from by decide) ?_
          refine x_goto (t := 4) rfl rfl ?_
          have e0 : xla wd nms (k + 1) = (k : Nat) := by
            simp only [xla]
            rw [if_pos (hwk.mp hb31)]
          exact ih (k + 1) _ (by omega) (xst_ne (by decide) (xst_ne (by decide) l0 (Or.inl rfl)) (Or.inl rfl)) (by rw [e0, if_pos hb17]; exact (xst_ne (by decide) xst_eq (Or.inl rfl))) xst_eq
theorem xs_74 {v0 : Value} {xs : List Int32} {u : Nat × Nat} {f : Nat → zE} {n : Nat} {wd : Option (List Int)} {nl : List Int64} {nms : List (List Int)} {cd fa ki be en nu ca pa op : Int} {wo : Int64} {q : Nat → Value} (h177 : f 177 = xmo cd (n : Nat) fa ki be en wo nu ca pa op q) (hki : 0 ≤ ki ∧ ki ≤ 9) (hwd : xwo wd) (hwo : ki = 1 → wo = Int64.ofInt (xwR wd)) (h179 : f 179 = .inr (.inr (.inl nl))) (hlen : nl.length = 13) (hcl : nms.length ≤ 12) (hca : ca = (nms.length : Nat)) (hw : ∀ w ∈ nms, xwf w) (hnl : ∀ k, k < nms.length → nl.getD k 0 = Int64.ofInt (xpr (nms.getD k []))) (hnd : nms.Nodup)  : xq v0 xs u 74 [(0, .ref 177)] f (fun r f' => r = some (xi (if ki = 1 then xfi wd nms 0 else -1)) ∧ f' = f) := by
  unfold xq
  refine x_iconst rfl ?_
  refine x_istore_n rfl (show (1 : Nat) < 3 from by decide) ?_
  refine x_iconst rfl ?_
  refine x_istore_n rfl (show (2 : Nat) < 3 from by decide) ?_
  exact xs_74l h177 hki hwd hwo h179 hlen hcl hca hw hnl hnd nms.length 0 _ rfl (xst_ne (by decide) (xst_ne (by decide) rfl (Or.inl rfl)) (Or.inl rfl)) (by simp only [xla]; split <;> exact (xst_ne (by decide) xst_eq (Or.inl rfl))) xst_eq
