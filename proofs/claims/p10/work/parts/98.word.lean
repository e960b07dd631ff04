/-! The given texts; the words. -/
def zi5 : List Int := [97, 108, 108, 32, 108, 101, 97, 100, 115, 32, 102, 111, 108, 108, 111, 119, 115, 32, 104, 101, 97, 100, 115, 32, 115, 105, 100, 101, 115, 32, 110, 111, 114, 116, 104, 32, 101, 97, 115, 116, 32, 115, 111, 117, 116, 104, 32, 119, 101, 115, 116, 32, 99, 101, 110, 116, 114, 101, 115, 32, 101, 110, 100, 115, 32, 102, 114, 111, 110, 116, 32, 114, 101, 97, 114]
def zi6 : List Int := [115, 116, 97, 121, 32, 102, 119, 100, 32, 98, 97, 99, 107, 32, 108, 101, 102, 116, 32, 114, 105, 103, 104, 116, 32, 116, 108, 32, 116, 114]
theorem zi5_eq : zg5 = zi5.map Int32.ofInt := by decide +kernel
theorem zi6_eq : zg6 = zi6.map Int32.ofInt := by decide +kernel
/-- the two texts, by the place of the object: its bytes' place, its characters -/
def xgt (p : Nat) : Nat × List Int := if p = 5 then (7, zi5) else (8, zi6)
theorem xgt_o {xs : List Int32} {p : Nat} (h : p = 5 ∨ p = 6) : (zG xs)[p]? = some (.inl (99, [.ref (xgt p).1, xi 0])) := by
  rcases h with rfl | rfl <;> rfl
theorem xgt_b {xs : List Int32} {p : Nat} (h : p = 5 ∨ p = 6) : (zG xs)[(xgt p).1]? = some (.inr (.inl (3, (xgt p).2.map Int32.ofInt))) := by
  rcases h with rfl | rfl
  · show some (Sum.inr (Sum.inl (3, zg5)) : zE) = _
    rw [zi5_eq]
    rfl
  · show some (Sum.inr (Sum.inl (3, zg6)) : zE) = _
    rw [zi6_eq]
    rfl
theorem xgt_p {p : Nat} (h : p = 5 ∨ p = 6) : (xgt p).1 < 50 := by
  rcases h with rfl | rfl <;> decide
theorem xgt_l {p : Nat} (h : p = 5 ∨ p = 6) : (xgt p).2.length ≤ 75 := by
  rcases h with rfl | rfl <;> decide
theorem xgt_c {p : Nat} (h : p = 5 ∨ p = 6) : ∀ j : Nat, 0 ≤ (xgt p).2.getD j 0 ∧ (xgt p).2.getD j 0 ≤ 122 := by
  have key : ∀ l : List Int, (l.all fun c => decide (0 ≤ c) && decide (c ≤ 122)) = true → ∀ j : Nat, 0 ≤ l.getD j 0 ∧ l.getD j 0 ≤ 122 := by
    intro l hl j
    rw [List.getD_eq_getElem?_getD]
    cases hj : l[j]? with
    | none => exact ⟨by decide, by decide⟩
    | some c =>
      have := List.all_eq_true.mp hl c (List.mem_of_getElem? hj)
      simpa using this
  rcases h with rfl | rfl
  · exact key _ (by decide +kernel)
  · exact key _ (by decide +kernel)
section xG
variable {v0 : Value} {xs : List Int32} {u : Nat × Nat} {Q : zO → zX → Prop} {mi pc : Nat} {lv : zL} {st : List Value} {f : Nat → zE} {a b c : Nat} {v w : Value} {r : List Value} {x y z : Int}
theorem x_getfieldG {n p : Nat} {fs : List Value} (hc : zcd (zt v0) mi pc = some (.getfield n, a, b, c, v)) (hp : p < 50) (h : (zG xs)[p]? = some (.inl (a, fs))) (hw : fs[b]? = some w) (k : xz v0 xs u Q mi (pc + 3) lv (w :: r) f) : xz v0 xs u Q mi pc lv (.ref p :: r) f := by
  refine x_b (q := (3, w :: r)) hc ?_ k
  simp only [zb, zrd]
  rw [if_pos hp]
  simp only [h, if_true, hw]
theorem x_lenG {p kd : Nat} {l : List Int} (hc : zcd (zt v0) mi pc = some (.arraylength, a, b, c, v)) (hp : p < 50) (h : (zG xs)[p]? = some (.inr (.inl (kd, l.map Int32.ofInt)))) (k : xz v0 xs u Q mi (pc + 1) lv (xi l.length :: r) f) : xz v0 xs u Q mi pc lv (.ref p :: r) f := by
  refine x_b (q := (1, xi l.length :: r)) hc ?_ k
  simp only [zb, zrd]
  rw [if_pos hp]
  simp only [h]
  rw [if_pos (Or.inl hp), List.length_map]
  rfl
theorem x_baloadG {p : Nat} {l : List Int} (hc : zcd (zt v0) mi pc = some (.baload, a, b, c, v)) (hp : p < 50) (h : (zG xs)[p]? = some (.inr (.inl (3, l.map Int32.ofInt)))) (hz : 0 ≤ z ∧ z < l.length) (hl : l.length ≤ 5000) (k : xz v0 xs u Q mi (pc + 1) lv (xi (l.getD z.toNat 0) :: r) f) : xz v0 xs u Q mi pc lv (xi z :: .ref p :: r) f := by
  refine x_b (q := (1, xi (l.getD z.toNat 0) :: r)) hc ?_ k
  simp only [zb, zrd]
  rw [if_pos hp]
  simp only [h]
  rw [if_pos ⟨hp, xin hz.1 (by rw [List.length_map]; exact hz.2) (by rw [List.length_map]; omega)⟩, x_getD hz.1 (by omega)]
theorem x_rcvG {ci p : Nat} {fs as : List Value} (hp : p < 50) (h : (zG xs)[p]? = some (.inl (ci, fs))) : zrcv (zG xs) (xh f, u) (.ref ci) ((.ref p : Value) :: as) = true := by
  unfold zrcv zrd
  simp only [if_pos hp, h, decide_true]
theorem x_getstaticI {n : Nat} {g : Int32} (hc : zcd (zt v0) mi pc = some (.getstatic n, a, b, c, .int g)) (hg : g = Int32.ofInt x) (k : xz v0 xs u Q mi (pc + 3) lv (xi x :: st) f) : xz v0 xs u Q mi pc lv st f := x_f (q := (pc + 3, lv, xi x :: st)) hc (by simp only [za, hg]) k
theorem x_ishr0 (hc : zcd (zt v0) mi pc = some (.ishr, a, b, c, v)) (k : xz v0 xs u Q mi (pc + 1) lv (xi x :: r) f) : xz v0 xs u Q mi pc lv (xi 0 :: xi x :: r) f := by
  refine x_f (q := (pc + 1, lv, xi x :: r)) hc ?_ k
  have e : Int32.ofInt x >>> (Int32.ofInt 0 &&& 31) = Int32.ofInt x := by
    rw [show (Int32.ofInt 0 &&& 31) = (0 : Int32) by decide, Int32.shiftRight_zero]
  simp only [za, zo2, e]
theorem x_iand255 (hc : zcd (zt v0) mi pc = some (.iand, a, b, c, v)) (hx : 0 ≤ x ∧ x ≤ 255) (k : xz v0 xs u Q mi (pc + 1) lv (xi x :: r) f) : xz v0 xs u Q mi pc lv (xi 255 :: xi x :: r) f := by
  refine x_iand hc ?_
  have e : Int32.ofInt x &&& Int32.ofInt 255 = Int32.ofInt x := by
    obtain ⟨n, rfl⟩ := Int.eq_ofNat_of_zero_le hx.1
    have hn : n < 256 := by omega
    have key : ∀ m : Nat, m < 256 → Int32.ofInt (m : Nat) &&& Int32.ofInt 255 = Int32.ofInt (m : Nat) := by decide +kernel
    exact key n hn
  rw [e]
  exact k
end xG
theorem xs_32 {v0 : Value} {xs : List Int32} {u : Nat × Nat} {f : Nat → zE} {p : Nat} (hp : p = 5 ∨ p = 6) : xq v0 xs u 32 [(0, .ref p)] f (fun r f' => r = some (xi 0) ∧ f' = f) := by
  unfold xq
  refine x_getstaticI (x := 1) rfl rfl ?_
  refine x_ifeq (t := 13) rfl rfl (by decide) (fun h => absurd h (by decide)) (fun _ => ?_)
  refine x_aload_n rfl rfl ?_
  refine x_getfieldG rfl (by omega) (xgt_o hp) rfl ?_
  refine x_goto (t := 14) rfl rfl ?_
  exact x_ireturn rfl (Or.inr (Or.inr (Or.inr ⟨rfl, by decide⟩))) ⟨_, _, rfl, rfl, rfl, rfl⟩
theorem xs_33 {v0 : Value} {xs : List Int32} {u : Nat × Nat} {f : Nat → zE} {p : Nat} (hp : p = 5 ∨ p = 6) : xq v0 xs u 33 [(0, .ref p)] f (fun r f' => r = some (xi (xgt p).2.length) ∧ f' = f) := by
  unfold xq
  refine x_aload_n rfl rfl ?_
  refine x_getfieldG rfl (by omega) (xgt_o hp) rfl ?_
  refine x_lenG rfl (xgt_p hp) (xgt_b hp) ?_
  refine x_aload_n rfl rfl ?_
  refine x_call [_] rfl rfl (show (1 : Nat) ≤ 8 from by decide) (show (1 : Nat) ≤ 1 from by decide) (x_rcvG (by omega) (xgt_o hp)) (xs_32 hp) (fun r' f' hP => ?_)
  obtain ⟨rfl, rfl⟩ := hP
  refine x_ishr0 rfl ?_
  exact x_ireturn rfl (Or.inl rfl) ⟨_, _, rfl, rfl, rfl, rfl⟩
theorem xs_34 {v0 : Value} {xs : List Int32} {u : Nat × Nat} {f : Nat → zE} {p : Nat} (hp : p = 5 ∨ p = 6) : xq v0 xs u 34 [(0, .ref p)] f (fun r f' => r = some (xi 1) ∧ f' = f) := by
  unfold xq
  refine x_getstaticI (x := 1) rfl rfl ?_
  refine x_ifeq (t := 17) rfl rfl (by decide) (fun h => absurd h (by decide)) (fun _ => ?_)
  refine x_aload_n rfl rfl ?_
  refine x_getfieldG rfl (by omega) (xgt_o hp) rfl ?_
  refine x_ifne (t := 17) rfl rfl (by decide) (fun h => absurd rfl h) (fun _ => ?_)
  refine x_iconst rfl ?_
  refine x_goto (t := 18) rfl rfl ?_
  exact x_ireturn rfl (Or.inr (Or.inl ⟨rfl, by decide⟩)) ⟨_, _, rfl, rfl, rfl, rfl⟩
theorem xs_35 {v0 : Value} {xs : List Int32} {u : Nat × Nat} {f : Nat → zE} {i n : Int} {w : Value} (hi : 0 ≤ i ∧ i < n) (hn : n ≤ 5000) : xq v0 xs u 35 [(0, xi i), (1, xi n), (2, w)] f (fun r f' => r = some (xi i) ∧ f' = f) := by
  unfold xq
  refine x_iload_n rfl rfl ?_
  refine x_iflt (t := 9) rfl rfl ⟨by omega, by omega⟩ (fun h => by omega) (fun _ => ?_)
  refine x_iload_n rfl rfl ?_
  refine x_iload_n rfl rfl ?_
  refine x_clt (t := 16) rfl rfl ⟨by omega, by omega⟩ ⟨by omega, by omega⟩ (fun _ => ?_) (fun h => by omega)
  refine x_iload_n rfl rfl ?_
  exact x_ireturn rfl (Or.inl rfl) ⟨_, _, rfl, rfl, rfl, rfl⟩
theorem xs_36 {v0 : Value} {xs : List Int32} {u : Nat × Nat} {f : Nat → zE} {i n : Int} (hv : v0 = .null ∨ v0 = .ref 49) (hi : 0 ≤ i ∧ i < n) (hn : n ≤ 5000) : xq v0 xs u 36 [(0, xi i), (1, xi n)] f (fun r f' => r = none ∧ f' = f) := by
  unfold xq
  refine x_iload_n rfl rfl ?_
  refine x_iload_n rfl rfl ?_
  rcases hv with rfl | rfl
  · refine x_f (q := (5, _, .null :: _)) rfl rfl ?_
    refine x_call [_, _, _] rfl rfl (show (0 : Nat) ≤ 8 from by decide) (show (3 : Nat) ≤ 3 from by decide) rfl (xs_35 hi hn) (fun r' f' hP => ?_)
    obtain ⟨rfl, rfl⟩ := hP
    refine x_pop rfl ?_
    exact x_return rfl ⟨_, _, rfl, rfl, rfl, rfl⟩
  · refine x_f (q := (5, _, .ref 49 :: _)) rfl rfl ?_
    refine x_call [_, _, _] rfl rfl (show (0 : Nat) ≤ 8 from by decide) (show (3 : Nat) ≤ 3 from by decide) rfl (xs_35 hi hn) (fun r' f' hP => ?_)
    obtain ⟨rfl, rfl⟩ := hP
    refine x_pop rfl ?_
    exact x_return rfl ⟨_, _, rfl, rfl, rfl, rfl⟩
theorem xs_37 {v0 : Value} {xs : List Int32} {u : Nat × Nat} {f : Nat → zE} {p : Nat} {i : Int} (hv : v0 = .null ∨ v0 = .ref 49) (hp : p = 5 ∨ p = 6) (hi : 0 ≤ i ∧ i < (xgt p).2.length) : xq v0 xs u 37 [(0, .ref (xgt p).1), (1, xi i)] f (fun r f' => r = some (xi ((xgt p).2.getD i.toNat 0)) ∧ f' = f) := by
  unfold xq
  have hl := xgt_l hp
  have hc := xgt_c hp i.toNat
  refine x_iload_n rfl rfl ?_
  refine x_aload_n rfl rfl ?_
  refine x_lenG rfl (xgt_p hp) (xgt_b hp) ?_
  refine x_call [_, _] rfl rfl (show (0 : Nat) ≤ 8 from by decide) (show (2 : Nat) ≤ 2 from by decide) rfl (xs_36 hv hi (by omega)) (fun r' f' hP => ?_)
  obtain ⟨rfl, rfl⟩ := hP
  refine x_aload_n rfl rfl ?_
  refine x_iload_n rfl rfl ?_
  refine x_baloadG rfl (xgt_p hp) (xgt_b hp) hi (by omega) ?_
  refine x_sipush rfl (by decide) ?_
  refine x_iand255 rfl ⟨by omega, by omega⟩ ?_
  refine x_i2c rfl ⟨by omega, by omega⟩ ?_
  exact x_ireturn rfl (Or.inr (Or.inr (Or.inl ⟨rfl, x_char (by omega) (by omega)⟩))) ⟨_, _, rfl, rfl, rfl, rfl⟩
theorem xs_38 {v0 : Value} {xs : List Int32} {u : Nat × Nat} {f : Nat → zE} {p : Nat} {i : Int} (hv : v0 = .null ∨ v0 = .ref 49) (hp : p = 5 ∨ p = 6) (hi : 0 ≤ i ∧ i < (xgt p).2.length) : xq v0 xs u 38 [(0, .ref p), (1, xi i)] f (fun r f' => r = some (xi ((xgt p).2.getD i.toNat 0)) ∧ f' = f) := by
  unfold xq
  have hc := xgt_c hp i.toNat
  refine x_aload_n rfl rfl ?_
  refine x_call [_] rfl rfl (show (0 : Nat) ≤ 8 from by decide) (show (1 : Nat) ≤ 1 from by decide) (x_rcvG (by omega) (xgt_o hp)) (xs_34 hp) (fun r' f' hP => ?_)
  obtain ⟨rfl, rfl⟩ := hP
  refine x_ifeq (t := 16) rfl rfl (by decide) (fun h => absurd h (by decide)) (fun _ => ?_)
  refine x_aload_n rfl rfl ?_
  refine x_getfieldG rfl (by omega) (xgt_o hp) rfl ?_
  refine x_iload_n rfl rfl ?_
  refine x_call [_, _] rfl rfl (show (0 : Nat) ≤ 8 from by decide) (show (2 : Nat) ≤ 2 from by decide) rfl (xs_37 hv hp hi) (fun r' f' hP => ?_)
  obtain ⟨rfl, rfl⟩ := hP
  exact x_ireturn rfl (Or.inr (Or.inr (Or.inl ⟨rfl, x_char (by omega) (by omega)⟩))) ⟨_, _, rfl, rfl, rfl, rfl⟩
/-- which of the words of a text a packed word is -/
def xix (zs : List Int) (W : Int64) : Nat → Nat → Int → Int → Int
  | 0, _, ix, rd => if Int64.ofInt rd = W then ix else -1
  | d + 1, i, ix, rd => if zs.getD i 0 = 32 then (if Int64.ofInt rd = W then ix else xix zs W d (i + 1) (ix + 1) 0) else xix zs W d (i + 1) ix (32 * rd + (zs.getD i 0 - 96))
theorem xs_39l {v0 : Value} {xs : List Int32} {u : Nat × Nat} {f : Nat → zE} {p : Nat} {ki st en : Int} {wo : Int64} {di sg : Int} (hv : v0 = .null ∨ v0 = .ref 49) (hp : p = 5 ∨ p = 6) (h112 : f 112 = xtk ki st en wo di sg) : ∀ (d i : Nat) (ix rd : Int) (lv : zL), d + i = (xgt p).2.length → 0 ≤ ix → ix ≤ i → zlv lv 0 = some (.ref 112) → zlv lv 1 = some (.ref p) → zlv lv 2 = some (xi ix) → zlv lv 3 = some (.long (Int64.ofInt rd)) → zlv lv 5 = some (xi (i : Nat)) → xz v0 xs u (fun o X => ∃ r f', o = .inl r ∧ X = (xh f', u) ∧ (fun r f' => r = some (xi (xix (xgt p).2 wo d i ix rd)) ∧ f' = f) r f') 39 7 lv [] f := by
  have hl := xgt_l hp
  intro d
  induction d with
  | zero =>
    intro i ix rd lv hd hi1 hi2 h0 h1 h2 h3 h5
    have hc := xgt_c hp i
    refine x_iload rfl h5 ?_
    refine x_aload_n rfl h1 ?_
    refine x_call [_] rfl rfl (show (1 : Nat) ≤ 8 from by decide) (show (1 : Nat) ≤ 1 from by decide) (x_rcvG (by omega) (xgt_o hp)) (xs_33 hp) (fun r' f' hP => ?_)
    obtain ⟨rfl, rfl⟩ := hP
    refine x_cge (t := 63) rfl rfl ⟨by omega, by omega⟩ ⟨by omega, by omega⟩ (fun hb13 => ?_) (fun hb13 => ?_)
    · refine x_lload_n rfl h3 ?_
      refine x_aload_n rfl h0 ?_
      refine x_getfield rfl (by decide) h112 rfl ?_
      refine x_lcmp rfl ?_
      refine x_lne (t := 76) rfl rfl (fun hb69 => ?_) (fun hb69 => ?_)
      · refine x_iconst rfl ?_
        refine x_ireturn rfl (Or.inl rfl) ⟨_, _, rfl, rfl, ?_⟩
        exact ⟨by rw [xix, if_neg hb69], rfl⟩
      · refine x_iload_n rfl h2 ?_
        refine x_goto (t := 77) rfl rfl ?_
        refine x_ireturn rfl (Or.inl rfl) ⟨_, _, rfl, rfl, ?_⟩
        exact ⟨by rw [xix, if_pos hb69], rfl⟩
    · exfalso; omega
  | succ d ih =>
    intro i ix rd lv hd hi1 hi2 h0 h1 h2 h3 h5
    have hc := xgt_c hp i
    refine x_iload rfl h5 ?_
    refine x_aload_n rfl h1 ?_
    refine x_call [_] rfl rfl (show (1 : Nat) ≤ 8 from by decide) (show (1 : Nat) ≤ 1 from by decide) (x_rcvG (by omega) (xgt_o hp)) (xs_33 hp) (fun r' f' hP => ?_)
    obtain ⟨rfl, rfl⟩ := hP
    refine x_cge (t := 63) rfl rfl ⟨by omega, by omega⟩ ⟨by omega, by omega⟩ (fun hb13 => ?_) (fun hb13 => ?_)
    · exfalso; omega
    · refine x_aload_n rfl h1 ?_
      refine x_iload rfl h5 ?_
      refine x_call [_, _] rfl rfl (show (0 : Nat) ≤ 8 from by decide) (show (2 : Nat) ≤ 2 from by decide) (x_rcvG (by omega) (xgt_o hp)) (xs_38 hv hp (by omega)) (fun r' f' hP => ?_)
      obtain ⟨rfl, rfl⟩ := hP
      rw [Int.toNat_natCast]
      refine x_bipush rfl (by decide) ?_
      refine x_ceq (t := 41) rfl rfl ⟨by omega, by omega⟩ ⟨by omega, by omega⟩ (fun hb24 => ?_) (fun hb24 => ?_)
      · refine x_lload_n rfl h3 ?_
        refine x_aload_n rfl h0 ?_
        refine x_getfield rfl (by decide) h112 rfl ?_
        refine x_lcmp rfl ?_
        refine x_lne (t := 52) rfl rfl (fun hb47 => ?_) (fun hb47 => ?_)
        · refine x_iinc rfl h2 (show (2 : Nat) < 6 from by decide) ?_
          refine x_lconst rfl ?_
          refine x_lstore_n rfl (show (3 : Nat) + 1 < 6 from by decide) ?_
          refine x_iinc rfl (xst2_ne (by decide) (by decide) (xst_ne (by decide) h5 (Or.inl rfl)) (Or.inl rfl)) (show (5 : Nat) < 6 from by decide) ?_
          refine x_goto (t := 7) rfl rfl ?_
          rw [xix, if_pos hb24, if_neg hb47]
          exact ih (i + 1) (ix + 1) 0 _ (by omega) (by omega) (by omega) (xst_ne (by decide) (xst2_ne (by decide) (by decide) (xst_ne (by decide) h0 (Or.inl rfl)) (Or.inl rfl)) (Or.inl rfl)) (xst_ne (by decide) (xst2_ne (by decide) (by decide) (xst_ne (by decide) h1 (Or.inl rfl)) (Or.inl rfl)) (Or.inl rfl)) (xst_ne (by decide) (xst2_ne (by decide) (by decide) xst_eq (Or.inl rfl)) (Or.inl rfl)) (xst_ne (by decide) xst2_eq (Or.inr (by decide))) xst_eq
        · refine x_iload_n rfl h2 ?_
          refine x_ireturn rfl (Or.inl rfl) ⟨_, _, rfl, rfl, ?_⟩
          exact ⟨by rw [xix, if_pos hb24, if_pos hb47], rfl⟩
      · refine x_lload_n rfl h3 ?_
        refine x_aload_n rfl h1 ?_
        refine x_iload rfl h5 ?_
        refine x_call [_, _] rfl rfl (show (2 : Nat) ≤ 8 from by decide) (show (2 : Nat) ≤ 2 from by decide) (x_rcvG (by omega) (xgt_o hp)) (xs_38 hv hp (by omega)) (fun r' f' hP => ?_)
        obtain ⟨rfl, rfl⟩ := hP
        rw [Int.toNat_natCast]
        refine x_call [_, _] rfl rfl (show (0 : Nat) ≤ 8 from by decide) (show (3 : Nat) ≤ 3 from by decide) rfl (xs_27 (by omega)) (fun r' f' hP => ?_)
        obtain ⟨rfl, rfl⟩ := hP
        refine x_lstore_n rfl (show (3 : Nat) + 1 < 6 from by decide) ?_
        refine x_goto (t := 57) rfl rfl ?_
        refine x_iinc rfl (xst2_ne (by decide) (by decide) h5 (Or.inl rfl)) (show (5 : Nat) < 6 from by decide) ?_
        refine x_goto (t := 7) rfl rfl ?_
        rw [xix, if_neg hb24]
        exact ih (i + 1) ix _ _ (by omega) (by omega) (by omega) (xst_ne (by decide) (xst2_ne (by decide) (by decide) h0 (Or.inl rfl)) (Or.inl rfl)) (xst_ne (by decide) (xst2_ne (by decide) (by decide) h1 (Or.inl rfl)) (Or.inl rfl)) (xst_ne (by decide) (xst2_ne (by decide) (by decide) h2 (Or.inl rfl)) (Or.inl rfl)) (xst_ne (by decide) xst2_eq (Or.inr (by decide))) xst_eq
theorem xs_39 {v0 : Value} {xs : List Int32} {u : Nat × Nat} {f : Nat → zE} {p : Nat} {ki st en : Int} {wo : Int64} {di sg : Int} (hv : v0 = .null ∨ v0 = .ref 49) (hp : p = 5 ∨ p = 6) (h112 : f 112 = xtk ki st en wo di sg) : xq v0 xs u 39 [(0, .ref 112), (1, .ref p)] f (fun r f' => r = some (xi (xix (xgt p).2 wo (xgt p).2.length 0 0 0)) ∧ f' = f) := by
  unfold xq
  refine x_iconst rfl ?_
  refine x_istore_n rfl (show (2 : Nat) < 6 from by decide) ?_
  refine x_lconst rfl ?_
  refine x_lstore_n rfl (show (3 : Nat) + 1 < 6 from by decide) ?_
  refine x_iconst rfl ?_
  refine x_istore rfl (show (5 : Nat) < 6 from by decide) ?_
  exact xs_39l hv hp h112 (xgt p).2.length 0 0 0 _ rfl (by decide) (by decide) (xst_ne (by decide) (xst2_ne (by decide) (by decide) (xst_ne (by decide) rfl (Or.inl rfl)) (Or.inl rfl)) (Or.inl rfl)) (xst_ne (by decide) (xst2_ne (by decide) (by decide) (xst_ne (by decide) rfl (Or.inl rfl)) (Or.inl rfl)) (Or.inl rfl)) (xst_ne (by decide) (xst2_ne (by decide) (by decide) xst_eq (Or.inl rfl)) (Or.inl rfl)) (xst_ne (by decide) xst2_eq (Or.inr (by decide))) xst_eq
/-- the row of figures -/
def xfl : List (Option Nat) := [some 57, some 61, some 65, some 69, some 73, some 77, some 81, some 85, some 89, some 93, some 97, some 101, some 105]
theorem xfl_at {i : Nat} (h : i < 13) : xfl.getD i none = some (57 + 4 * i) := by
  have key : ∀ i : Nat, i < 13 → xfl.getD i none = some (57 + 4 * i) := by decide
  exact key i h
abbrev xfg (i : Nat) (nm : Int64) (b d a : Value) : zE := .inl (3, [.ref (58 + 4 * i), .ref (59 + 4 * i), .ref (60 + 4 * i), .long nm, b, d, a])
abbrev xbo (c kp pt : Int) : zE := .inl (2, [.ref 54, .ref 55, .ref 56, xi c, xi kp, xi pt])
/-- the first name from i on, of d names, that is g -/
def xfn (nm : Nat → Int64) (g : Int64) : Nat → Nat → Int
  | 0, _ => -1
  | d + 1, i => if nm i = g then (i : Nat) else xfn nm g d (i + 1)
theorem xs_31l {v0 : Value} {xs : List Int32} {u : Nat × Nat} {f : Nat → zE} {c : Nat} {kp pt : Int} {nm : Nat → Int64} {g : Int64} (hc : c ≤ 12) (h53 : f 53 = xbo (c : Nat) kp pt) (h54 : f 54 = .inr (.inr (.inr (3, xfl)))) (hfig : ∀ i, i < c → ∃ b d a, f (57 + 4 * i) = xfg i (nm i) b d a) : ∀ (d i : Nat) (lv : zL), d + i = c → zlv lv 0 = some (.ref 53) → zlv lv 1 = some (.long g) → zlv lv 3 = some (xi (i : Nat)) → xz v0 xs u (fun o X => ∃ r f', o = .inl r ∧ X = (xh f', u) ∧ (fun r f' => r = some (xi (xfn nm g d i)) ∧ f' = f) r f') 31 2 lv [] f := by
  intro d
  induction d with
  | zero =>
    intro i lv hd h0 h1 h3
    refine x_iload_n rfl h3 ?_
    refine x_aload_n rfl h0 ?_
    refine x_getfield rfl (by decide) h53 rfl ?_
    refine x_cge (t := 32) rfl rfl ⟨by omega, by omega⟩ ⟨by omega, by omega⟩ (fun hb7 => ?_) (fun hb7 => ?_)
    · refine x_iconst rfl ?_
      refine x_ireturn rfl (Or.inl rfl) ⟨_, _, rfl, rfl, ?_⟩
      exact ⟨by rw [xfn], rfl⟩
    · exfalso; omega
  | succ d ih =>
    intro i lv hd h0 h1 h3
    refine x_iload_n rfl h3 ?_
    refine x_aload_n rfl h0 ?_
    refine x_getfield rfl (by decide) h53 rfl ?_
    refine x_cge (t := 32) rfl rfl ⟨by omega, by omega⟩ ⟨by omega, by omega⟩ (fun hb7 => ?_) (fun hb7 => ?_)
    · exfalso; omega
    · refine x_aload_n rfl h0 ?_
      refine x_getfield rfl (by decide) h53 rfl ?_
      refine x_iload_n rfl h3 ?_
      obtain ⟨b, d2, a2, hfg⟩ := hfig i (by omega)
      refine x_aaload rfl (by decide) h54 ⟨by omega, show ((i : Nat) : Int) < (13 : Nat) by omega⟩ (show (13 : Nat) ≤ 5000 by decide) (by rw [Int.toNat_natCast]; exact xfl_at (by omega)) ?_
      refine x_getfield rfl (by omega) hfg rfl ?_
      refine x_lload_n rfl h1 ?_
      refine x_lcmp rfl ?_
      refine x_lne (t := 26) rfl rfl (fun hb21 => ?_) (fun hb21 => ?_)
      · refine x_iinc rfl h3 (show (3 : Nat) < 4 from by decide) ?_
        refine x_goto (t := 2) rfl rfl ?_
        rw [xfn, if_neg hb21]
        exact ih (i + 1) _ (by omega) (xst_ne (by decide) h0 (Or.inl rfl)) (xst_ne (by decide) h1 (Or.inr (by decide))) xst_eq
      · refine x_iload_n rfl h3 ?_
        refine x_ireturn rfl (Or.inl rfl) ⟨_, _, rfl, rfl, ?_⟩
        exact ⟨by rw [xfn, if_pos hb21], rfl⟩
theorem xs_31 {v0 : Value} {xs : List Int32} {u : Nat × Nat} {f : Nat → zE} {c : Nat} {kp pt : Int} {nm : Nat → Int64} {g : Int64} (hc : c ≤ 12) (h53 : f 53 = xbo (c : Nat) kp pt) (h54 : f 54 = .inr (.inr (.inr (3, xfl)))) (hfig : ∀ i, i < c → ∃ b d a, f (57 + 4 * i) = xfg i (nm i) b d a) : xq v0 xs u 31 [(0, .ref 53), (1, .long g)] f (fun r f' => r = some (xi (xfn nm g c 0)) ∧ f' = f) := by
  unfold xq
  refine x_iconst rfl ?_
  refine x_istore_n rfl (show (3 : Nat) < 4 from by decide) ?_
  exact xs_31l hc h53 h54 hfig c 0 _ rfl (xst_ne (by decide) rfl (Or.inl rfl)) (xst_ne (by decide) rfl (Or.inr (by decide))) xst_eq
