/-! The model's other methods of dancing. -/
/-- a method of the model: its answer, its code, its state -/
def sMq (v0 : Value) (xs : List Int32) (u : Nat × Nat) (m : Nat) (lv : zL) (f : Nat → zE) (n : Nat) (R : Int × Int × sS) : Prop := xq v0 xs u m lv f (fun r' f' => r' = some (xi R.2.1) ∧ sCD f' R.1 ∧ sMT f' n R.2.2 ∧ ∀ q, q ≠ 177 → ¬ (189 ≤ q ∧ q ≤ 197) → f' q = f q)
theorem sMT_0 {f : Nat → zE} {fs : List Value} {n : Nat} {S : sS} {v : Value} (hB : sMB f fs (n : Nat) (S.2.1.length : Nat) S.2.2) (hX : sMX f S.1) (hJ : sMJ f S.2.1) (hC : ∃ ax ay af : List Int, sMC f ax ay af) : sMT (xu f 177 (.inl (10, fs.set 0 v))) n S := by
  obtain ⟨ax, ay, af, h1, h2, h3, h4⟩ := hC
  exact ⟨⟨_, sMB_0 hB xu_eq⟩, sMX_f hX (fun q _ _ => xu_ne (by omega) rfl), sMJ_f hJ (fun q _ _ => xu_ne (by omega) rfl), ax, ay, af, xu_ne (by decide) h1, xu_ne (by decide) h2, xu_ne (by decide) h3, h4⟩
theorem xs_125 {v0 : Value} {xs : List Int32} {u : Nat × Nat} {f : Nat → zE} {n : Nat} {S : sS} (hT : sMT f n S) {K : List (Int × Int)} {G : Nat → List xBt} (hn : n ≤ 12) (hK : ∀ c, c < n → sKM f K c (G c)) {c : Int} (hG : ∀ c, c < n → sGok K (G c)) (hc : -2147483648 ≤ c ∧ c ≤ 2147483647) : sMq v0 xs u 125 [(0, .ref 177), (1, xi c)] f n (sPF K G n false c S) := by
  unfold sMq xq
  obtain ⟨fs, hB⟩ := hT.1
  have h177 := hB.1.1
  refine x_aload_n rfl rfl ?_
  refine x_iload_n rfl rfl ?_
  refine x_iconst rfl ?_
  refine x_call [_, _, _] rfl rfl (show (0 : Nat) ≤ 8 from by decide) (show (3 : Nat) ≤ 4 from by decide) (x_rcv (by decide) h177) (xs_124 (back := false) (c := c) hT hn hK hG hc) ?_
  intro r' f1 hP
  obtain ⟨rfl, h1, h2, h3⟩ := hP
  exact x_ireturn rfl (Or.inl rfl) ⟨_, _, rfl, rfl, rfl, h1, h2, h3⟩
theorem xs_128 {v0 : Value} {xs : List Int32} {u : Nat × Nat} {f : Nat → zE} {n : Nat} {S : sS} (hT : sMT f n S) {K : List (Int × Int)} {G : Nat → List xBt} (hn : n ≤ 12) (hK : ∀ c, c < n → sKM f K c (G c)) {c : Int} (hG : ∀ c, c < n → sGok K (G c)) (hc : -2147483648 ≤ c ∧ c ≤ 2147483647) : sMq v0 xs u 128 [(0, .ref 177), (1, xi c)] f n (sPF K G n true c S) := by
  unfold sMq xq
  obtain ⟨fs, hB⟩ := hT.1
  have h177 := hB.1.1
  refine x_aload_n rfl rfl ?_
  refine x_iload_n rfl rfl ?_
  refine x_iconst rfl ?_
  refine x_call [_, _, _] rfl rfl (show (0 : Nat) ≤ 8 from by decide) (show (3 : Nat) ≤ 4 from by decide) (x_rcv (by decide) h177) (xs_124 (back := true) (c := c) hT hn hK hG hc) ?_
  intro r' f1 hP
  obtain ⟨rfl, h1, h2, h3⟩ := hP
  exact x_ireturn rfl (Or.inl rfl) ⟨_, _, rfl, rfl, rfl, h1, h2, h3⟩
theorem xs_130 {v0 : Value} {xs : List Int32} {u : Nat × Nat} {f : Nat → zE} {n : Nat} {S : sS} (hT : sMT f n S) : sMq v0 xs u 130 [(0, .ref 177)] f n (0, S.2.2, S) := by
  unfold sMq xq
  obtain ⟨⟨fs, hB⟩, hX, hJ, hC⟩ := hT
  have hB0 := hB
  obtain ⟨⟨h177, hfl, ⟨f11, f13, f14, f15, f17, f18⟩, h25, h26, h27⟩, ⟨a1, a2, a3, a4, a5, a6⟩, h9, h31, h30⟩ := hB
  refine x_aload_n rfl rfl ?_
  refine x_iconst rfl ?_
  refine x_putfield rfl (by decide) h177 (show (0 : Nat) < _ from by rw [hfl]; decide) rfl ?_
  refine x_aload_n rfl rfl ?_
  refine x_getfield rfl (by decide) xu_eq (sget_ne (by decide) h30) ?_
  exact x_ireturn rfl (Or.inl rfl) ⟨_, _, rfl, rfl, rfl, ⟨_, xu_eq, sget_eq (by rw [hfl]; decide)⟩, sMT_0 hB0 hX hJ hC, fun q b1 _ => xu_ne b1 rfl⟩
theorem xs_140 {v0 : Value} {xs : List Int32} {u : Nat × Nat} {f : Nat → zE} {d : Int} (hd : -2147483648 ≤ d ∧ d ≤ 2147483647) : xq v0 xs u 140 [(0, xi d)] f (fun r' f' => r' = some (xi (if 0 ≤ d ∧ d < 8 then 1 else 0)) ∧ f' = f) := by
  unfold xq
  refine x_iload_n rfl rfl ?_
  refine x_iflt (t := 14) rfl rfl hd (fun h1 => ?_) (fun h1 => ?_)
  · refine x_iconst rfl ?_
    exact x_ireturn rfl (Or.inr (Or.inl ⟨rfl, by decide⟩)) ⟨_, _, rfl, rfl, by rw [if_neg (by omega)], rfl⟩
  · refine x_iload_n rfl rfl ?_
    refine x_bipush rfl (by decide) ?_
    refine x_cge (t := 14) rfl rfl hd (by decide) (fun h2 => ?_) (fun h2 => ?_)
    · refine x_iconst rfl ?_
      exact x_ireturn rfl (Or.inr (Or.inl ⟨rfl, by decide⟩)) ⟨_, _, rfl, rfl, by rw [if_neg (by omega)], rfl⟩
    · refine x_iconst rfl ?_
      refine x_goto (t := 15) rfl rfl ?_
      exact x_ireturn rfl (Or.inr (Or.inl ⟨rfl, by decide⟩)) ⟨_, _, rfl, rfl, by rw [if_pos ⟨h1, h2⟩], rfl⟩
def sUN (G : Nat → List xBt) (S : sS) : Int × Int × sS := if S.2.1.length = 0 then (1, 0, S) else (0, ((G (S.2.1.getD (S.2.1.length - 1) sH0).1).length : Nat), ((S.2.1.getD (S.2.1.length - 1) sH0).2.2, S.2.1.take (S.2.1.length - 1), S.2.2))
theorem xs_134l {v0 : Value} {xs : List Int32} {u : Nat × Nat} {Q : zO → zX → Prop} {f0 : Nat → zE} {fs : List Value} {ca dn cl _z : Int} {r : Nat → Int} {be : List Int} (hB : sMB f0 fs ca dn cl) (h197 : f0 197 = xr 0 be) (hbl : be.length = 192) (hdn : 0 ≤ dn ∧ dn < 24) (hr : ∀ d, d < 8 → be.getD (8 * (dn) + (d : Nat)).toNat 0 = r d ∧ sok (r d))
    (hkk : ∀ (lv : zL) (f : Nat → zE), zlv lv 0 = some (.ref 177) → (∃ ax ay af : List Int, sMC f ax ay af ∧ ∀ e, e < 8 → sMP ax ay af ((e : Nat) : Int) (r e)) → (∀ q, q ≠ 192 → q ≠ 193 → q ≠ 194 → f q = f0 q) → xz v0 xs u Q 134 68 lv [] f) : ∀ (w d : Nat) (lv : zL) (f : Nat → zE), w + d = 8 → zlv lv 0 = some (.ref 177) → zlv lv 1 = some (xi (d : Nat)) → (∃ ax ay af : List Int, sMC f ax ay af ∧ ∀ e, e < d → sMP ax ay af ((e : Nat) : Int) (r e)) → (∀ q, q ≠ 192 → q ≠ 193 → q ≠ 194 → f q = f0 q) → xz v0 xs u Q 134 37 lv [] f := by
  have hB0 := hB
  obtain ⟨⟨h177, hfl, ⟨f11, f13, f14, f15, f17, f18⟩, h25, h26, h27⟩, ⟨a1, a2, a3, a4, a5, a6⟩, h9, h31, h30⟩ := hB
  intro w
  induction w with
  | zero =>
    intro d lv f hw l0 l1 hrow hfr
    have e8 : d = 8 := by omega
    subst e8
    refine x_iload_n rfl l1 ?_
    refine x_bipush rfl (by decide) ?_
    refine x_cge (t := 68) rfl rfl (by decide) (by decide) (fun _ => ?_) (fun h => absurd h (by decide))
    exact hkk lv f l0 hrow hfr
  | succ w ih =>
    intro d lv f hw l0 l1 hrow hfr
    obtain ⟨ax, ay, af, hmc, hrow⟩ := hrow
    have hd : d < 8 := by omega
    obtain ⟨r1, r2⟩ := hr d hd
    have hB2 := sMB_f hB0 (f' := f) (hfr 177 (by decide) (by decide) (by decide))
    refine x_iload_n rfl l1 ?_
    refine x_bipush rfl (by decide) ?_
    refine x_cge (t := 68) rfl rfl ⟨by omega, by omega⟩ (by decide) (fun h => absurd h (by omega)) (fun _ => ?_)
    refine x_aload_n rfl l0 ?_
    refine x_iload_n rfl l1 ?_
    refine x_aload_n rfl l0 ?_
    refine x_getfield rfl (by decide) ((hfr 177 (by decide) (by decide) (by decide)).trans h177) a6 ?_
    refine x_bipush rfl (by decide) ?_
    refine x_aload_n rfl l0 ?_
    refine x_getfield rfl (by decide) ((hfr 177 (by decide) (by decide) (by decide)).trans h177) h31 ?_
    refine x_imul rfl ?_
    refine x_iload_n rfl l1 ?_
    refine x_iadd rfl ?_
    refine x_iaload rfl (by decide) ((hfr 197 (by decide) (by decide) (by decide)).trans h197) ⟨by omega, by omega⟩ (by omega) ?_
    rw [r1]
    refine x_call [_, _, _] rfl rfl (show (0 : Nat) ≤ 8 from by decide) (show (3 : Nat) ≤ 3 from by decide) (x_rcv (by decide) ((hfr 177 (by decide) (by decide) (by decide)).trans h177)) (xs_133 hB2 hmc hd r2) ?_
    intro r' f1 hP
    obtain ⟨rfl, hmc1, hfr1⟩ := hP
    refine x_iinc rfl l1 (show (1 : Nat) < 2 from by decide) ?_
    refine x_goto (t := 37) rfl rfl ?_
    refine ih (d + 1) _ _ (by omega) (xst_ne (by decide) l0 (Or.inl rfl)) xst_eq ⟨_, _, _, hmc1, sMP_set (n := 8) hmc.2.2.2 (by omega) hrow rfl rfl rfl⟩ (fun q b1 b2 b3 => (hfr1 q b1 b2 b3).trans (hfr q b1 b2 b3))
theorem xs_134 {v0 : Value} {xs : List Int32} {u : Nat × Nat} {f : Nat → zE} {n : Nat} {S : sS} (hT : sMT f n S) {K : List (Int × Int)} {G : Nat → List xBt} (hn : n ≤ 12) (hK : ∀ c, c < n → sKM f K c (G c)) (hc : ∀ i, i < S.2.1.length → (S.2.1.getD i sH0).1 < n) : sMq v0 xs u 134 [(0, .ref 177)] f n (sUN G S) := by
  unfold sMq xq
  obtain ⟨⟨fs, hB⟩, hX, hJ, hC⟩ := hT
  have hB0 := hB
  obtain ⟨⟨h177, hfl, ⟨f11, f13, f14, f15, f17, f18⟩, h25, h26, h27⟩, ⟨a1, a2, a3, a4, a5, a6⟩, h9, h31, h30⟩ := hB
  have h24 := hJ.1
  refine x_aload_n rfl rfl ?_
  refine x_aload_n rfl rfl ?_
  refine x_getfield rfl (by decide) h177 h31 ?_
  refine x_ifne (t := 12) rfl rfl ⟨by omega, by omega⟩ (fun hd => ?_) (fun hd => ?_)
  rotate_left
  · refine x_iconst rfl ?_
    refine x_goto (t := 13) rfl rfl ?_
    refine x_putfield rfl (by decide) h177 (show (0 : Nat) < _ from by rw [hfl]; decide) rfl ?_
    refine x_aload_n rfl rfl ?_
    refine x_getfield rfl (by decide) xu_eq (sget_eq (by rw [hfl]; decide)) ?_
    refine x_ifle (t := 25) rfl rfl (by decide) (fun h => absurd h (by decide)) (fun _ => ?_)
    refine x_iconst rfl ?_
    have e : sUN G S = (1, 0, S) := by unfold sUN; rw [if_pos (by omega)]
    rw [e]
    exact x_ireturn rfl (Or.inl rfl) ⟨_, _, rfl, rfl, rfl, ⟨_, xu_eq, sget_eq (by rw [hfl]; decide)⟩, sMT_0 hB0 hX hJ hC, fun q b1 _ => xu_ne b1 rfl⟩
  refine x_iconst rfl ?_
  refine x_putfield rfl (by decide) h177 (show (0 : Nat) < _ from by rw [hfl]; decide) rfl ?_
  refine x_aload_n rfl rfl ?_
  refine x_getfield rfl (by decide) xu_eq (sget_eq (by rw [hfl]; decide)) ?_
  refine x_ifle (t := 25) rfl rfl (by decide) (fun _ => ?_) (fun h => absurd h (by decide))
  refine x_aload_n rfl rfl ?_
  refine x_dup rfl ?_
  refine x_getfield rfl (by decide) xu_eq (sget_ne (by decide) h31) ?_
  refine x_iconst rfl ?_
  refine x_isub rfl ?_
  refine x_putfield rfl (by decide) xu_eq (show (31 : Nat) < _ from by rw [(slen hfl)]; decide) rfl ?_
  refine x_iconst rfl ?_
  refine x_istore_n rfl (show (1 : Nat) < 2 from by decide) ?_
  obtain ⟨m, hm⟩ : ∃ m : Nat, S.2.1.length = m + 1 := ⟨S.2.1.length - 1, by omega⟩
  rw [show ((S.2.1.length : Nat) : Int) - 1 = (m : Nat) from by omega]
  obtain ⟨hj24, wl, bl, be, j195, j196, j197, ⟨y1, y2, y3⟩, hji⟩ := id hJ
  obtain ⟨t1, t2, t3⟩ := hji m (by omega)
  obtain ⟨ax0, ay0, af0, hmc⟩ := hC
  have hcm := hc m (by omega)
  generalize hr : S.2.1.getD m sH0 = e at t1 t2 t3 hcm
  generalize hf2 : xu (xu f 177 _) 177 _ = f2
  have g177 : f2 177 = .inl (10, (fs.set 0 (xi 0)).set 31 (xi (m : Nat))) := by rw [← hf2]; exact xu_eq
  have hfa : ∀ q, q ≠ 177 → f2 q = f q := fun q b => by rw [← hf2]; exact xu_ne b (xu_ne b rfl)
  have hB2 := sMB_31 (sMB_0 (f' := fun _ => .inl (10, fs.set 0 (xi 0))) hB0 rfl) g177
  have g197 := (hfa 197 (by decide)).trans j197
  refine xs_134l (_z := 0) (r := e.2.2) hB2 g197 y3 ⟨by omega, by omega⟩ (fun d hd => by rw [show (8 * ((m : Nat) : Int) + (d : Nat)).toNat = 8 * m + d from by omega]; exact t3 d hd) (fun lv2 f3 m0 hrow hfr3 => ?_) 8 0 _ _ rfl (xst_ne (by decide) rfl (Or.inl rfl)) xst_eq ⟨ax0, ay0, af0, ⟨(hfa _ (by decide)).trans hmc.1, (hfa _ (by decide)).trans hmc.2.1, (hfa _ (by decide)).trans hmc.2.2.1, hmc.2.2.2⟩, fun e he => absurd he (Nat.not_lt_zero _)⟩ (fun _ _ _ _ => rfl)
  obtain ⟨ax, ay, af, hmc3, hrow3⟩ := hrow
  have g3 : f3 177 = .inl (10, (fs.set 0 (xi 0)).set 31 (xi (m : Nat))) := (hfr3 177 (by decide) (by decide) (by decide)).trans g177
  have hB3 := sMB_f hB2 (f' := f3) (hfr3 177 (by decide) (by decide) (by decide))
  have hX3 : sMX f3 S.1 := sMX_f hX (fun q _ _ => (hfr3 q (by omega) (by omega) (by omega)).trans (hfa q (by omega)))
  have hml : sML ax ay af (8 * 0) e.2.2 := sML_of hrow3 fun d hd => (t3 d hd).2
  obtain ⟨-, cnl, tk, pf, pq, se, at', k180, -, -, -, -, -, ⟨kl, -⟩, hcnt, -⟩ := hK e.1 hcm
  refine x_aload_n rfl m0 ?_
  refine x_iconst rfl ?_
  refine x_call [_, _] rfl rfl (show (0 : Nat) ≤ 8 from by decide) (show (2 : Nat) ≤ 3 from by decide) (x_rcv (by decide) g3) (xs_123 hB3 hX3 hmc3 (by decide) hml) ?_
  intro r' f4 hP
  obtain ⟨rfl, hX4, hfr4⟩ := hP
  have hfb : ∀ q, q ≠ 177 → ¬ (189 ≤ q ∧ q ≤ 194) → f4 q = f q := fun q b1 b2 => (hfr4 q (by omega) (by omega) (by omega)).trans ((hfr3 q (by omega) (by omega) (by omega)).trans (hfa q b1))
  have g4 : f4 177 = .inl (10, (fs.set 0 (xi 0)).set 31 (xi (m : Nat))) := (hfr4 177 (by decide) (by decide) (by decide)).trans g3
  have g195 : f4 195 = xr 0 wl := (hfb 195 (by decide) (by decide)).trans j195
  have g180 : f4 180 = xr 0 cnl := (hfb 180 (by decide) (by decide)).trans k180
  refine x_aload_n rfl m0 ?_
  refine x_getfield rfl (by decide) g4 (sget_ne (by decide) (sget_ne (by decide) f11)) ?_
  refine x_aload_n rfl m0 ?_
  refine x_getfield rfl (by decide) g4 (sget_ne (by decide) (sget_ne (by decide) a4)) ?_
  refine x_aload_n rfl m0 ?_
  refine x_getfield rfl (by decide) g4 (sget_eq (by rw [slen hfl]; decide)) ?_
  refine x_iaload rfl (by decide) g195 ⟨by omega, by omega⟩ (by omega) ?_
  rw [Int.toNat_natCast, t1]
  refine x_iaload rfl (by decide) g180 ⟨by omega, by omega⟩ (by omega) ?_
  rw [Int.toNat_natCast, hcnt]
  have e9 : sUN G S = (0, (((G e.1).length : Nat) : Int), (e.2.2, S.2.1.take m, S.2.2)) := by unfold sUN; rw [if_neg (by omega), hm, Nat.add_sub_cancel, hr]
  rw [e9]
  have hlm : (S.2.1.take m).length = m := by rw [List.length_take]; omega
  refine x_ireturn rfl (Or.inl rfl) ⟨_, _, rfl, rfl, rfl, ⟨_, g4, sget_ne (by decide) (sget_eq (by rw [hfl]; decide))⟩, ⟨⟨_, by rw [show ((S.2.1.take m).length : Nat) = m from hlm]; exact sMB_f hB3 (hfr4 177 (by decide) (by decide) (by decide))⟩, hX4, ⟨by rw [hlm]; omega, wl, bl, be, g195, (hfb 196 (by decide) (by decide)).trans j196, (hfb 197 (by decide) (by decide)).trans j197, ⟨y1, y2, y3⟩, fun i hi => ?_⟩, ax, ay, af, (hfr4 _ (by decide) (by decide) (by decide)).trans hmc3.1, (hfr4 _ (by decide) (by decide) (by decide)).trans hmc3.2.1, (hfr4 _ (by decide) (by decide) (by decide)).trans hmc3.2.2.1, hmc3.2.2.2⟩, fun q b1 b2 => hfb q b1 (by omega)⟩
  have hi2 : i < m := by rw [← hlm]; exact hi
  have e5 : (S.2.1.take m).getD i sH0 = S.2.1.getD i sH0 := by rw [List.getD_eq_getElem?_getD, List.getElem?_take, if_pos hi2, ← List.getD_eq_getElem?_getD]
  show _ = ((List.getD (S.2.1.take m) i sH0).1 : Int) ∧ _
  rw [e5]
  exact hji i (by omega)
