/-! What goes wrong in a beat, the model's side: 119 to 121. -/
theorem xs_119 {v0 : Value} {xs : List Int32} {u : Nat × Nat} {f : Nat → zE} {fs : List Value} {ax ay af : List Int} {p q P Q : Int} (hmo : sMO f fs) (hmc : sMC f ax ay af) (hp : 0 ≤ p ∧ p < 144) (hq : 0 ≤ q ∧ q < 144) (h1 : sMP ax ay af p P) (h2 : sMP ax ay af q Q) (okP : sok P) (okQ : sok Q) : xq v0 xs u 119 [(0, .ref 177), (1, xi p), (2, xi q)] f (fun r' f' => r' = some (xi (if P / 4 = Q / 4 then 1 else 0)) ∧ f' = f) := by
  unfold xq
  obtain ⟨h177, hfl, -, h25, h26, h27⟩ := hmo
  obtain ⟨h192, h193, h194, hx, hy, hf⟩ := hmc
  obtain ⟨px, py, pf⟩ := h1
  obtain ⟨qx, qy, qf⟩ := h2
  have rx := sX_rg okP
  have ry := sY_rg okP
  have tx := sX_rg okQ
  have ty := sY_rg okQ
  have hsp := spot_inj okP okQ
  refine x_aload_n rfl rfl ?_
  refine x_getfield rfl (by decide) h177 h25 ?_
  refine x_iload_n rfl rfl ?_
  refine x_iaload rfl (by decide) h192 ⟨by omega, by omega⟩ (by omega) ?_
  rw [px]
  refine x_aload_n rfl rfl ?_
  refine x_getfield rfl (by decide) h177 h25 ?_
  refine x_iload_n rfl rfl ?_
  refine x_iaload rfl (by decide) h192 ⟨by omega, by omega⟩ (by omega) ?_
  rw [qx]
  refine x_cne (t := 34) rfl rfl ⟨by omega, by omega⟩ ⟨by omega, by omega⟩ (fun h1 => ?_) (fun h1 => ?_)
  · refine x_iconst rfl ?_
    exact x_ireturn rfl (Or.inr (Or.inl ⟨rfl, by decide⟩)) ⟨_, _, rfl, rfl, by rw [if_neg (fun h => h1 (hsp.mp h).1)], rfl⟩
  · refine x_aload_n rfl rfl ?_
    refine x_getfield rfl (by decide) h177 h26 ?_
    refine x_iload_n rfl rfl ?_
    refine x_iaload rfl (by decide) h193 ⟨by omega, by omega⟩ (by omega) ?_
    rw [py]
    refine x_aload_n rfl rfl ?_
    refine x_getfield rfl (by decide) h177 h26 ?_
    refine x_iload_n rfl rfl ?_
    refine x_iaload rfl (by decide) h193 ⟨by omega, by omega⟩ (by omega) ?_
    rw [qy]
    refine x_cne (t := 34) rfl rfl ⟨by omega, by omega⟩ ⟨by omega, by omega⟩ (fun h2 => ?_) (fun h2 => ?_)
    · refine x_iconst rfl ?_
      exact x_ireturn rfl (Or.inr (Or.inl ⟨rfl, by decide⟩)) ⟨_, _, rfl, rfl, by rw [if_neg (fun h => h2 (hsp.mp h).2)], rfl⟩
    · refine x_iconst rfl ?_
      refine x_goto (t := 35) rfl rfl ?_
      exact x_ireturn rfl (Or.inr (Or.inl ⟨rfl, by decide⟩)) ⟨_, _, rfl, rfl, by rw [if_pos (hsp.mpr ⟨h1, h2⟩)], rfl⟩
theorem xs_120 {v0 : Value} {xs : List Int32} {u : Nat × Nat} {f : Nat → zE} {fs : List Value} {ax ay af : List Int} {p q P Q t : Int} (hmo : sMO f fs) (hmc : sMC f ax ay af) (hp : 0 ≤ p ∧ p < 144) (hq : 0 ≤ q ∧ q < 144) (h1 : sMP ax ay af p P) (h2 : sMP ax ay af q Q) (okP : sok P) (okQ : sok Q) (ht : 0 ≤ t ∧ t ≤ 3) : xq v0 xs u 120 [(0, .ref 177), (1, xi p), (2, xi q), (3, xi t)] f (fun r' f' => r' = some (xi (if slook P Q t = true then 1 else 0)) ∧ f' = f) := by
  unfold xq
  obtain ⟨h177, hfl, -, h25, h26, h27⟩ := hmo
  obtain ⟨h192, h193, h194, hx, hy, hf⟩ := hmc
  obtain ⟨px, py, pf⟩ := h1
  obtain ⟨qx, qy, qf⟩ := h2
  have rx := sX_rg okP
  have ry := sY_rg okP
  have tx := sX_rg okQ
  have ty := sY_rg okQ
  have fr := sF_rg P
  have dx1 := sdx_rg ((sF P + t) % 4)
  have dy1 := sdy_rg ((sF P + t) % 4)
  refine x_aload_n rfl rfl ?_
  refine x_getfield rfl (by decide) h177 h27 ?_
  refine x_iload_n rfl rfl ?_
  refine x_iaload rfl (by decide) h194 ⟨by omega, by omega⟩ (by omega) ?_
  rw [pf]
  refine x_iload_n rfl rfl ?_
  refine x_iadd rfl ?_
  refine x_iconst rfl ?_
  refine x_irem rfl ⟨by omega, by omega⟩ (by decide) ?_
  refine x_istore rfl (show (4 : Nat) < 5 from by decide) ?_
  refine x_aload_n rfl (xst_ne (by decide) rfl (Or.inl rfl)) ?_
  refine x_getfield rfl (by decide) h177 h25 ?_
  refine x_iload_n rfl (xst_ne (by decide) rfl (Or.inl rfl)) ?_
  refine x_iaload rfl (by decide) h192 ⟨by omega, by omega⟩ (by omega) ?_
  rw [px]
  refine x_iload rfl xst_eq ?_
  refine x_call [_] rfl rfl (show (1 : Nat) ≤ 8 from by decide) (show (1 : Nat) ≤ 1 from by decide) rfl (xs_111 ⟨by omega, by omega⟩) ?_
  intro r' f1 hP
  obtain ⟨rfl, rfl⟩ := hP
  refine x_iadd rfl ?_
  refine x_aload_n rfl (xst_ne (by decide) rfl (Or.inl rfl)) ?_
  refine x_getfield rfl (by decide) h177 h25 ?_
  refine x_iload_n rfl (xst_ne (by decide) rfl (Or.inl rfl)) ?_
  refine x_iaload rfl (by decide) h192 ⟨by omega, by omega⟩ (by omega) ?_
  rw [qx]
  refine x_cne (t := 58) rfl rfl ⟨by omega, by omega⟩ ⟨by omega, by omega⟩ (fun h1 => ?_) (fun h1 => ?_)
  · refine x_iconst rfl ?_
    exact x_ireturn rfl (Or.inr (Or.inl ⟨rfl, by decide⟩)) ⟨_, _, rfl, rfl, by rw [if_neg (by unfold slook; simp [h1])], rfl⟩
  · refine x_aload_n rfl (xst_ne (by decide) rfl (Or.inl rfl)) ?_
    refine x_getfield rfl (by decide) h177 h26 ?_
    refine x_iload_n rfl (xst_ne (by decide) rfl (Or.inl rfl)) ?_
    refine x_iaload rfl (by decide) h193 ⟨by omega, by omega⟩ (by omega) ?_
    rw [py]
    refine x_iload rfl xst_eq ?_
    refine x_call [_] rfl rfl (show (1 : Nat) ≤ 8 from by decide) (show (1 : Nat) ≤ 1 from by decide) rfl (xs_112 ⟨by omega, by omega⟩) ?_
    intro r' f1 hP
    obtain ⟨rfl, rfl⟩ := hP
    refine x_iadd rfl ?_
    refine x_aload_n rfl (xst_ne (by decide) rfl (Or.inl rfl)) ?_
    refine x_getfield rfl (by decide) h177 h26 ?_
    refine x_iload_n rfl (xst_ne (by decide) rfl (Or.inl rfl)) ?_
    refine x_iaload rfl (by decide) h193 ⟨by omega, by omega⟩ (by omega) ?_
    rw [qy]
    refine x_cne (t := 58) rfl rfl ⟨by omega, by omega⟩ ⟨by omega, by omega⟩ (fun h2 => ?_) (fun h2 => ?_)
    · refine x_iconst rfl ?_
      exact x_ireturn rfl (Or.inr (Or.inl ⟨rfl, by decide⟩)) ⟨_, _, rfl, rfl, by rw [if_neg (by unfold slook; simp [h2])], rfl⟩
    · refine x_iconst rfl ?_
      refine x_goto (t := 59) rfl rfl ?_
      exact x_ireturn rfl (Or.inr (Or.inl ⟨rfl, by decide⟩)) ⟨_, _, rfl, rfl, by rw [if_pos (by unfold slook; rw [beq_iff_eq.mpr h1, beq_iff_eq.mpr h2]; rfl)], rfl⟩
/-- whether pair j meets, crosses -/
def spm (r2 : Nat → Int) (j : Nat) : Bool := decide (j / 8 < j % 8) && (r2 (j / 8) / 4 == r2 (j % 8) / 4)
def spc (r r2 : Nat → Int) (j : Nat) : Bool := decide (j / 8 < j % 8) && scr (r (j / 8)) (r (j % 8)) (r2 (j / 8)) (r2 (j % 8))
def skd (r r2 : Nat → Int) (k : Nat) : Int := if sany (spm r2) k = true then 2 else if sany (spc r r2) k = true then 3 else 0
theorem skd_rg (r r2 : Nat → Int) (k : Nat) : 0 ≤ skd r r2 k ∧ skd r r2 k ≤ 3 ∧ skd r r2 k ≠ 1 := by
  unfold skd
  split
  · decide
  · split <;> decide
theorem skd_s (r r2 : Nat → Int) (k : Nat) : skd r r2 (k + 1) = if spm r2 k = true then 2 else if skd r r2 k = 0 ∧ spc r r2 k = true then 3 else skd r r2 k := by
  unfold skd
  simp only [sany]
  by_cases h1 : sany (spm r2) k = true <;> by_cases h2 : spm r2 k = true <;> by_cases h3 : sany (spc r r2) k = true <;> by_cases h4 : spc r r2 k = true <;> simp [h1, h2, h3, h4]
theorem sany64 {P : Nat → Nat → Bool} : sany (fun j => decide (j / 8 < j % 8) && P (j / 8) (j % 8)) 64 = sany (fun a => sany (fun b => decide (a < b) && P a b) 8) 8 := by
  rw [Bool.eq_iff_iff, sany_iff, sany_iff]
  constructor
  · rintro ⟨j, hj, h⟩
    exact ⟨j / 8, by omega, (sany_iff _ _).mpr ⟨j % 8, by omega, h⟩⟩
  · rintro ⟨a, ha, h⟩
    obtain ⟨b, hb, h2⟩ := (sany_iff _ _).mp h
    refine ⟨8 * a + b, by omega, ?_⟩
    rw [show (8 * a + b) / 8 = a from by omega, show (8 * a + b) % 8 = b from by omega]
    exact h2
theorem skd_64 {r r2 : Nat → Int} (h : sleave r2 = false) : skd r r2 64 = sclash r r2 := by
  unfold skd sclash smeet scross
  rw [h, ← sany64 (P := fun a b => r2 a / 4 == r2 b / 4), ← sany64 (P := fun a b => scr (r a) (r b) (r2 a) (r2 b))]
  rfl
theorem mvx_rg {p a : Int} (h : sok p) : -1 ≤ mvx p a ∧ mvx p a ≤ 10 := by
  have := sX_rg h
  have := sdx_rg (sway (sF p) a)
  unfold mvx
  split <;> omega
theorem mvy_rg {p a : Int} (h : sok p) : -1 ≤ mvy p a ∧ mvy p a ≤ 10 := by
  have := sY_rg h
  have := sdy_rg (sway (sF p) a)
  unfold mvy
  split <;> omega
theorem xs_121m {v0 : Value} {xs : List Int32} {u : Nat × Nat} {f : Nat → zE} {fs : List Value} {ax ay af : List Int} {at' : Int} {r r2 : Nat → Int} (hmo : sMO f fs) (hmc : sMC f ax ay af) (hr : sML ax ay af at' r) (hr2 : sML ax ay af (at' + 8) r2) : ∀ (w k : Nat) (lv : zL), w + k = 64 → zlv lv 0 = some (.ref 177) → zlv lv 1 = some (xi at') → zlv lv 2 = some (xi (skd r r2 k)) → zlv lv 3 = some (xi (k : Nat)) → xz v0 xs u (fun o X => ∃ r' f', o = .inl r' ∧ X = (xh f', u) ∧ (fun r' f' => r' = some (xi (skd r r2 64)) ∧ f' = f) r' f') 121 69 lv [] f := by
  have h177 := hmo.1
  obtain ⟨g0, g1, hrow⟩ := hr
  obtain ⟨g2, g3, hrow2⟩ := hr2
  intro w
  induction w with
  | zero =>
    intro k lv hk l0 l1 l2 l3
    have e8 : k = 64 := by omega
    subst e8
    refine x_iload_n rfl l3 ?_
    refine x_bipush rfl (by decide) ?_
    refine x_cge (t := 259) rfl rfl (by decide) (by decide) (fun _ => ?_) (fun h => absurd h (by decide))
    refine x_iload_n rfl l2 ?_
    exact x_ireturn rfl (Or.inl rfl) ⟨_, _, rfl, rfl, rfl, rfl⟩
  | succ w ih =>
    intro k lv hk l0 l1 l2 l3
    obtain ⟨d, e, hd, he, hde⟩ : ∃ d e : Nat, d < 8 ∧ e < 8 ∧ k = 8 * d + e := ⟨k / 8, k % 8, by omega, by omega, by omega⟩
    subst hde
    obtain ⟨mp, pok⟩ := hrow d hd
    obtain ⟨mq, qok⟩ := hrow e he
    obtain ⟨mp2, p2ok⟩ := hrow2 d hd
    obtain ⟨mq2, q2ok⟩ := hrow2 e he
    have kr := skd_rg r r2 (8 * d + e)
    have pd : at' + ((d : Nat) : Int) + 8 = at' + 8 + (d : Nat) := by omega
    have pe : at' + ((e : Nat) : Int) + 8 = at' + 8 + (e : Nat) := by omega
    have htw : spm r2 (8 * d + e) = (decide (d < e) && (r2 d / 4 == r2 e / 4)) := by
      unfold spm
      rw [show (8 * d + e) / 8 = d from by omega, show (8 * d + e) % 8 = e from by omega]
    have hcx : spc r r2 (8 * d + e) = ((decide (d < e) && ((r2 d / 4 == r e / 4) && (r2 e / 4 == r d / 4))) && !(slook (r d) (r e) 0 && slook (r e) (r d) 0 || slook (r d) (r e) 2 && slook (r e) (r d) 2)) := by
      unfold spc scr
      rw [show (8 * d + e) / 8 = d from by omega, show (8 * d + e) % 8 = e from by omega, Bool.and_assoc (decide (d < e))]
    have T5 : ∀ (lv : zL), zlv lv 0 = some (.ref 177) → zlv lv 1 = some (xi at') → zlv lv 2 = some (xi (skd r r2 (8 * d + e))) → zlv lv 3 = some (xi ((8 * d + e : Nat) : Int)) → xz v0 xs u (fun o X => ∃ r' f', o = .inl r' ∧ X = (xh f', u) ∧ (fun r' f' => r' = some (xi (skd r r2 64)) ∧ f' = f) r' f') 121 252 lv [xi (skd r r2 (8 * d + e + 1))] f := by
      intro lv l0 l1 l2 l3
      refine x_istore_n rfl (show (2 : Nat) < 9 from by decide) ?_
      refine x_iinc rfl (xst_ne (by decide) l3 (Or.inl rfl)) (show (3 : Nat) < 9 from by decide) ?_
      refine x_goto (t := 69) rfl rfl ?_
      exact ih (8 * d + e + 1) _ (by omega) (xst_ne (by decide) (xst_ne (by decide) l0 (Or.inl rfl)) (Or.inl rfl)) (xst_ne (by decide) (xst_ne (by decide) l1 (Or.inl rfl)) (Or.inl rfl)) (xst_ne (by decide) xst_eq (Or.inl rfl)) xst_eq
    have T4 : ∀ (lv : zL) (b : Bool), b = (slook (r d) (r e) 0 && slook (r e) (r d) 0 || slook (r d) (r e) 2 && slook (r e) (r d) 2) → zlv lv 0 = some (.ref 177) → zlv lv 1 = some (xi at') → zlv lv 2 = some (xi (skd r r2 (8 * d + e))) → zlv lv 3 = some (xi ((8 * d + e : Nat) : Int)) → zlv lv 6 = some (xi (if spm r2 (8 * d + e) = true then 1 else 0)) → zlv lv 7 = some (xi (if (decide (d < e) && ((r2 d / 4 == r e / 4) && (r2 e / 4 == r d / 4))) = true then 1 else 0)) → xz v0 xs u (fun o X => ∃ r' f', o = .inl r' ∧ X = (xh f', u) ∧ (fun r' f' => r' = some (xi (skd r r2 64)) ∧ f' = f) r' f') 121 222 lv [xi (if b = true then 1 else 0)] f := by
      intro lv b hb l0 l1 l2 l3 l6 l7
      refine x_istore rfl (show (8 : Nat) < 9 from by decide) ?_
      refine x_iload rfl (xst_ne (by decide) l6 (Or.inl rfl)) ?_
      by_cases h2 : spm r2 (8 * d + e) = true
      · rw [if_pos h2]
        refine x_ifeq (t := 233) rfl rfl (by decide) (fun h => absurd h (by decide)) (fun _ => ?_)
        refine x_iconst rfl ?_
        refine x_goto (t := 252) rfl rfl ?_
        rw [show (2 : Int) = skd r r2 (8 * d + e + 1) from by rw [skd_s, if_pos h2]]
        exact T5 _ (xst_ne (by decide) l0 (Or.inl rfl)) (xst_ne (by decide) l1 (Or.inl rfl)) (xst_ne (by decide) l2 (Or.inl rfl)) (xst_ne (by decide) l3 (Or.inl rfl))
      · rw [if_neg h2]
        refine x_ifeq (t := 233) rfl rfl (by decide) (fun _ => ?_) (fun h => absurd rfl h)
        refine x_iload_n rfl (xst_ne (by decide) l2 (Or.inl rfl)) ?_
        refine x_ifne (t := 251) rfl rfl ⟨by omega, by omega⟩ (fun hk0 => ?_) (fun hk0 => ?_)
        · refine x_iload_n rfl (xst_ne (by decide) l2 (Or.inl rfl)) ?_
          rw [show skd r r2 (8 * d + e) = skd r r2 (8 * d + e + 1) from by rw [skd_s, if_neg h2, if_neg (fun h => hk0 h.1)]]
          exact T5 _ (xst_ne (by decide) l0 (Or.inl rfl)) (xst_ne (by decide) l1 (Or.inl rfl)) (xst_ne (by decide) l2 (Or.inl rfl)) (xst_ne (by decide) l3 (Or.inl rfl))
        · refine x_iload rfl (xst_ne (by decide) l7 (Or.inl rfl)) ?_
          by_cases h3 : (decide (d < e) && ((r2 d / 4 == r e / 4) && (r2 e / 4 == r d / 4))) = true
          · rw [if_pos h3]
            refine x_ifeq (t := 251) rfl rfl (by decide) (fun h => absurd h (by decide)) (fun _ => ?_)
            refine x_iload rfl xst_eq ?_
            by_cases h4 : b = true
            · rw [if_pos h4]
              refine x_ifne (t := 251) rfl rfl (by decide) (fun _ => ?_) (fun h => absurd h (by decide))
              refine x_iload_n rfl (xst_ne (by decide) l2 (Or.inl rfl)) ?_
              rw [show skd r r2 (8 * d + e) = skd r r2 (8 * d + e + 1) from by rw [skd_s, if_neg h2, if_neg (fun h => by rw [hcx, ← hb, h4] at h; simp at h)]]
              exact T5 _ (xst_ne (by decide) l0 (Or.inl rfl)) (xst_ne (by decide) l1 (Or.inl rfl)) (xst_ne (by decide) l2 (Or.inl rfl)) (xst_ne (by decide) l3 (Or.inl rfl))
            · rw [if_neg h4]
              refine x_ifne (t := 251) rfl rfl (by decide) (fun h => absurd rfl h) (fun _ => ?_)
              refine x_iconst rfl ?_
              refine x_goto (t := 252) rfl rfl ?_
              rw [show (3 : Int) = skd r r2 (8 * d + e + 1) from by rw [skd_s, if_neg h2, if_pos ⟨hk0, by rw [hcx, ← hb, bool_f h4, h3]; rfl⟩]]
              exact T5 _ (xst_ne (by decide) l0 (Or.inl rfl)) (xst_ne (by decide) l1 (Or.inl rfl)) (xst_ne (by decide) l2 (Or.inl rfl)) (xst_ne (by decide) l3 (Or.inl rfl))
          · rw [if_neg h3]
            refine x_ifeq (t := 251) rfl rfl (by decide) (fun _ => ?_) (fun h => absurd rfl h)
            refine x_iload_n rfl (xst_ne (by decide) l2 (Or.inl rfl)) ?_
            rw [show skd r r2 (8 * d + e) = skd r r2 (8 * d + e + 1) from by rw [skd_s, if_neg h2, if_neg (fun h => h3 (by rw [hcx] at h; exact (Bool.and_eq_true_iff.mp h.2).1))]]
            exact T5 _ (xst_ne (by decide) l0 (Or.inl rfl)) (xst_ne (by decide) l1 (Or.inl rfl)) (xst_ne (by decide) l2 (Or.inl rfl)) (xst_ne (by decide) l3 (Or.inl rfl))
    have T3 : ∀ (lv : zL) (b : Bool), b = (decide (d < e) && ((r2 d / 4 == r e / 4) && (r2 e / 4 == r d / 4))) → zlv lv 0 = some (.ref 177) → zlv lv 1 = some (xi at') → zlv lv 2 = some (xi (skd r r2 (8 * d + e))) → zlv lv 3 = some (xi ((8 * d + e : Nat) : Int)) → zlv lv 4 = some (xi (at' + (d : Nat))) → zlv lv 5 = some (xi (at' + (e : Nat))) → zlv lv 6 = some (xi (if spm r2 (8 * d + e) = true then 1 else 0)) → xz v0 xs u (fun o X => ∃ r' f', o = .inl r' ∧ X = (xh f', u) ∧ (fun r' f' => r' = some (xi (skd r r2 64)) ∧ f' = f) r' f') 121 167 lv [xi (if b = true then 1 else 0)] f := by
      intro lv b hb l0 l1 l2 l3 l4 l5 l6
      rw [hb]
      refine x_istore rfl (show (7 : Nat) < 9 from by decide) ?_
      have C : (slook (r d) (r e) 0 && slook (r e) (r d) 0) = false → xz v0 xs u (fun o X => ∃ r' f', o = .inl r' ∧ X = (xh f', u) ∧ (fun r' f' => r' = some (xi (skd r r2 64)) ∧ f' = f) r' f') 121 193 (xst 7 (xi (if (decide (d < e) && ((r2 d / 4 == r e / 4) && (r2 e / 4 == r d / 4))) = true then 1 else 0)) lv) [] f := by
        intro h0
        refine x_aload_n rfl (xst_ne (by decide) l0 (Or.inl rfl)) ?_
        refine x_iload rfl (xst_ne (by decide) l4 (Or.inl rfl)) ?_
        refine x_iload rfl (xst_ne (by decide) l5 (Or.inl rfl)) ?_
        refine x_iconst rfl ?_
        refine x_call [_, _, _, _] rfl rfl (show (0 : Nat) ≤ 8 from by decide) (show (4 : Nat) ≤ 5 from by decide) (x_rcv (by decide) h177) (xs_120 hmo hmc ⟨by omega, by omega⟩ ⟨by omega, by omega⟩ mp mq pok qok (by decide)) ?_
        intro r' f1 hP
        obtain ⟨rfl, rfl⟩ := hP
        by_cases h1 : slook (r d) (r e) 2 = true
        · rw [if_pos h1]
          refine x_ifeq (t := 221) rfl rfl (by decide) (fun h => absurd h (by decide)) (fun _ => ?_)
          refine x_aload_n rfl (xst_ne (by decide) l0 (Or.inl rfl)) ?_
          refine x_iload rfl (xst_ne (by decide) l5 (Or.inl rfl)) ?_
          refine x_iload rfl (xst_ne (by decide) l4 (Or.inl rfl)) ?_
          refine x_iconst rfl ?_
          refine x_call [_, _, _, _] rfl rfl (show (0 : Nat) ≤ 8 from by decide) (show (4 : Nat) ≤ 5 from by decide) (x_rcv (by decide) h177) (xs_120 hmo hmc ⟨by omega, by omega⟩ ⟨by omega, by omega⟩ mq mp qok pok (by decide)) ?_
          intro r' f1 hP
          obtain ⟨rfl, rfl⟩ := hP
          by_cases h2 : slook (r e) (r d) 2 = true
          · rw [if_pos h2]
            refine x_ifeq (t := 221) rfl rfl (by decide) (fun h => absurd h (by decide)) (fun _ => ?_)
            refine x_iconst rfl ?_
            refine x_goto (t := 222) rfl rfl ?_
            exact T4 _ true (by rw [h0, h1, h2]; rfl) (xst_ne (by decide) l0 (Or.inl rfl)) (xst_ne (by decide) l1 (Or.inl rfl)) (xst_ne (by decide) l2 (Or.inl rfl)) (xst_ne (by decide) l3 (Or.inl rfl)) (xst_ne (by decide) l6 (Or.inl rfl)) xst_eq
          · rw [if_neg h2]
            refine x_ifeq (t := 221) rfl rfl (by decide) (fun _ => ?_) (fun h => absurd rfl h)
            refine x_iconst rfl ?_
            exact T4 _ false (by rw [h0, h1, bool_f h2]; rfl) (xst_ne (by decide) l0 (Or.inl rfl)) (xst_ne (by decide) l1 (Or.inl rfl)) (xst_ne (by decide) l2 (Or.inl rfl)) (xst_ne (by decide) l3 (Or.inl rfl)) (xst_ne (by decide) l6 (Or.inl rfl)) xst_eq
        · rw [if_neg h1]
          refine x_ifeq (t := 221) rfl rfl (by decide) (fun _ => ?_) (fun h => absurd rfl h)
          refine x_iconst rfl ?_
          exact T4 _ false (by rw [h0, bool_f h1]; rfl) (xst_ne (by decide) l0 (Or.inl rfl)) (xst_ne (by decide) l1 (Or.inl rfl)) (xst_ne (by decide) l2 (Or.inl rfl)) (xst_ne (by decide) l3 (Or.inl rfl)) (xst_ne (by decide) l6 (Or.inl rfl)) xst_eq
      refine x_aload_n rfl (xst_ne (by decide) l0 (Or.inl rfl)) ?_
      refine x_iload rfl (xst_ne (by decide) l4 (Or.inl rfl)) ?_
      refine x_iload rfl (xst_ne (by decide) l5 (Or.inl rfl)) ?_
      refine x_iconst rfl ?_
      refine x_call [_, _, _, _] rfl rfl (show (0 : Nat) ≤ 8 from by decide) (show (4 : Nat) ≤ 5 from by decide) (x_rcv (by decide) h177) (xs_120 hmo hmc ⟨by omega, by omega⟩ ⟨by omega, by omega⟩ mp mq pok qok (by decide)) ?_
      intro r' f1 hP
      obtain ⟨rfl, rfl⟩ := hP
      by_cases h1 : slook (r d) (r e) 0 = true
      · rw [if_pos h1]
        refine x_ifeq (t := 193) rfl rfl (by decide) (fun h => absurd h (by decide)) (fun _ => ?_)
        refine x_aload_n rfl (xst_ne (by decide) l0 (Or.inl rfl)) ?_
        refine x_iload rfl (xst_ne (by decide) l5 (Or.inl rfl)) ?_
        refine x_iload rfl (xst_ne (by decide) l4 (Or.inl rfl)) ?_
        refine x_iconst rfl ?_
        refine x_call [_, _, _, _] rfl rfl (show (0 : Nat) ≤ 8 from by decide) (show (4 : Nat) ≤ 5 from by decide) (x_rcv (by decide) h177) (xs_120 hmo hmc ⟨by omega, by omega⟩ ⟨by omega, by omega⟩ mq mp qok pok (by decide)) ?_
        intro r' f1 hP
        obtain ⟨rfl, rfl⟩ := hP
        by_cases h2 : slook (r e) (r d) 0 = true
        · rw [if_pos h2]
          refine x_ifne (t := 217) rfl rfl (by decide) (fun _ => ?_) (fun h => absurd h (by decide))
          refine x_iconst rfl ?_
          refine x_goto (t := 222) rfl rfl ?_
          exact T4 _ true (by rw [h1, h2]; rfl) (xst_ne (by decide) l0 (Or.inl rfl)) (xst_ne (by decide) l1 (Or.inl rfl)) (xst_ne (by decide) l2 (Or.inl rfl)) (xst_ne (by decide) l3 (Or.inl rfl)) (xst_ne (by decide) l6 (Or.inl rfl)) xst_eq
        · rw [if_neg h2]
          refine x_ifne (t := 217) rfl rfl (by decide) (fun h => absurd rfl h) (fun _ => ?_)
          exact C (by rw [h1, bool_f h2]; rfl)
      · rw [if_neg h1]
        refine x_ifeq (t := 193) rfl rfl (by decide) (fun _ => ?_) (fun h => absurd rfl h)
        exact C (by rw [bool_f h1]; rfl)
    have T2 : ∀ (lv : zL) (b : Bool), b = spm r2 (8 * d + e) → zlv lv 0 = some (.ref 177) → zlv lv 1 = some (xi at') → zlv lv 2 = some (xi (skd r r2 (8 * d + e))) → zlv lv 3 = some (xi ((8 * d + e : Nat) : Int)) → zlv lv 4 = some (xi (at' + (d : Nat))) → zlv lv 5 = some (xi (at' + (e : Nat))) → xz v0 xs u (fun o X => ∃ r' f', o = .inl r' ∧ X = (xh f', u) ∧ (fun r' f' => r' = some (xi (skd r r2 64)) ∧ f' = f) r' f') 121 125 lv [xi (if b = true then 1 else 0)] f := by
      intro lv b hb l0 l1 l2 l3 l4 l5
      rw [hb]
      refine x_istore rfl (show (6 : Nat) < 9 from by decide) ?_
      refine x_iload rfl (xst_ne (by decide) l4 (Or.inl rfl)) ?_
      refine x_iload rfl (xst_ne (by decide) l5 (Or.inl rfl)) ?_
      refine x_cge (t := 166) rfl rfl ⟨by omega, by omega⟩ ⟨by omega, by omega⟩ (fun hge => ?_) (fun hlt => ?_)
      · refine x_iconst rfl ?_
        exact T3 _ false (by rw [decide_eq_false (by omega : ¬ d < e)]; rfl) (xst_ne (by decide) l0 (Or.inl rfl)) (xst_ne (by decide) l1 (Or.inl rfl)) (xst_ne (by decide) l2 (Or.inl rfl)) (xst_ne (by decide) l3 (Or.inl rfl)) (xst_ne (by decide) l4 (Or.inl rfl)) (xst_ne (by decide) l5 (Or.inl rfl)) xst_eq
      · refine x_aload_n rfl (xst_ne (by decide) l0 (Or.inl rfl)) ?_
        refine x_iload rfl (xst_ne (by decide) l4 (Or.inl rfl)) ?_
        refine x_bipush rfl (by decide) ?_
        refine x_iadd rfl ?_
        rw [pd]
        refine x_iload rfl (xst_ne (by decide) l5 (Or.inl rfl)) ?_
        refine x_call [_, _, _] rfl rfl (show (0 : Nat) ≤ 8 from by decide) (show (3 : Nat) ≤ 3 from by decide) (x_rcv (by decide) h177) (xs_119 hmo hmc ⟨by omega, by omega⟩ ⟨by omega, by omega⟩ mp2 mq p2ok qok) ?_
        intro r' f1 hP
        obtain ⟨rfl, rfl⟩ := hP
        by_cases h1 : r2 d / 4 = r e / 4
        · rw [if_pos h1]
          refine x_ifeq (t := 166) rfl rfl (by decide) (fun h => absurd h (by decide)) (fun _ => ?_)
          refine x_aload_n rfl (xst_ne (by decide) l0 (Or.inl rfl)) ?_
          refine x_iload rfl (xst_ne (by decide) l5 (Or.inl rfl)) ?_
          refine x_bipush rfl (by decide) ?_
          refine x_iadd rfl ?_
          rw [pe]
          refine x_iload rfl (xst_ne (by decide) l4 (Or.inl rfl)) ?_
          refine x_call [_, _, _] rfl rfl (show (0 : Nat) ≤ 8 from by decide) (show (3 : Nat) ≤ 3 from by decide) (x_rcv (by decide) h177) (xs_119 hmo hmc ⟨by omega, by omega⟩ ⟨by omega, by omega⟩ mq2 mp q2ok pok) ?_
          intro r' f1 hP
          obtain ⟨rfl, rfl⟩ := hP
          by_cases h2 : r2 e / 4 = r d / 4
          · rw [if_pos h2]
            refine x_ifeq (t := 166) rfl rfl (by decide) (fun h => absurd h (by decide)) (fun _ => ?_)
            refine x_iconst rfl ?_
            refine x_goto (t := 167) rfl rfl ?_
            exact T3 _ true (by rw [decide_eq_true (by omega : d < e), beq_iff_eq.mpr h1, beq_iff_eq.mpr h2]; rfl) (xst_ne (by decide) l0 (Or.inl rfl)) (xst_ne (by decide) l1 (Or.inl rfl)) (xst_ne (by decide) l2 (Or.inl rfl)) (xst_ne (by decide) l3 (Or.inl rfl)) (xst_ne (by decide) l4 (Or.inl rfl)) (xst_ne (by decide) l5 (Or.inl rfl)) xst_eq
          · rw [if_neg h2]
            refine x_ifeq (t := 166) rfl rfl (by decide) (fun _ => ?_) (fun h => absurd rfl h)
            refine x_iconst rfl ?_
            exact T3 _ false (by rw [beq_eq_false_iff_ne.mpr h2, Bool.and_false, Bool.and_false]) (xst_ne (by decide) l0 (Or.inl rfl)) (xst_ne (by decide) l1 (Or.inl rfl)) (xst_ne (by decide) l2 (Or.inl rfl)) (xst_ne (by decide) l3 (Or.inl rfl)) (xst_ne (by decide) l4 (Or.inl rfl)) (xst_ne (by decide) l5 (Or.inl rfl)) xst_eq
        · rw [if_neg h1]
          refine x_ifeq (t := 166) rfl rfl (by decide) (fun _ => ?_) (fun h => absurd rfl h)
          refine x_iconst rfl ?_
          exact T3 _ false (by rw [beq_eq_false_iff_ne.mpr h1, Bool.false_and, Bool.and_false]) (xst_ne (by decide) l0 (Or.inl rfl)) (xst_ne (by decide) l1 (Or.inl rfl)) (xst_ne (by decide) l2 (Or.inl rfl)) (xst_ne (by decide) l3 (Or.inl rfl)) (xst_ne (by decide) l4 (Or.inl rfl)) (xst_ne (by decide) l5 (Or.inl rfl)) xst_eq
    refine x_iload_n rfl l3 ?_
    refine x_bipush rfl (by decide) ?_
    refine x_cge (t := 259) rfl rfl ⟨by omega, by omega⟩ (by decide) (fun h => absurd h (by omega)) (fun _ => ?_)
    refine x_iload_n rfl l2 ?_
    refine x_iconst rfl ?_
    refine x_ceq (t := 259) rfl rfl ⟨by omega, by omega⟩ (by decide) (fun h => absurd h kr.2.2) (fun _ => ?_)
    refine x_iload_n rfl l1 ?_
    refine x_iload_n rfl l3 ?_
    refine x_bipush rfl (by decide) ?_
    refine x_idiv rfl ⟨by omega, by omega⟩ (by decide) ?_
    rw [show ((8 * d + e : Nat) : Int) / 8 = ((d : Nat) : Int) from by omega]
    refine x_iadd rfl ?_
    refine x_istore rfl (show (4 : Nat) < 9 from by decide) ?_
    refine x_iload_n rfl (xst_ne (by decide) l1 (Or.inl rfl)) ?_
    refine x_iload_n rfl (xst_ne (by decide) l3 (Or.inl rfl)) ?_
    refine x_bipush rfl (by decide) ?_
    refine x_irem rfl ⟨by omega, by omega⟩ (by decide) ?_
    rw [show ((8 * d + e : Nat) : Int) % 8 = ((e : Nat) : Int) from by omega]
    refine x_iadd rfl ?_
    refine x_istore rfl (show (5 : Nat) < 9 from by decide) ?_
    refine x_iload rfl (xst_ne (by decide) xst_eq (Or.inl rfl)) ?_
    refine x_iload rfl xst_eq ?_
    refine x_cge (t := 124) rfl rfl ⟨by omega, by omega⟩ ⟨by omega, by omega⟩ (fun hge => ?_) (fun hlt => ?_)
    · refine x_iconst rfl ?_
      exact T2 _ false (by rw [htw, decide_eq_false (by omega : ¬ d < e)]; rfl) (xst_ne (by decide) (xst_ne (by decide) l0 (Or.inl rfl)) (Or.inl rfl)) (xst_ne (by decide) (xst_ne (by decide) l1 (Or.inl rfl)) (Or.inl rfl)) (xst_ne (by decide) (xst_ne (by decide) l2 (Or.inl rfl)) (Or.inl rfl)) (xst_ne (by decide) (xst_ne (by decide) l3 (Or.inl rfl)) (Or.inl rfl)) (xst_ne (by decide) xst_eq (Or.inl rfl)) xst_eq
    · refine x_aload_n rfl (xst_ne (by decide) (xst_ne (by decide) l0 (Or.inl rfl)) (Or.inl rfl)) ?_
      refine x_iload rfl (xst_ne (by decide) xst_eq (Or.inl rfl)) ?_
      refine x_bipush rfl (by decide) ?_
      refine x_iadd rfl ?_
      rw [pd]
      refine x_iload rfl xst_eq ?_
      refine x_bipush rfl (by decide) ?_
      refine x_iadd rfl ?_
      rw [pe]
      refine x_call [_, _, _] rfl rfl (show (0 : Nat) ≤ 8 from by decide) (show (3 : Nat) ≤ 3 from by decide) (x_rcv (by decide) h177) (xs_119 hmo hmc ⟨by omega, by omega⟩ ⟨by omega, by omega⟩ mp2 mq2 p2ok q2ok) ?_
      intro r' f1 hP
      obtain ⟨rfl, rfl⟩ := hP
      by_cases h1 : r2 d / 4 = r2 e / 4
      · rw [if_pos h1]
        refine x_ifeq (t := 124) rfl rfl (by decide) (fun h => absurd h (by decide)) (fun _ => ?_)
        refine x_iconst rfl ?_
        refine x_goto (t := 125) rfl rfl ?_
        exact T2 _ true (by rw [htw, decide_eq_true (by omega : d < e), beq_iff_eq.mpr h1]; rfl) (xst_ne (by decide) (xst_ne (by decide) l0 (Or.inl rfl)) (Or.inl rfl)) (xst_ne (by decide) (xst_ne (by decide) l1 (Or.inl rfl)) (Or.inl rfl)) (xst_ne (by decide) (xst_ne (by decide) l2 (Or.inl rfl)) (Or.inl rfl)) (xst_ne (by decide) (xst_ne (by decide) l3 (Or.inl rfl)) (Or.inl rfl)) (xst_ne (by decide) xst_eq (Or.inl rfl)) xst_eq
      · rw [if_neg h1]
        refine x_ifeq (t := 124) rfl rfl (by decide) (fun _ => ?_) (fun h => absurd rfl h)
        refine x_iconst rfl ?_
        exact T2 _ false (by rw [htw, beq_eq_false_iff_ne.mpr h1, Bool.and_false]) (xst_ne (by decide) (xst_ne (by decide) l0 (Or.inl rfl)) (Or.inl rfl)) (xst_ne (by decide) (xst_ne (by decide) l1 (Or.inl rfl)) (Or.inl rfl)) (xst_ne (by decide) (xst_ne (by decide) l2 (Or.inl rfl)) (Or.inl rfl)) (xst_ne (by decide) (xst_ne (by decide) l3 (Or.inl rfl)) (Or.inl rfl)) (xst_ne (by decide) xst_eq (Or.inl rfl)) xst_eq
/-- the row behind a beat, where nobody left the floor -/
theorem sML_next {ax ay af : List Int} {at' : Int} {r r2 am : Nat → Int} (hr : sML ax ay af at' r) (hat : at' + 16 ≤ 144) (hn : ∀ d, d < 8 → ax.getD (at' + 8 + (d : Nat)).toNat 0 = mvx (r d) (am d) ∧ ay.getD (at' + 8 + (d : Nat)).toNat 0 = mvy (r d) (am d) ∧ af.getD (at' + 8 + (d : Nat)).toNat 0 = mvf (r d) (am d)) (ham : ∀ d, d < 8 → 0 ≤ am d ∧ am d ≤ 6) (hmv : ∀ d, d < 8 → r2 d = smv (r d) (am d)) (hl : sleave r2 = false) : sML ax ay af (at' + 8) r2 := by
  refine ⟨by have := hr.1; omega, by omega, fun d hd => ?_⟩
  have pok := (hr.2.2 d hd).2
  have hne : smv (r d) (am d) ≠ -1 := by
    intro h
    rw [← hmv d hd] at h
    have : sleave r2 = true := (sany_iff _ _).mpr ⟨d, hd, beq_iff_eq.mpr h⟩
    rw [hl] at this
    cases this
  have h2 : sok (smv (r d) (am d)) := by
    rcases smv_ok (a := am d) pok with h | h
    · exact absurd h hne
    · exact h
  obtain ⟨e1, e2, e3⟩ := hn d hd
  rcases smv_xy pok (ham d hd) with ⟨-, w1, w2, w3⟩ | ⟨h, -⟩
  · rw [hmv d hd]
    exact ⟨⟨by rw [e1, w1], by rw [e2, w2], by rw [e3, w3]⟩, h2⟩
  · exact absurd h hne
theorem xs_121l {v0 : Value} {xs : List Int32} {u : Nat × Nat} {f : Nat → zE} {fs : List Value} {ax ay af : List Int} {at' : Int} {r r2 am : Nat → Int} (hmo : sMO f fs) (hmc : sMC f ax ay af) (hr : sML ax ay af at' r) (hat : at' + 16 ≤ 144) (hn : ∀ d, d < 8 → ax.getD (at' + 8 + (d : Nat)).toNat 0 = mvx (r d) (am d) ∧ ay.getD (at' + 8 + (d : Nat)).toNat 0 = mvy (r d) (am d) ∧ af.getD (at' + 8 + (d : Nat)).toNat 0 = mvf (r d) (am d)) (ham : ∀ d, d < 8 → 0 ≤ am d ∧ am d ≤ 6) (hmv : ∀ d, d < 8 → r2 d = smv (r d) (am d)) : ∀ (w d : Nat) (lv : zL), w + d = 8 → zlv lv 0 = some (.ref 177) → zlv lv 1 = some (xi at') → zlv lv 2 = some (xi (if sany (fun d => r2 d == -1) d = true then 1 else 0)) → zlv lv 3 = some (xi (at' + 8 + (d : Nat))) → xz v0 xs u (fun o X => ∃ r' f', o = .inl r' ∧ X = (xh f', u) ∧ (fun r' f' => r' = some (xi (sclash r r2)) ∧ f' = f) r' f') 121 7 lv [] f := by
  have hmo2 := hmo
  have hmc2 := hmc
  obtain ⟨h177, hfl, -, h25, h26, h27⟩ := hmo2
  obtain ⟨h192, h193, h194, hx, hy, hf⟩ := hmc2
  have g0 := hr.1
  intro w
  induction w with
  | zero =>
    intro d lv hk l0 l1 l2 l3
    have e8 : d = 8 := by omega
    subst e8
    refine x_iload_n rfl l3 ?_
    refine x_iload_n rfl l1 ?_
    refine x_bipush rfl (by decide) ?_
    refine x_iadd rfl ?_
    refine x_cge (t := 67) rfl rfl ⟨by omega, by omega⟩ ⟨by omega, by omega⟩ (fun _ => ?_) (fun h => absurd h (by omega))
    refine x_iconst rfl ?_
    refine x_istore_n rfl (show (3 : Nat) < 9 from by decide) ?_
    by_cases hl : sleave r2 = true
    · have l2b : zlv lv 2 = some (xi 1) := by rw [l2, show sany (fun d => r2 d == -1) 8 = true from hl]; rfl
      refine x_iload_n rfl xst_eq ?_
      refine x_bipush rfl (by decide) ?_
      refine x_cge (t := 259) rfl rfl (by decide) (by decide) (fun h => absurd h (by decide)) (fun _ => ?_)
      refine x_iload_n rfl (xst_ne (by decide) l2b (Or.inl rfl)) ?_
      refine x_iconst rfl ?_
      refine x_ceq (t := 259) rfl rfl (by decide) (by decide) (fun _ => ?_) (fun h => absurd rfl h)
      refine x_iload_n rfl (xst_ne (by decide) l2b (Or.inl rfl)) ?_
      exact x_ireturn rfl (Or.inl rfl) ⟨_, _, rfl, rfl, by unfold sclash; rw [if_pos hl], rfl⟩
    · have l2b : zlv lv 2 = some (xi (skd r r2 0)) := by rw [l2, show sany (fun d => r2 d == -1) 8 = false from bool_f hl]; rfl
      rw [← skd_64 (r := r) (bool_f hl)]
      exact xs_121m hmo hmc hr (sML_next hr hat hn ham hmv (bool_f hl)) 64 0 _ rfl (xst_ne (by decide) l0 (Or.inl rfl)) (xst_ne (by decide) l1 (Or.inl rfl)) (xst_ne (by decide) l2b (Or.inl rfl)) xst_eq
  | succ w ih =>
    intro d lv hk l0 l1 l2 l3
    have hd : d < 8 := by omega
    have pok := (hr.2.2 d hd).2
    obtain ⟨e1, e2, e3⟩ := hn d hd
    have rx := mvx_rg (a := am d) pok
    have ry := mvy_rg (a := am d) pok
    have hxy := smv_xy pok (ham d hd)
    rw [← hmv d hd] at hxy
    have hin : ¬ r2 d = -1 → (0 ≤ mvx (r d) (am d) ∧ mvx (r d) (am d) ≤ 9) ∧ 0 ≤ mvy (r d) (am d) ∧ mvy (r d) (am d) ≤ 9 := by
      intro h
      rcases hxy with ⟨-, w1, w2, -⟩ | ⟨h2, -⟩
      · have hok : sok (r2 d) := by
          rcases smv_ok (a := am d) pok with h3 | h3
          · rw [← hmv d hd] at h3; exact absurd h3 h
          · rw [← hmv d hd] at h3; exact h3
        rw [w1, w2]
        exact ⟨sX_rg hok, sY_rg hok⟩
      · exact absurd h2 h
    have T : ∀ (lv : zL), zlv lv 0 = some (.ref 177) → zlv lv 1 = some (xi at') → zlv lv 3 = some (xi (at' + 8 + (d : Nat))) → xz v0 xs u (fun o X => ∃ r' f', o = .inl r' ∧ X = (xh f', u) ∧ (fun r' f' => r' = some (xi (sclash r r2)) ∧ f' = f) r' f') 121 60 lv [xi (if sany (fun d => r2 d == -1) (d + 1) = true then 1 else 0)] f := by
      intro lv l0 l1 l3
      refine x_istore_n rfl (show (2 : Nat) < 9 from by decide) ?_
      refine x_iinc rfl (xst_ne (by decide) l3 (Or.inl rfl)) (show (3 : Nat) < 9 from by decide) ?_
      refine x_goto (t := 7) rfl rfl ?_
      exact ih (d + 1) _ (by omega) (xst_ne (by decide) (xst_ne (by decide) l0 (Or.inl rfl)) (Or.inl rfl)) (xst_ne (by decide) (xst_ne (by decide) l1 (Or.inl rfl)) (Or.inl rfl)) (xst_ne (by decide) xst_eq (Or.inl rfl)) (by rw [show at' + 8 + ((d + 1 : Nat) : Int) = at' + 8 + (d : Nat) + 1 from by omega]; exact xst_eq)
    have T1 : r2 d = -1 → ∀ (lv : zL), zlv lv 0 = some (.ref 177) → zlv lv 1 = some (xi at') → zlv lv 3 = some (xi (at' + 8 + (d : Nat))) → xz v0 xs u (fun o X => ∃ r' f', o = .inl r' ∧ X = (xh f', u) ∧ (fun r' f' => r' = some (xi (sclash r r2)) ∧ f' = f) r' f') 121 55 lv [] f := by
      intro h9 lv l0 l1 l3
      refine x_iconst rfl ?_
      refine x_goto (t := 60) rfl rfl ?_
      have e : (1 : Int) = if sany (fun d => r2 d == -1) (d + 1) = true then 1 else 0 := by rw [if_pos (sany_t (P := fun d => r2 d == -1) (j := d) (by omega) (beq_iff_eq.mpr h9))]
      rw [e]
      exact T _ l0 l1 l3
    refine x_iload_n rfl l3 ?_
    refine x_iload_n rfl l1 ?_
    refine x_bipush rfl (by decide) ?_
    refine x_iadd rfl ?_
    refine x_cge (t := 67) rfl rfl ⟨by omega, by omega⟩ ⟨by omega, by omega⟩ (fun h => absurd h (by omega)) (fun _ => ?_)
    refine x_aload_n rfl l0 ?_
    refine x_getfield rfl (by decide) h177 h25 ?_
    refine x_iload_n rfl l3 ?_
    refine x_iaload rfl (by decide) h192 ⟨by omega, by omega⟩ (by omega) ?_
    rw [e1]
    refine x_iflt (t := 55) rfl rfl ⟨by omega, by omega⟩ (fun h1 => ?_) (fun h1 => ?_)
    · exact T1 (Classical.byContradiction fun h => by have := hin h; omega) _ l0 l1 l3
    refine x_aload_n rfl l0 ?_
    refine x_getfield rfl (by decide) h177 h25 ?_
    refine x_iload_n rfl l3 ?_
    refine x_iaload rfl (by decide) h192 ⟨by omega, by omega⟩ (by omega) ?_
    rw [e1]
    refine x_bipush rfl (by decide) ?_
    refine x_cgt (t := 55) rfl rfl ⟨by omega, by omega⟩ (by decide) (fun h2 => ?_) (fun h2 => ?_)
    · exact T1 (Classical.byContradiction fun h => by have := hin h; omega) _ l0 l1 l3
    refine x_aload_n rfl l0 ?_
    refine x_getfield rfl (by decide) h177 h26 ?_
    refine x_iload_n rfl l3 ?_
    refine x_iaload rfl (by decide) h193 ⟨by omega, by omega⟩ (by omega) ?_
    rw [e2]
    refine x_iflt (t := 55) rfl rfl ⟨by omega, by omega⟩ (fun h3 => ?_) (fun h3 => ?_)
    · exact T1 (Classical.byContradiction fun h => by have := hin h; omega) _ l0 l1 l3
    refine x_aload_n rfl l0 ?_
    refine x_getfield rfl (by decide) h177 h26 ?_
    refine x_iload_n rfl l3 ?_
    refine x_iaload rfl (by decide) h193 ⟨by omega, by omega⟩ (by omega) ?_
    rw [e2]
    refine x_bipush rfl (by decide) ?_
    refine x_cle (t := 59) rfl rfl ⟨by omega, by omega⟩ (by decide) (fun h4 => ?_) (fun h4 => ?_)
    rotate_left
    · exact T1 (Classical.byContradiction fun h => by have := hin h; omega) _ l0 l1 l3
    refine x_iload_n rfl l2 ?_
    have h9 : ¬ r2 d = -1 := by
      rcases hxy with ⟨h, -⟩ | ⟨-, h⟩
      · exact h
      · omega
    have e : (sany (fun d => r2 d == -1) (d + 1)) = sany (fun d => r2 d == -1) d := by
      simp only [sany]
      rw [beq_eq_false_iff_ne.mpr h9, Bool.or_false]
    rw [← e]
    exact T _ l0 l1 l3
theorem xs_121 {v0 : Value} {xs : List Int32} {u : Nat × Nat} {f : Nat → zE} {fs : List Value} {ax ay af : List Int} {at' : Int} {r r2 am : Nat → Int} (hmo : sMO f fs) (hmc : sMC f ax ay af) (hr : sML ax ay af at' r) (hat : at' + 16 ≤ 144) (hn : ∀ d, d < 8 → ax.getD (at' + 8 + (d : Nat)).toNat 0 = mvx (r d) (am d) ∧ ay.getD (at' + 8 + (d : Nat)).toNat 0 = mvy (r d) (am d) ∧ af.getD (at' + 8 + (d : Nat)).toNat 0 = mvf (r d) (am d)) (ham : ∀ d, d < 8 → 0 ≤ am d ∧ am d ≤ 6) (hmv : ∀ d, d < 8 → r2 d = smv (r d) (am d)) : xq v0 xs u 121 [(0, .ref 177), (1, xi at')] f (fun r' f' => r' = some (xi (sclash r r2)) ∧ f' = f) := by
  unfold xq
  refine x_iconst rfl ?_
  refine x_istore_n rfl (show (2 : Nat) < 9 from by decide) ?_
  refine x_iload_n rfl (xst_ne (by decide) rfl (Or.inl rfl)) ?_
  refine x_bipush rfl (by decide) ?_
  refine x_iadd rfl ?_
  refine x_istore_n rfl (show (3 : Nat) < 9 from by decide) ?_
  exact xs_121l hmo hmc hr hat hn ham hmv 8 0 _ rfl (xst_ne (by decide) (xst_ne (by decide) rfl (Or.inl rfl)) (Or.inl rfl)) (xst_ne (by decide) (xst_ne (by decide) rfl (Or.inl rfl)) (Or.inl rfl)) (xst_ne (by decide) xst_eq (Or.inl rfl)) (by rw [show at' + 8 + ((0 : Nat) : Int) = at' + 8 from by omega]; exact xst_eq)
