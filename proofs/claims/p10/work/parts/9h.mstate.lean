/-! The grammar's run by places; the model's state. -/
theorem xTK_ex (cs : List Int) (n p : Nat) (hp : p ≤ n) : ∃ (ki : Int) (s e : Nat), xTK cs n p ki s e := by
  have h1 : xskip xbl cs n p ≤ n := xskip_le hp
  by_cases h : xskip xbl cs n p = n
  · exact ⟨0, _, n, rfl, Or.inl ⟨h, rfl, rfl⟩⟩
  · cases hl : xlt (cs.getD (xskip xbl cs n p) 0) with
    | true => exact ⟨1, _, _, rfl, Or.inr (Or.inl ⟨by omega, hl, rfl, rfl⟩)⟩
    | false => cases hd : xdg (cs.getD (xskip xbl cs n p) 0) with
      | true => exact ⟨2, _, _, rfl, Or.inr (Or.inr (Or.inl ⟨by omega, hl, hd, rfl, rfl⟩))⟩
      | false => exact ⟨3, _, _, rfl, Or.inr (Or.inr (Or.inr ⟨by omega, hl, hd, rfl, rfl⟩))⟩
theorem xgo_fuel {cs : List Int} {n : Nat} {nms : List (List Int)} {bc dp : Nat → Int} : ∀ (k k' p : Nat) (q : xA), n + 1 ≤ k + p → n + 1 ≤ k' + p → p ≤ n → xgo cs n nms bc dp k p q = xgo cs n nms bc dp k' p q := by
  intro k
  induction k with
  | zero => intro k' p q h1 _ h3; omega
  | succ k ih =>
    intro k' p q h1 h2 h3
    cases k' with
    | zero => omega
    | succ k' =>
      obtain ⟨ki, s, e, hT⟩ := xTK_ex cs n p h3
      have hr := xTK_rg hT h3
      rw [xgo, xgo, xtf_eq hT]
      dsimp only
      split
      · rfl
      · rename_i hne
        have := hr.2.2.2.2.2.1 hne
        cases xtq cs nms bc dp (ki, s, e) q with
        | none => rfl
        | some q' => exact ih k' e q' (by omega) (by omega) hr.2.2.2.1
def xG (cs : List Int) (n : Nat) (nms : List (List Int)) (bc dp : Nat → Int) (p : Nat) (q : xA) : Int ⊕ (Int × Int) := xgo cs n nms bc dp (n + 1 - p) p q
theorem xG_0 {cs : List Int} {n p s e : Nat} {nms : List (List Int)} {bc dp : Nat → Int} {ki : Int} {q : xA} (hp : p ≤ n) (hT : xTK cs n p ki s e) (h : ki = 0) : xG cs n nms bc dp p q = xfo n (xfin q) := by
  unfold xG
  obtain ⟨k, hk⟩ : ∃ k, n + 1 - p = k + 1 := ⟨n - p, by omega⟩
  rw [hk, xgo, xtf_eq hT]
  dsimp only
  rw [if_pos h]
theorem xG_s {cs : List Int} {n p s e : Nat} {nms : List (List Int)} {bc dp : Nat → Int} {ki : Int} {q q' : xA} (hp : p ≤ n) (hT : xTK cs n p ki s e) (h : ki ≠ 0) (hq : xtq cs nms bc dp (ki, s, e) q = some q') : xG cs n nms bc dp p q = xG cs n nms bc dp e q' := by
  have hr := xTK_rg hT hp
  have h1 := hr.2.2.2.2.2.1 h
  unfold xG
  obtain ⟨k, hk⟩ : ∃ k, n + 1 - p = k + 1 := ⟨n - p, by omega⟩
  rw [hk, xgo, xtf_eq hT]
  dsimp only
  rw [if_neg h, hq]
  exact xgo_fuel _ _ _ _ (by omega) (by omega) hr.2.2.2.1
theorem xG_n {cs : List Int} {n p s e : Nat} {nms : List (List Int)} {bc dp : Nat → Int} {ki : Int} {q : xA} (hp : p ≤ n) (hT : xTK cs n p ki s e) (hf : ki = 0 → xfin q = none) (hq : ki ≠ 0 → xtq cs nms bc dp (ki, s, e) q = none) : xG cs n nms bc dp p q = .inl ((s : Nat) : Int) := by
  by_cases h : ki = 0
  · rw [xG_0 hp hT h, hf h, (xTK_rg hT hp).2.2.2.2.2.2 h]
    rfl
  · unfold xG
    obtain ⟨k, hk⟩ : ∃ k, n + 1 - p = k + 1 := ⟨n - p, by omega⟩
    rw [hk, xgo, xtf_eq hT]
    dsimp only
    rw [if_neg h, hq h]
/-- a beat that has no further part is a step -/
theorem xG_67 {cs : List Int} {n p s e : Nat} {nms : List (List Int)} {bc dp : Nat → Int} {ki op m d : Int} {tm oa : List Int} (hp : p ≤ n) (hT : xTK cs n p ki s e) (hc : ¬ (ki = 3 ∧ cs.getD s 0 = 44)) : xG cs n nms bc dp p (6, op, tm, oa, m, d) = xG cs n nms bc dp p (7, op, tm, oa, min (m + 1) 17, d) := by
  by_cases h : ki = 0
  · rw [xG_0 hp hT h, xG_0 hp hT h]
    unfold xfin
    simp
  · have e1 : xtq cs nms bc dp (ki, s, e) (6, op, tm, oa, m, d) = xtq cs nms bc dp (ki, s, e) (7, op, tm, oa, min (m + 1) 17, d) := by
      unfold xtq
      simp only [xstep]
      rw [if_neg hc]
    cases hq : xtq cs nms bc dp (ki, s, e) (7, op, tm, oa, min (m + 1) 17, d) with
    | none => rw [xG_n hp hT (fun h0 => absurd h0 h) (fun _ => hq), xG_n hp hT (fun h0 => absurd h0 h) (fun _ => e1.trans hq)]
    | some q' => rw [xG_s hp hT h hq, xG_s hp hT h (e1.trans hq)]
/-! The content's run by places. -/
theorem xgc_fuel {K : List (Int × Int)} {G : Nat → List xBt} {cs : List Int} {n : Nat} {nms : List (List Int)} {bc dp : Nat → Int} : ∀ (k k' p : Nat) (q : xA) (C : xC), n + 1 ≤ k + p → n + 1 ≤ k' + p → p ≤ n → xgc K G cs n nms bc dp k p q C = xgc K G cs n nms bc dp k' p q C := by
  intro k
  induction k with
  | zero => intro k' p q C h1 _ h3; omega
  | succ k ih =>
    intro k' p q C h1 h2 h3
    cases k' with
    | zero => omega
    | succ k' =>
      obtain ⟨ki, s, e, hT⟩ := xTK_ex cs n p h3
      have hr := xTK_rg hT h3
      rw [xgc, xgc, xtf_eq hT]
      dsimp only
      by_cases hne : ki = 0
      · rw [if_pos hne, if_pos hne]
      · rw [if_neg hne, if_neg hne]
        have := hr.2.2.2.2.2.1 hne
        cases xtq cs nms bc dp (ki, s, e) q with
        | none => rfl
        | some q' => exact ih k' e q' _ (by omega) (by omega) hr.2.2.2.1
def xGC (K : List (Int × Int)) (G : Nat → List xBt) (cs : List Int) (n : Nat) (nms : List (List Int)) (bc dp : Nat → Int) (p : Nat) (q : xA) (C : xC) : xC := xgc K G cs n nms bc dp (n + 1 - p) p q C
theorem xGC_0 {K : List (Int × Int)} {G : Nat → List xBt} {cs : List Int} {n p s e : Nat} {nms : List (List Int)} {bc dp : Nat → Int} {ki : Int} {q : xA} {C : xC} (hp : p ≤ n) (hT : xTK cs n p ki s e) (h : ki = 0) : xGC K G cs n nms bc dp p q C = if q.1 = 6 then xcap K C else C := by
  unfold xGC
  obtain ⟨k, hk⟩ : ∃ k, n + 1 - p = k + 1 := ⟨n - p, by omega⟩
  rw [hk, xgc, xtf_eq hT]
  dsimp only
  rw [if_pos h]
theorem xGC_s {K : List (Int × Int)} {G : Nat → List xBt} {cs : List Int} {n p s e : Nat} {nms : List (List Int)} {bc dp : Nat → Int} {ki : Int} {q q' : xA} {C C' : xC} (hp : p ≤ n) (hT : xTK cs n p ki s e) (h : ki ≠ 0) (hq : xtq cs nms bc dp (ki, s, e) q = some q') (hc : xtc K G cs nms (ki, s, e) q C = C') : xGC K G cs n nms bc dp p q C = xGC K G cs n nms bc dp e q' C' := by
  have hr := xTK_rg hT hp
  have h1 := hr.2.2.2.2.2.1 h
  unfold xGC
  obtain ⟨k, hk⟩ : ∃ k, n + 1 - p = k + 1 := ⟨n - p, by omega⟩
  rw [hk, xgc, xtf_eq hT]
  dsimp only
  rw [if_neg h, hq, hc]
  exact xgc_fuel _ _ _ _ _ (by omega) (by omega) hr.2.2.2.1
theorem xGC_n {K : List (Int × Int)} {G : Nat → List xBt} {cs : List Int} {n p s e : Nat} {nms : List (List Int)} {bc dp : Nat → Int} {ki : Int} {q : xA} {C : xC} (hp : p ≤ n) (hT : xTK cs n p ki s e) (h : ki ≠ 0) (hq : xtq cs nms bc dp (ki, s, e) q = none) : xGC K G cs n nms bc dp p q C = (0, 0, [], []) := by
  unfold xGC
  obtain ⟨k, hk⟩ : ∃ k, n + 1 - p = k + 1 := ⟨n - p, by omega⟩
  rw [hk, xgc, xtf_eq hT]
  dsimp only
  rw [if_neg h, hq]
theorem xGC_67 {K : List (Int × Int)} {G : Nat → List xBt} {cs : List Int} {n p s e : Nat} {nms : List (List Int)} {bc dp : Nat → Int} {ki op m d : Int} {tm oa : List Int} {C : xC} (hp : p ≤ n) (hT : xTK cs n p ki s e) (hc : ¬ (ki = 3 ∧ cs.getD s 0 = 44)) : xGC K G cs n nms bc dp p (6, op, tm, oa, m, d) C = xGC K G cs n nms bc dp p (7, op, tm, oa, min (m + 1) 17, d) (xcap K C) := by
  by_cases h : ki = 0
  · rw [xGC_0 hp hT h, xGC_0 hp hT h]
    simp
  · have e1 : xtq cs nms bc dp (ki, s, e) (6, op, tm, oa, m, d) = xtq cs nms bc dp (ki, s, e) (7, op, tm, oa, min (m + 1) 17, d) := by
      unfold xtq
      simp only [xstep]
      rw [if_neg hc]
    have e2 : xtc K G cs nms (ki, s, e) (6, op, tm, oa, m, d) C = xtc K G cs nms (ki, s, e) (7, op, tm, oa, min (m + 1) 17, d) (xcap K C) := by
      unfold xtc
      simp only [xcst]
      rw [if_neg hc]
    cases hq : xtq cs nms bc dp (ki, s, e) (7, op, tm, oa, min (m + 1) 17, d) with
    | none => rw [xGC_n hp hT h hq, xGC_n hp hT h (e1.trans hq)]
    | some q' => rw [xGC_s hp hT h hq rfl, xGC_s hp hT h (e1.trans hq) e2]
def xchain (op : Int) (oa : List Int) (m : Int) : Prop := 0 ≤ m ∧ (1 ≤ op → 0 ≤ oa.getD 0 0 ∧ oa.getD 0 0 ≤ m) ∧ (2 ≤ op → oa.getD 0 0 ≤ oa.getD 1 0 ∧ oa.getD 1 0 ≤ m) ∧ (3 ≤ op → oa.getD 1 0 ≤ oa.getD 2 0 ∧ oa.getD 2 0 ≤ m)
def xphi (op : Int) (oa : List Int) (m : Int) : Int := if op = 0 then m else if op = 1 then oa.getD 0 0 + 4 * (m - oa.getD 0 0) else if op = 2 then oa.getD 0 0 + 4 * (oa.getD 1 0 - oa.getD 0 0) + 16 * (m - oa.getD 1 0) else oa.getD 0 0 + 4 * (oa.getD 1 0 - oa.getD 0 0) + 16 * (oa.getD 2 0 - oa.getD 1 0) + 64 * (m - oa.getD 2 0)
theorem xphi_m {op m : Int} {oa : List Int} (hop : 0 ≤ op ∧ op ≤ 3) (h : xchain op oa m) : m ≤ xphi op oa m := by
  obtain ⟨h0, h1, h2, h3⟩ := h
  unfold xphi
  split
  · omega
  · split
    · have := h1 (by omega); omega
    · split
      · have := h1 (by omega); have := h2 (by omega); omega
      · have := h1 (by omega); have := h2 (by omega); have := h3 (by omega); omega
theorem xphi_add {op m b : Int} {oa : List Int} (hop : 0 ≤ op ∧ op ≤ 3) (hb : 0 ≤ b) : xphi op oa (m + b) ≤ xphi op oa m + 64 * b := by
  unfold xphi
  split
  · omega
  · split
    · omega
    · split <;> omega
theorem xchain_add {op m b : Int} {oa : List Int} (hb : 0 ≤ b) (h : xchain op oa m) : xchain op oa (m + b) := by
  obtain ⟨h0, h1, h2, h3⟩ := h
  exact ⟨by omega, fun h => by have := h1 h; omega, fun h => by have := h2 h; omega, fun h => by have := h3 h; omega⟩
theorem xphi_open {op m : Int} {oa : List Int} (hop : 0 ≤ op ∧ op < 3) (hl : oa.length = 3) (h : xchain op oa m) : xphi (op + 1) (oa.set op.toNat m) m = xphi op oa m ∧ xchain (op + 1) (oa.set op.toNat m) m := by
  obtain ⟨h0, h1, h2, h3⟩ := h
  have h012 : op = 0 ∨ op = 1 ∨ op = 2 := by omega
  unfold xphi xchain
  rcases h012 with rfl | rfl | rfl
  · simp only [x_gset, hl]
    simp [-List.getD_eq_getElem?_getD]
    omega
  · have := h1 (by omega)
    simp only [x_gset, hl]
    simp [-List.getD_eq_getElem?_getD]
    omega
  · have := h1 (by omega)
    have := h2 (by omega)
    simp only [x_gset, hl]
    simp [-List.getD_eq_getElem?_getD]
    omega
theorem xphi_close {op m t : Int} {oa : List Int} (hop : 0 < op ∧ op ≤ 3) (ht : 1 ≤ t ∧ t ≤ 4) (h : xchain op oa m) : xphi (op - 1) oa (m + (t - 1) * (m - oa.getD (op - 1).toNat 0)) ≤ xphi op oa m ∧ xchain (op - 1) oa (m + (t - 1) * (m - oa.getD (op - 1).toNat 0)) ∧ 0 ≤ oa.getD (op - 1).toNat 0 ∧ oa.getD (op - 1).toNat 0 ≤ m := by
  obtain ⟨h0, h1, h2, h3⟩ := h
  have h123 : op = 1 ∨ op = 2 ∨ op = 3 := by omega
  unfold xphi xchain
  rcases h123 with rfl | rfl | rfl
  · have k1 := h1 (by omega)
    simp only [show ((1 : Int) - 1).toNat = 0 from rfl]
    have z1 : (t - 1) * (m - oa.getD 0 0) ≤ 3 * (m - oa.getD 0 0) := Int.mul_le_mul_of_nonneg_right (by omega) (by omega)
    have z2 : 0 ≤ (t - 1) * (m - oa.getD 0 0) := Int.mul_nonneg (by omega) (by omega)
    simp [-List.getD_eq_getElem?_getD]
    omega
  · have k1 := h1 (by omega)
    have k2 := h2 (by omega)
    simp only [show ((2 : Int) - 1).toNat = 1 from rfl]
    have z1 : (t - 1) * (m - oa.getD 1 0) ≤ 3 * (m - oa.getD 1 0) := Int.mul_le_mul_of_nonneg_right (by omega) (by omega)
    have z2 : 0 ≤ (t - 1) * (m - oa.getD 1 0) := Int.mul_nonneg (by omega) (by omega)
    simp [-List.getD_eq_getElem?_getD]
    omega
  · have k1 := h1 (by omega)
    have k2 := h2 (by omega)
    have k3 := h3 (by omega)
    simp only [show ((3 : Int) - 1).toNat = 2 from rfl]
    have z1 : (t - 1) * (m - oa.getD 2 0) ≤ 3 * (m - oa.getD 2 0) := Int.mul_le_mul_of_nonneg_right (by omega) (by omega)
    have z2 : 0 ≤ (t - 1) * (m - oa.getD 2 0) := Int.mul_nonneg (by omega) (by omega)
    simp [-List.getD_eq_getElem?_getD]
    omega
/-- the model's rows of parts -/
def xMS (K E : List (Int × Int)) (f : Nat → zE) : Prop := ∃ se at' : List Int, f 185 = xr 0 se ∧ f 186 = xr 0 at' ∧ se.length = 224 ∧ at'.length = 224 ∧ (∀ j : Nat, 0 ≤ se.getD j 0 ∧ se.getD j 0 ≤ 12) ∧ (∀ j : Nat, 0 ≤ at'.getD j 0 ∧ at'.getD j 0 ≤ 6) ∧ ∀ j, j < (K ++ E).length → (se.getD j 0, at'.getD j 0) = (K ++ E).getD j (0, 0)
theorem xMS_mv {K E : List (Int × Int)} {f f' : Nat → zE} (h1 : f' 185 = f 185) (h2 : f' 186 = f 186) (h : xMS K E f) : xMS K E f' := by
  obtain ⟨se, at', a1, a2, a3⟩ := h
  exact ⟨se, at', h1.trans a1, h2.trans a2, a3⟩
/-- brackets, counts and rows of the model beside the grammar's state -/
def xCM (K : List (Int × Int)) (R0 : Nat → Int × Int) (C : xC) (bc dp tk0 : Nat → Int) (f0 f : Nat → zE) (op : Int) (tm oa : List Int) (m d B : Int) : Prop := (0 ≤ op ∧ op ≤ 3) ∧ (1 ≤ d ∧ d ≤ 7) ∧ xMS K C.2.2.1 f ∧ (∀ p, p ≠ 177 → p ≠ 180 → p ≠ 181 → p ≠ 182 → p ≠ 183 → p ≠ 184 → p ≠ 185 → p ≠ 186 → p ≠ 187 → p ≠ 188 → f p = f0 p) ∧ ∃ (mt : Int) (tmM oaM : List Int), xMD R0 C.2.2.2 bc dp tk0 f mt d ∧ min mt 17 = m ∧ f 187 = xr 0 tmM ∧ f 188 = xr 0 oaM ∧ tmM.length = 3 ∧ oaM.length = 3 ∧ (∀ j : Nat, (j : Int) < op → tmM.getD j 0 = tm.getD j 0 ∧ (2 ≤ tm.getD j 0 ∧ tm.getD j 0 ≤ 4) ∧ min (oaM.getD j 0) 17 = oa.getD j 0) ∧ xchain op oaM mt ∧ xphi op oaM mt ≤ B
/-- nothing but the model's object has changed -/
theorem xCM_mv {K : List (Int × Int)} {R0 : Nat → Int × Int} {C : xC} {bc dp tk0 : Nat → Int} {f0 f f' : Nat → zE} {op : Int} {tm oa : List Int} {m d B B' : Int} (h : ∀ p, p ≠ 177 → f' p = f p) (hB : B ≤ B') (k : xCM K R0 C bc dp tk0 f0 f op tm oa m d B) : xCM K R0 C bc dp tk0 f0 f' op tm oa m d B' := by
  obtain ⟨k1, k2, k3, k4, mt, tmM, oaM, k5, k6, k7, k8, k9, k10, k11, k12, k13⟩ := k
  exact ⟨k1, k2, xMS_mv (h 185 (by decide)) (h 186 (by decide)) k3, fun p a1 a2 a3 a4 a5 a6 a7 a8 a9 a10 => (h p a1).trans (k4 p a1 a2 a3 a4 a5 a6 a7 a8 a9 a10), mt, tmM, oaM, xMD_mv (fun p p1 p2 => h p (by omega)) k5, k6, (h 187 (by decide)).trans k7, (h 188 (by decide)).trans k8, k9, k10, k11, k12, by omega⟩
theorem xTM_k {cs : List Int} {n p s e : Nat} {ki kM nu : Int} {wo : Int64} (hp : p ≤ n) (hT : xTK cs n p ki s e) (hM : xTM cs ki s e kM wo nu) : (0 ≤ kM ∧ kM ≤ 4) ∧ (kM = 1 ↔ ki = 1) ∧ (kM = 2 ↔ ki = 2) ∧ (kM = 0 ↔ ki = 0) := by
  have hr := xTK_rg hT hp
  by_cases h3 : ki = 3
  · rcases hM.2.2.2 h3 with ⟨-, h⟩ | ⟨-, h⟩ <;> omega
  · have := hM.2.2.1 h3
    omega
theorem xTK_w {cs : List Int} {n p s e : Nat} {ki : Int} (hT : xTK cs n p ki s e) (h : ki = 1) : xwo (xwd cs s e) ∧ e = xskip xlt cs n s ∧ s < n := by
  rcases hT.2 with ⟨-, h1, -⟩ | ⟨h2, -, -, h1⟩ | ⟨-, -, -, h1, -⟩ | ⟨-, -, -, h1, -⟩
  · omega
  · exact ⟨by rw [h1]; exact xwd_wo, h1, h2⟩
  · omega
  · omega
theorem xm_71 {v0 : Value} {xs : List Int32} {u : Nat × Nat} {f : Nat → zE} {n p s e : Nat} {cs : List Int} {cd fa ki kM nu ca pa op : Int} {wo : Int64} {q : Nat → Value} (hp : p ≤ n) (h177 : f 177 = xmo cd (n : Nat) fa kM (s : Nat) (e : Nat) wo nu ca pa op q) (hT : xTK cs n p ki s e) (hM : xTM cs ki s e kM wo nu) : xq v0 xs u 71 [(0, .ref 177)] f (fun r f' => r = some (xi (if ki = 1 then xfi (xwd cs s e) selW 0 else -1)) ∧ f' = f) := by
  have hk := xTM_k hp hT hM
  by_cases h1 : ki = 1
  · refine xq_mono (xs_71 h177 (by omega) (xTK_w hT h1).1 (fun _ => hM.1 h1)) fun r f' h => ?_
    rw [if_pos (hk.2.1.mpr h1)] at h
    rw [if_pos h1]
    exact h
  · refine xq_mono (xs_71 (wd := none) h177 (by omega) (fun l hl => by cases hl) (fun h => absurd (hk.2.1.mp h) h1)) fun r f' h => ?_
    rw [if_neg (fun h => h1 (hk.2.1.mp h))] at h
    rw [if_neg h1]
    exact h
theorem xm_73 {v0 : Value} {xs : List Int32} {u : Nat × Nat} {f : Nat → zE} {n p s e : Nat} {cs : List Int} {cd fa ki kM nu ca pa op : Int} {wo : Int64} {q : Nat → Value} (hp : p ≤ n) (h177 : f 177 = xmo cd (n : Nat) fa kM (s : Nat) (e : Nat) wo nu ca pa op q) (hT : xTK cs n p ki s e) (hM : xTM cs ki s e kM wo nu) : xq v0 xs u 73 [(0, .ref 177)] f (fun r f' => r = some (xi (if ki = 1 then xfi (xwd cs s e) atW 0 else -1)) ∧ f' = f) := by
  have hk := xTM_k hp hT hM
  by_cases h1 : ki = 1
  · refine xq_mono (xs_73 h177 (by omega) (xTK_w hT h1).1 (fun _ => hM.1 h1)) fun r f' h => ?_
    rw [if_pos (hk.2.1.mpr h1)] at h
    rw [if_pos h1]
    exact h
  · refine xq_mono (xs_73 (wd := none) h177 (by omega) (fun l hl => by cases hl) (fun h => absurd (hk.2.1.mp h) h1)) fun r f' h => ?_
    rw [if_neg (fun h => h1 (hk.2.1.mp h))] at h
    rw [if_neg h1]
    exact h
theorem xm_74 {v0 : Value} {xs : List Int32} {u : Nat × Nat} {f : Nat → zE} {nl : List Int64} {nms : List (List Int)} {n p s e : Nat} {cs : List Int} {cd fa ki kM nu ca pa op : Int} {wo : Int64} {q : Nat → Value} (hp : p ≤ n) (h177 : f 177 = xmo cd (n : Nat) fa kM (s : Nat) (e : Nat) wo nu ca pa op q) (hT : xTK cs n p ki s e) (hM : xTM cs ki s e kM wo nu) (h179 : f 179 = .inr (.inr (.inl nl))) (hlen : nl.length = 13) (hcl : nms.length ≤ 12) (hca : ca = (nms.length : Nat)) (hw : ∀ w ∈ nms, xwf w) (hnl : ∀ k, k < nms.length → nl.getD k 0 = Int64.ofInt (xpr (nms.getD k []))) (hnd : nms.Nodup) : xq v0 xs u 74 [(0, .ref 177)] f (fun r f' => r = some (xi (if ki = 1 then xfi (xwd cs s e) nms 0 else -1)) ∧ f' = f) := by
  have hk := xTM_k hp hT hM
  by_cases h1 : ki = 1
  · refine xq_mono (xs_74 h177 (by omega) (xTK_w hT h1).1 (fun _ => hM.1 h1) h179 hlen hcl hca hw hnl hnd) fun r f' h => ?_
    rw [if_pos (hk.2.1.mpr h1)] at h
    rw [if_pos h1]
    exact h
  · refine xq_mono (xs_74 (wd := none) h177 (by omega) (fun l hl => by cases hl) (fun h => absurd (hk.2.1.mp h) h1) h179 hlen hcl hca hw hnl hnd) fun r f' h => ?_
    rw [if_neg (fun h => h1 (hk.2.1.mp h))] at h
    rw [if_neg h1]
    exact h
