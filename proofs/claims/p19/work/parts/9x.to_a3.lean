section
/-! By hand where only types are known: the model's search. -/
theorem xh_ex {M : List zE} (h : M.length = 154) : ∃ f : Nat → zE, M = xh f := by
  refine ⟨fun p => M.getD (p - 50) (.inr (.inr (.inl []))), ?_⟩
  apply List.ext_getElem?
  intro k
  by_cases hk : k < 154
  · have e := xh_at (f := fun p => M.getD (p - 50) (.inr (.inr (.inl [])))) (p := k + 50) (by omega) (by omega)
    rw [Nat.add_sub_cancel] at e
    rw [e, List.getD_eq_getElem?_getD, List.getElem?_eq_getElem (by omega)]
    rfl
  · rw [List.getElem?_eq_none (by omega), List.getElem?_eq_none (by rw [xh_len]; omega)]
theorem xT_o {T : List yC} {f : Nat → zE} {p ci : Nat} {as : List yA} (hM : yM T (xh f)) (hp : 50 ≤ p ∧ p < 204) (ht : T[p - 50]? = some (.inl (ci, as))) : ∃ fs : List Value, f p = .inl (ci, fs) ∧ fs.length = as.length ∧ ∀ (k : Nat) (a : yA), as[k]? = some a → ∃ v, fs[k]? = some v ∧ yg a v := by
  obtain ⟨c, h1, h2⟩ := hM.2 _ _ ht
  rw [xh_at hp.1 hp.2] at h1
  cases h1
  match hfp : f p, h2 with
  | .inl o, h2 =>
    obtain ⟨a1, a2, a3⟩ := h2
    refine ⟨o.2, by rw [show ci = o.1 from a1], a2.symm, fun k a ha => ?_⟩
    have hk : k < o.2.length := by rw [← a2]; exact (List.getElem?_eq_some_iff.mp ha).1
    exact ⟨o.2[k], List.getElem?_eq_getElem hk, a3 k a _ ha (List.getElem?_eq_getElem hk)⟩
theorem xT_a {T : List yC} {f : Nat → zE} {p kd : Nat} {l : List (Nat × Int × Int)} (hM : yM T (xh f)) (hp : 50 ≤ p ∧ p < 204) (ht : T[p - 50]? = some (.inr (.inl (kd, l)))) : ∃ ys : List Int, f p = xr kd ys ∧ ys.length = ysum l ∧ ∀ (j : Nat) (q : Int × Int), yat l j = some q → j < ys.length → q.1 ≤ ys.getD j 0 ∧ ys.getD j 0 ≤ q.2 := by
  obtain ⟨c, h1, h2⟩ := hM.2 _ _ ht
  rw [xh_at hp.1 hp.2] at h1
  cases h1
  match hfp : f p, h2 with
  | .inr (.inl o), h2 =>
    obtain ⟨a1, a2, a3⟩ := h2
    refine ⟨o.2.map Int32.toInt, ?_, by rw [List.length_map]; exact a2, fun j q hq hj => ?_⟩
    · show Sum.inr (Sum.inl o) = Sum.inr (Sum.inl (kd, (o.2.map Int32.toInt).map Int32.ofInt))
      rw [List.map_map, show (Int32.ofInt ∘ Int32.toInt) = id from funext fun x => Int32.ofInt_toInt x, List.map_id, show kd = o.1 from a1]
    · rw [List.length_map] at hj
      have := a3 j q o.2[j] hq (List.getElem?_eq_getElem hj)
      rw [List.getD_eq_getElem?_getD, List.getElem?_map, List.getElem?_eq_getElem hj]
      exact this
theorem yg_i {lo hi : Int} {v : Value} (h : yg (.inl (lo, hi)) v) : ∃ z : Int, v = xi z ∧ lo ≤ z ∧ z ≤ hi := by
  obtain ⟨x, e, h1, h2⟩ := h
  exact ⟨x.toInt, by rw [e, xi_of], h1, h2⟩
theorem yg_rf {p : Nat} {v : Value} (h : yg (.inr (.inr [p])) v) : v = .ref p := by
  obtain ⟨o, e, h1⟩ := h
  rw [e, List.mem_singleton.mp h1]
/-- a method's summary, by hand -/
theorem xq_of {W : List Nat} {T : List yC} {m : Nat} {ps : List yA} {ro : Option yA} (h : yx W T (m, ps, ro)) (hl : T.length = 154) (hth : yth m = false) {v0 : Value} {xs : List Int32} {u : Nat × Nat} {f : Nat → zE} {vs : List Value} (hf : yfa ps vs) (hM : yM T (xh f)) : xq v0 xs u m (lv_args 0 vs) f (fun r f' => yro ro r ∧ yM T (xh f') ∧ yF W (xh f) (xh f')) := by
  refine zwp_mono (h v0 xs vs (xh f, u) hf hM) fun o X' hq => ?_
  cases o with
  | inl r =>
    obtain ⟨q1, q2, q3, q4⟩ := hq
    obtain ⟨f', hf'⟩ := xh_ex (q2.1.trans hl)
    refine ⟨r, f', rfl, ?_, q1, by rw [← hf']; exact q2, by rw [← hf']; exact q4⟩
    rw [← hf']
    exact Prod.ext rfl q3
  | inr x =>
    have : yth m = true := hq.1
    rw [hth] at this
    cases this
theorem yF_at {W : List Nat} {f f' : Nat → zE} {p : Nat} (h : yF W (xh f) (xh f')) (hp : 50 ≤ p ∧ p < 204) (hW : ¬ p ∈ W) : f' p = f p := by
  have := h (p - 50) (by rw [Nat.sub_add_cancel hp.1]; exact hW)
  rw [xh_at hp.1 hp.2, xh_at hp.1 hp.2] at this
  exact Option.some.inj this
/-- what the search needs of the model's object -/
theorem xmT {f : Nat → zE} (hM : yM yT (xh f)) : ∃ (fs : List Value) (ca : Int) (al : List Int), f 177 = .inl (10, fs) ∧ fs[9]? = some (xi ca) ∧ (0 ≤ ca ∧ ca ≤ 12) ∧ fs[35]? = some (.ref 198) ∧ fs[38]? = some (.ref 200) ∧ f 198 = xr 2 al ∧ al.length = 12 ∧ ∀ j : Nat, j < 12 → 0 ≤ al.getD j 0 ∧ al.getD j 0 ≤ 1 := by
  obtain ⟨fs, h1, h2, h3⟩ := xT_o hM (p := 177) (by decide) rfl
  obtain ⟨al, a1, a2, a3⟩ := xT_a hM (p := 198) (by decide) rfl
  obtain ⟨v9, e9, g9⟩ := h3 9 _ rfl
  obtain ⟨v35, e35, g35⟩ := h3 35 _ rfl
  obtain ⟨v38, e38, g38⟩ := h3 38 _ rfl
  obtain ⟨ca, rfl, c1, c2⟩ := yg_i g9
  refine ⟨fs, ca, al, h1, e9, ⟨c1, c2⟩, by rw [e35, yg_rf g35], by rw [e38, yg_rf g38], a1, a2, fun j hj => ?_⟩
  have hl : al.length = 12 := a2
  exact a3 j (0, 1) (by simp only [yat]; rw [if_pos hj]) (by omega)
theorem xy_165l {v0 : Value} {xs : List Int32} {u : Nat × Nat} {f : Nat → zE} {c : Int} {fs : List Value} {al : List Int} (hc : 0 ≤ c ∧ c ≤ 12) (h177 : f 177 = .inl (10, fs)) (h35 : fs[35]? = some (.ref 198)) (h198 : f 198 = xr 2 al) (hl : al.length = 12) (hal : ∀ j : Nat, j < 12 → 0 ≤ al.getD j 0 ∧ al.getD j 0 ≤ 1) : ∀ (w : Nat) (k at' : Int) (lv : zL), k + 1 ≤ w + c → -1 ≤ k ∧ k ≤ 11 → zlv lv 0 = some (.ref 177) → zlv lv 1 = some (xi c) → zlv lv 2 = some (xi at') → zlv lv 3 = some (xi k) → (at' = -1 ∨ (c ≤ at' ∧ at' ≤ 11)) → xz v0 xs u (fun o X => ∃ r f', o = .inl r ∧ X = (xh f', u) ∧ (fun r f' => f' = f ∧ ∃ z : Int, r = some (xi z) ∧ (z = -1 ∨ (c ≤ z ∧ z ≤ 11))) r f') 165 9 lv [] f := by
  intro w
  induction w with
  | zero =>
    intro k at' lv hw hk l0 l1 l2 l3 ha
    refine x_iload_n rfl l3 ?_
    refine x_iload_n rfl l1 ?_
    refine x_clt (t := 35) rfl rfl ⟨by omega, by omega⟩ ⟨by omega, by omega⟩ (fun _ => ?_) (fun h => by omega)
    refine x_iload_n rfl l2 ?_
    refine x_ireturn rfl (Or.inl rfl) ⟨_, _, rfl, rfl, rfl, at', rfl, by omega⟩
  | succ w ih =>
    intro k at' lv hw hk0 l0 l1 l2 l3 ha
    refine x_iload_n rfl l3 ?_
    refine x_iload_n rfl l1 ?_
    refine x_clt (t := 35) rfl rfl ⟨by omega, by omega⟩ ⟨by omega, by omega⟩ (fun _ => ?_) (fun hk => ?_)
    · refine x_iload_n rfl l2 ?_
      refine x_ireturn rfl (Or.inl rfl) ⟨_, _, rfl, rfl, rfl, at', rfl, by omega⟩
    · refine x_aload_n rfl l0 ?_
      refine x_getfield rfl (by decide) h177 h35 ?_
      refine x_iload_n rfl l3 ?_
      refine x_baload rfl (by decide) h198 ⟨by omega, by omega⟩ (by omega) ?_
      have hb := hal k.toNat (by omega)
      refine x_ifeq (t := 27) rfl rfl ⟨by omega, by omega⟩ (fun _ => ?_) (fun _ => ?_)
      · refine x_iload_n rfl l2 ?_
        refine x_istore_n rfl (show (2 : Nat) < 4 from by decide) ?_
        refine x_iinc rfl (xst_ne (by decide) l3 (Or.inl rfl)) (show (3 : Nat) < 4 from by decide) ?_
        refine x_goto (t := 9) rfl rfl ?_
        exact ih (k + -1) at' _ (by omega) (by omega) (xst_ne (by decide) (xst_ne (by decide) l0 (Or.inl rfl)) (Or.inl rfl)) (xst_ne (by decide) (xst_ne (by decide) l1 (Or.inl rfl)) (Or.inl rfl)) (xst_ne (by decide) xst_eq (Or.inl rfl)) xst_eq (by omega)
      · refine x_iload_n rfl l3 ?_
        refine x_goto (t := 28) rfl rfl ?_
        refine x_istore_n rfl (show (2 : Nat) < 4 from by decide) ?_
        refine x_iinc rfl (xst_ne (by decide) l3 (Or.inl rfl)) (show (3 : Nat) < 4 from by decide) ?_
        refine x_goto (t := 9) rfl rfl ?_
        exact ih (k + -1) k _ (by omega) (by omega) (xst_ne (by decide) (xst_ne (by decide) l0 (Or.inl rfl)) (Or.inl rfl)) (xst_ne (by decide) (xst_ne (by decide) l1 (Or.inl rfl)) (Or.inl rfl)) (xst_ne (by decide) xst_eq (Or.inl rfl)) xst_eq (by omega)
theorem xy_165 {v0 : Value} {xs : List Int32} {u : Nat × Nat} {f : Nat → zE} {c : Int} (hc : 0 ≤ c ∧ c ≤ 12) (hM : yM yT (xh f)) : xq v0 xs u 165 [(0, .ref 177), (1, xi c)] f (fun r f' => f' = f ∧ ∃ z : Int, r = some (xi z) ∧ (z = -1 ∨ (c ≤ z ∧ z ≤ 11))) := by
  unfold xq
  obtain ⟨fs, ca, al, h177, h9, hca, h35, h38, h198, hl, hal⟩ := xmT hM
  refine x_iconst rfl ?_
  refine x_istore_n rfl (show (2 : Nat) < 4 from by decide) ?_
  refine x_aload_n rfl (xst_ne (by decide) rfl (Or.inl rfl)) ?_
  refine x_getfield rfl (by decide) h177 h9 ?_
  refine x_iconst rfl ?_
  refine x_isub rfl ?_
  refine x_istore_n rfl (show (3 : Nat) < 4 from by decide) ?_
  exact xy_165l hc h177 h35 h198 hl hal 13 (ca - 1) (-1) _ (by omega) (by omega) (xst_ne (by decide) (xst_ne (by decide) rfl (Or.inl rfl)) (Or.inl rfl)) (xst_ne (by decide) (xst_ne (by decide) rfl (Or.inl rfl)) (Or.inl rfl)) (xst_ne (by decide) xst_eq (Or.inl rfl)) xst_eq (Or.inl rfl)
def yW3 : List Nat := 200 :: yW
def xpf (many : Nat) (tl : List Int) : Nat → Int
  | 0 => 0
  | k + 1 => xpf many tl k + (12 - tl.getD k 0) * 14 ^ (many - k)
def xccs (t : Int) : Int := if t < 0 then 1 else 13 - t
def xVv (many : Nat) (tl : List Int) (k : Nat) : Int := xpf many tl k + (if k < many then xccs (tl.getD k 0) * 14 ^ (many - k) else 1)
theorem xpf_set {many : Nat} {tl : List Int} {i : Nat} {x : Int} : ∀ k, k ≤ i → xpf many (tl.set i x) k = xpf many tl k := by
  intro k
  induction k with
  | zero => intro _; rfl
  | succ k ih =>
    intro h
    simp only [xpf]
    rw [ih (by omega), x_gset, if_neg (by omega)]
theorem x14 (k : Nat) : (1 : Int) ≤ 14 ^ k := by
  induction k with
  | zero => decide
  | succ k ih => rw [Int.pow_succ]; omega
theorem xpf_nn {many : Nat} {tl : List Int} (h : ∀ j : Nat, tl.getD j 0 ≤ 11) : ∀ k, 0 ≤ xpf many tl k := by
  intro k
  induction k with
  | zero => exact Int.le_refl _
  | succ k ih =>
    simp only [xpf]
    have h1 := h k
    have h2 := x14 (many - k)
    have : 0 ≤ (12 - tl.getD k 0) * 14 ^ (many - k) := Int.mul_nonneg (by omega) (by omega)
    omega
theorem xccs_rg {t : Int} (h : -1 ≤ t ∧ t ≤ 11) : 1 ≤ xccs t ∧ xccs t ≤ 13 := by
  unfold xccs
  split <;> omega
theorem xVv_pos {many : Nat} {tl : List Int} {k : Nat} (h : ∀ j : Nat, -1 ≤ tl.getD j 0 ∧ tl.getD j 0 ≤ 11) : 1 ≤ xVv many tl k := by
  unfold xVv
  have h1 := xpf_nn (many := many) (fun j => (h j).2) k
  split
  · have h2 := x14 (many - k)
    have h3 := xccs_rg (h k)
    have : 1 * 1 ≤ xccs (tl.getD k 0) * 14 ^ (many - k) := Int.mul_le_mul h3.1 h2 (by decide) (by omega)
    omega
  · omega
theorem xcc_next {t t' : Int} (ht : 0 ≤ t ∧ t ≤ 11) (h : t' = -1 ∨ (t + 1 ≤ t' ∧ t' ≤ 11)) : xccs t' ≤ 12 - t := by
  unfold xccs
  split <;> omega
/-- back to the level before, and on there -/
theorem xVv_pop {many k : Nat} {tl : List Int} {t' : Int} (hk : k < many) (hl : tl.length = 5) (hk5 : k < 5) (h : ∀ j : Nat, -1 ≤ tl.getD j 0 ∧ tl.getD j 0 ≤ 11) (ht : 0 ≤ tl.getD k 0) (h' : t' = -1 ∨ (tl.getD k 0 + 1 ≤ t' ∧ t' ≤ 11)) : xVv many (tl.set k t') k < xVv many tl (k + 1) := by
  unfold xVv
  rw [xpf_set k (Nat.le_refl _), if_pos hk, x_gset, if_pos ⟨rfl, by omega⟩]
  simp only [xpf]
  have h1 := xcc_next ⟨ht, (h k).2⟩ h'
  have h2 := x14 (many - k)
  have h3 : xccs t' * 14 ^ (many - k) ≤ (12 - tl.getD k 0) * 14 ^ (many - k) := Int.mul_le_mul_of_nonneg_right h1 (by omega)
  split
  · have h4 := x14 (many - (k + 1))
    have h5 := xccs_rg (h (k + 1))
    have : 1 * 1 ≤ xccs (tl.getD (k + 1) 0) * 14 ^ (many - (k + 1)) := Int.mul_le_mul h5.1 h4 (by decide) (by omega)
    omega
  · omega
theorem xVv_adv {many k : Nat} {tl : List Int} {t' : Int} (hk : k < many) (hl : tl.length = 5) (hk5 : k < 5) (h : ∀ j : Nat, -1 ≤ tl.getD j 0 ∧ tl.getD j 0 ≤ 11) (ht : 0 ≤ tl.getD k 0) (h' : t' = -1 ∨ (tl.getD k 0 + 1 ≤ t' ∧ t' ≤ 11)) : xVv many (tl.set k t') k < xVv many tl k := by
  unfold xVv
  rw [xpf_set k (Nat.le_refl _), if_pos hk, if_pos hk, x_gset, if_pos ⟨rfl, by omega⟩]
  have h1 := xcc_next ⟨ht, (h k).2⟩ h'
  have h2 := x14 (many - k)
  have h3 : xccs t' * 14 ^ (many - k) ≤ (12 - tl.getD k 0) * 14 ^ (many - k) := Int.mul_le_mul_of_nonneg_right h1 (by omega)
  have h4 : xccs (tl.getD k 0) = (12 - tl.getD k 0) + 1 := by unfold xccs; rw [if_neg (by omega)]; omega
  rw [h4, Int.add_mul, Int.one_mul]
  omega
theorem xVv_push {many k : Nat} {tl : List Int} {x : Int} (hk : k < many) (hl : tl.length = 5) (hk5 : k + 1 < 5) (h : ∀ j : Nat, -1 ≤ tl.getD j 0 ∧ tl.getD j 0 ≤ 11) (ht : 0 ≤ tl.getD k 0) (hx : -1 ≤ x ∧ x ≤ 11) : xVv many (tl.set (k + 1) x) (k + 1) < xVv many tl k := by
  unfold xVv
  have eg : (tl.set (k + 1) x).getD (k + 1) 0 = x := by rw [x_gset, if_pos ⟨rfl, by omega⟩]
  rw [xpf_set (k + 1) (Nat.le_refl _), eg, if_pos hk]
  simp only [xpf]
  have e : (14 : Int) ^ (many - k) = 14 ^ (many - (k + 1)) * 14 := by rw [← Int.pow_succ]; congr 1; omega
  have h2 := x14 (many - (k + 1))
  have h4 : xccs (tl.getD k 0) = (12 - tl.getD k 0) + 1 := by unfold xccs; rw [if_neg (by omega)]; omega
  rw [h4, Int.add_mul, Int.one_mul, e]
  have h5 := xccs_rg hx
  have h6 : xccs x * 14 ^ (many - (k + 1)) ≤ 13 * 14 ^ (many - (k + 1)) := Int.mul_le_mul_of_nonneg_right h5.2 (by omega)
  split <;> omega
theorem xok_tr {l : List Int} (hl : l.length = 5) (h : ∀ j : Nat, -1 ≤ l.getD j 0 ∧ l.getD j 0 ≤ 11) : yok (.inr (.inl (0, [(5, -1, 11)]))) (xr 0 l) := by
  refine yok_mk (by rw [List.length_map]; exact hl) fun z hz => ?_
  obtain ⟨y, hy, rfl⟩ := List.mem_map.mp hz
  obtain ⟨j, hj, rfl⟩ := List.getElem_of_mem hy
  have := h j
  rw [List.getD_eq_getElem?_getD, List.getElem?_eq_getElem hj] at this
  have e := xi_toInt (z := l[j]) (by simp at this; omega) (by simp at this; omega)
  exact ⟨by rw [e]; exact this.1, by rw [e]; exact this.2⟩
theorem yM_xu {T : List yC} {f : Nat → zE} {p : Nat} {t : yC} {c : zE} (hM : yM T (xh f)) (hp : 50 ≤ p) (ht : T[p - 50]? = some t) (hc : yok t c) : yM T (xh (xu f p c)) := by
  rw [← xh_set hp]
  exact yM_set hM ht hc
theorem yF_xu {W : List Nat} {f0 f : Nat → zE} {p : Nat} {c : zE} (h : yF W (xh f0) (xh f)) (hp : 50 ≤ p) (hW : p ∈ W) : yF W (xh f0) (xh (xu f p c)) := by
  intro k hk
  rw [← xh_set hp, List.getElem?_set_ne (by intro e; apply hk; rw [← e, Nat.sub_add_cancel hp]; exact hW)]
  exact h k hk
theorem yM_re {T : List yC} {M : List zE} {j : Nat} {t' : yC} (hM : yM T M) (hc : ∀ c, M[j]? = some c → yok t' c) : yM (T.set j t') M := by
  refine ⟨by simp [hM.1], fun k u hu => ?_⟩
  by_cases hk : j = k
  · subst hk
    have hj : j < T.length := by
      have := (List.getElem?_eq_some_iff.mp hu).1
      simpa using this
    rw [List.getElem?_set_self hj] at hu
    cases hu
    obtain ⟨c, h1, -⟩ := hM.2 j _ (List.getElem?_eq_getElem hj)
    exact ⟨c, h1, hc c h1⟩
  · rw [List.getElem?_set_ne hk] at hu
    exact hM.2 k u hu
/-- a trial that is there -/
theorem yok_trk {k : Nat} {l : List Int} (hk : k < 4) (hl : l.length = 5) (h : ∀ j : Nat, -1 ≤ l.getD j 0 ∧ l.getD j 0 ≤ 11) (ht : 0 ≤ l.getD k 0) : yok (.inr (.inl (0, [(k, -1, 11), (1, 0, 11), (4 - k, -1, 11)]))) (xr 0 l) := by
  refine ⟨rfl, ?_, fun j q z hq hz => ?_⟩
  · show (l.map Int32.ofInt).length = k + (1 + (4 - k + 0))
    rw [List.length_map]
    omega
  · have hz' : (l.map Int32.ofInt)[j]? = some z := hz
    rw [List.getElem?_map] at hz'
    cases hlj : l[j]? with
    | none => rw [hlj] at hz'; cases hz'
    | some y =>
      rw [hlj] at hz'
      cases hz'
      have h1 := h j
      rw [List.getD_eq_getElem?_getD, hlj] at h1
      simp only [Option.getD_some] at h1
      have e := xi_toInt (z := y) (by omega) (by omega)
      have hq' : yat [(k, (-1, 11)), (1, (0, 11)), (4 - k, (-1, 11))] j = some q := hq
      by_cases c1 : j < k
      · simp only [yat] at hq'
        rw [if_pos c1] at hq'
        cases hq'
        exact ⟨by rw [e]; exact h1.1, by rw [e]; exact h1.2⟩
      · by_cases c2 : j = k
        · subst c2
          simp only [yat, Nat.lt_irrefl, if_false, Nat.sub_self, Nat.zero_lt_one, if_true] at hq'
          cases hq'
          rw [List.getD_eq_getElem?_getD, hlj] at ht
          simp only [Option.getD_some] at ht
          exact ⟨by rw [e]; exact ht, by rw [e]; exact h1.2⟩
        · simp only [yat] at hq'
          rw [if_neg c1, if_neg (by omega)] at hq'
          split at hq'
          · cases hq'
            exact ⟨by rw [e]; exact h1.1, by rw [e]; exact h1.2⟩
          · cases hq'
theorem yM_trk {k : Nat} {f : Nat → zE} {tl : List Int} (hk : k < 4) (hM : yM yT (xh f)) (h200 : f 200 = xr 0 tl) (hl : tl.length = 5) (h : ∀ j : Nat, -1 ≤ tl.getD j 0 ∧ tl.getD j 0 ≤ 11) (ht : 0 ≤ tl.getD k 0) : yM (yT.set 150 (.inr (.inl (0, [(k, -1, 11), (1, 0, 11), (4 - k, -1, 11)])))) (xh f) := by
  refine yM_re hM fun c hc => ?_
  have e : (xh f)[150]? = some (f 200) := xh_at (p := 200) (by decide) (by decide)
  rw [e, h200] at hc
  cases hc
  exact yok_trk hk hl h ht
theorem xy_166 {v0 : Value} {xs : List Int32} {u : Nat × Nat} {f : Nat → zE} {k : Nat} {tl : List Int} (hk : k < 4) (hM : yM yT (xh f)) (h200 : f 200 = xr 0 tl) (hl : tl.length = 5) (h : ∀ j : Nat, -1 ≤ tl.getD j 0 ∧ tl.getD j 0 ≤ 11) (ht : 0 ≤ tl.getD k 0) : xq v0 xs u 166 [(0, .ref 177), (1, xi (k : Nat))] f (fun r f' => yro (some (.inl (0, 1))) r ∧ yM yT (xh f') ∧ yF yW (xh f) (xh f')) := by
  have hT := yM_trk hk hM h200 hl h ht
  have key : ∀ (T : List yC) (ps : List yA), yR yW yT T → yx yW T (166, ps, some (.inl (0, 1))) → yfa ps [.ref 177, xi (k : Nat)] → yM T (xh f) → xq v0 xs u 166 [(0, .ref 177), (1, xi (k : Nat))] f (fun r f' => yro (some (.inl (0, 1))) r ∧ yM yT (xh f') ∧ yF yW (xh f) (xh f')) := fun T ps hR hv hf hMT => xq_mono (xq_of hv (hR.1.symm.trans (by decide +kernel : yT.length = 154)) rfl hf hMT) fun r f' hq => ⟨hq.1, yM_sub hR hq.2.1, hq.2.2⟩
  have arg : ∀ q : Int × Int, q.1 ≤ (k : Nat) → ((k : Nat) : Int) ≤ q.2 → yfa [.inr (.inr [177]), .inl q] [.ref 177, xi (k : Nat)] := fun q q1 q2 => ⟨⟨177, rfl, by simp⟩, ⟨_, rfl, by rw [xi_toInt (by omega) (by omega)]; exact q1, by rw [xi_toInt (by omega) (by omega)]; exact q2⟩, trivial⟩
  match k, hk with
  | 0, _ => exact key _ _ yRt_0 yv166_0 (arg _ (by decide) (by decide)) hT
  | 1, _ => exact key _ _ yRt_1 yv166_1 (arg _ (by decide) (by decide)) hT
  | 2, _ => exact key _ _ yRt_2 yv166_2 (arg _ (by decide) (by decide)) hT
  | 3, _ => exact key _ _ yRt_3 yv166_3 (arg _ (by decide) (by decide)) hT
end
section
/-! The model's search ends. -/
theorem xs_167l {v0 : Value} {xs : List Int32} {u : Nat × Nat} {f0 : Nat → zE} {many : Nat} (hm : 1 ≤ many ∧ many ≤ 4) : ∀ (w k : Nat) (f : Nat → zE) (lv : zL) (tl : List Int), xVv many tl k < w → k ≤ many → zlv lv 0 = some (.ref 177) → zlv lv 1 = some (xi (many : Nat)) → zlv lv 2 = some (xi (k : Nat)) → f 200 = xr 0 tl → tl.length = 5 → (∀ j : Nat, -1 ≤ tl.getD j 0 ∧ tl.getD j 0 ≤ 11) → (∀ j : Nat, j < k → 0 ≤ tl.getD j 0) → yM yT (xh f) → yF yW3 (xh f0) (xh f) → xz v0 xs u (fun o X => ∃ r f', o = .inl r ∧ X = (xh f', u) ∧ (fun r f' => yro (some (.inl (0, 1))) r ∧ yM yT (xh f') ∧ yF yW3 (xh f0) (xh f')) r f') 167 13 lv [] f := by
  intro w
  induction w with
  | zero =>
    intro k f lv tl hV hk l0 l1 l2 h200 hl hb hlow hM hF
    have := xVv_pos (many := many) (k := k) hb
    omega
  | succ w ih =>
    intro k f lv tl hV hk l0 l1 l2 h200 hl hb hlow hM hF
    obtain ⟨fs, ca, al, h177, h9, hca, h35, h38, h198, hal, hal2⟩ := xmT hM
    refine x_iload_n rfl l2 ?_
    refine x_iflt (t := 148) rfl rfl ⟨by omega, by omega⟩ (fun h => by omega) (fun _ => ?_)
    refine x_iload_n rfl l2 ?_
    refine x_iload_n rfl l1 ?_
    refine x_cne (t := 56) rfl rfl ⟨by omega, by omega⟩ ⟨by omega, by omega⟩ (fun hne => ?_) (fun heq => ?_)
    · have hkm : k < many := by omega
      refine x_aload_n rfl l0 ?_
      refine x_getfield rfl (by decide) h177 h38 ?_
      refine x_iload_n rfl l2 ?_
      refine x_iaload rfl (by decide) h200 ⟨by omega, by omega⟩ (by omega) ?_
      rw [Int.toNat_natCast]
      have hbk := hb k
      refine x_ifge (t := 93) rfl rfl ⟨by omega, by omega⟩ (fun ht => ?_) (fun ht => ?_)
      · refine x_aload_n rfl l0 ?_
        refine x_iload_n rfl l2 ?_
        refine x_call [_, _] rfl rfl (show (0 : Nat) ≤ 8 from by decide) (show (2 : Nat) ≤ 5 from by decide) (x_rcv (by decide) h177) (xy_166 (k := k) (by omega) hM h200 hl hb ht) (fun r' f1 hP => ?_)
        obtain ⟨hro, hMb, hF1⟩ := hP
        have h200b : f1 200 = xr 0 tl := (yF_at hF1 (by decide) (by decide +kernel)).trans h200
        have hFb : yF yW3 (xh f0) (xh f1) := fun j hj => (hF1 j (fun h => hj (List.mem_cons_of_mem _ h))).trans (hF j hj)
        obtain ⟨fsb, cab, alb, h177b, h9b, hcab, h35b, h38b, h198b, halb, hal2b⟩ := xmT hMb
        cases r' with
        | none => exact hro.elim
        | some vv =>
          obtain ⟨z, rfl, hz1, hz2⟩ := yg_i hro
          refine x_ifeq (t := 127) rfl rfl ⟨by omega, by omega⟩ (fun _ => ?_) (fun _ => ?_)
          · skip
            refine x_aload_n rfl l0 ?_
            refine x_getfield rfl (by decide) h177b h38b ?_
            refine x_iload_n rfl l2 ?_
            refine x_aload_n rfl l0 ?_
            refine x_aload_n rfl l0 ?_
            refine x_getfield rfl (by decide) h177b h38b ?_
            refine x_iload_n rfl l2 ?_
            refine x_iaload rfl (by decide) h200b ⟨by omega, by omega⟩ (by omega) ?_
            rw [Int.toNat_natCast]
            refine x_iconst rfl ?_
            refine x_iadd rfl ?_
            have hrg := hb (k)
            refine x_call [_, _] rfl rfl (show (2 : Nat) ≤ 8 from by decide) (show (2 : Nat) ≤ 4 from by decide) (x_rcv (by decide) h177b) (xy_165 (c := tl.getD (k) 0 + 1) ⟨by omega, by omega⟩ hMb) (fun r' f9 hP => ?_)
            obtain ⟨hfe, t', rfl, ht'⟩ := hP
            subst hfe
            refine x_iastore rfl (by decide) h200b ⟨by omega, by omega⟩ (by omega) ?_
            rw [Int.toNat_natCast]
            refine x_goto (t := 13) rfl rfl ?_
            have hb2 : ∀ j : Nat, -1 ≤ (tl.set (k) t').getD j 0 ∧ (tl.set (k) t').getD j 0 ≤ 11 := fun j => by
              rw [x_gset]; split
              · omega
              · exact hb j
            refine ih (k) _ _ (tl.set (k) t') ?_ (by omega) l0 l1 l2 xu_eq (by rw [List.length_set]; exact hl) hb2 (fun j hj => by rw [x_gset, if_neg (by omega)]; exact hlow j (by omega)) (yM_xu hMb (by decide) rfl (xok_tr (by rw [List.length_set]; exact hl) hb2)) (yF_xu hFb (by decide) (by decide +kernel))
            have := xVv_adv hkm hl (by omega) hb ht ht'; omega
          · refine x_iinc rfl l2 (show (2 : Nat) < 3 from by decide) ?_
            have ek : ((k : Nat) : Int) + 1 = ((k + 1 : Nat) : Int) := by omega
            rw [ek]
            refine x_aload_n rfl (xst_ne (by decide) l0 (Or.inl rfl)) ?_
            refine x_getfield rfl (by decide) h177b h38b ?_
            refine x_iload_n rfl xst_eq ?_
            refine x_iload_n rfl xst_eq ?_
            refine x_iload_n rfl (xst_ne (by decide) l1 (Or.inl rfl)) ?_
            refine x_cge (t := 122) rfl rfl ⟨by omega, by omega⟩ ⟨by omega, by omega⟩ (fun _ => ?_) (fun _ => ?_)
            · refine x_iconst rfl ?_
              refine x_iastore rfl (by decide) h200b ⟨by omega, by omega⟩ (by omega) ?_
              rw [Int.toNat_natCast]
              refine x_goto (t := 13) rfl rfl ?_
              have hb2 : ∀ j : Nat, -1 ≤ (tl.set (k + 1) 0).getD j 0 ∧ (tl.set (k + 1) 0).getD j 0 ≤ 11 := fun j => by
                rw [x_gset]; split
                · omega
                · exact hb j
              refine ih (k + 1) _ _ (tl.set (k + 1) 0) ?_ (by omega) (xst_ne (by decide) l0 (Or.inl rfl)) (xst_ne (by decide) l1 (Or.inl rfl)) xst_eq xu_eq (by rw [List.length_set]; exact hl) hb2 (fun j hj => ?_) (yM_xu hMb (by decide) rfl (xok_tr (by rw [List.length_set]; exact hl) hb2)) (yF_xu hFb (by decide) (by decide +kernel))
              · have := xVv_push (x := 0) hkm hl (by omega) hb ht (by omega); omega
              · rw [x_gset, if_neg (by omega)]
                by_cases ej : j = k
                · rw [ej]; exact ht
                · exact hlow j (by omega)
            · refine x_aload_n rfl (xst_ne (by decide) l0 (Or.inl rfl)) ?_
              refine x_iconst rfl ?_
              refine x_call [_, _] rfl rfl (show (2 : Nat) ≤ 8 from by decide) (show (2 : Nat) ≤ 4 from by decide) (x_rcv (by decide) h177b) (xy_165 (c := 0) (by decide) hMb) (fun r' f9 hP => ?_)
              obtain ⟨hfe, t', rfl, ht'⟩ := hP
              subst hfe
              refine x_goto (t := 123) rfl rfl ?_
              refine x_iastore rfl (by decide) h200b ⟨by omega, by omega⟩ (by omega) ?_
              rw [Int.toNat_natCast]
              refine x_goto (t := 13) rfl rfl ?_
              have hb2 : ∀ j : Nat, -1 ≤ (tl.set (k + 1) t').getD j 0 ∧ (tl.set (k + 1) t').getD j 0 ≤ 11 := fun j => by
                rw [x_gset]; split
                · omega
                · exact hb j
              refine ih (k + 1) _ _ (tl.set (k + 1) t') ?_ (by omega) (xst_ne (by decide) l0 (Or.inl rfl)) (xst_ne (by decide) l1 (Or.inl rfl)) xst_eq xu_eq (by rw [List.length_set]; exact hl) hb2 (fun j hj => ?_) (yM_xu hMb (by decide) rfl (xok_tr (by rw [List.length_set]; exact hl) hb2)) (yF_xu hFb (by decide) (by decide +kernel))
              · have := xVv_push (x := t') hkm hl (by omega) hb ht (by omega); omega
              · rw [x_gset, if_neg (by omega)]
                by_cases ej : j = k
                · rw [ej]; exact ht
                · exact hlow j (by omega)
      · refine x_iinc rfl l2 (show (2 : Nat) < 3 from by decide) ?_
        refine x_iload_n rfl xst_eq ?_
        refine x_iflt (t := 13) rfl rfl ⟨by omega, by omega⟩ (fun hneg => ?_) (fun hge => ?_)
        · refine x_iload_n rfl xst_eq ?_
          refine x_iflt (t := 148) rfl rfl ⟨by omega, by omega⟩ (fun _ => ?_) (fun h => by omega)
          refine x_iconst rfl ?_
          exact x_ireturn rfl (Or.inr (Or.inl ⟨rfl, by decide⟩)) ⟨_, _, rfl, rfl, ⟨_, rfl, by decide, by decide⟩, hM, hF⟩
        · obtain ⟨k1, rfl⟩ : ∃ k1, k = k1 + 1 := ⟨k - 1, by omega⟩
          have ek : ((k1 + 1 : Nat) : Int) + -1 = ((k1 : Nat) : Int) := by omega
          rw [ek]
          have hlo := hlow k1 (by omega)
          refine x_aload_n rfl (xst_ne (by decide) l0 (Or.inl rfl)) ?_
          refine x_getfield rfl (by decide) h177 h38 ?_
          refine x_iload_n rfl xst_eq ?_
          refine x_aload_n rfl (xst_ne (by decide) l0 (Or.inl rfl)) ?_
          refine x_aload_n rfl (xst_ne (by decide) l0 (Or.inl rfl)) ?_
          refine x_getfield rfl (by decide) h177 h38 ?_
          refine x_iload_n rfl xst_eq ?_
          refine x_iaload rfl (by decide) h200 ⟨by omega, by omega⟩ (by omega) ?_
          rw [Int.toNat_natCast]
          refine x_iconst rfl ?_
          refine x_iadd rfl ?_
          have hrg := hb (k1)
          refine x_call [_, _] rfl rfl (show (2 : Nat) ≤ 8 from by decide) (show (2 : Nat) ≤ 4 from by decide) (x_rcv (by decide) h177) (xy_165 (c := tl.getD (k1) 0 + 1) ⟨by omega, by omega⟩ hM) (fun r' f9 hP => ?_)
          obtain ⟨hfe, t', rfl, ht'⟩ := hP
          subst hfe
          refine x_iastore rfl (by decide) h200 ⟨by omega, by omega⟩ (by omega) ?_
          rw [Int.toNat_natCast]
          refine x_goto (t := 13) rfl rfl ?_
          have hb2 : ∀ j : Nat, -1 ≤ (tl.set (k1) t').getD j 0 ∧ (tl.set (k1) t').getD j 0 ≤ 11 := fun j => by
            rw [x_gset]; split
            · omega
            · exact hb j
          refine ih (k1) _ _ (tl.set (k1) t') ?_ (by omega) (xst_ne (by decide) l0 (Or.inl rfl)) (xst_ne (by decide) l1 (Or.inl rfl)) xst_eq xu_eq (by rw [List.length_set]; exact hl) hb2 (fun j hj => by rw [x_gset, if_neg (by omega)]; exact hlow j (by omega)) (yM_xu hM (by decide) rfl (xok_tr (by rw [List.length_set]; exact hl) hb2)) (yF_xu hF (by decide) (by decide +kernel))
          have := xVv_pop (many := many) (by omega) hl (by omega) hb hlo ht'; omega
    · refine x_aload_n rfl l0 ?_
      refine x_iload_n rfl l2 ?_
      refine x_call [_, _] rfl rfl (show (0 : Nat) ≤ 8 from by decide) (show (2 : Nat) ≤ 4 from by decide) (x_rcv (by decide) h177) (xq_of (W := yW) (T := yT) yv164 (by decide +kernel) rfl (vs := [.ref 177, xi (k : Nat)]) ⟨⟨177, rfl, by simp⟩, ⟨_, rfl, by rw [xi_toInt (by omega) (by omega)]; dsimp only; omega, by rw [xi_toInt (by omega) (by omega)]; dsimp only; omega⟩, trivial⟩ hM) (fun r' f1 hP => ?_)
      obtain ⟨hro, hMb, hF1⟩ := hP
      have h200b : f1 200 = xr 0 tl := (yF_at hF1 (by decide) (by decide +kernel)).trans h200
      have hFb : yF yW3 (xh f0) (xh f1) := fun j hj => (hF1 j (fun h => hj (List.mem_cons_of_mem _ h))).trans (hF j hj)
      obtain ⟨fsb, cab, alb, h177b, h9b, hcab, h35b, h38b, h198b, halb, hal2b⟩ := xmT hMb
      cases r' with
      | none => exact hro.elim
      | some vv =>
        obtain ⟨z, rfl, hz1, hz2⟩ := yg_i hro
        refine x_ifeq (t := 32) rfl rfl ⟨by omega, by omega⟩ (fun _ => ?_) (fun _ => ?_)
        · refine x_iinc rfl l2 (show (2 : Nat) < 3 from by decide) ?_
          obtain ⟨k1, rfl⟩ : ∃ k1, k = k1 + 1 := ⟨k - 1, by omega⟩
          have ek : ((k1 + 1 : Nat) : Int) + -1 = ((k1 : Nat) : Int) := by omega
          rw [ek]
          have hlo := hlow k1 (by omega)
          refine x_aload_n rfl (xst_ne (by decide) l0 (Or.inl rfl)) ?_
          refine x_getfield rfl (by decide) h177b h38b ?_
          refine x_iload_n rfl xst_eq ?_
          refine x_aload_n rfl (xst_ne (by decide) l0 (Or.inl rfl)) ?_
          refine x_aload_n rfl (xst_ne (by decide) l0 (Or.inl rfl)) ?_
          refine x_getfield rfl (by decide) h177b h38b ?_
          refine x_iload_n rfl xst_eq ?_
          refine x_iaload rfl (by decide) h200b ⟨by omega, by omega⟩ (by omega) ?_
          rw [Int.toNat_natCast]
          refine x_iconst rfl ?_
          refine x_iadd rfl ?_
          have hrg := hb (k1)
          refine x_call [_, _] rfl rfl (show (2 : Nat) ≤ 8 from by decide) (show (2 : Nat) ≤ 4 from by decide) (x_rcv (by decide) h177b) (xy_165 (c := tl.getD (k1) 0 + 1) ⟨by omega, by omega⟩ hMb) (fun r' f9 hP => ?_)
          obtain ⟨hfe, t', rfl, ht'⟩ := hP
          subst hfe
          refine x_iastore rfl (by decide) h200b ⟨by omega, by omega⟩ (by omega) ?_
          rw [Int.toNat_natCast]
          refine x_goto (t := 13) rfl rfl ?_
          have hb2 : ∀ j : Nat, -1 ≤ (tl.set (k1) t').getD j 0 ∧ (tl.set (k1) t').getD j 0 ≤ 11 := fun j => by
            rw [x_gset]; split
            · omega
            · exact hb j
          refine ih (k1) _ _ (tl.set (k1) t') ?_ (by omega) (xst_ne (by decide) l0 (Or.inl rfl)) (xst_ne (by decide) l1 (Or.inl rfl)) xst_eq xu_eq (by rw [List.length_set]; exact hl) hb2 (fun j hj => by rw [x_gset, if_neg (by omega)]; exact hlow j (by omega)) (yM_xu hMb (by decide) rfl (xok_tr (by rw [List.length_set]; exact hl) hb2)) (yF_xu hFb (by decide) (by decide +kernel))
          have := xVv_pop (many := many) (by omega) hl (by omega) hb hlo ht'; omega
        · refine x_iconst rfl ?_
          exact x_ireturn rfl (Or.inr (Or.inl ⟨rfl, by decide⟩)) ⟨_, _, rfl, rfl, ⟨_, rfl, by decide, by decide⟩, hMb, hFb⟩
def yc167 : ySm := (167, [.inr (.inr [177]), .inl (1, 4)], some (.inl (0, 1)))
theorem yv167 : yx yW3 yT yc167 := by
  intro v0 xs vs X hf hM
  obtain ⟨f, hfx⟩ := xh_ex (hM.1.trans (by decide +kernel : yT.length = 154))
  match vs, hf with
  | [v1, v2], hf =>
    obtain ⟨h1, h2, -⟩ := hf
    have e1 := yg_rf h1
    obtain ⟨z, e2, z1, z2⟩ := yg_i h2
    subst e1
    subst e2
    obtain ⟨many, rfl⟩ := Int.eq_ofNat_of_zero_le (show 0 ≤ z by omega)
    have hM' : yM yT (xh f) := by rw [← hfx]; exact hM
    obtain ⟨fs, ca, al, h177, h9, hca, h35, h38, h198, hal, hal2⟩ := xmT hM'
    obtain ⟨tl, h200, hl, hb0⟩ := xT_a hM' (p := 200) (by decide) rfl
    have hl5 : tl.length = 5 := hl
    have hb : ∀ j : Nat, -1 ≤ tl.getD j 0 ∧ tl.getD j 0 ≤ 11 := fun j => by
      by_cases hj : j < 5
      · exact hb0 j (-1, 11) (by simp only [yat]; rw [if_pos hj]) (by omega)
      · rw [List.getD_eq_getElem?_getD, List.getElem?_eq_none (by omega)]
        exact ⟨by decide, by decide⟩
    have key : xz v0 xs X.2 (fun o X' => ∃ r f', o = .inl r ∧ X' = (xh f', X.2) ∧ (fun r f' => yro (some (.inl (0, 1))) r ∧ yM yT (xh f') ∧ yF yW3 (xh f) (xh f')) r f') 167 0 [(0, .ref 177), (1, xi (many : Nat))] [] f := by
      refine x_iconst rfl ?_
      refine x_istore_n rfl (show (2 : Nat) < 3 from by decide) ?_
      refine x_aload_n rfl (xst_ne (by decide) rfl (Or.inl rfl)) ?_
      refine x_getfield rfl (by decide) h177 h38 ?_
      refine x_iconst rfl ?_
      refine x_aload_n rfl (xst_ne (by decide) rfl (Or.inl rfl)) ?_
      refine x_iconst rfl ?_
      refine x_call [_, _] rfl rfl (show (2 : Nat) ≤ 8 from by decide) (show (2 : Nat) ≤ 4 from by decide) (x_rcv (by decide) h177) (xy_165 (c := 0) (by decide) hM') (fun r' f9 hP => ?_)
      obtain ⟨hfe, t', rfl, ht'⟩ := hP
      subst hfe
      refine x_iastore rfl (by decide) h200 ⟨by decide, by omega⟩ (by omega) ?_
      have hb2 : ∀ j : Nat, -1 ≤ (tl.set (0 : Int).toNat t').getD j 0 ∧ (tl.set (0 : Int).toNat t').getD j 0 ≤ 11 := fun j => by
        rw [x_gset]; split
        · omega
        · exact hb j
      exact xs_167l (f0 := f9) (by omega) (xVv many (tl.set (0 : Int).toNat t') 0 + 1).toNat 0 _ _ (tl.set (0 : Int).toNat t') (by omega) (by omega) (xst_ne (by decide) rfl (Or.inl rfl)) (xst_ne (by decide) rfl (Or.inl rfl)) xst_eq xu_eq (by rw [List.length_set]; exact hl5) hb2 (fun j hj => absurd hj (Nat.not_lt_zero _)) (yM_xu hM' (by decide) rfl (xok_tr (by rw [List.length_set]; exact hl5) hb2)) (yF_xu (fun _ _ => rfl) (by decide) (by decide +kernel))
    have hX : X = (xh f, X.2) := Prod.ext hfx rfl
    rw [hX]
    refine zwp_mono key fun o X' hq => ?_
    obtain ⟨r, f', rfl, rfl, q1, q2, q3⟩ := hq
    exact ⟨q1, q2, rfl, by rw [hX] at *; exact q3⟩
end
section
/-! The model's resolve (printed by crt_main.py). -/
def yc168 : ySm := (168, [.inr (.inr [177])], some (.inl ((-1), 4)))
theorem yv168 : yx yW3 (yT) yc168 := yw_of (Sm := [yc164, yc167]) (K := [(1, 8, 1), (1, 5, 1), (1, 4, 1)]) (Hs := [(12, [(0, .inr (.inr [177])), (1, .inl (0, 8))], 10, [true, false, false]), (70, [(0, .inr (.inr [177])), (1, .inl (1, 5))], 5, [false, true, false]), (107, [(0, .inr (.inr [177])), (1, .inl (0, 4))], 0, [false, false, true])]) (Ho := [(12, [(177, 10, 0, 0, 0), (177, 10, 36, (-1), (-1))]), (70, [(177, 10, 0, 0, 0), (177, 10, 36, (-1), 4)]), (107, [(177, 10, 0, 0, 0), (177, 10, 36, (-1), 4)])]) (R := 19) (n := 30) (yw_c (yw_W (W := yW) (by decide +kernel) yv164) (yw_c yv167 yw_n)) (by decide +kernel)
end
section
/-! Which exceptions a method may throw, by the instructions of all that it calls. -/
def zthrows (cd : Nat → Nat → Option zI) (tb : List (Nat × List Nat)) : Prop := ∀ (mi : Nat) (l : List Nat), tb.lookup mi = some l → ∀ (pc : Nat) (q : zI), cd mi pc = some q → (zki q.1 = 1 → 100 ≤ q.2.1 → q.2.1 ∈ l) ∧ (zki q.1 = 2 → q.2.1 = 0 → ∃ l', tb.lookup q.2.2.1 = some l' ∧ ∀ e, e ∈ l' → e ∈ l)
theorem zev_thr {cd : Nat → Nat → Option zI} {nl : Nat → Nat} {df : Nat → List Value} {hn : Nat → Nat → Nat → Option Nat} {G : List zE} {tb : List (Nat × List Nat)} (ht : zthrows cd tb) :
    ∀ (n mi pc : Nat) (l : List Nat) (lv : zL) (st : List Value) (X X' : zX) (x : Nat), tb.lookup mi = some l → zev cd nl df hn G n mi pc lv st X = some (.inr x, X') → x ∈ l := by
  intro n
  induction n with
  | zero => intro mi pc l lv st X X' x _ h; simp [zev] at h
  | succ n ih =>
    intro mi pc l lv st X X' x hl h
    rw [zev] at h
    split at h
    · cases h
    · rename_i i a b c v hcd
      obtain ⟨hw, hc⟩ := ht mi l hl pc _ hcd
      split at h
      · exact ih _ _ _ _ _ _ _ _ hl h
      · split at h
        · exact ih _ _ _ _ _ _ _ _ hl h
        · split at h
          · exact ih _ _ _ _ _ _ _ _ hl h
          · split at h
            · cases h
            · split at h
              · rename_i hk
                split at h
                · rename_i h5
                  cases h
                  exact hw hk h5.1
                · cases h
              · split at h
                · rename_i hk
                  split at h
                  · split at h
                    · split at h
                      · exact ih _ _ _ _ _ _ _ _ hl h
                      · cases h
                    · cases h
                  · split at h
                    · rename_i ha
                      obtain ⟨l', h1, h2⟩ := hc hk ha.1
                      split at h
                      · exact ih _ _ _ _ _ _ _ _ hl h
                      · rename_i x2 X2 hz
                        split at h
                        · cases h
                          exact h2 _ (ih _ _ _ _ _ _ _ _ h1 hz)
                        · split at h
                          · exact ih _ _ _ _ _ _ _ _ hl h
                          · cases h
                      · cases h
                    · cases h
                · cases h
def yts : List (Nat × List Nat) := [(11, []), (13, []), (14, []), (15, []), (22, []), (23, []), (24, []), (44, []), (61, []), (83, []), (84, []), (85, []), (86, [100]), (87, [100]), (89, []), (90, []), (91, []), (92, []), (93, []), (94, []), (95, []), (96, []), (97, []), (98, []), (99, []), (100, []), (101, []), (102, []), (103, []), (104, []), (105, []), (106, []), (107, [100, 101]), (108, [100, 101]), (110, []), (111, []), (112, []), (113, []), (114, []), (115, []), (116, []), (117, []), (118, []), (119, []), (120, []), (121, []), (122, []), (123, []), (124, []), (125, []), (126, [100, 101]), (128, []), (129, []), (130, []), (131, [101]), (133, []), (134, []), (135, []), (136, []), (137, [100]), (138, [100]), (140, []), (141, []), (142, []), (143, [100, 102]), (145, []), (146, [100]), (148, []), (149, []), (150, []), (151, []), (152, []), (153, []), (154, [100, 101]), (156, []), (157, []), (158, []), (159, []), (160, []), (161, []), (162, []), (163, []), (164, []), (165, []), (166, []), (167, []), (168, []), (169, [102]), (171, []), (172, []), (173, [100]), (175, []), (176, [])]
def ytsB : Bool := yts.all fun e => !(e.1 == 36) && ((((zKS .null)[e.1]?).getD []).all fun r => (!(zki r.2.1 == 1 && Nat.ble 100 r.2.2.1) || e.2.elem r.2.2.1) && (!(zki r.2.1 == 2 && r.2.2.1 == 0) || (match yts.lookup r.2.2.2.1 with
  | some l => l.all fun x => e.2.elem x
  | none => false)))
theorem ytsB_ok : ytsB = true := by decide +kernel
theorem yts_ok (v0 : Value) : zthrows (zcd (zt v0)) yts := by
  intro mi l hl pc q hq
  have h1 := List.all_eq_true.mp ytsB_ok _ (zlook hl)
  simp only [Bool.and_eq_true, Bool.not_eq_true', beq_eq_false_iff_ne] at h1
  have hq' : (((zKS v0)[mi]?).getD []).lookup pc = some q := hq
  rw [zks_set, List.getElem?_set_ne (fun h => h1.1 h.symm)] at hq'
  have h2 := List.all_eq_true.mp h1.2 _ (zlook hq')
  simp only [Bool.and_eq_true] at h2
  refine ⟨fun k1 k2 => ?_, fun k1 k2 => ?_⟩
  · have h3 := h2.1
    simp only [k1, BEq.rfl, Nat.ble_eq_true_of_le k2, Bool.and_self, Bool.not_true, Bool.false_or] at h3
    exact List.elem_iff.mp h3
  · have h3 := h2.2
    simp only [k1, k2, BEq.rfl, Bool.and_self, Bool.not_true, Bool.false_or] at h3
    split at h3
    · rename_i l' hl'
      exact ⟨l', hl', fun e he => List.elem_iff.mp (List.all_eq_true.mp h3 e he)⟩
    · cases h3
/-- a summary by hand, with throws, and with what is left alone -/
def xcQ (W : List Nat) (T : List yC) (ro : Option yA) (l : List (Nat × Nat)) (E : List Nat) (f : Nat → zE) (u : Nat × Nat) (o : zO) (X : zX) : Prop := (∃ r f', o = .inl r ∧ X = (xh f', u) ∧ yro ro r ∧ yM T (xh f') ∧ yF W (xh f) (xh f') ∧ zkeep l (xh f) (xh f')) ∨ (∃ x f', o = .inr x ∧ x ∈ E ∧ X = (xh f', u.1 + 1, u.2 + 6) ∧ yM T (xh f') ∧ yF W (xh f) (xh f') ∧ zkeep l (xh f) (xh f'))
theorem xc_of {W : List Nat} {T : List yC} {X00 : zX} {m : Nat} {ps : List yA} {ro : Option yA} {l : List (Nat × Nat)} {E : List Nat} (h : yxr W T X00 (m, ps, ro)) (hl : T.length = 154) (hk : yws.lookup m = some l) (hE : yts.lookup m = some E) {v0 : Value} {xs : List Int32} {u : Nat × Nat} {f : Nat → zE} {vs : List Value} (hf : yfa ps vs) (hM : yM T (xh f)) (h00 : yF W X00.1 (xh f)) : zwp (zt v0) (zG xs) m 0 (lv_args 0 vs) [] (xh f, u) (xcQ W T ro l E f u) := by
  obtain ⟨n, o, X', hz, hq⟩ := h v0 xs vs (xh f, u) hf hM h00
  refine ⟨n, o, X', hz, ?_⟩
  have hkp := zev_keep (yws_closed v0) n m 0 l _ [] (xh f, u) _ hk hz
  cases o with
  | inl r =>
    obtain ⟨q1, q2, q3, q4⟩ := hq
    obtain ⟨f', hf'⟩ := xh_ex (q2.1.trans hl)
    refine Or.inl ⟨r, f', rfl, ?_, q1, by rw [← hf']; exact q2, by rw [← hf']; exact q4, by rw [← hf']; exact hkp⟩
    rw [← hf']
    exact Prod.ext rfl q3
  | inr x =>
    obtain ⟨q1, q2, q3, q4, q5⟩ := hq
    obtain ⟨f', hf'⟩ := xh_ex (q3.1.trans hl)
    refine Or.inr ⟨x, f', rfl, zev_thr (yts_ok v0) n m 0 E _ [] (xh f, u) X' x hE hz, ?_, by rw [← hf']; exact q3, by rw [← hf']; exact q4, by rw [← hf']; exact hkp⟩
    rw [← hf']
    exact Prod.ext rfl q5
/-- a call that may throw, its handlers beside it -/
theorem x_callT {v0 : Value} {xs : List Int32} {u : Nat × Nat} {Q : zO → zX → Prop} {mi pc b : Nat} {v : Value} {lv : zL} {f : Nat → zE} {r : List Value} {i : Instr} {Q2 : zO → zX → Prop} (as : List Value) (hc : zcd (zt v0) mi pc = some (i, 0, b, as.length, v)) (hki : zki i = 2) (h8 : zcat r ≤ 8) (hn : zcat as ≤ znl (zt v0) b) (hrc : zrcv (zG xs) (xh f, u) v as.reverse = true) (hs : zwp (zt v0) (zG xs) b 0 (lv_args 0 as.reverse) [] (xh f, u) Q2)
    (k1 : ∀ r' X', Q2 (.inl r') X' → zwp (zt v0) (zG xs) mi (pc + 3) lv (r'.toList ++ r) X' Q) (k2 : ∀ x X', Q2 (.inr x) X' → ∃ q, zhn (zt v0) mi pc x ≠ none ∧ zhd (zcd (zt v0)) (zhn (zt v0)) (znl (zt v0) mi) mi pc x = some q ∧ zwp (zt v0) (zG xs) mi (q.1 + 1) (zf1 q.2 lv) [] X' Q) : xz v0 xs u Q mi pc lv (as ++ r) f := by
  obtain ⟨z1, z2, z3, z4, z5⟩ := zk_za (G := zG xs) (df := zdf (zt v0)) (a := 0) (b := b) (c := as.length) (v := v) (nL := znl (zt v0) mi) (pc := pc) (lv := lv) (st := as ++ r) (X := (xh f, u)) hki
  have e1 : (as ++ r).take as.length = as := List.take_left
  have e2 : (as ++ r).drop as.length = r := List.drop_left
  refine zwp_call ⟨hc, z1, z2, z3⟩ z4 hki ⟨rfl, by simp, by rw [e2]; exact h8, by rw [e1]; exact hn, by rw [e1]; exact hrc⟩ ?_
  rw [e1, e2]
  refine zwp_mono hs fun o X' hq => ?_
  cases o with
  | inl r' => exact k1 r' X' hq
  | inr x => exact Or.inr (k2 x X' hq)
end
section
/-! Types by hand: cells that changed, arrays by their cells, objects by their fields. -/
theorem yM_up {T : List yC} {f f' : Nat → zE} (hl : T.length = 154) (h : yM T (xh f)) (k : ∀ p, 50 ≤ p → p < 204 → f' p = f p ∨ ∃ t, T[p - 50]? = some t ∧ yok t (f' p)) : yM T (xh f') := by
  refine ⟨by rw [xh_len, hl], fun j t ht => ?_⟩
  have hj : j < 154 := by rw [← hl]; exact (List.getElem?_eq_some_iff.mp ht).1
  have e := xh_at (f := f') (p := j + 50) (by omega) (by omega)
  rw [Nat.add_sub_cancel] at e
  refine ⟨_, e, ?_⟩
  rcases k (j + 50) (by omega) (by omega) with h1 | ⟨t', ht', hk⟩
  · obtain ⟨c, hc, hok⟩ := h.2 j t ht
    have e2 := xh_at (f := f) (p := j + 50) (by omega) (by omega)
    rw [Nat.add_sub_cancel, hc] at e2
    rw [h1, ← Option.some.inj e2]
    exact hok
  · rw [Nat.add_sub_cancel, ht] at ht'
    cases ht'
    exact hk
theorem yok_rs {k : Nat} {rs : List (Nat × Int × Int)} {l : List Int} (hl : l.length = ysum rs) (h : ∀ (j : Nat) (q : Int × Int), yat rs j = some q → j < l.length → q = ytop ∨ (-2147483648 ≤ q.1 ∧ q.2 ≤ 2147483647 ∧ q.1 ≤ l.getD j 0 ∧ l.getD j 0 ≤ q.2)) : yok (.inr (.inl (k, rs))) (xr k l) := by
  refine ⟨rfl, ?_, fun j q z hq hz => ?_⟩
  · show (l.map Int32.ofInt).length = ysum rs
    rw [List.length_map]
    exact hl
  · have hz' : (l.map Int32.ofInt)[j]? = some z := hz
    rw [List.getElem?_map] at hz'
    cases hlj : l[j]? with
    | none => rw [hlj] at hz'; cases hz'
    | some y =>
      rw [hlj] at hz'
      cases hz'
      rcases h j q hq (List.getElem?_eq_some_iff.mp hlj).1 with rfl | h1
      · exact yin_top _
      · rw [List.getD_eq_getElem?_getD, hlj] at h1
        simp only [Option.getD_some] at h1
        have e := xi_toInt (z := y) (by omega) (by omega)
        exact ⟨by rw [e]; exact h1.2.2.1, by rw [e]; exact h1.2.2.2⟩
theorem yok_r1 {k N : Nat} {lo hi : Int} {l : List Int} (hl : l.length = N) (hb : -2147483648 ≤ lo ∧ hi ≤ 2147483647) (h : ∀ j : Nat, j < N → lo ≤ l.getD j 0 ∧ l.getD j 0 ≤ hi) : yok (.inr (.inl (k, [(N, lo, hi)]))) (xr k l) := by
  refine yok_rs (by rw [hl]; rfl) fun j q hq hj => Or.inr ?_
  simp only [yat] at hq
  rw [if_pos (by omega)] at hq
  cases hq
  exact ⟨hb.1, hb.2, h j (by omega)⟩
theorem yok_t1 {k N : Nat} {l : List Int} (hl : l.length = N) : yok (.inr (.inl (k, [(N, ytop)]))) (xr k l) := by
  refine yok_rs (by rw [hl]; rfl) fun j q hq hj => Or.inl ?_
  simp only [yat] at hq
  rw [if_pos (by omega)] at hq
  cases hq
  rfl
theorem yok_2 {k A B : Nat} {q1 q2 : Int × Int} {l : List Int} (hl : l.length = A + B) (h1 : q1 = ytop ∨ (-2147483648 ≤ q1.1 ∧ q1.2 ≤ 2147483647 ∧ ∀ j : Nat, j < A → q1.1 ≤ l.getD j 0 ∧ l.getD j 0 ≤ q1.2)) (h2 : q2 = ytop ∨ (-2147483648 ≤ q2.1 ∧ q2.2 ≤ 2147483647 ∧ ∀ j : Nat, A ≤ j → j < A + B → q2.1 ≤ l.getD j 0 ∧ l.getD j 0 ≤ q2.2)) : yok (.inr (.inl (k, [(A, q1), (B, q2)]))) (xr k l) := by
  refine yok_rs (by rw [hl]; rfl) fun j q hq hj => ?_
  simp only [yat] at hq
  by_cases c1 : j < A
  · rw [if_pos c1] at hq
    cases hq
    rcases h1 with e | ⟨a1, a2, a3⟩
    · exact Or.inl e
    · exact Or.inr ⟨a1, a2, a3 j c1⟩
  · rw [if_neg c1, if_pos (by omega)] at hq
    cases hq
    rcases h2 with e | ⟨a1, a2, a3⟩
    · exact Or.inl e
    · exact Or.inr ⟨a1, a2, a3 j (by omega) (by omega)⟩
theorem yok_o {ci : Nat} {as : List yA} {fs : List Value} (h : yfa as fs) : yok (.inl (ci, as)) (.inl (ci, fs)) := by
  have key : ∀ (as : List yA) (fs : List Value), yfa as fs → as.length = fs.length ∧ ∀ (k : Nat) (a : yA) (v : Value), as[k]? = some a → fs[k]? = some v → yg a v := by
    intro as
    induction as with
    | nil => intro fs h; cases fs with
      | nil => exact ⟨rfl, fun k a v h => by simp at h⟩
      | cons w r => exact h.elim
    | cons a as ih => intro fs h; cases fs with
      | nil => exact h.elim
      | cons w r =>
        obtain ⟨h1, h2⟩ := ih r h.2
        refine ⟨by rw [List.length_cons, List.length_cons, h1], fun k b v hb hv => ?_⟩
        cases k with
        | zero =>
          rw [List.getElem?_cons_zero] at hb hv
          cases hb
          cases hv
          exact h.1
        | succ k =>
          rw [List.getElem?_cons_succ] at hb hv
          exact h2 k b v hb hv
  obtain ⟨h1, h2⟩ := key as fs h
  exact ⟨rfl, h1, h2⟩
theorem ygi {lo hi z : Int} (h1 : lo ≤ z) (h2 : z ≤ hi) (h3 : -2147483648 ≤ z) (h4 : z ≤ 2147483647) : yg (.inl (lo, hi)) (xi z) := ⟨Int32.ofInt z, rfl, by rw [xi_toInt h3 h4]; exact h1, by rw [xi_toInt h3 h4]; exact h2⟩
theorem ygt {z : Int} : yg (.inl ytop) (xi z) := ⟨Int32.ofInt z, rfl, y_lo _, y_hi _⟩
theorem ygr {p : Nat} : yg (.inr (.inr [p])) (.ref p) := ⟨p, rfl, List.mem_singleton.mpr rfl⟩
theorem ygl {g : Int64} : yg ylong (.long g) := ⟨g, rfl⟩
/-! The types while c calls are kept. -/
theorem yT2_len : yT2.length = 154 := by decide +kernel
theorem yRn (c : Nat) (hc : c < 13) : yR yW yT2 (yTn c) := match c, hc with
  | 0, _ => yRn_0
  | 1, _ => yRn_1
  | 2, _ => yRn_2
  | 3, _ => yRn_3
  | 4, _ => yRn_4
  | 5, _ => yRn_5
  | 6, _ => yRn_6
  | 7, _ => yRn_7
  | 8, _ => yRn_8
  | 9, _ => yRn_9
  | 10, _ => yRn_10
  | 11, _ => yRn_11
  | 12, _ => yRn_12
theorem yTn_53 (c : Nat) (hc : c < 13) : (yTn c)[3]? = some (.inl (2, [.inr (.inr [54]), .inr (.inr [55]), .inr (.inr [56]), .inl ((c : Int), (c : Int)), .inl (0, 208), .inl (0, 208)])) := match c, hc with
  | 0, _ => rfl
  | 1, _ => rfl
  | 2, _ => rfl
  | 3, _ => rfl
  | 4, _ => rfl
  | 5, _ => rfl
  | 6, _ => rfl
  | 7, _ => rfl
  | 8, _ => rfl
  | 9, _ => rfl
  | 10, _ => rfl
  | 11, _ => rfl
  | 12, _ => rfl
theorem yTn_fg : ((List.range 13).all fun c => (List.range c).all fun i => match (yTn c)[7 + 4 * i]? with
  | some t' => ysubc (yfg i (0, 16)) t'
  | none => false) = true := by decide +kernel
theorem yTn_B : ((List.range 13).all fun c => (List.range 154).all fun k => match (yTn c)[k]?, yT2[k]? with
  | some t', some t => k == 3 || ((List.range c).any fun i => k == 7 + 4 * i) || ysubc t t'
  | _, _ => false) = true := by decide +kernel
theorem yMn {c : Nat} {f : Nat → zE} {kp pt : Int} (hc : c < 13) (hM : yM yT2 (xh f)) (h53 : f 53 = xbo (c : Nat) kp pt) (hb : ∀ i, i < c → ∃ (nm : Int64) (b : Int) (d a : Value), f (57 + 4 * i) = xfg i nm (xi b) d a ∧ 0 ≤ b ∧ b ≤ 16) : yM (yTn c) (xh f) := by
  have hR := yRn c hc
  refine ⟨by rw [xh_len, ← hR.1, yT2_len], fun k t' ht' => ?_⟩
  have hk : k < 154 := by rw [← yT2_len, hR.1]; exact (List.getElem?_eq_some_iff.mp ht').1
  obtain ⟨t, ht⟩ : ∃ t, yT2[k]? = some t := ⟨_, List.getElem?_eq_getElem (by rw [yT2_len]; exact hk)⟩
  obtain ⟨e, he, hok⟩ := hM.2 k t ht
  refine ⟨e, he, ?_⟩
  have e2 := xh_at (f := f) (p := k + 50) (by omega) (by omega)
  rw [Nat.add_sub_cancel, he] at e2
  have e3 : e = f (k + 50) := Option.some.inj e2
  have h1 := List.all_eq_true.mp (List.all_eq_true.mp yTn_B c (List.mem_range.mpr hc)) k (List.mem_range.mpr hk)
  simp only [ht', ht, Bool.or_eq_true] at h1
  rcases h1 with (h1 | h1) | h1
  · have h1' : k = 3 := by simpa using h1
    subst h1'
    rw [yTn_53 c hc] at ht'
    cases ht'
    cases (show yT2[3]? = some (.inl (2, [.inr (.inr [54]), .inr (.inr [55]), .inr (.inr [56]), .inl (0, 12), .inl (0, 208), .inl (0, 208)])) from rfl).symm.trans ht
    rw [e3, show f (3 + 50) = xbo (c : Nat) kp pt from h53] at hok ⊢
    exact yok_o ⟨ygr, ygr, ygr, ygi (by omega) (by omega) (by omega) (by omega), hok.2.2 4 _ _ rfl rfl, hok.2.2 5 _ _ rfl rfl, trivial⟩
  · obtain ⟨i, hi, hk2⟩ := List.any_eq_true.mp h1
    have hi' := List.mem_range.mp hi
    have hk3 : k = 7 + 4 * i := by simpa using hk2
    subst hk3
    have h4 := List.all_eq_true.mp (List.all_eq_true.mp yTn_fg c (List.mem_range.mpr hc)) i hi
    simp only [ht'] at h4
    rw [(yT2_fig i (by omega)).1] at ht
    cases ht
    obtain ⟨nm, b, d, a, h57, hb0, hb1⟩ := hb i hi'
    rw [show 7 + 4 * i + 50 = 57 + 4 * i by omega] at e3
    rw [e3, h57] at hok ⊢
    exact ysubc_sound h4 (yok_o ⟨ygr, ygr, ygr, ygl, ygi hb0 hb1 (by omega) (by omega), hok.2.2 5 _ _ rfl rfl, hok.2.2 6 _ _ rfl rfl, trivial⟩)
  · exact ysubc_sound h1 hok
theorem xKF_kg {B : List xBt} {i : Nat} {f : Nat → zE} {nm : Int64} {b d : Int} {al : Value} (hi : i < 13) (hM : yM yT2 (xh f)) (h : xKF B i f nm b d al) : ∃ n : Nat, n < 17 ∧ yM (yTf2 i n) (xh f) := by
  obtain ⟨hb0, hb1, fp, ep, ta, h57, h58, h59, h60, ⟨l1, l2, l3, r1, r2, r3, r4⟩, hta, -⟩ := h
  have ea := xT_o (p := 57 + 4 * i) hM (by omega) (by rw [show 57 + 4 * i - 50 = 7 + 4 * i by omega]; exact (yT2_fig i hi).1)
  obtain ⟨fs, hfs, -, hty⟩ := ea
  rw [h57] at hfs
  cases hfs
  obtain ⟨v, hv, hal⟩ := hty 6 (.inl (0, 1)) rfl
  cases hv
  refine ⟨b.toNat, by omega, yM_re (yM_re hM fun c hc => ?_) fun c hc => ?_⟩
  · have e := xh_at (f := f) (p := 60 + 4 * i) (by omega) (by omega)
    rw [show 60 + 4 * i - 50 = 10 + 4 * i by omega, hc, h60] at e
    cases e
    exact yok_2 (by rw [l3]; omega) (Or.inr ⟨by decide, by decide, fun j hj => ⟨hta j (by omega), by have := r3 j; show _ ≤ (16 : Int); omega⟩⟩) (Or.inr ⟨by decide, by decide, fun j _ _ => ⟨(r3 j).1, by have := r3 j; show _ ≤ (16 : Int); omega⟩⟩)
  · have e := xh_at (f := f) (p := 57 + 4 * i) (by omega) (by omega)
    rw [show 57 + 4 * i - 50 = 7 + 4 * i by omega, hc, h57] at e
    cases e
    exact yok_o ⟨ygr, ygr, ygr, ygl, ygi (by omega) (by omega) (by omega) (by omega), ygt, hal, trivial⟩
end
section
/-! What stays over a step that dances. -/
def xWA : List Nat := 200 :: yWa
def xkl : List (Nat × Nat) := [(0, 10), (0, 12), (3, 6), (8, 6), (8, 7), (9, 1), (10, 0), (10, 28), (10, 29), (10, 30), (10, 31), (10, 36)]
def xD (f f' : Nat → zE) : Prop := yM yT2 (xh f') ∧ yF xWA (xh f) (xh f') ∧ zkeep xkl (xh f) (xh f')
theorem xD_t {f g h : Nat → zE} (a : xD f g) (b : xD g h) : xD f h := ⟨b.1, fun k hk => (b.2.1 k hk).trans (a.2.1 k hk), zkeep_t a.2.2 b.2.2⟩
/-- a method that dances: what it answers and throws -/
def xca (f : Nat → zE) (m : Nat) (ps : List yA) (ro : Option yA) (E : List Nat) : Prop := ∀ (v0 : Value) (xs : List Int32) (u : Nat × Nat) (vs : List Value), yfa ps vs → zwp (zt v0) (zG xs) m 0 (lv_args 0 vs) [] (xh f, u) (fun o X => (∃ r f', o = .inl r ∧ X = (xh f', u) ∧ yro ro r ∧ xD f f') ∨ (∃ x f', o = .inr x ∧ x ∈ E ∧ X = (xh f', u.1 + 1, u.2 + 6) ∧ xD f f'))
theorem xca_of {W : List Nat} {T : List yC} {m : Nat} {ps : List yA} {ro : Option yA} {l : List (Nat × Nat)} {E : List Nat} {f : Nat → zE} (h : yxr W T (xh f, (0, 0)) (m, ps, ro)) (hl : T.length = 154) (hk : yws.lookup m = some l) (hE : yts.lookup m = some E) (hM : yM T (xh f)) (hT : ∀ M, yM T M → yM yT2 M) (hW : (W.all fun k => xWA.elem k) = true) (hl2 : (l.all fun e => xkl.elem e) = true) : xca f m ps ro E := by
  intro v0 xs u vs hf
  refine zwp_mono (xc_of h hl hk hE hf hM fun _ _ => rfl) fun o X hq => ?_
  have hw : ∀ M M', yF W M M' → yF xWA M M' := fun M M' hF k hk2 => hF k fun hk3 => hk2 (List.elem_iff.mp (List.all_eq_true.mp hW _ hk3))
  have hz : ∀ M M', zkeep l M M' → zkeep xkl M M' := fun M M' hF => zkeep_m hF fun e he => List.elem_iff.mp (List.all_eq_true.mp hl2 _ he)
  rcases hq with ⟨r, f', e1, e2, q1, q2, q3, q4⟩ | ⟨x, f', e1, e2, e3, q2, q3, q4⟩
  · exact Or.inl ⟨r, f', e1, e2, q1, hT _ q2, hw _ _ q3, hz _ _ q4⟩
  · exact Or.inr ⟨x, f', e1, e2, e3, hT _ q2, hw _ _ q3, hz _ _ q4⟩
theorem xca_m {f : Nat → zE} {m : Nat} {ps : List yA} {ro : Option yA} {l : List (Nat × Nat)} {E : List Nat} (hM : yM yT2 (xh f)) (h : yx yW yT (m, ps, ro)) (hk : yws.lookup m = some l) (hE : yts.lookup m = some E) (hl2 : (l.all fun e => xkl.elem e) = true) : xca f m ps ro E := xca_of (yxr_in (yw_up yR2 h)) yT2_len hk hE hM (fun _ h => h) (by decide +kernel) hl2
theorem xca_c {c : Nat} {f : Nat → zE} {m : Nat} {ps : List yA} {ro : Option yA} {l : List (Nat × Nat)} {E : List Nat} (hc : c < 13) (hM : yM (yTn c) (xh f)) (h : yxr yW (yTn c) (xh f, (0, 0)) (m, ps, ro)) (hk : yws.lookup m = some l) (hE : yts.lookup m = some E) (hl2 : (l.all fun e => xkl.elem e) = true) : xca f m ps ro E := xca_of h ((yRn c hc).1.symm.trans yT2_len) hk hE hM (fun _ h => yM_sub (yRn c hc) h) (by decide +kernel) hl2
/-- without throws -/
theorem xca_q {f : Nat → zE} {m : Nat} {ps : List yA} {ro : Option yA} (h : xca f m ps ro []) {v0 : Value} {xs : List Int32} {u : Nat × Nat} {vs : List Value} (hf : yfa ps vs) : xq v0 xs u m (lv_args 0 vs) f (fun r f' => yro ro r ∧ xD f f') := by
  refine zwp_mono (h v0 xs u vs hf) fun o X hq => ?_
  rcases hq with ⟨r, f', e1, e2, q1, q2⟩ | ⟨x, f', e1, e2, -⟩
  · exact ⟨r, f', e1, e2, q1, q2⟩
  · cases e2
/-! Each of them. -/
theorem xA83 {f : Nat → zE} (hM : yM yT2 (xh f)) : xca f 83 [.inr (.inr [50])] (some (.inl ytop)) [] := xca_m hM yv83 rfl rfl (by decide)
theorem xA84 {f : Nat → zE} (hM : yM yT2 (xh f)) : xca f 84 [.inr (.inr [177])] (some (.inl ytop)) [] := xca_m hM yv84 rfl rfl (by decide)
theorem xA90 {f : Nat → zE} (hM : yM yT2 (xh f)) : xca f 90 [.inr (.inr [177]), .inl ytop] (some (.inl (0, 16))) [] := xca_m hM yv90 rfl rfl (by decide)
theorem xA125 {f : Nat → zE} (hM : yM yT2 (xh f)) : xca f 125 [.inr (.inr [177]), .inl ytop] (some (.inl (0, 16))) [] := xca_m hM yv125 rfl rfl (by decide)
theorem xA128 {f : Nat → zE} (hM : yM yT2 (xh f)) : xca f 128 [.inr (.inr [177]), .inl ytop] (some (.inl (0, 16))) [] := xca_m hM yv128 rfl rfl (by decide)
theorem xA129 {f : Nat → zE} (hM : yM yT2 (xh f)) : xca f 129 [.inr (.inr [50])] (some (.inl ytop)) [] := xca_m hM yv129 rfl rfl (by decide)
theorem xA130 {f : Nat → zE} (hM : yM yT2 (xh f)) : xca f 130 [.inr (.inr [177])] (some (.inl ytop)) [] := xca_m hM yv130 rfl rfl (by decide)
theorem xA131 {f : Nat → zE} (hM : yM yT2 (xh f)) : xca f 131 [.inr (.inr [50])] (some (.inl (0, 16))) [101] := xca_m hM yv131 rfl rfl (by decide)
theorem xA134 {f : Nat → zE} (hM : yM yT2 (xh f)) : xca f 134 [.inr (.inr [177])] (some (.inl (0, 16))) [] := xca_m hM yv134 rfl rfl (by decide)
theorem xA135 {f : Nat → zE} (hM : yM yT2 (xh f)) : xca f 135 [.inr (.inr [50])] (some (.inl (0, 24))) [] := xca_m hM yv135 rfl rfl (by decide)
theorem xA136 {f : Nat → zE} (hM : yM yT2 (xh f)) : xca f 136 [.inr (.inr [177])] (some (.inl (0, 24))) [] := xca_m hM yv136 rfl rfl (by decide)
theorem xA138 {f : Nat → zE} (hM : yM yT2 (xh f)) : xca f 138 [.inr (.inr [50]), .inl ytop, .inl ytop] (some (.inl (0, 9))) [100] := xca_m hM yv138 rfl rfl (by decide)
theorem xA141 {f : Nat → zE} (hM : yM yT2 (xh f)) : xca f 141 [.inr (.inr [177]), .inl ytop, .inl ytop] (some (.inl ytop)) [] := xca_m hM yv141 rfl rfl (by decide)
theorem xA143 {f : Nat → zE} (hM : yM yT2 (xh f)) : xca f 143 [.inr (.inr [50]), .inl ytop, .inl ytop] (some (.inl (0, 99))) [100, 102] := xca_m hM yv143 rfl rfl (by decide)
theorem xA145 {f : Nat → zE} (hM : yM yT2 (xh f)) : xca f 145 [.inr (.inr [177]), .inl ytop, .inl ytop] (some (.inl ytop)) [] := xca_m hM yv145 rfl rfl (by decide)
theorem xA146 {f : Nat → zE} (hM : yM yT2 (xh f)) : xca f 146 [.inr (.inr [50]), .inl ytop, .inl ytop] (some (.inl (0, 1))) [100] := xca_m hM yv146 rfl rfl (by decide)
theorem xA148 {f : Nat → zE} (hM : yM yT2 (xh f)) : xca f 148 [.inr (.inr [177]), .inl ytop, .inl ytop] (some (.inl (0, 1))) [] := xca_m hM yv148 rfl rfl (by decide)
theorem xA151 {f : Nat → zE} (hM : yM yT2 (xh f)) : xca f 151 [.inr (.inr [50])] (some (.inl (0, 4))) [] := xca_m hM yv151 rfl rfl (by decide)
theorem xA152 {f : Nat → zE} (hM : yM yT2 (xh f)) : xca f 152 [.inr (.inr [177])] (some (.inl (0, 4))) [] := xca_m hM yv152 rfl rfl (by decide)
theorem xA156 {f : Nat → zE} (hM : yM yT2 (xh f)) : xca f 156 [.inr (.inr [177]), .inl ytop, .inl (0, 1)] (none) [] := xca_m hM yv156 rfl rfl (by decide)
theorem xA169 {f : Nat → zE} (hM : yM yT2 (xh f)) : xca f 169 [.inr (.inr [50]), .inl ytop] (some (.inl (0, 11))) [102] := xca_m hM yv169 rfl rfl (by decide)
theorem xA171 {f : Nat → zE} (hM : yM yT2 (xh f)) : xca f 171 [.inr (.inr [177]), .inl ytop] (some (.inl ytop)) [] := xca_m hM yv171 rfl rfl (by decide)
theorem xA176 {f : Nat → zE} (hM : yM yT2 (xh f)) : xca f 176 [.inr (.inr [177]), .inl ytop, .inl ytop] (some (.inl (0, 1))) [] := xca_m hM yv176 rfl rfl (by decide)
theorem yR3w : yR yW3 yT yT2 := yrB_spec (by decide +kernel)
theorem xA168 {f : Nat → zE} (hM : yM yT2 (xh f)) : xca f 168 [.inr (.inr [177])] (some (.inl (-1, 4))) [] := xca_of (yxr_in (yw_up yR3w yv168)) yT2_len rfl rfl hM (fun _ h => h) (by decide +kernel) (by decide)
theorem yvn87 {X00 : zX} (c : Nat) (hc : c < 13) (hg : ykg c X00) : yxr yW (yTn c) X00 (87, [.inr (.inr [50]), .inl ytop], some (.inl ytop)) := match c, hc with
  | 0, _ => yxr_ro (some (.inl ytop)) (yv87n0 hg) (by decide +kernel)
  | 1, _ => yxr_ro (some (.inl ytop)) (yv87n1 hg) (by decide +kernel)
  | 2, _ => yxr_ro (some (.inl ytop)) (yv87n2 hg) (by decide +kernel)
  | 3, _ => yxr_ro (some (.inl ytop)) (yv87n3 hg) (by decide +kernel)
  | 4, _ => yxr_ro (some (.inl ytop)) (yv87n4 hg) (by decide +kernel)
  | 5, _ => yxr_ro (some (.inl ytop)) (yv87n5 hg) (by decide +kernel)
  | 6, _ => yxr_ro (some (.inl ytop)) (yv87n6 hg) (by decide +kernel)
  | 7, _ => yxr_ro (some (.inl ytop)) (yv87n7 hg) (by decide +kernel)
  | 8, _ => yxr_ro (some (.inl ytop)) (yv87n8 hg) (by decide +kernel)
  | 9, _ => yxr_ro (some (.inl ytop)) (yv87n9 hg) (by decide +kernel)
  | 10, _ => yxr_ro (some (.inl ytop)) (yv87n10 hg) (by decide +kernel)
  | 11, _ => yxr_ro (some (.inl ytop)) (yv87n11 hg) (by decide +kernel)
  | 12, _ => yxr_ro (some (.inl ytop)) (yv87n12 hg) (by decide +kernel)
theorem xA87 {f : Nat → zE} {c : Nat} (hc : c < 13) (hM : yM (yTn c) (xh f)) (hg : ykg c (xh f, (0, 0))) : xca f 87 [.inr (.inr [50]), .inl ytop] (some (.inl ytop)) [100] := xca_c hc hM (yvn87 c hc hg) rfl rfl (by decide)
theorem yvn108 {X00 : zX} (c : Nat) (hc : c < 13) (hg : ykg c X00) : yxr yW (yTn c) X00 (108, [.inr (.inr [50]), .inl ytop], some (.inl ytop)) := match c, hc with
  | 0, _ => yxr_ro (some (.inl ytop)) (yv108n0 hg) (by decide +kernel)
  | 1, _ => yxr_ro (some (.inl ytop)) (yv108n1 hg) (by decide +kernel)
  | 2, _ => yxr_ro (some (.inl ytop)) (yv108n2 hg) (by decide +kernel)
  | 3, _ => yxr_ro (some (.inl ytop)) (yv108n3 hg) (by decide +kernel)
  | 4, _ => yxr_ro (some (.inl ytop)) (yv108n4 hg) (by decide +kernel)
  | 5, _ => yxr_ro (some (.inl ytop)) (yv108n5 hg) (by decide +kernel)
  | 6, _ => yxr_ro (some (.inl ytop)) (yv108n6 hg) (by decide +kernel)
  | 7, _ => yxr_ro (some (.inl ytop)) (yv108n7 hg) (by decide +kernel)
  | 8, _ => yxr_ro (some (.inl ytop)) (yv108n8 hg) (by decide +kernel)
  | 9, _ => yxr_ro (some (.inl ytop)) (yv108n9 hg) (by decide +kernel)
  | 10, _ => yxr_ro (some (.inl ytop)) (yv108n10 hg) (by decide +kernel)
  | 11, _ => yxr_ro (some (.inl ytop)) (yv108n11 hg) (by decide +kernel)
  | 12, _ => yxr_ro (some (.inl ytop)) (yv108n12 hg) (by decide +kernel)
theorem xA108 {f : Nat → zE} {c : Nat} (hc : c < 13) (hM : yM (yTn c) (xh f)) (hg : ykg c (xh f, (0, 0))) : xca f 108 [.inr (.inr [50]), .inl ytop] (some (.inl ytop)) [100, 101] := xca_c hc hM (yvn108 c hc hg) rfl rfl (by decide)
theorem yvn126 {X00 : zX} (c : Nat) (hc : c < 13) (hg : ykg c X00) : yxr yW (yTn c) X00 (126, [.inr (.inr [50]), .inl ytop], some (.inl ytop)) := match c, hc with
  | 0, _ => yxr_ro (some (.inl ytop)) (yv126n0 hg) (by decide +kernel)
  | 1, _ => yxr_ro (some (.inl ytop)) (yv126n1 hg) (by decide +kernel)
  | 2, _ => yxr_ro (some (.inl ytop)) (yv126n2 hg) (by decide +kernel)
  | 3, _ => yxr_ro (some (.inl ytop)) (yv126n3 hg) (by decide +kernel)
  | 4, _ => yxr_ro (some (.inl ytop)) (yv126n4 hg) (by decide +kernel)
  | 5, _ => yxr_ro (some (.inl ytop)) (yv126n5 hg) (by decide +kernel)
  | 6, _ => yxr_ro (some (.inl ytop)) (yv126n6 hg) (by decide +kernel)
  | 7, _ => yxr_ro (some (.inl ytop)) (yv126n7 hg) (by decide +kernel)
  | 8, _ => yxr_ro (some (.inl ytop)) (yv126n8 hg) (by decide +kernel)
  | 9, _ => yxr_ro (some (.inl ytop)) (yv126n9 hg) (by decide +kernel)
  | 10, _ => yxr_ro (some (.inl ytop)) (yv126n10 hg) (by decide +kernel)
  | 11, _ => yxr_ro (some (.inl ytop)) (yv126n11 hg) (by decide +kernel)
  | 12, _ => yxr_ro (some (.inl ytop)) (yv126n12 hg) (by decide +kernel)
theorem xA126 {f : Nat → zE} {c : Nat} (hc : c < 13) (hM : yM (yTn c) (xh f)) (hg : ykg c (xh f, (0, 0))) : xca f 126 [.inr (.inr [50]), .inl ytop] (some (.inl ytop)) [100, 101] := xca_c hc hM (yvn126 c hc hg) rfl rfl (by decide)
theorem yvn163 {X00 : zX} (c : Nat) (hc : c < 13) (hg : ykg c X00) : yxr yW (yTn c) X00 (163, [.inr (.inr [50])], some (.inl (-1, 4))) := match c, hc with
  | 0, _ => yxr_ro (some (.inl (-1, 4))) (yv163n0 hg) (by decide +kernel)
  | 1, _ => yxr_ro (some (.inl (-1, 4))) (yv163n1 hg) (by decide +kernel)
  | 2, _ => yxr_ro (some (.inl (-1, 4))) (yv163n2 hg) (by decide +kernel)
  | 3, _ => yxr_ro (some (.inl (-1, 4))) (yv163n3 hg) (by decide +kernel)
  | 4, _ => yxr_ro (some (.inl (-1, 4))) (yv163n4 hg) (by decide +kernel)
  | 5, _ => yxr_ro (some (.inl (-1, 4))) (yv163n5 hg) (by decide +kernel)
  | 6, _ => yxr_ro (some (.inl (-1, 4))) (yv163n6 hg) (by decide +kernel)
  | 7, _ => yxr_ro (some (.inl (-1, 4))) (yv163n7 hg) (by decide +kernel)
  | 8, _ => yxr_ro (some (.inl (-1, 4))) (yv163n8 hg) (by decide +kernel)
  | 9, _ => yxr_ro (some (.inl (-1, 4))) (yv163n9 hg) (by decide +kernel)
  | 10, _ => yxr_ro (some (.inl (-1, 4))) (yv163n10 hg) (by decide +kernel)
  | 11, _ => yxr_ro (some (.inl (-1, 4))) (yv163n11 hg) (by decide +kernel)
  | 12, _ => yxr_ro (some (.inl (-1, 4))) (yv163n12 hg) (by decide +kernel)
theorem xA163 {f : Nat → zE} {c : Nat} (hc : c < 13) (hM : yM (yTn c) (xh f)) (hg : ykg c (xh f, (0, 0))) : xca f 163 [.inr (.inr [50])] (some (.inl (-1, 4))) [] := xca_c hc hM (yvn163 c hc hg) rfl rfl (by decide)
theorem yvn173 {X00 : zX} (c : Nat) (hc : c < 13) (hg : ykg c X00) : yxr yW (yTn c) X00 (173, [.inr (.inr [50]), .inl ytop, .inl ytop], some (.inl ytop)) := match c, hc with
  | 0, _ => yxr_ro (some (.inl ytop)) (yv173n0 hg) (by decide +kernel)
  | 1, _ => yxr_ro (some (.inl ytop)) (yv173n1 hg) (by decide +kernel)
  | 2, _ => yxr_ro (some (.inl ytop)) (yv173n2 hg) (by decide +kernel)
  | 3, _ => yxr_ro (some (.inl ytop)) (yv173n3 hg) (by decide +kernel)
  | 4, _ => yxr_ro (some (.inl ytop)) (yv173n4 hg) (by decide +kernel)
  | 5, _ => yxr_ro (some (.inl ytop)) (yv173n5 hg) (by decide +kernel)
  | 6, _ => yxr_ro (some (.inl ytop)) (yv173n6 hg) (by decide +kernel)
  | 7, _ => yxr_ro (some (.inl ytop)) (yv173n7 hg) (by decide +kernel)
  | 8, _ => yxr_ro (some (.inl ytop)) (yv173n8 hg) (by decide +kernel)
  | 9, _ => yxr_ro (some (.inl ytop)) (yv173n9 hg) (by decide +kernel)
  | 10, _ => yxr_ro (some (.inl ytop)) (yv173n10 hg) (by decide +kernel)
  | 11, _ => yxr_ro (some (.inl ytop)) (yv173n11 hg) (by decide +kernel)
  | 12, _ => yxr_ro (some (.inl ytop)) (yv173n12 hg) (by decide +kernel)
theorem xA173 {f : Nat → zE} {c : Nat} (hc : c < 13) (hM : yM (yTn c) (xh f)) (hg : ykg c (xh f, (0, 0))) : xca f 173 [.inr (.inr [50]), .inl ytop, .inl ytop] (some (.inl ytop)) [100] := xca_c hc hM (yvn173 c hc hg) rfl rfl (by decide)
theorem yTc_M {c : Nat} {f : Nat → zE} {kp pt : Int} (hc : c < 13) (hM : yM yT2 (xh f)) (h53 : f 53 = xbo (c : Nat) kp pt) : yM (yT2.set 3 (.inl (2, [.inr (.inr [54]), .inr (.inr [55]), .inr (.inr [56]), .inl ((c : Int), (c : Int)), .inl (0, 208), .inl (0, 208)]))) (xh f) := by
  refine yM_re hM fun e he => ?_
  have e2 : (xh f)[3]? = some (f 53) := xh_at (p := 53) (by decide) (by decide)
  rw [he, h53] at e2
  cases e2
  obtain ⟨e', he', hok⟩ := hM.2 3 (.inl (2, [.inr (.inr [54]), .inr (.inr [55]), .inr (.inr [56]), .inl (0, 12), .inl (0, 208), .inl (0, 208)])) rfl
  rw [he] at he'
  cases he'
  exact yok_o ⟨ygr, ygr, ygr, ygi (by omega) (by omega) (by omega) (by omega), hok.2.2 4 _ _ rfl rfl, hok.2.2 5 _ _ rfl rfl, trivial⟩
theorem xA154 {f : Nat → zE} {c : Nat} {kp pt : Int} (hc : c < 13) (hM : yM yT2 (xh f)) (h53 : f 53 = xbo (c : Nat) kp pt) : xca f 154 [.inr (.inr [50]), .inl ytop, .inl (0, 1)] none [100, 101] := match c, hc, yTc_M hc hM h53 with
  | 0, _, h => xca_of (W := yWa) (T := yTc0) (yxr_in (yx_ro none yv154c0 (by decide +kernel))) (by decide +kernel) rfl rfl h (fun _ h => yM_sub yRc_0 h) (by decide +kernel) (by decide)
  | 1, _, h => xca_of (W := yWa) (T := yTc1) (yxr_in (yx_ro none yv154c1 (by decide +kernel))) (by decide +kernel) rfl rfl h (fun _ h => yM_sub yRc_1 h) (by decide +kernel) (by decide)
  | 2, _, h => xca_of (W := yWa) (T := yTc2) (yxr_in (yx_ro none yv154c2 (by decide +kernel))) (by decide +kernel) rfl rfl h (fun _ h => yM_sub yRc_2 h) (by decide +kernel) (by decide)
  | 3, _, h => xca_of (W := yWa) (T := yTc3) (yxr_in (yx_ro none yv154c3 (by decide +kernel))) (by decide +kernel) rfl rfl h (fun _ h => yM_sub yRc_3 h) (by decide +kernel) (by decide)
  | 4, _, h => xca_of (W := yWa) (T := yTc4) (yxr_in (yx_ro none yv154c4 (by decide +kernel))) (by decide +kernel) rfl rfl h (fun _ h => yM_sub yRc_4 h) (by decide +kernel) (by decide)
  | 5, _, h => xca_of (W := yWa) (T := yTc5) (yxr_in (yx_ro none yv154c5 (by decide +kernel))) (by decide +kernel) rfl rfl h (fun _ h => yM_sub yRc_5 h) (by decide +kernel) (by decide)
  | 6, _, h => xca_of (W := yWa) (T := yTc6) (yxr_in (yx_ro none yv154c6 (by decide +kernel))) (by decide +kernel) rfl rfl h (fun _ h => yM_sub yRc_6 h) (by decide +kernel) (by decide)
  | 7, _, h => xca_of (W := yWa) (T := yTc7) (yxr_in (yx_ro none yv154c7 (by decide +kernel))) (by decide +kernel) rfl rfl h (fun _ h => yM_sub yRc_7 h) (by decide +kernel) (by decide)
  | 8, _, h => xca_of (W := yWa) (T := yTc8) (yxr_in (yx_ro none yv154c8 (by decide +kernel))) (by decide +kernel) rfl rfl h (fun _ h => yM_sub yRc_8 h) (by decide +kernel) (by decide)
  | 9, _, h => xca_of (W := yWa) (T := yTc9) (yxr_in (yx_ro none yv154c9 (by decide +kernel))) (by decide +kernel) rfl rfl h (fun _ h => yM_sub yRc_9 h) (by decide +kernel) (by decide)
  | 10, _, h => xca_of (W := yWa) (T := yTc10) (yxr_in (yx_ro none yv154c10 (by decide +kernel))) (by decide +kernel) rfl rfl h (fun _ h => yM_sub yRc_10 h) (by decide +kernel) (by decide)
  | 11, _, h => xca_of (W := yWa) (T := yTc11) (yxr_in (yx_ro none yv154c11 (by decide +kernel))) (by decide +kernel) rfl rfl h (fun _ h => yM_sub yRc_11 h) (by decide +kernel) (by decide)
  | 12, _, h => xca_of (W := yWa) (T := yTc12) (yxr_in (yx_ro none yv154c12 (by decide +kernel))) (by decide +kernel) rfl rfl h (fun _ h => yM_sub yRc_12 h) (by decide +kernel) (by decide)
end
