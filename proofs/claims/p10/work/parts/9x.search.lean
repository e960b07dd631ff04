/-! By hand where only types are known: the model's search. -/
theorem xh_ex {M : List zE} (h : M.length = 154) : ∃ f : Nat → zE, M = xh f := by
  refine ⟨fun p => M.getD (p - 50) (.inr (.inr (.inl []))), ?_⟩
  apply List.ext_getElem?
  intro k
  by_cases hk : k < 154
  · have e := xh_at (f := fun p => M.getD (p - 50) (.inr (.inr (.inl [])))) (p := k + 50) (by omega) (by omega)
    rw [Nat.add_sub_cancel] at e
    rw [e, List.getD_eq_getElem?_getD, List.getElem?_eq_getElem (by omega)]
    rfl
  · rw [List.getElem?_eq_none (by omega), List.getElem?_eq_none (by rw [xh_len]; omega)]
theorem xT_o {T : List yC} {f : Nat → zE} {p ci : Nat} {as : List yA} (hM : yM T (xh f)) (hp : 50 ≤ p ∧ p < 204) (ht : T[p - 50]? = some (.inl (ci, as))) : ∃ fs : List Value, f p = .inl (ci, fs) ∧ fs.length = as.length ∧ ∀ (k : Nat) (a : yA), as[k]? = some a → ∃ v, fs[k]? = some v ∧ yg a v := by
  obtain ⟨c, h1, h2⟩ := hM.2 _ _ ht
  rw [xh_at hp.1 hp.2] at h1
  cases h1
  match hfp : f p, h2 with
  | .inl o, h2 =>
    obtain ⟨a1, a2, a3⟩ := h2
    refine ⟨o.2, by rw [show ci = o.1 from a1], a2.symm, fun k a ha => ?_⟩
    have hk : k < o.2.length := by rw [← a2]; exact (List.getElem?_eq_some_iff.mp ha).1
    exact ⟨o.2[k], List.getElem?_eq_getElem hk, a3 k a _ ha (List.getElem?_eq_getElem hk)⟩
theorem xT_a {T : List yC} {f : Nat → zE} {p kd : Nat} {l : List (Nat × Int × Int)} (hM : yM T (xh f)) (hp : 50 ≤ p ∧ p < 204) (ht : T[p - 50]? = some (.inr (.inl (kd, l)))) : ∃ ys : List Int, f p = xr kd ys ∧ ys.length = ysum l ∧ ∀ (j : Nat) (q : Int × Int), yat l j = some q → j < ys.length → q.1 ≤ ys.getD j 0 ∧ ys.getD j 0 ≤ q.2 := by
  obtain ⟨c, h1, h2⟩ := hM.2 _ _ ht
  rw [xh_at hp.1 hp.2] at h1
  cases h1
  match hfp : f p, h2 with
  | .inr (.inl o), h2 =>
    obtain ⟨a1, a2, a3⟩ := h2
    refine ⟨o.2.map Int32.toInt, ?_, by rw [List.length_map]; exact a2, fun j q hq hj => ?_⟩
    · show Sum.inr (Sum.inl o) = Sum.inr (Sum.inl (kd, (o.2.map Int32.toInt).map Int32.ofInt))
      rw [List.map_map, show (Int32.ofInt ∘ Int32.toInt) = id from funext fun x => Int32.ofInt_toInt x, List.map_id, show kd = o.1 from a1]
    · rw [List.length_map] at hj
      have := a3 j q o.2[j] hq (List.getElem?_eq_getElem hj)
      rw [List.getD_eq_getElem?_getD, List.getElem?_map, List.getElem?_eq_getElem hj]
      exact this
theorem yg_i {lo hi : Int} {v : Value} (h : yg (.inl (lo, hi)) v) : ∃ z : Int, v = xi z ∧ lo ≤ z ∧ z ≤ hi := by
  obtain ⟨x, e, h1, h2⟩ := h
  exact ⟨x.toInt, by rw [e, xi_of], h1, h2⟩
theorem yg_rf {p : Nat} {v : Value} (h : yg (.inr (.inr [p])) v) : v = .ref p := by
  obtain ⟨o, e, h1⟩ := h
  rw [e, List.mem_singleton.mp h1]
/-- a method's summary, by hand -/
theorem xq_of {W : List Nat} {T : List yC} {m : Nat} {ps : List yA} {ro : Option yA} (h : yx W T (m, ps, ro)) (hl : T.length = 154) (hth : yth m = false) {v0 : Value} {xs : List Int32} {u : Nat × Nat} {f : Nat → zE} {vs : List Value} (hf : yfa ps vs) (hM : yM T (xh f)) : xq v0 xs u m (lv_args 0 vs) f (fun r f' => yro ro r ∧ yM T (xh f') ∧ yF W (xh f) (xh f')) := by
  refine zwp_mono (h v0 xs vs (xh f, u) hf hM) fun o X' hq => ?_
  cases o with
  | inl r =>
    obtain ⟨q1, q2, q3, q4⟩ := hq
    obtain ⟨f', hf'⟩ := xh_ex (q2.1.trans hl)
    refine ⟨r, f', rfl, ?_, q1, by rw [← hf']; exact q2, by rw [← hf']; exact q4⟩
    rw [← hf']
    exact Prod.ext rfl q3
  | inr x =>
    have : yth m = true := hq.1
    rw [hth] at this
    cases this
theorem yF_at {W : List Nat} {f f' : Nat → zE} {p : Nat} (h : yF W (xh f) (xh f')) (hp : 50 ≤ p ∧ p < 204) (hW : ¬ p ∈ W) : f' p = f p := by
  have := h (p - 50) (by rw [Nat.sub_add_cancel hp.1]; exact hW)
  rw [xh_at hp.1 hp.2, xh_at hp.1 hp.2] at this
  exact Option.some.inj this
/-- what the search needs of the model's object -/
theorem xmT {f : Nat → zE} (hM : yM yT (xh f)) : ∃ (fs : List Value) (ca : Int) (al : List Int), f 177 = .inl (10, fs) ∧ fs[9]? = some (xi ca) ∧ (0 ≤ ca ∧ ca ≤ 12) ∧ fs[35]? = some (.ref 198) ∧ fs[38]? = some (.ref 200) ∧ f 198 = xr 2 al ∧ al.length = 12 ∧ ∀ j : Nat, j < 12 → 0 ≤ al.getD j 0 ∧ al.getD j 0 ≤ 1 := by
  obtain ⟨fs, h1, h2, h3⟩ := xT_o hM (p := 177) (by decide) rfl
  obtain ⟨al, a1, a2, a3⟩ := xT_a hM (p := 198) (by decide) rfl
  obtain ⟨v9, e9, g9⟩ := h3 9 _ rfl
  obtain ⟨v35, e35, g35⟩ := h3 35 _ rfl
  obtain ⟨v38, e38, g38⟩ := h3 38 _ rfl
  obtain ⟨ca, rfl, c1, c2⟩ := yg_i g9
  refine ⟨fs, ca, al, h1, e9, ⟨c1, c2⟩, by rw [e35, yg_rf g35], by rw [e38, yg_rf g38], a1, a2, fun j hj => ?_⟩
  have hl : al.length = 12 := a2
  exact a3 j (0, 1) (by simp only [yat]; rw [if_pos hj]) (by omega)
theorem xy_165l {v0 : Value} {xs : List Int32} {u : Nat × Nat} {f : Nat → zE} {c : Int} {fs : List Value} {al : List Int} (hc : 0 ≤ c ∧ c ≤ 12) (h177 : f 177 = .inl (10, fs)) (h35 : fs[35]? = some (.ref 198)) (h198 : f 198 = xr 2 al) (hl : al.length = 12) (hal : ∀ j : Nat, j < 12 → 0 ≤ al.getD j 0 ∧ al.getD j 0 ≤ 1) : ∀ (w : Nat) (k at' : Int) (lv : zL), k + 1 ≤ w + c → -1 ≤ k ∧ k ≤ 11 → zlv lv 0 = some (.ref 177) → zlv lv 1 = some (xi c) → zlv lv 2 = some (xi at') → zlv lv 3 = some (xi k) → (at' = -1 ∨ (c ≤ at' ∧ at' ≤ 11)) → xz v0 xs u (fun o X => ∃ r f', o = .inl r ∧ X = (xh f', u) ∧ (fun r f' => f' = f ∧ ∃ z : Int, r = some (xi z) ∧ (z = -1 ∨ (c ≤ z ∧ z ≤ 11))) r f') 165 9 lv [] f := by
  intro w
  induction w with
  | zero =>
    intro k at' lv hw hk l0 l1 l2 l3 ha
    refine x_iload_n rfl l3 ?_
    refine x_iload_n rfl l1 ?_
    refine x_clt (t := 35) rfl rfl ⟨by omega, by omega⟩ ⟨by omega, by omega⟩ (fun _ => ?_) (fun h => by omega)
    refine x_iload_n rfl l2 ?_
    refine x_ireturn rfl (Or.inl rfl) ⟨_, _, rfl, rfl, rfl, at', rfl, by omega⟩
  | succ w ih =>
    intro k at' lv hw hk0 l0 l1 l2 l3 ha
    refine x_iload_n rfl l3 ?_
    refine x_iload_n rfl l1 ?_
    refine x_clt (t := 35) rfl rfl ⟨by omega, by omega⟩ ⟨by omega, by omega⟩ (fun _ => ?_) (fun hk => ?_)
    · refine x_iload_n rfl l2 ?_
      refine x_ireturn rfl (Or.inl rfl) ⟨_, _, rfl, rfl, rfl, at', rfl, by omega⟩
    · refine x_aload_n rfl l0 ?_
      refine x_getfield rfl (by decide) h177 h35 ?_
      refine x_iload_n rfl l3 ?_
      refine x_baload rfl (by decide) h198 ⟨by omega, by omega⟩ (by omega) ?_
      have hb := hal k.toNat (by omega)
      refine x_ifeq (t := 27) rfl rfl ⟨by omega, by omega⟩ (fun _ => ?_) (fun _ => ?_)
      · refine x_iload_n rfl l2 ?_
        refine x_istore_n rfl (show (2 : Nat) < 4 from by decide) ?_
        refine x_iinc rfl (xst_ne (by decide) l3 (Or.inl rfl)) (show (3 : Nat) < 4 from by decide) ?_
        refine x_goto (t := 9) rfl rfl ?_
        exact ih (k + -1) at' _ (by omega) (by omega) (xst_ne (by decide) (xst_ne (by decide) l0 (Or.inl rfl)) (Or.inl rfl)) (xst_ne (by decide) (xst_ne (by decide) l1 (Or.inl rfl)) (Or.inl rfl)) (xst_ne (by decide) xst_eq (Or.inl rfl)) xst_eq (by omega)
      · refine x_iload_n rfl l3 ?_
        refine x_goto (t := 28) rfl rfl ?_
        refine x_istore_n rfl (show (2 : Nat) < 4 from by decide) ?_
        refine x_iinc rfl (xst_ne (by decide) l3 (Or.inl rfl)) (show (3 : Nat) < 4 from by decide) ?_
        refine x_goto (t := 9) rfl rfl ?_
        exact ih (k + -1) k _ (by omega) (by omega) (xst_ne (by decide) (xst_ne (by decide) l0 (Or.inl rfl)) (Or.inl rfl)) (xst_ne (by decide) (xst_ne (by decide) l1 (Or.inl rfl)) (Or.inl rfl)) (xst_ne (by decide) xst_eq (Or.inl rfl)) xst_eq (by omega)
theorem xy_165 {v0 : Value} {xs : List Int32} {u : Nat × Nat} {f : Nat → zE} {c : Int} (hc : 0 ≤ c ∧ c ≤ 12) (hM : yM yT (xh f)) : xq v0 xs u 165 [(0, .ref 177), (1, xi c)] f (fun r f' => f' = f ∧ ∃ z : Int, r = some (xi z) ∧ (z = -1 ∨ (c ≤ z ∧ z ≤ 11))) := by
  unfold xq
  obtain ⟨fs, ca, al, h177, h9, hca, h35, h38, h198, hl, hal⟩ := xmT hM
  refine x_iconst rfl ?_
  refine x_istore_n rfl (show (2 : Nat) < 4 from by decide) ?_
  refine x_aload_n rfl (xst_ne (by decide) rfl (Or.inl rfl)) ?_
  refine x_getfield rfl (by decide) h177 h9 ?_
  refine x_iconst rfl ?_
  refine x_isub rfl ?_
  refine x_istore_n rfl (show (3 : Nat) < 4 from by decide) ?_
  exact xy_165l hc h177 h35 h198 hl hal 13 (ca - 1) (-1) _ (by omega) (by omega) (xst_ne (by decide) (xst_ne (by decide) rfl (Or.inl rfl)) (Or.inl rfl)) (xst_ne (by decide) (xst_ne (by decide) rfl (Or.inl rfl)) (Or.inl rfl)) (xst_ne (by decide) xst_eq (Or.inl rfl)) xst_eq (Or.inl rfl)
def yW3 : List Nat := 200 :: yW
def xpf (many : Nat) (tl : List Int) : Nat → Int
  | 0 => 0
  | k + 1 => xpf many tl k + (12 - tl.getD k 0) * 14 ^ (many - k)
def xccs (t : Int) : Int := if t < 0 then 1 else 13 - t
def xVv (many : Nat) (tl : List Int) (k : Nat) : Int := xpf many tl k + (if k < many then xccs (tl.getD k 0) * 14 ^ (many - k) else 1)
theorem xpf_set {many : Nat} {tl : List Int} {i : Nat} {x : Int} : ∀ k, k ≤ i → xpf many (tl.set i x) k = xpf many tl k := by
  intro k
  induction k with
  | zero => intro _; rfl
  | succ k ih =>
    intro h
    simp only [xpf]
    rw [ih (by omega), x_gset, if_neg (by omega)]
theorem x14 (k : Nat) : (1 : Int) ≤ 14 ^ k := by
  induction k with
  | zero => decide
  | succ k ih => rw [Int.pow_succ]; omega
theorem xpf_nn {many : Nat} {tl : List Int} (h : ∀ j : Nat, tl.getD j 0 ≤ 11) : ∀ k, 0 ≤ xpf many tl k := by
  intro k
  induction k with
  | zero => exact Int.le_refl _
  | succ k ih =>
    simp only [xpf]
    have h1 := h k
    have h2 := x14 (many - k)
    have : 0 ≤ (12 - tl.getD k 0) * 14 ^ (many - k) := Int.mul_nonneg (by omega) (by omega)
    omega
theorem xccs_rg {t : Int} (h : -1 ≤ t ∧ t ≤ 11) : 1 ≤ xccs t ∧ xccs t ≤ 13 := by
  unfold xccs
  split <;> omega
theorem xVv_pos {many : Nat} {tl : List Int} {k : Nat} (h : ∀ j : Nat, -1 ≤ tl.getD j 0 ∧ tl.getD j 0 ≤ 11) : 1 ≤ xVv many tl k := by
  unfold xVv
  have h1 := xpf_nn (many := many) (fun j => (h j).2) k
  split
  · have h2 := x14 (many - k)
    have h3 := xccs_rg (h k)
    have : 1 * 1 ≤ xccs (tl.getD k 0) * 14 ^ (many - k) := Int.mul_le_mul h3.1 h2 (by decide) (by omega)
    omega
  · omega
theorem xcc_next {t t' : Int} (ht : 0 ≤ t ∧ t ≤ 11) (h : t' = -1 ∨ (t + 1 ≤ t' ∧ t' ≤ 11)) : xccs t' ≤ 12 - t := by
  unfold xccs
  split <;> omega
/-- back to the level before, and on there -/
theorem xVv_pop {many k : Nat} {tl : List Int} {t' : Int} (hk : k < many) (hl : tl.length = 5) (hk5 : k < 5) (h : ∀ j : Nat, -1 ≤ tl.getD j 0 ∧ tl.getD j 0 ≤ 11) (ht : 0 ≤ tl.getD k 0) (h' : t' = -1 ∨ (tl.getD k 0 + 1 ≤ t' ∧ t' ≤ 11)) : xVv many (tl.set k t') k < xVv many tl (k + 1) := by
  unfold xVv
  rw [xpf_set k (Nat.le_refl _), if_pos hk, x_gset, if_pos ⟨rfl, by omega⟩]
  simp only [xpf]
  have h1 := xcc_next ⟨ht, (h k).2⟩ h'
  have h2 := x14 (many - k)
  have h3 : xccs t' * 14 ^ (many - k) ≤ (12 - tl.getD k 0) * 14 ^ (many - k) := Int.mul_le_mul_of_nonneg_right h1 (by omega)
  split
  · have h4 := x14 (many - (k + 1))
    have h5 := xccs_rg (h (k + 1))
    have : 1 * 1 ≤ xccs (tl.getD (k + 1) 0) * 14 ^ (many - (k + 1)) := Int.mul_le_mul h5.1 h4 (by decide) (by omega)
    omega
  · omega
theorem xVv_adv {many k : Nat} {tl : List Int} {t' : Int} (hk : k < many) (hl : tl.length = 5) (hk5 : k < 5) (h : ∀ j : Nat, -1 ≤ tl.getD j 0 ∧ tl.getD j 0 ≤ 11) (ht : 0 ≤ tl.getD k 0) (h' : t' = -1 ∨ (tl.getD k 0 + 1 ≤ t' ∧ t' ≤ 11)) : xVv many (tl.set k t') k < xVv many tl k := by
  unfold xVv
  rw [xpf_set k (Nat.le_refl _), if_pos hk, if_pos hk, x_gset, if_pos ⟨rfl, by omega⟩]
  have h1 := xcc_next ⟨ht, (h k).2⟩ h'
  have h2 := x14 (many - k)
  have h3 : xccs t' * 14 ^ (many - k) ≤ (12 - tl.getD k 0) * 14 ^ (many - k) := Int.mul_le_mul_of_nonneg_right h1 (by omega)
  have h4 : xccs (tl.getD k 0) = (12 - tl.getD k 0) + 1 := by unfold xccs; rw [if_neg (by omega)]; omega
  rw [h4, Int.add_mul, Int.one_mul]
  omega
theorem xVv_push {many k : Nat} {tl : List Int} {x : Int} (hk : k < many) (hl : tl.length = 5) (hk5 : k + 1 < 5) (h : ∀ j : Nat, -1 ≤ tl.getD j 0 ∧ tl.getD j 0 ≤ 11) (ht : 0 ≤ tl.getD k 0) (hx : -1 ≤ x ∧ x ≤ 11) : xVv many (tl.set (k + 1) x) (k + 1) < xVv many tl k := by
  unfold xVv
  have eg : (tl.set (k + 1) x).getD (k + 1) 0 = x := by rw [x_gset, if_pos ⟨rfl, by omega⟩]
  rw [xpf_set (k + 1) (Nat.le_refl _), eg, if_pos hk]
  simp only [xpf]
  have e : (14 : Int) ^ (many - k) = 14 ^ (many - (k + 1)) * 14 := by rw [← Int.pow_succ]; congr 1; omega
  have h2 := x14 (many - (k + 1))
  have h4 : xccs (tl.getD k 0) = (12 - tl.getD k 0) + 1 := by unfold xccs; rw [if_neg (by omega)]; omega
  rw [h4, Int.add_mul, Int.one_mul, e]
  have h5 := xccs_rg hx
  have h6 : xccs x * 14 ^ (many - (k + 1)) ≤ 13 * 14 ^ (many - (k + 1)) := Int.mul_le_mul_of_nonneg_right h5.2 (by omega)
  split <;> omega
theorem xok_tr {l : List Int} (hl : l.length = 5) (h : ∀ j : Nat, -1 ≤ l.getD j 0 ∧ l.getD j 0 ≤ 11) : yok (.inr (.inl (0, [(5, -1, 11)]))) (xr 0 l) := by
  refine yok_mk (by rw [List.length_map]; exact hl) fun z hz => ?_
  obtain ⟨y, hy, rfl⟩ := List.mem_map.mp hz
  obtain ⟨j, hj, rfl⟩ := List.getElem_of_mem hy
  have := h j
  rw [List.getD_eq_getElem?_getD, List.getElem?_eq_getElem hj] at this
  have e := xi_toInt (z := l[j]) (by simp at this; omega) (by simp at this; omega)
  exact ⟨by rw [e]; exact this.1, by rw [e]; exact this.2⟩
theorem yM_xu {T : List yC} {f : Nat → zE} {p : Nat} {t : yC} {c : zE} (hM : yM T (xh f)) (hp : 50 ≤ p) (ht : T[p - 50]? = some t) (hc : yok t c) : yM T (xh (xu f p c)) := by
  rw [← xh_set hp]
  exact yM_set hM ht hc
theorem yF_xu {W : List Nat} {f0 f : Nat → zE} {p : Nat} {c : zE} (h : yF W (xh f0) (xh f)) (hp : 50 ≤ p) (hW : p ∈ W) : yF W (xh f0) (xh (xu f p c)) := by
  intro k hk
  rw [← xh_set hp, List.getElem?_set_ne (by intro e; apply hk; rw [← e, Nat.sub_add_cancel hp]; exact hW)]
  exact h k hk
theorem yM_re {T : List yC} {M : List zE} {j : Nat} {t' : yC} (hM : yM T M) (hc : ∀ c, M[j]? = some c → yok t' c) : yM (T.set j t') M := by
  refine ⟨by simp [hM.1], fun k u hu => ?_⟩
  by_cases hk : j = k
  · subst hk
    have hj : j < T.length := by
      have := (List.getElem?_eq_some_iff.mp hu).1
      simpa using this
    rw [List.getElem?_set_self hj] at hu
    cases hu
    obtain ⟨c, h1, -⟩ := hM.2 j _ (List.getElem?_eq_getElem hj)
    exact ⟨c, h1, hc c h1⟩
  · rw [List.getElem?_set_ne hk] at hu
    exact hM.2 k u hu
/-- a trial that is there -/
theorem yok_trk {k : Nat} {l : List Int} (hk : k < 4) (hl : l.length = 5) (h : ∀ j : Nat, -1 ≤ l.getD j 0 ∧ l.getD j 0 ≤ 11) (ht : 0 ≤ l.getD k 0) : yok (.inr (.inl (0, [(k, -1, 11), (1, 0, 11), (4 - k, -1, 11)]))) (xr 0 l) := by
  refine ⟨rfl, ?_, fun j q z hq hz => ?_⟩
  · show (l.map Int32.ofInt).length = k + (1 + (4 - k + 0))
    rw [List.length_map]
    omega
  · have hz' : (l.map Int32.ofInt)[j]? = some z := hz
    rw [List.getElem?_map] at hz'
    cases hlj : l[j]? with
    | none => rw [hlj] at hz'; cases hz'
    | some y =>
      rw [hlj] at hz'
      cases hz'
      have h1 := h j
      rw [List.getD_eq_getElem?_getD, hlj] at h1
      simp only [Option.getD_some] at h1
      have e := xi_toInt (z := y) (by omega) (by omega)
      have hq' : yat [(k, (-1, 11)), (1, (0, 11)), (4 - k, (-1, 11))] j = some q := hq
      by_cases c1 : j < k
      · simp only [yat] at hq'
        rw [if_pos c1] at hq'
        cases hq'
        exact ⟨by rw [e]; exact h1.1, by rw [e]; exact h1.2⟩
      · by_cases c2 : j = k
        · subst c2
          simp only [yat, Nat.lt_irrefl, if_false, Nat.sub_self, Nat.zero_lt_one, if_true] at hq'
          cases hq'
          rw [List.getD_eq_getElem?_getD, hlj] at ht
          simp only [Option.getD_some] at ht
          exact ⟨by rw [e]; exact ht, by rw [e]; exact h1.2⟩
        · simp only [yat] at hq'
          rw [if_neg c1, if_neg (by omega)] at hq'
          split at hq'
          · cases hq'
            exact ⟨by rw [e]; exact h1.1, by rw [e]; exact h1.2⟩
          · cases hq'
theorem yM_trk {k : Nat} {f : Nat → zE} {tl : List Int} (hk : k < 4) (hM : yM yT (xh f)) (h200 : f 200 = xr 0 tl) (hl : tl.length = 5) (h : ∀ j : Nat, -1 ≤ tl.getD j 0 ∧ tl.getD j 0 ≤ 11) (ht : 0 ≤ tl.getD k 0) : yM (yT.set 150 (.inr (.inl (0, [(k, -1, 11), (1, 0, 11), (4 - k, -1, 11)])))) (xh f) := by
  refine yM_re hM fun c hc => ?_
  have e : (xh f)[150]? = some (f 200) := xh_at (p := 200) (by decide) (by decide)
  rw [e, h200] at hc
  cases hc
  exact yok_trk hk hl h ht
theorem xy_166 {v0 : Value} {xs : List Int32} {u : Nat × Nat} {f : Nat → zE} {k : Nat} {tl : List Int} (hk : k < 4) (hM : yM yT (xh f)) (h200 : f 200 = xr 0 tl) (hl : tl.length = 5) (h : ∀ j : Nat, -1 ≤ tl.getD j 0 ∧ tl.getD j 0 ≤ 11) (ht : 0 ≤ tl.getD k 0) : xq v0 xs u 166 [(0, .ref 177), (1, xi (k : Nat))] f (fun r f' => yro (some (.inl (0, 1))) r ∧ yM yT (xh f') ∧ yF yW (xh f) (xh f')) := by
  have hT := yM_trk hk hM h200 hl h ht
  have key : ∀ (T : List yC) (ps : List yA), yR yW yT T → yx yW T (166, ps, some (.inl (0, 1))) → yfa ps [.ref 177, xi (k : Nat)] → yM T (xh f) → xq v0 xs u 166 [(0, .ref 177), (1, xi (k : Nat))] f (fun r f' => yro (some (.inl (0, 1))) r ∧ yM yT (xh f') ∧ yF yW (xh f) (xh f')) := fun T ps hR hv hf hMT => xq_mono (xq_of hv (hR.1.symm.trans (by decide +kernel : yT.length = 154)) rfl hf hMT) fun r f' hq => ⟨hq.1, yM_sub hR hq.2.1, hq.2.2⟩
  have arg : ∀ q : Int × Int, q.1 ≤ (k : Nat) → ((k : Nat) : Int) ≤ q.2 → yfa [.inr (.inr [177]), .inl q] [.ref 177, xi (k : Nat)] := fun q q1 q2 => ⟨⟨177, rfl, by simp⟩, ⟨_, rfl, by rw [xi_toInt (by omega) (by omega)]; exact q1, by rw [xi_toInt (by omega) (by omega)]; exact q2⟩, trivial⟩
  match k, hk with
  | 0, _ => exact key _ _ yRt_0 yv166_0 (arg _ (by decide) (by decide)) hT
  | 1, _ => exact key _ _ yRt_1 yv166_1 (arg _ (by decide) (by decide)) hT
  | 2, _ => exact key _ _ yRt_2 yv166_2 (arg _ (by decide) (by decide)) hT
  | 3, _ => exact key _ _ yRt_3 yv166_3 (arg _ (by decide) (by decide)) hT
