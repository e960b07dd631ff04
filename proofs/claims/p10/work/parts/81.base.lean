/-! The places that dancing and searching write; the given cells; a table instead of an interval. -/
def yW : List Nat := [50, 115, 116, 117, 118, 119, 120, 121] ++ (List.range 54).map (fun k => k + 123) ++ [177] ++ (List.range 11).map (fun k => k + 189) ++ [201, 202, 203]
def ykb (l : List (Nat × Int × Int)) (xs : List Int32) : Bool := (List.range xs.length).all fun j => match yat l j, xs[j]? with
  | some q, some z => decide (q.1 ≤ z.toInt) && decide (z.toInt ≤ q.2)
  | _, _ => false
theorem ykb_spec {kd : Nat} {l : List (Nat × Int × Int)} {xs : List Int32} (h : ykb l xs = true) (hl : xs.length = ysum l) : yok (.inr (.inl (kd, l))) (.inr (.inl (kd, xs))) := by
  refine ⟨rfl, hl, fun j q z h1 h2 => ?_⟩
  have hj : j < xs.length := (List.getElem?_eq_some_iff.mp h2).1
  have h3 := List.all_eq_true.mp h j (List.mem_range.mpr hj)
  have h1' : yat l j = some q := h1
  have h2' : xs[j]? = some z := h2
  simp only [h1', h2', Bool.and_eq_true, decide_eq_true_eq] at h3
  exact h3
theorem yg_ok (xs : List Int32) : yMg yTg (zG xs) := by
  intro j t hj ht
  match j, hj, ht with
  | 0, hj, _ => exact absurd rfl hj
  | 1, _, ht => cases ht; exact ⟨_, rfl, ykb_spec (by decide +kernel) rfl⟩
  | 2, _, ht => cases ht; exact ⟨_, rfl, ykb_spec (by decide +kernel) rfl⟩
  | 3, _, ht => cases ht; exact ⟨_, rfl, ykb_spec (by decide +kernel) rfl⟩
  | 4, _, ht => cases ht; exact ⟨_, rfl, ykb_spec (by decide +kernel) rfl⟩
  | j + 5, _, ht => cases ht
/-- what a summary promises, in every launch, on every script; of W alone is written -/
def yx (W : List Nat) (T : List yC) (s : ySm) : Prop := ∀ (v0 : Value) (xs : List Int32), yV W (zt v0) (zG xs) T s
def yxo (W : List Nat) (T : List yC) (O : yO) (s : ySm) : Prop := ∀ (v0 : Value) (xs : List Int32), yVO W (zt v0) (zG xs) T O s
abbrev yw (T : List yC) (s : ySm) : Prop := yx yW T s
abbrev yv (s : ySm) : Prop := yw yT s
theorem yw_n {W : List Nat} {T : List yC} : ∀ s ∈ ([] : List ySm), yx W T s := fun s h => by cases h
theorem yw_c {W : List Nat} {T : List yC} {s : ySm} {r : List ySm} (h : yx W T s) (k : ∀ u ∈ r, yx W T u) : ∀ u ∈ s :: r, yx W T u := fun u hu => by
  rcases List.mem_cons.mp hu with rfl | hu
  · exact h
  · exact k u hu
theorem ywo_of {W : List Nat} {T : List yC} {Sm : List ySm} {s : ySm} {K : yK} {Hs : List yH} {Ho : List (Nat × yO)} {R : Int} {n : Nat} {O : yO} (hS : ∀ u ∈ Sm, yx W T u) (h : yck W zcd0 zNLf zHN yTg T Sm s K Hs ykp Ho R n O = true) : yxo W T O s := fun v0 xs => yck_sound (fun m ci f hk => ykp_spec v0 m ci f hk) (zt_nl v0) (zt_hn v0) (zcd0_sub v0) (yg_ok xs) (fun u hu => hS u hu v0 xs) h
theorem yw_of {W : List Nat} {T : List yC} {Sm : List ySm} {s : ySm} {K : yK} {Hs : List yH} {Ho : List (Nat × yO)} {R : Int} {n : Nat} (hS : ∀ u ∈ Sm, yx W T u) (h : yck W zcd0 zNLf zHN yTg T Sm s K Hs ykp Ho R n [] = true) : yx W T s := fun v0 xs vs X hf hM => ywo_of hS h v0 xs vs X hf hM (fun e he => by cases he)
theorem yw_up {W : List Nat} {T T' : List yC} {s : ySm} (h : yR W T T') (hv : yx W T s) : yx W T' s := fun v0 xs => yV_up h (hv v0 xs)
theorem yw_W {W W' : List Nat} {T : List yC} {s : ySm} (h : (W.all fun k => W'.elem k) = true) (hv : yx W T s) : yx W' T s := fun v0 xs => yV_W (fun k hk => List.elem_iff.mp (List.all_eq_true.mp h k hk)) (hv v0 xs)
/-- a wider answer -/
def yrle (ro ro' : Option yA) : Bool := yemp ro || (match ro, ro' with
  | some a, some b => yle a b
  | none, none => true
  | _, _ => false)
theorem yrle_sound {ro ro' : Option yA} {r : Option Value} (h : yrle ro ro' = true) (hr : yro ro r) : yro ro' r := by
  unfold yrle at h
  rw [Bool.or_eq_true] at h
  rcases h with h | h
  · exact (yemp_spec h hr).elim
  · split at h
    · cases r with
      | none => exact hr.elim
      | some v => exact yle_sound h hr
    · exact hr
    · cases h
theorem yxo_ro {W : List Nat} {T : List yC} {O : yO} {m : Nat} {ps : List yA} {ro : Option yA} (ro' : Option yA) (hv : yxo W T O (m, ps, ro)) (h : yrle ro ro' = true) : yxo W T O (m, ps, ro') := fun v0 xs vs X hf hM hO => zwp_mono (hv v0 xs vs X hf hM hO) fun o X' hq => by
  cases o with
  | inl r => exact ⟨yrle_sound h hq.1, hq.2⟩
  | inr x => exact hq
theorem yx_ro {W : List Nat} {T : List yC} {m : Nat} {ps : List yA} {ro : Option yA} (ro' : Option yA) (hv : yx W T (m, ps, ro)) (h : yrle ro ro' = true) : yx W T (m, ps, ro') := fun v0 xs vs X hf hM => zwp_mono (hv v0 xs vs X hf hM) fun o X' hq => by
  cases o with
  | inl r => exact ⟨yrle_sound h hq.1, hq.2⟩
  | inr x => exact hq
/-- an int parameter in pieces -/
theorem yfa_i {as bs : List yA} {q : Int × Int} : ∀ {vs : List Value}, yfa (as ++ .inl q :: bs) vs → ∃ z : Int, q.1 ≤ z ∧ z ≤ q.2 ∧ ∀ q' : Int × Int, q'.1 ≤ z → z ≤ q'.2 → yfa (as ++ .inl q' :: bs) vs := by
  induction as with
  | nil =>
    intro vs h
    cases vs with
    | nil => exact h.elim
    | cons v vs =>
      obtain ⟨⟨x, e, h1, h2⟩, h3⟩ := h
      exact ⟨x.toInt, h1, h2, fun q' k1 k2 => ⟨⟨x, e, k1, k2⟩, h3⟩⟩
  | cons a as ih =>
    intro vs h
    cases vs with
    | nil => exact h.elim
    | cons v vs =>
      obtain ⟨z, h1, h2, h3⟩ := ih h.2
      exact ⟨z, h1, h2, fun q' k1 k2 => ⟨h.1, h3 q' k1 k2⟩⟩
theorem yx_i3 {W : List Nat} {T : List yC} {m : Nat} {ro : Option yA} (as : List yA) {bs : List yA} {k k' : Int} (hk : k' = k + 1) (h1 : yx W T (m, as ++ .inl (0, k) :: bs, ro)) (h2 : yx W T (m, as ++ .inl (-2147483648, -1) :: bs, ro)) (h3 : yx W T (m, as ++ .inl (k', 2147483647) :: bs, ro)) : yx W T (m, as ++ .inl ytop :: bs, ro) := fun v0 xs vs X hf hM => by
  obtain ⟨z, e1, e2, e3⟩ := yfa_i hf
  by_cases c1 : z < 0
  · exact h2 v0 xs vs X (e3 _ e1 (by dsimp only; omega)) hM
  · by_cases c2 : z ≤ k
    · exact h1 v0 xs vs X (e3 _ (by dsimp only; omega) c2) hM
    · exact h3 v0 xs vs X (e3 _ (by dsimp only; omega) e2) hM
theorem yx_i2 {W : List Nat} {T : List yC} {m : Nat} {ro : Option yA} (as : List yA) {bs : List yA} (h2 : yx W T (m, as ++ .inl (-2147483648, -1) :: bs, ro)) (h3 : yx W T (m, as ++ .inl (0, 2147483647) :: bs, ro)) : yx W T (m, as ++ .inl ytop :: bs, ro) := fun v0 xs vs X hf hM => by
  obtain ⟨z, e1, e2, e3⟩ := yfa_i hf
  by_cases c1 : z < 0
  · exact h2 v0 xs vs X (e3 _ e1 (by dsimp only; omega)) hM
  · exact h3 v0 xs vs X (e3 _ (by dsimp only; omega) e2) hM
/-- a small int parameter, value by value -/
theorem yx_iN {W : List Nat} {T : List yC} {m : Nat} {ro : Option yA} (as : List yA) {bs : List yA} {lo hi : Int} (h : ∀ z : Int, lo ≤ z → z ≤ hi → yx W T (m, as ++ .inl (z, z) :: bs, ro)) : yx W T (m, as ++ .inl (lo, hi) :: bs, ro) := fun v0 xs vs X hf hM => by
  obtain ⟨z, e1, e2, e3⟩ := yfa_i hf
  exact h z e1 e2 v0 xs vs X (e3 (z, z) (Int.le_refl _) (Int.le_refl _)) hM
/-- an int field in two pieces -/
theorem yM_o {T : List yC} {M : List zE} {j ci b : Nat} {as : List yA} {lo hi : Int} (hM : yM T M) (ht : T[j]? = some (.inl (ci, as))) (ha : as[b]? = some (.inl (lo, hi))) : ∃ z : Int, lo ≤ z ∧ z ≤ hi ∧ ∀ l h : Int, l ≤ z → z ≤ h → yo [(j + 50, ci, b, l, h)] M := by
  obtain ⟨c, hc, hok⟩ := hM.2 j _ ht
  match c, hok with
  | .inl o, hok =>
    obtain ⟨h1, h2, h3⟩ := hok
    have hb : b < o.2.length := by rw [← h2]; exact (List.getElem?_eq_some_iff.mp ha).1
    obtain ⟨x, e, l1, l2⟩ := h3 b _ o.2[b] ha (List.getElem?_eq_getElem hb)
    refine ⟨x.toInt, l1, l2, fun l h k1 k2 d hd => ?_⟩
    rcases List.mem_cons.mp hd with rfl | hd
    · refine ⟨Nat.le_add_left 50 j, o.2, x, ?_, ?_, k1, k2⟩
      · show M[j + 50 - 50]? = some (.inl (ci, o.2))
        rw [Nat.add_sub_cancel, hc, show ci = o.1 from h1]
      · show o.2[b]? = some (.int x)
        rw [List.getElem?_eq_getElem hb, e]
    · cases hd
theorem yx_f2 {W : List Nat} {T : List yC} {s : ySm} (j : Nat) {ci b : Nat} {as : List yA} {lo hi l1 h1 l2 h2 : Int} (k1 : yxo W T [(j + 50, ci, b, l1, h1)] s) (k2 : yxo W T [(j + 50, ci, b, l2, h2)] s) (ht : T[j]? = some (.inl (ci, as))) (ha : as[b]? = some (.inl (lo, hi))) (hc : l1 ≤ lo ∧ l2 ≤ h1 + 1 ∧ hi ≤ h2) : yx W T s := fun v0 xs vs X hf hM => by
  obtain ⟨z, e1, e2, e3⟩ := yM_o hM ht ha
  by_cases c1 : z ≤ h1
  · exact k1 v0 xs vs X hf hM (e3 l1 h1 (by omega) c1)
  · exact k2 v0 xs vs X hf hM (e3 l2 h2 (by omega) (by omega))
/-- a whole table of closer types, by one test -/
def yrB (W : List Nat) (T T' : List yC) : Bool := decide (T.length = T'.length) && (List.range T.length).all fun j => match T[j]?, T'[j]? with
  | some t, some t' => ysubc t' t && (!(W.elem (j + 50)) || ysubc t t')
  | _, _ => false
theorem yrB_spec {W : List Nat} {T T' : List yC} (h : yrB W T T' = true) : yR W T T' := by
  simp only [yrB, Bool.and_eq_true, decide_eq_true_eq] at h
  refine ⟨h.1, fun j t ht => ?_⟩
  have hj : j < T.length := (List.getElem?_eq_some_iff.mp ht).1
  have h1 := List.all_eq_true.mp h.2 j (List.mem_range.mpr hj)
  split at h1
  · rename_i u u' e1 e2
    cases ht.symm.trans e1
    simp only [Bool.or_eq_true, Bool.and_eq_true] at h1
    refine ⟨u', e2, fun c hc => ysubc_sound h1.1 hc, ?_⟩
    rcases h1.2 with h2 | h2
    · exact Or.inr (by simpa using h2)
    · exact Or.inl fun c hc => ysubc_sound h2 hc
  · cases h1
theorem yv_split {m : Nat} {n : Nat} {as : List yA} {ro : Option yA} (h : ∀ p : Nat, p < n → yv (m, .inl ((p : Int), (p : Int)) :: as, ro)) : yv (m, .inl (0, (n : Int) - 1) :: as, ro) := by
  intro v0 xs vs X hf hM
  cases vs with
  | nil => exact hf.elim
  | cons v vs =>
    obtain ⟨⟨x, e, h1, h2⟩, hr⟩ := hf
    dsimp only at h1 h2
    have hx : ((x.toInt.toNat : Nat) : Int) = x.toInt := by omega
    refine h x.toInt.toNat (by omega) v0 xs (v :: vs) X ⟨⟨x, e, ?_, ?_⟩, hr⟩ hM
    · dsimp only; omega
    · dsimp only; omega
