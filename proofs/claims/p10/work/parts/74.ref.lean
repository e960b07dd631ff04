/-! Types told more closely, and runs of one's cases. -/
def ysubc (t' t : yC) : Bool := match t', t with
  | .inl x', .inl x => decide (x'.1 = x.1) && (decide (x'.2.length = x.2.length) && (List.range x.2.length).all fun k => match x'.2[k]?, x.2[k]? with
    | some a', some a => yle a' a
    | _, _ => false)
  | .inr (.inl x'), .inr (.inl x) => decide (x'.1 = x.1) && (decide (x'.2 = x.2) || (decide (ysum x'.2 = ysum x.2) && (List.range (ysum x.2)).all fun k => match yat x'.2 k, yat x.2 k with
    | some a', some a => decide (a.1 ≤ a'.1) && decide (a'.2 ≤ a.2)
    | _, _ => false))
  | .inr (.inr (.inl n')), .inr (.inr (.inl n)) => decide (n' = n)
  | .inr (.inr (.inr x')), .inr (.inr (.inr x)) => decide (x'.1 = x.1) && decide (x'.2 = x.2)
  | _, _ => false
theorem ysubc_sound {t' t : yC} {c : zE} (h : ysubc t' t = true) (hc : yok t' c) : yok t c := by
  unfold ysubc at h
  split at h
  · rename_i x' x
    simp only [Bool.and_eq_true, decide_eq_true_eq] at h
    obtain ⟨h1, h2, h3⟩ := h
    match c, hc with
    | .inl o, hc =>
      obtain ⟨c1, c2, c3⟩ := hc
      refine ⟨h1.symm.trans c1, h2.symm.trans c2, fun k a v ha hv => ?_⟩
      have hk : k < x.2.length := (List.getElem?_eq_some_iff.mp ha).1
      have h4 := List.all_eq_true.mp h3 k (List.mem_range.mpr hk)
      split at h4
      · rename_i a' a2 e1 e2
        cases ha.symm.trans e2
        exact yle_sound h4 (c3 k a' v e1 hv)
      · cases h4
  · rename_i x' x
    simp only [Bool.and_eq_true, Bool.or_eq_true, decide_eq_true_eq] at h
    obtain ⟨h1, h2⟩ := h
    rcases h2 with h2 | ⟨h2, h3⟩
    · have e : x' = x := Prod.ext h1 h2
      subst e
      exact hc
    match c, hc with
    | .inr (.inl o), hc =>
      obtain ⟨c1, c2, c3⟩ := hc
      refine ⟨h1.symm.trans c1, c2.trans h2, fun k a z ha hv => ?_⟩
      have hk : k < ysum x.2 := by
        have := (List.getElem?_eq_some_iff.mp hv).1
        omega
      have h4 := List.all_eq_true.mp h3 k (List.mem_range.mpr hk)
      split at h4
      · rename_i a' a2 e1 e2
        cases ha.symm.trans e2
        simp only [Bool.and_eq_true, decide_eq_true_eq] at h4
        have h5 := c3 k a' z e1 hv
        exact ⟨Int.le_trans h4.1 h5.1, Int.le_trans h5.2 h4.2⟩
      · cases h4
  · have e := of_decide_eq_true h
    subst e
    exact hc
  · rename_i x' x
    simp only [Bool.and_eq_true, decide_eq_true_eq] at h
    have e : x' = x := Prod.ext h.1 h.2
    subst e
    exact hc
  · cases h
/-- T' tells more than T, at places that are not written -/
def yR (W : List Nat) (T T' : List yC) : Prop := T.length = T'.length ∧ ∀ (j : Nat) (t : yC), T[j]? = some t → ∃ t', T'[j]? = some t' ∧ (∀ c, yok t' c → yok t c) ∧ ((∀ c, yok t c → yok t' c) ∨ ¬ (j + 50) ∈ W)
theorem yR_0 (W : List Nat) (T : List yC) : yR W T T := ⟨rfl, fun _ t h => ⟨t, h, fun _ hc => hc, Or.inl fun _ hc => hc⟩⟩
theorem yR_t {W : List Nat} {T1 T2 T3 : List yC} (h : yR W T1 T2) (k : yR W T2 T3) : yR W T1 T3 := by
  refine ⟨h.1.trans k.1, fun j t ht => ?_⟩
  obtain ⟨t2, e2, h2, g2⟩ := h.2 j t ht
  obtain ⟨t3, e3, h3, g3⟩ := k.2 j t2 e2
  refine ⟨t3, e3, fun c hc => h2 c (h3 c hc), ?_⟩
  rcases g2 with g2 | g2
  · rcases g3 with g3 | g3
    · exact Or.inl fun c hc => g3 c (g2 c hc)
    · exact Or.inr g3
  · exact Or.inr g2
theorem yR_set {W : List Nat} {T : List yC} {j : Nat} {t t' : yC} (ht : T[j]? = some t) (hW : ¬ (j + 50) ∈ W) (hs : ysubc t' t = true) : yR W T (T.set j t') := by
  refine ⟨by simp, fun k u hu => ?_⟩
  by_cases hk : j = k
  · subst hk
    cases ht.symm.trans hu
    exact ⟨t', by simp [(List.getElem?_eq_some_iff.mp ht).1], fun c hc => ysubc_sound hs hc, Or.inr hW⟩
  · exact ⟨u, by rw [List.getElem?_set_ne hk]; exact hu, fun _ hc => hc, Or.inl fun _ hc => hc⟩
theorem yM_sub {W : List Nat} {T T' : List yC} {M : List zE} (h : yR W T T') (hM : yM T' M) : yM T M := by
  refine ⟨hM.1.trans h.1.symm, fun j t ht => ?_⟩
  obtain ⟨t', e, h1, -⟩ := h.2 j t ht
  obtain ⟨c, h2, h3⟩ := hM.2 j t' e
  exact ⟨c, h2, h1 c h3⟩
theorem yM_back {W : List Nat} {T T' : List yC} {M M' : List zE} (h : yR W T T') (hM : yM T' M) (hM' : yM T M') (hf : yF W M M') : yM T' M' := by
  refine ⟨hM'.1.trans h.1, fun j t' ht' => ?_⟩
  have hj : j < T.length := by rw [h.1]; exact (List.getElem?_eq_some_iff.mp ht').1
  obtain ⟨t2, e, -, h1⟩ := h.2 j T[j] (List.getElem?_eq_getElem hj)
  cases ht'.symm.trans e
  rcases h1 with h1 | h1
  · obtain ⟨c, h2, h3⟩ := hM'.2 j _ (List.getElem?_eq_getElem hj)
    exact ⟨c, h2, h1 c h3⟩
  · obtain ⟨c, h2, h3⟩ := hM.2 j t' ht'
    exact ⟨c, (hf j h1).trans h2, h3⟩
theorem yQ_up {W : List Nat} {T T' : List yC} {mi : Nat} {ro : Option yA} {X0 X : zX} {o : zO} (h : yR W T T') (hM : yM T' X0.1) (hq : yQ W T mi ro X0 o X) : yQ W T' mi ro X0 o X := by
  cases o with
  | inl r =>
    obtain ⟨q1, q2, q3⟩ := hq
    exact ⟨q1, yM_back h hM q2 q3.2, q3⟩
  | inr x =>
    obtain ⟨q1, q2, q3, q4, q5⟩ := hq
    exact ⟨q1, q2, yM_back h hM q3 q4, q4, q5⟩
theorem yQ_down {W : List Nat} {T T' : List yC} {mi : Nat} {ro : Option yA} {X0 X : zX} {o : zO} (h : yR W T T') (hq : yQ W T' mi ro X0 o X) : yQ W T mi ro X0 o X := by
  cases o with
  | inl r =>
    obtain ⟨q1, q2, q3⟩ := hq
    exact ⟨q1, yM_sub h q2, q3⟩
  | inr x =>
    obtain ⟨q1, q2, q3, q4, q5⟩ := hq
    exact ⟨q1, q2, yM_sub h q3, q4, q5⟩
theorem yV_up {W : List Nat} {t : zT} {G : List zE} {T T' : List yC} {s : ySm} (h : yR W T T') (hv : yV W t G T s) : yV W t G T' s := fun vs X hf hM => zwp_mono (hv vs X hf (yM_sub h hM)) fun _ _ hq => yQ_up h hM hq
/-- more places may be written -/
theorem yV_W {W W' : List Nat} {t : zT} {G : List zE} {T : List yC} {s : ySm} (h : ∀ k, k ∈ W → k ∈ W') (hv : yV W t G T s) : yV W' t G T s := fun vs X hf hM => zwp_mono (hv vs X hf hM) fun o X' hq => by
  cases o with
  | inl r =>
    obtain ⟨q1, q2, q3⟩ := hq
    exact ⟨q1, q2, q3.1, fun j hj => q3.2 j fun hk => hj (h _ hk)⟩
  | inr x =>
    obtain ⟨q1, q2, q3, q4, q5⟩ := hq
    exact ⟨q1, q2, q3, fun j hj => q4 j fun hk => hj (h _ hk), q5⟩
/-- by cases of what the heap holds at the begin -/
theorem yV_cases {W : List Nat} {t : zT} {G : List zE} {T : List yC} {s : ySm} (h : ∀ X : zX, yM T X.1 → ∃ T', yR W T T' ∧ yM T' X.1 ∧ yV W t G T' s) : yV W t G T s := fun vs X hf hM => by
  obtain ⟨T', h1, h2, h3⟩ := h X hM
  exact zwp_mono (h3 vs X hf h2) fun _ _ hq => yQ_down h1 hq
/-- an int field has some value -/
theorem yM_field {T : List yC} {M : List zE} {j ci b : Nat} {as : List yA} {lo hi : Int} (hM : yM T M) (ht : T[j]? = some (.inl (ci, as))) (ha : as[b]? = some (.inl (lo, hi))) : ∃ z : Int, lo ≤ z ∧ z ≤ hi ∧ ∀ q : Int × Int, q.1 ≤ z → z ≤ q.2 → yM (T.set j (.inl (ci, as.set b (.inl q)))) M := by
  obtain ⟨c, hc, hok⟩ := hM.2 j _ ht
  match c, hok with
  | .inl o, hok =>
    obtain ⟨h1, h2, h3⟩ := hok
    have hb : b < o.2.length := by rw [← h2]; exact (List.getElem?_eq_some_iff.mp ha).1
    have hv := h3 b _ o.2[b] ha (List.getElem?_eq_getElem hb)
    obtain ⟨x, e, l1, l2⟩ := hv
    refine ⟨x.toInt, l1, l2, fun q q1 q2 => ⟨by simp [hM.1], fun k u hu => ?_⟩⟩
    by_cases hk : j = k
    · subst hk
      have hjl : j < T.length := (List.getElem?_eq_some_iff.mp ht).1
      rw [List.getElem?_set_self hjl] at hu
      cases hu
      refine ⟨.inl o, hc, h1, by simpa using h2, fun k a v hk1 hk2 => ?_⟩
      by_cases hbk : b = k
      · subst hbk
        have hbl : b < as.length := (List.getElem?_eq_some_iff.mp ha).1
        dsimp only at hk1
        rw [List.getElem?_set_self hbl] at hk1
        cases hk1
        rw [List.getElem?_eq_getElem hb] at hk2
        cases hk2
        exact ⟨x, e, q1, q2⟩
      · dsimp only at hk1
        rw [List.getElem?_set_ne hbk] at hk1
        exact h3 k a v hk1 hk2
    · rw [List.getElem?_set_ne hk] at hu
      exact hM.2 k u hu
/-- a parameter of several places -/
theorem yV_places {W : List Nat} {t : zT} {G : List zE} {T : List yC} {m : Nat} {as bs : List yA} {ro : Option yA} {os : List Nat} (h : ∀ o ∈ os, yV W t G T (m, as ++ .inr (.inr [o]) :: bs, ro)) : yV W t G T (m, as ++ .inr (.inr os) :: bs, ro) := by
  intro vs X hf hM
  have key : ∃ o ∈ os, yfa (as ++ .inr (.inr [o]) :: bs) vs := by
    revert hf
    show yfa (as ++ .inr (.inr os) :: bs) vs → _
    clear h hM
    induction as generalizing vs with
    | nil =>
      intro hf
      cases vs with
      | nil => exact hf.elim
      | cons v vs =>
        obtain ⟨⟨o, e, ho⟩, h2⟩ := hf
        exact ⟨o, ho, ⟨⟨o, e, by simp⟩, h2⟩⟩
    | cons a as ih =>
      intro hf
      cases vs with
      | nil => exact hf.elim
      | cons v vs =>
        obtain ⟨o, ho, h2⟩ := ih _ hf.2
        exact ⟨o, ho, ⟨hf.1, h2⟩⟩
  obtain ⟨o, ho, hf'⟩ := key
  exact h o ho vs X hf' hM
