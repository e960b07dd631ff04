/-! From head to head, and a method's certificate. -/
def yinc (L B : yL) : Bool := B.all fun q => match ylk L q.1 with
  | some a => yle a q.2
  | none => false
theorem yinc_sound {L B : yL} {lv : zL} (h : yinc L B = true) (hl : yl L lv) : yl B lv := by
  intro q hq
  have h1 := List.all_eq_true.mp h q hq
  split at h1
  · rename_i a ha
    obtain ⟨v, h2, h3⟩ := yl_at hl ha
    exact ⟨v, h2, yle_sound h1 h3⟩
  · cases h1
def yho (Ho : List (Nat × yO)) (pc : Nat) : yO := (Ho.lookup pc).getD []
/-- what O knows is enough for O' -/
def yoi (O O' : yO) : Bool := O'.all fun e => O.any fun d => d.1 == e.1 && (d.2.1 == e.2.1 && (d.2.2.1 == e.2.2.1 && (decide (e.2.2.2.1 ≤ d.2.2.2.1) && decide (d.2.2.2.2 ≤ e.2.2.2.2))))
theorem yoi_sound {O O' : yO} {M : List zE} (h : yoi O O' = true) (hO : yo O M) : yo O' M := by
  intro e he
  obtain ⟨d, h1, h2⟩ := List.any_eq_true.mp (List.all_eq_true.mp h e he)
  simp only [Bool.and_eq_true, beq_iff_eq, decide_eq_true_eq] at h2
  obtain ⟨e1, e2, e3, e4, e5⟩ := h2
  obtain ⟨h50, fs, x, k1, k2, k3, k4⟩ := hO d h1
  rw [e1] at k1 h50
  rw [e2] at k1
  rw [e3] at k2
  exact ⟨h50, fs, x, k1, k2, by omega, by omega⟩
def yrun (W : List Nat) (cd : Nat → Nat → Option zI) (nl : Nat → Nat) (hn : Nat → Nat → Nat → Option Nat) (Tg T : List yC) (Sm : List ySm) (ro : Option yA) (mi : Nat) (K : yK) (Hs : List yH) (kp : Nat → Nat → Nat → Bool) (Ho : List (Nat × yO)) (rk : Int) (fl : List Bool) : Nat → Bool → Nat → yL → yS → List (Nat × Int) → yO → Bool
  | 0, _, _, _, _, _, _ => false
  | n + 1, first, pc, L, S, D, O => match (if first then none else Hs.find? fun B => B.1 == pc) with
    | some B => S.isEmpty && (yinc L B.2.1 && (yoi O (yho Ho pc) && (match ydif D B.2.1 K fl B.2.2.2 with
      | some e => decide (B.2.2.1 + e < rk)
      | none => false)))
    | none => match cd mi pc with
      | none => false
      | some (i, a, b, c, v) => match ynx W cd nl hn Tg T Sm ro mi pc i a b c v L S O with
        | none => false
        | some ss => yir i L D && ss.all fun s => yrun W cd nl hn Tg T Sm ro mi K Hs kp Ho rk fl n false s.1 s.2.1 s.2.2 (yupd i D) (yov kp i a b S O)
section yRS
variable {W : List Nat} {t : zT} {G : List zE} {cd : Nat → Nat → Option zI} {nl : Nat → Nat} {hn : Nat → Nat → Nat → Option Nat} {Tg T : List yC} {Sm : List ySm} {ro : Option yA} {mi : Nat} {K : yK} {Hs : List yH} {kp : Nat → Nat → Nat → Bool} {Ho : List (Nat × yO)}
theorem yrun_sound (hkp : ∀ (m ci f : Nat), kp m ci f = true → ∀ (n : Nat) (lv : zL) (X : zX) (r : zO × zX), zev (zcd t) (znl t) (zdf t) (zhn t) G n m 0 lv [] X = some r → ∀ (k : Nat) (fs : List Value), X.1[k]? = some (.inl (ci, fs)) → ∃ fs', r.2.1[k]? = some (.inl (ci, fs')) ∧ fs'[f]? = fs[f]?) (hnl : znl t = nl) (hhn : zhn t = hn) (hcd : ∀ mi pc q, cd mi pc = some q → zcd t mi pc = some q) (hg : yMg Tg G) (hS : ∀ s ∈ Sm, yV W t G T s) {rk : Int} {fl : List Bool} {LA : yL} {lv0 : zL} (hA : yl LA lv0) (hfA : yhk LA K fl = true) (hHk : ∀ B ∈ Hs, yhk B.2.1 K B.2.2.2 = true) {X0 : zX}
    (hH : ∀ B ∈ Hs, ∀ (lv : zL) (X : zX), yl B.2.1 lv → yM T X.1 → yP W X0 X → yo (yho Ho B.1) X.1 → B.2.2.1 + ytot K B.2.2.2 lv < rk + ytot K fl lv0 → zwp t G mi B.1 lv [] X (yQ W T mi ro X0)) :
    ∀ (n : Nat) (first : Bool) (pc : Nat) (L : yL) (S : yS) (D : List (Nat × Int)) (O : yO) (lv : zL) (st : List Value) (X : zX), yrun W cd nl hn Tg T Sm ro mi K Hs kp Ho rk fl n first pc L S D O = true → yl L lv → ys S st lv → yD D lv0 lv → yM T X.1 → yP W X0 X → yo O X.1 → zwp t G mi pc lv st X (yQ W T mi ro X0) := by
  intro n
  induction n with
  | zero => intro first pc L S D O lv st X h; cases h
  | succ n ih =>
    intro first pc L S D O lv st X h hl hs hD hM hX hO
    rw [yrun] at h
    split at h
    · rename_i B hB
      have hB' : Hs.find? (fun B => B.1 == pc) = some B := by
        cases first with
        | true => cases hB
        | false => exact hB
      have hm := List.mem_of_find?_eq_some hB'
      have hp : B.1 = pc := by simpa using List.find?_some hB'
      simp only [Bool.and_eq_true] at h
      obtain ⟨h1, h2, h2o, h3⟩ := h
      have h1' : S = [] := by simpa using h1
      subst h1'
      have hst := ys_nil hs
      subst hst
      have hlB := yinc_sound h2 hl
      split at h3
      · rename_i e he
        have h4 := ydif_sound hA hlB hD hfA (hHk B hm) he
        have h5 : B.2.2.1 + e < rk := by simpa using h3
        rw [← hp]
        exact hH B hm lv X hlB hM hX (by rw [hp]; exact yoi_sound h2o hO) (by omega)
      · cases h3
    · split at h
      · cases h
      · rename_i i a b c v hc
        split at h
        · cases h
        · rename_i ss hss
          refine ynx_sound (kp := kp) hkp hO hcd hnl hhn hg hM hX hS (hcd _ _ _ hc) hss hl hs fun s hs' lv' st' X' k1 k2 k3 k4 ko k5 => ?_
          simp only [Bool.and_eq_true] at h
          exact ih false s.1 s.2.1 s.2.2 (yupd i D) _ lv' st' X' (List.all_eq_true.mp h.2 s hs') k1 k2 (k5 D lv0 h.1 hD) k3 k4 ko
def yd0 (L : yL) (K : yK) : List (Nat × Int) := (K.filter fun c => match ylk L c.1 with
  | some (.inl _) => true
  | _ => false).map fun c => (c.1, 0)
theorem yD_0 {L : yL} {lv : zL} (hl : yl L lv) : yD (yd0 L K) lv lv := by
  intro q hq
  obtain ⟨c, h1, rfl⟩ := List.mem_map.mp hq
  have h2 := (List.mem_filter.mp h1).2
  split at h2
  · rename_i p hp
    obtain ⟨x, h3, -⟩ := yl_i hl hp
    exact ⟨x, x, h3, h3, by dsimp only; omega⟩
  · cases h2
theorem yhk_false (L : yL) : ∀ (K : yK), yhk L K (K.map fun _ => false) = true := by
  intro K
  induction K with
  | nil => rfl
  | cons c K ih => simp [yhk, ih]
def yck1 (W : List Nat) (cd : Nat → Nat → Option zI) (nl : Nat → Nat) (hn : Nat → Nat → Nat → Option Nat) (Tg T : List yC) (Sm : List ySm) (s : ySm) (K : yK) (Hs : List yH) (kp : Nat → Nat → Nat → Bool) (Ho : List (Nat × yO)) (n : Nat) (A : yH) : Bool := yhk A.2.1 K A.2.2.2 && (decide (0 ≤ A.2.2.1) && yrun W cd nl hn Tg T Sm s.2.2 s.1 K Hs kp Ho A.2.2.1 A.2.2.2 n true A.1 A.2.1 [] (yd0 A.2.1 K) (yho Ho A.1))
def yck (W : List Nat) (cd : Nat → Nat → Option zI) (nl : Nat → Nat) (hn : Nat → Nat → Nat → Option Nat) (Tg T : List yC) (Sm : List ySm) (s : ySm) (K : yK) (Hs : List yH) (kp : Nat → Nat → Nat → Bool) (Ho : List (Nat × yO)) (R : Int) (n : Nat) (O : yO) : Bool :=
  Hs.all (yck1 W cd nl hn Tg T Sm s K Hs kp Ho n) && yrun W cd nl hn Tg T Sm s.2.2 s.1 K Hs kp Ho R (K.map fun _ => false) n false 0 (ylargs 0 s.2.1) [] [] O
/-- a certificate that checks: the method keeps its summary -/
theorem yck_sound (hkp : ∀ (m ci f : Nat), kp m ci f = true → ∀ (n : Nat) (lv : zL) (X : zX) (r : zO × zX), zev (zcd t) (znl t) (zdf t) (zhn t) G n m 0 lv [] X = some r → ∀ (k : Nat) (fs : List Value), X.1[k]? = some (.inl (ci, fs)) → ∃ fs', r.2.1[k]? = some (.inl (ci, fs')) ∧ fs'[f]? = fs[f]?) (hnl : znl t = nl) (hhn : zhn t = hn) (hcd : ∀ mi pc q, cd mi pc = some q → zcd t mi pc = some q) (hg : yMg Tg G) (hS : ∀ s ∈ Sm, yV W t G T s) {s : ySm} {R : Int} {n : Nat} {O : yO} (h : yck W cd nl hn Tg T Sm s K Hs kp Ho R n O = true) : yVO W t G T O s := by
  simp only [yck, Bool.and_eq_true] at h
  obtain ⟨h1, h2⟩ := h
  have h1' := List.all_eq_true.mp h1
  have hHk : ∀ B ∈ Hs, yhk B.2.1 K B.2.2.2 = true := fun B hB => by
    have := h1' B hB
    simp only [yck1, Bool.and_eq_true] at this
    exact this.1
  intro vs X hv hM hO
  have key : ∀ (m : Nat), ∀ B ∈ Hs, ∀ (lv : zL) (X' : zX), yl B.2.1 lv → yM T X'.1 → yP W X X' → yo (yho Ho B.1) X'.1 → B.2.2.1 + ytot K B.2.2.2 lv < m → zwp t G s.1 B.1 lv [] X' (yQ W T s.1 s.2.2 X) := by
    intro m
    induction m with
    | zero =>
      intro B hB lv X' hl _ _ _ hlt
      exfalso
      have h3 := h1' B hB
      simp only [yck1, Bool.and_eq_true, decide_eq_true_eq] at h3
      have h4 := yhk_nonneg hl h3.1
      omega
    | succ m ih =>
      intro B hB lv X' hl hM' hX' hO' hlt
      have h3 := h1' B hB
      simp only [yck1, Bool.and_eq_true, decide_eq_true_eq] at h3
      refine yrun_sound hkp hnl hhn hcd hg hS hl h3.1 hHk (fun C hC lv2 X2 k1 k2 k3 ko k4 => ih C hC lv2 X2 k1 k2 k3 ko (by omega)) n true B.1 B.2.1 [] _ _ lv [] X' h3.2.2 hl trivial (yD_0 hl) hM' hX' hO'
  have hl := yl_args (i := 0) hv
  refine yrun_sound hkp hnl hhn hcd hg hS hl (yhk_false _ K) hHk (fun C hC lv2 X2 k1 k2 k3 ko k4 => key (C.2.2.1 + ytot K C.2.2.2 lv2 + 1).toNat C hC lv2 X2 k1 k2 k3 ko (by omega)) n false 0 _ [] [] _ _ [] X h2 hl trivial (fun q hq => by cases hq) hM (yP_0 W X) hO
end yRS
