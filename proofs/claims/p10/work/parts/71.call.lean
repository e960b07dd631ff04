/-! Calls and ends. A summary: a method, its parameters' types, its answer's type. -/
abbrev ySm : Type := Nat × List yA × Option yA
def yct (a : yA) : Nat := if ylg a then 2 else 1
def ycat (S : yS) : Nat := (S.map fun q => yct q.1).sum
theorem yct_spec {a : yA} {v : Value} (h : yg a v) : v.category = yct a := by
  unfold yg at h
  split at h
  · obtain ⟨x, rfl, -⟩ := h; rfl
  · obtain ⟨x, rfl⟩ := h; rfl
  · obtain ⟨o, rfl, -⟩ := h; rfl
theorem ycat_spec {S : yS} : ∀ {st : List Value} {lv : zL}, ys S st lv → zcat st = ycat S := by
  induction S with
  | nil => intro st lv h; cases st with
    | nil => rfl
    | cons w r => exact h.elim
  | cons q S ih => intro st lv h; cases st with
    | nil => exact h.elim
    | cons w r =>
      obtain ⟨h1, -, h3⟩ := h
      have e := ih h3
      simp only [zcat, ycat] at e
      simp only [zcat, ycat, List.map_cons, List.sum_cons, e, yct_spec h1]
theorem ys_len {S : yS} : ∀ {st : List Value} {lv : zL}, ys S st lv → st.length = S.length := by
  induction S with
  | nil => intro st lv h; cases st with
    | nil => rfl
    | cons w r => exact h.elim
  | cons q S ih => intro st lv h; cases st with
    | nil => exact h.elim
    | cons w r => simp [ih h.2.2]
theorem ys_drop {S : yS} : ∀ {st : List Value} {lv : zL} (n : Nat), ys S st lv → ys (S.drop n) (st.drop n) lv := by
  induction S with
  | nil => intro st lv n h; cases st with
    | nil => simpa using h
    | cons w r => exact h.elim
  | cons q S ih => intro st lv n h; cases st with
    | nil => exact h.elim
    | cons w r => cases n with
      | zero => exact h
      | succ n => exact ih n h.2.2
theorem ys_take {S : yS} : ∀ {st : List Value} {lv : zL} (n : Nat), ys S st lv → ys (S.take n) (st.take n) lv := by
  induction S with
  | nil => intro st lv n h; cases st with
    | nil => simpa using h
    | cons w r => exact h.elim
  | cons q S ih => intro st lv n h; cases st with
    | nil => exact h.elim
    | cons w r => cases n with
      | zero => trivial
      | succ n => exact ⟨h.1, h.2.1, ih n h.2.2⟩
def yfa : List yA → List Value → Prop
  | [], [] => True
  | a :: as, v :: vs => yg a v ∧ yfa as vs
  | _, _ => False
theorem ys_fa {S : yS} : ∀ {st : List Value} {lv : zL}, ys S st lv → yfa (S.map Prod.fst) st := by
  induction S with
  | nil => intro st lv h; cases st with
    | nil => trivial
    | cons w r => exact h.elim
  | cons q S ih => intro st lv h; cases st with
    | nil => exact h.elim
    | cons w r => exact ⟨h.1, ih h.2.2⟩
theorem yfa_app {as : List yA} : ∀ {vs : List Value} {bs : List yA} {ws : List Value}, yfa as vs → yfa bs ws → yfa (as ++ bs) (vs ++ ws) := by
  induction as with
  | nil => intro vs bs ws h k; cases vs with
    | nil => exact k
    | cons w r => exact h.elim
  | cons a as ih => intro vs bs ws h k; cases vs with
    | nil => exact h.elim
    | cons w r => exact ⟨h.1, ih h.2 k⟩
theorem yfa_rev {as : List yA} : ∀ {vs : List Value}, yfa as vs → yfa as.reverse vs.reverse := by
  induction as with
  | nil => intro vs h; cases vs with
    | nil => trivial
    | cons w r => exact h.elim
  | cons a as ih => intro vs h; cases vs with
    | nil => exact h.elim
    | cons w r =>
      rw [List.reverse_cons, List.reverse_cons]
      exact yfa_app (ih h.2) ⟨h.1, trivial⟩
def yles : List yA → List yA → Bool
  | [], [] => true
  | a :: as, b :: bs => yle a b && yles as bs
  | _, _ => false
theorem yles_sound {as : List yA} : ∀ {bs : List yA} {vs : List Value}, yles as bs = true → yfa as vs → yfa bs vs := by
  induction as with
  | nil => intro bs vs h k; cases bs with
    | nil => exact k
    | cons b bs => cases h
  | cons a as ih => intro bs vs h k; cases bs with
    | nil => cases h
    | cons b bs => cases vs with
      | nil => exact k.elim
      | cons w r =>
        simp only [yles, Bool.and_eq_true] at h
        exact ⟨yle_sound h.1 k.1, ih h.2 k.2⟩
/-- a method's locals at its begin -/
def ylargs : Nat → List yA → yL
  | _, [] => []
  | i, a :: as => (i, a) :: ylargs (i + yct a) as
theorem yct_pos (a : yA) : 0 < yct a := by
  unfold yct
  split <;> omega
theorem ylargs_ge {as : List yA} : ∀ {i : Nat} {q : Nat × yA}, q ∈ ylargs i as → i ≤ q.1 := by
  induction as with
  | nil => intro i q h; cases h
  | cons a as ih =>
    intro i q h
    rcases List.mem_cons.mp h with rfl | h
    · exact Nat.le_refl _
    · have := ih h
      omega
theorem yl_args {as : List yA} : ∀ {vs : List Value} {i : Nat}, yfa as vs → yl (ylargs i as) (lv_args i vs) := by
  induction as with
  | nil => intro vs i _ q hq; cases hq
  | cons a as ih =>
    intro vs i h
    cases vs with
    | nil => exact h.elim
    | cons v vs =>
      intro q hq
      have e : lv_args i (v :: vs) = (i, v) :: lv_args (i + yct a) vs := by
        rw [← yct_spec h.1]
        have hc : v.category = 1 ∨ v.category = 2 := by cases v <;> first | exact Or.inl rfl | exact Or.inr rfl
        simp only [lv_args]
        rcases hc with hc | hc <;> simp [hc]
      rw [e]
      rcases List.mem_cons.mp hq with rfl | hq
      · exact ⟨v, zlv_cons, h.1⟩
      · have h1 := ylargs_ge hq
        have h2 := yct_pos a
        obtain ⟨w, h3, h4⟩ := ih h.2 q hq
        exact ⟨w, by rw [zlv_cons_ne (by omega)]; exact h3, h4⟩
/-- the receiver's class -/
def yrc (Tg T : List yC) (v : Value) (as : List yA) : Bool := match v with
  | .ref ci => match as with
    | .inr (.inr os) :: _ => os.all fun o => match yrd Tg T o with
      | some (.inl x) => decide (x.1 = ci)
      | _ => false
    | _ => false
  | _ => true
theorem yrc_sound {Tg T : List yC} {G : List zE} {X : zX} {v : Value} {as : List yA} {vs : List Value} (hg : yMg Tg G) (hM : yM T X.1) (h : yrc Tg T v as = true) (ha : yfa as vs) : zrcv G X v vs = true := by
  unfold yrc at h
  unfold zrcv
  split at h
  · split at h
    · cases vs with
      | nil => exact ha.elim
      | cons w r =>
        obtain ⟨⟨o, e, ho⟩, -⟩ := ha
        subst e
        have h1 := List.all_eq_true.mp h o ho
        split at h1
        · rename_i x hx
          obtain ⟨c, h2, h3⟩ := yrd_sound hg hM hx
          cases c with
          | inl y =>
            have h4 : x.1 = y.1 := h3.1
            simp only [h2]
            rw [← h4]
            exact h1
          | inr y => exact absurd h3 (by intro hh; cases y <;> exact hh)
        · cases h1
    · cases h
  · rename_i hn
    split
    · exact absurd rfl (hn _)
    · rfl
def yro : Option yA → Option Value → Prop
  | none, none => True
  | some a, some v => yg a v
  | _, _ => False
def yrt (i : Instr) (a : Nat) (S : yS) (ro : Option yA) : Bool := match i with
  | .ireturn => match S, ro with
    | [(.inl q, _)], some t => yle (.inl q) t && (decide (a = 0) || (decide (a = 1) && decide (0 ≤ q.1) && decide (q.2 ≤ 1)))
    | _, _ => false
  | .lreturn => match S, ro with
    | [(.inr (.inl _), _)], some (.inr (.inl _)) => true
    | _, _ => false
  | .areturn => match S, ro with
    | [(.inr (.inr os), _)], some t => yle (.inr (.inr os)) t
    | _, _ => false
  | .return_ => match S, ro with
    | [], none => true
    | _, _ => false
  | _ => false
theorem ys_nil {st : List Value} {lv : zL} (h : ys [] st lv) : st = [] := by
  cases st with
  | nil => rfl
  | cons w r => exact h.elim
theorem yrt_sound {i : Instr} {a : Nat} {S : yS} {ro : Option yA} {st : List Value} {lv : zL} (h : yrt i a S ro = true) (hs : ys S st lv) : ∃ r, zret i a st = some r ∧ yro ro r := by
  cases i with
  | ireturn =>
    simp only [yrt] at h
    split at h
    · obtain ⟨x, r, rfl, hx, -, hr⟩ := ys_int hs
      have hr' := ys_nil hr
      subst hr'
      simp only [Bool.and_eq_true, Bool.or_eq_true, decide_eq_true_eq] at h
      refine ⟨some (.int x), ?_, yle_sound h.1 (yg_int hx)⟩
      simp only [zret]
      rw [if_pos]
      rcases h.2 with h2 | h2
      · exact Or.inl h2
      · obtain ⟨h3, h4⟩ := hx
        exact Or.inr (Or.inl ⟨h2.1.1, y_01 (by omega) (by omega)⟩)
    · cases h
  | lreturn =>
    simp only [yrt] at h
    split at h
    · obtain ⟨x, r, rfl, hr⟩ := ys_long hs
      have hr' := ys_nil hr
      subst hr'
      exact ⟨_, rfl, x, rfl⟩
    · cases h
  | areturn =>
    simp only [yrt] at h
    split at h
    · obtain ⟨x, r, rfl, hx, -, hr⟩ := ys_ref hs
      have hr' := ys_nil hr
      subst hr'
      exact ⟨_, rfl, yle_sound h (yg_r hx)⟩
    · cases h
  | return_ =>
    simp only [yrt] at h
    split at h
    · have hr' := ys_nil hs
      subst hr'
      exact ⟨_, rfl, trivial⟩
    · cases h
  | _ => cases h
def yj (b : Nat) (S : yS) : Option yS := match b with
  | 1 => match S with
    | (.inl y, _) :: (.inl x, _) :: r => some ((.inl (ymax x.1 y.1, ymax x.2 y.2), 0) :: r)
    | _ => none
  | 2 => match S with
    | (.inl y, _) :: (.inl x, _) :: r => some ((.inl (ymin x.1 y.1, ymin x.2 y.2), 0) :: r)
    | _ => none
  | _ => none
theorem yj_sound {b : Nat} {S S' : yS} {st : List Value} {lv : zL} {X : zX} (h : yj b S = some S') (hs : ys S st lv) : ∃ q, zd b st X = some (q, X) ∧ ys S' q lv := by
  unfold yj at h
  split at h
  · split at h
    · cases h
      obtain ⟨y, r, rfl, ⟨h1, h2⟩, -, hs⟩ := ys_int hs
      obtain ⟨x, r, rfl, ⟨h3, h4⟩, -, hs⟩ := ys_int hs
      refine ⟨_, rfl, ys_0 (yg_int ?_) hs⟩
      simp only [yin, ymax, y_lt]
      constructor <;> (repeat' split) <;> omega
    · cases h
  · split at h
    · cases h
      obtain ⟨y, r, rfl, ⟨h1, h2⟩, -, hs⟩ := ys_int hs
      obtain ⟨x, r, rfl, ⟨h3, h4⟩, -, hs⟩ := ys_int hs
      refine ⟨_, rfl, ys_0 (yg_int ?_) hs⟩
      simp only [yin, ymin, y_lt]
      constructor <;> (repeat' split) <;> omega
    · cases h
  · cases h
/-! What a method leaves alone: all places but those of W. -/
def yF (W : List Nat) (M M' : List zE) : Prop := ∀ k : Nat, ¬ (k + 50) ∈ W → M'[k]? = M[k]?
def yP (W : List Nat) (X0 X : zX) : Prop := X.2 = X0.2 ∧ yF W X0.1 X.1
theorem yF_set {W : List Nat} {M : List zE} {o : Nat} {c : zE} (ho : ¬ o < 50) (hW : o ∈ W) : yF W M (M.set (o - 50) c) := by
  intro k hk
  refine List.getElem?_set_ne fun e => hk ?_
  have e2 : k + 50 = o := by omega
  rw [e2]
  exact hW
theorem yP_0 (W : List Nat) (X : zX) : yP W X X := ⟨rfl, fun _ _ => rfl⟩
theorem yP_t {W : List Nat} {X0 X1 X2 : zX} (h : yP W X0 X1) (k : X2.2 = X1.2) (k2 : yF W X1.1 X2.1) : yP W X0 X2 := ⟨k.trans h.1, fun j hj => (k2 j hj).trans (h.2 j hj)⟩
def ywr (W : List Nat) (i : Instr) (S : yS) : Bool := match i with
  | .putfield _ => match S with
    | _ :: (.inr (.inr os), _) :: _ => os.all fun o => W.elem o
    | _ => false
  | .iastore | .bastore | .lastore => match S with
    | _ :: _ :: (.inr (.inr os), _) :: _ => os.all fun o => W.elem o
    | _ => false
  | _ => false
theorem ywr_mem {W os : List Nat} {o : Nat} (h : (os.all fun o => W.elem o) = true) (ho : o ∈ os) : o ∈ W := List.elem_iff.mp (List.all_eq_true.mp h o ho)
theorem ys_tail {q : yA × Nat} {S : yS} {v : Value} {st : List Value} {lv : zL} (h : ys (q :: S) (v :: st) lv) : ys S st lv := h.2.2
theorem ywr_sound {W : List Nat} {df : Nat → List Value} {i : Instr} {a b c : Nat} {S : yS} {st : List Value} {lv : zL} {X : zX} {q : Nat × List Value × zX} (hw : ywr W i S = true) (hs : ys S st lv) (hz : zc df i a b c st X = some q) : yF W X.1 q.2.2.1 := by
  cases i with
  | putfield z =>
    simp only [ywr] at hw
    simp only [zc] at hz
    split at hz
    · split at hz
      · cases hz
      · rename_i ho
        split at hz
        · split at hz
          · cases hz
            split at hw
            · obtain ⟨o', r', e, h1, -, -⟩ := ys_ref (ys_tail hs)
              cases e
              exact yF_set ho (ywr_mem hw h1)
            · cases hw
          · cases hz
        · cases hz
    · cases hz
  | iastore =>
    simp only [ywr] at hw
    simp only [zc] at hz
    split at hz
    · split at hz
      · cases hz
      · rename_i ho
        split at hz
        · split at hz
          · cases hz
            split at hw
            · obtain ⟨o', r', e, h1, -, -⟩ := ys_ref (ys_tail (ys_tail hs))
              cases e
              exact yF_set ho (ywr_mem hw h1)
            · cases hw
          · cases hz
        · cases hz
    · cases hz
  | bastore =>
    simp only [ywr] at hw
    simp only [zc] at hz
    split at hz
    · split at hz
      · cases hz
      · rename_i ho
        split at hz
        · split at hz
          · cases hz
            split at hw
            · obtain ⟨o', r', e, h1, -, -⟩ := ys_ref (ys_tail (ys_tail hs))
              cases e
              exact yF_set ho (ywr_mem hw h1)
            · cases hw
          · cases hz
        · cases hz
    · cases hz
  | lastore =>
    simp only [ywr] at hw
    simp only [zc] at hz
    split at hz
    · split at hz
      · cases hz
      · rename_i ho
        split at hz
        · split at hz
          · cases hz
            split at hw
            · obtain ⟨o', r', e, h1, -, -⟩ := ys_ref (ys_tail (ys_tail hs))
              cases e
              exact yF_set ho (ywr_mem hw h1)
            · cases hw
          · cases hz
        · cases hz
    · cases hz
  | _ => cases hw
/-! arraycopy, between arrays of one run each -/
def ycp (T : List yC) (n dp sp : Int × Int) (d q : Nat) : Bool := decide (50 ≤ d) && (decide (50 ≤ q) && (decide (d ≠ q) && (match T[d - 50]?, T[q - 50]? with
  | some (.inr (.inl (0, [x]))), some (.inr (.inl (0, [y]))) => decide (sp.2 + n.2 ≤ (y.1 : Int) ∧ dp.2 + n.2 ≤ (x.1 : Int) ∧ x.2.1 ≤ y.2.1 ∧ y.2.2 ≤ x.2.2)
  | _, _ => false)))
def yj3 (W : List Nat) (T : List yC) (b : Nat) (S : yS) : Option yS := match b with
  | 3 => match S with
    | (.inl n, _) :: (.inl dp, _) :: (.inr (.inr ds), _) :: (.inl sp, _) :: (.inr (.inr qs), _) :: r =>
      if (0 ≤ n.1 ∧ 0 ≤ dp.1 ∧ 0 ≤ sp.1) ∧ (ds.all fun d => W.elem d && qs.all fun q => ycp T n dp sp d q) = true then some r else none
    | _ => none
  | _ => none
theorem yok_run {x : Nat × Int × Int} {xs : List Int32} (h : yok (.inr (.inl (0, [x]))) (.inr (.inl (0, xs)))) : xs.length = x.1 ∧ ∀ z ∈ xs, yin x.2 z := by
  obtain ⟨-, h2, h3⟩ := h
  have h2' : xs.length = x.1 := by simpa [ysum] using h2
  refine ⟨h2', fun z hz => ?_⟩
  obtain ⟨j, hj, e⟩ := List.getElem_of_mem hz
  refine h3 j x.2 z ?_ (by rw [List.getElem?_eq_getElem hj, e])
  simp only [yat]
  rw [if_pos (by omega)]
theorem yok_mk {x : Nat × Int × Int} {xs : List Int32} (h : xs.length = x.1) (h2 : ∀ z ∈ xs, yin x.2 z) : yok (.inr (.inl (0, [x]))) (.inr (.inl (0, xs))) := by
  refine ⟨rfl, by simpa [ysum] using h, fun j q z hq hz => ?_⟩
  have hq' : yat [x] j = some q := hq
  simp only [yat] at hq'
  split at hq'
  · cases hq'
    exact h2 z (List.mem_of_getElem? hz)
  · cases hq'
theorem y_cl {x : Int32} (h : 0 ≤ x.toInt) : ¬ x < 0 ∧ (x.toNatClampNeg : Int) = x.toInt := by
  have e : x.toNatClampNeg = x.toInt.toNat := rfl
  refine ⟨fun hh => ?_, by rw [e]; omega⟩
  have := y_lt.mp hh
  have e0 : (0 : Int32).toInt = 0 := rfl
  omega
theorem yj3_sound {W : List Nat} {T : List yC} {b : Nat} {S S' : yS} {st : List Value} {lv : zL} {X : zX} (hM : yM T X.1) (h : yj3 W T b S = some S') (hs : ys S st lv) : ∃ q, zd b st X = some q ∧ ys S' q.1 lv ∧ yM T q.2.1 ∧ q.2.2 = X.2 ∧ yF W X.1 q.2.1 := by
  unfold yj3 at h
  split at h
  · split at h
    · split at h
      · rename_i n _ dp _ ds _ sp _ qs _ r hc
        cases h
        obtain ⟨vn, r1, rfl, ⟨n1, n2⟩, -, hs⟩ := ys_int hs
        obtain ⟨vd, r2, rfl, ⟨d1, d2⟩, -, hs⟩ := ys_int hs
        obtain ⟨d, r3, rfl, hd, -, hs⟩ := ys_ref hs
        obtain ⟨vs, r4, rfl, ⟨s1, s2⟩, -, hs⟩ := ys_int hs
        obtain ⟨q, r5, rfl, hq, -, hs⟩ := ys_ref hs
        have hk0 := List.all_eq_true.mp hc.2 d hd
        simp only [Bool.and_eq_true] at hk0
        have hk := List.all_eq_true.mp hk0.2 q hq
        simp only [ycp, Bool.and_eq_true, decide_eq_true_eq] at hk
        obtain ⟨k1, k2, k3, k4⟩ := hk
        split at k4
        · rename_i x y hx hy
          have k5 := of_decide_eq_true k4
          obtain ⟨cx, x1, x2⟩ := hM.2 _ _ hx
          obtain ⟨cy, y1, y2⟩ := hM.2 _ _ hy
          match cx, x1, x2 with
          | .inl _, _, x2 => exact x2.elim
          | .inr (.inr (.inl _)), _, x2 => exact x2.elim
          | .inr (.inr (.inr _)), _, x2 => exact x2.elim
          | .inr (.inl (kx, xs)), x1, x2 =>
            match cy, y1, y2 with
            | .inl _, _, y2 => exact y2.elim
            | .inr (.inr (.inl _)), _, y2 => exact y2.elim
            | .inr (.inr (.inr _)), _, y2 => exact y2.elim
            | .inr (.inl (ky, ys')), y1, y2 =>
              have ekx : kx = 0 := x2.1.symm
              have eky : ky = 0 := y2.1.symm
              subst ekx
              subst eky
              obtain ⟨lx, ex⟩ := yok_run x2
              obtain ⟨ly, ey⟩ := yok_run y2
              obtain ⟨cn1, cn2⟩ := y_cl (x := vn) (by omega)
              obtain ⟨cd1, cd2⟩ := y_cl (x := vd) (by omega)
              obtain ⟨cs1, cs2⟩ := y_cl (x := vs) (by omega)
              have g1 : vs.toNatClampNeg + vn.toNatClampNeg ≤ ys'.length := by omega
              have g2 : vd.toNatClampNeg + vn.toNatClampNeg ≤ xs.length := by omega
              refine ⟨(r5, zput X d (.inr (.inl (0, xs.take vd.toNatClampNeg ++ (ys'.drop vs.toNatClampNeg).take vn.toNatClampNeg ++ xs.drop (vd.toNatClampNeg + vn.toNatClampNeg))))), ?_, hs, ?_, rfl, yF_set (by omega) (List.elem_iff.mp hk0.1)⟩
              · simp only [zd]
                have hne : ¬ (d < 50 ∨ q < 50 ∨ d = q) := by
                  intro hh
                  rcases hh with hh | hh | hh
                  · exact absurd k1 (Nat.not_le.mpr hh)
                  · exact absurd k2 (Nat.not_le.mpr hh)
                  · exact k3 hh
                rw [if_neg hne]
                simp only [x1, y1]
                rw [if_pos ⟨cn1, cs1, cd1, g1, g2⟩]
              · refine yM_set hM hx (yok_mk ?_ fun z hz => ?_)
                · simp only [List.length_append, List.length_take, List.length_drop]
                  omega
                · rcases List.mem_append.mp hz with hz | hz
                  · rcases List.mem_append.mp hz with hz | hz
                    · exact ex z (List.mem_of_mem_take hz)
                    · obtain ⟨w1, w2⟩ := ey z (List.mem_of_mem_drop (List.mem_of_mem_take hz))
                      exact ⟨by omega, by omega⟩
                  · exact ex z (List.mem_of_mem_drop hz)
        · cases k4
      · cases h
    · cases h
  · cases h
