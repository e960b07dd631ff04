/-! The law: its loop, and its begin. -/
set_option maxRecDepth 20000 in
theorem xs_177t {v0 : Value} {xs : List Int32} {u : Nat × Nat} {Q : zO → zX → Prop} {f : Nat → zE} {lv : zL} {i : Nat} {y : Int} (hv : v0 = .null ∨ v0 = .ref 49) (hxs : xs.length ≤ 1536) (hi : i + 3 ≤ xs.length) (l0 : zlv lv 0 = some (.ref 0)) (l1 : zlv lv 1 = some (.ref 50)) (l2 : zlv lv 2 = some (.ref 177)) (l3 : zlv lv 3 = some (.ref 203)) (l4 : zlv lv 4 = some (xi (i : Nat))) (hA : sA f) (Kn : sKN v0 xs u Q i) : xz v0 xs u Q 177 39 lv [xi (Int32.ofInt y &&& Int32.ofInt 31).toInt] f := by
  have hs : 0 ≤ (Int32.ofInt y &&& Int32.ofInt 31).toInt ∧ (Int32.ofInt y &&& Int32.ofInt 31).toInt ≤ ((31 : Nat) : Int) := y_and 5 31 31 rfl rfl rfl rfl (by decide)
  generalize (Int32.ofInt y &&& Int32.ofInt 31).toInt = s at hs ⊢
  rcases (show s = 0 ∨ s = 1 ∨ s = 2 ∨ s = 3 ∨ s = 4 ∨ s = 5 ∨ s = 6 ∨ s = 7 ∨ s = 8 ∨ s = 9 ∨ s = 10 ∨ s = 11 ∨ s = 12 ∨ s = 13 ∨ s = 14 ∨ s = 15 ∨ s = 16 ∨ s = 17 ∨ 17 < s by omega) with rfl | rfl | rfl | rfl | rfl | rfl | rfl | rfl | rfl | rfl | rfl | rfl | rfl | rfl | rfl | rfl | rfl | rfl | h
  · refine x_sw (t := 124) (e := 85) rfl ⟨by decide, by decide⟩ (by decide) rfl ?_
    exact xK0 hxs hi l0 l1 l2 l3 l4 hA Kn
  · refine x_sw (t := 181) (e := 142) rfl ⟨by decide, by decide⟩ (by decide) rfl ?_
    exact xK1 hxs hi l0 l1 l2 l3 l4 hA Kn
  · refine x_sw (t := 194) (e := 155) rfl ⟨by decide, by decide⟩ (by decide) rfl ?_
    exact xK2 hv l0 l1 l2 l3 l4 hA Kn
  · refine x_sw (t := 210) (e := 171) rfl ⟨by decide, by decide⟩ (by decide) rfl ?_
    exact xK3 hxs hi l0 l1 l2 l3 l4 hA Kn
  · refine x_sw (t := 223) (e := 184) rfl ⟨by decide, by decide⟩ (by decide) rfl ?_
    exact xK4 hxs hi l0 l1 l2 l3 l4 hA Kn
  · refine x_sw (t := 251) (e := 212) rfl ⟨by decide, by decide⟩ (by decide) rfl ?_
    exact xK5 hxs hi l0 l1 l2 l3 l4 hA Kn
  · refine x_sw (t := 279) (e := 240) rfl ⟨by decide, by decide⟩ (by decide) rfl ?_
    exact xK6 hxs hi l0 l1 l2 l3 l4 hA Kn
  · refine x_sw (t := 307) (e := 268) rfl ⟨by decide, by decide⟩ (by decide) rfl ?_
    exact xK7 hxs hi l0 l1 l2 l3 l4 hA Kn
  · refine x_sw (t := 320) (e := 281) rfl ⟨by decide, by decide⟩ (by decide) rfl ?_
    exact xK8 hxs hi l0 l1 l2 l3 l4 hA Kn
  · refine x_sw (t := 336) (e := 297) rfl ⟨by decide, by decide⟩ (by decide) rfl ?_
    exact xK9 hxs hi l0 l1 l2 l3 l4 hA Kn
  · refine x_sw (t := 349) (e := 310) rfl ⟨by decide, by decide⟩ (by decide) rfl ?_
    exact xK10 hxs hi l0 l1 l2 l3 l4 hA Kn
  · refine x_sw (t := 389) (e := 350) rfl ⟨by decide, by decide⟩ (by decide) rfl ?_
    exact xK11 hxs hi l0 l1 l2 l3 l4 hA Kn
  · refine x_sw (t := 429) (e := 390) rfl ⟨by decide, by decide⟩ (by decide) rfl ?_
    exact xK12 hxs hi l0 l1 l2 l3 l4 hA Kn
  · refine x_sw (t := 469) (e := 430) rfl ⟨by decide, by decide⟩ (by decide) rfl ?_
    exact xK13 hxs hi l0 l1 l2 l3 l4 hA Kn
  · refine x_sw (t := 482) (e := 443) rfl ⟨by decide, by decide⟩ (by decide) rfl ?_
    exact xK14 hxs hi l0 l1 l2 l3 l4 hA Kn
  · refine x_sw (t := 535) (e := 496) rfl ⟨by decide, by decide⟩ (by decide) rfl ?_
    exact xK15 hxs hi l0 l1 l2 l3 l4 hA Kn
  · refine x_sw (t := 548) (e := 509) rfl ⟨by decide, by decide⟩ (by decide) rfl ?_
    exact xK16 hxs hi l0 l1 l2 l3 l4 hA Kn
  · refine x_sw (t := 576) (e := 537) rfl ⟨by decide, by decide⟩ (by decide) rfl ?_
    exact xK17 hxs hi l0 l1 l2 l3 l4 hA Kn
  · refine x_sw (t := 651) (e := 612) rfl ⟨by omega, by omega⟩ (if_pos (Or.inr h)) rfl ?_
    exact Kn _ _ _ l0 l1 l2 l3 l4 hA (by omega) (by omega)
abbrev xQL (o : zO) (X : zX) : Prop := o = .inl (some (.int 1)) ∧ X.2.1 ≤ 601024 ∧ X.2.2 ≤ 7293034
set_option maxRecDepth 20000 in
theorem xs_177h {v0 : Value} {xs : List Int32} {u : Nat × Nat} {f : Nat → zE} {lv : zL} {i : Nat} (hv : v0 = .null ∨ v0 = .ref 49) (hxs : xs.length ≤ 1536) (hi : i ≤ xs.length) (hu1 : 3 * u.1 ≤ 462 + i) (hu2 : u.2 ≤ 8600 + 2 * i) (l0 : zlv lv 0 = some (.ref 0)) (l1 : zlv lv 1 = some (.ref 50)) (l2 : zlv lv 2 = some (.ref 177)) (l3 : zlv lv 3 = some (.ref 203)) (l4 : zlv lv 4 = some (xi (i : Nat))) (hA : sA f) (Kn : i + 3 ≤ xs.length → sKN v0 xs u xQL i) : xz v0 xs u xQL 177 23 lv [] f := by
  refine x_iload rfl l4 ?_
  refine x_aload_n rfl l0 ?_
  refine x_gln rfl ?_
  refine x_iconst rfl ?_
  refine x_isub rfl ?_
  refine x_cgt (t := 657) rfl rfl ⟨by omega, by omega⟩ ⟨by omega, by omega⟩ (fun h => ?_) (fun h => ?_)
  · refine x_iconst rfl ?_
    exact x_ireturn rfl (Or.inr (Or.inl ⟨rfl, Or.inr rfl⟩)) ⟨rfl, by show u.1 ≤ 601024; omega, by show u.2 ≤ 7293034; omega⟩
  · have hi3 : i + 3 ≤ xs.length := by omega
    refine x_aload_n rfl l0 ?_
    refine x_iload rfl l4 ?_
    refine x_gia rfl ⟨by omega, by omega⟩ (by omega) ?_
    refine x_bipush rfl (by decide) ?_
    refine x_iandz rfl ?_
    exact xs_177t hv hxs hi3 l0 l1 l2 l3 l4 hA (Kn hi3)
set_option maxRecDepth 20000 in
theorem xs_177l {v0 : Value} {xs : List Int32} (hv : v0 = .null ∨ v0 = .ref 49) (hxs : xs.length ≤ 1536) : ∀ (k i : Nat) (lv : zL) (f : Nat → zE) (u : Nat × Nat), xs.length ≤ i + 3 * k → i ≤ xs.length → 3 * u.1 ≤ 462 + i → u.2 ≤ 8600 + 2 * i → zlv lv 0 = some (.ref 0) → zlv lv 1 = some (.ref 50) → zlv lv 2 = some (.ref 177) → zlv lv 3 = some (.ref 203) → zlv lv 4 = some (xi (i : Nat)) → sA f → xz v0 xs u xQL 177 23 lv [] f := by
  intro k
  induction k with
  | zero =>
    intro i lv f u hk hi hu1 hu2 l0 l1 l2 l3 l4 hA
    exact xs_177h hv hxs hi hu1 hu2 l0 l1 l2 l3 l4 hA (fun h => by omega)
  | succ k ih =>
    intro i lv f u hk hi hu1 hu2 l0 l1 l2 l3 l4 hA
    refine xs_177h hv hxs hi hu1 hu2 l0 l1 l2 l3 l4 hA (fun h => ?_)
    intro lv2 f2 u2 m0 m1 m2 m3 m4 hA2 b1 b2
    refine x_iinc rfl m4 (show (4 : Nat) < 7 from by decide) ?_
    refine x_goto (t := 23) rfl rfl ?_
    refine ih (i + 3) _ f2 u2 (by omega) (by omega) (by omega) (by omega) (xst_ne (by decide) m0 (Or.inl rfl)) (xst_ne (by decide) m1 (Or.inl rfl)) (xst_ne (by decide) m2 (Or.inl rfl)) (xst_ne (by decide) m3 (Or.inl rfl)) ?_ hA2
    exact xst_eq
/-! The heap behind the constructors. -/
def ygB (a : yA) (v : Value) : Bool := match a, v with
  | .inl q, .int x => decide (q.1 ≤ x.toInt) && decide (x.toInt ≤ q.2)
  | .inr (.inl _), .long _ => true
  | .inr (.inr os), .ref o => os.elem o
  | _, _ => false
theorem ygB_spec {a : yA} {v : Value} (h : ygB a v = true) : yg a v := by
  unfold ygB at h
  split at h
  · simp only [Bool.and_eq_true, decide_eq_true_eq] at h
    exact ⟨_, rfl, h.1, h.2⟩
  · exact ⟨_, rfl⟩
  · exact ⟨_, rfl, List.elem_iff.mp h⟩
  · cases h
def ygsB : List yA → List Value → Bool
  | [], [] => true
  | a :: as, v :: vs => ygB a v && ygsB as vs
  | _, _ => false
theorem ygsB_spec : ∀ {as : List yA} {vs : List Value}, ygsB as vs = true → yfa as vs := by
  intro as
  induction as with
  | nil => intro vs h; cases vs with
    | nil => trivial
    | cons v vs => cases h
  | cons a as ih => intro vs h; cases vs with
    | nil => cases h
    | cons v vs =>
      simp only [ygsB, Bool.and_eq_true] at h
      exact ⟨ygB_spec h.1, ih h.2⟩
def yrfB : List (List Nat) → List (Option Nat) → Bool
  | [], [] => true
  | os :: r, some o :: q => os.elem o && yrfB r q
  | _, _ => false
theorem yrfB_spec : ∀ {as : List (List Nat)} {vs : List (Option Nat)}, yrfB as vs = true → as.length = vs.length ∧ ∀ (j : Nat) (os : List Nat) (p : Option Nat), as[j]? = some os → vs[j]? = some p → ∃ o, p = some o ∧ o ∈ os := by
  intro as
  induction as with
  | nil => intro vs h; cases vs with
    | nil => exact ⟨rfl, fun j os p h => by simp at h⟩
    | cons v vs => cases h
  | cons a as ih => intro vs h; cases vs with
    | nil => cases h
    | cons v vs => cases v with
      | none => cases h
      | some o =>
        simp only [yrfB, Bool.and_eq_true] at h
        obtain ⟨h1, h2⟩ := ih h.2
        refine ⟨by rw [List.length_cons, List.length_cons, h1], fun j os p hj hp => ?_⟩
        cases j with
        | zero =>
          rw [List.getElem?_cons_zero] at hj hp
          cases hj
          cases hp
          exact ⟨o, rfl, List.elem_iff.mp h.1⟩
        | succ j =>
          rw [List.getElem?_cons_succ] at hj hp
          exact h2 j os p hj hp
def yrsB : List (Nat × Int × Int) → List Int32 → Bool
  | [], xs => xs.isEmpty
  | q :: r, xs => (xs.take q.1).length == q.1 && ((xs.take q.1).all (fun z => decide (q.2.1 ≤ z.toInt) && decide (z.toInt ≤ q.2.2)) && yrsB r (xs.drop q.1))
theorem yrsB_spec : ∀ {l : List (Nat × Int × Int)} {xs : List Int32}, yrsB l xs = true → xs.length = ysum l ∧ ∀ (j : Nat) (q : Int × Int) (z : Int32), yat l j = some q → xs[j]? = some z → yin q z := by
  intro l
  induction l with
  | nil =>
    intro xs h
    simp only [yrsB, List.isEmpty_iff] at h
    subst h
    exact ⟨rfl, fun j q z h => by cases h⟩
  | cons a r ih =>
    intro xs h
    simp only [yrsB, Bool.and_eq_true, beq_iff_eq] at h
    obtain ⟨h1, h2, h3⟩ := h
    obtain ⟨h4, h5⟩ := ih h3
    rw [List.length_take] at h1
    rw [List.length_drop] at h4
    refine ⟨by simp only [ysum]; omega, fun j q z hq hz => ?_⟩
    simp only [yat] at hq
    split at hq
    · rename_i hj
      cases hq
      have hm : z ∈ xs.take a.1 := by
        refine List.mem_iff_getElem?.mpr ⟨j, ?_⟩
        rw [List.getElem?_take, if_pos hj]
        exact hz
      have h6 := List.all_eq_true.mp h2 z hm
      simp only [Bool.and_eq_true, decide_eq_true_eq] at h6
      exact h6
    · rename_i hj
      refine h5 (j - a.1) q z hq ?_
      rw [List.getElem?_drop, show a.1 + (j - a.1) = j by omega]
      exact hz
def yokB (t : yC) (c : zE) : Bool := match t, c with
  | .inl x, .inl o => x.1 == o.1 && ygsB x.2 o.2
  | .inr (.inl x), .inr (.inl y) => x.1 == y.1 && yrsB x.2 y.2
  | .inr (.inr (.inl n)), .inr (.inr (.inl xs)) => xs.length == n
  | .inr (.inr (.inr x)), .inr (.inr (.inr y)) => x.1 == y.1 && yrfB x.2 y.2
  | _, _ => false
theorem yokB_spec {t : yC} {c : zE} (h : yokB t c = true) : yok t c := by
  unfold yokB at h
  split at h
  · rename_i x o
    obtain ⟨x1, x2⟩ := x
    obtain ⟨o1, o2⟩ := o
    simp only [Bool.and_eq_true, beq_iff_eq] at h
    obtain ⟨rfl, h2⟩ := h
    exact yok_o (ygsB_spec h2)
  · rename_i x y
    obtain ⟨x1, x2⟩ := x
    obtain ⟨o1, o2⟩ := y
    simp only [Bool.and_eq_true, beq_iff_eq] at h
    obtain ⟨rfl, h2⟩ := h
    obtain ⟨h3, h4⟩ := yrsB_spec h2
    exact ⟨rfl, h3, h4⟩
  · rename_i n l
    simp only [beq_iff_eq] at h
    exact h
  · rename_i x y
    simp only [Bool.and_eq_true, beq_iff_eq] at h
    obtain ⟨h1, h2⟩ := yrfB_spec h.2
    exact ⟨h.1, h1, h2⟩
  · cases h
def yMB : List yC → List zE → Bool
  | [], [] => true
  | t :: ts, c :: cs => yokB t c && yMB ts cs
  | _, _ => false
theorem yMB_spec : ∀ {T : List yC} {M : List zE}, yMB T M = true → yM T M := by
  intro T
  induction T with
  | nil => intro M h; cases M with
    | nil => exact ⟨rfl, fun j t h => by simp at h⟩
    | cons c M => cases h
  | cons t T ih => intro M h; cases M with
    | nil => cases h
    | cons c M =>
      simp only [yMB, Bool.and_eq_true] at h
      obtain ⟨h1, h2⟩ := ih h.2
      refine ⟨by rw [List.length_cons, List.length_cons, h1], fun j u hj => ?_⟩
      cases j with
      | zero =>
        rw [List.getElem?_cons_zero] at hj
        cases hj
        exact ⟨c, List.getElem?_cons_zero, yokB_spec h.1⟩
      | succ j =>
        rw [List.getElem?_cons_succ] at hj
        obtain ⟨d, hd, hk⟩ := h2 j u hj
        exact ⟨d, by rw [List.getElem?_cons_succ]; exact hd, hk⟩
def zM0 : List zE := zH2 ++ [.inr (.inr (.inl (List.replicate 1 0)))]
theorem zM0_T : yM yT2 zM0 := yMB_spec (by decide +kernel)
theorem zM0_len : zM0.length = 154 := by decide +kernel
theorem xrep (kd k : Nat) : (.inr (.inl (kd, List.replicate k 0)) : zE) = xr kd (List.replicate k 0) := by
  rw [xr, List.map_replicate]
  rfl
theorem xrep_g (k j : Nat) : (List.replicate k (0 : Int)).getD j 0 = 0 := by
  rw [List.getD_eq_getElem?_getD, List.getElem?_replicate]
  split <;> rfl
theorem xcb_0 {fp ep ta : List Int} : xcb [] 0 fp ep ta := fun _ => ⟨rfl, fun j hj => absurd hj (Nat.not_lt_zero j)⟩
theorem xty_0 : xty 0 (List.replicate 16 0) (List.replicate 16 0) (List.replicate 16 0) := by
  refine ⟨List.length_replicate, List.length_replicate, List.length_replicate, fun j => ?_, fun j => ?_, fun j => ?_, fun j hj => ?_⟩
  · rw [xrep_g]; omega
  · rw [xrep_g]; omega
  · rw [xrep_g]; omega
  · omega
theorem zM0_fig : ∀ i : Nat, i < 13 → ∃ d : Int, zM0[7 + 4 * i]? = some (xfg i 0 (xi 0) (xi d) (xi 0)) ∧ zM0[8 + 4 * i]? = some (.inr (.inl (0, List.replicate 16 0))) ∧ zM0[9 + 4 * i]? = some (.inr (.inl (0, List.replicate 16 0))) ∧ zM0[10 + 4 * i]? = some (.inr (.inl (0, List.replicate 16 0))) := fun i hi => match i, hi with
  | 0, _ => ⟨1, rfl, rfl, rfl, rfl⟩
  | 1, _ => ⟨0, rfl, rfl, rfl, rfl⟩
  | 2, _ => ⟨0, rfl, rfl, rfl, rfl⟩
  | 3, _ => ⟨0, rfl, rfl, rfl, rfl⟩
  | 4, _ => ⟨0, rfl, rfl, rfl, rfl⟩
  | 5, _ => ⟨0, rfl, rfl, rfl, rfl⟩
  | 6, _ => ⟨0, rfl, rfl, rfl, rfl⟩
  | 7, _ => ⟨0, rfl, rfl, rfl, rfl⟩
  | 8, _ => ⟨0, rfl, rfl, rfl, rfl⟩
  | 9, _ => ⟨0, rfl, rfl, rfl, rfl⟩
  | 10, _ => ⟨0, rfl, rfl, rfl, rfl⟩
  | 11, _ => ⟨0, rfl, rfl, rfl, rfl⟩
  | 12, _ => ⟨0, rfl, rfl, rfl, rfl⟩
theorem xINV_0 {f : Nat → zE} (hf : zM0 = xh f) : xINV f 0 (List.replicate 100 0) [] (fun _ => 0) (fun _ => 0) (fun _ => 0) [] (fun _ => []) (fun _ => (0, 0)) := by
  have F : ∀ (p : Nat) (c : zE), 50 ≤ p → p < 204 → zM0[p - 50]? = some c → f p = c := by
    intro p c h1 h2 h3
    have e := xh_at (f := f) h1 h2
    rw [← hf, h3] at e
    exact (Option.some.inj e).symm
  have A : ∀ (p kd k : Nat), 50 ≤ p → p < 204 → zM0[p - 50]? = some (.inr (.inl (kd, List.replicate k 0))) → f p = xr kd (List.replicate k 0) := by
    intro p kd k h1 h2 h3
    rw [F p _ h1 h2 h3]
    exact xrep kd k
  have D : ∀ i, i < 13 → ∃ d : Int, xDR [] i f 0 0 d (xi 0) := by
    intro i hi
    obtain ⟨d, h1, h2, h3, h4⟩ := zM0_fig i hi
    refine ⟨d, by omega, by omega, List.replicate 16 0, List.replicate 16 0, List.replicate 16 0, F (57 + 4 * i) _ (by omega) (by omega) ?_, A (58 + 4 * i) _ _ (by omega) (by omega) ?_, A (59 + 4 * i) _ _ (by omega) (by omega) ?_, A (60 + 4 * i) _ _ (by omega) (by omega) ?_, xty_0, xcb_0⟩
    · rw [show 57 + 4 * i - 50 = 7 + 4 * i by omega]; exact h1
    · rw [show 58 + 4 * i - 50 = 8 + 4 * i by omega]; exact h2
    · rw [show 59 + 4 * i - 50 = 9 + 4 * i by omega]; exact h3
    · rw [show 60 + 4 * i - 50 = 10 + 4 * i by omega]; exact h4
  have Z : ∀ (k : Nat) (b : Int), 0 ≤ b → ∀ j : Nat, 0 ≤ (List.replicate k (0 : Int)).getD j 0 ∧ (List.replicate k (0 : Int)).getD j 0 ≤ b := by
    intro k b hb j
    rw [xrep_g]
    omega
  obtain ⟨d0, hd0⟩ := D 0 (by decide)
  refine ⟨by rw [← hf]; exact zM0_T, ⟨by omega, List.length_replicate, Z 100 126 (by omega), F 51 _ (by decide) (by decide) rfl, A 52 _ _ (by decide) (by decide) rfl, A 178 _ _ (by decide) (by decide) rfl⟩, ⟨by decide, fun w hw => (by cases hw), List.nodup_nil, fun w hw => (by cases hw)⟩, ⟨fun i hi => absurd hi (Nat.not_lt_zero i), fun i hi => absurd hi (Nat.not_lt_zero i), fun i _ hi2 => ?_, 0, xi 0, ⟨[], [], 57, 0, 0, 0, 0, 0, List.replicate 3 0, List.replicate 3 0, 0, 0, 0, 0, 0, 0, 0, 0, d0, F 109 _ (by decide) (by decide) rfl, by omega, by omega, F 53 _ (by decide) (by decide) rfl, A 110 _ _ (by decide) (by decide) rfl, A 111 _ _ (by decide) (by decide) rfl, rfl, rfl, Z 3 4 (by omega), Z 3 17 (by omega), F 112 _ (by decide) (by decide) rfl, hd0, List.replicate 208 0, List.replicate 208 0, A 55 _ _ (by decide) (by decide) rfl, A 56 _ _ (by decide) (by decide) rfl, List.length_replicate, List.length_replicate, Z 208 12 (by omega), Z 208 6 (by omega), Int.le_refl _, fun j hj => absurd hj (Nat.not_lt_zero j), fun _ => ⟨rfl, fun j hj => absurd hj (Nat.not_lt_zero j)⟩⟩, by omega, rfl⟩, ⟨0, -1, 0, 0, 0, 0, 0, 0, 0, fun k => if k = 4 then xi (-1) else xi 0, List.replicate 13 0, 0, 0, List.replicate 3 0, List.replicate 3 0, [], [], F 177 _ (by decide) (by decide) rfl, ⟨by decide, rfl⟩, F 179 _ (by decide) (by decide) rfl, List.length_replicate, fun k hk => absurd hk (Nat.not_lt_zero k), ⟨List.replicate 13 0, List.replicate 13 0, List.replicate 208 0, List.replicate 208 0, List.replicate 208 0, A 180 _ _ (by decide) (by decide) rfl, A 181 _ _ (by decide) (by decide) rfl, A 182 _ _ (by decide) (by decide) rfl, A 183 _ _ (by decide) (by decide) rfl, A 184 _ _ (by decide) (by decide) rfl, ⟨List.length_replicate, List.length_replicate, List.length_replicate, List.length_replicate, List.length_replicate⟩, rfl, rfl, fun i _ => xrep_g 13 i, fun i _ => xrep_g 13 i, fun j _ => ⟨xrep_g 208 j, Z 208 224 (by omega) j, Z 208 224 (by omega) j⟩, fun j _ hj => by omega, fun j _ => (by rw [xrep_g]), fun _ => ⟨rfl, fun j hj => absurd hj (Nat.not_lt_zero j)⟩⟩, A 187 _ _ (by decide) (by decide) rfl, A 188 _ _ (by decide) (by decide) rfl, rfl, rfl, List.replicate 224 0, List.replicate 224 0, A 185 _ _ (by decide) (by decide) rfl, A 186 _ _ (by decide) (by decide) rfl, List.length_replicate, List.length_replicate, Z 224 12 (by omega), Z 224 6 (by omega), fun j hj => absurd hj (Nat.not_lt_zero j)⟩, ⟨⟨fun i _ => (by show (0 : Int) ≤ 0 ∧ (0 : Int) ≤ 16; omega), fun i hi => absurd hi (Nat.not_lt_zero i), fun j _ => (by show (0 : Int) ≤ 0 ∧ (0 : Int) ≤ 16; omega)⟩, fun i hi => absurd hi (Nat.not_lt_zero i), fun i j hj => absurd hj (Nat.not_lt_zero j)⟩⟩
  obtain ⟨d, hd⟩ := D i (by omega)
  exact ⟨[], 0, 0, d, xi 0, hd⟩
theorem xFT_0 {f : Nat → zE} (hf : zM0 = xh f) : xFT f := by
  have F : ∀ (p : Nat) (c : zE), 50 ≤ p → p < 204 → zM0[p - 50]? = some c → f p = c := by
    intro p c h1 h2 h3
    have e := xh_at (f := f) h1 h2
    rw [← hf, h3] at e
    exact (Option.some.inj e).symm
  exact ⟨-1, by decide, ⟨_, F 50 (xfc (xi 0) (xi (-1)) (xi 0)) (by decide) (by decide) rfl, rfl⟩, _, F 177 (xmo 0 0 (-1) 0 0 0 0 0 0 0 0 (fun k => if k = 4 then xi (-1) else xi 0)) (by decide) (by decide) rfl, rfl⟩
theorem shome_l : ∀ d : Nat, d < 8 → ([136, 140, 187, 227, 262, 258, 213, 173] : List Int).getD d 0 = shome d ∧ (([4, 5, 6, 6, 5, 4, 3, 3] : List Int).getD d 0 = sX (shome d) ∧ ([3, 3, 4, 5, 6, 6, 5, 4] : List Int).getD d 0 = sY (shome d) ∧ ([0, 0, 3, 3, 2, 2, 1, 1] : List Int).getD d 0 = sF (shome d)) ∧ 0 ≤ shome d ∧ shome d < 400 := by
  unfold shome sX sY sF
  decide +kernel
theorem sA_0 {f : Nat → zE} (hf : zM0 = xh f) : sA f := by
  have F : ∀ (p : Nat) (c : zE), 50 ≤ p → p < 204 → zM0[p - 50]? = some c → f p = c := by
    intro p c h1 h2 h3
    have e := xh_at (f := f) h1 h2
    rw [← hf, h3] at e
    exact (Option.some.inj e).symm
  have A : ∀ (p kd k : Nat), 50 ≤ p → p < 204 → zM0[p - 50]? = some (.inr (.inl (kd, List.replicate k 0))) → f p = xr kd (List.replicate k 0) := by
    intro p kd k h1 h2 h3
    rw [F p _ h1 h2 h3]
    exact xrep kd k
  have k177 := F 177 (xmo 0 0 (-1) 0 0 0 0 0 0 0 0 (fun k => if k = 4 then xi (-1) else xi 0)) (by decide) (by decide) rfl
  have hCT : sCT f [] (fun _ => []) (shome, [], 0) := ⟨⟨xi (-1), F 50 (xfc (xi 0) (xi (-1)) (xi 0)) (by decide) (by decide) rfl⟩, ⟨[136, 140, 187, 227, 262, 258, 213, 173], F 175 (xr 0 [136, 140, 187, 227, 262, 258, 213, 173]) (by decide) (by decide) rfl, rfl, by decide, by decide, fun d hd => by
    have h := shome_l d hd
    rw [Int.zero_add, Int.toNat_natCast]
    exact ⟨h.1, h.2.2⟩⟩, by decide, fun i hi => absurd hi (Nat.not_lt_zero i)⟩
  have hMT : sMT f 0 (shome, [], 0) := ⟨⟨_, ⟨k177, rfl, ⟨rfl, rfl, rfl, rfl, rfl, rfl⟩, rfl, rfl, rfl⟩, ⟨rfl, rfl, rfl, rfl, rfl, rfl⟩, rfl, rfl, rfl⟩, ⟨[4, 5, 6, 6, 5, 4, 3, 3], [3, 3, 4, 5, 6, 6, 5, 4], [0, 0, 3, 3, 2, 2, 1, 1], F 189 (xr 0 [4, 5, 6, 6, 5, 4, 3, 3]) (by decide) (by decide) rfl, F 190 (xr 0 [3, 3, 4, 5, 6, 6, 5, 4]) (by decide) (by decide) rfl, F 191 (xr 0 [0, 0, 3, 3, 2, 2, 1, 1]) (by decide) (by decide) rfl, ⟨rfl, rfl, rfl⟩, fun d hd => ⟨(shome_l d hd).2.1, (shome_l d hd).2.2⟩⟩, ⟨by decide, List.replicate 24 0, List.replicate 24 0, List.replicate 192 0, A 195 _ _ (by decide) (by decide) rfl, A 196 _ _ (by decide) (by decide) rfl, A 197 _ _ (by decide) (by decide) rfl, ⟨List.length_replicate, List.length_replicate, List.length_replicate⟩, fun i hi => absurd hi (Nat.not_lt_zero i)⟩, List.replicate 144 0, List.replicate 144 0, List.replicate 144 0, A 192 _ _ (by decide) (by decide) rfl, A 193 _ _ (by decide) (by decide) rfl, A 194 _ _ (by decide) (by decide) rfl, List.length_replicate, List.length_replicate, List.length_replicate⟩
  have hAC : sAC f (fun _ => false) := by
    intro i hi
    obtain ⟨d, h1, -⟩ := zM0_fig i (by omega)
    exact ⟨0, xi 0, xi d, F (57 + 4 * i) _ (by omega) (by omega) (by rw [show 57 + 4 * i - 50 = 7 + 4 * i by omega]; exact h1)⟩
  have hAD : sAD f (fun _ => false) := ⟨List.replicate 12 0, A 198 _ _ (by decide) (by decide) rfl, List.length_replicate, fun i hi => (xrep_g 12 i).trans rfl⟩
  have hWC : sWC f (-1) (fun _ => 0) := ⟨⟨_, F 117 (.inl (8, [.ref 53, .ref 113, .ref 118, .ref 119, .ref 120, .ref 121, xi 0, xi 0])) (by decide) (by decide) rfl⟩, List.replicate 4 0, A 121 _ _ (by decide) (by decide) rfl, List.length_replicate, fun i hi => by omega⟩
  have hWD : sWD f (-1) (fun _ => 0) := ⟨⟨_, k177, rfl⟩, List.replicate 4 0, A 199 _ _ (by decide) (by decide) rfl, List.length_replicate, fun i hi => by omega⟩
  exact ⟨0, _, [], _, _, _, [], fun _ => [], _, (shome, [], 0), fun _ => false, -1, fun _ => 0, xINV_0 hf, xFT_0 hf, hCT, hMT, fun i hi => absurd hi (Nat.not_lt_zero i), ⟨hAC, hAD, fun _ _ => rfl, by show (0 : Int) ≤ 5; decide⟩, by decide, hWC, hWD⟩
theorem zH1_len : zH1.length = 127 := by decide +kernel
theorem zH2_len : zH2.length = 153 := by decide +kernel
set_option maxRecDepth 20000 in
theorem zGoal_ok : zGoal := by
  intro v0 xs hv hxs
  obtain ⟨f, hf⟩ := xh_ex zM0_len
  refine zwp_s (s' := (3, [(0, .ref 0)], [.ref 50], ([.inl (0, dC0)], 1, 13))) rfl ?_
  refine zwp_s (s' := (4, [(0, .ref 0)], [.ref 50, .ref 50], ([.inl (0, dC0)], 1, 13))) rfl ?_
  refine zwp_call (i := .invokespecial 53) (a := 0) (b := 12) (c := 1) (v := .ref 0) ⟨rfl, rfl, rfl, rfl⟩ rfl rfl ⟨rfl, by decide, by decide, by show (1 : Nat) ≤ 2; decide, rfl⟩ ?_
  refine zwp_of0 (zend_spec zct1) ?_
  refine zwp_s (s' := (8, [(1, .ref 50), (0, .ref 0)], [], (zH1, 127, 6508))) rfl ?_
  refine zwp_s (s' := (11, [(1, .ref 50), (0, .ref 0)], [.ref 177], (zH1 ++ [.inl (10, dC10)], 128, 6549))) ?_ ?_
  · have e : zstp (zt v0) (zG xs) 177 8 [(1, .ref 50), (0, .ref 0)] [] (zH1, 127, 6508) = (match (if zH1.length = 127 ∧ 10 < 100 then some (3, [Value.ref (50 + zH1.length)], (zH1 ++ [.inl (10, dC10)], 127 + 1, 6508 + 41)) else none : Option (Nat × List Value × zX)) with
      | some q => some (8 + q.1, [(1, .ref 50), (0, .ref 0)], q.2.1, q.2.2)
      | none => none) := rfl
    rw [e, if_pos ⟨zH1_len, by decide⟩, zH1_len]
    rfl
  refine zwp_s (s' := (12, [(1, .ref 50), (0, .ref 0)], [.ref 177, .ref 177], (zH1 ++ [.inl (10, dC10)], 128, 6549))) rfl ?_
  refine zwp_call (i := .invokespecial 56) (a := 0) (b := 16) (c := 1) (v := .ref 10) ⟨rfl, rfl, rfl, rfl⟩ rfl rfl ⟨rfl, by decide, by decide, by show (1 : Nat) ≤ 2; decide, rfl⟩ ?_
  refine zwp_of0 (zend_spec zct2) ?_
  refine zwp_s (s' := (16, [(2, .ref 177), (1, .ref 50), (0, .ref 0)], [], (zH2, 153, 8531))) rfl ?_
  refine zwp_s (s' := (17, [(2, .ref 177), (1, .ref 50), (0, .ref 0)], [.int 1], (zH2, 153, 8531))) rfl ?_
  refine zwp_s (s' := (19, [(2, .ref 177), (1, .ref 50), (0, .ref 0)], [.ref 203], (zM0, 154, 8532))) ?_ ?_
  · have e : zstp (zt v0) (zG xs) 177 17 [(2, .ref 177), (1, .ref 50), (0, .ref 0)] [.int 1] (zH2, 153, 8531) = (match (if zH2.length = 153 ∧ ¬ (1 : Int32) < 0 ∧ (1 : Int32).toNatClampNeg ≤ 65536 then some (2, [Value.ref (50 + zH2.length)], (zH2 ++ [.inr (.inr (.inl (List.replicate (1 : Int32).toNatClampNeg 0)))], 153 + 1, 8531 + (1 : Int32).toNatClampNeg)) else none : Option (Nat × List Value × zX)) with
      | some q => some (17 + q.1, [(2, .ref 177), (1, .ref 50), (0, .ref 0)], q.2.1, q.2.2)
      | none => none) := rfl
    rw [e, if_pos ⟨zH2_len, by decide, by decide⟩, zH2_len]
    rfl
  refine zwp_s (s' := (20, [(3, .ref 203), (2, .ref 177), (1, .ref 50), (0, .ref 0)], [], (zM0, 154, 8532))) rfl ?_
  refine zwp_s (s' := (21, [(3, .ref 203), (2, .ref 177), (1, .ref 50), (0, .ref 0)], [.int 0], (zM0, 154, 8532))) rfl ?_
  refine zwp_s (s' := (23, [(4, .int 0), (3, .ref 203), (2, .ref 177), (1, .ref 50), (0, .ref 0)], [], (zM0, 154, 8532))) rfl ?_
  dsimp only
  rw [hf]
  exact xs_177l hv hxs 512 0 _ f (154, 8532) (by omega) (by omega) (by decide) (by decide) rfl rfl rfl rfl rfl (sA_0 hf)
