/-! Types by hand: cells that changed, arrays by their cells, objects by their fields. -/
theorem yM_up {T : List yC} {f f' : Nat → zE} (hl : T.length = 154) (h : yM T (xh f)) (k : ∀ p, 50 ≤ p → p < 204 → f' p = f p ∨ ∃ t, T[p - 50]? = some t ∧ yok t (f' p)) : yM T (xh f') := by
  refine ⟨by rw [xh_len, hl], fun j t ht => ?_⟩
  have hj : j < 154 := by rw [← hl]; exact (List.getElem?_eq_some_iff.mp ht).1
  have e := xh_at (f := f') (p := j + 50) (by omega) (by omega)
  rw [Nat.add_sub_cancel] at e
  refine ⟨_, e, ?_⟩
  rcases k (j + 50) (by omega) (by omega) with h1 | ⟨t', ht', hk⟩
  · obtain ⟨c, hc, hok⟩ := h.2 j t ht
    have e2 := xh_at (f := f) (p := j + 50) (by omega) (by omega)
    rw [Nat.add_sub_cancel, hc] at e2
    rw [h1, ← Option.some.inj e2]
    exact hok
  · rw [Nat.add_sub_cancel, ht] at ht'
    cases ht'
    exact hk
theorem yok_rs {k : Nat} {rs : List (Nat × Int × Int)} {l : List Int} (hl : l.length = ysum rs) (h : ∀ (j : Nat) (q : Int × Int), yat rs j = some q → j < l.length → q = ytop ∨ (-2147483648 ≤ q.1 ∧ q.2 ≤ 2147483647 ∧ q.1 ≤ l.getD j 0 ∧ l.getD j 0 ≤ q.2)) : yok (.inr (.inl (k, rs))) (xr k l) := by
  refine ⟨rfl, ?_, fun j q z hq hz => ?_⟩
  · show (l.map Int32.ofInt).length = ysum rs
    rw [List.length_map]
    exact hl
  · have hz' : (l.map Int32.ofInt)[j]? = some z := hz
    rw [List.getElem?_map] at hz'
    cases hlj : l[j]? with
    | none => rw [hlj] at hz'; cases hz'
    | some y =>
      rw [hlj] at hz'
      cases hz'
      rcases h j q hq (List.getElem?_eq_some_iff.mp hlj).1 with rfl | h1
      · exact yin_top _
      · rw [List.getD_eq_getElem?_getD, hlj] at h1
        simp only [Option.getD_some] at h1
        have e := xi_toInt (z := y) (by omega) (by omega)
        exact ⟨by rw [e]; exact h1.2.2.1, by rw [e]; exact h1.2.2.2⟩
theorem yok_r1 {k N : Nat} {lo hi : Int} {l : List Int} (hl : l.length = N) (hb : -2147483648 ≤ lo ∧ hi ≤ 2147483647) (h : ∀ j : Nat, j < N → lo ≤ l.getD j 0 ∧ l.getD j 0 ≤ hi) : yok (.inr (.inl (k, [(N, lo, hi)]))) (xr k l) := by
  refine yok_rs (by rw [hl]; rfl) fun j q hq hj => Or.inr ?_
  simp only [yat] at hq
  rw [if_pos (by omega)] at hq
  cases hq
  exact ⟨hb.1, hb.2, h j (by omega)⟩
theorem yok_t1 {k N : Nat} {l : List Int} (hl : l.length = N) : yok (.inr (.inl (k, [(N, ytop)]))) (xr k l) := by
  refine yok_rs (by rw [hl]; rfl) fun j q hq hj => Or.inl ?_
  simp only [yat] at hq
  rw [if_pos (by omega)] at hq
  cases hq
  rfl
theorem yok_2 {k A B : Nat} {q1 q2 : Int × Int} {l : List Int} (hl : l.length = A + B) (h1 : q1 = ytop ∨ (-2147483648 ≤ q1.1 ∧ q1.2 ≤ 2147483647 ∧ ∀ j : Nat, j < A → q1.1 ≤ l.getD j 0 ∧ l.getD j 0 ≤ q1.2)) (h2 : q2 = ytop ∨ (-2147483648 ≤ q2.1 ∧ q2.2 ≤ 2147483647 ∧ ∀ j : Nat, A ≤ j → j < A + B → q2.1 ≤ l.getD j 0 ∧ l.getD j 0 ≤ q2.2)) : yok (.inr (.inl (k, [(A, q1), (B, q2)]))) (xr k l) := by
  refine yok_rs (by rw [hl]; rfl) fun j q hq hj => ?_
  simp only [yat] at hq
  by_cases c1 : j < A
  · rw [if_pos c1] at hq
    cases hq
    rcases h1 with e | ⟨a1, a2, a3⟩
    · exact Or.inl e
    · exact Or.inr ⟨a1, a2, a3 j c1⟩
  · rw [if_neg c1, if_pos (by omega)] at hq
    cases hq
    rcases h2 with e | ⟨a1, a2, a3⟩
    · exact Or.inl e
    · exact Or.inr ⟨a1, a2, a3 j (by omega) (by omega)⟩
theorem yok_o {ci : Nat} {as : List yA} {fs : List Value} (h : yfa as fs) : yok (.inl (ci, as)) (.inl (ci, fs)) := by
  have key : ∀ (as : List yA) (fs : List Value), yfa as fs → as.length = fs.length ∧ ∀ (k : Nat) (a : yA) (v : Value), as[k]? = some a → fs[k]? = some v → yg a v := by
    intro as
    induction as with
    | nil => intro fs h; cases fs with
      | nil => exact ⟨rfl, fun k a v h => by simp at h⟩
      | cons w r => exact h.elim
    | cons a as ih => intro fs h; cases fs with
      | nil => exact h.elim
      | cons w r =>
        obtain ⟨h1, h2⟩ := ih r h.2
        refine ⟨by rw [List.length_cons, List.length_cons, h1], fun k b v hb hv => ?_⟩
        cases k with
        | zero =>
          rw [List.getElem?_cons_zero] at hb hv
          cases hb
          cases hv
          exact h.1
        | succ k =>
          rw [List.getElem?_cons_succ] at hb hv
          exact h2 k b v hb hv
  obtain ⟨h1, h2⟩ := key as fs h
  exact ⟨rfl, h1, h2⟩
theorem ygi {lo hi z : Int} (h1 : lo ≤ z) (h2 : z ≤ hi) (h3 : -2147483648 ≤ z) (h4 : z ≤ 2147483647) : yg (.inl (lo, hi)) (xi z) := ⟨Int32.ofInt z, rfl, by rw [xi_toInt h3 h4]; exact h1, by rw [xi_toInt h3 h4]; exact h2⟩
theorem ygt {z : Int} : yg (.inl ytop) (xi z) := ⟨Int32.ofInt z, rfl, y_lo _, y_hi _⟩
theorem ygr {p : Nat} : yg (.inr (.inr [p])) (.ref p) := ⟨p, rfl, List.mem_singleton.mpr rfl⟩
theorem ygl {g : Int64} : yg ylong (.long g) := ⟨g, rfl⟩
/-! The types while c calls are kept. -/
theorem yT2_len : yT2.length = 154 := by decide +kernel
theorem yRn (c : Nat) (hc : c < 13) : yR yW yT2 (yTn c) := match c, hc with
  | 0, _ => yRn_0
  | 1, _ => yRn_1
  | 2, _ => yRn_2
  | 3, _ => yRn_3
  | 4, _ => yRn_4
  | 5, _ => yRn_5
  | 6, _ => yRn_6
  | 7, _ => yRn_7
  | 8, _ => yRn_8
  | 9, _ => yRn_9
  | 10, _ => yRn_10
  | 11, _ => yRn_11
  | 12, _ => yRn_12
theorem yTn_53 (c : Nat) (hc : c < 13) : (yTn c)[3]? = some (.inl (2, [.inr (.inr [54]), .inr (.inr [55]), .inr (.inr [56]), .inl ((c : Int), (c : Int)), .inl (0, 208), .inl (0, 208)])) := match c, hc with
  | 0, _ => rfl
  | 1, _ => rfl
  | 2, _ => rfl
  | 3, _ => rfl
  | 4, _ => rfl
  | 5, _ => rfl
  | 6, _ => rfl
  | 7, _ => rfl
  | 8, _ => rfl
  | 9, _ => rfl
  | 10, _ => rfl
  | 11, _ => rfl
  | 12, _ => rfl
theorem yTn_fg : ((List.range 13).all fun c => (List.range c).all fun i => match (yTn c)[7 + 4 * i]? with
  | some t' => ysubc (yfg i (0, 16)) t'
  | none => false) = true := by decide +kernel
theorem yTn_B : ((List.range 13).all fun c => (List.range 154).all fun k => match (yTn c)[k]?, yT2[k]? with
  | some t', some t => k == 3 || ((List.range c).any fun i => k == 7 + 4 * i) || ysubc t t'
  | _, _ => false) = true := by decide +kernel
theorem yMn {c : Nat} {f : Nat → zE} {kp pt : Int} (hc : c < 13) (hM : yM yT2 (xh f)) (h53 : f 53 = xbo (c : Nat) kp pt) (hb : ∀ i, i < c → ∃ (nm : Int64) (b : Int) (d a : Value), f (57 + 4 * i) = xfg i nm (xi b) d a ∧ 0 ≤ b ∧ b ≤ 16) : yM (yTn c) (xh f) := by
  have hR := yRn c hc
  refine ⟨by rw [xh_len, ← hR.1, yT2_len], fun k t' ht' => ?_⟩
  have hk : k < 154 := by rw [← yT2_len, hR.1]; exact (List.getElem?_eq_some_iff.mp ht').1
  obtain ⟨t, ht⟩ : ∃ t, yT2[k]? = some t := ⟨_, List.getElem?_eq_getElem (by rw [yT2_len]; exact hk)⟩
  obtain ⟨e, he, hok⟩ := hM.2 k t ht
  refine ⟨e, he, ?_⟩
  have e2 := xh_at (f := f) (p := k + 50) (by omega) (by omega)
  rw [Nat.add_sub_cancel, he] at e2
  have e3 : e = f (k + 50) := Option.some.inj e2
  have h1 := List.all_eq_true.mp (List.all_eq_true.mp yTn_B c (List.mem_range.mpr hc)) k (List.mem_range.mpr hk)
  simp only [ht', ht, Bool.or_eq_true] at h1
  rcases h1 with (h1 | h1) | h1
  · have h1' : k = 3 := by simpa using h1
    subst h1'
    rw [yTn_53 c hc] at ht'
    cases ht'
    cases (show yT2[3]? = some (.inl (2, [.inr (.inr [54]), .inr (.inr [55]), .inr (.inr [56]), .inl (0, 12), .inl (0, 208), .inl (0, 208)])) from rfl).symm.trans ht
    rw [e3, show f (3 + 50) = xbo (c : Nat) kp pt from h53] at hok ⊢
    exact yok_o ⟨ygr, ygr, ygr, ygi (by omega) (by omega) (by omega) (by omega), hok.2.2 4 _ _ rfl rfl, hok.2.2 5 _ _ rfl rfl, trivial⟩
  · obtain ⟨i, hi, hk2⟩ := List.any_eq_true.mp h1
    have hi' := List.mem_range.mp hi
    have hk3 : k = 7 + 4 * i := by simpa using hk2
    subst hk3
    have h4 := List.all_eq_true.mp (List.all_eq_true.mp yTn_fg c (List.mem_range.mpr hc)) i hi
    simp only [ht'] at h4
    rw [(yT2_fig i (by omega)).1] at ht
    cases ht
    obtain ⟨nm, b, d, a, h57, hb0, hb1⟩ := hb i hi'
    rw [show 7 + 4 * i + 50 = 57 + 4 * i by omega] at e3
    rw [e3, h57] at hok ⊢
    exact ysubc_sound h4 (yok_o ⟨ygr, ygr, ygr, ygl, ygi hb0 hb1 (by omega) (by omega), hok.2.2 5 _ _ rfl rfl, hok.2.2 6 _ _ rfl rfl, trivial⟩)
  · exact ysubc_sound h1 hok
theorem xKF_kg {B : List xBt} {i : Nat} {f : Nat → zE} {nm : Int64} {b d : Int} {al : Value} (hi : i < 13) (hM : yM yT2 (xh f)) (h : xKF B i f nm b d al) : ∃ n : Nat, n < 17 ∧ yM (yTf2 i n) (xh f) := by
  obtain ⟨hb0, hb1, fp, ep, ta, h57, h58, h59, h60, ⟨l1, l2, l3, r1, r2, r3, r4⟩, hta, -⟩ := h
  have ea := xT_o (p := 57 + 4 * i) hM (by omega) (by rw [show 57 + 4 * i - 50 = 7 + 4 * i by omega]; exact (yT2_fig i hi).1)
  obtain ⟨fs, hfs, -, hty⟩ := ea
  rw [h57] at hfs
  cases hfs
  obtain ⟨v, hv, hal⟩ := hty 6 (.inl (0, 1)) rfl
  cases hv
  refine ⟨b.toNat, by omega, yM_re (yM_re hM fun c hc => ?_) fun c hc => ?_⟩
  · have e := xh_at (f := f) (p := 60 + 4 * i) (by omega) (by omega)
    rw [show 60 + 4 * i - 50 = 10 + 4 * i by omega, hc, h60] at e
    cases e
    exact yok_2 (by rw [l3]; omega) (Or.inr ⟨by decide, by decide, fun j hj => ⟨hta j (by omega), by have := r3 j; show _ ≤ (16 : Int); omega⟩⟩) (Or.inr ⟨by decide, by decide, fun j _ _ => ⟨(r3 j).1, by have := r3 j; show _ ≤ (16 : Int); omega⟩⟩)
  · have e := xh_at (f := f) (p := 57 + 4 * i) (by omega) (by omega)
    rw [show 57 + 4 * i - 50 = 7 + 4 * i by omega, hc, h57] at e
    cases e
    exact yok_o ⟨ygr, ygr, ygr, ygl, ygi (by omega) (by omega) (by omega) (by omega), ygt, hal, trivial⟩
