/-! Writes. -/
def yfitc (c : Nat) (a : yA) : Bool := match c, a with
  | 0, .inl _ => true
  | 1, .inl q => decide (0 ≤ q.1) && decide (q.2 ≤ 1)
  | 3, .inr (.inl _) => true
  | 4, .inr (.inr _) => true
  | _, _ => false
theorem y_01 {x : Int32} (h1 : 0 ≤ x.toInt) (h2 : x.toInt ≤ 1) : x = 0 ∨ x = 1 := by
  rcases (by omega : x.toInt = 0 ∨ x.toInt = 1) with h | h
  · exact Or.inl (y_eq.mpr h)
  · exact Or.inr (y_eq.mpr h)
theorem yfitc_spec {c : Nat} {a : yA} {v : Value} (h : yfitc c a = true) (hv : yg a v) : zfit c v = true := by
  unfold yfitc at h
  split at h
  · obtain ⟨x, rfl, -⟩ := hv; rfl
  · obtain ⟨x, rfl, h1, h2⟩ := hv
    simp only [Bool.and_eq_true, decide_eq_true_eq] at h
    rcases y_01 (x := x) (by omega) (by omega) with rfl | rfl <;> rfl
  · obtain ⟨x, rfl⟩ := hv; rfl
  · obtain ⟨x, rfl, -⟩ := hv; rfl
  · cases h
def ypf (T : List yC) (a b : Nat) (va : yA) (o : Nat) : Bool := if o < 50 then false else match T[o - 50]? with
  | some (.inl x) => if x.1 = a then match x.2[b]? with
    | some t => yle va t
    | none => false
    else false
  | _ => false
def yst (T : List yC) (kd : Nat) (q qv : Int × Int) (o : Nat) : Bool := if o < 50 then false else match T[o - 50]? with
  | some (.inr (.inl x)) => if x.1 = kd then match yix q (ysum x.2) with
    | some (lo, hi) => yall (fun p => yle (.inl qv) (.inl p)) lo hi x.2 0
    | none => false
    else false
  | _ => false
def ysl (T : List yC) (q : Int × Int) (o : Nat) : Bool := if o < 50 then false else match T[o - 50]? with
  | some (.inr (.inr (.inl n))) => (yix q n).isSome
  | _ => false
def yc (T : List yC) (i : Instr) (a b c : Nat) (S : yS) : Option (Nat × yS) := match i with
  | .putfield _ => match S with
    | (va, _) :: (.inr (.inr os), _) :: r => if yfitc c va = true ∧ os.all (ypf T a b va) = true then some (3, r) else none
    | _ => none
  | .iastore => match S with
    | (.inl qv, _) :: (.inl q, _) :: (.inr (.inr os), _) :: r => if os.all (yst T 0 q qv) = true then some (1, r) else none
    | _ => none
  | .bastore => match S with
    | (.inl qv, _) :: (.inl q, _) :: (.inr (.inr os), _) :: r => if (0 ≤ qv.1 ∧ qv.2 ≤ 1) ∧ os.all (yst T 2 q qv) = true then some (1, r) else none
    | _ => none
  | .lastore => match S with
    | (.inr (.inl _), _) :: (.inl q, _) :: (.inr (.inr os), _) :: r => if os.all (ysl T q) = true then some (1, r) else none
    | _ => none
  | _ => none
section yCS
variable {T : List yC} {X : zX} {lv : zL} {df : Nat → List Value}
theorem ypf_sound (hM : yM T X.1) {a b o : Nat} {va : yA} {v : Value} (h : ypf T a b va o = true) (hv : yg va v) : ¬ o < 50 ∧ ∃ fs, X.1[o - 50]? = some (.inl (a, fs)) ∧ b < fs.length ∧ yM T (X.1.set (o - 50) (.inl (a, fs.set b v))) := by
  unfold ypf at h
  split at h
  · cases h
  · rename_i ho
    refine ⟨ho, ?_⟩
    split at h
    · rename_i x hx
      split at h
      · rename_i ha
        split at h
        · rename_i t ht
          obtain ⟨c, h1, h2⟩ := hM.2 _ _ hx
          cases c with
          | inl y =>
            obtain ⟨ci, fs⟩ := y
            obtain ⟨h3, h4, h5⟩ := h2
            have h3' : x.1 = ci := h3
            have h4' : x.2.length = fs.length := h4
            have hlt : b < fs.length := by rw [← h4']; exact (List.getElem?_eq_some_iff.mp ht).1
            have hci : ci = a := h3'.symm.trans ha
            subst hci
            refine ⟨fs, h1, hlt, yM_set hM hx ⟨h3, ?_, fun k u w hu hw => ?_⟩⟩
            · show x.2.length = (fs.set b v).length
              rw [List.length_set]
              exact h4'
            · have hw' : (fs.set b v)[k]? = some w := hw
              by_cases hk : b = k
              · subst hk
                cases ht.symm.trans hu
                rw [List.getElem?_set_self hlt] at hw'
                cases hw'
                exact yle_sound h hv
              · rw [List.getElem?_set_ne hk] at hw'
                exact h5 k u w hu hw'
          | inr y => exact absurd h2 (by intro hh; cases y <;> exact hh)
        · cases h
      · cases h
    · cases h
theorem yst_sound (hM : yM T X.1) {kd o : Nat} {q qv : Int × Int} {x v : Int32} (h : yst T kd q qv o = true) (hx : yin q x) (hv : yin qv v) : ¬ o < 50 ∧ ∃ xs, X.1[o - 50]? = some (.inr (.inl (kd, xs))) ∧ zin x xs.length = true ∧ yM T (X.1.set (o - 50) (.inr (.inl (kd, xs.set x.toNatClampNeg v)))) := by
  unfold yst at h
  split at h
  · cases h
  · rename_i ho
    refine ⟨ho, ?_⟩
    split at h
    · rename_i y hy
      split at h
      · rename_i hk
        split at h
        · rename_i lo hi hix
          obtain ⟨c, h1, h2⟩ := hM.2 _ _ hy
          cases c with
          | inl z => exact h2.elim
          | inr z => cases z with
            | inl z =>
              obtain ⟨k2, xs⟩ := z
              obtain ⟨h3, h4, h5⟩ := h2
              have h3' : y.1 = k2 := h3
              have h4' : xs.length = ysum y.2 := h4
              have hk2 : k2 = kd := h3'.symm.trans hk
              subst hk2
              obtain ⟨g1, g2, g3, g4⟩ := yix_spec hix hx
              refine ⟨xs, h1, by rw [h4']; exact g1, yM_set hM hy ⟨h3, ?_, fun j p z hp hz => ?_⟩⟩
              · show (xs.set x.toNatClampNeg v).length = ysum y.2
                rw [List.length_set]
                exact h4'
              · have hz' : (xs.set x.toNatClampNeg v)[j]? = some z := hz
                by_cases hj : x.toNatClampNeg = j
                · subst hj
                  rw [List.getElem?_set_self (by omega)] at hz'
                  cases hz'
                  have hle := yall_spec h (by omega : lo ≤ 0 + x.toNatClampNeg) (by omega) hp
                  obtain ⟨w, e, e1, e2⟩ := yle_sound hle (yg_int hv)
                  cases e
                  exact ⟨e1, e2⟩
                · rw [List.getElem?_set_ne hj] at hz'
                  exact h5 j p z hp hz'
            | inr z => exact absurd h2 (by intro hh; cases z <;> exact hh)
        · cases h
      · cases h
    · cases h
theorem ysl_sound (hM : yM T X.1) {o : Nat} {q : Int × Int} {x : Int32} {v : Int64} (h : ysl T q o = true) (hx : yin q x) : ¬ o < 50 ∧ ∃ xs, X.1[o - 50]? = some (.inr (.inr (.inl xs))) ∧ zin x xs.length = true ∧ yM T (X.1.set (o - 50) (.inr (.inr (.inl (xs.set x.toNatClampNeg v))))) := by
  unfold ysl at h
  split at h
  · cases h
  · rename_i ho
    refine ⟨ho, ?_⟩
    split at h
    · rename_i n hy
      obtain ⟨w, hix⟩ := Option.isSome_iff_exists.mp h
      obtain ⟨c, h1, h2⟩ := hM.2 _ _ hy
      cases c with
      | inl z => exact h2.elim
      | inr z => cases z with
        | inl z => exact h2.elim
        | inr z => cases z with
          | inl xs =>
            have h3 : xs.length = n := h2
            refine ⟨xs, h1, by rw [h3]; exact (yix_spec hix hx).1, yM_set hM hy ?_⟩
            show (xs.set x.toNatClampNeg v).length = n
            rw [List.length_set]
            exact h3
          | inr z => exact h2.elim
    · cases h
theorem yc_sound {i : Instr} {a b c : Nat} {S : yS} {st : List Value} {w : Nat × yS} (hM : yM T X.1) (h : yc T i a b c S = some w) (hs : ys S st lv) : ∃ q, zc df i a b c st X = some q ∧ q.1 = w.1 ∧ ys w.2 q.2.1 lv ∧ yM T q.2.2.1 ∧ q.2.2.2 = X.2 := by
  cases i with
  | putfield z =>
    simp only [yc] at h
    split at h
    · split at h
      · rename_i hc
        cases h
        cases st with
        | nil => exact hs.elim
        | cons v r0 =>
          obtain ⟨hv, -, hr0⟩ := hs
          obtain ⟨o, r, rfl, ho, hp2, hr⟩ := ys_ref hr0
          obtain ⟨h1, fs, h2, h3, h4⟩ := ypf_sound hM (List.all_eq_true.mp hc.2 o ho) hv
          refine ⟨(3, r, zput X o (.inl (a, fs.set b v))), ?_, rfl, hr, h4, rfl⟩
          simp only [zc]
          rw [if_neg h1]
          simp only [h2]
          rw [if_pos ⟨trivial, h3, yfitc_spec hc.1 hv⟩]
      · cases h
    · cases h
  | iastore =>
    simp only [yc] at h
    split at h
    · split at h
      · rename_i hc
        cases h
        obtain ⟨v, r0, rfl, hv, hp, hr0⟩ := ys_int hs
        obtain ⟨x, r1, rfl, hx, hp1, hr1⟩ := ys_int hr0
        obtain ⟨o, r, rfl, ho, hp2, hr⟩ := ys_ref hr1
        obtain ⟨h1, xs, h2, h3, h4⟩ := yst_sound hM (List.all_eq_true.mp hc o ho) hx hv
        refine ⟨(1, r, zput X o (.inr (.inl (0, xs.set x.toNatClampNeg v)))), ?_, rfl, hr, h4, rfl⟩
        simp only [zc]
        rw [if_neg h1]
        simp only [h2]
        rw [if_pos h3]
      · cases h
    · cases h
  | bastore =>
    simp only [yc] at h
    split at h
    · split at h
      · rename_i hc
        cases h
        obtain ⟨v, r0, rfl, hv, hp, hr0⟩ := ys_int hs
        obtain ⟨x, r1, rfl, hx, hp1, hr1⟩ := ys_int hr0
        obtain ⟨o, r, rfl, ho, hp2, hr⟩ := ys_ref hr1
        obtain ⟨h1, xs, h2, h3, h4⟩ := yst_sound hM (List.all_eq_true.mp hc.2 o ho) hx hv
        have hn : vp_nar .boolean v = v := by
          obtain ⟨v1, v2⟩ := hv
          rcases y_01 (x := v) (by omega) (by omega) with rfl | rfl <;> rfl
        refine ⟨(1, r, zput X o (.inr (.inl (2, xs.set x.toNatClampNeg v)))), ?_, rfl, hr, h4, rfl⟩
        simp only [zc]
        rw [if_neg h1]
        simp only [h2, hn]
        rw [if_pos h3]
      · cases h
    · cases h
  | lastore =>
    simp only [yc] at h
    split at h
    · split at h
      · rename_i hc
        cases h
        obtain ⟨v, r0, rfl, hr0⟩ := ys_long hs
        obtain ⟨x, r1, rfl, hx, hp1, hr1⟩ := ys_int hr0
        obtain ⟨o, r, rfl, ho, hp2, hr⟩ := ys_ref hr1
        obtain ⟨h1, xs, h2, h3, h4⟩ := ysl_sound (v := v) hM (List.all_eq_true.mp hc o ho) hx
        refine ⟨(1, r, zput X o (.inr (.inr (.inl (xs.set x.toNatClampNeg v))))), ?_, rfl, hr, h4, rfl⟩
        simp only [zc]
        rw [if_neg h1]
        simp only [h2]
        rw [if_pos h3]
      · cases h
    · cases h
  | _ => simp [yc] at h
end yCS
