section
/-! Which fields a method leaves alone, by the instructions of all that it calls. -/
/-- every object stays where it is, of its class; its fields but those of l stay -/
def zkeep (l : List (Nat × Nat)) (M M' : List zE) : Prop := ∀ (k ci : Nat) (fs : List Value), M[k]? = some (.inl (ci, fs)) → ∃ fs', M'[k]? = some (.inl (ci, fs')) ∧ ∀ f, ¬ (ci, f) ∈ l → fs'[f]? = fs[f]?
theorem zkeep_0 (l : List (Nat × Nat)) (M : List zE) : zkeep l M M := fun _ _ fs h => ⟨fs, h, fun _ _ => rfl⟩
theorem zkeep_t {l : List (Nat × Nat)} {M1 M2 M3 : List zE} (h : zkeep l M1 M2) (k : zkeep l M2 M3) : zkeep l M1 M3 := by
  intro j ci fs hj
  obtain ⟨f2, h2, h3⟩ := h j ci fs hj
  obtain ⟨f3, k2, k3⟩ := k j ci f2 h2
  exact ⟨f3, k2, fun f hf => (k3 f hf).trans (h3 f hf)⟩
theorem zkeep_m {l l' : List (Nat × Nat)} {M1 M2 : List zE} (h : zkeep l M1 M2) (hl : ∀ e, e ∈ l → e ∈ l') : zkeep l' M1 M2 := by
  intro j ci fs hj
  obtain ⟨f2, h2, h3⟩ := h j ci fs hj
  exact ⟨f2, h2, fun f hf => h3 f fun he => hf (hl _ he)⟩
/-- an array's cell set anew -/
theorem zkeep_a {l : List (Nat × Nat)} {M : List zE} {j : Nat} {u v : (Nat × List Int32) ⊕ (List Int64 ⊕ (Nat × List (Option Nat)))} (h : M[j]? = some (.inr u)) : zkeep l M (M.set j (.inr v)) := by
  intro k ci fs hk
  have hne : j ≠ k := by
    intro e
    subst e
    cases h.symm.trans hk
  exact ⟨fs, by rw [List.getElem?_set_ne hne]; exact hk, fun _ _ => rfl⟩
theorem zkeep_e {l : List (Nat × Nat)} {M : List zE} {c : zE} : zkeep l M (M ++ [c]) := by
  intro k ci fs hk
  have hlt : k < M.length := (List.getElem?_eq_some_iff.mp hk).1
  exact ⟨fs, by rw [List.getElem?_append_left hlt]; exact hk, fun _ _ => rfl⟩
theorem zkeep_f {l : List (Nat × Nat)} {M : List zE} {j ci b : Nat} {fs : List Value} {v : Value} (h : M[j]? = some (.inl (ci, fs))) (hl : (ci, b) ∈ l) : zkeep l M (M.set j (.inl (ci, fs.set b v))) := by
  intro k ck gs hk
  by_cases hne : j = k
  · subst hne
    cases h.symm.trans hk
    refine ⟨fs.set b v, by rw [List.getElem?_set_self (List.getElem?_eq_some_iff.mp h).1], fun f hf => ?_⟩
    have hbf : b ≠ f := by
      intro e
      subst e
      exact hf hl
    rw [List.getElem?_set_ne hbf]
  · exact ⟨gs, by rw [List.getElem?_set_ne hne]; exact hk, fun _ _ => rfl⟩
/-- what an instruction may write is in l -/
def zwi (i : Instr) (a b : Nat) (l : List (Nat × Nat)) : Bool := match i with
  | .putfield _ => l.elem (a, b)
  | _ => true
theorem zc_keep {df : Nat → List Value} {i : Instr} {a b c : Nat} {st : List Value} {X : zX} {q : Nat × List Value × zX} {l : List (Nat × Nat)} (h : zc df i a b c st X = some q) (hw : zwi i a b l = true) : zkeep l X.1 q.2.2.1 := by
  cases i <;> first | (simp [zc] at h; done) | skip
  all_goals simp only [zc] at h
  all_goals (repeat' split at h) <;> first | (cases h; done) | skip
  all_goals cases h
  all_goals first
    | exact zkeep_e
    | (rename_i hx _; exact zkeep_a hx)
    | (rename_i hx; exact zkeep_a hx)
    | (rename_i hx _ _; exact zkeep_a hx)
    | (rename_i hx hy; obtain ⟨rfl, -⟩ := hy; exact zkeep_f hx (List.elem_iff.mp hw))
theorem zd_keep {b : Nat} {st : List Value} {X : zX} {q : List Value × zX} {l : List (Nat × Nat)} (h : zd b st X = some q) : zkeep l X.1 q.2.1 := by
  unfold zd at h
  split at h
  · split at h
    · cases h; exact zkeep_0 _ _
    · cases h
  · split at h
    · cases h; exact zkeep_0 _ _
    · cases h
  · split at h
    · cases h; exact zkeep_0 _ _
    · cases h
  · split at h
    · split at h
      · cases h
      · split at h
        · rename_i hx hy
          split at h
          · cases h; exact zkeep_a hy
          · cases h
        · cases h
    · cases h
  · cases h
/-- a table: for each method what it may write, itself and by its calls -/
def zclosed (cd : Nat → Nat → Option zI) (tb : List (Nat × List (Nat × Nat))) : Prop := ∀ (mi : Nat) (l : List (Nat × Nat)), tb.lookup mi = some l → ∀ (pc : Nat) (q : zI), cd mi pc = some q → zwi q.1 q.2.1 q.2.2.1 l = true ∧ (zki q.1 = 2 → q.2.1 = 0 → ∃ l', tb.lookup q.2.2.1 = some l' ∧ ∀ e, e ∈ l' → e ∈ l)
theorem zev_keep {cd : Nat → Nat → Option zI} {nl : Nat → Nat} {df : Nat → List Value} {hn : Nat → Nat → Nat → Option Nat} {G : List zE} {tb : List (Nat × List (Nat × Nat))} (ht : zclosed cd tb) :
    ∀ (n mi pc : Nat) (l : List (Nat × Nat)) (lv : zL) (st : List Value) (X : zX) (r : zO × zX), tb.lookup mi = some l → zev cd nl df hn G n mi pc lv st X = some r → zkeep l X.1 r.2.1 := by
  intro n
  induction n with
  | zero => intro mi pc l lv st X r _ h; simp [zev] at h
  | succ n ih =>
    intro mi pc l lv st X r hl h
    rw [zev] at h
    split at h
    · cases h
    · rename_i i a b c v hcd
      obtain ⟨hw, hc⟩ := ht mi l hl pc _ hcd
      split at h
      · exact ih _ _ _ _ _ _ _ hl h
      · split at h
        · exact ih _ _ _ _ _ _ _ hl h
        · split at h
          · rename_i q hq
            exact zkeep_t (zc_keep hq hw) (ih _ _ _ _ _ _ _ hl h)
          · split at h
            · cases h; exact zkeep_0 _ _
            · split at h
              · split at h
                · cases h; exact zkeep_0 _ _
                · cases h
              · split at h
                · rename_i hk
                  split at h
                  · split at h
                    · rename_i q hq
                      split at h
                      · exact zkeep_t (zd_keep hq) (ih _ _ _ _ _ _ _ hl h)
                      · cases h
                    · cases h
                  · split at h
                    · rename_i ha
                      obtain ⟨l', h1, h2⟩ := hc hk ha.1
                      split at h
                      · rename_i r2 X2 hz
                        exact zkeep_t (zkeep_m (ih _ _ _ _ _ _ _ h1 hz) h2) (ih _ _ _ _ _ _ _ hl h)
                      · rename_i x X2 hz
                        have hkx := zkeep_m (ih _ _ _ _ _ _ _ h1 hz) h2
                        split at h
                        · cases h; exact hkx
                        · split at h
                          · exact zkeep_t hkx (ih _ _ _ _ _ _ _ hl h)
                          · cases h
                      · cases h
                    · cases h
                · cases h
end
section
/-! A checker for safety and ends: intervals, places, heap typing. First: the values. -/
abbrev yA : Type := (Int × Int) ⊕ (Bool ⊕ List Nat)
def yg (a : yA) (v : Value) : Prop := match a with
  | .inl q => ∃ x : Int32, v = .int x ∧ q.1 ≤ x.toInt ∧ x.toInt ≤ q.2
  | .inr (.inl _) => ∃ x : Int64, v = .long x
  | .inr (.inr os) => ∃ o, v = .ref o ∧ o ∈ os
theorem y_lo (x : Int32) : -2147483648 ≤ x.toInt := Int32.le_toInt x
theorem y_hi (x : Int32) : x.toInt ≤ 2147483647 := by
  have := Int32.toInt_lt x
  omega
theorem y_bm {z : Int} (h1 : -2147483648 ≤ z) (h2 : z ≤ 2147483647) : z.bmod 4294967296 = z := by
  rw [Int.bmod_def]
  split <;> omega
theorem y_add {x y : Int32} (h1 : -2147483648 ≤ x.toInt + y.toInt) (h2 : x.toInt + y.toInt ≤ 2147483647) : (x + y).toInt = x.toInt + y.toInt := by
  rw [Int32.toInt_add]
  exact y_bm h1 h2
theorem y_sub {x y : Int32} (h1 : -2147483648 ≤ x.toInt - y.toInt) (h2 : x.toInt - y.toInt ≤ 2147483647) : (x - y).toInt = x.toInt - y.toInt := by
  rw [Int32.toInt_sub]
  exact y_bm h1 h2
theorem y_mul {x y : Int32} (h1 : -2147483648 ≤ x.toInt * y.toInt) (h2 : x.toInt * y.toInt ≤ 2147483647) : (x * y).toInt = x.toInt * y.toInt := by
  rw [Int32.toInt_mul]
  exact y_bm h1 h2
theorem y_lt {x y : Int32} : x < y ↔ x.toInt < y.toInt := Int32.lt_iff_toInt_lt
theorem y_le {x y : Int32} : x ≤ y ↔ x.toInt ≤ y.toInt := Int32.le_iff_toInt_le
theorem y_eq {x y : Int32} : x = y ↔ x.toInt = y.toInt := ⟨fun h => by rw [h], Int32.toInt_inj.mp⟩
end
section
/-! Intervals under the operations. -/
def yin (q : Int × Int) (x : Int32) : Prop := q.1 ≤ x.toInt ∧ x.toInt ≤ q.2
def ytop : Int × Int := (-2147483648, 2147483647)
theorem yin_top (x : Int32) : yin ytop x := ⟨y_lo x, y_hi x⟩
def yfit (q : Int × Int) : Int × Int := if -2147483648 ≤ q.1 ∧ q.2 ≤ 2147483647 then q else ytop
def yop (i : Instr) (x y : Int × Int) : Option (Int × Int) := match i with
  | .iadd => some (yfit (x.1 + y.1, x.2 + y.2))
  | .isub => some (yfit (x.1 - y.2, x.2 - y.1))
  | .imul => if 0 ≤ x.1 ∧ 0 ≤ y.1 then some (yfit (x.1 * y.1, x.2 * y.2)) else if x.1 = x.2 ∧ 0 ≤ x.1 then some (yfit (x.1 * y.1, x.1 * y.2)) else some ytop
  | .iand => if y.1 = y.2 ∧ (y.1 = 1 ∨ y.1 = 31 ∨ y.1 = 255) then some (0, y.1) else some ytop
  | .ior | .ixor | .ishl | .ishr => some ytop
  | .idiv => if y.1 = y.2 ∧ 0 < y.1 then (if 0 ≤ x.1 then some (x.1 / y.1, x.2 / y.1) else some ytop) else none
  | .irem => if y.1 = y.2 ∧ 0 < y.1 then (if 0 ≤ x.1 then (if x.1 = x.2 then some (x.1 % y.1, x.1 % y.1) else some (0, if x.2 < y.1 then x.2 else y.1 - 1)) else some (1 - y.1, y.1 - 1)) else none
  | _ => none
theorem yfit_in {q : Int × Int} {z : Int32} {e : Int} (h1 : q.1 ≤ e) (h2 : e ≤ q.2) (h : -2147483648 ≤ e → e ≤ 2147483647 → z.toInt = e) : yin (yfit q) z := by
  unfold yfit
  split
  · rename_i hq
    have := h (by omega) (by omega)
    exact ⟨by omega, by omega⟩
  · exact yin_top z
theorem y_and {x y : Int32} (k c : Nat) (m : Int32) (hy : y.toInt = (c : Int)) (hmI : m.toInt = (c : Int)) (hm : m.toBitVec.toNat = 2 ^ k - 1) (h2 : 2 ^ k = c + 1) (hc : c < 1000) : 0 ≤ (x &&& y).toInt ∧ (x &&& y).toInt ≤ (c : Int) := by
  have e0 : y = m := y_eq.mpr (hy.trans hmI.symm)
  subst e0
  obtain ⟨j, hj, e⟩ := pk_andE x k hm
  rw [h2] at hj
  rw [e, nI_toInt (by omega)]
  omega
theorem y_div {x y : Int32} (hx : 0 ≤ x.toInt) (hy : 0 < y.toInt) : (x / y).toInt = x.toInt / y.toInt := by
  rw [Int32.toInt_div]
  have h1 : x.toInt.tdiv y.toInt = x.toInt / y.toInt := Int.tdiv_eq_ediv_of_nonneg hx
  rw [h1]
  have h2 : 0 ≤ x.toInt / y.toInt := Int.ediv_nonneg hx (by omega)
  have h3 : x.toInt / y.toInt ≤ x.toInt := Int.ediv_le_self _ hx
  have h4 := y_hi x
  exact y_bm (by omega) (by omega)
theorem yop_sound {i : Instr} {qx qy q : Int × Int} {x y : Int32} (h : yop i qx qy = some q) (hx : yin qx x) (hy : yin qy y) : ∃ z, zo2 i x y = some z ∧ yin q z := by
  obtain ⟨x1, x2⟩ := hx
  obtain ⟨y1, y2⟩ := hy
  cases i <;> simp only [yop] at h <;> try (cases h; done)
  case iadd =>
    cases h
    exact ⟨_, rfl, yfit_in (e := x.toInt + y.toInt) (by dsimp only; omega) (by dsimp only; omega) (fun a b => y_add a b)⟩
  case isub =>
    cases h
    exact ⟨_, rfl, yfit_in (e := x.toInt - y.toInt) (by dsimp only; omega) (by dsimp only; omega) (fun a b => y_sub a b)⟩
  case imul =>
    split at h
    · rename_i hc
      cases h
      refine ⟨_, rfl, yfit_in (e := x.toInt * y.toInt) ?_ ?_ (fun a b => y_mul a b)⟩
      · exact Int.mul_le_mul x1 y1 hc.2 (by omega)
      · exact Int.mul_le_mul x2 y2 (by omega) (by omega)
    · split at h
      · rename_i hc
        cases h
        have hx0 : x.toInt = qx.1 := by omega
        refine ⟨_, rfl, yfit_in (e := x.toInt * y.toInt) ?_ ?_ (fun a b => y_mul a b)⟩
        · rw [hx0]; exact Int.mul_le_mul_of_nonneg_left y1 hc.2
        · rw [hx0]; exact Int.mul_le_mul_of_nonneg_left y2 hc.2
      · cases h
        exact ⟨_, rfl, yin_top _⟩
  case iand =>
    split at h
    · rename_i hc
      cases h
      have hy0 : y.toInt = qy.1 := by omega
      refine ⟨_, rfl, ?_⟩
      rcases hc.2 with e | e | e
      · rw [e] at hy0 ⊢; exact y_and 1 1 1 hy0 rfl rfl rfl (by decide)
      · rw [e] at hy0 ⊢; exact y_and 5 31 31 hy0 rfl rfl rfl (by decide)
      · rw [e] at hy0 ⊢; exact y_and 8 255 255 hy0 rfl rfl rfl (by decide)
    · cases h
      exact ⟨_, rfl, yin_top _⟩
  case ior => cases h; exact ⟨_, rfl, yin_top _⟩
  case ixor => cases h; exact ⟨_, rfl, yin_top _⟩
  case ishl => cases h; exact ⟨_, rfl, yin_top _⟩
  case ishr => cases h; exact ⟨_, rfl, yin_top _⟩
  case idiv =>
    split at h
    · rename_i hc
      have hy0 : y.toInt = qy.1 := by omega
      have hne : ¬ y = 0 := fun e => by
        have : y.toInt = 0 := by rw [e]; rfl
        omega
      refine ⟨x / y, by simp [zo2, hne], ?_⟩
      split at h
      · rename_i hx0
        cases h
        have e := y_div (x := x) (y := y) (by omega) (by omega)
        refine ⟨?_, ?_⟩
        · rw [e, hy0]; exact Int.ediv_le_ediv hc.2 x1
        · rw [e, hy0]; exact Int.ediv_le_ediv hc.2 x2
      · cases h
        exact yin_top _
    · cases h
  case irem =>
    split at h
    · rename_i hc
      have hy0 : y.toInt = qy.1 := by omega
      have hne : ¬ y = 0 := fun e => by
        have : y.toInt = 0 := by rw [e]; rfl
        omega
      refine ⟨x - x / y * y, by simp [zo2, hne], ?_⟩
      have e := rem_toInt x y
      split at h
      · rename_i hx0
        have e2 : x.toInt.tmod y.toInt = x.toInt % y.toInt := Int.tmod_eq_emod_of_nonneg (by omega)
        split at h
        · rename_i hxx
          cases h
          have hx1 : x.toInt = qx.1 := by omega
          have e6 : (x - x / y * y).toInt = qx.1 % qy.1 := by rw [e, e2, hx1, hy0]
          exact ⟨by dsimp only; omega, by dsimp only; omega⟩
        cases h
        have e3 : 0 ≤ x.toInt % y.toInt := Int.emod_nonneg _ (by omega)
        have e4 : x.toInt % y.toInt < y.toInt := Int.emod_lt_of_pos _ (by omega)
        have e5 : x.toInt % y.toInt ≤ x.toInt := by
          have h7 := Int.mul_ediv_add_emod x.toInt y.toInt
          have h8 : 0 ≤ y.toInt * (x.toInt / y.toInt) := Int.mul_nonneg (by omega) (Int.ediv_nonneg (by omega) (by omega))
          omega
        refine ⟨by rw [e, e2]; exact e3, ?_⟩
        rw [e, e2]
        dsimp only
        split <;> omega
      · cases h
        have hb := tmod_bounds (a := x.toInt) (M := y.toInt) (by omega)
        rw [← e] at hb
        exact ⟨by dsimp only; omega, by dsimp only; omega⟩
    · cases h
end
section
/-! Abstract locals and stacks; a stack entry tells the local from which it was loaded (0: none). -/
abbrev yL : Type := List (Nat × yA)
abbrev yS : Type := List (yA × Nat)
def ylk : yL → Nat → Option yA
  | [], _ => none
  | q :: r, i => if q.1 = i then some q.2 else ylk r i
def yl (L : yL) (lv : zL) : Prop := ∀ q ∈ L, ∃ v, zlv lv q.1 = some v ∧ yg q.2 v
def ys : yS → List Value → zL → Prop
  | [], [], _ => True
  | q :: S, v :: st, lv => yg q.1 v ∧ (∀ k, q.2 = k + 1 → zlv lv k = some v ∧ v.category = 1) ∧ ys S st lv
  | _, _, _ => False
def ylg (a : yA) : Bool := match a with
  | .inr (.inl _) => true
  | _ => false
theorem yg_cat {a : yA} {v : Value} (h : yg a v) (hl : ylg a = false) : v.category = 1 := by
  unfold yg at h
  split at h
  · obtain ⟨x, rfl, -⟩ := h; rfl
  · cases hl
  · obtain ⟨o, rfl, -⟩ := h; rfl
def ydrop (k : Nat) (L : yL) : yL := L.filter fun q => !(q.1 == k) && !(q.1 + 1 == k && ylg q.2)
def ydrop2 (k : Nat) (L : yL) : yL := L.filter fun q => !(q.1 == k) && (!(q.1 == k + 1) && !(q.1 + 1 == k && ylg q.2))
def yinv (k : Nat) (S : yS) : yS := S.map fun q => if q.2 = k + 1 then (q.1, 0) else q
def yinv2 (k : Nat) (S : yS) : yS := S.map fun q => if q.2 = k + 1 ∨ q.2 = k + 2 then (q.1, 0) else q
theorem ylk_mem {L : yL} {k : Nat} {a : yA} (h : ylk L k = some a) : (k, a) ∈ L := by
  induction L with
  | nil => cases h
  | cons q r ih =>
    simp only [ylk] at h
    split at h
    · rename_i hq
      cases h
      subst hq
      exact List.mem_cons_self
    · exact List.mem_cons_of_mem _ (ih h)
theorem yl_at {L : yL} {lv : zL} {k : Nat} {a : yA} (hl : yl L lv) (h : ylk L k = some a) : ∃ v, zlv lv k = some v ∧ yg a v := hl _ (ylk_mem h)
theorem zlv_f1 {lv : zL} {j k : Nat} {v : Value} (h : zlv lv j = some v) (hj : j ≠ k) (hc : j + 1 = k → v.category = 1) : zlv (zf1 k lv) j = some v := by
  induction lv with
  | nil => cases h
  | cons q r ih =>
    simp only [zlv] at h
    unfold zf1
    by_cases hq : q.1 = j
    · rw [if_pos hq] at h
      cases h
      have hk : (!(q.1 == k) && !(q.1 + 1 == k && q.2.category == 2)) = true := by
        by_cases h1 : j + 1 = k
        · have := hc h1
          simp [hq, hj, this]
        · simp [hq, hj, h1]
      rw [List.filter_cons, if_pos hk]
      simp [zlv, hq]
    · rw [if_neg hq] at h
      have := ih h
      unfold zf1 at this
      rw [List.filter_cons]
      split
      · simp only [zlv]
        rw [if_neg hq]
        exact this
      · exact this
theorem zlv_f2 {lv : zL} {j k : Nat} {v : Value} (h : zlv lv j = some v) (hj : j ≠ k) (hj2 : j ≠ k + 1) (hc : j + 1 = k → v.category = 1) : zlv (zf2 k lv) j = some v := by
  induction lv with
  | nil => cases h
  | cons q r ih =>
    simp only [zlv] at h
    unfold zf2
    by_cases hq : q.1 = j
    · rw [if_pos hq] at h
      cases h
      have hk : (!(q.1 == k) && (!(q.1 == k + 1) && !(q.1 + 1 == k && q.2.category == 2))) = true := by
        by_cases h1 : j + 1 = k
        · have := hc h1
          simp [hq, hj, hj2, this]
        · simp [hq, hj, hj2, h1]
      rw [List.filter_cons, if_pos hk]
      simp [zlv, hq]
    · rw [if_neg hq] at h
      have := ih h
      unfold zf2 at this
      rw [List.filter_cons]
      split
      · simp only [zlv]
        rw [if_neg hq]
        exact this
      · exact this
theorem zlv_cons {lv : zL} {k : Nat} {v : Value} : zlv ((k, v) :: lv) k = some v := by simp [zlv]
theorem zlv_cons_ne {lv : zL} {j k : Nat} {v : Value} (h : j ≠ k) : zlv ((k, v) :: lv) j = zlv lv j := by
  simp only [zlv]
  rw [if_neg (fun e => h e.symm)]
/-- a local of one slot is stored -/
theorem yl_put {L : yL} {lv : zL} {k : Nat} {a : yA} {v : Value} (hl : yl L lv) (hv : yg a v) : yl ((k, a) :: ydrop k L) ((k, v) :: zf1 k lv) := by
  intro q hq
  rcases List.mem_cons.mp hq with rfl | hq
  · exact ⟨v, zlv_cons, hv⟩
  · obtain ⟨h1, h2⟩ := List.mem_filter.mp hq
    obtain ⟨w, h3, h4⟩ := hl q h1
    simp only [Bool.and_eq_true, Bool.not_eq_true', beq_eq_false_iff_ne, ne_eq, Bool.and_eq_false_iff] at h2
    refine ⟨w, ?_, h4⟩
    rw [zlv_cons_ne h2.1]
    refine zlv_f1 h3 h2.1 fun e => ?_
    rcases h2.2 with h5 | h5
    · exact absurd e h5
    · exact yg_cat h4 h5
theorem yl_put2 {L : yL} {lv : zL} {k : Nat} {a : yA} {v : Value} (hl : yl L lv) (hv : yg a v) : yl ((k, a) :: ydrop2 k L) ((k, v) :: zf2 k lv) := by
  intro q hq
  rcases List.mem_cons.mp hq with rfl | hq
  · exact ⟨v, zlv_cons, hv⟩
  · obtain ⟨h1, h2⟩ := List.mem_filter.mp hq
    obtain ⟨w, h3, h4⟩ := hl q h1
    simp only [Bool.and_eq_true, Bool.not_eq_true', beq_eq_false_iff_ne, ne_eq, Bool.and_eq_false_iff] at h2
    refine ⟨w, ?_, h4⟩
    rw [zlv_cons_ne h2.1]
    refine zlv_f2 h3 h2.1 h2.2.1 fun e => ?_
    rcases h2.2.2 with h5 | h5
    · exact absurd e h5
    · exact yg_cat h4 h5
theorem ys_inv {S : yS} : ∀ {st : List Value} {lv : zL} {k : Nat} {v : Value}, ys S st lv → ys (yinv k S) st ((k, v) :: zf1 k lv) := by
  induction S with
  | nil => intro st lv k v h; cases st with
    | nil => trivial
    | cons w r => exact h
  | cons q S ih => intro st lv k v h; cases st with
    | nil => exact h.elim
    | cons w r =>
      obtain ⟨h1, h2, h3⟩ := h
      simp only [yinv, List.map_cons]
      refine ⟨?_, ?_, ih h3⟩
      · split <;> exact h1
      · intro j hj
        split at hj
        · cases hj
        · rename_i hne
          obtain ⟨h4, h5⟩ := h2 j hj
          have hjk : j ≠ k := fun e => hne (by rw [hj, e])
          exact ⟨by rw [zlv_cons_ne hjk]; exact zlv_f1 h4 hjk (fun _ => h5), h5⟩
theorem ys_inv2 {S : yS} : ∀ {st : List Value} {lv : zL} {k : Nat} {v : Value}, ys S st lv → ys (yinv2 k S) st ((k, v) :: zf2 k lv) := by
  induction S with
  | nil => intro st lv k v h; cases st with
    | nil => trivial
    | cons w r => exact h
  | cons q S ih => intro st lv k v h; cases st with
    | nil => exact h.elim
    | cons w r =>
      obtain ⟨h1, h2, h3⟩ := h
      simp only [yinv2, List.map_cons]
      refine ⟨?_, ?_, ih h3⟩
      · split <;> exact h1
      · intro j hj
        split at hj
        · cases hj
        · rename_i hne
          obtain ⟨h4, h5⟩ := h2 j hj
          have hjk : j ≠ k := fun e => hne (Or.inl (by rw [hj, e]))
          have hjk2 : j ≠ k + 1 := fun e => hne (Or.inr (by rw [hj, e]))
          exact ⟨by rw [zlv_cons_ne hjk]; exact zlv_f2 h4 hjk hjk2 (fun _ => h5), h5⟩
/-- what is known better of a local -/
def yset (p : Nat) (a : yA) (L : yL) : yL := match p with
  | 0 => L
  | k + 1 => (k, a) :: L.filter fun q => !(q.1 == k)
theorem yl_set {L : yL} {lv : zL} {p : Nat} {a : yA} {v : Value} (hl : yl L lv) (hp : ∀ k, p = k + 1 → zlv lv k = some v ∧ v.category = 1) (hv : yg a v) : yl (yset p a L) lv := by
  cases p with
  | zero => exact hl
  | succ k =>
    intro q hq
    rcases List.mem_cons.mp hq with rfl | hq
    · exact ⟨v, (hp k rfl).1, hv⟩
    · exact hl q (List.mem_filter.mp hq).1
end
section
/-! What a branch tells, and the frame instructions. -/
abbrev yN : Type := Nat × yL × yS
def yneg (k : Jvm.ClassFile.Cond) : Jvm.ClassFile.Cond := match k with
  | .eq => .ne
  | .ne => .eq
  | .lt => .ge
  | .ge => .lt
  | .gt => .le
  | .le => .gt
def ymax (a b : Int) : Int := if a ≤ b then b else a
def ymin (a b : Int) : Int := if a ≤ b then a else b
def yne (x y : Int × Int) : Int × Int := if y.1 = y.2 ∧ x.1 = y.1 then (x.1 + 1, x.2) else if y.1 = y.2 ∧ x.2 = y.1 then (x.1, x.2 - 1) else x
def yr2 (k : Jvm.ClassFile.Cond) (x y : Int × Int) : (Int × Int) × (Int × Int) := match k with
  | .eq => ((ymax x.1 y.1, ymin x.2 y.2), (ymax x.1 y.1, ymin x.2 y.2))
  | .ne => (yne x y, yne y x)
  | .lt => ((x.1, ymin x.2 (y.2 - 1)), (ymax y.1 (x.1 + 1), y.2))
  | .ge => ((ymax x.1 y.1, x.2), (y.1, ymin y.2 x.2))
  | .gt => ((ymax x.1 (y.1 + 1), x.2), (y.1, ymin y.2 (x.2 - 1)))
  | .le => ((x.1, ymin x.2 y.2), (ymax y.1 x.1, y.2))
theorem zc2_neg {k : Jvm.ClassFile.Cond} {x y : Int32} (h : zc2 k x y = false) : zc2 (yneg k) x y = true := by
  cases k <;> simp only [zc2, yneg, decide_eq_false_iff_not, decide_eq_true_eq, y_lt, y_le, y_eq] at h ⊢ <;> omega
theorem zc1_zc2 (k : Jvm.ClassFile.Cond) (x : Int32) : zc1 k x = zc2 k x 0 := by
  cases k <;> rfl
theorem yr2_sound {k : Jvm.ClassFile.Cond} {x y : Int32} {qx qy : Int × Int} (h : zc2 k x y = true) (hx : yin qx x) (hy : yin qy y) : yin (yr2 k qx qy).1 x ∧ yin (yr2 k qx qy).2 y := by
  obtain ⟨x1, x2⟩ := hx
  obtain ⟨y1, y2⟩ := hy
  cases k <;> simp only [zc2, decide_eq_true_eq, y_lt, y_le, y_eq] at h <;> simp only [yr2, yin, yne, ymax, ymin] <;> (refine ⟨⟨?_, ?_⟩, ⟨?_, ?_⟩⟩ <;> (repeat' split) <;> (try dsimp only) <;> omega)
def yfe (a : (Int × Int) × (Int × Int)) : Bool := decide (a.1.1 ≤ a.1.2) && decide (a.2.1 ≤ a.2.2)
def ybr (k : Jvm.ClassFile.Cond) (t f : Nat) (L : yL) (qx : Int × Int) (px : Nat) (qy : Int × Int) (py : Nat) (r : yS) : List yN :=
  (if yfe (yr2 k qx qy) then [(t, yset px (.inl (yr2 k qx qy).1) (yset py (.inl (yr2 k qx qy).2) L), r)] else []) ++
  (if yfe (yr2 (yneg k) qx qy) then [(f, yset px (.inl (yr2 (yneg k) qx qy).1) (yset py (.inl (yr2 (yneg k) qx qy).2) L), r)] else [])
theorem yfe_of {a : (Int × Int) × (Int × Int)} {x y : Int32} (h : yin a.1 x ∧ yin a.2 y) : yfe a = true := by
  obtain ⟨⟨h1, h2⟩, h3, h4⟩ := h
  simp only [yfe, Bool.and_eq_true, decide_eq_true_eq]
  omega
theorem yg_int {q : Int × Int} {x : Int32} (h : yin q x) : yg (.inl q) (.int x) := ⟨x, rfl, h.1, h.2⟩
theorem ybr_sound {k : Jvm.ClassFile.Cond} {t f : Nat} {L : yL} {lv : zL} {qx qy : Int × Int} {px py : Nat} {x y : Int32} {r : yS} (hl : yl L lv) (hx : yin qx x) (hy : yin qy y) (hpx : ∀ j, px = j + 1 → zlv lv j = some (.int x) ∧ Value.category (.int x) = 1) (hpy : ∀ j, py = j + 1 → zlv lv j = some (.int y) ∧ Value.category (.int y) = 1) :
    ∃ s ∈ ybr k t f L qx px qy py r, s.1 = (if zc2 k x y then t else f) ∧ yl s.2.1 lv ∧ s.2.2 = r := by
  cases hc : zc2 k x y with
  | true =>
    have h := yr2_sound hc hx hy
    refine ⟨(t, yset px (.inl (yr2 k qx qy).1) (yset py (.inl (yr2 k qx qy).2) L), r), ?_, rfl, yl_set (yl_set hl hpy (yg_int h.2)) hpx (yg_int h.1), rfl⟩
    unfold ybr
    rw [if_pos (yfe_of h)]
    exact List.mem_append_left _ List.mem_cons_self
  | false =>
    have h := yr2_sound (zc2_neg hc) hx hy
    refine ⟨(f, yset px (.inl (yr2 (yneg k) qx qy).1) (yset py (.inl (yr2 (yneg k) qx qy).2) L), r), ?_, rfl, yl_set (yl_set hl hpy (yg_int h.2)) hpx (yg_int h.1), rfl⟩
    unfold ybr
    rw [if_pos (yfe_of h)]
    exact List.mem_append_right _ List.mem_cons_self
def yc32 (x : Int32) : yA := .inl (x.toInt, x.toInt)
theorem yg_c (x : Int32) : yg (yc32 x) (.int x) := ⟨x, rfl, Int.le_refl _, Int.le_refl _⟩
def ylong : yA := .inr (.inl true)
def ya (i : Instr) (v : Value) (nL pc : Nat) (L : yL) (S : yS) : Option (List yN) := match i with
  | .iconst n => some [(pc + 1, L, (yc32 (Int32.ofInt n), 0) :: S)]
  | .bipush n => some [(pc + 2, L, (yc32 (Int8.ofInt n).toInt32, 0) :: S)]
  | .sipush n => some [(pc + 3, L, (yc32 (Int16.ofInt n).toInt32, 0) :: S)]
  | .lconst _ => some [(pc + 1, L, (ylong, 0) :: S)]
  | .iload_n k => match ylk L k with
    | some (.inl q) => some [(pc + 1, L, (.inl q, (k : Nat) + 1) :: S)]
    | _ => none
  | .iload k => match ylk L k with
    | some (.inl q) => some [(pc + 2, L, (.inl q, k + 1) :: S)]
    | _ => none
  | .lload_n k => match ylk L k with
    | some (.inr (.inl _)) => some [(pc + 1, L, (ylong, 0) :: S)]
    | _ => none
  | .lload k => match ylk L k with
    | some (.inr (.inl _)) => some [(pc + 2, L, (ylong, 0) :: S)]
    | _ => none
  | .aload_n k => match ylk L k with
    | some (.inr (.inr os)) => some [(pc + 1, L, (.inr (.inr os), 0) :: S)]
    | _ => none
  | .aload k => match ylk L k with
    | some (.inr (.inr os)) => some [(pc + 2, L, (.inr (.inr os), 0) :: S)]
    | _ => none
  | .istore_n k => match S with
    | (.inl q, _) :: r => if (k : Nat) < nL then some [(pc + 1, ((k : Nat), .inl q) :: ydrop k L, yinv k r)] else none
    | _ => none
  | .istore k => match S with
    | (.inl q, _) :: r => if k < nL then some [(pc + 2, (k, .inl q) :: ydrop k L, yinv k r)] else none
    | _ => none
  | .lstore_n k => match S with
    | (.inr (.inl _), _) :: r => if (k : Nat) + 1 < nL then some [(pc + 1, ((k : Nat), ylong) :: ydrop2 k L, yinv2 k r)] else none
    | _ => none
  | .lstore k => match S with
    | (.inr (.inl _), _) :: r => if k + 1 < nL then some [(pc + 2, (k, ylong) :: ydrop2 k L, yinv2 k r)] else none
    | _ => none
  | .astore_n k => match S with
    | (.inr (.inr os), _) :: r => if (k : Nat) < nL then some [(pc + 1, ((k : Nat), .inr (.inr os)) :: ydrop k L, yinv k r)] else none
    | _ => none
  | .astore k => match S with
    | (.inr (.inr os), _) :: r => if k < nL then some [(pc + 2, (k, .inr (.inr os)) :: ydrop k L, yinv k r)] else none
    | _ => none
  | .iinc k n => match ylk L k with
    | some (.inl q) => if k < nL then some [(pc + 3, (k, .inl (yfit (q.1 + (Int32.ofInt n).toInt, q.2 + (Int32.ofInt n).toInt))) :: ydrop k L, yinv k S)] else none
    | _ => none
  | .ldc _ => match v with
    | .ref x => some [(pc + 2, L, (.inr (.inr [x]), 0) :: S)]
    | _ => none
  | .ldc2_w _ => match v with
    | .long _ => some [(pc + 3, L, (ylong, 0) :: S)]
    | _ => none
  | .i2l => match S with
    | (.inl _, _) :: r => some [(pc + 1, L, (ylong, 0) :: r)]
    | _ => none
  | .l2i => match S with
    | (.inr (.inl _), _) :: r => some [(pc + 1, L, (.inl ytop, 0) :: r)]
    | _ => none
  | .i2c => match S with
    | (.inl _, _) :: r => some [(pc + 1, L, (.inl ytop, 0) :: r)]
    | _ => none
  | .lushr | .lshl => match S with
    | (.inl _, _) :: (.inr (.inl _), _) :: r => some [(pc + 1, L, (ylong, 0) :: r)]
    | _ => none
  | .lcmp => match S with
    | (.inr (.inl _), _) :: (.inr (.inl _), _) :: r => some [(pc + 1, L, (.inl ytop, 0) :: r)]
    | _ => none
  | .dup => match S with
    | (.inl q, p) :: r => some [(pc + 1, L, (.inl q, p) :: (.inl q, p) :: r)]
    | (.inr (.inr os), p) :: r => some [(pc + 1, L, (.inr (.inr os), p) :: (.inr (.inr os), p) :: r)]
    | _ => none
  | .dup2 => match S with
    | (.inl q, p) :: (.inr (.inr os), p2) :: r => some [(pc + 1, L, (.inl q, p) :: (.inr (.inr os), p2) :: (.inl q, p) :: (.inr (.inr os), p2) :: r)]
    | _ => none
  | .pop => match S with
    | (.inl _, _) :: r => some [(pc + 1, L, r)]
    | (.inr (.inr _), _) :: r => some [(pc + 1, L, r)]
    | _ => none
  | .goto o => match ztgt pc o with
    | some t => some [(t, L, S)]
    | none => none
  | .ifCond k o => match S with
    | (.inl q, p) :: r => match ztgt pc o with
      | some t => some (ybr k t (pc + 3) L q p (0, 0) 0 r)
      | none => none
    | _ => none
  | .if_icmp k o => match S with
    | (.inl qy, py) :: (.inl qx, px) :: r => match ztgt pc o with
      | some t => some (ybr k t (pc + 3) L qx px qy py r)
      | none => none
    | _ => none
  | .getstatic _ => match v with
    | .int x => some [(pc + 3, L, (yc32 x, 0) :: S)]
    | .ref x => some [(pc + 3, L, (.inr (.inr [x]), 0) :: S)]
    | _ => none
  | .iadd | .isub | .imul | .iand | .ior | .ixor | .ishl | .ishr | .idiv | .irem => match S with
    | (.inl qy, _) :: (.inl qx, _) :: r => match yop i qx qy with
      | some q => some [(pc + 1, L, (.inl q, 0) :: r)]
      | none => none
    | _ => none
  | .ladd | .lmul | .land | .lor => match S with
    | (.inr (.inl _), _) :: (.inr (.inl _), _) :: r => some [(pc + 1, L, (ylong, 0) :: r)]
    | _ => none
  | _ => none
end
section
/-! The frame instructions' transfer is sound. -/
theorem ys_int {q : Int × Int} {p : Nat} {S : yS} {st : List Value} {lv : zL} (h : ys ((.inl q, p) :: S) st lv) : ∃ x r, st = .int x :: r ∧ yin q x ∧ (∀ k, p = k + 1 → zlv lv k = some (.int x) ∧ Value.category (.int x) = 1) ∧ ys S r lv := by
  cases st with
  | nil => exact h.elim
  | cons w r =>
    obtain ⟨⟨x, hx, h1, h2⟩, h3, h4⟩ := h
    have hx' : w = .int x := hx
    subst hx'
    exact ⟨x, r, rfl, ⟨h1, h2⟩, h3, h4⟩
theorem ys_long {b : Bool} {p : Nat} {S : yS} {st : List Value} {lv : zL} (h : ys ((.inr (.inl b), p) :: S) st lv) : ∃ x r, st = .long x :: r ∧ ys S r lv := by
  cases st with
  | nil => exact h.elim
  | cons w r =>
    obtain ⟨⟨x, hx⟩, h3, h4⟩ := h
    have hx' : w = .long x := hx
    subst hx'
    exact ⟨x, r, rfl, h4⟩
theorem ys_ref {os : List Nat} {p : Nat} {S : yS} {st : List Value} {lv : zL} (h : ys ((.inr (.inr os), p) :: S) st lv) : ∃ x r, st = .ref x :: r ∧ x ∈ os ∧ (∀ k, p = k + 1 → zlv lv k = some (.ref x) ∧ Value.category (.ref x) = 1) ∧ ys S r lv := by
  cases st with
  | nil => exact h.elim
  | cons w r =>
    obtain ⟨⟨x, hx, h1⟩, h3, h4⟩ := h
    have hx' : w = .ref x := hx
    subst hx'
    exact ⟨x, r, rfl, h1, h3, h4⟩
theorem ys_0 {a : yA} {v : Value} {S : yS} {st : List Value} {lv : zL} (h : yg a v) (hs : ys S st lv) : ys ((a, 0) :: S) (v :: st) lv := ⟨h, (fun k hk => by cases hk), hs⟩
theorem ys_p {a : yA} {v : Value} {S : yS} {st : List Value} {lv : zL} {j : Nat} (h : yg a v) (hp : zlv lv j = some v) (hc : v.category = 1) (hs : ys S st lv) : ys ((a, j + 1) :: S) (v :: st) lv := ⟨h, (fun k hk => by have e : j = k := Nat.succ.inj hk; subst e; exact ⟨hp, hc⟩), hs⟩
theorem yg_l (x : Int64) : yg ylong (.long x) := ⟨x, rfl⟩
theorem yg_r {x : Nat} {os : List Nat} (h : x ∈ os) : yg (.inr (.inr os)) (.ref x) := ⟨x, rfl, h⟩
theorem yg_t (x : Int32) : yg (.inl ytop) (.int x) := yg_int (yin_top x)
theorem yl_i {L : yL} {lv : zL} {k : Nat} {q : Int × Int} (hl : yl L lv) (h : ylk L k = some (.inl q)) : ∃ x, zlv lv k = some (.int x) ∧ yin q x := by
  obtain ⟨v, h1, x, h2, h3, h4⟩ := yl_at hl h
  subst h2
  exact ⟨x, h1, h3, h4⟩
theorem yl_j {L : yL} {lv : zL} {k : Nat} {b : Bool} (hl : yl L lv) (h : ylk L k = some (.inr (.inl b))) : ∃ x, zlv lv k = some (.long x) := by
  obtain ⟨v, h1, x, h2⟩ := yl_at hl h
  subst h2
  exact ⟨x, h1⟩
theorem yl_a {L : yL} {lv : zL} {k : Nat} {os : List Nat} (hl : yl L lv) (h : ylk L k = some (.inr (.inr os))) : ∃ x, zlv lv k = some (.ref x) ∧ x ∈ os := by
  obtain ⟨v, h1, x, h2, h3⟩ := yl_at hl h
  subst h2
  exact ⟨x, h1, h3⟩
set_option maxHeartbeats 4000000 in
theorem ya_sound {i : Instr} {v : Value} {nL pc : Nat} {L : yL} {S : yS} {ss : List yN} {lv : zL} {st : List Value} (h : ya i v nL pc L S = some ss) (hl : yl L lv) (hs : ys S st lv) :
    ∃ q, za i v nL pc lv st = some q ∧ ∃ s ∈ ss, s.1 = q.1 ∧ yl s.2.1 q.2.1 ∧ ys s.2.2 q.2.2 q.2.1 := by
  cases i with
  | iconst z =>
    cases h
    exact ⟨_, rfl, _, List.mem_cons_self, rfl, hl, ys_0 (yg_c _) hs⟩
  | bipush z =>
    cases h
    exact ⟨_, rfl, _, List.mem_cons_self, rfl, hl, ys_0 (yg_c _) hs⟩
  | sipush z =>
    cases h
    exact ⟨_, rfl, _, List.mem_cons_self, rfl, hl, ys_0 (yg_c _) hs⟩
  | lconst z =>
    cases h
    exact ⟨_, rfl, _, List.mem_cons_self, rfl, hl, ys_0 (yg_l _) hs⟩
  | iload_n z =>
    simp only [ya] at h
    split at h
    · rename_i q hq
      cases h
      obtain ⟨x, h1, h2⟩ := yl_i hl hq
      exact ⟨_, by simp only [za, h1]; rfl, _, List.mem_cons_self, rfl, hl, ys_p (yg_int h2) h1 rfl hs⟩
    · cases h
  | iload z =>
    simp only [ya] at h
    split at h
    · rename_i q hq
      cases h
      obtain ⟨x, h1, h2⟩ := yl_i hl hq
      exact ⟨_, by simp only [za, h1]; rfl, _, List.mem_cons_self, rfl, hl, ys_p (yg_int h2) h1 rfl hs⟩
    · cases h
  | lload_n z =>
    simp only [ya] at h
    split at h
    · rename_i q hq
      cases h
      obtain ⟨x, h1⟩ := yl_j hl hq
      exact ⟨_, by simp only [za, h1]; rfl, _, List.mem_cons_self, rfl, hl, ys_0 (yg_l x) hs⟩
    · cases h
  | lload z =>
    simp only [ya] at h
    split at h
    · rename_i q hq
      cases h
      obtain ⟨x, h1⟩ := yl_j hl hq
      exact ⟨_, by simp only [za, h1]; rfl, _, List.mem_cons_self, rfl, hl, ys_0 (yg_l x) hs⟩
    · cases h
  | aload_n z =>
    simp only [ya] at h
    split at h
    · rename_i q hq
      cases h
      obtain ⟨x, h1, h2⟩ := yl_a hl hq
      exact ⟨_, by simp only [za, h1]; rfl, _, List.mem_cons_self, rfl, hl, ys_0 (yg_r h2) hs⟩
    · cases h
  | aload z =>
    simp only [ya] at h
    split at h
    · rename_i q hq
      cases h
      obtain ⟨x, h1, h2⟩ := yl_a hl hq
      exact ⟨_, by simp only [za, h1]; rfl, _, List.mem_cons_self, rfl, hl, ys_0 (yg_r h2) hs⟩
    · cases h
  | istore_n z =>
    simp only [ya] at h
    split at h
    · split at h
      · rename_i hz
        cases h
        obtain ⟨x, r, rfl, hx, hp, hr⟩ := ys_int hs
        exact ⟨_, by simp only [za]; rw [if_pos hz], _, List.mem_cons_self, rfl, yl_put hl (yg_int hx), ys_inv hr⟩
      · cases h
    · cases h
  | istore z =>
    simp only [ya] at h
    split at h
    · split at h
      · rename_i hz
        cases h
        obtain ⟨x, r, rfl, hx, hp, hr⟩ := ys_int hs
        exact ⟨_, by simp only [za]; rw [if_pos hz], _, List.mem_cons_self, rfl, yl_put hl (yg_int hx), ys_inv hr⟩
      · cases h
    · cases h
  | lstore_n z =>
    simp only [ya] at h
    split at h
    · split at h
      · rename_i hz
        cases h
        obtain ⟨x, r, rfl, hr⟩ := ys_long hs
        exact ⟨_, by simp only [za]; rw [if_pos hz], _, List.mem_cons_self, rfl, yl_put2 hl (yg_l x), ys_inv2 hr⟩
      · cases h
    · cases h
  | lstore z =>
    simp only [ya] at h
    split at h
    · split at h
      · rename_i hz
        cases h
        obtain ⟨x, r, rfl, hr⟩ := ys_long hs
        exact ⟨_, by simp only [za]; rw [if_pos hz], _, List.mem_cons_self, rfl, yl_put2 hl (yg_l x), ys_inv2 hr⟩
      · cases h
    · cases h
  | astore_n z =>
    simp only [ya] at h
    split at h
    · split at h
      · rename_i hz
        cases h
        obtain ⟨x, r, rfl, hx, hp, hr⟩ := ys_ref hs
        exact ⟨_, by simp only [za]; rw [if_pos hz], _, List.mem_cons_self, rfl, yl_put hl (yg_r hx), ys_inv hr⟩
      · cases h
    · cases h
  | astore z =>
    simp only [ya] at h
    split at h
    · split at h
      · rename_i hz
        cases h
        obtain ⟨x, r, rfl, hx, hp, hr⟩ := ys_ref hs
        exact ⟨_, by simp only [za]; rw [if_pos hz], _, List.mem_cons_self, rfl, yl_put hl (yg_r hx), ys_inv hr⟩
      · cases h
    · cases h
  | iinc z w =>
    simp only [ya] at h
    split at h
    · rename_i q hq
      split at h
      · rename_i hz
        cases h
        obtain ⟨x, h1, h2, h3⟩ := yl_i hl hq
        have hy : yin (yfit (q.1 + (Int32.ofInt w).toInt, q.2 + (Int32.ofInt w).toInt)) (x + Int32.ofInt w) := yfit_in (e := x.toInt + (Int32.ofInt w).toInt) (by dsimp only; omega) (by dsimp only; omega) (fun a b => y_add a b)
        exact ⟨_, by simp only [za, h1]; rw [if_pos hz], _, List.mem_cons_self, rfl, yl_put hl (yg_int hy), ys_inv hs⟩
      · cases h
    · cases h
  | ldc z =>
    simp only [ya] at h
    split at h
    · cases h
      exact ⟨_, rfl, _, List.mem_cons_self, rfl, hl, ys_0 (yg_r List.mem_cons_self) hs⟩
    · cases h
  | ldc2_w z =>
    simp only [ya] at h
    split at h
    · cases h
      exact ⟨_, rfl, _, List.mem_cons_self, rfl, hl, ys_0 (yg_l _) hs⟩
    · cases h
  | i2l =>
    simp only [ya] at h
    split at h
    · cases h
      obtain ⟨x, r, rfl, hx, hp, hr⟩ := ys_int hs
      exact ⟨_, rfl, _, List.mem_cons_self, rfl, hl, ys_0 (yg_l _) hr⟩
    · cases h
  | l2i =>
    simp only [ya] at h
    split at h
    · cases h
      obtain ⟨x, r, rfl, hr⟩ := ys_long hs
      exact ⟨_, rfl, _, List.mem_cons_self, rfl, hl, ys_0 (yg_t _) hr⟩
    · cases h
  | i2c =>
    simp only [ya] at h
    split at h
    · cases h
      obtain ⟨x, r, rfl, hx, hp, hr⟩ := ys_int hs
      exact ⟨_, rfl, _, List.mem_cons_self, rfl, hl, ys_0 (yg_t _) hr⟩
    · cases h
  | lushr =>
    simp only [ya] at h
    split at h
    · cases h
      obtain ⟨y, r0, rfl, hy, hp, hr0⟩ := ys_int hs
      obtain ⟨x, r, rfl, hr⟩ := ys_long hr0
      exact ⟨_, rfl, _, List.mem_cons_self, rfl, hl, ys_0 (yg_l _) hr⟩
    · cases h
  | lshl =>
    simp only [ya] at h
    split at h
    · cases h
      obtain ⟨y, r0, rfl, hy, hp, hr0⟩ := ys_int hs
      obtain ⟨x, r, rfl, hr⟩ := ys_long hr0
      exact ⟨_, rfl, _, List.mem_cons_self, rfl, hl, ys_0 (yg_l _) hr⟩
    · cases h
  | lcmp =>
    simp only [ya] at h
    split at h
    · cases h
      obtain ⟨y, r0, rfl, hr0⟩ := ys_long hs
      obtain ⟨x, r, rfl, hr⟩ := ys_long hr0
      exact ⟨_, rfl, _, List.mem_cons_self, rfl, hl, ys_0 (yg_t _) hr⟩
    · cases h
  | dup =>
    simp only [ya] at h
    split at h
    · cases h
      obtain ⟨x, r, rfl, hx, hp, hr⟩ := ys_int hs
      exact ⟨_, rfl, _, List.mem_cons_self, rfl, hl, yg_int hx, hp, yg_int hx, hp, hr⟩
    · cases h
      obtain ⟨x, r, rfl, hx, hp, hr⟩ := ys_ref hs
      exact ⟨_, rfl, _, List.mem_cons_self, rfl, hl, yg_r hx, hp, yg_r hx, hp, hr⟩
    · cases h
  | dup2 =>
    simp only [ya] at h
    split at h
    · cases h
      obtain ⟨x, r0, rfl, hx, hp, hr0⟩ := ys_int hs
      obtain ⟨y, r, rfl, hy, hp2, hr⟩ := ys_ref hr0
      exact ⟨_, rfl, _, List.mem_cons_self, rfl, hl, yg_int hx, hp, yg_r hy, hp2, yg_int hx, hp, yg_r hy, hp2, hr⟩
    · cases h
  | pop =>
    simp only [ya] at h
    split at h
    · cases h
      obtain ⟨x, r, rfl, hx, hp, hr⟩ := ys_int hs
      exact ⟨_, rfl, _, List.mem_cons_self, rfl, hl, hr⟩
    · cases h
      obtain ⟨x, r, rfl, hx, hp, hr⟩ := ys_ref hs
      exact ⟨_, rfl, _, List.mem_cons_self, rfl, hl, hr⟩
    · cases h
  | goto z =>
    simp only [ya] at h
    split at h
    · rename_i t ht
      cases h
      exact ⟨_, by simp only [za, ht]; rfl, _, List.mem_cons_self, rfl, hl, hs⟩
    · cases h
  | ifCond z w =>
    simp only [ya] at h
    split at h
    · split at h
      · rename_i t ht
        cases h
        obtain ⟨x, r, rfl, hx, hp, hr⟩ := ys_int hs
        obtain ⟨s, h1, h2, h3, h4⟩ := ybr_sound (k := z) (t := t) (f := pc + 3) (r := _) (py := 0) (y := 0) hl hx (show yin (0, 0) 0 from ⟨Int.le_refl _, Int.le_refl _⟩) hp (fun j hj => by cases hj)
        refine ⟨_, by simp only [za, ht]; rfl, s, h1, ?_, h3, by rw [h4]; exact hr⟩
        rw [h2]
        dsimp only
        rw [zc1_zc2]
      · cases h
    · cases h
  | if_icmp z w =>
    simp only [ya] at h
    split at h
    · split at h
      · rename_i t ht
        cases h
        obtain ⟨y, r0, rfl, hy, hpy, hr0⟩ := ys_int hs
        obtain ⟨x, r, rfl, hx, hpx, hr⟩ := ys_int hr0
        obtain ⟨s, h1, h2, h3, h4⟩ := ybr_sound (k := z) (t := t) (f := pc + 3) (r := _) hl hx hy hpx hpy
        exact ⟨_, by simp only [za, ht]; rfl, s, h1, h2, h3, by rw [h4]; exact hr⟩
      · cases h
    · cases h
  | getstatic z =>
    simp only [ya] at h
    split at h
    · cases h
      exact ⟨_, rfl, _, List.mem_cons_self, rfl, hl, ys_0 (yg_c _) hs⟩
    · cases h
      exact ⟨_, rfl, _, List.mem_cons_self, rfl, hl, ys_0 (yg_r List.mem_cons_self) hs⟩
    · cases h
  | iadd =>
    simp only [ya] at h
    split at h
    · split at h
      · rename_i q hq
        cases h
        obtain ⟨y, r0, rfl, hy, hpy, hr0⟩ := ys_int hs
        obtain ⟨x, r, rfl, hx, hpx, hr⟩ := ys_int hr0
        obtain ⟨z, h1, h2⟩ := yop_sound hq hx hy
        exact ⟨_, by simp only [za, h1]; rfl, _, List.mem_cons_self, rfl, hl, ys_0 (yg_int h2) hr⟩
      · cases h
    · cases h
  | isub =>
    simp only [ya] at h
    split at h
    · split at h
      · rename_i q hq
        cases h
        obtain ⟨y, r0, rfl, hy, hpy, hr0⟩ := ys_int hs
        obtain ⟨x, r, rfl, hx, hpx, hr⟩ := ys_int hr0
        obtain ⟨z, h1, h2⟩ := yop_sound hq hx hy
        exact ⟨_, by simp only [za, h1]; rfl, _, List.mem_cons_self, rfl, hl, ys_0 (yg_int h2) hr⟩
      · cases h
    · cases h
  | imul =>
    simp only [ya] at h
    split at h
    · split at h
      · rename_i q hq
        cases h
        obtain ⟨y, r0, rfl, hy, hpy, hr0⟩ := ys_int hs
        obtain ⟨x, r, rfl, hx, hpx, hr⟩ := ys_int hr0
        obtain ⟨z, h1, h2⟩ := yop_sound hq hx hy
        exact ⟨_, by simp only [za, h1]; rfl, _, List.mem_cons_self, rfl, hl, ys_0 (yg_int h2) hr⟩
      · cases h
    · cases h
  | iand =>
    simp only [ya] at h
    split at h
    · split at h
      · rename_i q hq
        cases h
        obtain ⟨y, r0, rfl, hy, hpy, hr0⟩ := ys_int hs
        obtain ⟨x, r, rfl, hx, hpx, hr⟩ := ys_int hr0
        obtain ⟨z, h1, h2⟩ := yop_sound hq hx hy
        exact ⟨_, by simp only [za, h1]; rfl, _, List.mem_cons_self, rfl, hl, ys_0 (yg_int h2) hr⟩
      · cases h
    · cases h
  | ior =>
    simp only [ya] at h
    split at h
    · split at h
      · rename_i q hq
        cases h
        obtain ⟨y, r0, rfl, hy, hpy, hr0⟩ := ys_int hs
        obtain ⟨x, r, rfl, hx, hpx, hr⟩ := ys_int hr0
        obtain ⟨z, h1, h2⟩ := yop_sound hq hx hy
        exact ⟨_, by simp only [za, h1]; rfl, _, List.mem_cons_self, rfl, hl, ys_0 (yg_int h2) hr⟩
      · cases h
    · cases h
  | ixor =>
    simp only [ya] at h
    split at h
    · split at h
      · rename_i q hq
        cases h
        obtain ⟨y, r0, rfl, hy, hpy, hr0⟩ := ys_int hs
        obtain ⟨x, r, rfl, hx, hpx, hr⟩ := ys_int hr0
        obtain ⟨z, h1, h2⟩ := yop_sound hq hx hy
        exact ⟨_, by simp only [za, h1]; rfl, _, List.mem_cons_self, rfl, hl, ys_0 (yg_int h2) hr⟩
      · cases h
    · cases h
  | ishl =>
    simp only [ya] at h
    split at h
    · split at h
      · rename_i q hq
        cases h
        obtain ⟨y, r0, rfl, hy, hpy, hr0⟩ := ys_int hs
        obtain ⟨x, r, rfl, hx, hpx, hr⟩ := ys_int hr0
        obtain ⟨z, h1, h2⟩ := yop_sound hq hx hy
        exact ⟨_, by simp only [za, h1]; rfl, _, List.mem_cons_self, rfl, hl, ys_0 (yg_int h2) hr⟩
      · cases h
    · cases h
  | ishr =>
    simp only [ya] at h
    split at h
    · split at h
      · rename_i q hq
        cases h
        obtain ⟨y, r0, rfl, hy, hpy, hr0⟩ := ys_int hs
        obtain ⟨x, r, rfl, hx, hpx, hr⟩ := ys_int hr0
        obtain ⟨z, h1, h2⟩ := yop_sound hq hx hy
        exact ⟨_, by simp only [za, h1]; rfl, _, List.mem_cons_self, rfl, hl, ys_0 (yg_int h2) hr⟩
      · cases h
    · cases h
  | idiv =>
    simp only [ya] at h
    split at h
    · split at h
      · rename_i q hq
        cases h
        obtain ⟨y, r0, rfl, hy, hpy, hr0⟩ := ys_int hs
        obtain ⟨x, r, rfl, hx, hpx, hr⟩ := ys_int hr0
        obtain ⟨z, h1, h2⟩ := yop_sound hq hx hy
        exact ⟨_, by simp only [za, h1]; rfl, _, List.mem_cons_self, rfl, hl, ys_0 (yg_int h2) hr⟩
      · cases h
    · cases h
  | irem =>
    simp only [ya] at h
    split at h
    · split at h
      · rename_i q hq
        cases h
        obtain ⟨y, r0, rfl, hy, hpy, hr0⟩ := ys_int hs
        obtain ⟨x, r, rfl, hx, hpx, hr⟩ := ys_int hr0
        obtain ⟨z, h1, h2⟩ := yop_sound hq hx hy
        exact ⟨_, by simp only [za, h1]; rfl, _, List.mem_cons_self, rfl, hl, ys_0 (yg_int h2) hr⟩
      · cases h
    · cases h
  | ladd =>
    simp only [ya] at h
    split at h
    · cases h
      obtain ⟨y, r0, rfl, hr0⟩ := ys_long hs
      obtain ⟨x, r, rfl, hr⟩ := ys_long hr0
      exact ⟨_, rfl, _, List.mem_cons_self, rfl, hl, ys_0 (yg_l _) hr⟩
    · cases h
  | lmul =>
    simp only [ya] at h
    split at h
    · cases h
      obtain ⟨y, r0, rfl, hr0⟩ := ys_long hs
      obtain ⟨x, r, rfl, hr⟩ := ys_long hr0
      exact ⟨_, rfl, _, List.mem_cons_self, rfl, hl, ys_0 (yg_l _) hr⟩
    · cases h
  | land =>
    simp only [ya] at h
    split at h
    · cases h
      obtain ⟨y, r0, rfl, hr0⟩ := ys_long hs
      obtain ⟨x, r, rfl, hr⟩ := ys_long hr0
      exact ⟨_, rfl, _, List.mem_cons_self, rfl, hl, ys_0 (yg_l _) hr⟩
    · cases h
  | lor =>
    simp only [ya] at h
    split at h
    · cases h
      obtain ⟨y, r0, rfl, hr0⟩ := ys_long hs
      obtain ⟨x, r, rfl, hr⟩ := ys_long hr0
      exact ⟨_, rfl, _, List.mem_cons_self, rfl, hl, ys_0 (yg_l _) hr⟩
    · cases h
  | _ => simp [ya] at h
end
section
/-! The heap's types: an object: its class and its fields' types; an array: its kind and runs of cells with their interval. -/
abbrev yC : Type := (Nat × List yA) ⊕ ((Nat × List (Nat × Int × Int)) ⊕ (Nat ⊕ (Nat × List (List Nat))))
def ysum : List (Nat × Int × Int) → Nat
  | [] => 0
  | q :: r => q.1 + ysum r
def yat : List (Nat × Int × Int) → Nat → Option (Int × Int)
  | [], _ => none
  | q :: r, j => if j < q.1 then some q.2 else yat r (j - q.1)
/-- all runs that meet lo .. hi -/
def yall (P : Int × Int → Bool) (lo hi : Nat) : List (Nat × Int × Int) → Nat → Bool
  | [], _ => true
  | q :: r, off => (decide (off + q.1 ≤ lo) || decide (hi < off) || P q.2) && yall P lo hi r (off + q.1)
theorem yall_spec {P : Int × Int → Bool} {lo hi : Nat} : ∀ {l : List (Nat × Int × Int)} {off j : Nat} {q : Int × Int}, yall P lo hi l off = true → lo ≤ off + j → off + j ≤ hi → yat l j = some q → P q = true := by
  intro l
  induction l with
  | nil => intro off j q _ _ _ h; cases h
  | cons a r ih =>
    intro off j q h h1 h2 h3
    simp only [yall, Bool.and_eq_true, Bool.or_eq_true, decide_eq_true_eq] at h
    simp only [yat] at h3
    split at h3
    · rename_i hj
      cases h3
      rcases h.1 with (h4 | h4) | h4
      · omega
      · omega
      · exact h4
    · exact ih h.2 (by omega) (by omega) h3
theorem yat_some : ∀ {l : List (Nat × Int × Int)} {j : Nat}, j < ysum l → ∃ q, yat l j = some q := by
  intro l
  induction l with
  | nil => intro j h; exact absurd h (Nat.not_lt_zero _)
  | cons a r ih =>
    intro j h
    simp only [ysum] at h
    simp only [yat]
    split
    · exact ⟨_, rfl⟩
    · exact ih (by omega)
def yok (t : yC) (c : zE) : Prop := match t, c with
  | .inl x, .inl o => x.1 = o.1 ∧ x.2.length = o.2.length ∧ ∀ (k : Nat) (a : yA) (v : Value), x.2[k]? = some a → o.2[k]? = some v → yg a v
  | .inr (.inl x), .inr (.inl y) => x.1 = y.1 ∧ y.2.length = ysum x.2 ∧ ∀ (j : Nat) (q : Int × Int) (z : Int32), yat x.2 j = some q → y.2[j]? = some z → yin q z
  | .inr (.inr (.inl n)), .inr (.inr (.inl xs)) => xs.length = n
  | .inr (.inr (.inr x)), .inr (.inr (.inr y)) => x.1 = y.1 ∧ x.2.length = y.2.length ∧ ∀ (j : Nat) (os : List Nat) (p : Option Nat), x.2[j]? = some os → y.2[j]? = some p → ∃ o, p = some o ∧ o ∈ os
  | _, _ => False
def yM (T : List yC) (M : List zE) : Prop := M.length = T.length ∧ ∀ (j : Nat) (t : yC), T[j]? = some t → ∃ c, M[j]? = some c ∧ yok t c
theorem yM_at {T : List yC} {M : List zE} (h : yM T M) {j : Nat} {t : yC} (ht : T[j]? = some t) : ∃ c, M[j]? = some c ∧ yok t c := h.2 j t ht
theorem yM_set {T : List yC} {M : List zE} {j : Nat} {t : yC} {c : zE} (h : yM T M) (ht : T[j]? = some t) (hc : yok t c) : yM T (M.set j c) := by
  refine ⟨by simp [h.1], fun k u hu => ?_⟩
  by_cases hk : j = k
  · subst hk
    cases ht.symm.trans hu
    have hlt : j < M.length := by rw [h.1]; exact (List.getElem?_eq_some_iff.mp ht).1
    exact ⟨c, by simp [hlt], hc⟩
  · obtain ⟨d, h1, h2⟩ := h.2 k u hu
    exact ⟨d, by rw [List.getElem?_set_ne hk]; exact h1, h2⟩
def yrd (Tg T : List yC) (o : Nat) : Option yC := if o < 50 then (if o = 0 then none else Tg[o]?) else T[o - 50]?
/-- the given cells' types, as far as they are told -/
def yMg (Tg : List yC) (G : List zE) : Prop := ∀ (j : Nat) (t : yC), ¬ j = 0 → Tg[j]? = some t → ∃ c, G[j]? = some c ∧ yok t c
theorem yrd_sound {Tg T : List yC} {G : List zE} {X : zX} {o : Nat} {t : yC} (hg : yMg Tg G) (hM : yM T X.1) (h : yrd Tg T o = some t) : ∃ c, zrd G X o = some c ∧ yok t c := by
  unfold yrd at h
  unfold zrd
  split at h
  · rename_i ho
    rw [if_pos ho]
    split at h
    · cases h
    · rename_i h0
      exact hg o t h0 h
  · rename_i ho
    rw [if_neg ho]
    exact hM.2 _ _ h
def yle (a b : yA) : Bool := match a, b with
  | .inl x, .inl y => decide (y.1 ≤ x.1) && decide (x.2 ≤ y.2)
  | .inr (.inl _), .inr (.inl _) => true
  | .inr (.inr x), .inr (.inr y) => x.all fun o => y.elem o
  | _, _ => false
theorem yle_sound {a b : yA} {v : Value} (h : yle a b = true) (hv : yg a v) : yg b v := by
  unfold yle at h
  split at h
  · obtain ⟨x, e, h1, h2⟩ := hv
    simp only [Bool.and_eq_true, decide_eq_true_eq] at h
    exact ⟨x, e, by omega, by omega⟩
  · exact hv
  · obtain ⟨o, e, h1⟩ := hv
    exact ⟨o, e, List.elem_iff.mp (List.all_eq_true.mp h o h1)⟩
  · cases h
def yhull (a b : yA) : yA := match a, b with
  | .inl x, .inl y => .inl (ymin x.1 y.1, ymax x.2 y.2)
  | .inr (.inr x), .inr (.inr y) => .inr (.inr (x ++ y.filter fun o => !(x.elem o)))
  | a, _ => a
def yjoin : List yA → Option yA
  | [] => none
  | a :: r => match yjoin r with
    | none => some a
    | some b => some (yhull a b)
/-- the hull of all runs that meet lo .. hi -/
def yruns (lo hi : Nat) : List (Nat × Int × Int) → Nat → List yA
  | [], _ => []
  | q :: r, off => if off + q.1 ≤ lo ∨ hi < off then yruns lo hi r (off + q.1) else .inl q.2 :: yruns lo hi r (off + q.1)
end
section
/-! Reads. -/
def yix (q : Int × Int) (n : Nat) : Option (Nat × Nat) := if 0 ≤ q.1 ∧ q.2 < (n : Int) then some (q.1.toNat, q.2.toNat) else none
theorem yix_spec {q : Int × Int} {n : Nat} {r : Nat × Nat} {x : Int32} (h : yix q n = some r) (hx : yin q x) : zin x n = true ∧ r.1 ≤ x.toNatClampNeg ∧ x.toNatClampNeg ≤ r.2 ∧ x.toNatClampNeg < n := by
  unfold yix at h
  split at h
  · rename_i hc
    cases h
    obtain ⟨h1, h2⟩ := hx
    have e : x.toNatClampNeg = x.toInt.toNat := rfl
    refine ⟨?_, by rw [e]; omega, by rw [e]; omega, by rw [e]; omega⟩
    have h3 : vp_in x n := vp_in_iff.mpr ⟨by omega, by omega⟩
    unfold zin
    simp only [Bool.and_eq_true, Bool.not_eq_true', decide_eq_false_iff_not, decide_eq_true_eq]
    exact ⟨fun h => h3 (Or.inl h), Nat.not_le.mp fun h => h3 (Or.inr h)⟩
  · cases h
def ymap (f : Nat → Option yA) : List Nat → Option (List yA)
  | [] => some []
  | o :: r => match f o, ymap f r with
    | some t, some ts => some (t :: ts)
    | _, _ => none
theorem ymap_spec {f : Nat → Option yA} : ∀ {os : List Nat} {ts : List yA}, ymap f os = some ts → ∀ o ∈ os, ∃ t ∈ ts, f o = some t := by
  intro os
  induction os with
  | nil => intro ts _ o ho; cases ho
  | cons a r ih =>
    intro ts h o ho
    simp only [ymap] at h
    split at h
    · rename_i t us h1 h2
      cases h
      rcases List.mem_cons.mp ho with rfl | ho
      · exact ⟨t, List.mem_cons_self, h1⟩
      · obtain ⟨u, h3, h4⟩ := ih h2 o ho
        exact ⟨u, List.mem_cons_of_mem _ h3, h4⟩
    · cases h
/-- one type for what may be read at any of the places -/
def yone (f : Nat → Option yA) (os : List Nat) : Option yA := match ymap f os with
  | none => none
  | some ts => match yjoin ts with
    | none => none
    | some t => if ts.all (fun u => yle u t) then some t else none
theorem yone_spec {f : Nat → Option yA} {os : List Nat} {t : yA} (h : yone f os = some t) {o : Nat} (ho : o ∈ os) : ∃ u, f o = some u ∧ yle u t = true := by
  unfold yone at h
  split at h
  · cases h
  · rename_i ts hts
    split at h
    · cases h
    · split at h
      · rename_i hall
        cases h
        obtain ⟨u, h1, h2⟩ := ymap_spec hts o ho
        exact ⟨u, h2, List.all_eq_true.mp hall u h1⟩
      · cases h
def yseg (q : Int × Int) (l : List (Nat × Int × Int)) : Option yA := match yix q (ysum l) with
  | none => none
  | some (lo, hi) => match yjoin (yruns lo hi l 0) with
    | none => none
    | some t => if yall (fun p => yle (.inl p) t) lo hi l 0 then some t else none
theorem yseg_spec {q : Int × Int} {l : List (Nat × Int × Int)} {t : yA} {x : Int32} {xs : List Int32} (h : yseg q l = some t) (hx : yin q x) (hlen : xs.length = ysum l) (hxs : ∀ (j : Nat) (p : Int × Int) (z : Int32), yat l j = some p → xs[j]? = some z → yin p z) : zin x xs.length = true ∧ yg t (.int (xs.getD x.toNatClampNeg 0)) := by
  unfold yseg at h
  split at h
  · cases h
  · rename_i lo hi hix
    obtain ⟨h1, h2, h3, h4⟩ := yix_spec hix hx
    split at h
    · cases h
    · split at h
      · rename_i hall
        cases h
        refine ⟨by rw [hlen]; exact h1, ?_⟩
        obtain ⟨p, hp⟩ := yat_some h4
        have hle := yall_spec hall (by omega : lo ≤ 0 + x.toNatClampNeg) (by omega) hp
        have hlt : x.toNatClampNeg < xs.length := by omega
        have hget : xs[x.toNatClampNeg]? = some (xs.getD x.toNatClampNeg 0) := by
          rw [List.getD_eq_getElem?_getD, List.getElem?_eq_getElem hlt]
          rfl
        exact yle_sound hle (yg_int (hxs _ _ _ hp hget))
      · cases h
def yfld (Tg T : List yC) (a b o : Nat) : Option yA := match yrd Tg T o with
  | some (.inl x) => if x.1 = a then x.2[b]? else none
  | _ => none
def ylen (Tg T : List yC) (a o : Nat) : Option yA := match yrd Tg T o with
  | some (.inr (.inl x)) => if (o < 50 ∨ x.1 = 0) ∧ ysum x.2 < 100000 then some (.inl ((ysum x.2 : Int), (ysum x.2 : Int))) else none
  | some (.inr (.inr (.inr x))) => if x.1 = a ∧ a ≠ 98 ∧ x.2.length < 100000 then some (.inl ((x.2.length : Int), (x.2.length : Int))) else none
  | _ => none
def yint (Tg T : List yC) (kd : Nat) (q : Int × Int) (o : Nat) : Option yA := match yrd Tg T o with
  | some (.inr (.inl x)) => if x.1 = kd then yseg q x.2 else none
  | _ => none
def ylng (Tg T : List yC) (q : Int × Int) (o : Nat) : Option yA := match yrd Tg T o with
  | some (.inr (.inr (.inl n))) => match yix q n with
    | some _ => some ylong
    | none => none
  | _ => none
def yref (Tg T : List yC) (a : Nat) (q : Int × Int) (o : Nat) : Option yA := match yrd Tg T o with
  | some (.inr (.inr (.inr x))) => if x.1 = a then match yix q x.2.length with
    | some (lo, hi) => some (.inr (.inr ((x.2.drop lo).take (hi + 1 - lo)).flatten))
    | none => none
    else none
  | _ => none
def yb (Tg T : List yC) (i : Instr) (a b : Nat) (S : yS) : Option (Nat × yS) := match i with
  | .getfield _ => match S with
    | (.inr (.inr os), _) :: r => match yone (yfld Tg T a b) os with
      | some t => some (3, (t, 0) :: r)
      | none => none
    | _ => none
  | .arraylength => match S with
    | (.inr (.inr os), _) :: r => match yone (ylen Tg T a) os with
      | some t => some (1, (t, 0) :: r)
      | none => none
    | _ => none
  | .iaload => match S with
    | (.inl q, _) :: (.inr (.inr os), _) :: r => match yone (yint Tg T 0 q) os with
      | some t => some (1, (t, 0) :: r)
      | none => none
    | _ => none
  | .caload => match S with
    | (.inl q, _) :: (.inr (.inr os), _) :: r => match yone (yint Tg T 1 q) os with
      | some t => some (1, (t, 0) :: r)
      | none => none
    | _ => none
  | .baload => match S with
    | (.inl q, _) :: (.inr (.inr os), _) :: r => match yone (yint Tg T 2 q) os with
      | some t => some (1, (t, 0) :: r)
      | none => none
    | _ => none
  | .laload => match S with
    | (.inl q, _) :: (.inr (.inr os), _) :: r => match yone (ylng Tg T q) os with
      | some t => some (1, (t, 0) :: r)
      | none => none
    | _ => none
  | .aaload => match S with
    | (.inl q, _) :: (.inr (.inr os), _) :: r => match yone (yref Tg T a q) os with
      | some t => some (1, (t, 0) :: r)
      | none => none
    | _ => none
  | _ => none
theorem y_nat {n : Nat} (h : n < 100000) : yg (.inl ((n : Int), (n : Int))) (.int (Int32.ofNat n)) := by
  have e : (Int32.ofNat n).toInt = (n : Int) := nI_toInt (n := n) (by omega)
  exact ⟨_, rfl, by rw [e]; exact Int.le_refl _, by rw [e]; exact Int.le_refl _⟩
section yBS
variable {Tg T : List yC} {G : List zE} {X : zX} {lv : zL}
theorem yfld_sound (hg : yMg Tg G) (hM : yM T X.1) {a b o : Nat} {u : yA} (h : yfld Tg T a b o = some u) : ∃ fs v, zrd G X o = some (.inl (a, fs)) ∧ fs[b]? = some v ∧ yg u v := by
  unfold yfld at h
  split at h
  · rename_i x hx
    split at h
    · rename_i ha
      obtain ⟨c, h1, h2⟩ := yrd_sound hg hM hx
      cases c with
      | inl y =>
        obtain ⟨h3, h4, h5⟩ := h2
        have hlt : b < y.2.length := by rw [← h4]; exact (List.getElem?_eq_some_iff.mp h).1
        refine ⟨y.2, y.2[b], ?_, List.getElem?_eq_getElem hlt, h5 b u _ h (List.getElem?_eq_getElem hlt)⟩
        rw [h1, ← ha, h3]
      | inr y => exact absurd h2 (by intro hh; cases y <;> exact hh)
    · cases h
  · cases h
end yBS
end
section
/-! Reads are sound; writes. -/
section yBT
variable {Tg T : List yC} {G : List zE} {X : zX} {lv : zL}
theorem ylen_sound (hg : yMg Tg G) (hM : yM T X.1) {a o : Nat} {u : yA} (h : ylen Tg T a o = some u) {r : List Value} (b : Nat) : ∃ v, zb G .arraylength a b (.ref o :: r) X = some (1, v :: r) ∧ yg u v := by
  unfold ylen at h
  split at h
  · rename_i x hx
    split at h
    · rename_i hc
      cases h
      obtain ⟨c, h1, h2⟩ := yrd_sound hg hM hx
      cases c with
      | inl y => exact h2.elim
      | inr y => cases y with
        | inl y =>
          obtain ⟨kd, xs⟩ := y
          obtain ⟨h3, h4, h5⟩ := h2
          have h3' : x.1 = kd := h3
          have h4' : xs.length = ysum x.2 := h4
          refine ⟨.int (Int32.ofNat xs.length), ?_, by rw [h4']; exact y_nat hc.2⟩
          simp only [zb, h1]
          rw [if_pos (by rw [← h3']; exact hc.1)]
        | inr y => exact absurd h2 (by intro hh; cases y <;> exact hh)
    · cases h
  · rename_i x hx
    split at h
    · rename_i hc
      cases h
      obtain ⟨c, h1, h2⟩ := yrd_sound hg hM hx
      cases c with
      | inl y => exact h2.elim
      | inr y => cases y with
        | inl y => exact h2.elim
        | inr y => cases y with
          | inl y => exact h2.elim
          | inr y =>
            obtain ⟨kd, xs⟩ := y
            obtain ⟨h3, h4, h5⟩ := h2
            have h3' : x.1 = kd := h3
            have h4' : x.2.length = xs.length := h4
            refine ⟨.int (Int32.ofNat xs.length), ?_, by rw [← h4']; exact y_nat hc.2.2⟩
            simp only [zb, h1]
            rw [if_pos ⟨by rw [← h3']; exact hc.1, hc.2.1⟩]
    · cases h
  · cases h
theorem yint_sound (hg : yMg Tg G) (hM : yM T X.1) {kd o : Nat} {q : Int × Int} {u : yA} {x : Int32} (h : yint Tg T kd q o = some u) (hx : yin q x) : ∃ xs, zrd G X o = some (.inr (.inl (kd, xs))) ∧ zin x xs.length = true ∧ yg u (.int (xs.getD x.toNatClampNeg 0)) := by
  unfold yint at h
  split at h
  · rename_i y hy
    split at h
    · rename_i hk
      obtain ⟨c, h1, h2⟩ := yrd_sound hg hM hy
      cases c with
      | inl z => exact h2.elim
      | inr z => cases z with
        | inl z =>
          obtain ⟨k2, xs⟩ := z
          obtain ⟨h3, h4, h5⟩ := h2
          have h3' : y.1 = k2 := h3
          obtain ⟨h6, h7⟩ := yseg_spec h hx h4 h5
          exact ⟨xs, by rw [h1, ← hk, h3'], h6, h7⟩
        | inr z => exact absurd h2 (by intro hh; cases z <;> exact hh)
    · cases h
  · cases h
theorem ylng_sound (hg : yMg Tg G) (hM : yM T X.1) {o : Nat} {q : Int × Int} {u : yA} {x : Int32} (h : ylng Tg T q o = some u) (hx : yin q x) : ∃ xs, zrd G X o = some (.inr (.inr (.inl xs))) ∧ zin x xs.length = true ∧ u = ylong := by
  unfold ylng at h
  split at h
  · rename_i n hy
    split at h
    · rename_i w hix
      cases h
      obtain ⟨c, h1, h2⟩ := yrd_sound hg hM hy
      cases c with
      | inl z => exact h2.elim
      | inr z => cases z with
        | inl z => exact h2.elim
        | inr z => cases z with
          | inl xs =>
            have h3 : xs.length = n := h2
            exact ⟨xs, h1, by rw [h3]; exact (yix_spec hix hx).1, rfl⟩
          | inr z => exact h2.elim
    · cases h
  · cases h
theorem yref_sound (hg : yMg Tg G) (hM : yM T X.1) {a o : Nat} {q : Int × Int} {u : yA} {x : Int32} (h : yref Tg T a q o = some u) (hx : yin q x) : ∃ xs p, zrd G X o = some (.inr (.inr (.inr (a, xs)))) ∧ zin x xs.length = true ∧ xs.getD x.toNatClampNeg none = some p ∧ yg u (.ref p) := by
  unfold yref at h
  split at h
  · rename_i y hy
    split at h
    · rename_i ha
      split at h
      · rename_i lo hi hix
        cases h
        obtain ⟨c, h1, h2⟩ := yrd_sound hg hM hy
        cases c with
        | inl z => exact h2.elim
        | inr z => cases z with
          | inl z => exact h2.elim
          | inr z => cases z with
            | inl z => exact h2.elim
            | inr z =>
              obtain ⟨k2, xs⟩ := z
              obtain ⟨h3, h4, h5⟩ := h2
              have h3' : y.1 = k2 := h3
              have h4' : y.2.length = xs.length := h4
              obtain ⟨g1, g2, g3, g4⟩ := yix_spec hix hx
              have hl1 : x.toNatClampNeg < y.2.length := g4
              have hl2 : x.toNatClampNeg < xs.length := by omega
              obtain ⟨p, hp, hm⟩ := h5 x.toNatClampNeg y.2[x.toNatClampNeg] xs[x.toNatClampNeg] (List.getElem?_eq_getElem hl1) (List.getElem?_eq_getElem hl2)
              refine ⟨xs, p, by rw [h1, ← ha, h3'], by rw [← h4']; exact g1, ?_, p, rfl, ?_⟩
              · rw [List.getD_eq_getElem?_getD, List.getElem?_eq_getElem hl2]
                exact hp
              · refine List.mem_flatten.mpr ⟨y.2[x.toNatClampNeg], ?_, hm⟩
                refine List.mem_of_getElem? (i := x.toNatClampNeg - lo) ?_
                have g2' : lo ≤ x.toNatClampNeg := g2
                have g3' : x.toNatClampNeg ≤ hi := g3
                rw [List.getElem?_take, if_pos (by omega), List.getElem?_drop, show lo + (x.toNatClampNeg - lo) = x.toNatClampNeg by omega]
                exact List.getElem?_eq_getElem hl1
      · cases h
    · cases h
  · cases h
theorem yb_sound {i : Instr} {a b : Nat} {S : yS} {st : List Value} {w : Nat × yS} (hg : yMg Tg G) (hM : yM T X.1) (h : yb Tg T i a b S = some w) (hs : ys S st lv) : ∃ q, zb G i a b st X = some q ∧ q.1 = w.1 ∧ ys w.2 q.2 lv := by
  cases i with
  | getfield z =>
    simp only [yb] at h
    split at h
    · split at h
      · rename_i t ht
        cases h
        obtain ⟨o, r, rfl, ho, hp, hr⟩ := ys_ref hs
        obtain ⟨u, h1, h2⟩ := yone_spec ht ho
        obtain ⟨fs, v, h3, h4, h5⟩ := yfld_sound hg hM h1
        exact ⟨(3, v :: r), by simp [zb, h3, h4], rfl, ys_0 (yle_sound h2 h5) hr⟩
      · cases h
    · cases h
  | arraylength =>
    simp only [yb] at h
    split at h
    · split at h
      · rename_i t ht
        cases h
        obtain ⟨o, r, rfl, ho, hp, hr⟩ := ys_ref hs
        obtain ⟨u, h1, h2⟩ := yone_spec ht ho
        obtain ⟨v, h3, h4⟩ := ylen_sound (r := r) hg hM h1 b
        exact ⟨_, h3, rfl, ys_0 (yle_sound h2 h4) hr⟩
      · cases h
    · cases h
  | iaload =>
    simp only [yb] at h
    split at h
    · split at h
      · rename_i t ht
        cases h
        obtain ⟨x, r0, rfl, hx, hp, hr0⟩ := ys_int hs
        obtain ⟨o, r, rfl, ho, hp2, hr⟩ := ys_ref hr0
        obtain ⟨u, h1, h2⟩ := yone_spec ht ho
        obtain ⟨xs, h3, h4, h5⟩ := yint_sound hg hM h1 hx
        exact ⟨(1, .int (xs.getD x.toNatClampNeg 0) :: r), by simp only [zb, h3]; rw [if_pos h4], rfl, ys_0 (yle_sound h2 h5) hr⟩
      · cases h
    · cases h
  | caload =>
    simp only [yb] at h
    split at h
    · split at h
      · rename_i t ht
        cases h
        obtain ⟨x, r0, rfl, hx, hp, hr0⟩ := ys_int hs
        obtain ⟨o, r, rfl, ho, hp2, hr⟩ := ys_ref hr0
        obtain ⟨u, h1, h2⟩ := yone_spec ht ho
        obtain ⟨xs, h3, h4, h5⟩ := yint_sound hg hM h1 hx
        exact ⟨(1, .int (xs.getD x.toNatClampNeg 0) :: r), by simp only [zb, h3]; rw [if_pos h4], rfl, ys_0 (yle_sound h2 h5) hr⟩
      · cases h
    · cases h
  | baload =>
    simp only [yb] at h
    split at h
    · split at h
      · rename_i t ht
        cases h
        obtain ⟨x, r0, rfl, hx, hp, hr0⟩ := ys_int hs
        obtain ⟨o, r, rfl, ho, hp2, hr⟩ := ys_ref hr0
        obtain ⟨u, h1, h2⟩ := yone_spec ht ho
        obtain ⟨xs, h3, h4, h5⟩ := yint_sound hg hM h1 hx
        exact ⟨(1, .int (xs.getD x.toNatClampNeg 0) :: r), by simp only [zb, h3]; rw [if_pos h4], rfl, ys_0 (yle_sound h2 h5) hr⟩
      · cases h
    · cases h
  | laload =>
    simp only [yb] at h
    split at h
    · split at h
      · rename_i t ht
        cases h
        obtain ⟨x, r0, rfl, hx, hp, hr0⟩ := ys_int hs
        obtain ⟨o, r, rfl, ho, hp2, hr⟩ := ys_ref hr0
        obtain ⟨u, h1, h2⟩ := yone_spec ht ho
        obtain ⟨xs, h3, h4, h5⟩ := ylng_sound hg hM h1 hx
        exact ⟨(1, .long (xs.getD x.toNatClampNeg 0) :: r), by simp only [zb, h3]; rw [if_pos h4], rfl, ys_0 (yle_sound h2 (by rw [h5]; exact yg_l _)) hr⟩
      · cases h
    · cases h
  | aaload =>
    simp only [yb] at h
    split at h
    · split at h
      · rename_i t ht
        cases h
        obtain ⟨x, r0, rfl, hx, hp, hr0⟩ := ys_int hs
        obtain ⟨o, r, rfl, ho, hp2, hr⟩ := ys_ref hr0
        obtain ⟨u, h1, h2⟩ := yone_spec ht ho
        obtain ⟨xs, p, h3, h4, h5, h6⟩ := yref_sound hg hM h1 hx
        exact ⟨(1, .ref p :: r), by simp only [zb, h3]; rw [if_pos ⟨trivial, h4⟩]; simp only [h5], rfl, ys_0 (yle_sound h2 h6) hr⟩
      · cases h
    · cases h
  | _ => simp [yb] at h
end yBT
end
section
/-! Writes. -/
def yfitc (c : Nat) (a : yA) : Bool := match c, a with
  | 0, .inl _ => true
  | 1, .inl q => decide (0 ≤ q.1) && decide (q.2 ≤ 1)
  | 3, .inr (.inl _) => true
  | 4, .inr (.inr _) => true
  | _, _ => false
theorem y_01 {x : Int32} (h1 : 0 ≤ x.toInt) (h2 : x.toInt ≤ 1) : x = 0 ∨ x = 1 := by
  rcases (by omega : x.toInt = 0 ∨ x.toInt = 1) with h | h
  · exact Or.inl (y_eq.mpr h)
  · exact Or.inr (y_eq.mpr h)
theorem yfitc_spec {c : Nat} {a : yA} {v : Value} (h : yfitc c a = true) (hv : yg a v) : zfit c v = true := by
  unfold yfitc at h
  split at h
  · obtain ⟨x, rfl, -⟩ := hv; rfl
  · obtain ⟨x, rfl, h1, h2⟩ := hv
    simp only [Bool.and_eq_true, decide_eq_true_eq] at h
    rcases y_01 (x := x) (by omega) (by omega) with rfl | rfl <;> rfl
  · obtain ⟨x, rfl⟩ := hv; rfl
  · obtain ⟨x, rfl, -⟩ := hv; rfl
  · cases h
def ypf (T : List yC) (a b : Nat) (va : yA) (o : Nat) : Bool := if o < 50 then false else match T[o - 50]? with
  | some (.inl x) => if x.1 = a then match x.2[b]? with
    | some t => yle va t
    | none => false
    else false
  | _ => false
def yst (T : List yC) (kd : Nat) (q qv : Int × Int) (o : Nat) : Bool := if o < 50 then false else match T[o - 50]? with
  | some (.inr (.inl x)) => if x.1 = kd then match yix q (ysum x.2) with
    | some (lo, hi) => yall (fun p => yle (.inl qv) (.inl p)) lo hi x.2 0
    | none => false
    else false
  | _ => false
def ysl (T : List yC) (q : Int × Int) (o : Nat) : Bool := if o < 50 then false else match T[o - 50]? with
  | some (.inr (.inr (.inl n))) => (yix q n).isSome
  | _ => false
def yc (T : List yC) (i : Instr) (a b c : Nat) (S : yS) : Option (Nat × yS) := match i with
  | .putfield _ => match S with
    | (va, _) :: (.inr (.inr os), _) :: r => if yfitc c va = true ∧ os.all (ypf T a b va) = true then some (3, r) else none
    | _ => none
  | .iastore => match S with
    | (.inl qv, _) :: (.inl q, _) :: (.inr (.inr os), _) :: r => if os.all (yst T 0 q qv) = true then some (1, r) else none
    | _ => none
  | .bastore => match S with
    | (.inl qv, _) :: (.inl q, _) :: (.inr (.inr os), _) :: r => if (0 ≤ qv.1 ∧ qv.2 ≤ 1) ∧ os.all (yst T 2 q qv) = true then some (1, r) else none
    | _ => none
  | .lastore => match S with
    | (.inr (.inl _), _) :: (.inl q, _) :: (.inr (.inr os), _) :: r => if os.all (ysl T q) = true then some (1, r) else none
    | _ => none
  | _ => none
section yCS
variable {T : List yC} {X : zX} {lv : zL} {df : Nat → List Value}
theorem ypf_sound (hM : yM T X.1) {a b o : Nat} {va : yA} {v : Value} (h : ypf T a b va o = true) (hv : yg va v) : ¬ o < 50 ∧ ∃ fs, X.1[o - 50]? = some (.inl (a, fs)) ∧ b < fs.length ∧ yM T (X.1.set (o - 50) (.inl (a, fs.set b v))) := by
  unfold ypf at h
  split at h
  · cases h
  · rename_i ho
    refine ⟨ho, ?_⟩
    split at h
    · rename_i x hx
      split at h
      · rename_i ha
        split at h
        · rename_i t ht
          obtain ⟨c, h1, h2⟩ := hM.2 _ _ hx
          cases c with
          | inl y =>
            obtain ⟨ci, fs⟩ := y
            obtain ⟨h3, h4, h5⟩ := h2
            have h3' : x.1 = ci := h3
            have h4' : x.2.length = fs.length := h4
            have hlt : b < fs.length := by rw [← h4']; exact (List.getElem?_eq_some_iff.mp ht).1
            have hci : ci = a := h3'.symm.trans ha
            subst hci
            refine ⟨fs, h1, hlt, yM_set hM hx ⟨h3, ?_, fun k u w hu hw => ?_⟩⟩
            · show x.2.length = (fs.set b v).length
              rw [List.length_set]
              exact h4'
            · have hw' : (fs.set b v)[k]? = some w := hw
              by_cases hk : b = k
              · subst hk
                cases ht.symm.trans hu
                rw [List.getElem?_set_self hlt] at hw'
                cases hw'
                exact yle_sound h hv
              · rw [List.getElem?_set_ne hk] at hw'
                exact h5 k u w hu hw'
          | inr y => exact absurd h2 (by intro hh; cases y <;> exact hh)
        · cases h
      · cases h
    · cases h
theorem yst_sound (hM : yM T X.1) {kd o : Nat} {q qv : Int × Int} {x v : Int32} (h : yst T kd q qv o = true) (hx : yin q x) (hv : yin qv v) : ¬ o < 50 ∧ ∃ xs, X.1[o - 50]? = some (.inr (.inl (kd, xs))) ∧ zin x xs.length = true ∧ yM T (X.1.set (o - 50) (.inr (.inl (kd, xs.set x.toNatClampNeg v)))) := by
  unfold yst at h
  split at h
  · cases h
  · rename_i ho
    refine ⟨ho, ?_⟩
    split at h
    · rename_i y hy
      split at h
      · rename_i hk
        split at h
        · rename_i lo hi hix
          obtain ⟨c, h1, h2⟩ := hM.2 _ _ hy
          cases c with
          | inl z => exact h2.elim
          | inr z => cases z with
            | inl z =>
              obtain ⟨k2, xs⟩ := z
              obtain ⟨h3, h4, h5⟩ := h2
              have h3' : y.1 = k2 := h3
              have h4' : xs.length = ysum y.2 := h4
              have hk2 : k2 = kd := h3'.symm.trans hk
              subst hk2
              obtain ⟨g1, g2, g3, g4⟩ := yix_spec hix hx
              refine ⟨xs, h1, by rw [h4']; exact g1, yM_set hM hy ⟨h3, ?_, fun j p z hp hz => ?_⟩⟩
              · show (xs.set x.toNatClampNeg v).length = ysum y.2
                rw [List.length_set]
                exact h4'
              · have hz' : (xs.set x.toNatClampNeg v)[j]? = some z := hz
                by_cases hj : x.toNatClampNeg = j
                · subst hj
                  rw [List.getElem?_set_self (by omega)] at hz'
                  cases hz'
                  have hle := yall_spec h (by omega : lo ≤ 0 + x.toNatClampNeg) (by omega) hp
                  obtain ⟨w, e, e1, e2⟩ := yle_sound hle (yg_int hv)
                  cases e
                  exact ⟨e1, e2⟩
                · rw [List.getElem?_set_ne hj] at hz'
                  exact h5 j p z hp hz'
            | inr z => exact absurd h2 (by intro hh; cases z <;> exact hh)
        · cases h
      · cases h
    · cases h
theorem ysl_sound (hM : yM T X.1) {o : Nat} {q : Int × Int} {x : Int32} {v : Int64} (h : ysl T q o = true) (hx : yin q x) : ¬ o < 50 ∧ ∃ xs, X.1[o - 50]? = some (.inr (.inr (.inl xs))) ∧ zin x xs.length = true ∧ yM T (X.1.set (o - 50) (.inr (.inr (.inl (xs.set x.toNatClampNeg v))))) := by
  unfold ysl at h
  split at h
  · cases h
  · rename_i ho
    refine ⟨ho, ?_⟩
    split at h
    · rename_i n hy
      obtain ⟨w, hix⟩ := Option.isSome_iff_exists.mp h
      obtain ⟨c, h1, h2⟩ := hM.2 _ _ hy
      cases c with
      | inl z => exact h2.elim
      | inr z => cases z with
        | inl z => exact h2.elim
        | inr z => cases z with
          | inl xs =>
            have h3 : xs.length = n := h2
            refine ⟨xs, h1, by rw [h3]; exact (yix_spec hix hx).1, yM_set hM hy ?_⟩
            show (xs.set x.toNatClampNeg v).length = n
            rw [List.length_set]
            exact h3
          | inr z => exact h2.elim
    · cases h
theorem yc_sound {i : Instr} {a b c : Nat} {S : yS} {st : List Value} {w : Nat × yS} (hM : yM T X.1) (h : yc T i a b c S = some w) (hs : ys S st lv) : ∃ q, zc df i a b c st X = some q ∧ q.1 = w.1 ∧ ys w.2 q.2.1 lv ∧ yM T q.2.2.1 ∧ q.2.2.2 = X.2 := by
  cases i with
  | putfield z =>
    simp only [yc] at h
    split at h
    · split at h
      · rename_i hc
        cases h
        cases st with
        | nil => exact hs.elim
        | cons v r0 =>
          obtain ⟨hv, -, hr0⟩ := hs
          obtain ⟨o, r, rfl, ho, hp2, hr⟩ := ys_ref hr0
          obtain ⟨h1, fs, h2, h3, h4⟩ := ypf_sound hM (List.all_eq_true.mp hc.2 o ho) hv
          refine ⟨(3, r, zput X o (.inl (a, fs.set b v))), ?_, rfl, hr, h4, rfl⟩
          simp only [zc]
          rw [if_neg h1]
          simp only [h2]
          rw [if_pos ⟨trivial, h3, yfitc_spec hc.1 hv⟩]
      · cases h
    · cases h
  | iastore =>
    simp only [yc] at h
    split at h
    · split at h
      · rename_i hc
        cases h
        obtain ⟨v, r0, rfl, hv, hp, hr0⟩ := ys_int hs
        obtain ⟨x, r1, rfl, hx, hp1, hr1⟩ := ys_int hr0
        obtain ⟨o, r, rfl, ho, hp2, hr⟩ := ys_ref hr1
        obtain ⟨h1, xs, h2, h3, h4⟩ := yst_sound hM (List.all_eq_true.mp hc o ho) hx hv
        refine ⟨(1, r, zput X o (.inr (.inl (0, xs.set x.toNatClampNeg v)))), ?_, rfl, hr, h4, rfl⟩
        simp only [zc]
        rw [if_neg h1]
        simp only [h2]
        rw [if_pos h3]
      · cases h
    · cases h
  | bastore =>
    simp only [yc] at h
    split at h
    · split at h
      · rename_i hc
        cases h
        obtain ⟨v, r0, rfl, hv, hp, hr0⟩ := ys_int hs
        obtain ⟨x, r1, rfl, hx, hp1, hr1⟩ := ys_int hr0
        obtain ⟨o, r, rfl, ho, hp2, hr⟩ := ys_ref hr1
        obtain ⟨h1, xs, h2, h3, h4⟩ := yst_sound hM (List.all_eq_true.mp hc.2 o ho) hx hv
        have hn : vp_nar .boolean v = v := by
          obtain ⟨v1, v2⟩ := hv
          rcases y_01 (x := v) (by omega) (by omega) with rfl | rfl <;> rfl
        refine ⟨(1, r, zput X o (.inr (.inl (2, xs.set x.toNatClampNeg v)))), ?_, rfl, hr, h4, rfl⟩
        simp only [zc]
        rw [if_neg h1]
        simp only [h2, hn]
        rw [if_pos h3]
      · cases h
    · cases h
  | lastore =>
    simp only [yc] at h
    split at h
    · split at h
      · rename_i hc
        cases h
        obtain ⟨v, r0, rfl, hr0⟩ := ys_long hs
        obtain ⟨x, r1, rfl, hx, hp1, hr1⟩ := ys_int hr0
        obtain ⟨o, r, rfl, ho, hp2, hr⟩ := ys_ref hr1
        obtain ⟨h1, xs, h2, h3, h4⟩ := ysl_sound (v := v) hM (List.all_eq_true.mp hc o ho) hx
        refine ⟨(1, r, zput X o (.inr (.inr (.inl (xs.set x.toNatClampNeg v))))), ?_, rfl, hr, h4, rfl⟩
        simp only [zc]
        rw [if_neg h1]
        simp only [h2]
        rw [if_pos h3]
      · cases h
    · cases h
  | _ => simp [yc] at h
end yCS
end
section
/-! Ends, calls, the way from one loop head to the next. -/
def yupd (i : Instr) (D : List (Nat × Int)) : List (Nat × Int) := match i with
  | .iinc k n => D.map fun q => if q.1 = k then (q.1, q.2 + (Int32.ofInt n).toInt) else q
  | .istore_n k => D.filter fun q => !(q.1 == (k : Nat))
  | .istore k => D.filter fun q => !(q.1 == k)
  | .astore_n k => D.filter fun q => !(q.1 == (k : Nat))
  | .astore k => D.filter fun q => !(q.1 == k)
  | .lstore_n k => D.filter fun q => !(q.1 == (k : Nat)) && !(q.1 == (k : Nat) + 1)
  | .lstore k => D.filter fun q => !(q.1 == k) && !(q.1 == k + 1)
  | _ => D
def yD (D : List (Nat × Int)) (lv0 lv : zL) : Prop := ∀ q ∈ D, ∃ x0 x : Int32, zlv lv0 q.1 = some (.int x0) ∧ zlv lv q.1 = some (.int x) ∧ x.toInt = x0.toInt + q.2
theorem yD_1 {D : List (Nat × Int)} {lv0 lv : zL} {k : Nat} {v : Value} (h : yD D lv0 lv) : yD (D.filter fun q => !(q.1 == k)) lv0 ((k, v) :: zf1 k lv) := by
  intro q hq
  obtain ⟨h1, h2⟩ := List.mem_filter.mp hq
  obtain ⟨x0, x, h3, h4, h5⟩ := h q h1
  have hne : q.1 ≠ k := by simpa using h2
  exact ⟨x0, x, h3, by rw [zlv_cons_ne hne]; exact zlv_f1 h4 hne (fun _ => rfl), h5⟩
theorem yD_2 {D : List (Nat × Int)} {lv0 lv : zL} {k : Nat} {v : Value} (h : yD D lv0 lv) : yD (D.filter fun q => !(q.1 == k) && !(q.1 == k + 1)) lv0 ((k, v) :: zf2 k lv) := by
  intro q hq
  obtain ⟨h1, h2⟩ := List.mem_filter.mp hq
  obtain ⟨x0, x, h3, h4, h5⟩ := h q h1
  have hne : q.1 ≠ k ∧ q.1 ≠ k + 1 := by simpa using h2
  exact ⟨x0, x, h3, by rw [zlv_cons_ne hne.1]; exact zlv_f2 h4 hne.1 hne.2 (fun _ => rfl), h5⟩
theorem yD_i {D : List (Nat × Int)} {lv0 lv : zL} {k : Nat} {x y : Int32} (h : yD D lv0 lv) (hx : zlv lv k = some (.int x)) (he : (x + y).toInt = x.toInt + y.toInt) : yD (D.map fun q => if q.1 = k then (q.1, q.2 + y.toInt) else q) lv0 ((k, .int (x + y)) :: zf1 k lv) := by
  intro q hq
  obtain ⟨p, hp, e⟩ := List.mem_map.mp hq
  obtain ⟨x0, x', h3, h4, h5⟩ := h p hp
  by_cases hk : p.1 = k
  · rw [if_pos hk] at e
    subst e
    rw [hk] at h4
    have e2 : x = x' := Value.int.inj (Option.some.inj (hx.symm.trans h4))
    subst e2
    refine ⟨x0, x + y, h3, ?_, by rw [he]; dsimp only; omega⟩
    show zlv _ p.1 = _
    rw [hk]
    exact zlv_cons
  · rw [if_neg hk] at e
    subst e
    exact ⟨x0, x', h3, by rw [zlv_cons_ne hk]; exact zlv_f1 h4 hk (fun _ => rfl), h5⟩
/-- a counter that is watched doesn't leave the ints -/
def yir (i : Instr) (L : yL) (D : List (Nat × Int)) : Bool := match i with
  | .iinc k n => (D.all fun q => !(q.1 == k)) || (match ylk L k with
    | some (.inl q) => decide (-2147483648 ≤ q.1 + (Int32.ofInt n).toInt ∧ q.2 + (Int32.ofInt n).toInt ≤ 2147483647)
    | _ => false)
  | _ => true
theorem yD_n {D : List (Nat × Int)} {lv0 lv : zL} {k : Nat} {y : Int} {v : Value} (h : yD D lv0 lv) (hn : D.all (fun q => !(q.1 == k)) = true) : yD (D.map fun q => if q.1 = k then (q.1, q.2 + y) else q) lv0 ((k, v) :: zf1 k lv) := by
  intro q hq
  obtain ⟨p, hp, e⟩ := List.mem_map.mp hq
  obtain ⟨x0, x', h3, h4, h5⟩ := h p hp
  have hk : ¬ p.1 = k := by simpa using List.all_eq_true.mp hn p hp
  rw [if_neg hk] at e
  subst e
  exact ⟨x0, x', h3, by rw [zlv_cons_ne hk]; exact zlv_f1 h4 hk (fun _ => rfl), h5⟩
theorem yupd_sound {i : Instr} {v : Value} {nL pc : Nat} {L : yL} {S : yS} {ss : List yN} {lv0 lv : zL} {st : List Value} {q : Nat × zL × List Value} {D : List (Nat × Int)} (h : ya i v nL pc L S = some ss) (hl : yl L lv) (ha : za i v nL pc lv st = some q) (hi : yir i L D = true) (hD : yD D lv0 lv) : yD (yupd i D) lv0 q.2.1 := by
  cases i with
  | iinc k n =>
    simp only [ya] at h
    split at h
    · rename_i w hw
      split at h
      · rename_i hz
        obtain ⟨x, h1, h2, h3⟩ := yl_i hl hw
        simp only [za, h1] at ha
        rw [if_pos hz] at ha
        cases ha
        simp only [yir, Bool.or_eq_true, hw, decide_eq_true_eq] at hi
        rcases hi with hi | hi
        · exact yD_n hD hi
        · exact yD_i hD h1 (y_add (by omega) (by omega))
      · cases h
    · cases h
  | istore_n k =>
    simp only [za] at ha
    split at ha
    · split at ha
      · cases ha; exact yD_1 hD
      · cases ha
    · cases ha
  | istore k =>
    simp only [za] at ha
    split at ha
    · split at ha
      · cases ha; exact yD_1 hD
      · cases ha
    · cases ha
  | astore_n k =>
    simp only [za] at ha
    split at ha
    · split at ha
      · cases ha; exact yD_1 hD
      · cases ha
    · cases ha
  | astore k =>
    simp only [za] at ha
    split at ha
    · split at ha
      · cases ha; exact yD_1 hD
      · cases ha
    · cases ha
  | lstore_n k =>
    simp only [za] at ha
    split at ha
    · split at ha
      · cases ha; exact yD_2 hD
      · cases ha
    · cases ha
  | lstore k =>
    simp only [za] at ha
    split at ha
    · split at ha
      · cases ha; exact yD_2 hD
      · cases ha
    · cases ha
  | _ =>
    have e : q.2.1 = lv := by
      simp only [za] at ha
      repeat' split at ha
      all_goals first | (cases ha; done) | (cases ha; rfl)
    rw [e]
    exact hD
end
section
/-! Loop heads: types, a rank, and which counters count there. A counter: a local, its bound, its weight. -/
abbrev yK : Type := List (Nat × Int × Int)
abbrev yH : Type := Nat × yL × Int × List Bool
def yval (lv : zL) (k : Nat) : Int := match zlv lv k with
  | some (.int x) => x.toInt
  | _ => 0
def ytot : yK → List Bool → zL → Int
  | c :: cs, f :: fs, lv => (if f then c.2.2 * (c.2.1 - yval lv c.1) else 0) + ytot cs fs lv
  | _, _, _ => 0
/-- what a head says of its counters: each is an int at most its bound; its weight isn't negative -/
def yhk (L : yL) : yK → List Bool → Bool
  | c :: cs, f :: fs => (!f || (match ylk L c.1 with
      | some (.inl q) => (decide (q.2 ≤ c.2.1) && decide (0 ≤ c.2.2)) || (decide (c.2.1 ≤ q.1) && decide (c.2.2 ≤ 0))
      | _ => false)) && yhk L cs fs
  | _, _ => true
theorem y_sg {w b x l h : Int} (h1 : (decide (h ≤ b) && decide (0 ≤ w) || decide (b ≤ l) && decide (w ≤ 0)) = true) (hl : l ≤ x) (hh : x ≤ h) : 0 ≤ w * (b - x) := by
  simp only [Bool.or_eq_true, Bool.and_eq_true, decide_eq_true_eq] at h1
  rcases h1 with ⟨h1, h2⟩ | ⟨h1, h2⟩
  · exact Int.mul_nonneg h2 (by omega)
  · exact Int.mul_nonneg_of_nonpos_of_nonpos h2 (by omega)
theorem yhk_nonneg {L : yL} {lv : zL} (hl : yl L lv) : ∀ {cs : yK} {fs : List Bool}, yhk L cs fs = true → 0 ≤ ytot cs fs lv := by
  intro cs
  induction cs with
  | nil => intro fs _; cases fs <;> exact Int.le_refl _
  | cons c cs ih =>
    intro fs h
    cases fs with
    | nil => exact Int.le_refl _
    | cons f fs =>
      simp only [yhk, Bool.and_eq_true, Bool.or_eq_true, Bool.not_eq_true'] at h
      have h2 := ih h.2
      simp only [ytot]
      rcases h.1 with h1 | h1
      · simp [h1]; exact h2
      · split at h1
        · rename_i q hq
          obtain ⟨x, h3, h4, h5⟩ := yl_i hl hq
          have e : yval lv c.1 = x.toInt := by simp [yval, h3]
          split
          · have : 0 ≤ c.2.2 * (c.2.1 - yval lv c.1) := by rw [e]; exact y_sg h1 h4 h5
            omega
          · omega
        · cases h1
/-- how much the sum may have grown since the head A -/
def ydif (D : List (Nat × Int)) (LB : yL) : yK → List Bool → List Bool → Option Int
  | c :: cs, a :: fa, b :: fb => match ydif D LB cs fa fb with
    | none => none
    | some e => if b then (match (if a then D.lookup c.1 else none) with
        | some d => some (e - c.2.2 * d)
        | none => match ylk LB c.1 with
          | some (.inl q) => some (e + (if 0 ≤ c.2.2 then c.2.2 * (c.2.1 - q.1) else c.2.2 * (c.2.1 - q.2)))
          | _ => none)
      else some e
  | [], _, _ => some 0
  | _, _, _ => none
theorem ydif_sound {D : List (Nat × Int)} {LA LB : yL} {lv0 lv : zL} (hA : yl LA lv0) (hB : yl LB lv) (hD : yD D lv0 lv) : ∀ {cs : yK} {fa fb : List Bool} {e : Int}, yhk LA cs fa = true → yhk LB cs fb = true → ydif D LB cs fa fb = some e → ytot cs fb lv ≤ ytot cs fa lv0 + e := by
  intro cs
  induction cs with
  | nil =>
    intro fa fb e _ _ h
    simp only [ydif] at h
    cases h
    cases fa <;> cases fb <;> simp [ytot]
  | cons c cs ih =>
    intro fa fb e ha hb h
    cases fa with
    | nil => cases fb <;> simp [ydif] at h
    | cons a fa =>
      cases fb with
      | nil => simp [ydif] at h
      | cons b fb =>
        simp only [ydif] at h
        split at h
        · cases h
        · rename_i e0 he0
          have ha' := ha
          have hb' := hb
          simp only [yhk, Bool.and_eq_true, Bool.or_eq_true, Bool.not_eq_true'] at ha hb
          have hr := ih ha.2 hb.2 he0
          simp only [ytot]
          have hA0 : 0 ≤ (if a = true then c.2.2 * (c.2.1 - yval lv0 c.1) else 0) := by
            rcases ha.1 with h1 | h1
            · simp [h1]
            · split at h1
              · rename_i q hq
                obtain ⟨x, h3, h4, h5⟩ := yl_i hA hq
                have ev : yval lv0 c.1 = x.toInt := by simp [yval, h3]
                split
                · rw [ev]; exact y_sg h1 h4 h5
                · exact Int.le_refl _
              · cases h1
          cases b with
          | false =>
            simp only [Bool.false_eq_true, if_false] at h ⊢
            cases h
            omega
          | true =>
            simp only [if_true] at h ⊢
            split at h
            · rename_i d hd
              cases h
              cases a with
              | false => simp at hd
              | true =>
                simp only [if_true] at hd ⊢
                obtain ⟨x0, x, h3, h4, h5⟩ := hD _ (zlook hd)
                have e1 : yval lv0 c.1 = x0.toInt := by simp [yval, h3]
                have e2 : yval lv c.1 = x.toInt := by simp [yval, h4]
                have h5' : x.toInt = x0.toInt + d := h5
                rw [e1, e2, h5']
                have e3 : c.2.2 * (c.2.1 - (x0.toInt + d)) = c.2.2 * (c.2.1 - x0.toInt) - c.2.2 * d := by rw [← Int.mul_sub]; congr 1; omega
                rw [e3]
                omega
            · split at h
              · rename_i q hq
                cases h
                obtain ⟨x, h3, h4, h5⟩ := yl_i hB hq
                have e2 : yval lv c.1 = x.toInt := by simp [yval, h3]
                rw [e2]
                by_cases hw : 0 ≤ c.2.2
                · rw [if_pos hw]
                  have h6 : c.2.2 * (c.2.1 - x.toInt) ≤ c.2.2 * (c.2.1 - q.1) := Int.mul_le_mul_of_nonneg_left (by omega) hw
                  omega
                · rw [if_neg hw]
                  have h6 : c.2.2 * (c.2.1 - x.toInt) ≤ c.2.2 * (c.2.1 - q.2) := Int.mul_le_mul_of_nonpos_left (by omega) (by omega)
                  omega
              · cases h
end
section
/-! Calls and ends. A summary: a method, its parameters' types, its answer's type. -/
abbrev ySm : Type := Nat × List yA × Option yA
def yct (a : yA) : Nat := if ylg a then 2 else 1
def ycat (S : yS) : Nat := (S.map fun q => yct q.1).sum
theorem yct_spec {a : yA} {v : Value} (h : yg a v) : v.category = yct a := by
  unfold yg at h
  split at h
  · obtain ⟨x, rfl, -⟩ := h; rfl
  · obtain ⟨x, rfl⟩ := h; rfl
  · obtain ⟨o, rfl, -⟩ := h; rfl
theorem ycat_spec {S : yS} : ∀ {st : List Value} {lv : zL}, ys S st lv → zcat st = ycat S := by
  induction S with
  | nil => intro st lv h; cases st with
    | nil => rfl
    | cons w r => exact h.elim
  | cons q S ih => intro st lv h; cases st with
    | nil => exact h.elim
    | cons w r =>
      obtain ⟨h1, -, h3⟩ := h
      have e := ih h3
      simp only [zcat, ycat] at e
      simp only [zcat, ycat, List.map_cons, List.sum_cons, e, yct_spec h1]
theorem ys_len {S : yS} : ∀ {st : List Value} {lv : zL}, ys S st lv → st.length = S.length := by
  induction S with
  | nil => intro st lv h; cases st with
    | nil => rfl
    | cons w r => exact h.elim
  | cons q S ih => intro st lv h; cases st with
    | nil => exact h.elim
    | cons w r => simp [ih h.2.2]
theorem ys_drop {S : yS} : ∀ {st : List Value} {lv : zL} (n : Nat), ys S st lv → ys (S.drop n) (st.drop n) lv := by
  induction S with
  | nil => intro st lv n h; cases st with
    | nil => simpa using h
    | cons w r => exact h.elim
  | cons q S ih => intro st lv n h; cases st with
    | nil => exact h.elim
    | cons w r => cases n with
      | zero => exact h
      | succ n => exact ih n h.2.2
theorem ys_take {S : yS} : ∀ {st : List Value} {lv : zL} (n : Nat), ys S st lv → ys (S.take n) (st.take n) lv := by
  induction S with
  | nil => intro st lv n h; cases st with
    | nil => simpa using h
    | cons w r => exact h.elim
  | cons q S ih => intro st lv n h; cases st with
    | nil => exact h.elim
    | cons w r => cases n with
      | zero => trivial
      | succ n => exact ⟨h.1, h.2.1, ih n h.2.2⟩
def yfa : List yA → List Value → Prop
  | [], [] => True
  | a :: as, v :: vs => yg a v ∧ yfa as vs
  | _, _ => False
theorem ys_fa {S : yS} : ∀ {st : List Value} {lv : zL}, ys S st lv → yfa (S.map Prod.fst) st := by
  induction S with
  | nil => intro st lv h; cases st with
    | nil => trivial
    | cons w r => exact h.elim
  | cons q S ih => intro st lv h; cases st with
    | nil => exact h.elim
    | cons w r => exact ⟨h.1, ih h.2.2⟩
theorem yfa_app {as : List yA} : ∀ {vs : List Value} {bs : List yA} {ws : List Value}, yfa as vs → yfa bs ws → yfa (as ++ bs) (vs ++ ws) := by
  induction as with
  | nil => intro vs bs ws h k; cases vs with
    | nil => exact k
    | cons w r => exact h.elim
  | cons a as ih => intro vs bs ws h k; cases vs with
    | nil => exact h.elim
    | cons w r => exact ⟨h.1, ih h.2 k⟩
theorem yfa_rev {as : List yA} : ∀ {vs : List Value}, yfa as vs → yfa as.reverse vs.reverse := by
  induction as with
  | nil => intro vs h; cases vs with
    | nil => trivial
    | cons w r => exact h.elim
  | cons a as ih => intro vs h; cases vs with
    | nil => exact h.elim
    | cons w r =>
      rw [List.reverse_cons, List.reverse_cons]
      exact yfa_app (ih h.2) ⟨h.1, trivial⟩
def yles : List yA → List yA → Bool
  | [], [] => true
  | a :: as, b :: bs => yle a b && yles as bs
  | _, _ => false
theorem yles_sound {as : List yA} : ∀ {bs : List yA} {vs : List Value}, yles as bs = true → yfa as vs → yfa bs vs := by
  induction as with
  | nil => intro bs vs h k; cases bs with
    | nil => exact k
    | cons b bs => cases h
  | cons a as ih => intro bs vs h k; cases bs with
    | nil => cases h
    | cons b bs => cases vs with
      | nil => exact k.elim
      | cons w r =>
        simp only [yles, Bool.and_eq_true] at h
        exact ⟨yle_sound h.1 k.1, ih h.2 k.2⟩
/-- a method's locals at its begin -/
def ylargs : Nat → List yA → yL
  | _, [] => []
  | i, a :: as => (i, a) :: ylargs (i + yct a) as
theorem yct_pos (a : yA) : 0 < yct a := by
  unfold yct
  split <;> omega
theorem ylargs_ge {as : List yA} : ∀ {i : Nat} {q : Nat × yA}, q ∈ ylargs i as → i ≤ q.1 := by
  induction as with
  | nil => intro i q h; cases h
  | cons a as ih =>
    intro i q h
    rcases List.mem_cons.mp h with rfl | h
    · exact Nat.le_refl _
    · have := ih h
      omega
theorem yl_args {as : List yA} : ∀ {vs : List Value} {i : Nat}, yfa as vs → yl (ylargs i as) (lv_args i vs) := by
  induction as with
  | nil => intro vs i _ q hq; cases hq
  | cons a as ih =>
    intro vs i h
    cases vs with
    | nil => exact h.elim
    | cons v vs =>
      intro q hq
      have e : lv_args i (v :: vs) = (i, v) :: lv_args (i + yct a) vs := by
        rw [← yct_spec h.1]
        have hc : v.category = 1 ∨ v.category = 2 := by cases v <;> first | exact Or.inl rfl | exact Or.inr rfl
        simp only [lv_args]
        rcases hc with hc | hc <;> simp [hc]
      rw [e]
      rcases List.mem_cons.mp hq with rfl | hq
      · exact ⟨v, zlv_cons, h.1⟩
      · have h1 := ylargs_ge hq
        have h2 := yct_pos a
        obtain ⟨w, h3, h4⟩ := ih h.2 q hq
        exact ⟨w, by rw [zlv_cons_ne (by omega)]; exact h3, h4⟩
/-- the receiver's class -/
def yrc (Tg T : List yC) (v : Value) (as : List yA) : Bool := match v with
  | .ref ci => match as with
    | .inr (.inr os) :: _ => os.all fun o => match yrd Tg T o with
      | some (.inl x) => decide (x.1 = ci)
      | _ => false
    | _ => false
  | _ => true
theorem yrc_sound {Tg T : List yC} {G : List zE} {X : zX} {v : Value} {as : List yA} {vs : List Value} (hg : yMg Tg G) (hM : yM T X.1) (h : yrc Tg T v as = true) (ha : yfa as vs) : zrcv G X v vs = true := by
  unfold yrc at h
  unfold zrcv
  split at h
  · split at h
    · cases vs with
      | nil => exact ha.elim
      | cons w r =>
        obtain ⟨⟨o, e, ho⟩, -⟩ := ha
        subst e
        have h1 := List.all_eq_true.mp h o ho
        split at h1
        · rename_i x hx
          obtain ⟨c, h2, h3⟩ := yrd_sound hg hM hx
          cases c with
          | inl y =>
            have h4 : x.1 = y.1 := h3.1
            simp only [h2]
            rw [← h4]
            exact h1
          | inr y => exact absurd h3 (by intro hh; cases y <;> exact hh)
        · cases h1
    · cases h
  · rename_i hn
    split
    · exact absurd rfl (hn _)
    · rfl
def yro : Option yA → Option Value → Prop
  | none, none => True
  | some a, some v => yg a v
  | _, _ => False
def yrt (i : Instr) (a : Nat) (S : yS) (ro : Option yA) : Bool := match i with
  | .ireturn => match S, ro with
    | [(.inl q, _)], some t => yle (.inl q) t && (decide (a = 0) || (decide (a = 1) && decide (0 ≤ q.1) && decide (q.2 ≤ 1)))
    | _, _ => false
  | .lreturn => match S, ro with
    | [(.inr (.inl _), _)], some (.inr (.inl _)) => true
    | _, _ => false
  | .areturn => match S, ro with
    | [(.inr (.inr os), _)], some t => yle (.inr (.inr os)) t
    | _, _ => false
  | .return_ => match S, ro with
    | [], none => true
    | _, _ => false
  | _ => false
theorem ys_nil {st : List Value} {lv : zL} (h : ys [] st lv) : st = [] := by
  cases st with
  | nil => rfl
  | cons w r => exact h.elim
theorem yrt_sound {i : Instr} {a : Nat} {S : yS} {ro : Option yA} {st : List Value} {lv : zL} (h : yrt i a S ro = true) (hs : ys S st lv) : ∃ r, zret i a st = some r ∧ yro ro r := by
  cases i with
  | ireturn =>
    simp only [yrt] at h
    split at h
    · obtain ⟨x, r, rfl, hx, -, hr⟩ := ys_int hs
      have hr' := ys_nil hr
      subst hr'
      simp only [Bool.and_eq_true, Bool.or_eq_true, decide_eq_true_eq] at h
      refine ⟨some (.int x), ?_, yle_sound h.1 (yg_int hx)⟩
      simp only [zret]
      rw [if_pos]
      rcases h.2 with h2 | h2
      · exact Or.inl h2
      · obtain ⟨h3, h4⟩ := hx
        exact Or.inr (Or.inl ⟨h2.1.1, y_01 (by omega) (by omega)⟩)
    · cases h
  | lreturn =>
    simp only [yrt] at h
    split at h
    · obtain ⟨x, r, rfl, hr⟩ := ys_long hs
      have hr' := ys_nil hr
      subst hr'
      exact ⟨_, rfl, x, rfl⟩
    · cases h
  | areturn =>
    simp only [yrt] at h
    split at h
    · obtain ⟨x, r, rfl, hx, -, hr⟩ := ys_ref hs
      have hr' := ys_nil hr
      subst hr'
      exact ⟨_, rfl, yle_sound h (yg_r hx)⟩
    · cases h
  | return_ =>
    simp only [yrt] at h
    split at h
    · have hr' := ys_nil hs
      subst hr'
      exact ⟨_, rfl, trivial⟩
    · cases h
  | _ => cases h
def yj (b : Nat) (S : yS) : Option yS := match b with
  | 1 => match S with
    | (.inl y, _) :: (.inl x, _) :: r => some ((.inl (ymax x.1 y.1, ymax x.2 y.2), 0) :: r)
    | _ => none
  | 2 => match S with
    | (.inl y, _) :: (.inl x, _) :: r => some ((.inl (ymin x.1 y.1, ymin x.2 y.2), 0) :: r)
    | _ => none
  | _ => none
theorem yj_sound {b : Nat} {S S' : yS} {st : List Value} {lv : zL} {X : zX} (h : yj b S = some S') (hs : ys S st lv) : ∃ q, zd b st X = some (q, X) ∧ ys S' q lv := by
  unfold yj at h
  split at h
  · split at h
    · cases h
      obtain ⟨y, r, rfl, ⟨h1, h2⟩, -, hs⟩ := ys_int hs
      obtain ⟨x, r, rfl, ⟨h3, h4⟩, -, hs⟩ := ys_int hs
      refine ⟨_, rfl, ys_0 (yg_int ?_) hs⟩
      simp only [yin, ymax, y_lt]
      constructor <;> (repeat' split) <;> omega
    · cases h
  · split at h
    · cases h
      obtain ⟨y, r, rfl, ⟨h1, h2⟩, -, hs⟩ := ys_int hs
      obtain ⟨x, r, rfl, ⟨h3, h4⟩, -, hs⟩ := ys_int hs
      refine ⟨_, rfl, ys_0 (yg_int ?_) hs⟩
      simp only [yin, ymin, y_lt]
      constructor <;> (repeat' split) <;> omega
    · cases h
  · cases h
/-! What a method leaves alone: all places but those of W. -/
def yF (W : List Nat) (M M' : List zE) : Prop := ∀ k : Nat, ¬ (k + 50) ∈ W → M'[k]? = M[k]?
def yP (W : List Nat) (X0 X : zX) : Prop := X.2 = X0.2 ∧ yF W X0.1 X.1
theorem yF_set {W : List Nat} {M : List zE} {o : Nat} {c : zE} (ho : ¬ o < 50) (hW : o ∈ W) : yF W M (M.set (o - 50) c) := by
  intro k hk
  refine List.getElem?_set_ne fun e => hk ?_
  have e2 : k + 50 = o := by omega
  rw [e2]
  exact hW
theorem yP_0 (W : List Nat) (X : zX) : yP W X X := ⟨rfl, fun _ _ => rfl⟩
theorem yP_t {W : List Nat} {X0 X1 X2 : zX} (h : yP W X0 X1) (k : X2.2 = X1.2) (k2 : yF W X1.1 X2.1) : yP W X0 X2 := ⟨k.trans h.1, fun j hj => (k2 j hj).trans (h.2 j hj)⟩
def ywr (W : List Nat) (i : Instr) (S : yS) : Bool := match i with
  | .putfield _ => match S with
    | _ :: (.inr (.inr os), _) :: _ => os.all fun o => W.elem o
    | _ => false
  | .iastore | .bastore | .lastore => match S with
    | _ :: _ :: (.inr (.inr os), _) :: _ => os.all fun o => W.elem o
    | _ => false
  | _ => false
theorem ywr_mem {W os : List Nat} {o : Nat} (h : (os.all fun o => W.elem o) = true) (ho : o ∈ os) : o ∈ W := List.elem_iff.mp (List.all_eq_true.mp h o ho)
theorem ys_tail {q : yA × Nat} {S : yS} {v : Value} {st : List Value} {lv : zL} (h : ys (q :: S) (v :: st) lv) : ys S st lv := h.2.2
theorem ywr_sound {W : List Nat} {df : Nat → List Value} {i : Instr} {a b c : Nat} {S : yS} {st : List Value} {lv : zL} {X : zX} {q : Nat × List Value × zX} (hw : ywr W i S = true) (hs : ys S st lv) (hz : zc df i a b c st X = some q) : yF W X.1 q.2.2.1 := by
  cases i with
  | putfield z =>
    simp only [ywr] at hw
    simp only [zc] at hz
    split at hz
    · split at hz
      · cases hz
      · rename_i ho
        split at hz
        · split at hz
          · cases hz
            split at hw
            · obtain ⟨o', r', e, h1, -, -⟩ := ys_ref (ys_tail hs)
              cases e
              exact yF_set ho (ywr_mem hw h1)
            · cases hw
          · cases hz
        · cases hz
    · cases hz
  | iastore =>
    simp only [ywr] at hw
    simp only [zc] at hz
    split at hz
    · split at hz
      · cases hz
      · rename_i ho
        split at hz
        · split at hz
          · cases hz
            split at hw
            · obtain ⟨o', r', e, h1, -, -⟩ := ys_ref (ys_tail (ys_tail hs))
              cases e
              exact yF_set ho (ywr_mem hw h1)
            · cases hw
          · cases hz
        · cases hz
    · cases hz
  | bastore =>
    simp only [ywr] at hw
    simp only [zc] at hz
    split at hz
    · split at hz
      · cases hz
      · rename_i ho
        split at hz
        · split at hz
          · cases hz
            split at hw
            · obtain ⟨o', r', e, h1, -, -⟩ := ys_ref (ys_tail (ys_tail hs))
              cases e
              exact yF_set ho (ywr_mem hw h1)
            · cases hw
          · cases hz
        · cases hz
    · cases hz
  | lastore =>
    simp only [ywr] at hw
    simp only [zc] at hz
    split at hz
    · split at hz
      · cases hz
      · rename_i ho
        split at hz
        · split at hz
          · cases hz
            split at hw
            · obtain ⟨o', r', e, h1, -, -⟩ := ys_ref (ys_tail (ys_tail hs))
              cases e
              exact yF_set ho (ywr_mem hw h1)
            · cases hw
          · cases hz
        · cases hz
    · cases hz
  | _ => cases hw
/-! arraycopy, between arrays of one run each -/
def ycp (T : List yC) (n dp sp : Int × Int) (d q : Nat) : Bool := decide (50 ≤ d) && (decide (50 ≤ q) && (decide (d ≠ q) && (match T[d - 50]?, T[q - 50]? with
  | some (.inr (.inl (0, [x]))), some (.inr (.inl (0, [y]))) => decide (sp.2 + n.2 ≤ (y.1 : Int) ∧ dp.2 + n.2 ≤ (x.1 : Int) ∧ x.2.1 ≤ y.2.1 ∧ y.2.2 ≤ x.2.2)
  | _, _ => false)))
def yj3 (W : List Nat) (T : List yC) (b : Nat) (S : yS) : Option yS := match b with
  | 3 => match S with
    | (.inl n, _) :: (.inl dp, _) :: (.inr (.inr ds), _) :: (.inl sp, _) :: (.inr (.inr qs), _) :: r =>
      if (0 ≤ n.1 ∧ 0 ≤ dp.1 ∧ 0 ≤ sp.1) ∧ (ds.all fun d => W.elem d && qs.all fun q => ycp T n dp sp d q) = true then some r else none
    | _ => none
  | _ => none
theorem yok_run {x : Nat × Int × Int} {xs : List Int32} (h : yok (.inr (.inl (0, [x]))) (.inr (.inl (0, xs)))) : xs.length = x.1 ∧ ∀ z ∈ xs, yin x.2 z := by
  obtain ⟨-, h2, h3⟩ := h
  have h2' : xs.length = x.1 := by simpa [ysum] using h2
  refine ⟨h2', fun z hz => ?_⟩
  obtain ⟨j, hj, e⟩ := List.getElem_of_mem hz
  refine h3 j x.2 z ?_ (by rw [List.getElem?_eq_getElem hj, e])
  simp only [yat]
  rw [if_pos (by omega)]
theorem yok_mk {x : Nat × Int × Int} {xs : List Int32} (h : xs.length = x.1) (h2 : ∀ z ∈ xs, yin x.2 z) : yok (.inr (.inl (0, [x]))) (.inr (.inl (0, xs))) := by
  refine ⟨rfl, by simpa [ysum] using h, fun j q z hq hz => ?_⟩
  have hq' : yat [x] j = some q := hq
  simp only [yat] at hq'
  split at hq'
  · cases hq'
    exact h2 z (List.mem_of_getElem? hz)
  · cases hq'
theorem y_cl {x : Int32} (h : 0 ≤ x.toInt) : ¬ x < 0 ∧ (x.toNatClampNeg : Int) = x.toInt := by
  have e : x.toNatClampNeg = x.toInt.toNat := rfl
  refine ⟨fun hh => ?_, by rw [e]; omega⟩
  have := y_lt.mp hh
  have e0 : (0 : Int32).toInt = 0 := rfl
  omega
theorem yj3_sound {W : List Nat} {T : List yC} {b : Nat} {S S' : yS} {st : List Value} {lv : zL} {X : zX} (hM : yM T X.1) (h : yj3 W T b S = some S') (hs : ys S st lv) : ∃ q, zd b st X = some q ∧ ys S' q.1 lv ∧ yM T q.2.1 ∧ q.2.2 = X.2 ∧ yF W X.1 q.2.1 := by
  unfold yj3 at h
  split at h
  · split at h
    · split at h
      · rename_i n _ dp _ ds _ sp _ qs _ r hc
        cases h
        obtain ⟨vn, r1, rfl, ⟨n1, n2⟩, -, hs⟩ := ys_int hs
        obtain ⟨vd, r2, rfl, ⟨d1, d2⟩, -, hs⟩ := ys_int hs
        obtain ⟨d, r3, rfl, hd, -, hs⟩ := ys_ref hs
        obtain ⟨vs, r4, rfl, ⟨s1, s2⟩, -, hs⟩ := ys_int hs
        obtain ⟨q, r5, rfl, hq, -, hs⟩ := ys_ref hs
        have hk0 := List.all_eq_true.mp hc.2 d hd
        simp only [Bool.and_eq_true] at hk0
        have hk := List.all_eq_true.mp hk0.2 q hq
        simp only [ycp, Bool.and_eq_true, decide_eq_true_eq] at hk
        obtain ⟨k1, k2, k3, k4⟩ := hk
        split at k4
        · rename_i x y hx hy
          have k5 := of_decide_eq_true k4
          obtain ⟨cx, x1, x2⟩ := hM.2 _ _ hx
          obtain ⟨cy, y1, y2⟩ := hM.2 _ _ hy
          match cx, x1, x2 with
          | .inl _, _, x2 => exact x2.elim
          | .inr (.inr (.inl _)), _, x2 => exact x2.elim
          | .inr (.inr (.inr _)), _, x2 => exact x2.elim
          | .inr (.inl (kx, xs)), x1, x2 =>
            match cy, y1, y2 with
            | .inl _, _, y2 => exact y2.elim
            | .inr (.inr (.inl _)), _, y2 => exact y2.elim
            | .inr (.inr (.inr _)), _, y2 => exact y2.elim
            | .inr (.inl (ky, ys')), y1, y2 =>
              have ekx : kx = 0 := x2.1.symm
              have eky : ky = 0 := y2.1.symm
              subst ekx
              subst eky
              obtain ⟨lx, ex⟩ := yok_run x2
              obtain ⟨ly, ey⟩ := yok_run y2
              obtain ⟨cn1, cn2⟩ := y_cl (x := vn) (by omega)
              obtain ⟨cd1, cd2⟩ := y_cl (x := vd) (by omega)
              obtain ⟨cs1, cs2⟩ := y_cl (x := vs) (by omega)
              have g1 : vs.toNatClampNeg + vn.toNatClampNeg ≤ ys'.length := by omega
              have g2 : vd.toNatClampNeg + vn.toNatClampNeg ≤ xs.length := by omega
              refine ⟨(r5, zput X d (.inr (.inl (0, xs.take vd.toNatClampNeg ++ (ys'.drop vs.toNatClampNeg).take vn.toNatClampNeg ++ xs.drop (vd.toNatClampNeg + vn.toNatClampNeg))))), ?_, hs, ?_, rfl, yF_set (by omega) (List.elem_iff.mp hk0.1)⟩
              · simp only [zd]
                have hne : ¬ (d < 50 ∨ q < 50 ∨ d = q) := by
                  intro hh
                  rcases hh with hh | hh | hh
                  · exact absurd k1 (Nat.not_le.mpr hh)
                  · exact absurd k2 (Nat.not_le.mpr hh)
                  · exact k3 hh
                rw [if_neg hne]
                simp only [x1, y1]
                rw [if_pos ⟨cn1, cs1, cd1, g1, g2⟩]
              · refine yM_set hM hx (yok_mk ?_ fun z hz => ?_)
                · simp only [List.length_append, List.length_take, List.length_drop]
                  omega
                · rcases List.mem_append.mp hz with hz | hz
                  · rcases List.mem_append.mp hz with hz | hz
                    · exact ex z (List.mem_of_mem_take hz)
                    · obtain ⟨w1, w2⟩ := ey z (List.mem_of_mem_drop (List.mem_of_mem_take hz))
                      exact ⟨by omega, by omega⟩
                  · exact ex z (List.mem_of_mem_drop hz)
        · cases k4
      · cases h
    · cases h
  · cases h
end
section
/-! One step of the checker. -/
/-- the methods that may throw -/
def yth (mi : Nat) : Bool := [64, 86, 87, 107, 108, 126, 131, 137, 138, 143, 146, 154, 169, 173].elem mi
def yex (x : Nat) : Bool := [100, 101, 102].elem x
def yQ (W : List Nat) (T : List yC) (mi : Nat) (ro : Option yA) (X0 : zX) (o : zO) (X : zX) : Prop := match o with
  | .inl r => yro ro r ∧ yM T X.1 ∧ yP W X0 X
  | .inr x => yth mi = true ∧ yex x = true ∧ yM T X.1 ∧ yF W X0.1 X.1 ∧ X.2 = (X0.2.1 + 1, X0.2.2 + 6)
def yV (W : List Nat) (t : zT) (G : List zE) (T : List yC) (s : ySm) : Prop := ∀ (vs : List Value) (X : zX), yfa s.2.1 vs → yM T X.1 → zwp t G s.1 0 (lv_args 0 vs) [] X (yQ W T s.1 s.2.2 X)
def yto (q : Int × Int) (pc p : Nat) (L : yL) (r : yS) : Int → List Int → Option (List yN)
  | _, [] => some []
  | k, o :: os => match ztgt pc o, yto q pc p L r (k + 1) os with
    | some t, some l => some (if q.1 ≤ k ∧ k ≤ q.2 then (t, yset p (.inl (k, k)) L, r) :: l else l)
    | _, _ => none
theorem yto_spec {q : Int × Int} {pc p : Nat} {L : yL} {r : yS} : ∀ {os : List Int} {k : Int} {l : List yN} {j : Nat} {o : Int}, yto q pc p L r k os = some l → os[j]? = some o → q.1 ≤ k + j → k + j ≤ q.2 → ∃ t, ztgt pc o = some t ∧ (t, yset p (.inl (k + j, k + j)) L, r) ∈ l := by
  intro os
  induction os with
  | nil => intro k l j o _ h; simp at h
  | cons a os ih =>
    intro k l j o h hj h1 h2
    simp only [yto] at h
    split at h
    · rename_i t l' ht hl
      cases h
      cases j with
      | zero =>
        simp only [List.getElem?_cons_zero, Option.some.injEq] at hj
        subst hj
        refine ⟨t, ht, ?_⟩
        rw [if_pos (by constructor <;> omega)]
        have e : k + ((0 : Nat) : Int) = k := by omega
        rw [e]
        exact List.mem_cons_self
      | succ j =>
        rw [List.getElem?_cons_succ] at hj
        obtain ⟨t', h3, h4⟩ := ih hl hj (by omega) (by omega)
        have e : k + ((j + 1 : Nat) : Int) = k + 1 + (j : Int) := by omega
        rw [e]
        refine ⟨t', h3, ?_⟩
        split
        · exact List.mem_cons_of_mem _ h4
        · exact h4
    · cases h
def ysw (i : Instr) (pc : Nat) (L : yL) (S : yS) : Option (List yN) := match i with
  | .tableswitch d lo hi os => match S with
    | (.inl q, p) :: r => if os.toList.length = (hi + 1 - lo).toNat then match ztgt pc d, yto q pc p L r lo os.toList with
      | some t, some l => some (if q.1 < lo ∨ hi < q.2 then (t, (if lo ≤ q.1 then yset p (.inl (ymax q.1 (hi + 1), q.2)) L else L), r) :: l else l)
      | _, _ => none
      else none
    | _ => none
  | _ => none
theorem ysw_sound {i : Instr} {v : Value} {nL pc : Nat} {L : yL} {S : yS} {ss : List yN} {lv : zL} {st : List Value} (h : ysw i pc L S = some ss) (hl : yl L lv) (hs : ys S st lv) :
    ∃ q, za i v nL pc lv st = some q ∧ q.2.1 = lv ∧ ∃ s ∈ ss, s.1 = q.1 ∧ yl s.2.1 lv ∧ ys s.2.2 q.2.2 lv := by
  cases i with
  | tableswitch d lo hi os =>
    simp only [ysw] at h
    split at h
    · rename_i q p r
      split at h
      · rename_i hlen
        split at h
        · rename_i t l ht hto
          cases h
          obtain ⟨x, w, rfl, ⟨h1, h2⟩, hp, hr⟩ := ys_int hs
          by_cases hx : x.toInt < lo ∨ hi < x.toInt
          · have hd : yl (if lo ≤ q.1 then yset p (.inl (ymax q.1 (hi + 1), q.2)) L else L) lv := by
              split
              · refine yl_set hl hp (yg_int ⟨?_, h2⟩)
                simp only [ymax]
                split <;> omega
              · exact hl
            refine ⟨(t, lv, w), ?_, rfl, (t, (if lo ≤ q.1 then yset p (.inl (ymax q.1 (hi + 1), q.2)) L else L), r), ?_, rfl, hd, hr⟩
            · simp only [za]
              rw [if_pos hx]
              simp only [ht]
            · rw [if_pos (by omega)]
              exact List.mem_cons_self
          · have hj : (x.toInt - lo).toNat < os.toList.length := by omega
            have e : lo + (((x.toInt - lo).toNat : Nat) : Int) = x.toInt := by omega
            obtain ⟨t', h3, h4⟩ := yto_spec hto (List.getElem?_eq_getElem hj) (by omega) (by omega)
            rw [e] at h4
            refine ⟨(t', lv, w), ?_, rfl, (t', yset p (.inl (x.toInt, x.toInt)) L, r), ?_, rfl, yl_set hl hp (yg_c x), hr⟩
            · simp only [za]
              rw [if_neg hx, ← Array.getElem?_toList, List.getElem?_eq_getElem hj]
              simp only [h3]
            · split
              · exact List.mem_cons_of_mem _ h4
              · exact h4
        · cases h
      · cases h
    · cases h
  | _ => cases h
def ysm : List ySm → Nat → List yA → Option (Option yA)
  | [], _, _ => none
  | s :: r, b, as => if s.1 = b ∧ yles as s.2.1 = true then some s.2.2 else ysm r b as
theorem ysm_spec {Sm : List ySm} {b : Nat} {as : List yA} {ro : Option yA} (h : ysm Sm b as = some ro) : ∃ s ∈ Sm, s.1 = b ∧ yles as s.2.1 = true ∧ s.2.2 = ro := by
  induction Sm with
  | nil => cases h
  | cons s r ih =>
    simp only [ysm] at h
    split at h
    · rename_i hc
      cases h
      exact ⟨s, List.mem_cons_self, hc.1, hc.2, rfl⟩
    · obtain ⟨u, h1, h2⟩ := ih h
      exact ⟨u, List.mem_cons_of_mem _ h1, h2⟩
/-- a callee that may throw: only in a method that may throw, with no handler there -/
def yhb (hn : Nat → Nat → Nat → Option Nat) (mi pc b : Nat) : Bool := !yth b || (yth mi && [100, 101, 102].all fun x => (hn mi pc x).isNone)
theorem yhb_spec {hn : Nat → Nat → Nat → Option Nat} {mi pc b x : Nat} (h : yhb hn mi pc b = true) (hb : yth b = true) (hx : yex x = true) : yth mi = true ∧ hn mi pc x = none := by
  simp only [yhb, hb, Bool.not_true, Bool.false_or, Bool.and_eq_true] at h
  exact ⟨h.1, by simpa using List.all_eq_true.mp h.2 x (List.elem_iff.mp hx)⟩
theorem yex_ge {x : Nat} (h : yex x = true) : 100 ≤ x := by
  have := List.elem_iff.mp h
  simp at this
  omega
/-! What is known of single fields: place, class, field, interval. -/
abbrev yO : Type := List (Nat × Nat × Nat × Int × Int)
def yo (O : yO) (M : List zE) : Prop := ∀ e ∈ O, 50 ≤ e.1 ∧ ∃ (fs : List Value) (x : Int32), M[e.1 - 50]? = some (.inl (e.2.1, fs)) ∧ fs[e.2.2.1]? = some (.int x) ∧ e.2.2.2.1 ≤ x.toInt ∧ x.toInt ≤ e.2.2.2.2
def yog (i : Instr) (a b : Nat) (S : yS) (O : yO) : Option yS := match i, S with
  | .getfield _, (.inr (.inr [o]), _) :: r => match O.find? (fun e => e.1 == o && (e.2.1 == a && e.2.2.1 == b)) with
    | some e => some ((.inl e.2.2.2, 0) :: r)
    | none => none
  | _, _ => none
theorem yog_sound {G : List zE} {i : Instr} {a b : Nat} {S S' : yS} {O : yO} {st : List Value} {lv : zL} {X : zX} (h : yog i a b S O = some S') (hO : yo O X.1) (hs : ys S st lv) : ∃ q, zb G i a b st X = some (3, q) ∧ ys S' q lv := by
  unfold yog at h
  split at h
  · rename_i o p r
    split at h
    · rename_i e he
      cases h
      have hm := List.mem_of_find?_eq_some he
      have hp := List.find?_some he
      simp only [Bool.and_eq_true, beq_iff_eq] at hp
      obtain ⟨h50, fs, x, h1, h2, h3, h4⟩ := hO e hm
      cases st with
      | nil => exact hs.elim
      | cons v st =>
        obtain ⟨⟨o', rfl, ho'⟩, -, h5⟩ := hs
        have ho : o' = o := by simpa using ho'
        subst ho
        rw [hp.1, hp.2.1] at h1
        rw [hp.2.2] at h2
        have hlt : ¬ o' < 50 := Nat.not_lt.mpr (hp.1 ▸ h50)
        refine ⟨.int x :: st, ?_, ys_0 ⟨x, rfl, h3, h4⟩ h5⟩
        simp only [zb, zrd, if_neg hlt, h1, if_true, h2]
    · cases h
  · cases h
def yov1 (a b : Nat) (S : yS) (O : yO) : yO := match S with
  | (x, _) :: (.inr (.inr os), _) :: _ => match x, os with
    | .inl q, [o] => (o, a, b, q) :: O.filter fun e => !(e.1 == o && e.2.2.1 == b)
    | _, _ => O.filter fun e => !(os.elem e.1 && e.2.2.1 == b)
  | _ => []
/-- what is known behind an instruction; kp m c f: method m leaves field f of class c alone -/
def yov (kp : Nat → Nat → Nat → Bool) (i : Instr) (a b : Nat) (S : yS) (O : yO) : yO := match zki i with
  | 2 => if a = 0 then O.filter fun e => kp b e.2.1 e.2.2.1 else O
  | _ => match i with
    | .putfield _ => yov1 a b S O
    | _ => O
theorem za_ov {kp : Nat → Nat → Nat → Bool} {i : Instr} {v : Value} {a b nL pc : Nat} {lv : zL} {st : List Value} {q : Nat × zL × List Value} {S : yS} {O : yO} (h : za i v nL pc lv st = some q) : yov kp i a b S O = O := by
  cases i <;> first | (simp [za] at h; done) | rfl
theorem zb_ov {kp : Nat → Nat → Nat → Bool} {G : List zE} {i : Instr} {a b : Nat} {st : List Value} {X : zX} {q : Nat × List Value} {S : yS} {O : yO} (h : zb G i a b st X = some q) : yov kp i a b S O = O := by
  cases i <;> first | (simp [zb] at h; done) | rfl
theorem yo_keep {l : List (Nat × Nat)} {M M' : List zE} {O : yO} (h : zkeep l M M') (hO : yo O M) (hl : ∀ e ∈ O, ¬ (e.2.1, e.2.2.1) ∈ l) : yo O M' := by
  intro e he
  obtain ⟨h50, fs, x, h1, h2, h3, h4⟩ := hO e he
  obtain ⟨fs', k1, k2⟩ := h _ _ _ h1
  exact ⟨h50, fs', x, k1, (k2 _ (hl e he)).trans h2, h3, h4⟩
theorem yo_f {O : yO} {M : List zE} {P : (Nat × Nat × Nat × Int × Int) → Bool} (h : yo O M) : yo (O.filter P) M := fun e he => h e (List.mem_filter.mp he).1
theorem yo_put {O : yO} {M : List zE} {o a b : Nat} {fs : List Value} {v : Value} (h : yo O M) (ho : ¬ o < 50) (hc : M[o - 50]? = some (.inl (a, fs))) (hn : ∀ e ∈ O, ¬ (e.1 = o ∧ e.2.2.1 = b)) : yo O (M.set (o - 50) (.inl (a, fs.set b v))) := by
  intro e he
  obtain ⟨h50, gs, x, h1, h2, h3, h4⟩ := h e he
  by_cases hk : o = e.1
  · have hk' : o - 50 = e.1 - 50 := by rw [hk]
    have hb : b ≠ e.2.2.1 := fun hb => hn e he ⟨hk.symm, hb.symm⟩
    rw [← hk'] at h1
    cases hc.symm.trans h1
    refine ⟨h50, fs.set b v, x, ?_, by rw [List.getElem?_set_ne hb]; exact h2, h3, h4⟩
    rw [← hk', List.getElem?_set_self (List.getElem?_eq_some_iff.mp hc).1]
  · have hk' : o - 50 ≠ e.1 - 50 := by omega
    exact ⟨h50, gs, x, by rw [List.getElem?_set_ne hk']; exact h1, h2, h3, h4⟩
theorem zc_ov {kp : Nat → Nat → Nat → Bool} {df : Nat → List Value} {i : Instr} {a b c : Nat} {st : List Value} {lv : zL} {X : zX} {q : Nat × List Value × zX} {S : yS} {O : yO} (h : zc df i a b c st X = some q) (hs : ys S st lv) (hO : yo O X.1) : yo (yov kp i a b S O) q.2.2.1 := by
  by_cases hp : ∃ k, i = .putfield k
  · obtain ⟨k, rfl⟩ := hp
    simp only [zc] at h
    split at h
    · rename_i v o r
      split at h
      · cases h
      · rename_i ho
        split at h
        · rename_i ci fs hx
          split at h
          · rename_i hc
            cases h
            obtain ⟨rfl, hb, -⟩ := hc
            have e0 : yov kp (.putfield k) ci b S O = yov1 ci b S O := rfl
            rw [e0]
            show yo _ (X.1.set (o - 50) (.inl (ci, fs.set b v)))
            unfold yov1
            split
            · rename_i x p os p2 S'
              obtain ⟨hx1, -, ⟨o', e1, ho'⟩, -, -⟩ := hs
              cases e1
              split
              · rename_i qq o2
                have e2 : o = o2 := by simpa using ho'
                subst e2
                intro e he
                rcases List.mem_cons.mp he with rfl | he
                · obtain ⟨z, rfl, h1, h2⟩ := hx1
                  refine ⟨Nat.not_lt.mp ho, fs.set b (.int z), z, ?_, ?_, h1, h2⟩
                  · dsimp only
                    rw [List.getElem?_set_self (List.getElem?_eq_some_iff.mp hx).1]
                  · dsimp only
                    rw [List.getElem?_set_self hb]
                · refine yo_put (yo_f hO) ho hx (fun e he => ?_) e he
                  have h3 := (List.mem_filter.mp he).2
                  intro ⟨h4, h5⟩
                  rw [h4, h5] at h3
                  simp at h3
              · refine yo_put (yo_f hO) ho hx fun e he => ?_
                have h3 := (List.mem_filter.mp he).2
                intro ⟨h4, h5⟩
                rw [h4, h5, List.elem_iff.mpr ho'] at h3
                simp at h3
            · intro e he; cases he
          · cases h
        · cases h
    · cases h
  · have e0 : yov kp i a b S O = O := by
      cases i <;> first | (simp [zc] at h; done) | rfl | (exfalso; exact hp ⟨_, rfl⟩)
    rw [e0]
    have hw : zwi i a b [] = true := by
      cases i <;> first | rfl | (exfalso; exact hp ⟨_, rfl⟩)
    exact yo_keep (zc_keep h hw) hO (fun e _ he => by cases he)
theorem zj_ov {kp : Nat → Nat → Nat → Bool} {i : Instr} {a b : Nat} {st : List Value} {X : zX} {q : List Value × zX} {S : yS} {O : yO} (hk : zki i = 2) (ha : a = 1) (h : zd b st X = some q) (hO : yo O X.1) : yo (yov kp i a b S O) q.2.1 := by
  have e : yov kp i a b S O = O := by
    unfold yov
    rw [hk]
    exact if_neg (by omega)
  rw [e]
  exact yo_keep (l := []) (zd_keep h) hO (fun e _ he => by cases he)
/-- an answer that there is none of: the method never returns -/
def yemp (ro : Option yA) : Bool := match ro with
  | some (.inl q) => decide (q.2 < q.1)
  | _ => false
theorem yemp_spec {ro : Option yA} {r : Option Value} (h : yemp ro = true) (hr : yro ro r) : False := by
  unfold yemp at h
  split at h
  · rename_i q
    cases r with
    | none => exact hr
    | some v =>
      obtain ⟨x, -, h1, h2⟩ := hr
      have := of_decide_eq_true h
      omega
  · cases h
def ynx (W : List Nat) (cd : Nat → Nat → Option zI) (nl : Nat → Nat) (hn : Nat → Nat → Nat → Option Nat) (Tg T : List yC) (Sm : List ySm) (ro : Option yA) (mi pc : Nat) (i : Instr) (a b c : Nat) (v : Value) (L : yL) (S : yS) (O : yO) : Option (List yN) := match yog i a b S O with
  | some S' => some [(pc + 3, L, S')]
  | none => match ysw i pc L S with
  | some ss => some ss
  | none => match ya i v (nl mi) pc L S with
    | some ss => some ss
    | none => match yb Tg T i a b S with
      | some w => some [(pc + w.1, L, w.2)]
      | none => match yc T i a b c S with
        | some w => if ywr W i S = true then some [(pc + w.1, L, w.2)] else none
        | none => if yrt i a S ro = true then some [] else if zki i = 2 then
            (if a = 1 then match yj b S with
              | some S' => if ycat S' ≤ 8 then some [(pc + 3, L, S')] else none
              | none => match yj3 W T b S with
                | some S' => if ycat S' ≤ 8 then some [(pc + 3, L, S')] else none
                | none => none
            else if a = 0 ∧ c ≤ S.length ∧ ycat (S.drop c) ≤ 8 ∧ ycat (S.take c) ≤ nl b ∧ yrc Tg T v ((S.take c).map Prod.fst).reverse = true then
              match ysm Sm b ((S.take c).map Prod.fst).reverse with
              | some ro' => if yhb hn mi pc b = true then (if yemp ro' = true then some [] else some [(pc + 3, L, (ro'.toList.map fun u => (u, 0)) ++ S.drop c)]) else none
              | none => none
            else none)
          else if zki i = 1 ∧ yth mi = true ∧ yex a = true ∧ zthr cd mi pc a = true ∧ ycat S ≤ 4 then some [] else none
theorem zb_za {G : List zE} {i : Instr} {a b nL pc : Nat} {v : Value} {lv : zL} {st : List Value} {X : zX} {q : Nat × List Value} (h : zb G i a b st X = some q) : za i v nL pc lv st = none ∧ ∀ D, yupd i D = D := by
  cases i <;> first | (simp [zb] at h; done) | exact ⟨rfl, fun _ => rfl⟩
theorem zc_za {G : List zE} {df : Nat → List Value} {i : Instr} {a b c nL pc : Nat} {v : Value} {lv : zL} {st : List Value} {X : zX} {q : Nat × List Value × zX} (h : zc df i a b c st X = some q) : za i v nL pc lv st = none ∧ zb G i a b st X = none ∧ ∀ D, yupd i D = D := by
  cases i <;> first | (simp [zc] at h; done) | exact ⟨rfl, rfl, fun _ => rfl⟩
theorem zk_za {G : List zE} {df : Nat → List Value} {i : Instr} {a b c nL pc : Nat} {v : Value} {lv : zL} {st : List Value} {X : zX} (h : zki i = 2) : za i v nL pc lv st = none ∧ zb G i a b st X = none ∧ zc df i a b c st X = none ∧ zret i a st = none ∧ ∀ D, yupd i D = D := by
  cases i <;> first | (simp [zki] at h; done) | exact ⟨rfl, rfl, rfl, rfl, fun _ => rfl⟩
theorem zr_za {G : List zE} {df : Nat → List Value} {i : Instr} {a b c nL pc : Nat} {v : Value} {lv : zL} {st : List Value} {X : zX} {r : Option Value} (h : zret i a st = some r) : za i v nL pc lv st = none ∧ zb G i a b st X = none ∧ zc df i a b c st X = none := by
  cases i <;> first | (simp [zret] at h; done) | exact ⟨rfl, rfl, rfl⟩
theorem zn_za {G : List zE} {df : Nat → List Value} {i : Instr} {a b c nL pc : Nat} {v : Value} {lv : zL} {st : List Value} {X : zX} (h : zki i = 1) (ha : 100 ≤ a) : za i v nL pc lv st = none ∧ zb G i a b st X = none ∧ zc df i a b c st X = none ∧ zret i a st = none := by
  have hn : ¬ (X.1.length = X.2.1 ∧ a < 100) := by omega
  cases i <;> first | (simp [zki] at h; done) | exact ⟨rfl, rfl, if_neg hn, rfl⟩
theorem ys_ret {ro : Option yA} {r : Option Value} {S : yS} {st : List Value} {lv : zL} (h : yro ro r) (hs : ys S st lv) : ys ((ro.toList.map fun u => (u, 0)) ++ S) (r.toList ++ st) lv := by
  cases ro with
  | none => cases r with
    | none => exact hs
    | some v => exact h.elim
  | some a => cases r with
    | none => exact h.elim
    | some v => exact ys_0 h hs
theorem ynx_sound {W : List Nat} {t : zT} {G : List zE} {cd : Nat → Nat → Option zI} {nl : Nat → Nat} {hn : Nat → Nat → Nat → Option Nat} {Tg T : List yC} {Sm : List ySm} {ro : Option yA} {mi pc : Nat} {i : Instr} {a b c : Nat} {v : Value} {L : yL} {S : yS} {O : yO} {kp : Nat → Nat → Nat → Bool} {ss : List yN} {lv : zL} {st : List Value} {X0 X : zX}
    (hkp : ∀ (m ci f : Nat), kp m ci f = true → ∀ (n : Nat) (lv : zL) (X : zX) (r : zO × zX), zev (zcd t) (znl t) (zdf t) (zhn t) G n m 0 lv [] X = some r → ∀ (k : Nat) (fs : List Value), X.1[k]? = some (.inl (ci, fs)) → ∃ fs', r.2.1[k]? = some (.inl (ci, fs')) ∧ fs'[f]? = fs[f]?) (hO : yo O X.1) (hsb : ∀ mi pc q, cd mi pc = some q → zcd t mi pc = some q) (hnl : znl t = nl) (hhn : zhn t = hn) (hg : yMg Tg G) (hM : yM T X.1) (h0 : yP W X0 X) (hS : ∀ s ∈ Sm, yV W t G T s) (hcd : zcd t mi pc = some (i, a, b, c, v)) (h : ynx W cd nl hn Tg T Sm ro mi pc i a b c v L S O = some ss) (hl : yl L lv) (hs : ys S st lv)
    (k : ∀ s ∈ ss, ∀ (lv' : zL) (st' : List Value) (X' : zX), yl s.2.1 lv' → ys s.2.2 st' lv' → yM T X'.1 → yP W X0 X' → yo (yov kp i a b S O) X'.1 → (∀ (D : List (Nat × Int)) (lv0 : zL), yir i L D = true → yD D lv0 lv → yD (yupd i D) lv0 lv') → zwp t G mi s.1 lv' st' X' (yQ W T mi ro X0)) :
    zwp t G mi pc lv st X (yQ W T mi ro X0) := by
  subst hnl
  subst hhn
  unfold ynx at h
  split at h
  · rename_i S' hog
    cases h
    obtain ⟨q, h1, h3⟩ := yog_sound (G := G) hog hO hs
    obtain ⟨z1, z2⟩ := zb_za (v := v) (nL := znl t mi) (pc := pc) (lv := lv) h1
    have hz : zstp t G mi pc lv st X = some (pc + 3, lv, q, X) := by
      unfold zstp
      simp only [hcd, z1, h1]
    exact zwp_s hz (k _ List.mem_cons_self lv q X hl h3 hM h0 (by rw [zb_ov h1]; exact hO) (fun D lv0 _ hD => by rw [z2]; exact hD))
  split at h
  · rename_i ss' hsw
    cases h
    obtain ⟨q, h1, h2, s, h3, h4, h5, h6⟩ := ysw_sound (v := v) (nL := znl t mi) hsw hl hs
    have hz : zstp t G mi pc lv st X = some (q.1, q.2.1, q.2.2, X) := by
      unfold zstp
      simp only [hcd, h1]
    refine zwp_s hz ?_
    have hk := k s h3 lv q.2.2 X h5 h6 hM h0 (by rw [za_ov h1]; exact hO) (fun D lv0 _ hD => by
      cases i <;> first | (cases hsw; done) | exact hD)
    rw [h4] at hk
    show zwp t G mi q.1 q.2.1 q.2.2 X _
    rw [h2]
    exact hk
  · split at h
    · rename_i ss' hya
      cases h
      obtain ⟨q, h1, s, h3, h4, h5, h6⟩ := ya_sound hya hl hs
      have hz : zstp t G mi pc lv st X = some (q.1, q.2.1, q.2.2, X) := by
        unfold zstp
        simp only [hcd, h1]
      refine zwp_s hz ?_
      have hk := k s h3 q.2.1 q.2.2 X h5 h6 hM h0 (by rw [za_ov h1]; exact hO) (fun D lv0 hi hD => yupd_sound hya hl h1 hi hD)
      rw [h4] at hk
      exact hk
    · split at h
      · rename_i w hyb
        cases h
        obtain ⟨q, h1, h2, h3⟩ := yb_sound hg hM hyb hs
        obtain ⟨z1, z2⟩ := zb_za (v := v) (nL := znl t mi) (pc := pc) (lv := lv) h1
        have hz : zstp t G mi pc lv st X = some (pc + q.1, lv, q.2, X) := by
          unfold zstp
          simp only [hcd, z1, h1]
        refine zwp_s hz ?_
        have hk := k _ List.mem_cons_self lv q.2 X hl h3 hM h0 (by rw [zb_ov h1]; exact hO) (fun D lv0 _ hD => by rw [z2]; exact hD)
        show zwp t G mi (pc + q.1) lv q.2 X _
        rw [h2]
        exact hk
      · split at h
        · rename_i w hyc
          split at h
          case isFalse => cases h
          rename_i hwr
          cases h
          obtain ⟨q, h1, h2, h3, h4, h5⟩ := yc_sound (df := zdf t) hM hyc hs
          obtain ⟨z1, z2, z3⟩ := zc_za (G := G) (v := v) (nL := znl t mi) (pc := pc) (lv := lv) h1
          have hz : zstp t G mi pc lv st X = some (pc + q.1, lv, q.2.1, q.2.2) := by
            unfold zstp
            simp only [hcd, z1, z2, h1]
          refine zwp_s hz ?_
          have hk := k _ List.mem_cons_self lv q.2.1 q.2.2 hl h3 h4 (yP_t h0 h5 (ywr_sound hwr hs h1)) (zc_ov h1 hs hO) (fun D lv0 _ hD => by rw [z3]; exact hD)
          show zwp t G mi (pc + q.1) lv q.2.1 q.2.2 _
          rw [h2]
          exact hk
        · split at h
          · rename_i hrt
            obtain ⟨r, h1, h2⟩ := yrt_sound hrt hs
            obtain ⟨z1, z2, z3⟩ := zr_za (G := G) (df := zdf t) (b := b) (c := c) (v := v) (nL := znl t mi) (pc := pc) (lv := lv) (X := X) h1
            exact zwp_ret ⟨hcd, z1, z2, z3⟩ h1 ⟨h2, hM, h0⟩
          · split at h
            · rename_i hki
              obtain ⟨z1, z2, z3, z4, z5⟩ := zk_za (G := G) (df := zdf t) (a := a) (b := b) (c := c) (v := v) (nL := znl t mi) (pc := pc) (lv := lv) (st := st) (X := X) hki
              split at h
              · rename_i ha
                split at h
                · rename_i S' hj
                  split at h
                  · rename_i h8
                    cases h
                    obtain ⟨q, h1, h2⟩ := yj_sound (X := X) hj hs
                    refine zwp_jdk ⟨hcd, z1, z2, z3⟩ z4 hki ha h1 (by rw [ycat_spec h2]; exact h8) ?_
                    exact k _ List.mem_cons_self lv q X hl h2 hM h0 (zj_ov hki ha h1 hO) (fun D lv0 _ hD => by rw [z5]; exact hD)
                  · cases h
                · split at h
                  · rename_i S' hj
                    split at h
                    · rename_i h8
                      cases h
                      obtain ⟨q, h1, h2, h3, h4, h5⟩ := yj3_sound hM hj hs
                      refine zwp_jdk ⟨hcd, z1, z2, z3⟩ z4 hki ha h1 (by rw [ycat_spec h2]; exact h8) ?_
                      exact k _ List.mem_cons_self lv q.1 q.2 hl h2 h3 (yP_t h0 h4 h5) (zj_ov hki ha h1 hO) (fun D lv0 _ hD => by rw [z5]; exact hD)
                    · cases h
                  · cases h
              · split at h
                · rename_i hc
                  split at h
                  · rename_i ro' hsm
                    split at h
                    case isFalse => cases h
                    rename_i hyb
                    obtain ⟨s, h1, h2, h3, h4⟩ := ysm_spec hsm
                    have hf := yfa_rev (ys_fa (ys_take c hs))
                    have hv := hS s h1 _ X (yles_sound h3 hf) hM
                    rw [h2, h4] at hv
                    refine zwp_call ⟨hcd, z1, z2, z3⟩ z4 hki ⟨hc.1, by rw [ys_len hs]; exact hc.2.1, by rw [ycat_spec (ys_drop c hs)]; exact hc.2.2.1, by rw [ycat_spec (ys_take c hs)]; exact hc.2.2.2.1, yrc_sound hg hM hc.2.2.2.2 hf⟩ ?_
                    obtain ⟨n, o, X', hz, hq⟩ := hv
                    refine ⟨n, o, X', hz, ?_⟩
                    cases o with
                    | inl r =>
                      obtain ⟨q1, q2, q3⟩ := hq
                      split at h
                      · rename_i hem
                        exact (yemp_spec hem q1).elim
                      cases h
                      refine k _ List.mem_cons_self lv _ X' hl (ys_ret q1 (ys_drop c hs)) q2 (yP_t h0 q3.1 q3.2) ?_ (fun D lv0 _ hD => by rw [z5]; exact hD)
                      have e : yov kp i a b S O = O.filter fun e => kp b e.2.1 e.2.2.1 := by
                        unfold yov
                        rw [hki]
                        exact if_pos hc.1
                      rw [e]
                      intro e he
                      obtain ⟨he1, he2⟩ := List.mem_filter.mp he
                      obtain ⟨h50, fs, x, k1, k2, k3, k4⟩ := hO e he1
                      obtain ⟨fs', k5, k6⟩ := hkp _ _ _ he2 n _ _ _ hz _ fs k1
                      exact ⟨h50, fs', x, k5, k6.trans k2, k3, k4⟩
                    | inr x =>
                      obtain ⟨q1, q2, q3, q4, q5⟩ := hq
                      have q6 := yhb_spec (b := b) hyb q1 q2
                      exact Or.inl ⟨q6.2, q6.1, q2, q3, fun j hj => (q4 j hj).trans (h0.2 j hj), by rw [q5, h0.1]⟩
                  · cases h
                · cases h
            · split at h
              · rename_i hth
                cases h
                obtain ⟨t1, t2, t3, t4, t5⟩ := hth
                have ha := yex_ge t3
                obtain ⟨z1, z2, z3, z4⟩ := zn_za (G := G) (df := zdf t) (b := b) (c := c) (v := v) (nL := znl t mi) (pc := pc) (lv := lv) (st := st) (X := X) t1 ha
                exact zwp_thr ⟨hcd, z1, z2, z3⟩ z4 t1 ⟨ha, zthr_sub hsb t4, by rw [ycat_spec hs]; exact t5⟩ ⟨t2, t3, hM, h0.2, by rw [h0.1]⟩
              · cases h
/-- a summary, where something is known of single fields -/
def yVO (W : List Nat) (t : zT) (G : List zE) (T : List yC) (O : yO) (s : ySm) : Prop := ∀ (vs : List Value) (X : zX), yfa s.2.1 vs → yM T X.1 → yo O X.1 → zwp t G s.1 0 (lv_args 0 vs) [] X (yQ W T s.1 s.2.2 X)
end
section
/-! From head to head, and a method's certificate. -/
def yinc (L B : yL) : Bool := B.all fun q => match ylk L q.1 with
  | some a => yle a q.2
  | none => false
theorem yinc_sound {L B : yL} {lv : zL} (h : yinc L B = true) (hl : yl L lv) : yl B lv := by
  intro q hq
  have h1 := List.all_eq_true.mp h q hq
  split at h1
  · rename_i a ha
    obtain ⟨v, h2, h3⟩ := yl_at hl ha
    exact ⟨v, h2, yle_sound h1 h3⟩
  · cases h1
def yho (Ho : List (Nat × yO)) (pc : Nat) : yO := (Ho.lookup pc).getD []
/-- what O knows is enough for O' -/
def yoi (O O' : yO) : Bool := O'.all fun e => O.any fun d => d.1 == e.1 && (d.2.1 == e.2.1 && (d.2.2.1 == e.2.2.1 && (decide (e.2.2.2.1 ≤ d.2.2.2.1) && decide (d.2.2.2.2 ≤ e.2.2.2.2))))
theorem yoi_sound {O O' : yO} {M : List zE} (h : yoi O O' = true) (hO : yo O M) : yo O' M := by
  intro e he
  obtain ⟨d, h1, h2⟩ := List.any_eq_true.mp (List.all_eq_true.mp h e he)
  simp only [Bool.and_eq_true, beq_iff_eq, decide_eq_true_eq] at h2
  obtain ⟨e1, e2, e3, e4, e5⟩ := h2
  obtain ⟨h50, fs, x, k1, k2, k3, k4⟩ := hO d h1
  rw [e1] at k1 h50
  rw [e2] at k1
  rw [e3] at k2
  exact ⟨h50, fs, x, k1, k2, by omega, by omega⟩
def yrun (W : List Nat) (cd : Nat → Nat → Option zI) (nl : Nat → Nat) (hn : Nat → Nat → Nat → Option Nat) (Tg T : List yC) (Sm : List ySm) (ro : Option yA) (mi : Nat) (K : yK) (Hs : List yH) (kp : Nat → Nat → Nat → Bool) (Ho : List (Nat × yO)) (rk : Int) (fl : List Bool) : Nat → Bool → Nat → yL → yS → List (Nat × Int) → yO → Bool
  | 0, _, _, _, _, _, _ => false
  | n + 1, first, pc, L, S, D, O => match (if first then none else Hs.find? fun B => B.1 == pc) with
    | some B => S.isEmpty && (yinc L B.2.1 && (yoi O (yho Ho pc) && (match ydif D B.2.1 K fl B.2.2.2 with
      | some e => decide (B.2.2.1 + e < rk)
      | none => false)))
    | none => match cd mi pc with
      | none => false
      | some (i, a, b, c, v) => match ynx W cd nl hn Tg T Sm ro mi pc i a b c v L S O with
        | none => false
        | some ss => yir i L D && ss.all fun s => yrun W cd nl hn Tg T Sm ro mi K Hs kp Ho rk fl n false s.1 s.2.1 s.2.2 (yupd i D) (yov kp i a b S O)
section yRS
variable {W : List Nat} {t : zT} {G : List zE} {cd : Nat → Nat → Option zI} {nl : Nat → Nat} {hn : Nat → Nat → Nat → Option Nat} {Tg T : List yC} {Sm : List ySm} {ro : Option yA} {mi : Nat} {K : yK} {Hs : List yH} {kp : Nat → Nat → Nat → Bool} {Ho : List (Nat × yO)}
theorem yrun_sound (hkp : ∀ (m ci f : Nat), kp m ci f = true → ∀ (n : Nat) (lv : zL) (X : zX) (r : zO × zX), zev (zcd t) (znl t) (zdf t) (zhn t) G n m 0 lv [] X = some r → ∀ (k : Nat) (fs : List Value), X.1[k]? = some (.inl (ci, fs)) → ∃ fs', r.2.1[k]? = some (.inl (ci, fs')) ∧ fs'[f]? = fs[f]?) (hnl : znl t = nl) (hhn : zhn t = hn) (hcd : ∀ mi pc q, cd mi pc = some q → zcd t mi pc = some q) (hg : yMg Tg G) (hS : ∀ s ∈ Sm, yV W t G T s) {rk : Int} {fl : List Bool} {LA : yL} {lv0 : zL} (hA : yl LA lv0) (hfA : yhk LA K fl = true) (hHk : ∀ B ∈ Hs, yhk B.2.1 K B.2.2.2 = true) {X0 : zX}
    (hH : ∀ B ∈ Hs, ∀ (lv : zL) (X : zX), yl B.2.1 lv → yM T X.1 → yP W X0 X → yo (yho Ho B.1) X.1 → B.2.2.1 + ytot K B.2.2.2 lv < rk + ytot K fl lv0 → zwp t G mi B.1 lv [] X (yQ W T mi ro X0)) :
    ∀ (n : Nat) (first : Bool) (pc : Nat) (L : yL) (S : yS) (D : List (Nat × Int)) (O : yO) (lv : zL) (st : List Value) (X : zX), yrun W cd nl hn Tg T Sm ro mi K Hs kp Ho rk fl n first pc L S D O = true → yl L lv → ys S st lv → yD D lv0 lv → yM T X.1 → yP W X0 X → yo O X.1 → zwp t G mi pc lv st X (yQ W T mi ro X0) := by
  intro n
  induction n with
  | zero => intro first pc L S D O lv st X h; cases h
  | succ n ih =>
    intro first pc L S D O lv st X h hl hs hD hM hX hO
    rw [yrun] at h
    split at h
    · rename_i B hB
      have hB' : Hs.find? (fun B => B.1 == pc) = some B := by
        cases first with
        | true => cases hB
        | false => exact hB
      have hm := List.mem_of_find?_eq_some hB'
      have hp : B.1 = pc := by simpa using List.find?_some hB'
      simp only [Bool.and_eq_true] at h
      obtain ⟨h1, h2, h2o, h3⟩ := h
      have h1' : S = [] := by simpa using h1
      subst h1'
      have hst := ys_nil hs
      subst hst
      have hlB := yinc_sound h2 hl
      split at h3
      · rename_i e he
        have h4 := ydif_sound hA hlB hD hfA (hHk B hm) he
        have h5 : B.2.2.1 + e < rk := by simpa using h3
        rw [← hp]
        exact hH B hm lv X hlB hM hX (by rw [hp]; exact yoi_sound h2o hO) (by omega)
      · cases h3
    · split at h
      · cases h
      · rename_i i a b c v hc
        split at h
        · cases h
        · rename_i ss hss
          refine ynx_sound (kp := kp) hkp hO hcd hnl hhn hg hM hX hS (hcd _ _ _ hc) hss hl hs fun s hs' lv' st' X' k1 k2 k3 k4 ko k5 => ?_
          simp only [Bool.and_eq_true] at h
          exact ih false s.1 s.2.1 s.2.2 (yupd i D) _ lv' st' X' (List.all_eq_true.mp h.2 s hs') k1 k2 (k5 D lv0 h.1 hD) k3 k4 ko
def yd0 (L : yL) (K : yK) : List (Nat × Int) := (K.filter fun c => match ylk L c.1 with
  | some (.inl _) => true
  | _ => false).map fun c => (c.1, 0)
theorem yD_0 {L : yL} {lv : zL} (hl : yl L lv) : yD (yd0 L K) lv lv := by
  intro q hq
  obtain ⟨c, h1, rfl⟩ := List.mem_map.mp hq
  have h2 := (List.mem_filter.mp h1).2
  split at h2
  · rename_i p hp
    obtain ⟨x, h3, -⟩ := yl_i hl hp
    exact ⟨x, x, h3, h3, by dsimp only; omega⟩
  · cases h2
theorem yhk_false (L : yL) : ∀ (K : yK), yhk L K (K.map fun _ => false) = true := by
  intro K
  induction K with
  | nil => rfl
  | cons c K ih => simp [yhk, ih]
def yck1 (W : List Nat) (cd : Nat → Nat → Option zI) (nl : Nat → Nat) (hn : Nat → Nat → Nat → Option Nat) (Tg T : List yC) (Sm : List ySm) (s : ySm) (K : yK) (Hs : List yH) (kp : Nat → Nat → Nat → Bool) (Ho : List (Nat × yO)) (n : Nat) (A : yH) : Bool := yhk A.2.1 K A.2.2.2 && (decide (0 ≤ A.2.2.1) && yrun W cd nl hn Tg T Sm s.2.2 s.1 K Hs kp Ho A.2.2.1 A.2.2.2 n true A.1 A.2.1 [] (yd0 A.2.1 K) (yho Ho A.1))
def yck (W : List Nat) (cd : Nat → Nat → Option zI) (nl : Nat → Nat) (hn : Nat → Nat → Nat → Option Nat) (Tg T : List yC) (Sm : List ySm) (s : ySm) (K : yK) (Hs : List yH) (kp : Nat → Nat → Nat → Bool) (Ho : List (Nat × yO)) (R : Int) (n : Nat) (O : yO) : Bool :=
  Hs.all (yck1 W cd nl hn Tg T Sm s K Hs kp Ho n) && yrun W cd nl hn Tg T Sm s.2.2 s.1 K Hs kp Ho R (K.map fun _ => false) n false 0 (ylargs 0 s.2.1) [] [] O
/-- a certificate that checks: the method keeps its summary -/
theorem yck_sound (hkp : ∀ (m ci f : Nat), kp m ci f = true → ∀ (n : Nat) (lv : zL) (X : zX) (r : zO × zX), zev (zcd t) (znl t) (zdf t) (zhn t) G n m 0 lv [] X = some r → ∀ (k : Nat) (fs : List Value), X.1[k]? = some (.inl (ci, fs)) → ∃ fs', r.2.1[k]? = some (.inl (ci, fs')) ∧ fs'[f]? = fs[f]?) (hnl : znl t = nl) (hhn : zhn t = hn) (hcd : ∀ mi pc q, cd mi pc = some q → zcd t mi pc = some q) (hg : yMg Tg G) (hS : ∀ s ∈ Sm, yV W t G T s) {s : ySm} {R : Int} {n : Nat} {O : yO} (h : yck W cd nl hn Tg T Sm s K Hs kp Ho R n O = true) : yVO W t G T O s := by
  simp only [yck, Bool.and_eq_true] at h
  obtain ⟨h1, h2⟩ := h
  have h1' := List.all_eq_true.mp h1
  have hHk : ∀ B ∈ Hs, yhk B.2.1 K B.2.2.2 = true := fun B hB => by
    have := h1' B hB
    simp only [yck1, Bool.and_eq_true] at this
    exact this.1
  intro vs X hv hM hO
  have key : ∀ (m : Nat), ∀ B ∈ Hs, ∀ (lv : zL) (X' : zX), yl B.2.1 lv → yM T X'.1 → yP W X X' → yo (yho Ho B.1) X'.1 → B.2.2.1 + ytot K B.2.2.2 lv < m → zwp t G s.1 B.1 lv [] X' (yQ W T s.1 s.2.2 X) := by
    intro m
    induction m with
    | zero =>
      intro B hB lv X' hl _ _ _ hlt
      exfalso
      have h3 := h1' B hB
      simp only [yck1, Bool.and_eq_true, decide_eq_true_eq] at h3
      have h4 := yhk_nonneg hl h3.1
      omega
    | succ m ih =>
      intro B hB lv X' hl hM' hX' hO' hlt
      have h3 := h1' B hB
      simp only [yck1, Bool.and_eq_true, decide_eq_true_eq] at h3
      refine yrun_sound hkp hnl hhn hcd hg hS hl h3.1 hHk (fun C hC lv2 X2 k1 k2 k3 ko k4 => ih C hC lv2 X2 k1 k2 k3 ko (by omega)) n true B.1 B.2.1 [] _ _ lv [] X' h3.2.2 hl trivial (yD_0 hl) hM' hX' hO'
  have hl := yl_args (i := 0) hv
  refine yrun_sound hkp hnl hhn hcd hg hS hl (yhk_false _ K) hHk (fun C hC lv2 X2 k1 k2 k3 ko k4 => key (C.2.2.1 + ytot K C.2.2.2 lv2 + 1).toNat C hC lv2 X2 k1 k2 k3 ko (by omega)) n false 0 _ [] [] _ _ [] X h2 hl trivial (fun q hq => by cases hq) hM (yP_0 W X) hO
end yRS
end
section
/-! Types told more closely, and runs of one's cases. -/
def ysubc (t' t : yC) : Bool := match t', t with
  | .inl x', .inl x => decide (x'.1 = x.1) && (decide (x'.2.length = x.2.length) && (List.range x.2.length).all fun k => match x'.2[k]?, x.2[k]? with
    | some a', some a => yle a' a
    | _, _ => false)
  | .inr (.inl x'), .inr (.inl x) => decide (x'.1 = x.1) && (decide (x'.2 = x.2) || (decide (ysum x'.2 = ysum x.2) && (List.range (ysum x.2)).all fun k => match yat x'.2 k, yat x.2 k with
    | some a', some a => decide (a.1 ≤ a'.1) && decide (a'.2 ≤ a.2)
    | _, _ => false))
  | .inr (.inr (.inl n')), .inr (.inr (.inl n)) => decide (n' = n)
  | .inr (.inr (.inr x')), .inr (.inr (.inr x)) => decide (x'.1 = x.1) && decide (x'.2 = x.2)
  | _, _ => false
theorem ysubc_sound {t' t : yC} {c : zE} (h : ysubc t' t = true) (hc : yok t' c) : yok t c := by
  unfold ysubc at h
  split at h
  · rename_i x' x
    simp only [Bool.and_eq_true, decide_eq_true_eq] at h
    obtain ⟨h1, h2, h3⟩ := h
    match c, hc with
    | .inl o, hc =>
      obtain ⟨c1, c2, c3⟩ := hc
      refine ⟨h1.symm.trans c1, h2.symm.trans c2, fun k a v ha hv => ?_⟩
      have hk : k < x.2.length := (List.getElem?_eq_some_iff.mp ha).1
      have h4 := List.all_eq_true.mp h3 k (List.mem_range.mpr hk)
      split at h4
      · rename_i a' a2 e1 e2
        cases ha.symm.trans e2
        exact yle_sound h4 (c3 k a' v e1 hv)
      · cases h4
  · rename_i x' x
    simp only [Bool.and_eq_true, Bool.or_eq_true, decide_eq_true_eq] at h
    obtain ⟨h1, h2⟩ := h
    rcases h2 with h2 | ⟨h2, h3⟩
    · have e : x' = x := Prod.ext h1 h2
      subst e
      exact hc
    match c, hc with
    | .inr (.inl o), hc =>
      obtain ⟨c1, c2, c3⟩ := hc
      refine ⟨h1.symm.trans c1, c2.trans h2, fun k a z ha hv => ?_⟩
      have hk : k < ysum x.2 := by
        have := (List.getElem?_eq_some_iff.mp hv).1
        omega
      have h4 := List.all_eq_true.mp h3 k (List.mem_range.mpr hk)
      split at h4
      · rename_i a' a2 e1 e2
        cases ha.symm.trans e2
        simp only [Bool.and_eq_true, decide_eq_true_eq] at h4
        have h5 := c3 k a' z e1 hv
        exact ⟨Int.le_trans h4.1 h5.1, Int.le_trans h5.2 h4.2⟩
      · cases h4
  · have e := of_decide_eq_true h
    subst e
    exact hc
  · rename_i x' x
    simp only [Bool.and_eq_true, decide_eq_true_eq] at h
    have e : x' = x := Prod.ext h.1 h.2
    subst e
    exact hc
  · cases h
/-- T' tells more than T, at places that are not written -/
def yR (W : List Nat) (T T' : List yC) : Prop := T.length = T'.length ∧ ∀ (j : Nat) (t : yC), T[j]? = some t → ∃ t', T'[j]? = some t' ∧ (∀ c, yok t' c → yok t c) ∧ ((∀ c, yok t c → yok t' c) ∨ ¬ (j + 50) ∈ W)
theorem yR_0 (W : List Nat) (T : List yC) : yR W T T := ⟨rfl, fun _ t h => ⟨t, h, fun _ hc => hc, Or.inl fun _ hc => hc⟩⟩
theorem yR_t {W : List Nat} {T1 T2 T3 : List yC} (h : yR W T1 T2) (k : yR W T2 T3) : yR W T1 T3 := by
  refine ⟨h.1.trans k.1, fun j t ht => ?_⟩
  obtain ⟨t2, e2, h2, g2⟩ := h.2 j t ht
  obtain ⟨t3, e3, h3, g3⟩ := k.2 j t2 e2
  refine ⟨t3, e3, fun c hc => h2 c (h3 c hc), ?_⟩
  rcases g2 with g2 | g2
  · rcases g3 with g3 | g3
    · exact Or.inl fun c hc => g3 c (g2 c hc)
    · exact Or.inr g3
  · exact Or.inr g2
theorem yR_set {W : List Nat} {T : List yC} {j : Nat} {t t' : yC} (ht : T[j]? = some t) (hW : ¬ (j + 50) ∈ W) (hs : ysubc t' t = true) : yR W T (T.set j t') := by
  refine ⟨by simp, fun k u hu => ?_⟩
  by_cases hk : j = k
  · subst hk
    cases ht.symm.trans hu
    exact ⟨t', by simp [(List.getElem?_eq_some_iff.mp ht).1], fun c hc => ysubc_sound hs hc, Or.inr hW⟩
  · exact ⟨u, by rw [List.getElem?_set_ne hk]; exact hu, fun _ hc => hc, Or.inl fun _ hc => hc⟩
theorem yM_sub {W : List Nat} {T T' : List yC} {M : List zE} (h : yR W T T') (hM : yM T' M) : yM T M := by
  refine ⟨hM.1.trans h.1.symm, fun j t ht => ?_⟩
  obtain ⟨t', e, h1, -⟩ := h.2 j t ht
  obtain ⟨c, h2, h3⟩ := hM.2 j t' e
  exact ⟨c, h2, h1 c h3⟩
theorem yM_back {W : List Nat} {T T' : List yC} {M M' : List zE} (h : yR W T T') (hM : yM T' M) (hM' : yM T M') (hf : yF W M M') : yM T' M' := by
  refine ⟨hM'.1.trans h.1, fun j t' ht' => ?_⟩
  have hj : j < T.length := by rw [h.1]; exact (List.getElem?_eq_some_iff.mp ht').1
  obtain ⟨t2, e, -, h1⟩ := h.2 j T[j] (List.getElem?_eq_getElem hj)
  cases ht'.symm.trans e
  rcases h1 with h1 | h1
  · obtain ⟨c, h2, h3⟩ := hM'.2 j _ (List.getElem?_eq_getElem hj)
    exact ⟨c, h2, h1 c h3⟩
  · obtain ⟨c, h2, h3⟩ := hM.2 j t' ht'
    exact ⟨c, (hf j h1).trans h2, h3⟩
theorem yQ_up {W : List Nat} {T T' : List yC} {mi : Nat} {ro : Option yA} {X0 X : zX} {o : zO} (h : yR W T T') (hM : yM T' X0.1) (hq : yQ W T mi ro X0 o X) : yQ W T' mi ro X0 o X := by
  cases o with
  | inl r =>
    obtain ⟨q1, q2, q3⟩ := hq
    exact ⟨q1, yM_back h hM q2 q3.2, q3⟩
  | inr x =>
    obtain ⟨q1, q2, q3, q4, q5⟩ := hq
    exact ⟨q1, q2, yM_back h hM q3 q4, q4, q5⟩
theorem yQ_down {W : List Nat} {T T' : List yC} {mi : Nat} {ro : Option yA} {X0 X : zX} {o : zO} (h : yR W T T') (hq : yQ W T' mi ro X0 o X) : yQ W T mi ro X0 o X := by
  cases o with
  | inl r =>
    obtain ⟨q1, q2, q3⟩ := hq
    exact ⟨q1, yM_sub h q2, q3⟩
  | inr x =>
    obtain ⟨q1, q2, q3, q4, q5⟩ := hq
    exact ⟨q1, q2, yM_sub h q3, q4, q5⟩
theorem yV_up {W : List Nat} {t : zT} {G : List zE} {T T' : List yC} {s : ySm} (h : yR W T T') (hv : yV W t G T s) : yV W t G T' s := fun vs X hf hM => zwp_mono (hv vs X hf (yM_sub h hM)) fun _ _ hq => yQ_up h hM hq
/-- more places may be written -/
theorem yV_W {W W' : List Nat} {t : zT} {G : List zE} {T : List yC} {s : ySm} (h : ∀ k, k ∈ W → k ∈ W') (hv : yV W t G T s) : yV W' t G T s := fun vs X hf hM => zwp_mono (hv vs X hf hM) fun o X' hq => by
  cases o with
  | inl r =>
    obtain ⟨q1, q2, q3⟩ := hq
    exact ⟨q1, q2, q3.1, fun j hj => q3.2 j fun hk => hj (h _ hk)⟩
  | inr x =>
    obtain ⟨q1, q2, q3, q4, q5⟩ := hq
    exact ⟨q1, q2, q3, fun j hj => q4 j fun hk => hj (h _ hk), q5⟩
/-- by cases of what the heap holds at the begin -/
theorem yV_cases {W : List Nat} {t : zT} {G : List zE} {T : List yC} {s : ySm} (h : ∀ X : zX, yM T X.1 → ∃ T', yR W T T' ∧ yM T' X.1 ∧ yV W t G T' s) : yV W t G T s := fun vs X hf hM => by
  obtain ⟨T', h1, h2, h3⟩ := h X hM
  exact zwp_mono (h3 vs X hf h2) fun _ _ hq => yQ_down h1 hq
/-- an int field has some value -/
theorem yM_field {T : List yC} {M : List zE} {j ci b : Nat} {as : List yA} {lo hi : Int} (hM : yM T M) (ht : T[j]? = some (.inl (ci, as))) (ha : as[b]? = some (.inl (lo, hi))) : ∃ z : Int, lo ≤ z ∧ z ≤ hi ∧ ∀ q : Int × Int, q.1 ≤ z → z ≤ q.2 → yM (T.set j (.inl (ci, as.set b (.inl q)))) M := by
  obtain ⟨c, hc, hok⟩ := hM.2 j _ ht
  match c, hok with
  | .inl o, hok =>
    obtain ⟨h1, h2, h3⟩ := hok
    have hb : b < o.2.length := by rw [← h2]; exact (List.getElem?_eq_some_iff.mp ha).1
    have hv := h3 b _ o.2[b] ha (List.getElem?_eq_getElem hb)
    obtain ⟨x, e, l1, l2⟩ := hv
    refine ⟨x.toInt, l1, l2, fun q q1 q2 => ⟨by simp [hM.1], fun k u hu => ?_⟩⟩
    by_cases hk : j = k
    · subst hk
      have hjl : j < T.length := (List.getElem?_eq_some_iff.mp ht).1
      rw [List.getElem?_set_self hjl] at hu
      cases hu
      refine ⟨.inl o, hc, h1, by simpa using h2, fun k a v hk1 hk2 => ?_⟩
      by_cases hbk : b = k
      · subst hbk
        have hbl : b < as.length := (List.getElem?_eq_some_iff.mp ha).1
        dsimp only at hk1
        rw [List.getElem?_set_self hbl] at hk1
        cases hk1
        rw [List.getElem?_eq_getElem hb] at hk2
        cases hk2
        exact ⟨x, e, q1, q2⟩
      · dsimp only at hk1
        rw [List.getElem?_set_ne hbk] at hk1
        exact h3 k a v hk1 hk2
    · rw [List.getElem?_set_ne hk] at hu
      exact hM.2 k u hu
/-- a parameter of several places -/
theorem yV_places {W : List Nat} {t : zT} {G : List zE} {T : List yC} {m : Nat} {as bs : List yA} {ro : Option yA} {os : List Nat} (h : ∀ o ∈ os, yV W t G T (m, as ++ .inr (.inr [o]) :: bs, ro)) : yV W t G T (m, as ++ .inr (.inr os) :: bs, ro) := by
  intro vs X hf hM
  have key : ∃ o ∈ os, yfa (as ++ .inr (.inr [o]) :: bs) vs := by
    revert hf
    show yfa (as ++ .inr (.inr os) :: bs) vs → _
    clear h hM
    induction as generalizing vs with
    | nil =>
      intro hf
      cases vs with
      | nil => exact hf.elim
      | cons v vs =>
        obtain ⟨⟨o, e, ho⟩, h2⟩ := hf
        exact ⟨o, ho, ⟨⟨o, e, by simp⟩, h2⟩⟩
    | cons a as ih =>
      intro hf
      cases vs with
      | nil => exact hf.elim
      | cons v vs =>
        obtain ⟨o, ho, h2⟩ := ih _ hf.2
        exact ⟨o, ho, ⟨hf.1, h2⟩⟩
  obtain ⟨o, ho, hf'⟩ := key
  exact h o ho vs X hf' hM
end
section
/-! What the dancing's and searching's methods may write, by their calls too (printed). -/
def yws : List (Nat × List (Nat × Nat)) := [(11, []), (13, []), (14, []), (15, []), (22, [(1, 1)]), (23, [(1, 1)]), (24, [(10, 0), (10, 1)]), (44, []), (61, []), (83, []), (84, [(10, 0)]), (85, []), (86, []), (87, []), (88, []), (89, []), (90, [(10, 0)]), (91, [(9, 1)]), (92, []), (93, []), (94, []), (95, []), (96, []), (97, []), (98, []), (99, []), (100, []), (101, []), (102, []), (103, []), (104, []), (105, [(9, 1)]), (106, []), (107, [(0, 10), (0, 12), (9, 1)]), (108, [(0, 10), (0, 12), (9, 1)]), (109, [(0, 10), (0, 12), (9, 1)]), (110, []), (111, []), (112, []), (113, []), (114, []), (115, []), (116, []), (117, []), (118, []), (119, []), (120, []), (121, []), (122, [(10, 28), (10, 29)]), (123, []), (124, [(10, 0), (10, 28), (10, 29), (10, 30), (10, 31)]), (125, [(10, 0), (10, 28), (10, 29), (10, 30), (10, 31)]), (126, [(0, 10), (0, 12), (9, 1)]), (127, [(0, 10), (0, 12), (9, 1)]), (128, [(10, 0), (10, 28), (10, 29), (10, 30), (10, 31)]), (129, []), (130, [(10, 0)]), (131, [(0, 10)]), (132, [(0, 10)]), (133, []), (134, [(10, 0), (10, 31)]), (135, [(0, 10)]), (136, [(10, 0), (10, 31)]), (137, []), (138, []), (139, []), (140, []), (141, [(10, 0)]), (142, []), (143, []), (144, []), (145, [(10, 0), (10, 28), (10, 29)]), (146, []), (147, []), (148, [(10, 0)]), (149, []), (150, []), (151, []), (152, [(10, 0)]), (153, []), (154, [(3, 6)]), (155, [(3, 6)]), (156, [(10, 0)]), (157, []), (158, []), (159, [(8, 7)]), (160, [(8, 6)]), (161, [(8, 6), (8, 7), (9, 1)]), (162, [(8, 6), (8, 7), (9, 1)]), (163, [(8, 6), (8, 7), (9, 1)]), (164, []), (165, []), (166, [(10, 28), (10, 29)]), (167, [(10, 28), (10, 29)]), (168, [(10, 0), (10, 28), (10, 29), (10, 36)]), (169, []), (170, []), (171, [(10, 0)]), (172, []), (173, [(9, 1)]), (174, [(9, 1)]), (175, []), (176, [(10, 0), (10, 28), (10, 29)])]
def ywsB : Bool := yws.all fun e => !(e.1 == 36) && ((((zKS .null)[e.1]?).getD []).all fun r => zwi r.2.1 r.2.2.1 r.2.2.2.1 e.2 && (!(zki r.2.1 == 2 && r.2.2.1 == 0) || (match yws.lookup r.2.2.2.1 with
  | some l => l.all fun x => e.2.elem x
  | none => false)))
theorem ywsB_ok : ywsB = true := by decide +kernel
theorem yws_closed (v0 : Value) : zclosed (zcd (zt v0)) yws := by
  intro mi l hl pc q hq
  have h1 := List.all_eq_true.mp ywsB_ok _ (zlook hl)
  simp only [Bool.and_eq_true, Bool.not_eq_true', beq_eq_false_iff_ne] at h1
  have hq' : (((zKS v0)[mi]?).getD []).lookup pc = some q := hq
  rw [zks_set, List.getElem?_set_ne (fun h => h1.1 h.symm)] at hq'
  have h2 := List.all_eq_true.mp h1.2 _ (zlook hq')
  simp only [Bool.and_eq_true] at h2
  refine ⟨h2.1, fun k1 k2 => ?_⟩
  have h3 := h2.2
  simp only [k1, k2, BEq.rfl, Bool.and_self, Bool.not_true, Bool.false_or] at h3
  split at h3
  · rename_i l' hl'
    exact ⟨l', hl', fun e he => List.elem_iff.mp (List.all_eq_true.mp h3 e he)⟩
  · cases h3
def ykp (m ci f : Nat) : Bool := match yws.lookup m with
  | some l => !(l.elem (ci, f))
  | none => false
theorem ykp_spec (v0 : Value) {G : List zE} (m ci f : Nat) (h : ykp m ci f = true) (n : Nat) (lv : zL) (X : zX) (r : zO × zX) (hz : zev (zcd (zt v0)) (znl (zt v0)) (zdf (zt v0)) (zhn (zt v0)) G n m 0 lv [] X = some r) (k : Nat) (fs : List Value) (hk : X.1[k]? = some (.inl (ci, fs))) : ∃ fs', r.2.1[k]? = some (.inl (ci, fs')) ∧ fs'[f]? = fs[f]? := by
  unfold ykp at h
  split at h
  · rename_i l hl
    obtain ⟨fs', h1, h2⟩ := zev_keep (yws_closed v0) n m 0 l lv [] X r hl hz k ci fs hk
    exact ⟨fs', h1, h2 f fun he => absurd he (by simpa using h)⟩
  · cases h
end
