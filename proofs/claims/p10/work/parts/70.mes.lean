/-! Loop heads: types, a rank, and which counters count there. A counter: a local, its bound, its weight. -/
abbrev yK : Type := List (Nat × Int × Int)
abbrev yH : Type := Nat × yL × Int × List Bool
def yval (lv : zL) (k : Nat) : Int := match zlv lv k with
  | some (.int x) => x.toInt
  | _ => 0
def ytot : yK → List Bool → zL → Int
  | c :: cs, f :: fs, lv => (if f then c.2.2 * (c.2.1 - yval lv c.1) else 0) + ytot cs fs lv
  | _, _, _ => 0
/-- what a head says of its counters: each is an int at most its bound; its weight isn't negative -/
def yhk (L : yL) : yK → List Bool → Bool
  | c :: cs, f :: fs => (!f || (match ylk L c.1 with
      | some (.inl q) => (decide (q.2 ≤ c.2.1) && decide (0 ≤ c.2.2)) || (decide (c.2.1 ≤ q.1) && decide (c.2.2 ≤ 0))
      | _ => false)) && yhk L cs fs
  | _, _ => true
theorem y_sg {w b x l h : Int} (h1 : (decide (h ≤ b) && decide (0 ≤ w) || decide (b ≤ l) && decide (w ≤ 0)) = true) (hl : l ≤ x) (hh : x ≤ h) : 0 ≤ w * (b - x) := by
  simp only [Bool.or_eq_true, Bool.and_eq_true, decide_eq_true_eq] at h1
  rcases h1 with ⟨h1, h2⟩ | ⟨h1, h2⟩
  · exact Int.mul_nonneg h2 (by omega)
  · exact Int.mul_nonneg_of_nonpos_of_nonpos h2 (by omega)
theorem yhk_nonneg {L : yL} {lv : zL} (hl : yl L lv) : ∀ {cs : yK} {fs : List Bool}, yhk L cs fs = true → 0 ≤ ytot cs fs lv := by
  intro cs
  induction cs with
  | nil => intro fs _; cases fs <;> exact Int.le_refl _
  | cons c cs ih =>
    intro fs h
    cases fs with
    | nil => exact Int.le_refl _
    | cons f fs =>
      simp only [yhk, Bool.and_eq_true, Bool.or_eq_true, Bool.not_eq_true'] at h
      have h2 := ih h.2
      simp only [ytot]
      rcases h.1 with h1 | h1
      · simp [h1]; exact h2
      · split at h1
        · rename_i q hq
          obtain ⟨x, h3, h4, h5⟩ := yl_i hl hq
          have e : yval lv c.1 = x.toInt := by simp [yval, h3]
          split
          · have : 0 ≤ c.2.2 * (c.2.1 - yval lv c.1) := by rw [e]; exact y_sg h1 h4 h5
            omega
          · omega
        · cases h1
/-- how much the sum may have grown since the head A -/
def ydif (D : List (Nat × Int)) (LB : yL) : yK → List Bool → List Bool → Option Int
  | c :: cs, a :: fa, b :: fb => match ydif D LB cs fa fb with
    | none => none
    | some e => if b then (match (if a then D.lookup c.1 else none) with
        | some d => some (e - c.2.2 * d)
        | none => match ylk LB c.1 with
          | some (.inl q) => some (e + (if 0 ≤ c.2.2 then c.2.2 * (c.2.1 - q.1) else c.2.2 * (c.2.1 - q.2)))
          | _ => none)
      else some e
  | [], _, _ => some 0
  | _, _, _ => none
theorem ydif_sound {D : List (Nat × Int)} {LA LB : yL} {lv0 lv : zL} (hA : yl LA lv0) (hB : yl LB lv) (hD : yD D lv0 lv) : ∀ {cs : yK} {fa fb : List Bool} {e : Int}, yhk LA cs fa = true → yhk LB cs fb = true → ydif D LB cs fa fb = some e → ytot cs fb lv ≤ ytot cs fa lv0 + e := by
  intro cs
  induction cs with
  | nil =>
    intro fa fb e _ _ h
    simp only [ydif] at h
    cases h
    cases fa <;> cases fb <;> simp [ytot]
  | cons c cs ih =>
    intro fa fb e ha hb h
    cases fa with
    | nil => cases fb <;> simp [ydif] at h
    | cons a fa =>
      cases fb with
      | nil => simp [ydif] at h
      | cons b fb =>
        simp only [ydif] at h
        split at h
        · cases h
        · rename_i e0 he0
          have ha' := ha
          have hb' := hb
          simp only [yhk, Bool.and_eq_true, Bool.or_eq_true, Bool.not_eq_true'] at ha hb
          have hr := ih ha.2 hb.2 he0
          simp only [ytot]
          have hA0 : 0 ≤ (if a = true then c.2.2 * (c.2.1 - yval lv0 c.1) else 0) := by
            rcases ha.1 with h1 | h1
            · simp [h1]
            · split at h1
              · rename_i q hq
                obtain ⟨x, h3, h4, h5⟩ := yl_i hA hq
                have ev : yval lv0 c.1 = x.toInt := by simp [yval, h3]
                split
                · rw [ev]; exact y_sg h1 h4 h5
                · exact Int.le_refl _
              · cases h1
          cases b with
          | false =>
            simp only [Bool.false_eq_true, if_false] at h ⊢
            cases h
            omega
          | true =>
            simp only [if_true] at h ⊢
            split at h
            · rename_i d hd
              cases h
              cases a with
              | false => simp at hd
              | true =>
                simp only [if_true] at hd ⊢
                obtain ⟨x0, x, h3, h4, h5⟩ := hD _ (zlook hd)
                have e1 : yval lv0 c.1 = x0.toInt := by simp [yval, h3]
                have e2 : yval lv c.1 = x.toInt := by simp [yval, h4]
                have h5' : x.toInt = x0.toInt + d := h5
                rw [e1, e2, h5']
                have e3 : c.2.2 * (c.2.1 - (x0.toInt + d)) = c.2.2 * (c.2.1 - x0.toInt) - c.2.2 * d := by rw [← Int.mul_sub]; congr 1; omega
                rw [e3]
                omega
            · split at h
              · rename_i q hq
                cases h
                obtain ⟨x, h3, h4, h5⟩ := yl_i hB hq
                have e2 : yval lv c.1 = x.toInt := by simp [yval, h3]
                rw [e2]
                by_cases hw : 0 ≤ c.2.2
                · rw [if_pos hw]
                  have h6 : c.2.2 * (c.2.1 - x.toInt) ≤ c.2.2 * (c.2.1 - q.1) := Int.mul_le_mul_of_nonneg_left (by omega) hw
                  omega
                · rw [if_neg hw]
                  have h6 : c.2.2 * (c.2.1 - x.toInt) ≤ c.2.2 * (c.2.1 - q.2) := Int.mul_le_mul_of_nonpos_left (by omega) (by omega)
                  omega
              · cases h
