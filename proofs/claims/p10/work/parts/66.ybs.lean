/-! Reads. -/
def yix (q : Int × Int) (n : Nat) : Option (Nat × Nat) := if 0 ≤ q.1 ∧ q.2 < (n : Int) then some (q.1.toNat, q.2.toNat) else none
theorem yix_spec {q : Int × Int} {n : Nat} {r : Nat × Nat} {x : Int32} (h : yix q n = some r) (hx : yin q x) : zin x n = true ∧ r.1 ≤ x.toNatClampNeg ∧ x.toNatClampNeg ≤ r.2 ∧ x.toNatClampNeg < n := by
  unfold yix at h
  split at h
  · rename_i hc
    cases h
    obtain ⟨h1, h2⟩ := hx
    have e : x.toNatClampNeg = x.toInt.toNat := rfl
    refine ⟨?_, by rw [e]; omega, by rw [e]; omega, by rw [e]; omega⟩
    have h3 : vp_in x n := vp_in_iff.mpr ⟨by omega, by omega⟩
    unfold zin
    simp only [Bool.and_eq_true, Bool.not_eq_true', decide_eq_false_iff_not, decide_eq_true_eq]
    exact ⟨fun h => h3 (Or.inl h), Nat.not_le.mp fun h => h3 (Or.inr h)⟩
  · cases h
def ymap (f : Nat → Option yA) : List Nat → Option (List yA)
  | [] => some []
  | o :: r => match f o, ymap f r with
    | some t, some ts => some (t :: ts)
    | _, _ => none
theorem ymap_spec {f : Nat → Option yA} : ∀ {os : List Nat} {ts : List yA}, ymap f os = some ts → ∀ o ∈ os, ∃ t ∈ ts, f o = some t := by
  intro os
  induction os with
  | nil => intro ts _ o ho; cases ho
  | cons a r ih =>
    intro ts h o ho
    simp only [ymap] at h
    split at h
    · rename_i t us h1 h2
      cases h
      rcases List.mem_cons.mp ho with rfl | ho
      · exact ⟨t, List.mem_cons_self, h1⟩
      · obtain ⟨u, h3, h4⟩ := ih h2 o ho
        exact ⟨u, List.mem_cons_of_mem _ h3, h4⟩
    · cases h
/-- one type for what may be read at any of the places -/
def yone (f : Nat → Option yA) (os : List Nat) : Option yA := match ymap f os with
  | none => none
  | some ts => match yjoin ts with
    | none => none
    | some t => if ts.all (fun u => yle u t) then some t else none
theorem yone_spec {f : Nat → Option yA} {os : List Nat} {t : yA} (h : yone f os = some t) {o : Nat} (ho : o ∈ os) : ∃ u, f o = some u ∧ yle u t = true := by
  unfold yone at h
  split at h
  · cases h
  · rename_i ts hts
    split at h
    · cases h
    · split at h
      · rename_i hall
        cases h
        obtain ⟨u, h1, h2⟩ := ymap_spec hts o ho
        exact ⟨u, h2, List.all_eq_true.mp hall u h1⟩
      · cases h
def yseg (q : Int × Int) (l : List (Nat × Int × Int)) : Option yA := match yix q (ysum l) with
  | none => none
  | some (lo, hi) => match yjoin (yruns lo hi l 0) with
    | none => none
    | some t => if yall (fun p => yle (.inl p) t) lo hi l 0 then some t else none
theorem yseg_spec {q : Int × Int} {l : List (Nat × Int × Int)} {t : yA} {x : Int32} {xs : List Int32} (h : yseg q l = some t) (hx : yin q x) (hlen : xs.length = ysum l) (hxs : ∀ (j : Nat) (p : Int × Int) (z : Int32), yat l j = some p → xs[j]? = some z → yin p z) : zin x xs.length = true ∧ yg t (.int (xs.getD x.toNatClampNeg 0)) := by
  unfold yseg at h
  split at h
  · cases h
  · rename_i lo hi hix
    obtain ⟨h1, h2, h3, h4⟩ := yix_spec hix hx
    split at h
    · cases h
    · split at h
      · rename_i hall
        cases h
        refine ⟨by rw [hlen]; exact h1, ?_⟩
        obtain ⟨p, hp⟩ := yat_some h4
        have hle := yall_spec hall (by omega : lo ≤ 0 + x.toNatClampNeg) (by omega) hp
        have hlt : x.toNatClampNeg < xs.length := by omega
        have hget : xs[x.toNatClampNeg]? = some (xs.getD x.toNatClampNeg 0) := by
          rw [List.getD_eq_getElem?_getD, List.getElem?_eq_getElem hlt]
          rfl
        exact yle_sound hle (yg_int (hxs _ _ _ hp hget))
      · cases h
def yfld (Tg T : List yC) (a b o : Nat) : Option yA := match yrd Tg T o with
  | some (.inl x) => if x.1 = a then x.2[b]? else none
  | _ => none
def ylen (Tg T : List yC) (a o : Nat) : Option yA := match yrd Tg T o with
  | some (.inr (.inl x)) => if (o < 50 ∨ x.1 = 0) ∧ ysum x.2 < 100000 then some (.inl ((ysum x.2 : Int), (ysum x.2 : Int))) else none
  | some (.inr (.inr (.inr x))) => if x.1 = a ∧ a ≠ 98 ∧ x.2.length < 100000 then some (.inl ((x.2.length : Int), (x.2.length : Int))) else none
  | _ => none
def yint (Tg T : List yC) (kd : Nat) (q : Int × Int) (o : Nat) : Option yA := match yrd Tg T o with
  | some (.inr (.inl x)) => if x.1 = kd then yseg q x.2 else none
  | _ => none
def ylng (Tg T : List yC) (q : Int × Int) (o : Nat) : Option yA := match yrd Tg T o with
  | some (.inr (.inr (.inl n))) => match yix q n with
    | some _ => some ylong
    | none => none
  | _ => none
def yref (Tg T : List yC) (a : Nat) (q : Int × Int) (o : Nat) : Option yA := match yrd Tg T o with
  | some (.inr (.inr (.inr x))) => if x.1 = a then match yix q x.2.length with
    | some (lo, hi) => some (.inr (.inr ((x.2.drop lo).take (hi + 1 - lo)).flatten))
    | none => none
    else none
  | _ => none
def yb (Tg T : List yC) (i : Instr) (a b : Nat) (S : yS) : Option (Nat × yS) := match i with
  | .getfield _ => match S with
    | (.inr (.inr os), _) :: r => match yone (yfld Tg T a b) os with
      | some t => some (3, (t, 0) :: r)
      | none => none
    | _ => none
  | .arraylength => match S with
    | (.inr (.inr os), _) :: r => match yone (ylen Tg T a) os with
      | some t => some (1, (t, 0) :: r)
      | none => none
    | _ => none
  | .iaload => match S with
    | (.inl q, _) :: (.inr (.inr os), _) :: r => match yone (yint Tg T 0 q) os with
      | some t => some (1, (t, 0) :: r)
      | none => none
    | _ => none
  | .caload => match S with
    | (.inl q, _) :: (.inr (.inr os), _) :: r => match yone (yint Tg T 1 q) os with
      | some t => some (1, (t, 0) :: r)
      | none => none
    | _ => none
  | .baload => match S with
    | (.inl q, _) :: (.inr (.inr os), _) :: r => match yone (yint Tg T 2 q) os with
      | some t => some (1, (t, 0) :: r)
      | none => none
    | _ => none
  | .laload => match S with
    | (.inl q, _) :: (.inr (.inr os), _) :: r => match yone (ylng Tg T q) os with
      | some t => some (1, (t, 0) :: r)
      | none => none
    | _ => none
  | .aaload => match S with
    | (.inl q, _) :: (.inr (.inr os), _) :: r => match yone (yref Tg T a q) os with
      | some t => some (1, (t, 0) :: r)
      | none => none
    | _ => none
  | _ => none
theorem y_nat {n : Nat} (h : n < 100000) : yg (.inl ((n : Int), (n : Int))) (.int (Int32.ofNat n)) := by
  have e : (Int32.ofNat n).toInt = (n : Int) := nI_toInt (n := n) (by omega)
  exact ⟨_, rfl, by rw [e]; exact Int.le_refl _, by rw [e]; exact Int.le_refl _⟩
section yBS
variable {Tg T : List yC} {G : List zE} {X : zX} {lv : zL}
theorem yfld_sound (hg : yMg Tg G) (hM : yM T X.1) {a b o : Nat} {u : yA} (h : yfld Tg T a b o = some u) : ∃ fs v, zrd G X o = some (.inl (a, fs)) ∧ fs[b]? = some v ∧ yg u v := by
  unfold yfld at h
  split at h
  · rename_i x hx
    split at h
    · rename_i ha
      obtain ⟨c, h1, h2⟩ := yrd_sound hg hM hx
      cases c with
      | inl y =>
        obtain ⟨h3, h4, h5⟩ := h2
        have hlt : b < y.2.length := by rw [← h4]; exact (List.getElem?_eq_some_iff.mp h).1
        refine ⟨y.2, y.2[b], ?_, List.getElem?_eq_getElem hlt, h5 b u _ h (List.getElem?_eq_getElem hlt)⟩
        rw [h1, ← ha, h3]
      | inr y => exact absurd h2 (by intro hh; cases y <;> exact hh)
    · cases h
  · cases h
end yBS
