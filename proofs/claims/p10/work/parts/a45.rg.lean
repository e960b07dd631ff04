/-! The parts of a new call's beats lie among the kept parts and its own. -/
def xrg (L : Int) (B : List xBt) : Prop := ∀ b ∈ B, 0 ≤ b.1 ∧ b.1 ≤ b.2.1 ∧ b.2.1 ≤ L
theorem xrg_mono {L L' : Int} {B : List xBt} (hl : L ≤ L') (h : xrg L B) : xrg L' B := fun b hb => by
  obtain ⟨h1, h2, h3⟩ := h b hb
  exact ⟨h1, h2, by omega⟩
theorem xrg_app {L : Int} {A B : List xBt} (h1 : xrg L A) (h2 : xrg L B) : xrg L (A ++ B) := fun b hb => by
  rcases List.mem_append.mp hb with h | h
  · exact h1 b h
  · exact h2 b h
theorem xrg_map {L : Int} {B : List xBt} {g : xBt → xBt} (hg : ∀ b, (g b).1 = b.1 ∧ (g b).2.1 = b.2.1) (h : xrg L B) : xrg L (B.map g) := fun b hb => by
  obtain ⟨a, ha, rfl⟩ := List.mem_map.mp hb
  rw [(hg a).1, (hg a).2]
  exact h a ha
theorem xrg_drop {L : Int} {B : List xBt} {k : Nat} (h : xrg L B) : xrg L (B.drop k) := fun b hb => h b (List.mem_of_mem_drop hb)
theorem xrg_rd {L : Int} {B : List xBt} {k : Nat} {w : Int} (h : xrg L B) : ∀ t, xrg L (xrd0 B k w t) := by
  intro t
  induction t with
  | zero => intro b hb; cases hb
  | succ t ih => exact xrg_app ih (xrg_map (fun b => ⟨rfl, rfl⟩) (xrg_drop h))
theorem xrg_gk {K : List (Int × Int)} {B : List xBt} (h : xgk K B) : xrg (K.length : Nat) B := fun b hb => by
  obtain ⟨j, hj, e⟩ := List.mem_iff_getElem.mp hb
  have h1 := h j hj
  rw [List.getD_eq_getElem?_getD, List.getElem?_eq_getElem hj] at h1
  rw [← e]
  exact h1
theorem xgk_rg {K : List (Int × Int)} {B : List xBt} (h : xrg (K.length : Nat) B) : xgk K (B.map xse) := by
  intro j hj
  rw [List.length_map] at hj
  have e : (B.map xse).getD j (0, 0, 0) = xse (B.getD j (0, 0, 0)) := by
    rw [List.getD_eq_getElem?_getD, List.getElem?_map, List.getD_eq_getElem?_getD, List.getElem?_eq_getElem hj]
    rfl
  have hm : B.getD j (0, 0, 0) ∈ B := by
    rw [List.getD_eq_getElem?_getD, List.getElem?_eq_getElem hj]
    exact List.getElem_mem hj
  rw [e]
  exact h (B.getD j (0, 0, 0)) hm
def xCr (K : List (Int × Int)) (C : xC) : Prop := (0 ≤ C.1 ∧ C.1 ≤ ((K ++ C.2.2.1).length : Nat)) ∧ xrg ((K ++ C.2.2.1).length : Nat) C.2.2.2
theorem xCr_cap {K : List (Int × Int)} {C : xC} (h : xCr K C) : xCr K (xcap K C) := by
  obtain ⟨h1, h2⟩ := h
  refine ⟨h1, xrg_app h2 fun b hb => ?_⟩
  rw [List.mem_singleton.mp hb]
  exact ⟨h1.1, h1.2, Int.le_refl _⟩
theorem xCr_eos {K : List (Int × Int)} {C : xC} {op : Int} {tm oa : List Int} {ki sg : Int} (h : xCr K C) : xCr K (xceos op tm oa ki sg C) := by
  unfold xceos
  split
  · exact h
  · exact ⟨h.1, xrg_app h.2 (xrg_rd h.2 _)⟩
theorem xCr_st {K : List (Int × Int)} {G : Nat → List xBt} (hG : ∀ i, xgk K (G i)) {ki di sg sl at' ol : Int} {q : xA} {C : xC} (h : xCr K C) : xCr K (xcst K G ki di sg sl at' ol q C) := by
  unfold xcst
  split
  · exact h
  · exact h
  · split
    · exact h
    · split
      · refine ⟨h.1, xrg_app h.2 (xrg_map (fun b => ⟨rfl, rfl⟩) (xrg_mono ?_ (xrg_gk (hG _))))⟩
        rw [List.length_append]
        omega
      · split
        · exact ⟨⟨by omega, Int.le_refl _⟩, h.2⟩
        · exact h
  · exact h
  · split
    · exact h
    · exact h
  · split
    · obtain ⟨h1, h2⟩ := h
      have e : ((K ++ C.2.2.1).length : Int) ≤ ((K ++ (C.2.2.1 ++ [(C.2.1, at')])).length : Nat) := by
        simp only [List.length_append]
        omega
      exact ⟨⟨h1.1, Int.le_trans h1.2 e⟩, xrg_mono e h2⟩
    · exact h
  · split
    · exact h
    · exact xCr_eos (xCr_cap h)
  · exact xCr_eos h
theorem xCr_gc {K : List (Int × Int)} {G : Nat → List xBt} (hG : ∀ i, xgk K (G i)) {cs : List Int} {n : Nat} {nms : List (List Int)} {bc dp : Nat → Int} : ∀ (k p : Nat) (q : xA) (C : xC), xCr K C → xCr K (xgc K G cs n nms bc dp k p q C) := by
  intro k
  induction k with
  | zero => intro p q C h; exact h
  | succ k ih =>
    intro p q C h
    unfold xgc
    split
    · split
      · exact xCr_cap h
      · exact h
    · split
      · exact ⟨⟨Int.le_refl _, by show (0 : Int) ≤ _; omega⟩, fun b hb => by cases hb⟩
      · exact ih _ _ _ (xCr_st hG h)
theorem xgk_gc {K : List (Int × Int)} {G : Nat → List xBt} (hG : ∀ i, xgk K (G i)) {cs : List Int} {n : Nat} {nms : List (List Int)} {bc dp : Nat → Int} {k p : Nat} {q : xA} {C : xC} (h : C = xgc K G cs n nms bc dp k p q xC0) : xgk (K ++ C.2.2.1) (C.2.2.2.map xse) := by
  subst h
  refine xgk_rg (xCr_gc hG k p q xC0 ⟨⟨Int.le_refl _, ?_⟩, fun b hb => by cases hb⟩).2
  show (0 : Int) ≤ _
  omega
