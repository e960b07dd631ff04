/-! Reads are sound; writes. -/
section yBT
variable {Tg T : List yC} {G : List zE} {X : zX} {lv : zL}
theorem ylen_sound (hg : yMg Tg G) (hM : yM T X.1) {a o : Nat} {u : yA} (h : ylen Tg T a o = some u) {r : List Value} (b : Nat) : ∃ v, zb G .arraylength a b (.ref o :: r) X = some (1, v :: r) ∧ yg u v := by
  unfold ylen at h
  split at h
  · rename_i x hx
    split at h
    · rename_i hc
      cases h
      obtain ⟨c, h1, h2⟩ := yrd_sound hg hM hx
      cases c with
      | inl y => exact h2.elim
      | inr y => cases y with
        | inl y =>
          obtain ⟨kd, xs⟩ := y
          obtain ⟨h3, h4, h5⟩ := h2
          have h3' : x.1 = kd := h3
          have h4' : xs.length = ysum x.2 := h4
          refine ⟨.int (Int32.ofNat xs.length), ?_, by rw [h4']; exact y_nat hc.2⟩
          simp only [zb, h1]
          rw [if_pos (by rw [← h3']; exact hc.1)]
        | inr y => exact absurd h2 (by intro hh; cases y <;> exact hh)
    · cases h
  · rename_i x hx
    split at h
    · rename_i hc
      cases h
      obtain ⟨c, h1, h2⟩ := yrd_sound hg hM hx
      cases c with
      | inl y => exact h2.elim
      | inr y => cases y with
        | inl y => exact h2.elim
        | inr y => cases y with
          | inl y => exact h2.elim
          | inr y =>
            obtain ⟨kd, xs⟩ := y
            obtain ⟨h3, h4, h5⟩ := h2
            have h3' : x.1 = kd := h3
            have h4' : x.2.length = xs.length := h4
            refine ⟨.int (Int32.ofNat xs.length), ?_, by rw [← h4']; exact y_nat hc.2.2⟩
            simp only [zb, h1]
            rw [if_pos ⟨by rw [← h3']; exact hc.1, hc.2.1⟩]
    · cases h
  · cases h
theorem yint_sound (hg : yMg Tg G) (hM : yM T X.1) {kd o : Nat} {q : Int × Int} {u : yA} {x : Int32} (h : yint Tg T kd q o = some u) (hx : yin q x) : ∃ xs, zrd G X o = some (.inr (.inl (kd, xs))) ∧ zin x xs.length = true ∧ yg u (.int (xs.getD x.toNatClampNeg 0)) := by
  unfold yint at h
  split at h
  · rename_i y hy
    split at h
    · rename_i hk
      obtain ⟨c, h1, h2⟩ := yrd_sound hg hM hy
      cases c with
      | inl z => exact h2.elim
      | inr z => cases z with
        | inl z =>
          obtain ⟨k2, xs⟩ := z
          obtain ⟨h3, h4, h5⟩ := h2
          have h3' : y.1 = k2 := h3
          obtain ⟨h6, h7⟩ := yseg_spec h hx h4 h5
          exact ⟨xs, by rw [h1, ← hk, h3'], h6, h7⟩
        | inr z => exact absurd h2 (by intro hh; cases z <;> exact hh)
    · cases h
  · cases h
theorem ylng_sound (hg : yMg Tg G) (hM : yM T X.1) {o : Nat} {q : Int × Int} {u : yA} {x : Int32} (h : ylng Tg T q o = some u) (hx : yin q x) : ∃ xs, zrd G X o = some (.inr (.inr (.inl xs))) ∧ zin x xs.length = true ∧ u = ylong := by
  unfold ylng at h
  split at h
  · rename_i n hy
    split at h
    · rename_i w hix
      cases h
      obtain ⟨c, h1, h2⟩ := yrd_sound hg hM hy
      cases c with
      | inl z => exact h2.elim
      | inr z => cases z with
        | inl z => exact h2.elim
        | inr z => cases z with
          | inl xs =>
            have h3 : xs.length = n := h2
            exact ⟨xs, h1, by rw [h3]; exact (yix_spec hix hx).1, rfl⟩
          | inr z => exact h2.elim
    · cases h
  · cases h
theorem yref_sound (hg : yMg Tg G) (hM : yM T X.1) {a o : Nat} {q : Int × Int} {u : yA} {x : Int32} (h : yref Tg T a q o = some u) (hx : yin q x) : ∃ xs p, zrd G X o = some (.inr (.inr (.inr (a, xs)))) ∧ zin x xs.length = true ∧ xs.getD x.toNatClampNeg none = some p ∧ yg u (.ref p) := by
  unfold yref at h
  split at h
  · rename_i y hy
    split at h
    · rename_i ha
      split at h
      · rename_i lo hi hix
        cases h
        obtain ⟨c, h1, h2⟩ := yrd_sound hg hM hy
        cases c with
        | inl z => exact h2.elim
        | inr z => cases z with
          | inl z => exact h2.elim
          | inr z => cases z with
            | inl z => exact h2.elim
            | inr z =>
              obtain ⟨k2, xs⟩ := z
              obtain ⟨h3, h4, h5⟩ := h2
              have h3' : y.1 = k2 := h3
              have h4' : y.2.length = xs.length := h4
              obtain ⟨g1, g2, g3, g4⟩ := yix_spec hix hx
              have hl1 : x.toNatClampNeg < y.2.length := g4
              have hl2 : x.toNatClampNeg < xs.length := by omega
              obtain ⟨p, hp, hm⟩ := h5 x.toNatClampNeg y.2[x.toNatClampNeg] xs[x.toNatClampNeg] (List.getElem?_eq_getElem hl1) (List.getElem?_eq_getElem hl2)
              refine ⟨xs, p, by rw [h1, ← ha, h3'], by rw [← h4']; exact g1, ?_, p, rfl, ?_⟩
              · rw [List.getD_eq_getElem?_getD, List.getElem?_eq_getElem hl2]
                exact hp
              · refine List.mem_flatten.mpr ⟨y.2[x.toNatClampNeg], ?_, hm⟩
                refine List.mem_of_getElem? (i := x.toNatClampNeg - lo) ?_
                have g2' : lo ≤ x.toNatClampNeg := g2
                have g3' : x.toNatClampNeg ≤ hi := g3
                rw [List.getElem?_take, if_pos (by omega), List.getElem?_drop, show lo + (x.toNatClampNeg - lo) = x.toNatClampNeg by omega]
                exact List.getElem?_eq_getElem hl1
      · cases h
    · cases h
  · cases h
theorem yb_sound {i : Instr} {a b : Nat} {S : yS} {st : List Value} {w : Nat × yS} (hg : yMg Tg G) (hM : yM T X.1) (h : yb Tg T i a b S = some w) (hs : ys S st lv) : ∃ q, zb G i a b st X = some q ∧ q.1 = w.1 ∧ ys w.2 q.2 lv := by
  cases i with
  | getfield z =>
    simp only [yb] at h
    split at h
    · split at h
      · rename_i t ht
        cases h
        obtain ⟨o, r, rfl, ho, hp, hr⟩ := ys_ref hs
        obtain ⟨u, h1, h2⟩ := yone_spec ht ho
        obtain ⟨fs, v, h3, h4, h5⟩ := yfld_sound hg hM h1
        exact ⟨(3, v :: r), by simp [zb, h3, h4], rfl, ys_0 (yle_sound h2 h5) hr⟩
      · cases h
    · cases h
  | arraylength =>
    simp only [yb] at h
    split at h
    · split at h
      · rename_i t ht
        cases h
        obtain ⟨o, r, rfl, ho, hp, hr⟩ := ys_ref hs
        obtain ⟨u, h1, h2⟩ := yone_spec ht ho
        obtain ⟨v, h3, h4⟩ := ylen_sound (r := r) hg hM h1 b
        exact ⟨_, h3, rfl, ys_0 (yle_sound h2 h4) hr⟩
      · cases h
    · cases h
  | iaload =>
    simp only [yb] at h
    split at h
    · split at h
      · rename_i t ht
        cases h
        obtain ⟨x, r0, rfl, hx, hp, hr0⟩ := ys_int hs
        obtain ⟨o, r, rfl, ho, hp2, hr⟩ := ys_ref hr0
        obtain ⟨u, h1, h2⟩ := yone_spec ht ho
        obtain ⟨xs, h3, h4, h5⟩ := yint_sound hg hM h1 hx
        exact ⟨(1, .int (xs.getD x.toNatClampNeg 0) :: r), by simp only [zb, h3]; rw [if_pos h4], rfl, ys_0 (yle_sound h2 h5) hr⟩
      · cases h
    · cases h
  | caload =>
    simp only [yb] at h
    split at h
    · split at h
      · rename_i t ht
        cases h
        obtain ⟨x, r0, rfl, hx, hp, hr0⟩ := ys_int hs
        obtain ⟨o, r, rfl, ho, hp2, hr⟩ := ys_ref hr0
        obtain ⟨u, h1, h2⟩ := yone_spec ht ho
        obtain ⟨xs, h3, h4, h5⟩ := yint_sound hg hM h1 hx
        exact ⟨(1, .int (xs.getD x.toNatClampNeg 0) :: r), by simp only [zb, h3]; rw [if_pos h4], rfl, ys_0 (yle_sound h2 h5) hr⟩
      · cases h
    · cases h
  | baload =>
    simp only [yb] at h
    split at h
    · split at h
      · rename_i t ht
        cases h
        obtain ⟨x, r0, rfl, hx, hp, hr0⟩ := ys_int hs
        obtain ⟨o, r, rfl, ho, hp2, hr⟩ := ys_ref hr0
        obtain ⟨u, h1, h2⟩ := yone_spec ht ho
        obtain ⟨xs, h3, h4, h5⟩ := yint_sound hg hM h1 hx
        exact ⟨(1, .int (xs.getD x.toNatClampNeg 0) :: r), by simp only [zb, h3]; rw [if_pos h4], rfl, ys_0 (yle_sound h2 h5) hr⟩
      · cases h
    · cases h
  | laload =>
    simp only [yb] at h
    split at h
    · split at h
      · rename_i t ht
        cases h
        obtain ⟨x, r0, rfl, hx, hp, hr0⟩ := ys_int hs
        obtain ⟨o, r, rfl, ho, hp2, hr⟩ := ys_ref hr0
        obtain ⟨u, h1, h2⟩ := yone_spec ht ho
        obtain ⟨xs, h3, h4, h5⟩ := ylng_sound hg hM h1 hx
        exact ⟨(1, .long (xs.getD x.toNatClampNeg 0) :: r), by simp only [zb, h3]; rw [if_pos h4], rfl, ys_0 (yle_sound h2 (by rw [h5]; exact yg_l _)) hr⟩
      · cases h
    · cases h
  | aaload =>
    simp only [yb] at h
    split at h
    · split at h
      · rename_i t ht
        cases h
        obtain ⟨x, r0, rfl, hx, hp, hr0⟩ := ys_int hs
        obtain ⟨o, r, rfl, ho, hp2, hr⟩ := ys_ref hr0
        obtain ⟨u, h1, h2⟩ := yone_spec ht ho
        obtain ⟨xs, p, h3, h4, h5, h6⟩ := yref_sound hg hM h1 hx
        exact ⟨(1, .ref p :: r), by simp only [zb, h3]; rw [if_pos ⟨trivial, h4⟩]; simp only [h5], rfl, ys_0 (yle_sound h2 h6) hr⟩
      · cases h
    · cases h
  | _ => simp [yb] at h
end yBT
