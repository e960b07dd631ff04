/-! The law's own methods: they call, and catch. -/
def xHQ (f : Nat → zE) (u : Nat × Nat) (o : zO) (X : zX) : Prop := ∃ (z : Int) (f' : Nat → zE) (u' : Nat × Nat), o = .inl (some (xi z)) ∧ X = (xh f', u') ∧ xD f f' ∧ u'.1 ≤ u.1 + 1 ∧ u'.2 ≤ u.2 + 6
theorem xD_203 {f : Nat → zE} (hM : yM yT2 (xh f)) : ∃ l : List Int64, f 203 = .inr (.inr (.inl l)) ∧ l.length = 1 ∧ ∀ g : Int64, xD f (xu f 203 (.inr (.inr (.inl (l.set 0 g))))) := by
  have hok := xM_at hM (p := 203) (by decide) (show yT2[203 - 50]? = some (.inr (.inr (.inl 1))) from rfl)
  generalize hf : f 203 = c at hok
  match c, hf, hok with
  | .inr (.inr (.inl l)), hf, hok =>
    have hl : l.length = 1 := hok
    refine ⟨l, rfl, hl, fun g => ⟨yM_xu hM (by decide) (show yT2[203 - 50]? = some (.inr (.inr (.inl 1))) from rfl) (show (l.set 0 g).length = 1 by rw [List.length_set]; exact hl), yF_xu (fun _ _ => rfl) (by decide) (by decide +kernel), ?_⟩⟩
    rw [← xh_set (by decide)]
    have e := xh_at (f := f) (p := 203) (by decide) (by decide)
    rw [hf] at e
    exact zkeep_a e
theorem xH88 {v0 : Value} {xs : List Int32} {u : Nat × Nat} {f : Nat → zE} {z1 : Int} (hM : yM yT2 (xh f)) (hA : xca f 87 [.inr (.inr [50]), .inl ytop] (some (.inl ytop)) [100]) : xz v0 xs u (xHQ f u) 88 0 [(0, .ref 50), (1, xi z1), (2, .ref 203)] [] f := by
  obtain ⟨dd, lf, lc, h50, -⟩ := xINV_50 hM
  refine x_aload_n rfl rfl ?_
  refine x_iconst rfl ?_
  refine x_aload_n rfl rfl ?_
  refine x_iload_n rfl rfl ?_
  refine x_callT [_, _] rfl rfl (show (2 : Nat) ≤ 8 from by decide) (show (2 : Nat) ≤ 2 from by decide) (x_rcv (by decide) h50) (hA v0 xs u [.ref 50, xi z1] ⟨ygr, ygt, trivial⟩) (fun r' X' hq => ?_) (fun x X' hq => ?_)
  · rcases hq with ⟨r, f', e1, e2, hr, hD⟩ | ⟨x, f', e1, -⟩
    · cases e1
      subst e2
      match r', hr with
      | none, hr => exact hr.elim
      | some v, hr =>
        obtain ⟨y, rfl, y1, y2⟩ := yg_i hr
        obtain ⟨l, h203, hl, hw⟩ := xD_203 hD.1
        show xz v0 xs u (xHQ f u) 88 7 _ [xi y, xi 0, .ref 203] f'
        refine x_i2l rfl ?_
        refine x_lastore rfl (by decide) h203 ⟨by omega, by omega⟩ (by omega) ?_
        refine x_goto (t := 15) rfl rfl ?_
        refine x_iconst rfl ?_
        refine x_ireturn rfl (Or.inl rfl) ?_
        exact ⟨0, _, u, rfl, rfl, xD_t hD (hw _), by omega, by omega⟩
    · cases e1
  · rcases hq with ⟨r, f', e1, -⟩ | ⟨x', f', e1, hx, e3, hD⟩
    · cases e1
    · cases e1
      subst e3
      have hx1 := List.mem_singleton.mp hx
      subst hx1
      · refine ⟨(12, 3), (show zHN 88 4 100 ≠ none from by decide), rfl, ?_⟩
        show xz v0 xs (u.1 + 1, u.2 + 6) (xHQ f u) 88 13 _ [] f'
        refine x_iconst rfl ?_
        refine x_ireturn rfl (Or.inl rfl) ?_
        exact ⟨1, _, _, rfl, rfl, hD, Nat.le_refl _, Nat.le_refl _⟩
theorem xH109 {v0 : Value} {xs : List Int32} {u : Nat × Nat} {f : Nat → zE} {z1 : Int} (hM : yM yT2 (xh f)) (hA : xca f 108 [.inr (.inr [50]), .inl ytop] (some (.inl ytop)) [100, 101]) : xz v0 xs u (xHQ f u) 109 0 [(0, .ref 50), (1, xi z1), (2, .ref 203)] [] f := by
  obtain ⟨dd, lf, lc, h50, -⟩ := xINV_50 hM
  refine x_aload_n rfl rfl ?_
  refine x_iconst rfl ?_
  refine x_aload_n rfl rfl ?_
  refine x_iload_n rfl rfl ?_
  refine x_callT [_, _] rfl rfl (show (2 : Nat) ≤ 8 from by decide) (show (2 : Nat) ≤ 2 from by decide) (x_rcv (by decide) h50) (hA v0 xs u [.ref 50, xi z1] ⟨ygr, ygt, trivial⟩) (fun r' X' hq => ?_) (fun x X' hq => ?_)
  · rcases hq with ⟨r, f', e1, e2, hr, hD⟩ | ⟨x, f', e1, -⟩
    · cases e1
      subst e2
      match r', hr with
      | none, hr => exact hr.elim
      | some v, hr =>
        obtain ⟨y, rfl, y1, y2⟩ := yg_i hr
        obtain ⟨l, h203, hl, hw⟩ := xD_203 hD.1
        show xz v0 xs u (xHQ f u) 109 7 _ [xi y, xi 0, .ref 203] f'
        refine x_i2l rfl ?_
        refine x_lastore rfl (by decide) h203 ⟨by omega, by omega⟩ (by omega) ?_
        refine x_goto (t := 18) rfl rfl ?_
        refine x_iconst rfl ?_
        refine x_ireturn rfl (Or.inl rfl) ?_
        exact ⟨0, _, u, rfl, rfl, xD_t hD (hw _), by omega, by omega⟩
    · cases e1
  · rcases hq with ⟨r, f', e1, -⟩ | ⟨x', f', e1, hx, e3, hD⟩
    · cases e1
    · cases e1
      subst e3
      rcases (show x = 100 ∨ x = 101 by simpa using hx) with rfl | rfl
      · refine ⟨(12, 3), (show zHN 109 4 100 ≠ none from by decide), rfl, ?_⟩
        show xz v0 xs (u.1 + 1, u.2 + 6) (xHQ f u) 109 13 _ [] f'
        refine x_iconst rfl ?_
        refine x_ireturn rfl (Or.inl rfl) ?_
        exact ⟨1, _, _, rfl, rfl, hD, Nat.le_refl _, Nat.le_refl _⟩
      · refine ⟨(15, 3), (show zHN 109 4 101 ≠ none from by decide), rfl, ?_⟩
        show xz v0 xs (u.1 + 1, u.2 + 6) (xHQ f u) 109 16 _ [] f'
        refine x_iconst rfl ?_
        refine x_ireturn rfl (Or.inl rfl) ?_
        exact ⟨2, _, _, rfl, rfl, hD, Nat.le_refl _, Nat.le_refl _⟩
theorem xH127 {v0 : Value} {xs : List Int32} {u : Nat × Nat} {f : Nat → zE} {z1 : Int} (hM : yM yT2 (xh f)) (hA : xca f 126 [.inr (.inr [50]), .inl ytop] (some (.inl ytop)) [100, 101]) : xz v0 xs u (xHQ f u) 127 0 [(0, .ref 50), (1, xi z1), (2, .ref 203)] [] f := by
  obtain ⟨dd, lf, lc, h50, -⟩ := xINV_50 hM
  refine x_aload_n rfl rfl ?_
  refine x_iconst rfl ?_
  refine x_aload_n rfl rfl ?_
  refine x_iload_n rfl rfl ?_
  refine x_callT [_, _] rfl rfl (show (2 : Nat) ≤ 8 from by decide) (show (2 : Nat) ≤ 2 from by decide) (x_rcv (by decide) h50) (hA v0 xs u [.ref 50, xi z1] ⟨ygr, ygt, trivial⟩) (fun r' X' hq => ?_) (fun x X' hq => ?_)
  · rcases hq with ⟨r, f', e1, e2, hr, hD⟩ | ⟨x, f', e1, -⟩
    · cases e1
      subst e2
      match r', hr with
      | none, hr => exact hr.elim
      | some v, hr =>
        obtain ⟨y, rfl, y1, y2⟩ := yg_i hr
        obtain ⟨l, h203, hl, hw⟩ := xD_203 hD.1
        show xz v0 xs u (xHQ f u) 127 7 _ [xi y, xi 0, .ref 203] f'
        refine x_i2l rfl ?_
        refine x_lastore rfl (by decide) h203 ⟨by omega, by omega⟩ (by omega) ?_
        refine x_goto (t := 18) rfl rfl ?_
        refine x_iconst rfl ?_
        refine x_ireturn rfl (Or.inl rfl) ?_
        exact ⟨0, _, u, rfl, rfl, xD_t hD (hw _), by omega, by omega⟩
    · cases e1
  · rcases hq with ⟨r, f', e1, -⟩ | ⟨x', f', e1, hx, e3, hD⟩
    · cases e1
    · cases e1
      subst e3
      rcases (show x = 100 ∨ x = 101 by simpa using hx) with rfl | rfl
      · refine ⟨(12, 3), (show zHN 127 4 100 ≠ none from by decide), rfl, ?_⟩
        show xz v0 xs (u.1 + 1, u.2 + 6) (xHQ f u) 127 13 _ [] f'
        refine x_iconst rfl ?_
        refine x_ireturn rfl (Or.inl rfl) ?_
        exact ⟨1, _, _, rfl, rfl, hD, Nat.le_refl _, Nat.le_refl _⟩
      · refine ⟨(15, 3), (show zHN 127 4 101 ≠ none from by decide), rfl, ?_⟩
        show xz v0 xs (u.1 + 1, u.2 + 6) (xHQ f u) 127 16 _ [] f'
        refine x_iconst rfl ?_
        refine x_ireturn rfl (Or.inl rfl) ?_
        exact ⟨2, _, _, rfl, rfl, hD, Nat.le_refl _, Nat.le_refl _⟩
theorem xH132 {v0 : Value} {xs : List Int32} {u : Nat × Nat} {f : Nat → zE} (hM : yM yT2 (xh f)) (hA : xca f 131 [.inr (.inr [50])] (some (.inl (0, 16))) [101]) : xz v0 xs u (xHQ f u) 132 0 [(0, .ref 50), (1, .ref 203)] [] f := by
  obtain ⟨dd, lf, lc, h50, -⟩ := xINV_50 hM
  refine x_aload_n rfl rfl ?_
  refine x_iconst rfl ?_
  refine x_aload_n rfl rfl ?_
  refine x_callT [_] rfl rfl (show (2 : Nat) ≤ 8 from by decide) (show (1 : Nat) ≤ 2 from by decide) (x_rcv (by decide) h50) (hA v0 xs u [.ref 50] ⟨ygr, trivial⟩) (fun r' X' hq => ?_) (fun x X' hq => ?_)
  · rcases hq with ⟨r, f', e1, e2, hr, hD⟩ | ⟨x, f', e1, -⟩
    · cases e1
      subst e2
      match r', hr with
      | none, hr => exact hr.elim
      | some v, hr =>
        obtain ⟨y, rfl, y1, y2⟩ := yg_i hr
        obtain ⟨l, h203, hl, hw⟩ := xD_203 hD.1
        show xz v0 xs u (xHQ f u) 132 6 _ [xi y, xi 0, .ref 203] f'
        refine x_i2l rfl ?_
        refine x_lastore rfl (by decide) h203 ⟨by omega, by omega⟩ (by omega) ?_
        refine x_goto (t := 14) rfl rfl ?_
        refine x_iconst rfl ?_
        refine x_ireturn rfl (Or.inl rfl) ?_
        exact ⟨0, _, u, rfl, rfl, xD_t hD (hw _), by omega, by omega⟩
    · cases e1
  · rcases hq with ⟨r, f', e1, -⟩ | ⟨x', f', e1, hx, e3, hD⟩
    · cases e1
    · cases e1
      subst e3
      have hx1 := List.mem_singleton.mp hx
      subst hx1
      · refine ⟨(11, 2), (show zHN 132 3 101 ≠ none from by decide), rfl, ?_⟩
        show xz v0 xs (u.1 + 1, u.2 + 6) (xHQ f u) 132 12 _ [] f'
        refine x_iconst rfl ?_
        refine x_ireturn rfl (Or.inl rfl) ?_
        exact ⟨1, _, _, rfl, rfl, hD, Nat.le_refl _, Nat.le_refl _⟩
theorem xH139 {v0 : Value} {xs : List Int32} {u : Nat × Nat} {f : Nat → zE} {z1 z2 : Int} (hM : yM yT2 (xh f)) (hA : xca f 138 [.inr (.inr [50]), .inl ytop, .inl ytop] (some (.inl (0, 9))) [100]) : xz v0 xs u (xHQ f u) 139 0 [(0, .ref 50), (1, xi z1), (2, xi z2), (3, .ref 203)] [] f := by
  obtain ⟨dd, lf, lc, h50, -⟩ := xINV_50 hM
  refine x_aload_n rfl rfl ?_
  refine x_iconst rfl ?_
  refine x_aload_n rfl rfl ?_
  refine x_iload_n rfl rfl ?_
  refine x_iload_n rfl rfl ?_
  refine x_callT [_, _, _] rfl rfl (show (2 : Nat) ≤ 8 from by decide) (show (3 : Nat) ≤ 4 from by decide) (x_rcv (by decide) h50) (hA v0 xs u [.ref 50, xi z1, xi z2] ⟨ygr, ygt, ygt, trivial⟩) (fun r' X' hq => ?_) (fun x X' hq => ?_)
  · rcases hq with ⟨r, f', e1, e2, hr, hD⟩ | ⟨x, f', e1, -⟩
    · cases e1
      subst e2
      match r', hr with
      | none, hr => exact hr.elim
      | some v, hr =>
        obtain ⟨y, rfl, y1, y2⟩ := yg_i hr
        obtain ⟨l, h203, hl, hw⟩ := xD_203 hD.1
        show xz v0 xs u (xHQ f u) 139 8 _ [xi y, xi 0, .ref 203] f'
        refine x_i2l rfl ?_
        refine x_lastore rfl (by decide) h203 ⟨by omega, by omega⟩ (by omega) ?_
        refine x_goto (t := 17) rfl rfl ?_
        refine x_iconst rfl ?_
        refine x_ireturn rfl (Or.inl rfl) ?_
        exact ⟨0, _, u, rfl, rfl, xD_t hD (hw _), by omega, by omega⟩
    · cases e1
  · rcases hq with ⟨r, f', e1, -⟩ | ⟨x', f', e1, hx, e3, hD⟩
    · cases e1
    · cases e1
      subst e3
      have hx1 := List.mem_singleton.mp hx
      subst hx1
      · refine ⟨(14, 4), (show zHN 139 5 100 ≠ none from by decide), rfl, ?_⟩
        show xz v0 xs (u.1 + 1, u.2 + 6) (xHQ f u) 139 15 _ [] f'
        refine x_iconst rfl ?_
        refine x_ireturn rfl (Or.inl rfl) ?_
        exact ⟨1, _, _, rfl, rfl, hD, Nat.le_refl _, Nat.le_refl _⟩
theorem xH144 {v0 : Value} {xs : List Int32} {u : Nat × Nat} {f : Nat → zE} {z1 z2 : Int} (hM : yM yT2 (xh f)) (hA : xca f 143 [.inr (.inr [50]), .inl ytop, .inl ytop] (some (.inl (0, 99))) [100, 102]) : xz v0 xs u (xHQ f u) 144 0 [(0, .ref 50), (1, xi z1), (2, xi z2), (3, .ref 203)] [] f := by
  obtain ⟨dd, lf, lc, h50, -⟩ := xINV_50 hM
  refine x_aload_n rfl rfl ?_
  refine x_iconst rfl ?_
  refine x_aload_n rfl rfl ?_
  refine x_iload_n rfl rfl ?_
  refine x_iload_n rfl rfl ?_
  refine x_callT [_, _, _] rfl rfl (show (2 : Nat) ≤ 8 from by decide) (show (3 : Nat) ≤ 4 from by decide) (x_rcv (by decide) h50) (hA v0 xs u [.ref 50, xi z1, xi z2] ⟨ygr, ygt, ygt, trivial⟩) (fun r' X' hq => ?_) (fun x X' hq => ?_)
  · rcases hq with ⟨r, f', e1, e2, hr, hD⟩ | ⟨x, f', e1, -⟩
    · cases e1
      subst e2
      match r', hr with
      | none, hr => exact hr.elim
      | some v, hr =>
        obtain ⟨y, rfl, y1, y2⟩ := yg_i hr
        obtain ⟨l, h203, hl, hw⟩ := xD_203 hD.1
        show xz v0 xs u (xHQ f u) 144 8 _ [xi y, xi 0, .ref 203] f'
        refine x_i2l rfl ?_
        refine x_lastore rfl (by decide) h203 ⟨by omega, by omega⟩ (by omega) ?_
        refine x_goto (t := 21) rfl rfl ?_
        refine x_iconst rfl ?_
        refine x_ireturn rfl (Or.inl rfl) ?_
        exact ⟨0, _, u, rfl, rfl, xD_t hD (hw _), by omega, by omega⟩
    · cases e1
  · rcases hq with ⟨r, f', e1, -⟩ | ⟨x', f', e1, hx, e3, hD⟩
    · cases e1
    · cases e1
      subst e3
      rcases (show x = 100 ∨ x = 102 by simpa using hx) with rfl | rfl
      · refine ⟨(14, 4), (show zHN 144 5 100 ≠ none from by decide), rfl, ?_⟩
        show xz v0 xs (u.1 + 1, u.2 + 6) (xHQ f u) 144 15 _ [] f'
        refine x_iconst rfl ?_
        refine x_ireturn rfl (Or.inl rfl) ?_
        exact ⟨1, _, _, rfl, rfl, hD, Nat.le_refl _, Nat.le_refl _⟩
      · refine ⟨(18, 4), (show zHN 144 5 102 ≠ none from by decide), rfl, ?_⟩
        show xz v0 xs (u.1 + 1, u.2 + 6) (xHQ f u) 144 19 _ [] f'
        refine x_iconst rfl ?_
        refine x_ireturn rfl (Or.inl rfl) ?_
        exact ⟨2, _, _, rfl, rfl, hD, Nat.le_refl _, Nat.le_refl _⟩
theorem xH147 {v0 : Value} {xs : List Int32} {u : Nat × Nat} {f : Nat → zE} {z1 z2 : Int} (hM : yM yT2 (xh f)) (hA : xca f 146 [.inr (.inr [50]), .inl ytop, .inl ytop] (some (.inl (0, 1))) [100]) : xz v0 xs u (xHQ f u) 147 0 [(0, .ref 50), (1, xi z1), (2, xi z2), (3, .ref 203)] [] f := by
  obtain ⟨dd, lf, lc, h50, -⟩ := xINV_50 hM
  refine x_aload_n rfl rfl ?_
  refine x_iconst rfl ?_
  refine x_aload_n rfl rfl ?_
  refine x_iload_n rfl rfl ?_
  refine x_iload_n rfl rfl ?_
  refine x_callT [_, _, _] rfl rfl (show (2 : Nat) ≤ 8 from by decide) (show (3 : Nat) ≤ 3 from by decide) (x_rcv (by decide) h50) (hA v0 xs u [.ref 50, xi z1, xi z2] ⟨ygr, ygt, ygt, trivial⟩) (fun r' X' hq => ?_) (fun x X' hq => ?_)
  · rcases hq with ⟨r, f', e1, e2, hr, hD⟩ | ⟨x, f', e1, -⟩
    · cases e1
      subst e2
      match r', hr with
      | none, hr => exact hr.elim
      | some v, hr =>
        obtain ⟨y, rfl, y1, y2⟩ := yg_i hr
        obtain ⟨l, h203, hl, hw⟩ := xD_203 hD.1
        show xz v0 xs u (xHQ f u) 147 8 _ [xi y, xi 0, .ref 203] f'
        refine x_ifeq (t := 15) rfl rfl ⟨by omega, by omega⟩ (fun _ => ?_) (fun _ => ?_)
        · refine x_lconst rfl ?_
          refine x_lastore rfl (by decide) h203 ⟨by omega, by omega⟩ (by omega) ?_
          refine x_goto (t := 24) rfl rfl ?_
          refine x_iconst rfl ?_
          refine x_ireturn rfl (Or.inl rfl) ?_
          exact ⟨0, _, u, rfl, rfl, xD_t hD (hw _), by omega, by omega⟩
        · refine x_lconst rfl ?_
          refine x_goto (t := 16) rfl rfl ?_
          refine x_lastore rfl (by decide) h203 ⟨by omega, by omega⟩ (by omega) ?_
          refine x_goto (t := 24) rfl rfl ?_
          refine x_iconst rfl ?_
          refine x_ireturn rfl (Or.inl rfl) ?_
          exact ⟨0, _, u, rfl, rfl, xD_t hD (hw _), by omega, by omega⟩
    · cases e1
  · rcases hq with ⟨r, f', e1, -⟩ | ⟨x', f', e1, hx, e3, hD⟩
    · cases e1
    · cases e1
      subst e3
      have hx1 := List.mem_singleton.mp hx
      subst hx1
      · refine ⟨(21, 4), (show zHN 147 5 100 ≠ none from by decide), rfl, ?_⟩
        show xz v0 xs (u.1 + 1, u.2 + 6) (xHQ f u) 147 22 _ [] f'
        refine x_iconst rfl ?_
        refine x_ireturn rfl (Or.inl rfl) ?_
        exact ⟨1, _, _, rfl, rfl, hD, Nat.le_refl _, Nat.le_refl _⟩
theorem xH155 {v0 : Value} {xs : List Int32} {u : Nat × Nat} {f : Nat → zE} {z1 z2 : Int} (hM : yM yT2 (xh f)) (hA : xca f 154 [.inr (.inr [50]), .inl ytop, .inl (0, 1)] (none) [100, 101]) (hz : 0 ≤ z2 ∧ z2 ≤ 1) : xz v0 xs u (xHQ f u) 155 0 [(0, .ref 50), (1, xi z1), (2, xi z2)] [] f := by
  obtain ⟨dd, lf, lc, h50, -⟩ := xINV_50 hM
  refine x_aload_n rfl rfl ?_
  refine x_iload_n rfl rfl ?_
  refine x_iload_n rfl rfl ?_
  refine x_callT [_, _, _] rfl rfl (show (0 : Nat) ≤ 8 from by decide) (show (3 : Nat) ≤ 3 from by decide) (x_rcv (by decide) h50) (hA v0 xs u [.ref 50, xi z1, xi z2] ⟨ygr, ygt, (ygi hz.1 hz.2 (by omega) (by omega)), trivial⟩) (fun r' X' hq => ?_) (fun x X' hq => ?_)
  · rcases hq with ⟨r, f', e1, e2, hr, hD⟩ | ⟨x, f', e1, -⟩
    · cases e1
      subst e2
      match r', hr with
      | none, _ =>
        show xz v0 xs u (xHQ f u) 155 6 _ [] f'
        refine x_goto (t := 15) rfl rfl ?_
        refine x_iconst rfl ?_
        refine x_ireturn rfl (Or.inl rfl) ?_
        exact ⟨0, _, u, rfl, rfl, hD, by omega, by omega⟩
    · cases e1
  · rcases hq with ⟨r, f', e1, -⟩ | ⟨x', f', e1, hx, e3, hD⟩
    · cases e1
    · cases e1
      subst e3
      rcases (show x = 100 ∨ x = 101 by simpa using hx) with rfl | rfl
      · refine ⟨(9, 3), (show zHN 155 3 100 ≠ none from by decide), rfl, ?_⟩
        show xz v0 xs (u.1 + 1, u.2 + 6) (xHQ f u) 155 10 _ [] f'
        refine x_iconst rfl ?_
        refine x_ireturn rfl (Or.inl rfl) ?_
        exact ⟨1, _, _, rfl, rfl, hD, Nat.le_refl _, Nat.le_refl _⟩
      · refine ⟨(12, 3), (show zHN 155 3 101 ≠ none from by decide), rfl, ?_⟩
        show xz v0 xs (u.1 + 1, u.2 + 6) (xHQ f u) 155 13 _ [] f'
        refine x_iconst rfl ?_
        refine x_ireturn rfl (Or.inl rfl) ?_
        exact ⟨2, _, _, rfl, rfl, hD, Nat.le_refl _, Nat.le_refl _⟩
theorem xH170 {v0 : Value} {xs : List Int32} {u : Nat × Nat} {f : Nat → zE} {z1 : Int} (hM : yM yT2 (xh f)) (hA : xca f 169 [.inr (.inr [50]), .inl ytop] (some (.inl (0, 11))) [102]) : xz v0 xs u (xHQ f u) 170 0 [(0, .ref 50), (1, xi z1), (2, .ref 203)] [] f := by
  obtain ⟨dd, lf, lc, h50, -⟩ := xINV_50 hM
  refine x_aload_n rfl rfl ?_
  refine x_iconst rfl ?_
  refine x_aload_n rfl rfl ?_
  refine x_iload_n rfl rfl ?_
  refine x_callT [_, _] rfl rfl (show (2 : Nat) ≤ 8 from by decide) (show (2 : Nat) ≤ 2 from by decide) (x_rcv (by decide) h50) (hA v0 xs u [.ref 50, xi z1] ⟨ygr, ygt, trivial⟩) (fun r' X' hq => ?_) (fun x X' hq => ?_)
  · rcases hq with ⟨r, f', e1, e2, hr, hD⟩ | ⟨x, f', e1, -⟩
    · cases e1
      subst e2
      match r', hr with
      | none, hr => exact hr.elim
      | some v, hr =>
        obtain ⟨y, rfl, y1, y2⟩ := yg_i hr
        obtain ⟨l, h203, hl, hw⟩ := xD_203 hD.1
        show xz v0 xs u (xHQ f u) 170 7 _ [xi y, xi 0, .ref 203] f'
        refine x_i2l rfl ?_
        refine x_lastore rfl (by decide) h203 ⟨by omega, by omega⟩ (by omega) ?_
        refine x_goto (t := 15) rfl rfl ?_
        refine x_iconst rfl ?_
        refine x_ireturn rfl (Or.inl rfl) ?_
        exact ⟨0, _, u, rfl, rfl, xD_t hD (hw _), by omega, by omega⟩
    · cases e1
  · rcases hq with ⟨r, f', e1, -⟩ | ⟨x', f', e1, hx, e3, hD⟩
    · cases e1
    · cases e1
      subst e3
      have hx1 := List.mem_singleton.mp hx
      subst hx1
      · refine ⟨(12, 3), (show zHN 170 4 102 ≠ none from by decide), rfl, ?_⟩
        show xz v0 xs (u.1 + 1, u.2 + 6) (xHQ f u) 170 13 _ [] f'
        refine x_iconst rfl ?_
        refine x_ireturn rfl (Or.inl rfl) ?_
        exact ⟨1, _, _, rfl, rfl, hD, Nat.le_refl _, Nat.le_refl _⟩
theorem xH174 {v0 : Value} {xs : List Int32} {u : Nat × Nat} {f : Nat → zE} {z1 z2 : Int} (hM : yM yT2 (xh f)) (hA : xca f 173 [.inr (.inr [50]), .inl ytop, .inl ytop] (some (.inl ytop)) [100]) : xz v0 xs u (xHQ f u) 174 0 [(0, .ref 50), (1, xi z1), (2, xi z2), (3, .ref 203)] [] f := by
  obtain ⟨dd, lf, lc, h50, -⟩ := xINV_50 hM
  refine x_aload_n rfl rfl ?_
  refine x_iconst rfl ?_
  refine x_aload_n rfl rfl ?_
  refine x_iload_n rfl rfl ?_
  refine x_iload_n rfl rfl ?_
  refine x_callT [_, _, _] rfl rfl (show (2 : Nat) ≤ 8 from by decide) (show (3 : Nat) ≤ 6 from by decide) (x_rcv (by decide) h50) (hA v0 xs u [.ref 50, xi z1, xi z2] ⟨ygr, ygt, ygt, trivial⟩) (fun r' X' hq => ?_) (fun x X' hq => ?_)
  · rcases hq with ⟨r, f', e1, e2, hr, hD⟩ | ⟨x, f', e1, -⟩
    · cases e1
      subst e2
      match r', hr with
      | none, hr => exact hr.elim
      | some v, hr =>
        obtain ⟨y, rfl, y1, y2⟩ := yg_i hr
        obtain ⟨l, h203, hl, hw⟩ := xD_203 hD.1
        show xz v0 xs u (xHQ f u) 174 8 _ [xi y, xi 0, .ref 203] f'
        refine x_ifeq (t := 15) rfl rfl ⟨by omega, by omega⟩ (fun _ => ?_) (fun _ => ?_)
        · refine x_lconst rfl ?_
          refine x_lastore rfl (by decide) h203 ⟨by omega, by omega⟩ (by omega) ?_
          refine x_goto (t := 24) rfl rfl ?_
          refine x_iconst rfl ?_
          refine x_ireturn rfl (Or.inl rfl) ?_
          exact ⟨0, _, u, rfl, rfl, xD_t hD (hw _), by omega, by omega⟩
        · refine x_lconst rfl ?_
          refine x_goto (t := 16) rfl rfl ?_
          refine x_lastore rfl (by decide) h203 ⟨by omega, by omega⟩ (by omega) ?_
          refine x_goto (t := 24) rfl rfl ?_
          refine x_iconst rfl ?_
          refine x_ireturn rfl (Or.inl rfl) ?_
          exact ⟨0, _, u, rfl, rfl, xD_t hD (hw _), by omega, by omega⟩
    · cases e1
  · rcases hq with ⟨r, f', e1, -⟩ | ⟨x', f', e1, hx, e3, hD⟩
    · cases e1
    · cases e1
      subst e3
      have hx1 := List.mem_singleton.mp hx
      subst hx1
      · refine ⟨(21, 4), (show zHN 174 5 100 ≠ none from by decide), rfl, ?_⟩
        show xz v0 xs (u.1 + 1, u.2 + 6) (xHQ f u) 174 22 _ [] f'
        refine x_iconst rfl ?_
        refine x_ireturn rfl (Or.inl rfl) ?_
        exact ⟨1, _, _, rfl, rfl, hD, Nat.le_refl _, Nat.le_refl _⟩
