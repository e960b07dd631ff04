/-! The law's own methods, with what they answer. -/
def sHF (f : Nat → zE) (K : List (Int × Int)) (G : Nat → List xBt) (R : Int × Int × sS) (o : zO) (X : zX) : Prop := ∃ (f' : Nat → zE) (u' : Nat × Nat), o = .inl (some (xi R.1)) ∧ X = (xh f', u') ∧ sCT f' K G R.2.2 ∧ (R.1 = 0 → f' 203 = .inr (.inr (.inl [(Int32.ofInt R.2.1).toInt64]))) ∧ ∀ q, q ≠ 50 → q ≠ 115 → q ≠ 116 → ¬ (123 ≤ q ∧ q ≤ 176) → q ≠ 203 → f' q = f q
def sHQ (f : Nat → zE) (u : Nat × Nat) (K : List (Int × Int)) (G : Nat → List xBt) (R : Int × Int × sS) (o : zO) (X : zX) : Prop := ∃ (f' : Nat → zE) (u' : Nat × Nat), o = .inl (some (xi R.1)) ∧ X = (xh f', u') ∧ (u'.1 ≤ u.1 + 1 ∧ u'.2 ≤ u.2 + 6) ∧ (0 ≤ R.1 ∧ R.1 ≤ 2) ∧ xD f f' ∧ sCT f' K G R.2.2 ∧ (R.1 = 0 → f' 203 = .inr (.inr (.inl [(Int32.ofInt R.2.1).toInt64]))) ∧ ∀ q, q ≠ 50 → q ≠ 115 → q ≠ 116 → ¬ (123 ≤ q ∧ q ≤ 176) → q ≠ 203 → f' q = f q
theorem sHQ_of {v0 : Value} {xs : List Int32} {u : Nat × Nat} {f : Nat → zE} {K : List (Int × Int)} {G : Nat → List xBt} {R : Int × Int × sS} {m : Nat} {lv : zL} (hk : 0 ≤ R.1 ∧ R.1 ≤ 2) (h1 : xz v0 xs u (xHQ f u) m 0 lv [] f) (h2 : xz v0 xs u (sHF f K G R) m 0 lv [] f) : xz v0 xs u (sHQ f u K G R) m 0 lv [] f := by
  refine zwp_mono (zwp_and h1 h2) fun o X hq => ?_
  obtain ⟨⟨z, f1, u1, e1, e2, hD, b1, b2⟩, f2, u2, e3, e4, hT, h203, hfr⟩ := hq
  rw [e2] at e4
  have e5 : xh f1 = xh f2 := congrArg Prod.fst e4
  have e6 : u1 = u2 := congrArg Prod.snd e4
  subst e6
  exact ⟨f2, u1, e3, by rw [e2, e5], ⟨b1, b2⟩, hk, xD_h e5 hD, hT, h203, hfr⟩
/-- a method of the class that does not throw -/
theorem sVQ {v0 : Value} {xs : List Int32} {u : Nat × Nat} {f : Nat → zE} {K : List (Int × Int)} {G : Nat → List xBt} {R : Int × Int × sS} {ex : Int → Nat} {m : Nat} {ps : List yA} {ro : Option yA} {vs : List Value} (h : xz v0 xs u (sCQ f u K G ex R) m 0 (lv_args 0 vs) [] f) (hA : xca f m ps ro []) (hf : yfa ps vs) (h0 : R.1 = 0) : xq v0 xs u m (lv_args 0 vs) f (fun r f1 => r = some (xi R.2.1) ∧ xD f f1 ∧ sCT f1 K G R.2.2 ∧ ∀ q, q ≠ 50 → q ≠ 115 → q ≠ 116 → ¬ (123 ≤ q ∧ q ≤ 176) → q ≠ 203 → f1 q = f q) := by
  refine zwp_mono (zwp_and h (xca_q hA hf)) fun o X hq => ?_
  obtain ⟨⟨f1, hc, hT, hfr⟩, r2, f2, e3, e4, -, hD⟩ := hq
  rcases hc with ⟨-, e1, e2⟩ | ⟨hn, -⟩
  · rw [e2] at e4
    exact ⟨_, f1, e1, e2, rfl, xD_h (congrArg Prod.fst e4).symm hD, hT, fun q b1 b2 b3 b4 _ => hfr q b1 b2 b3 b4⟩
  · exact absurd h0 hn
theorem xs_87c {v0 : Value} {xs : List Int32} {u : Nat × Nat} {f : Nat → zE} {K : List (Int × Int)} {G : Nat → List xBt} {n : Nat} {bc : Nat → Int} {S : sS} {z : Int} (hn : n ≤ 12) (hz : -2147483648 ≤ z ∧ z ≤ 2147483647) (hT : sCT f K G S) (h53 : ∃ kp pt : Int, f 53 = xbo (n : Nat) kp pt) (h54 : f 54 = .inr (.inr (.inr (3, xfl)))) (hk : ∀ i, i < n → ∃ (nm : Int64) (d al : Value), f (57 + 4 * i) = xfg i nm (xi (bc i)) d al) : xz v0 xs u (sCQ f u K G exW (sBE bc n S z)) 87 0 [(0, .ref 50), (1, xi z)] [] f := by
  obtain ⟨⟨lf, h50⟩, -⟩ := id hT
  obtain ⟨kp, pt, h53⟩ := h53
  refine x_aload_n rfl rfl ?_
  refine x_iload_n rfl rfl ?_
  refine x_callU [_, _] rfl rfl (show (0 : Nat) ≤ 8 from by decide) (show (2 : Nat) ≤ 2 from by decide) (x_rcv (by decide) h50) (Q2 := fun o X => (o = .inl none ∧ X = (xh f, u) ∧ 0 ≤ z ∧ z < (n : Nat)) ∨ (o = .inr 100 ∧ X = (xh f, u.1 + 1, u.2 + 6) ∧ ¬ (0 ≤ z ∧ z < (n : Nat)))) (xs_86 hn hz h50 h53 (fun h1 h2 => Or.inl ⟨rfl, rfl, h1, h2⟩) (fun h => Or.inr ⟨rfl, rfl, h⟩)) (fun r' X' hq => ?_) (fun x X' hq => ?_)
  · rcases hq with ⟨e1, e2, h1, h2⟩ | ⟨e1, -⟩
    · cases e1
      subst e2
      obtain ⟨i, rfl⟩ : ∃ i : Nat, z = (i : Nat) := ⟨z.toNat, by omega⟩
      have eR : sBE bc n S ((i : Nat) : Int) = (0, bc i, S) := by unfold sBE; rw [if_pos ⟨h1, h2⟩, Int.toNat_natCast]
      rw [eR]
      show xz v0 xs u _ 87 5 _ [] f
      obtain ⟨nm, d, al, hf⟩ := hk i (by omega)
      refine x_aload_n rfl rfl ?_
      refine x_getfield rfl (by decide) h50 rfl ?_
      refine x_iload_n rfl rfl ?_
      refine x_call [_, _] rfl rfl (show (0 : Nat) ≤ 8 from by decide) (show (2 : Nat) ≤ 2 from by decide) (x_rcv (by decide) h53) (xs_44 (by omega) h53 h54) (fun r' f' hP => ?_)
      obtain ⟨rfl, rfl⟩ := hP
      refine x_getfield rfl (by omega) hf rfl ?_
      exact x_ireturn rfl (Or.inl rfl) ⟨_, Or.inl ⟨rfl, rfl, rfl⟩, hT, fun _ _ _ _ _ => rfl⟩
    · cases e1
  · rcases hq with ⟨e1, -⟩ | ⟨e1, e2, h⟩
    · cases e1
    · cases e1
      subst e2
      have eR : sBE bc n S z = (1, 0, S) := by unfold sBE; rw [if_neg h]
      rw [eR]
      exact ⟨rfl, _, Or.inr ⟨(show (1 : Int) ≠ 0 by decide), rfl, rfl⟩, hT, fun _ _ _ _ _ => rfl⟩
theorem xF88 {v0 : Value} {xs : List Int32} {u : Nat × Nat} {f : Nat → zE} {K : List (Int × Int)} {G : Nat → List xBt} {z1 : Int} {R : Int × Int × sS} (hM : yM yT2 (xh f)) (hA : xca f 87 [.inr (.inr [50]), .inl ytop] (some (.inl ytop)) [100]) (hs : xz v0 xs u (sCQ f u K G exW R) 87 0 [(0, .ref 50), (1, xi z1)] [] f) (hR : R.1 = 0 ∨ R.1 = 1) : xz v0 xs u (sHQ f u K G R) 88 0 [(0, .ref 50), (1, xi z1), (2, .ref 203)] [] f := by
  refine sHQ_of (by omega) (xH88 hM hA) ?_
  obtain ⟨dd, lf, lc, h50, -⟩ := xINV_50 hM
  obtain ⟨l, h203, hl, -⟩ := xD_203 hM
  obtain ⟨g0, rfl⟩ := List.length_eq_one_iff.mp hl
  refine x_aload_n rfl rfl ?_
  refine x_iconst rfl ?_
  refine x_aload_n rfl rfl ?_
  refine x_iload_n rfl rfl ?_
  refine x_callT [_, _] rfl rfl (show (2 : Nat) ≤ 8 from by decide) (show (2 : Nat) ≤ 2 from by decide) (x_rcv (by decide) h50) hs (fun r' X' hq => ?_) (fun x X' hq => ?_)
  · obtain ⟨f', hc, hT, hfr⟩ := hq
    rcases hc with ⟨h0, e1, e2⟩ | ⟨-, e1, -⟩
    · cases e1
      subst e2
      have k203 : f' 203 = .inr (.inr (.inl [g0])) := (hfr 203 (by decide) (by decide) (by decide) (by decide)).trans h203
      show xz v0 xs u (sHF f K G R) 88 7 _ [xi R.2.1, xi 0, .ref 203] f'
      refine x_i2l rfl ?_
      refine x_lastore rfl (by decide) k203 ⟨by omega, (by show (0 : Int) < ((1 : Nat) : Int); omega)⟩ (show (1 : Nat) ≤ 5000 from by decide) ?_
      refine x_goto (t := 15) rfl rfl ?_
      refine x_iconst rfl ?_
      refine x_ireturn rfl (Or.inl rfl) ?_
      exact ⟨_, u, by rw [h0], rfl, sCT_f hT (xu_ne (by decide) rfl) (fun q b1 b2 => xu_ne (by omega) rfl), fun _ => xu_eq, fun q b1 b2 b3 b4 b5 => (xu_ne b5 rfl).trans (hfr q b1 b2 b3 b4)⟩
    · cases e1
  · obtain ⟨f', hc, hT, hfr⟩ := hq
    rcases hc with ⟨-, e1, -⟩ | ⟨hn, e1, e2⟩
    · cases e1
    · subst e2
      have hx : x = exW R.1 := by cases e1; rfl
      rcases hR with h | h
      · exact absurd h hn
      · have hx2 : x = 100 := hx.trans (by rw [h]; decide)
        subst hx2
        refine ⟨(12, 3), (show zHN 88 4 100 ≠ none from by decide), rfl, ?_⟩
        show xz v0 xs (u.1 + 1, u.2 + 6) (sHF f K G R) 88 13 _ [] f'
        refine x_iconst rfl ?_
        refine x_ireturn rfl (Or.inl rfl) ?_
        exact ⟨f', _, by rw [h], rfl, hT, fun h0 => absurd (h.symm.trans h0) (by decide), fun q b1 b2 b3 b4 _ => hfr q b1 b2 b3 b4⟩
theorem xF109 {v0 : Value} {xs : List Int32} {u : Nat × Nat} {f : Nat → zE} {K : List (Int × Int)} {G : Nat → List xBt} {z1 : Int} {R : Int × Int × sS} (hM : yM yT2 (xh f)) (hA : xca f 108 [.inr (.inr [50]), .inl ytop] (some (.inl ytop)) [100, 101]) (hs : xz v0 xs u (sCQ f u K G exD R) 108 0 [(0, .ref 50), (1, xi z1)] [] f) (hR : R.1 = 0 ∨ R.1 = 1 ∨ R.1 = 2) : xz v0 xs u (sHQ f u K G R) 109 0 [(0, .ref 50), (1, xi z1), (2, .ref 203)] [] f := by
  refine sHQ_of (by omega) (xH109 hM hA) ?_
  obtain ⟨dd, lf, lc, h50, -⟩ := xINV_50 hM
  obtain ⟨l, h203, hl, -⟩ := xD_203 hM
  obtain ⟨g0, rfl⟩ := List.length_eq_one_iff.mp hl
  refine x_aload_n rfl rfl ?_
  refine x_iconst rfl ?_
  refine x_aload_n rfl rfl ?_
  refine x_iload_n rfl rfl ?_
  refine x_callT [_, _] rfl rfl (show (2 : Nat) ≤ 8 from by decide) (show (2 : Nat) ≤ 2 from by decide) (x_rcv (by decide) h50) hs (fun r' X' hq => ?_) (fun x X' hq => ?_)
  · obtain ⟨f', hc, hT, hfr⟩ := hq
    rcases hc with ⟨h0, e1, e2⟩ | ⟨-, e1, -⟩
    · cases e1
      subst e2
      have k203 : f' 203 = .inr (.inr (.inl [g0])) := (hfr 203 (by decide) (by decide) (by decide) (by decide)).trans h203
      show xz v0 xs u (sHF f K G R) 109 7 _ [xi R.2.1, xi 0, .ref 203] f'
      refine x_i2l rfl ?_
      refine x_lastore rfl (by decide) k203 ⟨by omega, (by show (0 : Int) < ((1 : Nat) : Int); omega)⟩ (show (1 : Nat) ≤ 5000 from by decide) ?_
      refine x_goto (t := 18) rfl rfl ?_
      refine x_iconst rfl ?_
      refine x_ireturn rfl (Or.inl rfl) ?_
      exact ⟨_, u, by rw [h0], rfl, sCT_f hT (xu_ne (by decide) rfl) (fun q b1 b2 => xu_ne (by omega) rfl), fun _ => xu_eq, fun q b1 b2 b3 b4 b5 => (xu_ne b5 rfl).trans (hfr q b1 b2 b3 b4)⟩
    · cases e1
  · obtain ⟨f', hc, hT, hfr⟩ := hq
    rcases hc with ⟨-, e1, -⟩ | ⟨hn, e1, e2⟩
    · cases e1
    · subst e2
      have hx : x = exD R.1 := by cases e1; rfl
      rcases hR with h | h | h
      · exact absurd h hn
      · have hx2 : x = 100 := hx.trans (by rw [h]; decide)
        subst hx2
        refine ⟨(12, 3), (show zHN 109 4 100 ≠ none from by decide), rfl, ?_⟩
        show xz v0 xs (u.1 + 1, u.2 + 6) (sHF f K G R) 109 13 _ [] f'
        refine x_iconst rfl ?_
        refine x_ireturn rfl (Or.inl rfl) ?_
        exact ⟨f', _, by rw [h], rfl, hT, fun h0 => absurd (h.symm.trans h0) (by decide), fun q b1 b2 b3 b4 _ => hfr q b1 b2 b3 b4⟩
      · have hx2 : x = 101 := hx.trans (by rw [h]; decide)
        subst hx2
        refine ⟨(15, 3), (show zHN 109 4 101 ≠ none from by decide), rfl, ?_⟩
        show xz v0 xs (u.1 + 1, u.2 + 6) (sHF f K G R) 109 16 _ [] f'
        refine x_iconst rfl ?_
        refine x_ireturn rfl (Or.inl rfl) ?_
        exact ⟨f', _, by rw [h], rfl, hT, fun h0 => absurd (h.symm.trans h0) (by decide), fun q b1 b2 b3 b4 _ => hfr q b1 b2 b3 b4⟩
theorem xF127 {v0 : Value} {xs : List Int32} {u : Nat × Nat} {f : Nat → zE} {K : List (Int × Int)} {G : Nat → List xBt} {z1 : Int} {R : Int × Int × sS} (hM : yM yT2 (xh f)) (hA : xca f 126 [.inr (.inr [50]), .inl ytop] (some (.inl ytop)) [100, 101]) (hs : xz v0 xs u (sCQ f u K G exD R) 126 0 [(0, .ref 50), (1, xi z1)] [] f) (hR : R.1 = 0 ∨ R.1 = 1 ∨ R.1 = 2) : xz v0 xs u (sHQ f u K G R) 127 0 [(0, .ref 50), (1, xi z1), (2, .ref 203)] [] f := by
  refine sHQ_of (by omega) (xH127 hM hA) ?_
  obtain ⟨dd, lf, lc, h50, -⟩ := xINV_50 hM
  obtain ⟨l, h203, hl, -⟩ := xD_203 hM
  obtain ⟨g0, rfl⟩ := List.length_eq_one_iff.mp hl
  refine x_aload_n rfl rfl ?_
  refine x_iconst rfl ?_
  refine x_aload_n rfl rfl ?_
  refine x_iload_n rfl rfl ?_
  refine x_callT [_, _] rfl rfl (show (2 : Nat) ≤ 8 from by decide) (show (2 : Nat) ≤ 2 from by decide) (x_rcv (by decide) h50) hs (fun r' X' hq => ?_) (fun x X' hq => ?_)
  · obtain ⟨f', hc, hT, hfr⟩ := hq
    rcases hc with ⟨h0, e1, e2⟩ | ⟨-, e1, -⟩
    · cases e1
      subst e2
      have k203 : f' 203 = .inr (.inr (.inl [g0])) := (hfr 203 (by decide) (by decide) (by decide) (by decide)).trans h203
      show xz v0 xs u (sHF f K G R) 127 7 _ [xi R.2.1, xi 0, .ref 203] f'
      refine x_i2l rfl ?_
      refine x_lastore rfl (by decide) k203 ⟨by omega, (by show (0 : Int) < ((1 : Nat) : Int); omega)⟩ (show (1 : Nat) ≤ 5000 from by decide) ?_
      refine x_goto (t := 18) rfl rfl ?_
      refine x_iconst rfl ?_
      refine x_ireturn rfl (Or.inl rfl) ?_
      exact ⟨_, u, by rw [h0], rfl, sCT_f hT (xu_ne (by decide) rfl) (fun q b1 b2 => xu_ne (by omega) rfl), fun _ => xu_eq, fun q b1 b2 b3 b4 b5 => (xu_ne b5 rfl).trans (hfr q b1 b2 b3 b4)⟩
    · cases e1
  · obtain ⟨f', hc, hT, hfr⟩ := hq
    rcases hc with ⟨-, e1, -⟩ | ⟨hn, e1, e2⟩
    · cases e1
    · subst e2
      have hx : x = exD R.1 := by cases e1; rfl
      rcases hR with h | h | h
      · exact absurd h hn
      · have hx2 : x = 100 := hx.trans (by rw [h]; decide)
        subst hx2
        refine ⟨(12, 3), (show zHN 127 4 100 ≠ none from by decide), rfl, ?_⟩
        show xz v0 xs (u.1 + 1, u.2 + 6) (sHF f K G R) 127 13 _ [] f'
        refine x_iconst rfl ?_
        refine x_ireturn rfl (Or.inl rfl) ?_
        exact ⟨f', _, by rw [h], rfl, hT, fun h0 => absurd (h.symm.trans h0) (by decide), fun q b1 b2 b3 b4 _ => hfr q b1 b2 b3 b4⟩
      · have hx2 : x = 101 := hx.trans (by rw [h]; decide)
        subst hx2
        refine ⟨(15, 3), (show zHN 127 4 101 ≠ none from by decide), rfl, ?_⟩
        show xz v0 xs (u.1 + 1, u.2 + 6) (sHF f K G R) 127 16 _ [] f'
        refine x_iconst rfl ?_
        refine x_ireturn rfl (Or.inl rfl) ?_
        exact ⟨f', _, by rw [h], rfl, hT, fun h0 => absurd (h.symm.trans h0) (by decide), fun q b1 b2 b3 b4 _ => hfr q b1 b2 b3 b4⟩
theorem xF132 {v0 : Value} {xs : List Int32} {u : Nat × Nat} {f : Nat → zE} {K : List (Int × Int)} {G : Nat → List xBt} {R : Int × Int × sS} (hM : yM yT2 (xh f)) (hA : xca f 131 [.inr (.inr [50])] (some (.inl (0, 16))) [101]) (hs : xz v0 xs u (sCQ f u K G exU R) 131 0 [(0, .ref 50)] [] f) (hR : R.1 = 0 ∨ R.1 = 1) : xz v0 xs u (sHQ f u K G R) 132 0 [(0, .ref 50), (1, .ref 203)] [] f := by
  refine sHQ_of (by omega) (xH132 hM hA) ?_
  obtain ⟨dd, lf, lc, h50, -⟩ := xINV_50 hM
  obtain ⟨l, h203, hl, -⟩ := xD_203 hM
  obtain ⟨g0, rfl⟩ := List.length_eq_one_iff.mp hl
  refine x_aload_n rfl rfl ?_
  refine x_iconst rfl ?_
  refine x_aload_n rfl rfl ?_
  refine x_callT [_] rfl rfl (show (2 : Nat) ≤ 8 from by decide) (show (1 : Nat) ≤ 2 from by decide) (x_rcv (by decide) h50) hs (fun r' X' hq => ?_) (fun x X' hq => ?_)
  · obtain ⟨f', hc, hT, hfr⟩ := hq
    rcases hc with ⟨h0, e1, e2⟩ | ⟨-, e1, -⟩
    · cases e1
      subst e2
      have k203 : f' 203 = .inr (.inr (.inl [g0])) := (hfr 203 (by decide) (by decide) (by decide) (by decide)).trans h203
      show xz v0 xs u (sHF f K G R) 132 6 _ [xi R.2.1, xi 0, .ref 203] f'
      refine x_i2l rfl ?_
      refine x_lastore rfl (by decide) k203 ⟨by omega, (by show (0 : Int) < ((1 : Nat) : Int); omega)⟩ (show (1 : Nat) ≤ 5000 from by decide) ?_
      refine x_goto (t := 14) rfl rfl ?_
      refine x_iconst rfl ?_
      refine x_ireturn rfl (Or.inl rfl) ?_
      exact ⟨_, u, by rw [h0], rfl, sCT_f hT (xu_ne (by decide) rfl) (fun q b1 b2 => xu_ne (by omega) rfl), fun _ => xu_eq, fun q b1 b2 b3 b4 b5 => (xu_ne b5 rfl).trans (hfr q b1 b2 b3 b4)⟩
    · cases e1
  · obtain ⟨f', hc, hT, hfr⟩ := hq
    rcases hc with ⟨-, e1, -⟩ | ⟨hn, e1, e2⟩
    · cases e1
    · subst e2
      have hx : x = exU R.1 := by cases e1; rfl
      rcases hR with h | h
      · exact absurd h hn
      · have hx2 : x = 101 := hx.trans (by rw [h]; decide)
        subst hx2
        refine ⟨(11, 2), (show zHN 132 3 101 ≠ none from by decide), rfl, ?_⟩
        show xz v0 xs (u.1 + 1, u.2 + 6) (sHF f K G R) 132 12 _ [] f'
        refine x_iconst rfl ?_
        refine x_ireturn rfl (Or.inl rfl) ?_
        exact ⟨f', _, by rw [h], rfl, hT, fun h0 => absurd (h.symm.trans h0) (by decide), fun q b1 b2 b3 b4 _ => hfr q b1 b2 b3 b4⟩
theorem xF139 {v0 : Value} {xs : List Int32} {u : Nat × Nat} {f : Nat → zE} {K : List (Int × Int)} {G : Nat → List xBt} {z1 z2 : Int} {R : Int × Int × sS} (hM : yM yT2 (xh f)) (hA : xca f 138 [.inr (.inr [50]), .inl ytop, .inl ytop] (some (.inl (0, 9))) [100]) (hs : xz v0 xs u (sCQ f u K G exW R) 138 0 [(0, .ref 50), (1, xi z1), (2, xi z2)] [] f) (hR : R.1 = 0 ∨ R.1 = 1) : xz v0 xs u (sHQ f u K G R) 139 0 [(0, .ref 50), (1, xi z1), (2, xi z2), (3, .ref 203)] [] f := by
  refine sHQ_of (by omega) (xH139 hM hA) ?_
  obtain ⟨dd, lf, lc, h50, -⟩ := xINV_50 hM
  obtain ⟨l, h203, hl, -⟩ := xD_203 hM
  obtain ⟨g0, rfl⟩ := List.length_eq_one_iff.mp hl
  refine x_aload_n rfl rfl ?_
  refine x_iconst rfl ?_
  refine x_aload_n rfl rfl ?_
  refine x_iload_n rfl rfl ?_
  refine x_iload_n rfl rfl ?_
  refine x_callT [_, _, _] rfl rfl (show (2 : Nat) ≤ 8 from by decide) (show (3 : Nat) ≤ 4 from by decide) (x_rcv (by decide) h50) hs (fun r' X' hq => ?_) (fun x X' hq => ?_)
  · obtain ⟨f', hc, hT, hfr⟩ := hq
    rcases hc with ⟨h0, e1, e2⟩ | ⟨-, e1, -⟩
    · cases e1
      subst e2
      have k203 : f' 203 = .inr (.inr (.inl [g0])) := (hfr 203 (by decide) (by decide) (by decide) (by decide)).trans h203
      show xz v0 xs u (sHF f K G R) 139 8 _ [xi R.2.1, xi 0, .ref 203] f'
      refine x_i2l rfl ?_
      refine x_lastore rfl (by decide) k203 ⟨by omega, (by show (0 : Int) < ((1 : Nat) : Int); omega)⟩ (show (1 : Nat) ≤ 5000 from by decide) ?_
      refine x_goto (t := 17) rfl rfl ?_
      refine x_iconst rfl ?_
      refine x_ireturn rfl (Or.inl rfl) ?_
      exact ⟨_, u, by rw [h0], rfl, sCT_f hT (xu_ne (by decide) rfl) (fun q b1 b2 => xu_ne (by omega) rfl), fun _ => xu_eq, fun q b1 b2 b3 b4 b5 => (xu_ne b5 rfl).trans (hfr q b1 b2 b3 b4)⟩
    · cases e1
  · obtain ⟨f', hc, hT, hfr⟩ := hq
    rcases hc with ⟨-, e1, -⟩ | ⟨hn, e1, e2⟩
    · cases e1
    · subst e2
      have hx : x = exW R.1 := by cases e1; rfl
      rcases hR with h | h
      · exact absurd h hn
      · have hx2 : x = 100 := hx.trans (by rw [h]; decide)
        subst hx2
        refine ⟨(14, 4), (show zHN 139 5 100 ≠ none from by decide), rfl, ?_⟩
        show xz v0 xs (u.1 + 1, u.2 + 6) (sHF f K G R) 139 15 _ [] f'
        refine x_iconst rfl ?_
        refine x_ireturn rfl (Or.inl rfl) ?_
        exact ⟨f', _, by rw [h], rfl, hT, fun h0 => absurd (h.symm.trans h0) (by decide), fun q b1 b2 b3 b4 _ => hfr q b1 b2 b3 b4⟩
theorem xF144 {v0 : Value} {xs : List Int32} {u : Nat × Nat} {f : Nat → zE} {K : List (Int × Int)} {G : Nat → List xBt} {z1 z2 : Int} {R : Int × Int × sS} (hM : yM yT2 (xh f)) (hA : xca f 143 [.inr (.inr [50]), .inl ytop, .inl ytop] (some (.inl (0, 99))) [100, 102]) (hs : xz v0 xs u (sCQ f u K G exS R) 143 0 [(0, .ref 50), (1, xi z1), (2, xi z2)] [] f) (hR : R.1 = 0 ∨ R.1 = 1 ∨ R.1 = 2) : xz v0 xs u (sHQ f u K G R) 144 0 [(0, .ref 50), (1, xi z1), (2, xi z2), (3, .ref 203)] [] f := by
  refine sHQ_of (by omega) (xH144 hM hA) ?_
  obtain ⟨dd, lf, lc, h50, -⟩ := xINV_50 hM
  obtain ⟨l, h203, hl, -⟩ := xD_203 hM
  obtain ⟨g0, rfl⟩ := List.length_eq_one_iff.mp hl
  refine x_aload_n rfl rfl ?_
  refine x_iconst rfl ?_
  refine x_aload_n rfl rfl ?_
  refine x_iload_n rfl rfl ?_
  refine x_iload_n rfl rfl ?_
  refine x_callT [_, _, _] rfl rfl (show (2 : Nat) ≤ 8 from by decide) (show (3 : Nat) ≤ 4 from by decide) (x_rcv (by decide) h50) hs (fun r' X' hq => ?_) (fun x X' hq => ?_)
  · obtain ⟨f', hc, hT, hfr⟩ := hq
    rcases hc with ⟨h0, e1, e2⟩ | ⟨-, e1, -⟩
    · cases e1
      subst e2
      have k203 : f' 203 = .inr (.inr (.inl [g0])) := (hfr 203 (by decide) (by decide) (by decide) (by decide)).trans h203
      show xz v0 xs u (sHF f K G R) 144 8 _ [xi R.2.1, xi 0, .ref 203] f'
      refine x_i2l rfl ?_
      refine x_lastore rfl (by decide) k203 ⟨by omega, (by show (0 : Int) < ((1 : Nat) : Int); omega)⟩ (show (1 : Nat) ≤ 5000 from by decide) ?_
      refine x_goto (t := 21) rfl rfl ?_
      refine x_iconst rfl ?_
      refine x_ireturn rfl (Or.inl rfl) ?_
      exact ⟨_, u, by rw [h0], rfl, sCT_f hT (xu_ne (by decide) rfl) (fun q b1 b2 => xu_ne (by omega) rfl), fun _ => xu_eq, fun q b1 b2 b3 b4 b5 => (xu_ne b5 rfl).trans (hfr q b1 b2 b3 b4)⟩
    · cases e1
  · obtain ⟨f', hc, hT, hfr⟩ := hq
    rcases hc with ⟨-, e1, -⟩ | ⟨hn, e1, e2⟩
    · cases e1
    · subst e2
      have hx : x = exS R.1 := by cases e1; rfl
      rcases hR with h | h | h
      · exact absurd h hn
      · have hx2 : x = 100 := hx.trans (by rw [h]; decide)
        subst hx2
        refine ⟨(14, 4), (show zHN 144 5 100 ≠ none from by decide), rfl, ?_⟩
        show xz v0 xs (u.1 + 1, u.2 + 6) (sHF f K G R) 144 15 _ [] f'
        refine x_iconst rfl ?_
        refine x_ireturn rfl (Or.inl rfl) ?_
        exact ⟨f', _, by rw [h], rfl, hT, fun h0 => absurd (h.symm.trans h0) (by decide), fun q b1 b2 b3 b4 _ => hfr q b1 b2 b3 b4⟩
      · have hx2 : x = 102 := hx.trans (by rw [h]; decide)
        subst hx2
        refine ⟨(18, 4), (show zHN 144 5 102 ≠ none from by decide), rfl, ?_⟩
        show xz v0 xs (u.1 + 1, u.2 + 6) (sHF f K G R) 144 19 _ [] f'
        refine x_iconst rfl ?_
        refine x_ireturn rfl (Or.inl rfl) ?_
        exact ⟨f', _, by rw [h], rfl, hT, fun h0 => absurd (h.symm.trans h0) (by decide), fun q b1 b2 b3 b4 _ => hfr q b1 b2 b3 b4⟩
theorem xF147 {v0 : Value} {xs : List Int32} {u : Nat × Nat} {f : Nat → zE} {K : List (Int × Int)} {G : Nat → List xBt} {z1 z2 : Int} {R : Int × Int × sS} (hM : yM yT2 (xh f)) (hA : xca f 146 [.inr (.inr [50]), .inl ytop, .inl ytop] (some (.inl (0, 1))) [100]) (hs : xz v0 xs u (sCQ f u K G exW R) 146 0 [(0, .ref 50), (1, xi z1), (2, xi z2)] [] f) (hR : R.1 = 0 ∨ R.1 = 1) (hB : R.2.1 = 0 ∨ R.2.1 = 1) : xz v0 xs u (sHQ f u K G R) 147 0 [(0, .ref 50), (1, xi z1), (2, xi z2), (3, .ref 203)] [] f := by
  refine sHQ_of (by omega) (xH147 hM hA) ?_
  obtain ⟨dd, lf, lc, h50, -⟩ := xINV_50 hM
  obtain ⟨l, h203, hl, -⟩ := xD_203 hM
  obtain ⟨g0, rfl⟩ := List.length_eq_one_iff.mp hl
  refine x_aload_n rfl rfl ?_
  refine x_iconst rfl ?_
  refine x_aload_n rfl rfl ?_
  refine x_iload_n rfl rfl ?_
  refine x_iload_n rfl rfl ?_
  refine x_callT [_, _, _] rfl rfl (show (2 : Nat) ≤ 8 from by decide) (show (3 : Nat) ≤ 3 from by decide) (x_rcv (by decide) h50) hs (fun r' X' hq => ?_) (fun x X' hq => ?_)
  · obtain ⟨f', hc, hT, hfr⟩ := hq
    rcases hc with ⟨h0, e1, e2⟩ | ⟨-, e1, -⟩
    · cases e1
      subst e2
      have k203 : f' 203 = .inr (.inr (.inl [g0])) := (hfr 203 (by decide) (by decide) (by decide) (by decide)).trans h203
      show xz v0 xs u (sHF f K G R) 147 8 _ [xi R.2.1, xi 0, .ref 203] f'
      refine x_ifeq (t := 15) rfl rfl ⟨by omega, by omega⟩ (fun hy => ?_) (fun hy => ?_)
      · refine x_lconst rfl ?_
        refine x_lastore rfl (by decide) k203 ⟨by omega, (by show (0 : Int) < ((1 : Nat) : Int); omega)⟩ (show (1 : Nat) ≤ 5000 from by decide) ?_
        refine x_goto (t := 24) rfl rfl ?_
        refine x_iconst rfl ?_
        refine x_ireturn rfl (Or.inl rfl) ?_
        exact ⟨_, u, by rw [h0], rfl, sCT_f hT (xu_ne (by decide) rfl) (fun q b1 b2 => xu_ne (by omega) rfl), fun _ => by rw [hy]; exact xu_eq, fun q b1 b2 b3 b4 b5 => (xu_ne b5 rfl).trans (hfr q b1 b2 b3 b4)⟩
      · refine x_lconst rfl ?_
        refine x_goto (t := 16) rfl rfl ?_
        refine x_lastore rfl (by decide) k203 ⟨by omega, (by show (0 : Int) < ((1 : Nat) : Int); omega)⟩ (show (1 : Nat) ≤ 5000 from by decide) ?_
        refine x_goto (t := 24) rfl rfl ?_
        refine x_iconst rfl ?_
        refine x_ireturn rfl (Or.inl rfl) ?_
        exact ⟨_, u, by rw [h0], rfl, sCT_f hT (xu_ne (by decide) rfl) (fun q b1 b2 => xu_ne (by omega) rfl), fun _ => by rw [hB.resolve_left hy]; exact xu_eq, fun q b1 b2 b3 b4 b5 => (xu_ne b5 rfl).trans (hfr q b1 b2 b3 b4)⟩
    · cases e1
  · obtain ⟨f', hc, hT, hfr⟩ := hq
    rcases hc with ⟨-, e1, -⟩ | ⟨hn, e1, e2⟩
    · cases e1
    · subst e2
      have hx : x = exW R.1 := by cases e1; rfl
      rcases hR with h | h
      · exact absurd h hn
      · have hx2 : x = 100 := hx.trans (by rw [h]; decide)
        subst hx2
        refine ⟨(21, 4), (show zHN 147 5 100 ≠ none from by decide), rfl, ?_⟩
        show xz v0 xs (u.1 + 1, u.2 + 6) (sHF f K G R) 147 22 _ [] f'
        refine x_iconst rfl ?_
        refine x_ireturn rfl (Or.inl rfl) ?_
        exact ⟨f', _, by rw [h], rfl, hT, fun h0 => absurd (h.symm.trans h0) (by decide), fun q b1 b2 b3 b4 _ => hfr q b1 b2 b3 b4⟩
theorem xF170 {v0 : Value} {xs : List Int32} {u : Nat × Nat} {f : Nat → zE} {K : List (Int × Int)} {G : Nat → List xBt} {z1 : Int} {R : Int × Int × sS} (hM : yM yT2 (xh f)) (hA : xca f 169 [.inr (.inr [50]), .inl ytop] (some (.inl (0, 11))) [102]) (hs : xz v0 xs u (sCQ f u K G exY R) 169 0 [(0, .ref 50), (1, xi z1)] [] f) (hR : R.1 = 0 ∨ R.1 = 1) : xz v0 xs u (sHQ f u K G R) 170 0 [(0, .ref 50), (1, xi z1), (2, .ref 203)] [] f := by
  refine sHQ_of (by omega) (xH170 hM hA) ?_
  obtain ⟨dd, lf, lc, h50, -⟩ := xINV_50 hM
  obtain ⟨l, h203, hl, -⟩ := xD_203 hM
  obtain ⟨g0, rfl⟩ := List.length_eq_one_iff.mp hl
  refine x_aload_n rfl rfl ?_
  refine x_iconst rfl ?_
  refine x_aload_n rfl rfl ?_
  refine x_iload_n rfl rfl ?_
  refine x_callT [_, _] rfl rfl (show (2 : Nat) ≤ 8 from by decide) (show (2 : Nat) ≤ 2 from by decide) (x_rcv (by decide) h50) hs (fun r' X' hq => ?_) (fun x X' hq => ?_)
  · obtain ⟨f', hc, hT, hfr⟩ := hq
    rcases hc with ⟨h0, e1, e2⟩ | ⟨-, e1, -⟩
    · cases e1
      subst e2
      have k203 : f' 203 = .inr (.inr (.inl [g0])) := (hfr 203 (by decide) (by decide) (by decide) (by decide)).trans h203
      show xz v0 xs u (sHF f K G R) 170 7 _ [xi R.2.1, xi 0, .ref 203] f'
      refine x_i2l rfl ?_
      refine x_lastore rfl (by decide) k203 ⟨by omega, (by show (0 : Int) < ((1 : Nat) : Int); omega)⟩ (show (1 : Nat) ≤ 5000 from by decide) ?_
      refine x_goto (t := 15) rfl rfl ?_
      refine x_iconst rfl ?_
      refine x_ireturn rfl (Or.inl rfl) ?_
      exact ⟨_, u, by rw [h0], rfl, sCT_f hT (xu_ne (by decide) rfl) (fun q b1 b2 => xu_ne (by omega) rfl), fun _ => xu_eq, fun q b1 b2 b3 b4 b5 => (xu_ne b5 rfl).trans (hfr q b1 b2 b3 b4)⟩
    · cases e1
  · obtain ⟨f', hc, hT, hfr⟩ := hq
    rcases hc with ⟨-, e1, -⟩ | ⟨hn, e1, e2⟩
    · cases e1
    · subst e2
      have hx : x = exY R.1 := by cases e1; rfl
      rcases hR with h | h
      · exact absurd h hn
      · have hx2 : x = 102 := hx.trans (by rw [h]; decide)
        subst hx2
        refine ⟨(12, 3), (show zHN 170 4 102 ≠ none from by decide), rfl, ?_⟩
        show xz v0 xs (u.1 + 1, u.2 + 6) (sHF f K G R) 170 13 _ [] f'
        refine x_iconst rfl ?_
        refine x_ireturn rfl (Or.inl rfl) ?_
        exact ⟨f', _, by rw [h], rfl, hT, fun h0 => absurd (h.symm.trans h0) (by decide), fun q b1 b2 b3 b4 _ => hfr q b1 b2 b3 b4⟩
theorem xF174 {v0 : Value} {xs : List Int32} {u : Nat × Nat} {f : Nat → zE} {K : List (Int × Int)} {G : Nat → List xBt} {z1 z2 : Int} {R : Int × Int × sS} (hM : yM yT2 (xh f)) (hA : xca f 173 [.inr (.inr [50]), .inl ytop, .inl ytop] (some (.inl ytop)) [100]) (hs : xz v0 xs u (sCQ f u K G exW R) 173 0 [(0, .ref 50), (1, xi z1), (2, xi z2)] [] f) (hR : R.1 = 0 ∨ R.1 = 1) (hB : R.2.1 = 0 ∨ R.2.1 = 1) : xz v0 xs u (sHQ f u K G R) 174 0 [(0, .ref 50), (1, xi z1), (2, xi z2), (3, .ref 203)] [] f := by
  refine sHQ_of (by omega) (xH174 hM hA) ?_
  obtain ⟨dd, lf, lc, h50, -⟩ := xINV_50 hM
  obtain ⟨l, h203, hl, -⟩ := xD_203 hM
  obtain ⟨g0, rfl⟩ := List.length_eq_one_iff.mp hl
  refine x_aload_n rfl rfl ?_
  refine x_iconst rfl ?_
  refine x_aload_n rfl rfl ?_
  refine x_iload_n rfl rfl ?_
  refine x_iload_n rfl rfl ?_
  refine x_callT [_, _, _] rfl rfl (show (2 : Nat) ≤ 8 from by decide) (show (3 : Nat) ≤ 6 from by decide) (x_rcv (by decide) h50) hs (fun r' X' hq => ?_) (fun x X' hq => ?_)
  · obtain ⟨f', hc, hT, hfr⟩ := hq
    rcases hc with ⟨h0, e1, e2⟩ | ⟨-, e1, -⟩
    · cases e1
      subst e2
      have k203 : f' 203 = .inr (.inr (.inl [g0])) := (hfr 203 (by decide) (by decide) (by decide) (by decide)).trans h203
      show xz v0 xs u (sHF f K G R) 174 8 _ [xi R.2.1, xi 0, .ref 203] f'
      refine x_ifeq (t := 15) rfl rfl ⟨by omega, by omega⟩ (fun hy => ?_) (fun hy => ?_)
      · refine x_lconst rfl ?_
        refine x_lastore rfl (by decide) k203 ⟨by omega, (by show (0 : Int) < ((1 : Nat) : Int); omega)⟩ (show (1 : Nat) ≤ 5000 from by decide) ?_
        refine x_goto (t := 24) rfl rfl ?_
        refine x_iconst rfl ?_
        refine x_ireturn rfl (Or.inl rfl) ?_
        exact ⟨_, u, by rw [h0], rfl, sCT_f hT (xu_ne (by decide) rfl) (fun q b1 b2 => xu_ne (by omega) rfl), fun _ => by rw [hy]; exact xu_eq, fun q b1 b2 b3 b4 b5 => (xu_ne b5 rfl).trans (hfr q b1 b2 b3 b4)⟩
      · refine x_lconst rfl ?_
        refine x_goto (t := 16) rfl rfl ?_
        refine x_lastore rfl (by decide) k203 ⟨by omega, (by show (0 : Int) < ((1 : Nat) : Int); omega)⟩ (show (1 : Nat) ≤ 5000 from by decide) ?_
        refine x_goto (t := 24) rfl rfl ?_
        refine x_iconst rfl ?_
        refine x_ireturn rfl (Or.inl rfl) ?_
        exact ⟨_, u, by rw [h0], rfl, sCT_f hT (xu_ne (by decide) rfl) (fun q b1 b2 => xu_ne (by omega) rfl), fun _ => by rw [hB.resolve_left hy]; exact xu_eq, fun q b1 b2 b3 b4 b5 => (xu_ne b5 rfl).trans (hfr q b1 b2 b3 b4)⟩
    · cases e1
  · obtain ⟨f', hc, hT, hfr⟩ := hq
    rcases hc with ⟨-, e1, -⟩ | ⟨hn, e1, e2⟩
    · cases e1
    · subst e2
      have hx : x = exW R.1 := by cases e1; rfl
      rcases hR with h | h
      · exact absurd h hn
      · have hx2 : x = 100 := hx.trans (by rw [h]; decide)
        subst hx2
        refine ⟨(21, 4), (show zHN 174 5 100 ≠ none from by decide), rfl, ?_⟩
        show xz v0 xs (u.1 + 1, u.2 + 6) (sHF f K G R) 174 22 _ [] f'
        refine x_iconst rfl ?_
        refine x_ireturn rfl (Or.inl rfl) ?_
        exact ⟨f', _, by rw [h], rfl, hT, fun h0 => absurd (h.symm.trans h0) (by decide), fun q b1 b2 b3 b4 _ => hfr q b1 b2 b3 b4⟩
def sHA (f : Nat → zE) (u : Nat × Nat) (al1 : Nat → Bool) (o : zO) (X : zX) : Prop := ∃ (z : Int) (f' : Nat → zE) (u' : Nat × Nat), o = .inl (some (xi z)) ∧ X = (xh f', u') ∧ (u'.1 ≤ u.1 + 1 ∧ u'.2 ≤ u.2 + 6) ∧ xD f f' ∧ sAC f' al1 ∧ ∀ q, ¬ (57 ≤ q ∧ q ≤ 108) → f' q = f q
theorem xF155 {v0 : Value} {xs : List Int32} {u : Nat × Nat} {f : Nat → zE} {al1 : Nat → Bool} {z1 z2 : Int} (hM : yM yT2 (xh f)) (hA : xca f 154 [.inr (.inr [50]), .inl ytop, .inl (0, 1)] (none) [100, 101]) (hz : 0 ≤ z2 ∧ z2 ≤ 1) (hs : xz v0 xs u (sAQ f u al1) 154 0 [(0, .ref 50), (1, xi z1), (2, xi z2)] [] f) : xz v0 xs u (sHA f u al1) 155 0 [(0, .ref 50), (1, xi z1), (2, xi z2)] [] f := by
  have h2 : xz v0 xs u (fun o X => ∃ (z : Int) (f' : Nat → zE) (u' : Nat × Nat), o = .inl (some (xi z)) ∧ X = (xh f', u') ∧ sAC f' al1 ∧ ∀ q, ¬ (57 ≤ q ∧ q ≤ 108) → f' q = f q) 155 0 [(0, .ref 50), (1, xi z1), (2, xi z2)] [] f := by
    obtain ⟨dd, lf, lc, h50, -⟩ := xINV_50 hM
    refine x_aload_n rfl rfl ?_
    refine x_iload_n rfl rfl ?_
    refine x_iload_n rfl rfl ?_
    refine x_callT [_, _, _] rfl rfl (show (0 : Nat) ≤ 8 from by decide) (show (3 : Nat) ≤ 3 from by decide) (x_rcv (by decide) h50) hs (fun r' X' hq => ?_) (fun x X' hq => ?_)
    · obtain ⟨f', hc, hT, hfr⟩ := hq
      rcases hc with ⟨e1, e2⟩ | ⟨x, e1, -⟩
      · cases e1
        subst e2
        show xz v0 xs u _ 155 6 _ [] f'
        refine x_goto (t := 15) rfl rfl ?_
        refine x_iconst rfl ?_
        refine x_ireturn rfl (Or.inl rfl) ?_
        exact ⟨0, _, u, rfl, rfl, hT, hfr⟩
      · cases e1
    · obtain ⟨f', hc, hT, hfr⟩ := hq
      rcases hc with ⟨e1, -⟩ | ⟨x', e1, hx, e2⟩
      · cases e1
      · cases e1
        subst e2
        rcases hx with rfl | rfl
        · refine ⟨(9, 3), (show zHN 155 3 100 ≠ none from by decide), rfl, ?_⟩
          show xz v0 xs (u.1 + 1, u.2 + 6) _ 155 10 _ [] f'
          refine x_iconst rfl ?_
          refine x_ireturn rfl (Or.inl rfl) ?_
          exact ⟨1, _, _, rfl, rfl, hT, hfr⟩
        · refine ⟨(12, 3), (show zHN 155 3 101 ≠ none from by decide), rfl, ?_⟩
          show xz v0 xs (u.1 + 1, u.2 + 6) _ 155 13 _ [] f'
          refine x_iconst rfl ?_
          refine x_ireturn rfl (Or.inl rfl) ?_
          exact ⟨2, _, _, rfl, rfl, hT, hfr⟩
  refine zwp_mono (zwp_and (xH155 (z1 := z1) hM hA hz) h2) fun o X hq => ?_
  obtain ⟨⟨z, f1, u1, e1, e2, hD, b1, b2⟩, z', f2, u2, e3, e4, hT, hfr⟩ := hq
  rw [e2] at e4
  have e5 : xh f1 = xh f2 := congrArg Prod.fst e4
  have e6 : u1 = u2 := congrArg Prod.snd e4
  subst e6
  exact ⟨z', f2, u1, e3, by rw [e2, e5], ⟨b1, b2⟩, xD_h e5 hD, hT, hfr⟩
/-! The rest of both sides. -/
theorem xs_83 {v0 : Value} {xs : List Int32} {u : Nat × Nat} {f : Nat → zE} {K : List (Int × Int)} {G : Nat → List xBt} {S : sS} {z : Int} {fs : List Value} (hT : sCT f K G S) (h : f 50 = .inl (0, fs)) (h0 : fs[11]? = some (xi z)) : xz v0 xs u (sCQ f u K G exD (0, z, S)) 83 0 [(0, .ref 50)] [] f := by
  refine x_aload_n rfl rfl ?_
  refine x_getfield rfl (by decide) h h0 ?_
  exact x_ireturn rfl (Or.inl rfl) ⟨_, Or.inl ⟨rfl, rfl, rfl⟩, hT, fun _ _ _ _ _ => rfl⟩
theorem sMT_z {f : Nat → zE} {fs : List Value} {n : Nat} {S : sS} {v : Value} (hT : sMT f n S) (h : f 177 = .inl (10, fs)) : sMT (xu f 177 (.inl (10, fs.set 0 v))) n S := by
  obtain ⟨⟨fs', hB⟩, hX, hJ, hC⟩ := hT
  have e := hB.1.1
  rw [h] at e
  cases e
  exact sMT_0 hB hX hJ hC
theorem xs_84 {v0 : Value} {xs : List Int32} {u : Nat × Nat} {f : Nat → zE} {n : Nat} {S : sS} {z : Int} {fs : List Value} (hT : sMT f n S) (h : f 177 = .inl (10, fs)) (h0 : fs[3]? = some (xi z)) : sMq v0 xs u 84 [(0, .ref 177)] f n (0, z, S) := by
  unfold sMq xq
  have hl : 3 < fs.length := (List.getElem?_eq_some_iff.mp h0).1
  refine x_aload_n rfl rfl ?_
  refine x_iconst rfl ?_
  refine x_putfield rfl (by decide) h (by omega) rfl ?_
  refine x_aload_n rfl rfl ?_
  refine x_getfield rfl (by decide) xu_eq (by rw [List.getElem?_set_ne (by decide)]; exact h0) ?_
  exact x_ireturn rfl (Or.inl rfl) ⟨_, _, rfl, rfl, rfl, ⟨_, xu_eq, List.getElem?_set_self (by omega)⟩, sMT_z hT h, fun q b1 _ => xu_ne b1 rfl⟩
theorem xs_90 {v0 : Value} {xs : List Int32} {u : Nat × Nat} {f : Nat → zE} {n : Nat} {S : sS} {bc : Nat → Int} {z : Int} {cn : List Int} (hn : n ≤ 12) (hz : -2147483648 ≤ z ∧ z ≤ 2147483647) (hT : sMT f n S) (h180 : f 180 = xr 0 cn) (hl : cn.length = 13) (hb : ∀ i, i < 12 → cn.getD i 0 = bc i) : sMq v0 xs u 90 [(0, .ref 177), (1, xi z)] f n (sBE bc n S z) := by
  unfold sMq xq
  obtain ⟨⟨fs, hB⟩, -⟩ := id hT
  have hB0 := hB
  obtain ⟨⟨h177, hfl, ⟨f11, f13, f14, f15, f17, f18⟩, h25, h26, h27⟩, ⟨a1, a2, a3, a4, a5, a6⟩, h9, h31, h30⟩ := hB
  refine x_aload_n rfl rfl ?_
  refine x_aload_n rfl rfl ?_
  refine x_iload_n rfl rfl ?_
  refine x_call [_, _] rfl rfl (show (1 : Nat) ≤ 8 from by decide) (show (2 : Nat) ≤ 2 from by decide) (x_rcv (by decide) h177) (xs_89 hB0 hz (by omega)) (fun r' f' hP => ?_)
  obtain ⟨rfl, rfl⟩ := hP
  by_cases h : 0 ≤ z ∧ z < (n : Nat)
  · have eR : sBE bc n S z = (0, bc z.toNat, S) := by unfold sBE; rw [if_pos h]
    rw [eR, if_pos h]
    refine x_ifeq (t := 13) rfl rfl (by decide) (fun h => absurd h (by decide)) (fun _ => ?_)
    refine x_iconst rfl ?_
    refine x_goto (t := 14) rfl rfl ?_
    refine x_putfield rfl (by decide) h177 (by omega) rfl ?_
    refine x_aload_n rfl rfl ?_
    refine x_getfield rfl (by decide) xu_eq (List.getElem?_set_self (by omega)) ?_
    refine x_ifle (t := 28) rfl rfl (by decide) (fun _ => ?_) (fun h => absurd h (by decide))
    refine x_aload_n rfl rfl ?_
    refine x_getfield rfl (by decide) xu_eq (by rw [List.getElem?_set_ne (by decide)]; exact f11) ?_
    refine x_iload_n rfl rfl ?_
    refine x_iaload rfl (by decide) (xu_ne (by decide) h180) ⟨by omega, by omega⟩ (by omega) ?_
    rw [hb z.toNat (by omega)]
    exact x_ireturn rfl (Or.inl rfl) ⟨_, _, rfl, rfl, rfl, ⟨_, xu_eq, List.getElem?_set_self (by omega)⟩, sMT_z hT h177, fun q b1 _ => xu_ne b1 rfl⟩
  · have eR : sBE bc n S z = (1, 0, S) := by unfold sBE; rw [if_neg h]
    rw [eR, if_neg h]
    refine x_ifeq (t := 13) rfl rfl (by decide) (fun _ => ?_) (fun h => absurd rfl h)
    refine x_iconst rfl ?_
    refine x_putfield rfl (by decide) h177 (by omega) rfl ?_
    refine x_aload_n rfl rfl ?_
    refine x_getfield rfl (by decide) xu_eq (List.getElem?_set_self (by omega)) ?_
    refine x_ifle (t := 28) rfl rfl (by decide) (fun h => absurd h (by decide)) (fun _ => ?_)
    refine x_iconst rfl ?_
    refine x_goto (t := 34) rfl rfl ?_
    exact x_ireturn rfl (Or.inl rfl) ⟨_, _, rfl, rfl, rfl, ⟨_, xu_eq, List.getElem?_set_self (by omega)⟩, sMT_z hT h177, fun q b1 _ => xu_ne b1 rfl⟩
