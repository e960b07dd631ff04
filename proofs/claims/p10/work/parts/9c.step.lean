/-! The class's reader: a step of the grammar. -/
theorem xs_49A {G : Nat → List xBt} {v0 : Value} {xs : List Int32} {u : Nat × Nat} {f : Nat → zE} {c : Nat} {op ex bs sl ki st en di sg : Int} {wo : Int64} {tm : List Int} {kp pt : Int} {nm : Nat → Int64} {bc dp : Nat → Int} {av : Nat → Value} (h109 : f 109 = xrd c op ex bs sl) (h112 : f 112 = xtk ki st en wo di sg) (hki : 0 ≤ ki ∧ ki ≤ 9) (hsg : ki = 3 → 0 ≤ sg ∧ sg ≤ 65535) (h110 : f 110 = xr 0 tm) (htl : tm.length = 3) (hop : 0 ≤ op ∧ op ≤ 3) (hdi : ki = 2 → -1 ≤ di ∧ di ≤ 100) (hc : c ≤ 12) (h53 : f 53 = xbo (c : Nat) kp pt) (h54 : f 54 = .inr (.inr (.inr (3, xfl)))) (hkf : ∀ i, i < c → xKF (G i) i f (nm i) (bc i) (dp i) (av i)) (hA : ki = 2 ∧ 2 ≤ di ∧ di ≤ 4 ∧ op < 3) : xq v0 xs u 49 [(0, .ref 109)] f (fun r f' => r = some (xi 1) ∧ f' 109 = xrd c op 3 pt sl ∧ f' 110 = xr 0 (tm.set op.toNat di) ∧ ∀ p, p ≠ 109 → p ≠ 110 → f' p = f p) := by
  unfold xq
  refine x_aload_n rfl rfl ?_
  refine x_aload_n rfl rfl ?_
  refine x_getfield rfl (by decide) h109 rfl ?_
  refine x_getfield rfl (by decide) h53 rfl ?_
  refine x_putfield rfl (by decide) h109 (show (8 : Nat) < 10 from by decide) rfl ?_
  refine x_aload_n rfl rfl ?_
  refine x_call [_] rfl rfl (show (0 : Nat) ≤ 8 from by decide) (show (1 : Nat) ≤ 1 from by decide) (x_rcv (by decide) xu_eq) (xs_43t xu_eq (xu_ne (by decide) h112) hki hsg (xu_ne (by decide) h110) htl hop hdi hA) (fun r' f' hP => ?_)
  obtain ⟨rfl, rfl⟩ := hP
  refine x_ifne (t := 32) rfl rfl ⟨by omega, by omega⟩ (fun hb15 => ?_) (fun hb15 => ?_)
  · refine x_iconst rfl ?_
    refine x_goto (t := 37) rfl rfl ?_
    refine x_ireturn rfl (Or.inr (Or.inl ⟨rfl, by decide⟩)) ⟨_, _, rfl, rfl, ?_⟩
    first | (exfalso; omega) | exact ⟨rfl, xu_eq, xu_ne (by decide) xu_eq, fun p p1 p2 => xu_ne p1 (xu_ne p2 (xu_ne p1 rfl))⟩
  · exfalso; omega
theorem xs_49B {G : Nat → List xBt} {B : List xBt} {v0 : Value} {xs : List Int32} {u : Nat × Nat} {f : Nat → zE} {c : Nat} {op ex bs sl ki st en di sg : Int} {wo : Int64} {tm : List Int} {kp pt : Int} {nm : Nat → Int64} {bc dp : Nat → Int} {av : Nat → Value} {nmd : Int64} {m d : Int} {al : Value} {i : Nat} (h109 : f 109 = xrd c op ex bs sl) (h112 : f 112 = xtk ki st en wo di sg) (hki : 0 ≤ ki ∧ ki ≤ 9) (hsg : ki = 3 → 0 ≤ sg ∧ sg ≤ 65535) (h110 : f 110 = xr 0 tm) (htl : tm.length = 3) (hop : 0 ≤ op ∧ op ≤ 3) (hdi : ki = 2 → -1 ≤ di ∧ di ≤ 100) (hc : c ≤ 12) (h53 : f 53 = xbo (c : Nat) kp pt) (h54 : f 54 = .inr (.inr (.inr (3, xfl)))) (hkf : ∀ i, i < c → xKF (G i) i f (nm i) (bc i) (dp i) (av i)) (hd : xDR B c f nmd m d al) (hdd : -1000 ≤ d ∧ d ≤ 1000) (hdp : ∀ i, i < c → -1000 ≤ dp i ∧ dp i ≤ 1000) (hi : i < c) (hk1 : ki = 1) (hw : xfn nm wo c 0 = (i : Nat)) : xq v0 xs u 49 [(0, .ref 109)] f (fun r f' => r = some (xi 1) ∧ xDR (B ++ (G i).map (xsh m)) c f' nmd (min (m + bc i) 17) (max d (dp i + 1)) al ∧ f' 109 = xrd c op 7 pt sl ∧ ∀ p, p ≠ 109 → p ≠ 57 + 4 * c → p ≠ 58 + 4 * c → p ≠ 59 + 4 * c → p ≠ 60 + 4 * c → f' p = f p) := by
  unfold xq
  have hA : ¬ (ki = 2 ∧ 2 ≤ di ∧ di ≤ 4 ∧ op < 3) := by omega
  refine x_aload_n rfl rfl ?_
  refine x_aload_n rfl rfl ?_
  refine x_getfield rfl (by decide) h109 rfl ?_
  refine x_getfield rfl (by decide) h53 rfl ?_
  refine x_putfield rfl (by decide) h109 (show (8 : Nat) < 10 from by decide) rfl ?_
  refine x_aload_n rfl rfl ?_
  refine x_call [_] rfl rfl (show (0 : Nat) ≤ 8 from by decide) (show (1 : Nat) ≤ 1 from by decide) (x_rcv (by decide) xu_eq) (xs_43f xu_eq (xu_ne (by decide) h112) hki hsg (xu_ne (by decide) h110) htl hop hdi hA) (fun r' f' hP => ?_)
  obtain ⟨rfl, rfl⟩ := hP
  refine x_ifne (t := 32) rfl rfl ⟨by omega, by omega⟩ (fun hb15 => ?_) (fun hb15 => ?_)
  · exfalso; omega
  · refine x_aload_n rfl rfl ?_
    refine x_call [_] rfl rfl (show (0 : Nat) ≤ 8 from by decide) (show (1 : Nat) ≤ 2 from by decide) (x_rcv (by decide) xu_eq) (xs_47t xu_eq (xu_ne (by decide) h112) hki hsg hc (xu_ne (by decide) h53) (xu_ne (by decide) h54) (fun i hi => xKF_mv hi (fun p p1 p2 => xu_ne (by omega) rfl) (hkf i hi)) (xDR_mv (fun p p1 p2 => xu_ne (by omega) rfl) hd) hdd hdp hi hk1 hw) (fun r' f' hP => ?_)
    obtain ⟨rfl, hP1, hP2, hP3⟩ := hP
    refine x_ifne (t := 32) rfl rfl ⟨by omega, by omega⟩ (fun hb22 => ?_) (fun hb22 => ?_)
    · refine x_iconst rfl ?_
      refine x_goto (t := 37) rfl rfl ?_
      refine x_ireturn rfl (Or.inr (Or.inl ⟨rfl, by decide⟩)) ⟨_, _, rfl, rfl, ?_⟩
      first | (exfalso; omega) | exact ⟨rfl, hP1, hP2, fun p hp a1 a2 a3 a4 => (hP3 p hp a1 a2 a3 a4).trans (xu_ne hp rfl)⟩
    · exfalso; omega
theorem xs_49C {G : Nat → List xBt} {v0 : Value} {xs : List Int32} {u : Nat × Nat} {f : Nat → zE} {c : Nat} {op ex bs sl ki st en di sg : Int} {wo : Int64} {tm : List Int} {kp pt : Int} {nm : Nat → Int64} {bc dp : Nat → Int} {av : Nat → Value} (hv : v0 = .null ∨ v0 = .ref 49) (h109 : f 109 = xrd c op ex bs sl) (h112 : f 112 = xtk ki st en wo di sg) (hki : 0 ≤ ki ∧ ki ≤ 9) (hsg : ki = 3 → 0 ≤ sg ∧ sg ≤ 65535) (h110 : f 110 = xr 0 tm) (htl : tm.length = 3) (hop : 0 ≤ op ∧ op ≤ 3) (hdi : ki = 2 → -1 ≤ di ∧ di ≤ 100) (hc : c ≤ 12) (h53 : f 53 = xbo (c : Nat) kp pt) (h54 : f 54 = .inr (.inr (.inr (3, xfl)))) (hkf : ∀ i, i < c → xKF (G i) i f (nm i) (bc i) (dp i) (av i)) (hA : ¬ (ki = 2 ∧ 2 ≤ di ∧ di ≤ 4 ∧ op < 3)) (hw : ¬ (ki = 1 ∧ xfn nm wo c 0 ≠ -1)) (hw2 : (ki = 1 ∧ xS wo ≠ -1)) : xq v0 xs u 49 [(0, .ref 109)] f (fun r f' => r = some (xi 1) ∧ f' 109 = xrd c op 5 pt (xS wo) ∧ ∀ p, p ≠ 109 → f' p = f p) := by
  unfold xq
  refine x_aload_n rfl rfl ?_
  refine x_aload_n rfl rfl ?_
  refine x_getfield rfl (by decide) h109 rfl ?_
  refine x_getfield rfl (by decide) h53 rfl ?_
  refine x_putfield rfl (by decide) h109 (show (8 : Nat) < 10 from by decide) rfl ?_
  refine x_aload_n rfl rfl ?_
  refine x_call [_] rfl rfl (show (0 : Nat) ≤ 8 from by decide) (show (1 : Nat) ≤ 1 from by decide) (x_rcv (by decide) xu_eq) (xs_43f xu_eq (xu_ne (by decide) h112) hki hsg (xu_ne (by decide) h110) htl hop hdi hA) (fun r' f' hP => ?_)
  obtain ⟨rfl, rfl⟩ := hP
  refine x_ifne (t := 32) rfl rfl ⟨by omega, by omega⟩ (fun hb15 => ?_) (fun hb15 => ?_)
  · exfalso; omega
  · refine x_aload_n rfl rfl ?_
    refine x_call [_] rfl rfl (show (0 : Nat) ≤ 8 from by decide) (show (1 : Nat) ≤ 2 from by decide) (x_rcv (by decide) xu_eq) (xs_47f xu_eq (xu_ne (by decide) h112) hki hsg hc (xu_ne (by decide) h53) (xu_ne (by decide) h54) (fun i hi => xKF_mv hi (fun p p1 p2 => xu_ne (by omega) rfl) (hkf i hi)) hw) (fun r' f' hP => ?_)
    obtain ⟨rfl, rfl⟩ := hP
    refine x_ifne (t := 32) rfl rfl ⟨by omega, by omega⟩ (fun hb22 => ?_) (fun hb22 => ?_)
    · exfalso; omega
    · refine x_aload_n rfl rfl ?_
      refine x_call [_] rfl rfl (show (0 : Nat) ≤ 8 from by decide) (show (1 : Nat) ≤ 1 from by decide) (x_rcv (by decide) xu_eq) (xs_48t hv xu_eq (xu_ne (by decide) h112) hki hsg hw2) (fun r' f' hP => ?_)
      obtain ⟨rfl, hP1, hP2⟩ := hP
      refine x_ifeq (t := 36) rfl rfl ⟨by omega, by omega⟩ (fun hb29 => ?_) (fun hb29 => ?_)
      · exfalso; omega
      · refine x_iconst rfl ?_
        refine x_goto (t := 37) rfl rfl ?_
        refine x_ireturn rfl (Or.inr (Or.inl ⟨rfl, by decide⟩)) ⟨_, _, rfl, rfl, ?_⟩
        first | (exfalso; omega) | exact ⟨rfl, hP1, fun p hp => (hP2 p hp).trans (xu_ne hp rfl)⟩
theorem xs_49D {G : Nat → List xBt} {v0 : Value} {xs : List Int32} {u : Nat × Nat} {f : Nat → zE} {c : Nat} {op ex bs sl ki st en di sg : Int} {wo : Int64} {tm : List Int} {kp pt : Int} {nm : Nat → Int64} {bc dp : Nat → Int} {av : Nat → Value} (hv : v0 = .null ∨ v0 = .ref 49) (h109 : f 109 = xrd c op ex bs sl) (h112 : f 112 = xtk ki st en wo di sg) (hki : 0 ≤ ki ∧ ki ≤ 9) (hsg : ki = 3 → 0 ≤ sg ∧ sg ≤ 65535) (h110 : f 110 = xr 0 tm) (htl : tm.length = 3) (hop : 0 ≤ op ∧ op ≤ 3) (hdi : ki = 2 → -1 ≤ di ∧ di ≤ 100) (hc : c ≤ 12) (h53 : f 53 = xbo (c : Nat) kp pt) (h54 : f 54 = .inr (.inr (.inr (3, xfl)))) (hkf : ∀ i, i < c → xKF (G i) i f (nm i) (bc i) (dp i) (av i)) (hA : ¬ (ki = 2 ∧ 2 ≤ di ∧ di ≤ 4 ∧ op < 3)) (hw : ¬ (ki = 1 ∧ xfn nm wo c 0 ≠ -1)) (hw2 : ¬ (ki = 1 ∧ xS wo ≠ -1)) : xq v0 xs u 49 [(0, .ref 109)] f (fun r f' => r = some (xi 0) ∧ (∃ sl', f' 109 = xrd c op 5 pt sl' ∧ sl' = -1) ∧ ∀ p, p ≠ 109 → f' p = f p) := by
  unfold xq
  refine x_aload_n rfl rfl ?_
  refine x_aload_n rfl rfl ?_
  refine x_getfield rfl (by decide) h109 rfl ?_
  refine x_getfield rfl (by decide) h53 rfl ?_
  refine x_putfield rfl (by decide) h109 (show (8 : Nat) < 10 from by decide) rfl ?_
  refine x_aload_n rfl rfl ?_
  refine x_call [_] rfl rfl (show (0 : Nat) ≤ 8 from by decide) (show (1 : Nat) ≤ 1 from by decide) (x_rcv (by decide) xu_eq) (xs_43f xu_eq (xu_ne (by decide) h112) hki hsg (xu_ne (by decide) h110) htl hop hdi hA) (fun r' f' hP => ?_)
  obtain ⟨rfl, rfl⟩ := hP
  refine x_ifne (t := 32) rfl rfl ⟨by omega, by omega⟩ (fun hb15 => ?_) (fun hb15 => ?_)
  · exfalso; omega
  · refine x_aload_n rfl rfl ?_
    refine x_call [_] rfl rfl (show (0 : Nat) ≤ 8 from by decide) (show (1 : Nat) ≤ 2 from by decide) (x_rcv (by decide) xu_eq) (xs_47f xu_eq (xu_ne (by decide) h112) hki hsg hc (xu_ne (by decide) h53) (xu_ne (by decide) h54) (fun i hi => xKF_mv hi (fun p p1 p2 => xu_ne (by omega) rfl) (hkf i hi)) hw) (fun r' f' hP => ?_)
    obtain ⟨rfl, rfl⟩ := hP
    refine x_ifne (t := 32) rfl rfl ⟨by omega, by omega⟩ (fun hb22 => ?_) (fun hb22 => ?_)
    · exfalso; omega
    · refine x_aload_n rfl rfl ?_
      refine x_call [_] rfl rfl (show (0 : Nat) ≤ 8 from by decide) (show (1 : Nat) ≤ 1 from by decide) (x_rcv (by decide) xu_eq) (xs_48f hv xu_eq (xu_ne (by decide) h112) hki hsg hw2) (fun r' f' hP => ?_)
      obtain ⟨rfl, hP1, hP2⟩ := hP
      refine x_ifeq (t := 36) rfl rfl ⟨by omega, by omega⟩ (fun hb29 => ?_) (fun hb29 => ?_)
      · refine x_iconst rfl ?_
        refine x_ireturn rfl (Or.inr (Or.inl ⟨rfl, by decide⟩)) ⟨_, _, rfl, rfl, ?_⟩
        first | (exfalso; omega) | exact ⟨rfl, hP1, fun p hp => (hP2 p hp).trans (xu_ne hp rfl)⟩
      · exfalso; omega
theorem xs_56s {B : List xBt} {v0 : Value} {xs : List Int32} {u : Nat × Nat} {f : Nat → zE} {c : Nat} {op ex bs sl ki st en di sg : Int} {wo : Int64} {kp pt : Int} {tm oa : List Int} {nmd : Int64} {m d : Int} {al : Value} (h109 : f 109 = xrd c op ex bs sl) (h112 : f 112 = xtk ki st en wo di sg) (hki : 0 ≤ ki ∧ ki ≤ 9) (hsg : ki = 3 → 0 ≤ sg ∧ sg ≤ 65535) (hc : c ≤ 12) (h53 : f 53 = xbo (c : Nat) kp pt) (hpt : 0 ≤ pt ∧ pt ≤ 208) (hbs : 0 ≤ bs ∧ bs ≤ 208) (h110 : f 110 = xr 0 tm) (h111 : f 111 = xr 0 oa) (htl : tm.length = 3) (hol : oa.length = 3) (hop : 0 ≤ op ∧ op ≤ 3) (hd : xDR B c f nmd m d al) (hw : ki = 3 ∧ sg = 59) : xq v0 xs u 56 [(0, .ref 109)] f (fun r f' => r = some (xi 1) ∧ f' 109 = xrd c op 2 bs sl ∧ xDR (B ++ [(bs, pt, -1)]) c f' nmd (min (m + 1) 17) d al ∧ ∀ p, p ≠ 109 → p ≠ 57 + 4 * c → p ≠ 58 + 4 * c → p ≠ 59 + 4 * c → p ≠ 60 + 4 * c → f' p = f p) := by
  unfold xq
  have hd0 := hd
  obtain ⟨hm1, hm2, fp, ep, ta, h0, h1, h2, h3, hty⟩ := hd0
  refine x_aload_n rfl rfl ?_
  refine x_getfield rfl (by decide) h109 rfl ?_
  refine x_aload_n rfl rfl ?_
  refine x_getfield rfl (by decide) h109 rfl ?_
  refine x_aload_n rfl rfl ?_
  refine x_getfield rfl (by decide) h109 rfl ?_
  refine x_getfield rfl (by decide) h53 rfl ?_
  refine x_call [_, _, _] rfl rfl (show (0 : Nat) ≤ 8 from by decide) (show (3 : Nat) ≤ 3 from by decide) (x_rcv (by omega) h0) (xs_53 hc hd hbs hpt) (fun r' f' hP => ?_)
  obtain ⟨rfl, hQ1, hQ2⟩ := hP
  refine x_aload_n rfl rfl ?_
  refine x_call [_] rfl rfl (show (0 : Nat) ≤ 8 from by decide) (show (1 : Nat) ≤ 1 from by decide) (x_rcv (by decide) ((hQ2 109 (by omega) (by omega) (by omega) (by omega)).trans h109)) (xs_55s ((hQ2 109 (by omega) (by omega) (by omega) (by omega)).trans h109) ((hQ2 112 (by omega) (by omega) (by omega) (by omega)).trans h112) hki hsg hw) (fun r' f' hP => ?_)
  obtain ⟨rfl, rfl⟩ := hP
  refine x_ireturn rfl (Or.inr (Or.inl ⟨rfl, by decide⟩)) ⟨_, _, rfl, rfl, ?_⟩
  first | (exfalso; omega) | exact ⟨rfl, xu_eq, xDR_mv (fun p p1 p2 => xu_ne (by omega) rfl) hQ1, fun p hp a1 a2 a3 a4 => xu_ne hp (hQ2 p a1 a2 a3 a4)⟩
theorem xs_56f {B : List xBt} {v0 : Value} {xs : List Int32} {u : Nat × Nat} {f : Nat → zE} {c : Nat} {op ex bs sl ki st en di sg : Int} {wo : Int64} {kp pt : Int} {tm oa : List Int} {nmd : Int64} {m d : Int} {al : Value} (h109 : f 109 = xrd c op ex bs sl) (h112 : f 112 = xtk ki st en wo di sg) (hki : 0 ≤ ki ∧ ki ≤ 9) (hsg : ki = 3 → 0 ≤ sg ∧ sg ≤ 65535) (hc : c ≤ 12) (h53 : f 53 = xbo (c : Nat) kp pt) (hpt : 0 ≤ pt ∧ pt ≤ 208) (hbs : 0 ≤ bs ∧ bs ≤ 208) (h110 : f 110 = xr 0 tm) (h111 : f 111 = xr 0 oa) (htl : tm.length = 3) (hol : oa.length = 3) (hop : 0 ≤ op ∧ op ≤ 3) (hd : xDR B c f nmd m d al) (hw : ¬ (ki = 3 ∧ sg = 59)) (hw2 : op = 0 ∨ ¬ (ki = 3 ∧ sg = 41)) : xq v0 xs u 56 [(0, .ref 109)] f (fun r f' => r = some (xi 0) ∧ f' 109 = xrd c op ex bs sl ∧ xDR (B ++ [(bs, pt, -1)]) c f' nmd (min (m + 1) 17) d al ∧ ∀ p, p ≠ 57 + 4 * c → p ≠ 58 + 4 * c → p ≠ 59 + 4 * c → p ≠ 60 + 4 * c → f' p = f p) := by
  unfold xq
  have hd0 := hd
  obtain ⟨hm1, hm2, fp, ep, ta, h0, h1, h2, h3, hty⟩ := hd0
  refine x_aload_n rfl rfl ?_
  refine x_getfield rfl (by decide) h109 rfl ?_
  refine x_aload_n rfl rfl ?_
  refine x_getfield rfl (by decide) h109 rfl ?_
  refine x_aload_n rfl rfl ?_
  refine x_getfield rfl (by decide) h109 rfl ?_
  refine x_getfield rfl (by decide) h53 rfl ?_
  refine x_call [_, _, _] rfl rfl (show (0 : Nat) ≤ 8 from by decide) (show (3 : Nat) ≤ 3 from by decide) (x_rcv (by omega) h0) (xs_53 hc hd hbs hpt) (fun r' f' hP => ?_)
  obtain ⟨rfl, hQ1, hQ2⟩ := hP
  refine x_aload_n rfl rfl ?_
  refine x_call [_] rfl rfl (show (0 : Nat) ≤ 8 from by decide) (show (1 : Nat) ≤ 1 from by decide) (x_rcv (by decide) ((hQ2 109 (by omega) (by omega) (by omega) (by omega)).trans h109)) (xs_55f ((hQ2 109 (by omega) (by omega) (by omega) (by omega)).trans h109) ((hQ2 112 (by omega) (by omega) (by omega) (by omega)).trans h112) hki hsg hop hw hw2) (fun r' f' hP => ?_)
  obtain ⟨rfl, rfl⟩ := hP
  refine x_ireturn rfl (Or.inr (Or.inl ⟨rfl, by decide⟩)) ⟨_, _, rfl, rfl, ?_⟩
  first | (exfalso; omega) | exact ⟨rfl, (hQ2 109 (by omega) (by omega) (by omega) (by omega)).trans h109, hQ1, hQ2⟩
theorem xs_56c {B : List xBt} {v0 : Value} {xs : List Int32} {u : Nat × Nat} {f : Nat → zE} {c : Nat} {op ex bs sl ki st en di sg : Int} {wo : Int64} {kp pt : Int} {tm oa : List Int} {nmd : Int64} {m d : Int} {al : Value} (h109 : f 109 = xrd c op ex bs sl) (h112 : f 112 = xtk ki st en wo di sg) (hki : 0 ≤ ki ∧ ki ≤ 9) (hsg : ki = 3 → 0 ≤ sg ∧ sg ≤ 65535) (hc : c ≤ 12) (h53 : f 53 = xbo (c : Nat) kp pt) (hpt : 0 ≤ pt ∧ pt ≤ 208) (hbs : 0 ≤ bs ∧ bs ≤ 208) (h110 : f 110 = xr 0 tm) (h111 : f 111 = xr 0 oa) (htl : tm.length = 3) (hol : oa.length = 3) (hop : 0 ≤ op ∧ op ≤ 3) (hd : xDR B c f nmd m d al) (hw : ¬ (ki = 3 ∧ sg = 59)) (hw2 : 0 < op) (hw3 : ki = 3 ∧ sg = 41) (hfr0 : 0 ≤ oa.getD (op - 1).toNat 0 ∧ oa.getD (op - 1).toNat 0 ≤ min (m + 1) 17) (hti : 1 ≤ tm.getD (op - 1).toNat 0 ∧ tm.getD (op - 1).toNat 0 ≤ 4) : xq v0 xs u 56 [(0, .ref 109)] f (fun r f' => r = some (xi 1) ∧ f' 109 = xrd c (op - 1) 7 bs sl ∧ xDR ((B ++ [(bs, pt, -1)]) ++ xrd0 (B ++ [(bs, pt, -1)]) (oa.getD (op - 1).toNat 0).toNat (min (m + 1) 17 - oa.getD (op - 1).toNat 0) (tm.getD (op - 1).toNat 0 - 1).toNat) c f' nmd (min (min (m + 1) 17 + (tm.getD (op - 1).toNat 0 - 1) * (min (m + 1) 17 - oa.getD (op - 1).toNat 0)) 17) d al ∧ ∀ p, p ≠ 109 → p ≠ 57 + 4 * c → p ≠ 58 + 4 * c → p ≠ 59 + 4 * c → p ≠ 60 + 4 * c → f' p = f p) := by
  unfold xq
  have hd0 := hd
  obtain ⟨hm1, hm2, fp, ep, ta, h0, h1, h2, h3, hty⟩ := hd0
  refine x_aload_n rfl rfl ?_
  refine x_getfield rfl (by decide) h109 rfl ?_
  refine x_aload_n rfl rfl ?_
  refine x_getfield rfl (by decide) h109 rfl ?_
  refine x_aload_n rfl rfl ?_
  refine x_getfield rfl (by decide) h109 rfl ?_
  refine x_getfield rfl (by decide) h53 rfl ?_
  refine x_call [_, _, _] rfl rfl (show (0 : Nat) ≤ 8 from by decide) (show (3 : Nat) ≤ 3 from by decide) (x_rcv (by omega) h0) (xs_53 hc hd hbs hpt) (fun r' f' hP => ?_)
  obtain ⟨rfl, hQ1, hQ2⟩ := hP
  refine x_aload_n rfl rfl ?_
  refine x_call [_] rfl rfl (show (0 : Nat) ≤ 8 from by decide) (show (1 : Nat) ≤ 1 from by decide) (x_rcv (by decide) ((hQ2 109 (by omega) (by omega) (by omega) (by omega)).trans h109)) (xs_55c ((hQ2 109 (by omega) (by omega) (by omega) (by omega)).trans h109) ((hQ2 112 (by omega) (by omega) (by omega) (by omega)).trans h112) hki hsg hc ((hQ2 110 (by omega) (by omega) (by omega) (by omega)).trans h110) ((hQ2 111 (by omega) (by omega) (by omega) (by omega)).trans h111) htl hol hop hQ1 hw hw2 hw3 hfr0 hti) (fun r' f' hP => ?_)
  obtain ⟨rfl, hP1, hP2, hP3⟩ := hP
  refine x_ireturn rfl (Or.inr (Or.inl ⟨rfl, by decide⟩)) ⟨_, _, rfl, rfl, ?_⟩
  first | (exfalso; omega) | exact ⟨rfl, hP1, hP2, fun p hp a1 a2 a3 a4 => (hP3 p hp a1 a2 a3 a4).trans (hQ2 p a1 a2 a3 a4)⟩
/-- brackets and counts of a state -/
def xbr (q : xA) : Prop := q.1 ≤ 7 ∧ (0 ≤ q.2.1 ∧ q.2.1 ≤ 3) ∧ (q.1 = 3 → q.2.1 < 3 ∧ 2 ≤ q.2.2.1.getD q.2.1.toNat 0) ∧ q.2.2.1.length = 3 ∧ q.2.2.2.1.length = 3 ∧ (∀ j : Nat, 0 ≤ q.2.2.1.getD j 0 ∧ q.2.2.1.getD j 0 ≤ 4) ∧ (∀ j : Nat, 0 ≤ q.2.2.2.1.getD j 0 ∧ q.2.2.2.1.getD j 0 ≤ 17) ∧ (∀ j : Nat, (j : Int) < q.2.1 → 2 ≤ q.2.2.1.getD j 0 ∧ q.2.2.2.1.getD j 0 ≤ q.2.2.2.2.1) ∧ (0 ≤ q.2.2.2.2.1 ∧ q.2.2.2.2.1 ≤ 17) ∧ (1 ≤ q.2.2.2.2.2 ∧ q.2.2.2.2.2 ≤ 7)
def xFR (c : Nat) (f0 f : Nat → zE) : Prop := ∀ p, p ≠ 53 → p ≠ 55 → p ≠ 56 → p ≠ 57 + 4 * c → p ≠ 58 + 4 * c → p ≠ 59 + 4 * c → p ≠ 60 + 4 * c → p ≠ 109 → p ≠ 110 → p ≠ 111 → p ≠ 112 → f p = f0 p
/-- the heap's content beside the grammar's: as long as the parts fit, and the beats are no more than sixteen -/
def xct (K : List (Int × Int)) (B : List xBt) (bs sl : Int) (q : xA) (C : xC) : Prop := (q.1 = 5 → sl = C.2.1) ∧ ((K ++ C.2.2.1).length ≤ 208 → (4 ≤ q.1 → q.1 ≤ 6 → bs = C.1) ∧ (q.2.2.2.2.1 ≤ 16 → B = C.2.2.2))
def xSC (f0 : Nat → zE) (K : List (Int × Int)) (c : Nat) (kp : Int) (f : Nat → zE) (nmd : Int64) (al : Value) (q : xA) (C : xC) : Prop := ∃ (pt bs sl : Int) (B : List xBt), (0 ≤ pt ∧ pt ≤ 208) ∧ (0 ≤ bs ∧ bs ≤ 208) ∧ (-1 ≤ sl ∧ sl ≤ 12 ∧ (q.1 = 5 → 0 ≤ sl)) ∧ f 53 = xbo (c : Nat) kp pt ∧ f 109 = xrd c q.2.1 (q.1 : Nat) bs sl ∧ f 110 = xr 0 q.2.2.1 ∧ f 111 = xr 0 q.2.2.2.1 ∧ xbr q ∧ xDR B c f nmd q.2.2.2.2.1 q.2.2.2.2.2 al ∧ xPT K C.2.2.1 pt f ∧ xct K B bs sl q C ∧ xFR c f0 f
/-- the same without what is expected -/
def xSW (f0 : Nat → zE) (K : List (Int × Int)) (c : Nat) (kp : Int) (f : Nat → zE) (al : Value) : Prop := ∃ (pt op ex bs sl m d : Int) (tm oa : List Int) (nmd : Int64) (E : List (Int × Int)) (B : List xBt), ((0 ≤ pt ∧ pt ≤ 208) ∧ (0 ≤ bs ∧ bs ≤ 208) ∧ -1 ≤ sl ∧ sl ≤ 12) ∧ f 53 = xbo (c : Nat) kp pt ∧ f 109 = xrd c op ex bs sl ∧ f 110 = xr 0 tm ∧ f 111 = xr 0 oa ∧ tm.length = 3 ∧ oa.length = 3 ∧ (∀ j : Nat, 0 ≤ tm.getD j 0 ∧ tm.getD j 0 ≤ 4) ∧ (∀ j : Nat, 0 ≤ oa.getD j 0 ∧ oa.getD j 0 ≤ 17) ∧ xDR B c f nmd m d al ∧ xPT K E pt f ∧ xFR c f0 f
theorem xeos_br {op : Int} {tm oa : List Int} {m d ki sg : Int} {e : Nat} {q : xA} (h : xbr (e, op, tm, oa, m, d)) (hs : xeos op tm oa m d ki sg = some q) : xbr q := by
  obtain ⟨h1, h2, h3, h4, h5, h6, h7, h8, h9, h10⟩ := h
  dsimp only at *
  unfold xeos at hs
  split at hs
  · cases hs
    exact ⟨by dsimp only; decide, h2, fun h => by simp at h, h4, h5, h6, h7, h8, h9, h10⟩
  · split at hs
    · cases hs
    · split at hs
      · cases hs
        have k1 := h8 (op - 1).toNat (by omega)
        have k2 : 0 ≤ (tm.getD (op - 1).toNat 0 - 1) * (m - oa.getD (op - 1).toNat 0) := Int.mul_nonneg (by omega) (by omega)
        refine ⟨by dsimp only; decide, by dsimp only; omega, fun h => by simp at h, h4, h5, h6, h7, fun j hj => ?_, by dsimp only; omega, h10⟩
        dsimp only at hj ⊢
        have := h8 j (by omega)
        omega
      · cases hs
theorem xstep_br {bc dp : Nat → Int} {ki di sg sl at' ol : Int} {lg : Bool} {q q' : xA} (hbd : ki = 1 → ol ≠ -1 → 0 ≤ bc ol.toNat ∧ 1 ≤ dp ol.toNat ∧ dp ol.toNat ≤ 6) (h : xbr q) (hs : xstep bc dp ki di sg sl at' ol lg q = some q') : xbr q' := by
  have h0 := h
  obtain ⟨ex, op, tm, oa, m, d⟩ := q
  obtain ⟨h1, h2, h3, h4, h5, h6, h7, h8, h9, h10⟩ := h
  dsimp only at h1 h2 h3 h4 h5 h6 h7 h8 h9 h10
  match ex, h1 with
  | 0, _ =>
    simp only [xstep] at hs
    split at hs
    · cases hs; exact ⟨by dsimp only; decide, h2, fun h => by simp at h, h4, h5, h6, h7, h8, h9, h10⟩
    · cases hs
  | 1, _ =>
    simp only [xstep] at hs
    split at hs
    · cases hs; exact ⟨by dsimp only; decide, h2, fun h => by simp at h, h4, h5, h6, h7, h8, h9, h10⟩
    · cases hs
  | 2, _ =>
    simp only [xstep] at hs
    split at hs
    · rename_i hA
      cases hs
      refine ⟨by dsimp only; decide, h2, fun _ => ⟨hA.2.2.2, ?_⟩, by rw [List.length_set]; exact h4, h5, fun j => ?_, h7, fun j hj => ?_, h9, h10⟩
      · dsimp only
        rw [x_gset, if_pos ⟨rfl, by omega⟩]
        omega
      · dsimp only
        rw [x_gset]
        split
        · omega
        · exact h6 j
      · dsimp only at hj ⊢
        rw [x_gset, if_neg (by omega)]
        exact h8 j hj
    · split at hs
      · rename_i hB
        cases hs
        have hb := hbd hB.1 hB.2
        refine ⟨by dsimp only; decide, h2, fun h => by simp at h, h4, h5, h6, h7, fun j hj => ?_, by dsimp only; omega, by dsimp only; omega⟩
        dsimp only at hj ⊢
        have := h8 j hj
        omega
      · split at hs
        · cases hs; exact ⟨by dsimp only; decide, h2, fun h => by simp at h, h4, h5, h6, h7, h8, h9, h10⟩
        · cases hs
  | 3, _ =>
    simp only [xstep] at hs
    split at hs
    · cases hs
      obtain ⟨k1, k2⟩ := h3 rfl
      refine ⟨by dsimp only; decide, by dsimp only; omega, fun h => by simp at h, h4, by rw [List.length_set]; exact h5, h6, fun j => ?_, fun j hj => ?_, h9, h10⟩
      · dsimp only
        rw [x_gset]
        split
        · exact h9
        · exact h7 j
      · dsimp only at hj ⊢
        rw [x_gset]
        split
        · rename_i hk
          rw [← hk.1]
          exact ⟨k2, Int.le_refl _⟩
        · rename_i hk
          by_cases e : j = op.toNat
          · exact absurd ⟨e.symm, by omega⟩ hk
          · exact h8 j (by omega)
    · cases hs
  | 4, _ =>
    simp only [xstep] at hs
    split at hs
    · cases hs; exact ⟨by dsimp only; decide, h2, fun h => by simp at h, h4, h5, h6, h7, h8, h9, h10⟩
    · cases hs
  | 5, _ =>
    simp only [xstep] at hs
    split at hs
    · cases hs; exact ⟨by dsimp only; decide, h2, fun h => by simp at h, h4, h5, h6, h7, h8, h9, h10⟩
    · cases hs
  | 6, _ =>
    simp only [xstep] at hs
    split at hs
    · cases hs; exact ⟨by dsimp only; decide, h2, fun h => by simp at h, h4, h5, h6, h7, h8, h9, h10⟩
    · refine xeos_br (e := 6) ⟨by dsimp only; decide, h2, fun h => by simp at h, h4, h5, h6, h7, fun j hj => ?_, by dsimp only; omega, h10⟩ hs
      dsimp only at hj ⊢
      have := h8 j hj
      omega
  | 7, _ =>
    simp only [xstep] at hs
    exact xeos_br h0 hs
theorem xSC_W {f0 : Nat → zE} {K : List (Int × Int)} {c : Nat} {kp : Int} {f : Nat → zE} {nmd : Int64} {al : Value} {q : xA} {C : xC} (h : xSC f0 K c kp f nmd al q C) : xSW f0 K c kp f al := by
  obtain ⟨pt, bs, sl, B, h1, h2, h3, h4, h5, h6, h7, h8, h9, h10, -, h11⟩ := h
  exact ⟨pt, _, _, bs, sl, _, _, _, _, nmd, _, _, ⟨h1, h2, h3.1, h3.2.1⟩, h4, h5, h6, h7, h8.2.2.2.1, h8.2.2.2.2.1, h8.2.2.2.2.2.1, h8.2.2.2.2.2.2.1, h9, h10, h11⟩
theorem xs_57 {K : List (Int × Int)} {G : Nat → List xBt} {C : xC} {v0 : Value} {xs : List Int32} {u : Nat × Nat} {f0 f : Nat → zE} {c : Nat} {kp : Int} {nmd : Int64} {al : Value} {q : xA} {nm : Nat → Int64} {bc dp : Nat → Int} {av : Nat → Value} {ki st en di sg : Int} {wo : Int64} (hv : v0 = .null ∨ v0 = .ref 49) (hc : c ≤ 12) (h54 : f0 54 = .inr (.inr (.inr (3, xfl)))) (hk0 : ∀ i, i < c → xKF (G i) i f0 (nm i) (bc i) (dp i) (av i)) (hdp : ∀ i, i < c → 1 ≤ dp i ∧ dp i ≤ 6) (hsc : xSC f0 K c kp f nmd al q C) (h112 : f 112 = xtk ki st en wo di sg) (hki : 0 ≤ ki ∧ ki ≤ 9) (hsg : ki = 3 → 0 ≤ sg ∧ sg ≤ 65535) (hdi : ki = 2 → -1 ≤ di ∧ di ≤ 100) (hxs : xS wo ≤ 12) (hxa : xAt wo ≤ 6) : xq v0 xs u 57 [(0, .ref 109)] f (fun r f' => (∃ q', xstep bc dp ki di sg (xS wo) (xAt wo) (xfn nm wo c 0) (decide (wo = 0)) q = some q' ∧ r = some (xi 1) ∧ xSC f0 K c kp f' (if q.1 = 0 then wo else nmd) al q' (xcst K G ki di sg (xS wo) (xAt wo) (xfn nm wo c 0) q C) ∧ f' 112 = f 112) ∨ (xstep bc dp ki di sg (xS wo) (xAt wo) (xfn nm wo c 0) (decide (wo = 0)) q = none ∧ r = some (xi 0) ∧ xSW f0 K c kp f' al ∧ f' 112 = f 112)) := by
  unfold xq
  have hsc0 := hsc
  obtain ⟨ex, op, tm, oa, m, d⟩ := q
  obtain ⟨pt, bs, sl, B9, hpt, hbs, hsl, h53, h109, h110, h111, hbr, hd, hPT, hct, hfr⟩ := hsc
  dsimp only at h109 h110 h111 hd hsl
  have hpl : (K ++ C.2.2.1).length ≤ 208 → ((K ++ C.2.2.1).length : Int) = pt := fun hl => by
    obtain ⟨se, at', -, -, -, -, -, -, -, -, h⟩ := hPT
    exact (h hl).1
  have hBl : m ≤ 16 → (B9.length : Int) = m := fun h => by
    obtain ⟨-, -, fp, ep, ta, -, -, -, -, -, h'⟩ := hd
    exact (h' h).1
  have hst := fun q' => xstep_br (q' := q') (ki := ki) (di := di) (sg := sg) (sl := xS wo) (at' := xAt wo) (ol := xfn nm wo c 0) (lg := decide (wo = 0)) (bc := bc) (dp := dp) (fun _ hne => by
    rcases xfn_rg (nm := nm) (g := wo) c 0 with h | ⟨j, h1, h2, h3⟩
    · exact absurd h hne
    · rw [h1, Int.toNat_natCast]; exact ⟨(hk0 j (by omega)).1, hdp j (by omega)⟩) hbr
  have hbr0 := hbr
  obtain ⟨b1, b2, b3, b4, b5, b6, b7, b8, b9, b10⟩ := hbr0
  dsimp only at b1 b2 b3 b4 b5 b6 b7 b8 b9 b10
  have h54f : f 54 = .inr (.inr (.inr (3, xfl))) := (hfr 54 (by decide) (by decide) (by decide) (by omega) (by omega) (by omega) (by omega) (by decide) (by decide) (by decide) (by decide)).trans h54
  have hkf : ∀ i, i < c → xKF (G i) i f (nm i) (bc i) (dp i) (av i) := fun i hi => xKF_mv hi (fun p p1 p2 => hfr p (by omega) (by omega) (by omega) (by omega) (by omega) (by omega) (by omega) (by omega) (by omega) (by omega) (by omega)) (hk0 i hi)
  have hdp2 : ∀ i, i < c → -1000 ≤ dp i ∧ dp i ≤ 1000 := fun i hi => by have := hdp i hi; omega
  match ex, b1 with
  | 0, _ =>
    refine x_aload_n rfl rfl ?_
    refine x_getfield rfl (by decide) h109 rfl ?_
    refine x_sw (t := 48) rfl (by decide) rfl rfl ?_
    refine x_aload_n rfl rfl ?_
    by_cases hw : ki = 1 ∧ ¬ wo = 0 ∧ xfn nm wo c 0 = -1 ∧ xS wo = -1 ∧ xAt wo = -1
    · skip
      refine x_call [_] rfl rfl (show (0 : Nat) ≤ 8 from by decide) (show (1 : Nat) ≤ 1 from by decide) (x_rcv (by decide) h109) (xs_40t hv h109 h112 hki hsg hc h53 h54f hkf hd hw) (fun r' f' hP => ?_)
      obtain ⟨rfl, hP1, hP2, hP3⟩ := hP
      refine x_ireturn rfl (Or.inr (Or.inl ⟨rfl, by decide⟩)) ⟨_, _, rfl, rfl, ?_⟩
      refine Or.inl ⟨(1, op, tm, oa, m, d), ?_, rfl, ⟨pt, bs, sl, _, hpt, hbs, ⟨hsl.1, hsl.2.1, fun h => by simp at h⟩, (hP3 53 (by decide) (by omega)).trans h53, hP2, (hP3 110 (by decide) (by omega)).trans h110, (hP3 111 (by decide) (by omega)).trans h111, hst _ ?_, hP1, xPT_mv (hP3 55 (by decide) (by omega)) (hP3 56 (by decide) (by omega)) hPT, ?_, fun p a1 a2 a3 a4 a5 a6 a7 a8 a9 a10 a11 => (hP3 p a8 a4).trans (hfr p a1 a2 a3 a4 a5 a6 a7 a8 a9 a10 a11)⟩, hP3 112 (by decide) (by omega)⟩
      · simp only [xstep]; rw [if_pos ⟨hw.1, by simpa using hw.2.1, hw.2.2⟩]
      · simp only [xstep]; rw [if_pos ⟨hw.1, by simpa using hw.2.1, hw.2.2⟩]
      · exact ⟨fun h => by dsimp only at h; omega, fun hl => ⟨fun h => by dsimp only at h; omega, fun hm => (hct.2 hl).2 hm⟩⟩
    · skip
      refine x_call [_] rfl rfl (show (0 : Nat) ≤ 8 from by decide) (show (1 : Nat) ≤ 1 from by decide) (x_rcv (by decide) h109) (xs_40f hv h109 h112 hki hsg hc h53 h54f hkf hd hw) (fun r' f' hP => ?_)
      obtain ⟨rfl, rfl⟩ := hP
      refine x_ireturn rfl (Or.inr (Or.inl ⟨rfl, by decide⟩)) ⟨_, _, rfl, rfl, ?_⟩
      refine Or.inr ⟨?_, rfl, xSC_W hsc0, rfl⟩
      simp only [xstep]; rw [if_neg (fun h => hw ⟨h.1, by simpa using h.2.1, h.2.2⟩)]
  | 1, _ =>
    refine x_aload_n rfl rfl ?_
    refine x_getfield rfl (by decide) h109 rfl ?_
    refine x_sw (t := 53) rfl (by decide) rfl rfl ?_
    refine x_aload_n rfl rfl ?_
    refine x_bipush rfl (by decide) ?_
    refine x_iconst rfl ?_
    by_cases hw : ki = 3 ∧ sg = 61
    · skip
      refine x_call [_, _, _] rfl rfl (show (0 : Nat) ≤ 8 from by decide) (show (3 : Nat) ≤ 3 from by decide) (x_rcv (by decide) h109) (xs_42t h109 h112 hki hsg (by decide) hw) (fun r' f' hP => ?_)
      obtain ⟨rfl, rfl⟩ := hP
      refine x_ireturn rfl (Or.inr (Or.inl ⟨rfl, by decide⟩)) ⟨_, _, rfl, rfl, ?_⟩
      refine Or.inl ⟨(2, op, tm, oa, m, d), ?_, rfl, ⟨pt, bs, sl, _, hpt, hbs, ⟨hsl.1, hsl.2.1, fun h => by simp at h⟩, xu_ne (by decide) h53, xu_eq, xu_ne (by decide) h110, xu_ne (by decide) h111, hst _ ?_, xDR_mv (fun p p1 p2 => xu_ne (by omega) rfl) hd, xPT_mv (xu_ne (by decide) rfl) (xu_ne (by decide) rfl) hPT, ?_, fun p a1 a2 a3 a4 a5 a6 a7 a8 a9 a10 a11 => (xu_ne a8 rfl).trans (hfr p a1 a2 a3 a4 a5 a6 a7 a8 a9 a10 a11)⟩, xu_ne (by decide) rfl⟩
      · simp only [xstep]; rw [if_pos hw]
      · simp only [xstep]; rw [if_pos hw]
      · exact ⟨fun h => by dsimp only at h; omega, fun hl => ⟨fun h => by dsimp only at h; omega, fun hm => (hct.2 hl).2 hm⟩⟩
    · skip
      refine x_call [_, _, _] rfl rfl (show (0 : Nat) ≤ 8 from by decide) (show (3 : Nat) ≤ 3 from by decide) (x_rcv (by decide) h109) (xs_42f h109 h112 hki hsg (by decide) hw) (fun r' f' hP => ?_)
      obtain ⟨rfl, rfl⟩ := hP
      refine x_ireturn rfl (Or.inr (Or.inl ⟨rfl, by decide⟩)) ⟨_, _, rfl, rfl, ?_⟩
      refine Or.inr ⟨?_, rfl, xSC_W hsc0, rfl⟩
      simp only [xstep]; rw [if_neg hw]
  | 2, _ =>
    refine x_aload_n rfl rfl ?_
    refine x_getfield rfl (by decide) h109 rfl ?_
    refine x_sw (t := 61) rfl (by decide) rfl rfl ?_
    refine x_aload_n rfl rfl ?_
    by_cases hA : ki = 2 ∧ 2 ≤ di ∧ di ≤ 4 ∧ op < 3
    · skip
      refine x_call [_] rfl rfl (show (0 : Nat) ≤ 8 from by decide) (show (1 : Nat) ≤ 1 from by decide) (x_rcv (by decide) h109) (xs_49A h109 h112 hki hsg h110 b4 b2 hdi hc h53 h54f hkf hA) (fun r' f' hP => ?_)
      obtain ⟨rfl, hP1, hP2, hP3⟩ := hP
      refine x_ireturn rfl (Or.inr (Or.inl ⟨rfl, by decide⟩)) ⟨_, _, rfl, rfl, ?_⟩
      rw [show xcst K G ki di sg (xS wo) (xAt wo) (xfn nm wo c 0) (2, op, tm, oa, m, d) C = C by simp only [xcst]; rw [if_pos hA]]
      refine Or.inl ⟨(3, op, tm.set op.toNat di, oa, m, d), ?_, rfl, ⟨pt, pt, sl, _, hpt, hpt, ⟨hsl.1, hsl.2.1, fun h => by simp at h⟩, (hP3 53 (by decide) (by decide)).trans h53, hP1, hP2, (hP3 111 (by decide) (by decide)).trans h111, hst _ ?_, xDR_mv (fun p p1 p2 => hP3 p (by omega) (by omega)) hd, xPT_mv (hP3 55 (by decide) (by decide)) (hP3 56 (by decide) (by decide)) hPT, ?_, fun p a1 a2 a3 a4 a5 a6 a7 a8 a9 a10 a11 => (hP3 p a8 a9).trans (hfr p a1 a2 a3 a4 a5 a6 a7 a8 a9 a10 a11)⟩, hP3 112 (by decide) (by decide)⟩
      · simp only [xstep]; rw [if_pos hA]
      · simp only [xstep]; rw [if_pos hA]
      · exact ⟨fun h => by dsimp only at h; omega, fun hl => ⟨fun h => by dsimp only at h; omega, fun hm => (hct.2 hl).2 hm⟩⟩
    · by_cases hB : ki = 1 ∧ xfn nm wo c 0 ≠ -1
      · obtain ⟨i, hi1, hi2⟩ : ∃ i : Nat, xfn nm wo c 0 = (i : Nat) ∧ i < c := by
          rcases xfn_rg (nm := nm) (g := wo) c 0 with h | ⟨j, h1, h2, h3⟩
          · exact absurd h hB.2
          · exact ⟨j, h1, by omega⟩
        refine x_call [_] rfl rfl (show (0 : Nat) ≤ 8 from by decide) (show (1 : Nat) ≤ 1 from by decide) (x_rcv (by decide) h109) (xs_49B h109 h112 hki hsg h110 b4 b2 hdi hc h53 h54f hkf hd (by omega) hdp2 hi2 hB.1 hi1) (fun r' f' hP => ?_)
        obtain ⟨rfl, hP1, hP2, hP3⟩ := hP
        refine x_ireturn rfl (Or.inr (Or.inl ⟨rfl, by decide⟩)) ⟨_, _, rfl, rfl, ?_⟩
        rw [show xcst K G ki di sg (xS wo) (xAt wo) (xfn nm wo c 0) (2, op, tm, oa, m, d) C = (C.1, C.2.1, C.2.2.1, C.2.2.2 ++ (G i).map (xsh (C.2.2.2.length : Nat))) by simp only [xcst]; rw [if_neg hA, if_pos hB, hi1, Int.toNat_natCast]]
        refine Or.inl ⟨(7, op, tm, oa, min (m + bc i) 17, max d (dp i + 1)), ?_, rfl, ⟨pt, pt, sl, _, hpt, hpt, ⟨hsl.1, hsl.2.1, fun h => by simp at h⟩, (hP3 53 (by decide) (by omega) (by omega) (by omega) (by omega)).trans h53, hP2, (hP3 110 (by decide) (by omega) (by omega) (by omega) (by omega)).trans h110, (hP3 111 (by decide) (by omega) (by omega) (by omega) (by omega)).trans h111, hst _ ?_, hP1, xPT_mv (hP3 55 (by decide) (by omega) (by omega) (by omega) (by omega)) (hP3 56 (by decide) (by omega) (by omega) (by omega) (by omega)) hPT, ?_, fun p a1 a2 a3 a4 a5 a6 a7 a8 a9 a10 a11 => (hP3 p a8 a4 a5 a6 a7).trans (hfr p a1 a2 a3 a4 a5 a6 a7 a8 a9 a10 a11)⟩, (hP3 112 (by decide) (by omega) (by omega) (by omega) (by omega))⟩
        · simp only [xstep]; rw [if_neg hA, if_pos hB, hi1, Int.toNat_natCast]
        · simp only [xstep]; rw [if_neg hA, if_pos hB, hi1, Int.toNat_natCast]
        · refine ⟨fun h => by dsimp only at h; omega, fun hl => ⟨fun h => by dsimp only at h; omega, fun hm => ?_⟩⟩
          have hb := (hk0 i hi2).1
          dsimp only at hm ⊢
          rw [← (hct.2 hl).2 (show m ≤ 16 by omega), hBl (by omega)]
      · by_cases hC : ki = 1 ∧ xS wo ≠ -1
        · skip
          refine x_call [_] rfl rfl (show (0 : Nat) ≤ 8 from by decide) (show (1 : Nat) ≤ 1 from by decide) (x_rcv (by decide) h109) (xs_49C hv h109 h112 hki hsg h110 b4 b2 hdi hc h53 h54f hkf hA hB hC) (fun r' f' hP => ?_)
          obtain ⟨rfl, hP1, hP2⟩ := hP
          refine x_ireturn rfl (Or.inr (Or.inl ⟨rfl, by decide⟩)) ⟨_, _, rfl, rfl, ?_⟩
          rw [show xcst K G ki di sg (xS wo) (xAt wo) (xfn nm wo c 0) (2, op, tm, oa, m, d) C = ((((K ++ C.2.2.1).length : Nat) : Int), xS wo, C.2.2.1, C.2.2.2) by simp only [xcst]; rw [if_neg hA, if_neg hB, if_pos hC.1]]
          refine Or.inl ⟨(5, op, tm, oa, m, d), ?_, rfl, ⟨pt, pt, xS wo, _, hpt, hpt, (by have := xS_rg wo; exact ⟨this.1, hxs, fun _ => by omega⟩), (hP2 53 (by decide)).trans h53, hP1, (hP2 110 (by decide)).trans h110, (hP2 111 (by decide)).trans h111, hst _ ?_, xDR_mv (fun p p1 p2 => hP2 p (by omega)) hd, xPT_mv (hP2 55 (by decide)) (hP2 56 (by decide)) hPT, ?_, fun p a1 a2 a3 a4 a5 a6 a7 a8 a9 a10 a11 => (hP2 p a8).trans (hfr p a1 a2 a3 a4 a5 a6 a7 a8 a9 a10 a11)⟩, hP2 112 (by decide)⟩
          · simp only [xstep]; rw [if_neg hA, if_neg hB, if_pos hC]
          · simp only [xstep]; rw [if_neg hA, if_neg hB, if_pos hC]
          · exact ⟨fun _ => rfl, fun hl => ⟨fun _ _ => (hpl hl).symm, fun hm => (hct.2 hl).2 hm⟩⟩
        · skip
          refine x_call [_] rfl rfl (show (0 : Nat) ≤ 8 from by decide) (show (1 : Nat) ≤ 1 from by decide) (x_rcv (by decide) h109) (xs_49D hv h109 h112 hki hsg h110 b4 b2 hdi hc h53 h54f hkf hA hB hC) (fun r' f' hP => ?_)
          obtain ⟨rfl, ⟨sl', hP1, hslm⟩, hP2⟩ := hP
          refine x_ireturn rfl (Or.inr (Or.inl ⟨rfl, by decide⟩)) ⟨_, _, rfl, rfl, ?_⟩
          refine Or.inr ⟨?_, rfl, ⟨pt, op, 5, pt, sl', m, d, tm, oa, nmd, _, _, ⟨hpt, by omega, by omega, by omega⟩, (hP2 53 (by decide)).trans h53, hP1, (hP2 110 (by decide)).trans h110, (hP2 111 (by decide)).trans h111, b4, b5, b6, b7, xDR_mv (fun p p1 p2 => hP2 p (by omega)) hd, xPT_mv (hP2 55 (by decide)) (hP2 56 (by decide)) hPT, fun p a1 a2 a3 a4 a5 a6 a7 a8 a9 a10 a11 => (hP2 p a8).trans (hfr p a1 a2 a3 a4 a5 a6 a7 a8 a9 a10 a11)⟩, hP2 112 (by decide)⟩
          simp only [xstep]; rw [if_neg hA, if_neg hB, if_neg hC]
  | 3, _ =>
    refine x_aload_n rfl rfl ?_
    refine x_getfield rfl (by decide) h109 rfl ?_
    refine x_sw (t := 66) rfl (by decide) rfl rfl ?_
    refine x_aload_n rfl rfl ?_
    by_cases hw : ki = 3 ∧ sg = 40
    · skip
      refine x_call [_] rfl rfl (show (0 : Nat) ≤ 8 from by decide) (show (1 : Nat) ≤ 1 from by decide) (x_rcv (by decide) h109) (xs_50t h109 h112 hki hsg hc h111 b5 ⟨b2.1, (b3 rfl).1⟩ hd hw) (fun r' f' hP => ?_)
      obtain ⟨rfl, hP1, hP2, hP3⟩ := hP
      refine x_ireturn rfl (Or.inr (Or.inl ⟨rfl, by decide⟩)) ⟨_, _, rfl, rfl, ?_⟩
      refine Or.inl ⟨(2, op + 1, tm, oa.set op.toNat m, m, d), ?_, rfl, ⟨pt, bs, sl, _, hpt, hbs, ⟨hsl.1, hsl.2.1, fun h => by simp at h⟩, (hP3 53 (by decide) (by decide)).trans h53, hP1, (hP3 110 (by decide) (by decide)).trans h110, hP2, hst _ ?_, xDR_mv (fun p p1 p2 => hP3 p (by omega) (by omega)) hd, xPT_mv (hP3 55 (by decide) (by decide)) (hP3 56 (by decide) (by decide)) hPT, ?_, fun p a1 a2 a3 a4 a5 a6 a7 a8 a9 a10 a11 => (hP3 p a8 a10).trans (hfr p a1 a2 a3 a4 a5 a6 a7 a8 a9 a10 a11)⟩, hP3 112 (by decide) (by decide)⟩
      · simp only [xstep]; rw [if_pos hw]
      · simp only [xstep]; rw [if_pos hw]
      · exact ⟨fun h => by dsimp only at h; omega, fun hl => ⟨fun h => by dsimp only at h; omega, fun hm => (hct.2 hl).2 hm⟩⟩
    · skip
      refine x_call [_] rfl rfl (show (0 : Nat) ≤ 8 from by decide) (show (1 : Nat) ≤ 1 from by decide) (x_rcv (by decide) h109) (xs_50f h109 h112 hki hsg hc h111 b5 ⟨b2.1, (b3 rfl).1⟩ hd hw) (fun r' f' hP => ?_)
      obtain ⟨rfl, rfl⟩ := hP
      refine x_ireturn rfl (Or.inr (Or.inl ⟨rfl, by decide⟩)) ⟨_, _, rfl, rfl, ?_⟩
      refine Or.inr ⟨?_, rfl, xSC_W hsc0, rfl⟩
      simp only [xstep]; rw [if_neg hw]
  | 4, _ =>
    refine x_aload_n rfl rfl ?_
    refine x_getfield rfl (by decide) h109 rfl ?_
    refine x_sw (t := 71) rfl (by decide) rfl rfl ?_
    refine x_aload_n rfl rfl ?_
    by_cases hw : ki = 1 ∧ xS wo ≠ -1
    · skip
      refine x_call [_] rfl rfl (show (0 : Nat) ≤ 8 from by decide) (show (1 : Nat) ≤ 1 from by decide) (x_rcv (by decide) h109) (xs_48t hv h109 h112 hki hsg hw) (fun r' f' hP => ?_)
      obtain ⟨rfl, hP1, hP2⟩ := hP
      refine x_ireturn rfl (Or.inr (Or.inl ⟨rfl, by decide⟩)) ⟨_, _, rfl, rfl, ?_⟩
      rw [show xcst K G ki di sg (xS wo) (xAt wo) (xfn nm wo c 0) (4, op, tm, oa, m, d) C = (C.1, xS wo, C.2.2.1, C.2.2.2) by simp only [xcst]; rw [if_pos hw.1]]
      refine Or.inl ⟨(5, op, tm, oa, m, d), ?_, rfl, ⟨pt, bs, xS wo, _, hpt, hbs, (by have := xS_rg wo; exact ⟨this.1, hxs, fun _ => by omega⟩), (hP2 53 (by decide)).trans h53, hP1, (hP2 110 (by decide)).trans h110, (hP2 111 (by decide)).trans h111, hst _ ?_, xDR_mv (fun p p1 p2 => hP2 p (by omega)) hd, xPT_mv (hP2 55 (by decide)) (hP2 56 (by decide)) hPT, ?_, fun p a1 a2 a3 a4 a5 a6 a7 a8 a9 a10 a11 => (hP2 p a8).trans (hfr p a1 a2 a3 a4 a5 a6 a7 a8 a9 a10 a11)⟩, hP2 112 (by decide)⟩
      · simp only [xstep]; rw [if_pos hw]
      · simp only [xstep]; rw [if_pos hw]
      · exact ⟨fun _ => rfl, fun hl => ⟨fun _ _ => (hct.2 hl).1 (show (4 : Nat) ≤ 4 by omega) (show (4 : Nat) ≤ 6 by omega), fun hm => (hct.2 hl).2 hm⟩⟩
    · skip
      refine x_call [_] rfl rfl (show (0 : Nat) ≤ 8 from by decide) (show (1 : Nat) ≤ 1 from by decide) (x_rcv (by decide) h109) (xs_48f hv h109 h112 hki hsg hw) (fun r' f' hP => ?_)
      obtain ⟨rfl, ⟨sl', hP1, hslm⟩, hP2⟩ := hP
      refine x_ireturn rfl (Or.inr (Or.inl ⟨rfl, by decide⟩)) ⟨_, _, rfl, rfl, ?_⟩
      refine Or.inr ⟨?_, rfl, ⟨pt, op, 5, bs, sl', m, d, tm, oa, nmd, _, _, ⟨hpt, by omega, by omega, by omega⟩, (hP2 53 (by decide)).trans h53, hP1, (hP2 110 (by decide)).trans h110, (hP2 111 (by decide)).trans h111, b4, b5, b6, b7, xDR_mv (fun p p1 p2 => hP2 p (by omega)) hd, xPT_mv (hP2 55 (by decide)) (hP2 56 (by decide)) hPT, fun p a1 a2 a3 a4 a5 a6 a7 a8 a9 a10 a11 => (hP2 p a8).trans (hfr p a1 a2 a3 a4 a5 a6 a7 a8 a9 a10 a11)⟩, hP2 112 (by decide)⟩
      simp only [xstep]; rw [if_neg hw]
  | 5, _ =>
    refine x_aload_n rfl rfl ?_
    refine x_getfield rfl (by decide) h109 rfl ?_
    refine x_sw (t := 76) rfl (by decide) rfl rfl ?_
    refine x_aload_n rfl rfl ?_
    by_cases hw : ki = 1 ∧ xAt wo ≠ -1
    · skip
      refine x_call [_] rfl rfl (show (0 : Nat) ≤ 8 from by decide) (show (1 : Nat) ≤ 2 from by decide) (x_rcv (by decide) h109) (xs_52t hv h109 h112 hki hsg hxa hpt ⟨hsl.2.2 rfl, hsl.2.1⟩ h53 hPT hw) (fun r' f' hP => ?_)
      obtain ⟨rfl, hP1, ⟨pt', hpt', h53', hPT'⟩, hP2⟩ := hP
      refine x_ireturn rfl (Or.inr (Or.inl ⟨rfl, by decide⟩)) ⟨_, _, rfl, rfl, ?_⟩
      rw [show xcst K G ki di sg (xS wo) (xAt wo) (xfn nm wo c 0) (5, op, tm, oa, m, d) C = (C.1, C.2.1, C.2.2.1 ++ [(C.2.1, xAt wo)], C.2.2.2) by simp only [xcst]; rw [if_pos hw.1]]
      refine Or.inl ⟨(6, op, tm, oa, m, d), ?_, rfl, ⟨pt', bs, sl, _, hpt', hbs, ⟨hsl.1, hsl.2.1, fun h => by simp at h⟩, h53', hP1, (hP2 110 (by decide) (by decide) (by decide) (by decide)).trans h110, (hP2 111 (by decide) (by decide) (by decide) (by decide)).trans h111, hst _ ?_, xDR_mv (fun p p1 p2 => hP2 p (by omega) (by omega) (by omega) (by omega)) hd, (by rw [← hct.1 rfl]; exact hPT'), ?_, fun p a1 a2 a3 a4 a5 a6 a7 a8 a9 a10 a11 => (hP2 p a8 a1 a2 a3).trans (hfr p a1 a2 a3 a4 a5 a6 a7 a8 a9 a10 a11)⟩, (hP2 112 (by decide) (by decide) (by decide) (by decide))⟩
      · simp only [xstep]; rw [if_pos hw]
      · simp only [xstep]; rw [if_pos hw]
      · have hle : (K ++ (C.2.2.1 ++ [(C.2.1, xAt wo)])).length ≤ 208 → (K ++ C.2.2.1).length ≤ 208 := fun hl => by rw [← List.append_assoc, List.length_append] at hl; omega
        exact ⟨fun h => by dsimp only at h; omega, fun hl => ⟨fun _ _ => (hct.2 (hle hl)).1 (show (4 : Nat) ≤ 5 by omega) (show (5 : Nat) ≤ 6 by omega), fun hm => (hct.2 (hle hl)).2 hm⟩⟩
    · skip
      refine x_call [_] rfl rfl (show (0 : Nat) ≤ 8 from by decide) (show (1 : Nat) ≤ 2 from by decide) (x_rcv (by decide) h109) (xs_52f (kp := 0) (pt := 0) hv h109 h112 hki hsg hw) (fun r' f' hP => ?_)
      obtain ⟨rfl, rfl⟩ := hP
      refine x_ireturn rfl (Or.inr (Or.inl ⟨rfl, by decide⟩)) ⟨_, _, rfl, rfl, ?_⟩
      refine Or.inr ⟨?_, rfl, xSC_W hsc0, rfl⟩
      simp only [xstep]; rw [if_neg hw]
  | 6, _ =>
    refine x_aload_n rfl rfl ?_
    refine x_getfield rfl (by decide) h109 rfl ?_
    refine x_sw (t := 81) rfl (by decide) rfl rfl ?_
    refine x_aload_n rfl rfl ?_
    refine x_bipush rfl (by decide) ?_
    refine x_iconst rfl ?_
    by_cases hw : ki = 3 ∧ sg = 44
    · skip
      refine x_call [_, _, _] rfl rfl (show (0 : Nat) ≤ 8 from by decide) (show (3 : Nat) ≤ 3 from by decide) (x_rcv (by decide) h109) (xs_42t h109 h112 hki hsg (by decide) hw) (fun r' f' hP => ?_)
      obtain ⟨rfl, rfl⟩ := hP
      refine x_ifne (t := 98) rfl rfl (by decide) (fun _ => ?_) (fun h => absurd h (by decide))
      refine x_iconst rfl ?_
      refine x_goto (t := 103) rfl rfl ?_
      refine x_ireturn rfl (Or.inr (Or.inl ⟨rfl, by decide⟩)) ⟨_, _, rfl, rfl, ?_⟩
      rw [show xcst K G ki di sg (xS wo) (xAt wo) (xfn nm wo c 0) (6, op, tm, oa, m, d) C = C by simp only [xcst]; rw [if_pos hw]]
      refine Or.inl ⟨(4, op, tm, oa, m, d), ?_, rfl, ⟨pt, bs, sl, _, hpt, hbs, ⟨hsl.1, hsl.2.1, fun h => by simp at h⟩, xu_ne (by decide) h53, xu_eq, xu_ne (by decide) h110, xu_ne (by decide) h111, hst _ ?_, xDR_mv (fun p p1 p2 => xu_ne (by omega) rfl) hd, xPT_mv (xu_ne (by decide) rfl) (xu_ne (by decide) rfl) hPT, ?_, fun p a1 a2 a3 a4 a5 a6 a7 a8 a9 a10 a11 => (xu_ne a8 rfl).trans (hfr p a1 a2 a3 a4 a5 a6 a7 a8 a9 a10 a11)⟩, xu_ne (by decide) rfl⟩
      · simp only [xstep]; rw [if_pos hw]
      · simp only [xstep]; rw [if_pos hw]
      · exact ⟨fun h => by dsimp only at h; omega, fun hl => ⟨fun _ _ => (hct.2 hl).1 (show (4 : Nat) ≤ 6 by omega) (show (6 : Nat) ≤ 6 by omega), fun hm => (hct.2 hl).2 hm⟩⟩
    · skip
      refine x_call [_, _, _] rfl rfl (show (0 : Nat) ≤ 8 from by decide) (show (3 : Nat) ≤ 3 from by decide) (x_rcv (by decide) h109) (xs_42f h109 h112 hki hsg (by decide) hw) (fun r' f' hP => ?_)
      obtain ⟨rfl, rfl⟩ := hP
      refine x_ifne (t := 98) rfl rfl (by decide) (fun h => absurd rfl h) (fun _ => ?_)
      refine x_aload_n rfl rfl ?_
      by_cases hs : ki = 3 ∧ sg = 59
      · skip
        refine x_call [_] rfl rfl (show (0 : Nat) ≤ 8 from by decide) (show (1 : Nat) ≤ 1 from by decide) (x_rcv (by decide) h109) (xs_56s h109 h112 hki hsg hc h53 hpt hbs h110 h111 b4 b5 b2 hd hs) (fun r' f' hP => ?_)
        obtain ⟨rfl, hP2, hP1, hP3⟩ := hP
        refine x_ifeq (t := 102) rfl rfl (by decide) (fun h => absurd h (by decide)) (fun _ => ?_)
        refine x_iconst rfl ?_
        refine x_goto (t := 103) rfl rfl ?_
        refine x_ireturn rfl (Or.inr (Or.inl ⟨rfl, by decide⟩)) ⟨_, _, rfl, rfl, ?_⟩
        rw [show xcst K G ki di sg (xS wo) (xAt wo) (xfn nm wo c 0) (6, op, tm, oa, m, d) C = xcap K C by simp only [xcst]; rw [if_neg hw]; unfold xceos; rw [if_pos hs]]
        refine Or.inl ⟨(2, op, tm, oa, min (m + 1) 17, d), ?_, rfl, ⟨pt, bs, sl, _, hpt, hbs, ⟨hsl.1, hsl.2.1, fun h => by simp at h⟩, (hP3 53 (by decide) (by omega) (by omega) (by omega) (by omega)).trans h53, hP2, (hP3 110 (by decide) (by omega) (by omega) (by omega) (by omega)).trans h110, (hP3 111 (by decide) (by omega) (by omega) (by omega) (by omega)).trans h111, hst _ ?_, hP1, xPT_mv (hP3 55 (by decide) (by omega) (by omega) (by omega) (by omega)) (hP3 56 (by decide) (by omega) (by omega) (by omega) (by omega)) hPT, ?_, fun p a1 a2 a3 a4 a5 a6 a7 a8 a9 a10 a11 => (hP3 p a8 a4 a5 a6 a7).trans (hfr p a1 a2 a3 a4 a5 a6 a7 a8 a9 a10 a11)⟩, (hP3 112 (by decide) (by omega) (by omega) (by omega) (by omega))⟩
        · simp only [xstep]; rw [if_neg hw]; unfold xeos; rw [if_pos hs]
        · simp only [xstep]; rw [if_neg hw]; unfold xeos; rw [if_pos hs]
        · refine ⟨fun h => by dsimp only at h; omega, fun hl => ⟨fun h => by dsimp only at h; omega, fun hm => ?_⟩⟩
          have hl2 : (K ++ C.2.2.1).length ≤ 208 := hl
          dsimp only at hm
          show B9 ++ [(bs, pt, -1)] = C.2.2.2 ++ [(C.1, ((K ++ C.2.2.1).length : Int), -1)]
          rw [← (hct.2 hl2).2 (show m ≤ 16 by omega), ← (hct.2 hl2).1 (show (4 : Nat) ≤ 6 by omega) (show (6 : Nat) ≤ 6 by omega), hpl hl2]
      · by_cases hcl : 0 < op ∧ (ki = 3 ∧ sg = 41)
        · have k1 := b8 (op - 1).toNat (by omega)
          have k2 := b6 (op - 1).toNat
          have k3 := b7 (op - 1).toNat
          refine x_call [_] rfl rfl (show (0 : Nat) ≤ 8 from by decide) (show (1 : Nat) ≤ 1 from by decide) (x_rcv (by decide) h109) (xs_56c h109 h112 hki hsg hc h53 hpt hbs h110 h111 b4 b5 b2 hd hs hcl.1 hcl.2 ⟨k3.1, by omega⟩ ⟨by omega, by omega⟩) (fun r' f' hP => ?_)
          obtain ⟨rfl, hP2, hP1, hP3⟩ := hP
          refine x_ifeq (t := 102) rfl rfl (by decide) (fun h => absurd h (by decide)) (fun _ => ?_)
          refine x_iconst rfl ?_
          refine x_goto (t := 103) rfl rfl ?_
          refine x_ireturn rfl (Or.inr (Or.inl ⟨rfl, by decide⟩)) ⟨_, _, rfl, rfl, ?_⟩
          rw [show xcst K G ki di sg (xS wo) (xAt wo) (xfn nm wo c 0) (6, op, tm, oa, m, d) C = xcrp op tm oa (xcap K C) by simp only [xcst]; rw [if_neg hw]; unfold xceos; rw [if_neg hs]]
          refine Or.inl ⟨(7, op - 1, tm, oa, min (min (m + 1) 17 + (tm.getD (op - 1).toNat 0 - 1) * (min (m + 1) 17 - oa.getD (op - 1).toNat 0)) 17, d), ?_, rfl, ⟨pt, bs, sl, _, hpt, hbs, ⟨hsl.1, hsl.2.1, fun h => by simp at h⟩, (hP3 53 (by decide) (by omega) (by omega) (by omega) (by omega)).trans h53, hP2, (hP3 110 (by decide) (by omega) (by omega) (by omega) (by omega)).trans h110, (hP3 111 (by decide) (by omega) (by omega) (by omega) (by omega)).trans h111, hst _ ?_, hP1, xPT_mv (hP3 55 (by decide) (by omega) (by omega) (by omega) (by omega)) (hP3 56 (by decide) (by omega) (by omega) (by omega) (by omega)) hPT, ?_, fun p a1 a2 a3 a4 a5 a6 a7 a8 a9 a10 a11 => (hP3 p a8 a4 a5 a6 a7).trans (hfr p a1 a2 a3 a4 a5 a6 a7 a8 a9 a10 a11)⟩, (hP3 112 (by decide) (by omega) (by omega) (by omega) (by omega))⟩
          · simp only [xstep]; rw [if_neg hw]; unfold xeos; rw [if_neg hs, if_neg (by omega), if_pos hcl.2]
          · simp only [xstep]; rw [if_neg hw]; unfold xeos; rw [if_neg hs, if_neg (by omega), if_pos hcl.2]
          · refine ⟨fun h => by dsimp only at h; omega, fun hl => ⟨fun h => by dsimp only at h; omega, fun hm => ?_⟩⟩
            have hl2 : (K ++ C.2.2.1).length ≤ 208 := hl
            dsimp only at hm
            have hnn : 0 ≤ (tm.getD (op - 1).toNat 0 - 1) * (min (m + 1) 17 - oa.getD (op - 1).toNat 0) := Int.mul_nonneg (by omega) (by omega)
            have hm16 : m ≤ 15 := by omega
            have hB : B9 ++ [(bs, pt, -1)] = C.2.2.2 ++ [(C.1, ((K ++ C.2.2.1).length : Int), -1)] := by rw [← (hct.2 hl2).2 (show m ≤ 16 by omega), ← (hct.2 hl2).1 (show (4 : Nat) ≤ 6 by omega) (show (6 : Nat) ≤ 6 by omega), hpl hl2]
            have hln : ((C.2.2.2 ++ [(C.1, ((K ++ C.2.2.1).length : Int), -1)]).length : Int) = min (m + 1) 17 := by rw [← hB, List.length_append, List.length_singleton]; have := hBl (by omega); omega
            show _ = (C.2.2.2 ++ [(C.1, ((K ++ C.2.2.1).length : Int), -1)]) ++ xrd0 (C.2.2.2 ++ [(C.1, ((K ++ C.2.2.1).length : Int), -1)]) (oa.getD (op - 1).toNat 0).toNat (((C.2.2.2 ++ [(C.1, ((K ++ C.2.2.1).length : Int), -1)]).length : Int) - oa.getD (op - 1).toNat 0) (tm.getD (op - 1).toNat 0 - 1).toNat
            rw [hln, ← hB]
        · skip
          refine x_call [_] rfl rfl (show (0 : Nat) ≤ 8 from by decide) (show (1 : Nat) ≤ 1 from by decide) (x_rcv (by decide) h109) (xs_56f h109 h112 hki hsg hc h53 hpt hbs h110 h111 b4 b5 b2 hd hs (by omega)) (fun r' f' hP => ?_)
          obtain ⟨rfl, hP2, hP1, hP3⟩ := hP
          refine x_ifeq (t := 102) rfl rfl (by decide) (fun _ => ?_) (fun h => absurd rfl h)
          refine x_iconst rfl ?_
          refine x_ireturn rfl (Or.inr (Or.inl ⟨rfl, by decide⟩)) ⟨_, _, rfl, rfl, ?_⟩
          refine Or.inr ⟨?_, rfl, ⟨pt, op, _, bs, sl, _, d, tm, oa, nmd, _, _, ⟨hpt, hbs, hsl.1, hsl.2.1⟩, (hP3 53 (by omega) (by omega) (by omega) (by omega)).trans h53, hP2, (hP3 110 (by omega) (by omega) (by omega) (by omega)).trans h110, (hP3 111 (by omega) (by omega) (by omega) (by omega)).trans h111, b4, b5, b6, b7, hP1, xPT_mv (hP3 55 (by omega) (by omega) (by omega) (by omega)) (hP3 56 (by omega) (by omega) (by omega) (by omega)) hPT, fun p a1 a2 a3 a4 a5 a6 a7 a8 a9 a10 a11 => (hP3 p a4 a5 a6 a7).trans (hfr p a1 a2 a3 a4 a5 a6 a7 a8 a9 a10 a11)⟩, (hP3 112 (by omega) (by omega) (by omega) (by omega))⟩
          simp only [xstep]; rw [if_neg hw]; unfold xeos; rw [if_neg hs]
          by_cases h0 : op = 0
          · rw [if_pos h0]
          · rw [if_neg h0, if_neg (by omega)]
  | 7, _ =>
    refine x_aload_n rfl rfl ?_
    refine x_getfield rfl (by decide) h109 rfl ?_
    refine x_sw (t := 104) rfl (by decide) rfl rfl ?_
    refine x_aload_n rfl rfl ?_
    by_cases hs : ki = 3 ∧ sg = 59
    · skip
      refine x_call [_] rfl rfl (show (0 : Nat) ≤ 8 from by decide) (show (1 : Nat) ≤ 1 from by decide) (x_rcv (by decide) h109) (xs_55s h109 h112 hki hsg hs) (fun r' f' hP => ?_)
      obtain ⟨rfl, rfl⟩ := hP
      refine x_ireturn rfl (Or.inr (Or.inl ⟨rfl, by decide⟩)) ⟨_, _, rfl, rfl, ?_⟩
      rw [show xcst K G ki di sg (xS wo) (xAt wo) (xfn nm wo c 0) (7, op, tm, oa, m, d) C = C by simp only [xcst]; unfold xceos; rw [if_pos hs]]
      refine Or.inl ⟨(2, op, tm, oa, m, d), ?_, rfl, ⟨pt, bs, sl, _, hpt, hbs, ⟨hsl.1, hsl.2.1, fun h => by simp at h⟩, xu_ne (by decide) h53, xu_eq, xu_ne (by decide) h110, xu_ne (by decide) h111, hst _ ?_, xDR_mv (fun p p1 p2 => xu_ne (by omega) rfl) hd, xPT_mv (xu_ne (by decide) rfl) (xu_ne (by decide) rfl) hPT, ?_, fun p a1 a2 a3 a4 a5 a6 a7 a8 a9 a10 a11 => (xu_ne a8 rfl).trans (hfr p a1 a2 a3 a4 a5 a6 a7 a8 a9 a10 a11)⟩, xu_ne (by decide) rfl⟩
      · simp only [xstep]; unfold xeos; rw [if_pos hs]
      · simp only [xstep]; unfold xeos; rw [if_pos hs]
      · exact ⟨fun h => by dsimp only at h; omega, fun hl => ⟨fun h => by dsimp only at h; omega, fun hm => (hct.2 hl).2 hm⟩⟩
    · by_cases hcl : 0 < op ∧ (ki = 3 ∧ sg = 41)
      · have k1 := b8 (op - 1).toNat (by omega)
        have k2 := b6 (op - 1).toNat
        have k3 := b7 (op - 1).toNat
        refine x_call [_] rfl rfl (show (0 : Nat) ≤ 8 from by decide) (show (1 : Nat) ≤ 1 from by decide) (x_rcv (by decide) h109) (xs_55c h109 h112 hki hsg hc h110 h111 b4 b5 b2 hd hs hcl.1 hcl.2 ⟨k3.1, by omega⟩ ⟨by omega, by omega⟩) (fun r' f' hP => ?_)
        obtain ⟨rfl, hP2, hP1, hP3⟩ := hP
        refine x_ireturn rfl (Or.inr (Or.inl ⟨rfl, by decide⟩)) ⟨_, _, rfl, rfl, ?_⟩
        rw [show xcst K G ki di sg (xS wo) (xAt wo) (xfn nm wo c 0) (7, op, tm, oa, m, d) C = xcrp op tm oa C by simp only [xcst]; unfold xceos; rw [if_neg hs]]
        refine Or.inl ⟨(7, op - 1, tm, oa, min (m + (tm.getD (op - 1).toNat 0 - 1) * (m - oa.getD (op - 1).toNat 0)) 17, d), ?_, rfl, ⟨pt, bs, sl, _, hpt, hbs, ⟨hsl.1, hsl.2.1, fun h => by simp at h⟩, (hP3 53 (by decide) (by omega) (by omega) (by omega) (by omega)).trans h53, hP2, (hP3 110 (by decide) (by omega) (by omega) (by omega) (by omega)).trans h110, (hP3 111 (by decide) (by omega) (by omega) (by omega) (by omega)).trans h111, hst _ ?_, hP1, xPT_mv (hP3 55 (by decide) (by omega) (by omega) (by omega) (by omega)) (hP3 56 (by decide) (by omega) (by omega) (by omega) (by omega)) hPT, ?_, fun p a1 a2 a3 a4 a5 a6 a7 a8 a9 a10 a11 => (hP3 p a8 a4 a5 a6 a7).trans (hfr p a1 a2 a3 a4 a5 a6 a7 a8 a9 a10 a11)⟩, (hP3 112 (by decide) (by omega) (by omega) (by omega) (by omega))⟩
        · simp only [xstep]; unfold xeos; rw [if_neg hs, if_neg (by omega), if_pos hcl.2]
        · simp only [xstep]; unfold xeos; rw [if_neg hs, if_neg (by omega), if_pos hcl.2]
        · refine ⟨fun h => by dsimp only at h; omega, fun hl => ⟨fun h => by dsimp only at h; omega, fun hm => ?_⟩⟩
          have hl2 : (K ++ C.2.2.1).length ≤ 208 := hl
          dsimp only at hm
          have hnn : 0 ≤ (tm.getD (op - 1).toNat 0 - 1) * (m - oa.getD (op - 1).toNat 0) := Int.mul_nonneg (by omega) (by omega)
          show _ = C.2.2.2 ++ xrd0 C.2.2.2 (oa.getD (op - 1).toNat 0).toNat ((C.2.2.2.length : Int) - oa.getD (op - 1).toNat 0) (tm.getD (op - 1).toNat 0 - 1).toNat
          rw [← (hct.2 hl2).2 (show m ≤ 16 by omega), hBl (by omega)]
      · skip
        refine x_call [_] rfl rfl (show (0 : Nat) ≤ 8 from by decide) (show (1 : Nat) ≤ 1 from by decide) (x_rcv (by decide) h109) (xs_55f h109 h112 hki hsg b2 hs (by omega)) (fun r' f' hP => ?_)
        obtain ⟨rfl, rfl⟩ := hP
        refine x_ireturn rfl (Or.inr (Or.inl ⟨rfl, by decide⟩)) ⟨_, _, rfl, rfl, ?_⟩
        refine Or.inr ⟨?_, rfl, xSC_W hsc0, rfl⟩
        simp only [xstep]; unfold xeos; rw [if_neg hs]
        by_cases h0 : op = 0
        · rw [if_pos h0]
        · rw [if_neg h0, if_neg (by omega)]
