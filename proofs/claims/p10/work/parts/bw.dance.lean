/-! Search of the class: level by level. -/
/-- what search comes to -/
def wSQ (f0 : Nat → zE) (F : Int) (p : List Nat) (r' : Option Value) (f' : Nat → zE) : Prop := r' = some (xi F) ∧ wFr f0 f' ∧ sWC f' F (fun i => ((p.getD i 0 : Nat) : Int))
theorem wext_at {b : Nat → List sB} {al : Nat → Bool} {n : Nat} {r : Nat → Int} {L i : Nat} (hi : i < (wext b al n L ([], r)).length) : (wcat b al n r (L + 1)).getD ((wcat b al n r L).length + i) wN0 = (wext b al n L ([], r)).getD i wN0 := by
  show (wcat b al n r L ++ wext b al n L ([], r)).getD _ _ = _
  rw [List.getD_eq_getElem?_getD, List.getElem?_append_right (by omega), show (wcat b al n r L).length + i - (wcat b al n r L).length = i by omega, ← List.getD_eq_getElem?_getD]
theorem take_s {α : Type} {l : List α} {i : Nat} {d : α} (h : i < l.length) : l.take (i + 1) = l.take i ++ [l.getD i d] := by
  rw [List.take_succ, List.getElem?_eq_getElem h, List.getD_eq_getElem?_getD, List.getElem?_eq_getElem h]
  rfl
theorem flatMap_take_len {b : Nat → List sB} {al : Nat → Bool} {n : Nat} {l : List sNd} {i : Nat} (h : i < l.length) : ((l.take i).flatMap (fun y => wkT b al y n)).length + (wkT b al (l.getD i wN0) n).length ≤ (l.flatMap (fun y => wkT b al y n)).length := by
  have e : l = l.take (i + 1) ++ l.drop (i + 1) := (List.take_append_drop (i + 1) l).symm
  have e2 : (l.flatMap (fun y => wkT b al y n)).length = ((l.take (i + 1)).flatMap (fun y => wkT b al y n)).length + ((l.drop (i + 1)).flatMap (fun y => wkT b al y n)).length := by
    rw [← List.length_append, ← flatMap_app', ← e]
  rw [e2, take_s (d := wN0) h, flatMap_app', List.length_append, flatMap_cons', flatMap_nil', List.append_nil]
  omega
set_option maxRecDepth 20000 in
theorem xs_162n {v0 : Value} {xs : List Int32} {u : Nat × Nat} {f0 : Nat → zE} {K : List (Int × Int)} {G : Nat → List xBt} {n : Nat} {al : Nat → Bool} {r : Nat → Int} {L0 : Nat} (hCK : sCK f0 K G n) (hAC : sAC f0 al) (h5 : scnt al n ≤ 5) (hL : L0 < 4)
    (hk : ∀ (lv : zL) (f : Nat → zE), zlv lv 0 = some (.ref 117) → zlv lv 2 = some (.ref 171) → zlv lv 4 = some (xi ((L0 + 1 : Nat) : Int)) → zlv lv 5 = some (xi ((wcat (fun c => sbt K (G c)) al n r (L0 + 1)).length : Nat)) → wFr f0 f → wIn f → (L0 + 1 < 4 → wHO f ((wcat (fun c => sbt K (G c)) al n r (L0 + 2)).length : Nat) 0 ∧ wNT f (wcat (fun c => sbt K (G c)) al n r (L0 + 2))) → (∃ nd : Int, wHO f nd 0) → wfd (fun c => sbt K (G c)) al n r (L0 + 1) = none → xz v0 xs u (fun o X => ∃ r' f', o = .inl r' ∧ X = (xh f', u) ∧ wSQ f0 (wrs (fun c => sbt K (G c)) al n r (4 - L0) (L0 + 1)).1 (wrs (fun c => sbt K (G c)) al n r (4 - L0) (L0 + 1)).2 r' f') 162 80 lv [] f) :
    ∀ (w i : Nat) (lv : zL) (f : Nat → zE), w + i = (wext (fun c => sbt K (G c)) al n L0 ([], r)).length → zlv lv 0 = some (.ref 117) → zlv lv 2 = some (.ref 171) → zlv lv 4 = some (xi ((L0 + 1 : Nat) : Int)) → zlv lv 5 = some (xi ((wcat (fun c => sbt K (G c)) al n r (L0 + 1)).length : Nat)) → zlv lv 6 = some (xi (((wcat (fun c => sbt K (G c)) al n r L0).length + i : Nat) : Int)) → wFr f0 f → wIn f → wHO f ((wcat (fun c => sbt K (G c)) al n r (L0 + 1) ++ if L0 + 1 < 4 then ((wext (fun c => sbt K (G c)) al n L0 ([], r)).take i).flatMap (fun y => wkT (fun c => sbt K (G c)) al y n) else []).length : Nat) 0 → wNT f (wcat (fun c => sbt K (G c)) al n r (L0 + 1) ++ if L0 + 1 < 4 then ((wext (fun c => sbt K (G c)) al n L0 ([], r)).take i).flatMap (fun y => wkT (fun c => sbt K (G c)) al y n) else []) → (((wext (fun c => sbt K (G c)) al n L0 ([], r)).take i).flatMap (fun y => wkT (fun c => sbt K (G c)) al y n)).find? whm = none → xz v0 xs u (fun o X => ∃ r' f', o = .inl r' ∧ X = (xh f', u) ∧ wSQ f0 (wrs (fun c => sbt K (G c)) al n r (4 - L0) (L0 + 1)).1 (wrs (fun c => sbt K (G c)) al n r (4 - L0) (L0 + 1)).2 r' f') 162 52 lv [] f := by
  have hc4 := wcat_len (b := (fun c => sbt K (G c))) (r := r) h5
  have hcm := wcat_mono (b := (fun c => sbt K (G c))) (al := al) (n := n) (r := r) (L := L0 + 1) (L' := 4) (by omega)
  have hcL : (wcat (fun c => sbt K (G c)) al n r (L0 + 1)).length = (wcat (fun c => sbt K (G c)) al n r L0).length + (wext (fun c => sbt K (G c)) al n L0 ([], r)).length := by
    show (wcat (fun c => sbt K (G c)) al n r L0 ++ wext (fun c => sbt K (G c)) al n L0 ([], r)).length = _
    rw [List.length_append]
  have hes : wext (fun c => sbt K (G c)) al n (L0 + 1) ([], r) = (wext (fun c => sbt K (G c)) al n L0 ([], r)).flatMap (fun y => wkT (fun c => sbt K (G c)) al y n) := wext_s _ _ _ _ _
  intro w
  induction w with
  | zero =>
    intro i lv f hw l0 l2 l4 l5 l6 hfr hin hH hT hfd
    have ei : i = (wext (fun c => sbt K (G c)) al n L0 ([], r)).length := by omega
    subst ei
    rw [List.take_length, ← hes] at hH hT hfd
    refine x_iload rfl l6 ?_
    refine x_iload rfl l5 ?_
    refine x_cge (t := 80) rfl rfl ⟨by omega, by omega⟩ ⟨by omega, by omega⟩ (fun _ => ?_) (fun h => by omega)
    refine hk lv f l0 l2 l4 l5 hfr hin (fun h4 => ?_) ⟨_, hH⟩ hfd
    rw [if_pos h4] at hH hT
    exact ⟨hH, hT⟩
  | succ w ih =>
    intro i lv f hw l0 l2 l4 l5 l6 hfr hin hH hT hfd
    have hi : i < (wext (fun c => sbt K (G c)) al n L0 ([], r)).length := by omega
    have hxm : (wext (fun c => sbt K (G c)) al n L0 ([], r)).getD i wN0 ∈ wext (fun c => sbt K (G c)) al n L0 ([], r) := by
      rw [List.getD_eq_getElem?_getD, List.getElem?_eq_getElem hi]
      exact List.getElem_mem hi
    obtain ⟨hpl, -⟩ := wext_mem L0 _ _ hxm
    have hets := take_s (d := wN0) hi
    have hfl := flatMap_take_len (b := (fun c => sbt K (G c))) (al := al) (n := n) hi
    rw [← hes] at hfl
    generalize hx : (wext (fun c => sbt K (G c)) al n L0 ([], r)).getD i wN0 = x at hpl hets hfl
    have hT0x : (wcat (fun c => sbt K (G c)) al n r (L0 + 1) ++ if L0 + 1 < 4 then ((wext (fun c => sbt K (G c)) al n L0 ([], r)).take i).flatMap (fun y => wkT (fun c => sbt K (G c)) al y n) else []).getD ((wcat (fun c => sbt K (G c)) al n r L0).length + i) wN0 = x := by
      rw [List.getD_eq_getElem?_getD, List.getElem?_append_left (by omega), ← List.getD_eq_getElem?_getD, wext_at hi]
      exact hx
    have hes2 : ((wext (fun c => sbt K (G c)) al n L0 ([], r)).take (i + 1)).flatMap (fun y => wkT (fun c => sbt K (G c)) al y n) = ((wext (fun c => sbt K (G c)) al n L0 ([], r)).take i).flatMap (fun y => wkT (fun c => sbt K (G c)) al y n) ++ wkT (fun c => sbt K (G c)) al x n := by
      rw [hets, flatMap_app', flatMap_cons', flatMap_nil', List.append_nil]
    refine x_iload rfl l6 ?_
    refine x_iload rfl l5 ?_
    refine x_cge (t := 80) rfl rfl ⟨by omega, by omega⟩ ⟨by omega, by omega⟩ (fun h => by omega) (fun _ => ?_)
    refine x_aload_n rfl l0 ?_
    refine x_iload rfl l6 ?_
    refine x_iload rfl l4 ?_
    refine x_aload_n rfl l2 ?_
    refine x_call [_, _, _, _] rfl rfl (show (0 : Nat) ≤ 8 from by decide) (show (4 : Nat) ≤ 5 from by decide) (x_rcv (by decide) hH) (xs_161 (L := L0 + 1) (node := (wcat (fun c => sbt K (G c)) al n r L0).length + i) hCK hAC hT0x (by rw [List.length_append]; omega) ⟨by omega, by omega⟩ (by rw [hpl]; simp) (fun h4 => ?_) hfr hin hH hT) (fun r' f1 hP => ?_)
    · rw [if_pos h4, List.length_append]
      have hm2 := wcat_mono (b := (fun c => sbt K (G c))) (al := al) (n := n) (r := r) (L := L0 + 2) (L' := 4) (by omega)
      have hc2 : (wcat (fun c => sbt K (G c)) al n r (L0 + 2)).length = (wcat (fun c => sbt K (G c)) al n r (L0 + 1)).length + (wext (fun c => sbt K (G c)) al n (L0 + 1) ([], r)).length := by
        show (wcat (fun c => sbt K (G c)) al n r (L0 + 1) ++ wext (fun c => sbt K (G c)) al n (L0 + 1) ([], r)).length = _
        rw [List.length_append]
      omega
    obtain ⟨hfr1, hin1, hP⟩ := hP
    rcases hP with ⟨y, hy, rfl, ⟨nd, q1⟩, cl, q2, q3, q4⟩ | ⟨hy, rfl, q1, q2⟩
    · refine x_ifeq (t := 74) rfl rfl (by decide) (fun h => absurd h (by decide)) (fun _ => ?_)
      refine x_iload rfl l4 ?_
      have hfw : wfd (fun c => sbt K (G c)) al n r (L0 + 1) = some y := by
        unfold wfd
        rw [hes, ← List.take_append_drop (i + 1) (wext (fun c => sbt K (G c)) al n L0 ([], r)), flatMap_app', hes2]
        refine find_app_some _ _ ?_
        rw [find_app _ _ hfd]
        exact hy
      have ew : wrs (fun c => sbt K (G c)) al n r (4 - L0) (L0 + 1) = (((L0 + 1 : Nat) : Int), y.1) := by
        rw [show 4 - L0 = (3 - L0) + 1 by omega]
        show (match wfd (fun c => sbt K (G c)) al n r (L0 + 1) with
          | some x => (((L0 + 1 : Nat) : Int), x.1)
          | none => wrs (fun c => sbt K (G c)) al n r (3 - L0) (L0 + 1 + 1)) = _
        rw [hfw]
      rw [ew]
      refine x_ireturn rfl (Or.inl rfl) ⟨_, _, rfl, rfl, rfl, hfr1, ⟨xi nd, ?_⟩, cl, q2, q3, fun j hj => q4 j (by omega)⟩
      rw [if_neg (by omega)]
      exact q1
    · refine x_ifeq (t := 74) rfl rfl (by decide) (fun _ => ?_) (fun h => absurd rfl h)
      refine x_iinc rfl l6 (show (6 : Nat) < 7 from by decide) ?_
      refine x_goto (t := 52) rfl rfl ?_
      have eA : (wcat (fun c => sbt K (G c)) al n r (L0 + 1) ++ if L0 + 1 < 4 then ((wext (fun c => sbt K (G c)) al n L0 ([], r)).take (i + 1)).flatMap (fun y => wkT (fun c => sbt K (G c)) al y n) else []) = ((wcat (fun c => sbt K (G c)) al n r (L0 + 1) ++ if L0 + 1 < 4 then ((wext (fun c => sbt K (G c)) al n L0 ([], r)).take i).flatMap (fun y => wkT (fun c => sbt K (G c)) al y n) else []) ++ if L0 + 1 < 4 then wkT (fun c => sbt K (G c)) al x n else []) := by
        by_cases h4 : L0 + 1 < 4
        · rw [if_pos h4, if_pos h4, if_pos h4, hes2, List.append_assoc]
        · rw [if_neg h4, if_neg h4, if_neg h4, List.append_nil, List.append_nil]
      refine ih (i + 1) _ _ (by omega) (xst_ne (by decide) l0 (Or.inl rfl)) (xst_ne (by decide) l2 (Or.inl rfl)) (xst_ne (by decide) l4 (Or.inl rfl)) (xst_ne (by decide) l5 (Or.inl rfl)) xst_eq hfr1 hin1 ?_ ?_ ?_
      · rw [eA]
        exact q1
      · rw [eA]
        exact q2
      · rw [hes2, find_app _ _ hfd]
        exact hy
theorem xs_162l {v0 : Value} {xs : List Int32} {u : Nat × Nat} {f0 : Nat → zE} {K : List (Int × Int)} {G : Nat → List xBt} {n : Nat} {al : Nat → Bool} {r : Nat → Int} (hCK : sCK f0 K G n) (hAC : sAC f0 al) (h5 : scnt al n ≤ 5) : ∀ (w L0 : Nat) (lv : zL) (f : Nat → zE), w + L0 = 4 → zlv lv 0 = some (.ref 117) → zlv lv 2 = some (.ref 171) → zlv lv 3 = some (xi ((wcat (fun c => sbt K (G c)) al n r L0).length : Nat)) → zlv lv 4 = some (xi ((L0 + 1 : Nat) : Int)) → wFr f0 f → wIn f → (L0 < 4 → wHO f ((wcat (fun c => sbt K (G c)) al n r (L0 + 1)).length : Nat) 0 ∧ wNT f (wcat (fun c => sbt K (G c)) al n r (L0 + 1))) → (∃ nd : Int, wHO f nd 0) → xz v0 xs u (fun o X => ∃ r' f', o = .inl r' ∧ X = (xh f', u) ∧ wSQ f0 (wrs (fun c => sbt K (G c)) al n r (4 - L0) (L0 + 1)).1 (wrs (fun c => sbt K (G c)) al n r (4 - L0) (L0 + 1)).2 r' f') 162 37 lv [] f := by
  intro w
  induction w with
  | zero =>
    intro L0 lv f hw l0 l2 l3 l4 hfr hin hHT hH
    have eL : L0 = 4 := by omega
    subst eL
    refine x_iload rfl l4 ?_
    refine x_iconst rfl ?_
    refine x_cgt (t := 89) rfl rfl (by decide) (by decide) (fun _ => ?_) (fun h => absurd h (by decide))
    refine x_iconst rfl ?_
    obtain ⟨nd, hH⟩ := hH
    obtain ⟨-, -, k0, g121, gk0⟩ := hin
    refine x_ireturn rfl (Or.inl rfl) ⟨_, _, rfl, rfl, rfl, hfr, ⟨xi nd, hH⟩, k0, g121, gk0, fun i hi => ?_⟩
    have hi2 : ((i : Nat) : Int) < -1 := hi
    omega
  | succ w ih =>
    intro L0 lv f hw l0 l2 l3 l4 hfr hin hHT hH
    obtain ⟨hH1, hT1⟩ := hHT (by omega)
    refine x_iload rfl l4 ?_
    refine x_iconst rfl ?_
    refine x_cgt (t := 89) rfl rfl ⟨by omega, by omega⟩ (by decide) (fun h => by omega) (fun _ => ?_)
    refine x_aload_n rfl l0 ?_
    refine x_getfield rfl (by decide) hH1 rfl ?_
    refine x_istore rfl (show (5 : Nat) < 7 from by decide) ?_
    refine x_iload_n rfl (xst_ne (by decide) l3 (Or.inl rfl)) ?_
    refine x_istore rfl (show (6 : Nat) < 7 from by decide) ?_
    have e0 : (wcat (fun c => sbt K (G c)) al n r (L0 + 1) ++ if L0 + 1 < 4 then ((wext (fun c => sbt K (G c)) al n L0 ([], r)).take 0).flatMap (fun y => wkT (fun c => sbt K (G c)) al y n) else []) = wcat (fun c => sbt K (G c)) al n r (L0 + 1) := by
      split
      · exact List.append_nil _
      · exact List.append_nil _
    refine xs_162n hCK hAC h5 (by omega) (fun lv2 f2 m0 m2 m4 m5 hfr2 hin2 hHT2 hH2 hno => ?_) (wext (fun c => sbt K (G c)) al n L0 ([], r)).length 0 _ f (by omega) (xst_ne (by decide) (xst_ne (by decide) l0 (Or.inl rfl)) (Or.inl rfl)) (xst_ne (by decide) (xst_ne (by decide) l2 (Or.inl rfl)) (Or.inl rfl)) (xst_ne (by decide) (xst_ne (by decide) l4 (Or.inl rfl)) (Or.inl rfl)) (xst_ne (by decide) xst_eq (Or.inl rfl)) xst_eq hfr hin (by rw [e0]; exact hH1) (by rw [e0]; exact hT1) rfl
    refine x_iload rfl m5 ?_
    refine x_istore_n rfl (show (3 : Nat) < 7 from by decide) ?_
    refine x_iinc rfl (xst_ne (by decide) m4 (Or.inl rfl)) (show (4 : Nat) < 7 from by decide) ?_
    refine x_goto (t := 37) rfl rfl ?_
    have ew : wrs (fun c => sbt K (G c)) al n r (4 - L0) (L0 + 1) = wrs (fun c => sbt K (G c)) al n r (4 - (L0 + 1)) (L0 + 1 + 1) := by
      rw [show 4 - L0 = (4 - (L0 + 1)) + 1 by omega]
      show (match wfd (fun c => sbt K (G c)) al n r (L0 + 1) with
        | some x => (((L0 + 1 : Nat) : Int), x.1)
        | none => wrs (fun c => sbt K (G c)) al n r (4 - (L0 + 1)) (L0 + 1 + 1)) = _
      rw [hno]
    rw [ew]
    refine ih (L0 + 1) _ _ (by omega) (xst_ne (by decide) (xst_ne (by decide) m0 (Or.inl rfl)) (Or.inl rfl)) (xst_ne (by decide) (xst_ne (by decide) m2 (Or.inl rfl)) (Or.inl rfl)) (xst_ne (by decide) xst_eq (Or.inl rfl)) ?_ hfr2 hin2 hHT2 hH2
    exact xst_eq
theorem xs_162 {v0 : Value} {xs : List Int32} {u : Nat × Nat} {f0 : Nat → zE} {K : List (Int × Int)} {G : Nat → List xBt} {n : Nat} {al : Nat → Bool} {r : Nat → Int} {pl : List Int} (hM : yM yT2 (xh f0)) (hCK : sCK f0 K G n) (hAC : sAC f0 al) (h5 : scnt al n ≤ 5) (h175 : f0 175 = xr 0 pl) (hpl : pl.length = 8) (hrl : sRL pl 0 r) : xq v0 xs u 162 [(0, .ref 117), (1, .ref 175), (2, .ref 171)] f0 (wSQ f0 (wres (fun c => sbt K (G c)) al n r).1 (wres (fun c => sbt K (G c)) al n r).2) := by
  unfold xq
  obtain ⟨fs, h117, hfl, h3⟩ := xT_o (p := 117) hM (by decide) (show yT2[117 - 50]? = some (.inl (8, [.inr (.inr [53]), .inr (.inr [113]), .inr (.inr [118]), .inr (.inr [119]), .inr (.inr [120]), .inr (.inr [121]), .inl (0, 156), .inl (0, 4)])) from rfl)
  obtain ⟨rl, e118, el118, -⟩ := xT_a (p := 118) hM (by decide) (show yT2[118 - 50]? = some (.inr (.inl (0, [(1248, 0, 399)]))) from rfl)
  obtain ⟨pp, e119, el119, -⟩ := xT_a (p := 119) hM (by decide) (show yT2[119 - 50]? = some (.inr (.inl (0, [(156, 0, 155)]))) from rfl)
  obtain ⟨lc, e120, el120, -⟩ := xT_a (p := 120) hM (by decide) (show yT2[120 - 50]? = some (.inr (.inl (0, [(156, 0, 11)]))) from rfl)
  obtain ⟨k0, e121, el121, -⟩ := xT_a (p := 121) hM (by decide) (show yT2[121 - 50]? = some (.inr (.inl (0, [(4, 0, 11)]))) from rfl)
  have hl118 : rl.length = 1248 := el118
  have hl119 : pp.length = 156 := el119
  have hl120 : lc.length = 156 := el120
  have hl121 : k0.length = 4 := el121
  obtain ⟨z24, l24, t1, -, t2, t3, -⟩ := sTk hM (i := 24) (by decide)
  have hH0 : ∃ v6 v7 : Value, f0 117 = .inl (8, [.ref 53, .ref 113, .ref 118, .ref 119, .ref 120, .ref 121, v6, v7]) := by
    match fs, hfl, h117, h3 with
    | [a0, a1, a2, a3, a4, a5, a6, a7], _, h117, h3 =>
      have R : ∀ (k p : Nat) (v : Value), [a0, a1, a2, a3, a4, a5, a6, a7][k]? = some v → ([.inr (.inr [53]), .inr (.inr [113]), .inr (.inr [118]), .inr (.inr [119]), .inr (.inr [120]), .inr (.inr [121]), .inl (0, 156), .inl (0, 4)] : List yA)[k]? = some (.inr (.inr [p])) → v = .ref p := by
        intro k p v hv ha
        obtain ⟨w, hw, hg⟩ := h3 k _ ha
        rw [hv] at hw
        cases hw
        exact yg_rf hg
      refine ⟨a6, a7, ?_⟩
      rw [h117, R 0 53 a0 rfl rfl, R 1 113 a1 rfl rfl, R 2 118 a2 rfl rfl, R 3 119 a3 rfl rfl, R 4 120 a4 rfl rfl, R 5 121 a5 rfl rfl]
  obtain ⟨v6, v7, hH0⟩ := hH0
  refine x_aload_n rfl rfl ?_
  refine x_iconst rfl ?_
  refine x_putfield rfl (by decide) hH0 (show (7 : Nat) < 8 from by decide) rfl ?_
  refine x_aload_n rfl rfl ?_
  refine x_iconst rfl ?_
  refine x_call [_, _] rfl rfl (show (0 : Nat) ≤ 8 from by decide) (show (2 : Nat) ≤ 3 from by decide) rfl (xs_157 (p := 175) (by decide) (xu_ne (by decide) h175) (by omega) hrl) (fun r' f' hP => ?_)
  obtain ⟨rfl, hPe⟩ := hP
  subst f'
  have hwh : whm ([], r) = sall (fun d => r d == shome d) 8 := rfl
  rw [← hwh]
  have hfr1 : wFr f0 (xu f0 117 (.inl (8, [.ref 53, .ref 113, .ref 118, .ref 119, .ref 120, .ref 121, v6, xi 0]))) := fun q b1 _ _ => xu_ne (by omega) rfl
  by_cases hh : whm ([], r) = true
  · rw [if_pos hh]
    refine x_ifeq (t := 15) rfl rfl (by decide) (fun h => absurd h (by decide)) (fun _ => ?_)
    refine x_iconst rfl ?_
    have ew : wres (fun c => sbt K (G c)) al n r = (0, []) := by unfold wres; rw [if_pos hh]
    rw [ew]
    refine x_ireturn rfl (Or.inl rfl) ⟨_, _, rfl, rfl, rfl, hfr1, ⟨v6, xu_eq⟩, k0, xu_ne (by decide) e121, hl121, fun i hi => ?_⟩
    have hi2 : ((i : Nat) : Int) < 0 := hi
    omega
  rw [if_neg hh]
  refine x_ifeq (t := 15) rfl rfl (by decide) (fun _ => ?_) (fun h => absurd rfl h)
  have ew : wres (fun c => sbt K (G c)) al n r = wrs (fun c => sbt K (G c)) al n r 4 1 := by unfold wres; rw [if_neg hh]
  rw [ew]
  refine x_aload_n rfl rfl ?_
  refine x_iconst rfl ?_
  refine x_aload_n rfl rfl ?_
  refine x_getfield rfl (by decide) xu_eq rfl ?_
  refine x_iconst rfl ?_
  refine x_bipush rfl (by decide) ?_
  refine x_acopy rfl (by decide) (by decide) (by decide) (xu_ne (by decide) h175) (xu_ne (by decide) e118) (by decide) ⟨by omega, by omega⟩ ⟨by omega, by omega⟩ (by omega) (by omega) (show (0 : Nat) ≤ 8 from by decide) ?_
  refine x_aload_n rfl rfl ?_
  refine x_iconst rfl ?_
  refine x_putfield rfl (by decide) (xu_ne (by decide) xu_eq) (show (6 : Nat) < 8 from by decide) rfl ?_
  refine x_iconst rfl ?_
  refine x_istore_n rfl (show (3 : Nat) < 7 from by decide) ?_
  refine x_iconst rfl ?_
  refine x_istore rfl (show (4 : Nat) < 7 from by decide) ?_
  generalize hf9 : xu (xu (xu f0 117 _) 118 _) 117 _ = f9
  have k117 : wHO f9 1 0 := by rw [← hf9]; exact xu_eq
  have hfa : ∀ q, q ≠ 117 → q ≠ 118 → f9 q = f0 q := fun q b1 b2 => by rw [← hf9]; exact xu_ne b1 (xu_ne b2 (xu_ne b1 rfl))
  have k118 : ∃ l9 : List Int, f9 118 = xr 0 l9 ∧ l9.length = 1248 ∧ ∀ d : Nat, d < 8 → l9.getD d 0 = pl.getD d 0 := by
    refine ⟨_, by rw [← hf9]; exact xu_ne (by decide) xu_eq, ?_, fun d hd => ?_⟩
    · rw [show (8 : Int).toNat = 8 from rfl, show (0 : Int).toNat = 0 from rfl, scopy_len (by omega) (by omega)]
      exact hl118
    · rw [show (8 : Int).toNat = 8 from rfl, show (0 : Int).toNat = 0 from rfl, scopy_at (by omega) (by omega), if_pos ⟨by omega, by omega⟩]
      congr 1
      omega
  obtain ⟨l9, k118, kl9, kv9⟩ := k118
  have hT9 : wNT f9 (wcat (fun c => sbt K (G c)) al n r 1) := by
    refine ⟨l9, pp, lc, k118, (hfa 119 (by decide) (by decide)).trans e119, (hfa 120 (by decide) (by decide)).trans e120, ⟨kl9, hl119, hl120⟩, by show (1 : Nat) ≤ 156; omega, fun k hk => ?_⟩
    have hk0 : k = 0 := by
      have hk1 : k < 1 := hk
      omega
    subst hk0
    refine ⟨⟨by omega, by omega, fun d hd => ?_⟩, Or.inl ⟨rfl, rfl⟩⟩
    obtain ⟨a1, a2⟩ := sRL_at hrl hd
    refine ⟨?_, a2⟩
    rw [show (((0 : Nat) : Int) * 8 + (d : Nat)).toNat = d by omega, kv9 d hd]
    exact a1
  refine xs_162l hCK hAC h5 4 0 _ f9 rfl (xst_ne (by decide) (xst_ne (by decide) rfl (Or.inl rfl)) (Or.inl rfl)) (xst_ne (by decide) (xst_ne (by decide) rfl (Or.inl rfl)) (Or.inl rfl)) (xst_ne (by decide) xst_eq (Or.inl rfl)) xst_eq (fun q b1 _ _ => hfa q (by omega) (by omega)) ⟨sDN_f (sDN_M hM) fun q b1 b2 => hfa q (by omega) (by omega), ⟨_, l24, (hfa 171 (by decide) (by decide)).trans t1, (hfa (171 + 1) (by decide) (by decide)).trans t2, t3⟩, k0, (hfa 121 (by decide) (by decide)).trans e121, hl121⟩ (fun _ => ⟨k117, hT9⟩) ⟨1, k117⟩
theorem xs_163 {v0 : Value} {xs : List Int32} {u : Nat × Nat} {f : Nat → zE} {K : List (Int × Int)} {G : Nat → List xBt} {n : Nat} {al : Nat → Bool} {S : sS} (hM : yM yT2 (xh f)) (hT : sCT f K G S) (hCK : sCK f K G n) (hAC : sAC f al) (h5 : scnt al n ≤ 5) : xq v0 xs u 163 [(0, .ref 50)] f (fun r' f' => r' = some (xi (wres (fun c => sbt K (G c)) al n S.1).1) ∧ sCT f' K G S ∧ sWC f' (wres (fun c => sbt K (G c)) al n S.1).1 (fun i => (((wres (fun c => sbt K (G c)) al n S.1).2.getD i 0 : Nat) : Int)) ∧ wFr f f') := by
  unfold xq
  obtain ⟨⟨lf, h50⟩, ⟨pl, h175, hpl, hrl⟩, -⟩ := id hT
  obtain ⟨fs, h117, -⟩ := xT_o (p := 117) hM (by decide) (show yT2[117 - 50]? = some (.inl (8, [.inr (.inr [53]), .inr (.inr [113]), .inr (.inr [118]), .inr (.inr [119]), .inr (.inr [120]), .inr (.inr [121]), .inl (0, 156), .inl (0, 4)])) from rfl)
  refine x_aload_n rfl rfl ?_
  refine x_getfield rfl (by decide) h50 rfl ?_
  refine x_aload_n rfl rfl ?_
  refine x_getfield rfl (by decide) h50 rfl ?_
  refine x_aload_n rfl rfl ?_
  refine x_getfield rfl (by decide) h50 rfl ?_
  refine x_call [_, _, _] rfl rfl (show (0 : Nat) ≤ 8 from by decide) (show (3 : Nat) ≤ 7 from by decide) (x_rcv (by decide) h117) (xs_162 hM hCK hAC h5 h175 hpl hrl) (fun r' f1 hP => ?_)
  obtain ⟨rfl, hfr, hW⟩ := hP
  exact x_ireturn rfl (Or.inl rfl) ⟨_, _, rfl, rfl, rfl, sCT_f2 hT (hfr 50 (by decide) (by decide) (by decide)) (hfr 175 (by decide) (by decide) (by decide)) (fun q b1 b2 => hfr q (by omega) (by omega) (by omega)), hW, hfr⟩
