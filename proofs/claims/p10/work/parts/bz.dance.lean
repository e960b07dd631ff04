/-! The model's search. -/
def wMF (f : Nat → zE) (n : Nat) (S : sS) (fo : Int) : Prop := ∃ fs : List Value, sMB f fs (n : Nat) (S.2.1.length : Nat) S.2.2 ∧ fs[0]? = some (xi 0) ∧ fs[35]? = some (.ref 198) ∧ fs[36]? = some (xi fo) ∧ fs[37]? = some (.ref 199) ∧ fs[38]? = some (.ref 200) ∧ fs[39]? = some (.ref 201)
/-- at depth k, with the path p and the rows R -/
def wDI (f0 f : Nat → zE) (n : Nat) (S : sS) (k : Nat) (R : Nat → Nat → Int) (p : List Nat) (T : List Int → Prop) : Prop := wMF f n S (-1) ∧ (∃ ax ay af : List Int, sMC f ax ay af) ∧ (∃ tl : List Int, f 200 = xr 0 tl ∧ tl.length = 5 ∧ (∀ i, i < k → tl.getD i 0 = ((p.getD i 0 : Nat) : Int)) ∧ T tl) ∧ (∃ sl : List Int, f 201 = xr 0 sl ∧ sl.length = 40 ∧ ∀ i, i ≤ k → ∀ d, d < 8 → sl.getD (8 * i + d) 0 = R i d ∧ sok (R i d)) ∧ ∀ q, q ≠ 177 → ¬ (192 ≤ q ∧ q ≤ 194) → q ≠ 200 → q ≠ 201 → f q = f0 q
def wMS2 (f0 f : Nat → zE) (n : Nat) (S : sS) (many : Nat) (p : List Nat) : Prop := wMF f n S (-1) ∧ (∃ ax ay af : List Int, sMC f ax ay af) ∧ (∃ tl : List Int, f 200 = xr 0 tl ∧ tl.length = 5 ∧ ∀ i, i < many → tl.getD i 0 = ((p.getD i 0 : Nat) : Int)) ∧ (∃ sl : List Int, f 201 = xr 0 sl ∧ sl.length = 40) ∧ ∀ q, q ≠ 177 → ¬ (192 ≤ q ∧ q ≤ 194) → q ≠ 200 → q ≠ 201 → f q = f0 q
theorem wDI_200 {f0 f : Nat → zE} {n : Nat} {S : sS} {k k' : Nat} {R : Nat → Nat → Int} {p : List Nat} {T : List Int → Prop} {tl : List Int} {v : Int} (h : wDI f0 f n S k R p T) (hl : tl.length = 5) (hold : ∀ i, i < k → tl.getD i 0 = ((p.getD i 0 : Nat) : Int)) (hk : k ≤ k') (hk5 : k' < 5) : wDI f0 (xu f 200 (xr 0 (tl.set k' v))) n S k R p (fun tl => tl.getD k' 0 = v) := by
  obtain ⟨⟨fs, hB, g⟩, ⟨ax, ay, af, c1, c2, c3, c4⟩, -, ⟨sl, s1, s2⟩, hfr⟩ := h
  refine ⟨⟨fs, sMB_f hB (xu_ne (by decide) rfl), g⟩, ⟨ax, ay, af, xu_ne (by decide) c1, xu_ne (by decide) c2, xu_ne (by decide) c3, c4⟩, ⟨_, xu_eq, by rw [List.length_set]; exact hl, fun i hi => ?_, ?_⟩, ⟨sl, xu_ne (by decide) s1, s2⟩, fun q b1 b2 b3 b4 => xu_ne b3 (hfr q b1 b2 b3 b4)⟩
  · rw [x_gset, if_neg (by omega)]
    exact hold i hi
  · show (tl.set k' v).getD k' 0 = v
    rw [x_gset, if_pos ⟨rfl, by omega⟩]
/-- from(c) stands here -/
theorem wfrom {v0 : Value} {xs : List Int32} {u : Nat × Nat} {f0 f : Nat → zE} {n : Nat} {S : sS} {fo : Int} {al : Nat → Bool} {c : Nat} (hF : wMF f n S fo) (hn : n ≤ 12) (hA : sAD f0 al) (hfr : f 198 = f0 198) (hc : c ≤ 13) : xq v0 xs u 165 [(0, .ref 177), (1, xi (c : Nat))] f (fun r' f' => r' = some (xi (sfr al n (n - c))) ∧ f' = f) := by
  obtain ⟨fs, hB, -, h35, -⟩ := hF
  obtain ⟨bl, h198, hbl, hb⟩ := hA
  exact xs_165 hB.1.1 hB.2.2.1 h35 hn (hfr.trans h198) hbl hb hc
theorem xs_167x35 {v0 : Value} {xs : List Int32} {u : Nat × Nat} {Q : zO → zX → Prop} {f0 f : Nat → zE} {n : Nat} {S : sS} {al : Nat → Bool} {lv : zL} {tl : List Int} {k t : Nat} (hF : wMF f n S (-1)) (hn : n ≤ 12) (hA : sAD f0 al) (h198 : f 198 = f0 198) (h200 : f 200 = xr 0 tl) (htl : tl.length = 5) (hk : k < 5) (ht : tl.getD k 0 = (t : Nat)) (htn : t ≤ 12) (l0 : zlv lv 0 = some (.ref 177)) (l2 : zlv lv 2 = some (xi (k : Nat))) (kk : xz v0 xs u Q 167 13 lv [] (xu f 200 (xr 0 (tl.set k (sfr al n (n - (t + 1))))))) : xz v0 xs u Q 167 35 lv [] f := by
  obtain ⟨fs, hB, h0, h35, h36, h37, h38, h39⟩ := id hF
  have h177 := hB.1.1
  refine x_aload_n rfl l0 ?_
  refine x_getfield rfl (by decide) h177 h38 ?_
  refine x_iload_n rfl l2 ?_
  refine x_aload_n rfl l0 ?_
  refine x_aload_n rfl l0 ?_
  refine x_getfield rfl (by decide) h177 h38 ?_
  refine x_iload_n rfl l2 ?_
  refine x_iaload rfl (by decide) h200 ⟨by omega, by omega⟩ (by omega) ?_
  rw [Int.toNat_natCast, ht]
  refine x_iconst rfl ?_
  refine x_iadd rfl ?_
  rw [show ((t : Nat) : Int) + 1 = ((t + 1 : Nat) : Int) by omega]
  refine x_call [_, _] rfl rfl (show (2 : Nat) ≤ 8 from by decide) (show (2 : Nat) ≤ 4 from by decide) (x_rcv (by decide) h177) (wfrom (c := t + 1) hF hn hA h198 (by omega)) ?_
  intro r' f9 hP
  obtain ⟨rfl, hPe⟩ := hP
  subst f9
  refine x_iastore rfl (by decide) h200 ⟨by omega, by omega⟩ (by omega) ?_
  refine x_goto (t := 13) rfl rfl ?_
  rw [Int.toNat_natCast]
  exact kk
theorem xs_167x72 {v0 : Value} {xs : List Int32} {u : Nat × Nat} {Q : zO → zX → Prop} {f0 f : Nat → zE} {n : Nat} {S : sS} {al : Nat → Bool} {lv : zL} {tl : List Int} {k t : Nat} (hF : wMF f n S (-1)) (hn : n ≤ 12) (hA : sAD f0 al) (h198 : f 198 = f0 198) (h200 : f 200 = xr 0 tl) (htl : tl.length = 5) (hk : k < 5) (ht : tl.getD k 0 = (t : Nat)) (htn : t ≤ 12) (l0 : zlv lv 0 = some (.ref 177)) (l2 : zlv lv 2 = some (xi (k : Nat))) (kk : xz v0 xs u Q 167 13 lv [] (xu f 200 (xr 0 (tl.set k (sfr al n (n - (t + 1))))))) : xz v0 xs u Q 167 72 lv [] f := by
  obtain ⟨fs, hB, h0, h35, h36, h37, h38, h39⟩ := id hF
  have h177 := hB.1.1
  refine x_aload_n rfl l0 ?_
  refine x_getfield rfl (by decide) h177 h38 ?_
  refine x_iload_n rfl l2 ?_
  refine x_aload_n rfl l0 ?_
  refine x_aload_n rfl l0 ?_
  refine x_getfield rfl (by decide) h177 h38 ?_
  refine x_iload_n rfl l2 ?_
  refine x_iaload rfl (by decide) h200 ⟨by omega, by omega⟩ (by omega) ?_
  rw [Int.toNat_natCast, ht]
  refine x_iconst rfl ?_
  refine x_iadd rfl ?_
  rw [show ((t : Nat) : Int) + 1 = ((t + 1 : Nat) : Int) by omega]
  refine x_call [_, _] rfl rfl (show (2 : Nat) ≤ 8 from by decide) (show (2 : Nat) ≤ 4 from by decide) (x_rcv (by decide) h177) (wfrom (c := t + 1) hF hn hA h198 (by omega)) ?_
  intro r' f9 hP
  obtain ⟨rfl, hPe⟩ := hP
  subst f9
  refine x_iastore rfl (by decide) h200 ⟨by omega, by omega⟩ (by omega) ?_
  refine x_goto (t := 13) rfl rfl ?_
  rw [Int.toNat_natCast]
  exact kk
theorem xs_167x127 {v0 : Value} {xs : List Int32} {u : Nat × Nat} {Q : zO → zX → Prop} {f0 f : Nat → zE} {n : Nat} {S : sS} {al : Nat → Bool} {lv : zL} {tl : List Int} {k t : Nat} (hF : wMF f n S (-1)) (hn : n ≤ 12) (hA : sAD f0 al) (h198 : f 198 = f0 198) (h200 : f 200 = xr 0 tl) (htl : tl.length = 5) (hk : k < 5) (ht : tl.getD k 0 = (t : Nat)) (htn : t ≤ 12) (l0 : zlv lv 0 = some (.ref 177)) (l2 : zlv lv 2 = some (xi (k : Nat))) (kk : xz v0 xs u Q 167 13 lv [] (xu f 200 (xr 0 (tl.set k (sfr al n (n - (t + 1))))))) : xz v0 xs u Q 167 127 lv [] f := by
  obtain ⟨fs, hB, h0, h35, h36, h37, h38, h39⟩ := id hF
  have h177 := hB.1.1
  refine x_aload_n rfl l0 ?_
  refine x_getfield rfl (by decide) h177 h38 ?_
  refine x_iload_n rfl l2 ?_
  refine x_aload_n rfl l0 ?_
  refine x_aload_n rfl l0 ?_
  refine x_getfield rfl (by decide) h177 h38 ?_
  refine x_iload_n rfl l2 ?_
  refine x_iaload rfl (by decide) h200 ⟨by omega, by omega⟩ (by omega) ?_
  rw [Int.toNat_natCast, ht]
  refine x_iconst rfl ?_
  refine x_iadd rfl ?_
  rw [show ((t : Nat) : Int) + 1 = ((t + 1 : Nat) : Int) by omega]
  refine x_call [_, _] rfl rfl (show (2 : Nat) ≤ 8 from by decide) (show (2 : Nat) ≤ 4 from by decide) (x_rcv (by decide) h177) (wfrom (c := t + 1) hF hn hA h198 (by omega)) ?_
  intro r' f9 hP
  obtain ⟨rfl, hPe⟩ := hP
  subst f9
  refine x_iastore rfl (by decide) h200 ⟨by omega, by omega⟩ (by omega) ?_
  refine x_goto (t := 13) rfl rfl ?_
  rw [Int.toNat_natCast]
  exact kk
theorem wDI_down {f0 f : Nat → zE} {n : Nat} {S : sS} {k : Nat} {R : Nat → Nat → Int} {p : List Nat} {T : List Int → Prop} (h : wDI f0 f n S (k + 1) R p T) : wDI f0 f n S k R (p.take k) (fun _ => True) := by
  obtain ⟨h1, h2, ⟨tl, t1, t2, t3, -⟩, ⟨sl, s1, s2, s3⟩, hfr⟩ := h
  refine ⟨h1, h2, ⟨tl, t1, t2, fun i hi => ?_, trivial⟩, ⟨sl, s1, s2, fun i hi => s3 i (by omega)⟩, hfr⟩
  rw [t3 i (by omega), List.getD_eq_getElem?_getD, List.getD_eq_getElem?_getD, List.getElem?_take, if_pos hi]
theorem wDI_R {f0 f : Nat → zE} {n : Nat} {S : sS} {k : Nat} {R R' : Nat → Nat → Int} {p : List Nat} {T : List Int → Prop} (h : wDI f0 f n S k R p T) (e : ∀ i, i ≤ k → R' i = R i) : wDI f0 f n S k R' p T := by
  obtain ⟨h1, h2, h3, ⟨sl, s1, s2, s3⟩, hfr⟩ := h
  exact ⟨h1, h2, h3, ⟨sl, s1, s2, fun i hi => by rw [e i hi]; exact s3 i hi⟩, hfr⟩
theorem takeN_app {p : List Nat} {t k : Nat} (h : p.length = k) : (p ++ [t]).take k = p := by
  rw [← h]
  exact List.take_left
/-- a depth, with what is done at the depth below -/
theorem xs_167j {v0 : Value} {xs : List Int32} {u : Nat × Nat} {Q : zO → zX → Prop} {f0 : Nat → zE} {K : List (Int × Int)} {G : Nat → List xBt} {n : Nat} {S : sS} {al : Nat → Bool} {many m k : Nat} {p : List Nat} {R : Nat → Nat → Int} (hK : ∀ c, c < n → sKM f0 K c (G c)) (hG : ∀ c, c < n → sGok K (G c)) (hA : sAD f0 al) (hn : n ≤ 12) (hmany : 1 ≤ many ∧ many ≤ 4) (hkm : k + m + 1 = many) (hp : p.length = k) (hpn : ∀ c ∈ p, c < n)
    (hch : ∀ (t : Nat) (R' : Nat → Nat → Int) (lv2 : zL) (f2 : Nat → zE), t < n → (∀ i, i ≤ k → R' i = R i) → zlv lv2 0 = some (.ref 177) → zlv lv2 1 = some (xi (many : Nat)) → zlv lv2 2 = some (xi ((k + 1 : Nat) : Int)) → wDI f0 f2 n S (k + 1) R' (p ++ [t]) (fun tl => k + 1 < many → tl.getD (k + 1) 0 = sfr al n n) → (∀ (y : sNd) (f3 : Nat → zE), (wext (fun c => sbt K (G c)) al n m (p ++ [t], R' (k + 1))).find? whm = some y → wMS2 f0 f3 n S many y.1 → Q (.inl (some (xi 1))) (xh f3, u)) → ((wext (fun c => sbt K (G c)) al n m (p ++ [t], R' (k + 1))).find? whm = none → ∀ (lv3 : zL) (f3 : Nat → zE), zlv lv3 0 = some (.ref 177) → zlv lv3 1 = some (xi (many : Nat)) → zlv lv3 2 = some (xi (k : Nat)) → wDI f0 f3 n S k R' p (fun tl => tl.getD k 0 = sfr al n (n - (t + 1))) → xz v0 xs u Q 167 13 lv3 [] f3) → xz v0 xs u Q 167 13 lv2 [] f2) :
    ∀ (j : Nat) (lv : zL) (f : Nat → zE), j ≤ n → zlv lv 0 = some (.ref 177) → zlv lv 1 = some (xi (many : Nat)) → zlv lv 2 = some (xi (k : Nat)) → wDI f0 f n S k R p (fun tl => tl.getD k 0 = sfr al n j) →
    (∀ (y : sNd) (f2 : Nat → zE), ((wkF (fun c => sbt K (G c)) al n (p, R k) j).flatMap (wext (fun c => sbt K (G c)) al n m)).find? whm = some y → wMS2 f0 f2 n S many y.1 → Q (.inl (some (xi 1))) (xh f2, u)) →
    (((wkF (fun c => sbt K (G c)) al n (p, R k) j).flatMap (wext (fun c => sbt K (G c)) al n m)).find? whm = none → ∀ (lv2 : zL) (f2 : Nat → zE), zlv lv2 0 = some (.ref 177) → zlv lv2 1 = some (xi (many : Nat)) → zlv lv2 2 = some (xi ((k : Nat) - 1)) → (k = 0 → wDI f0 f2 n S 0 R [] (fun _ => True)) → (∀ k', k = k' + 1 → wDI f0 f2 n S k' R (p.take k') (fun tl => tl.getD k' 0 = sfr al n (n - (p.getD k' 0 + 1)))) → xz v0 xs u Q 167 13 lv2 [] f2) → xz v0 xs u Q 167 13 lv [] f := by
  intro j
  induction j with
  | zero =>
    intro lv f hj l0 l1 l2 hI kf kn
    obtain ⟨hF, hC, ⟨tl, g200, gl, gv, gt⟩, hS, hfr⟩ := id hI
    obtain ⟨fs, hB, h0, h35, h36, h37, h38, h39⟩ := id hF
    refine x_iload_n rfl l2 ?_
    refine x_iflt (t := 148) rfl rfl ⟨by omega, by omega⟩ (fun h => by omega) (fun _ => ?_)
    refine x_iload_n rfl l2 ?_
    refine x_iload_n rfl l1 ?_
    refine x_cne (t := 56) rfl rfl ⟨by omega, by omega⟩ ⟨by omega, by omega⟩ (fun _ => ?_) (fun h => by omega)
    refine x_aload_n rfl l0 ?_
    refine x_getfield rfl (by decide) hB.1.1 h38 ?_
    refine x_iload_n rfl l2 ?_
    refine x_iaload rfl (by decide) g200 ⟨by omega, by omega⟩ (by omega) ?_
    rw [Int.toNat_natCast, gt, show sfr al n 0 = -1 from rfl]
    refine x_ifge (t := 93) rfl rfl (by decide) (fun h => absurd h (by decide)) (fun _ => ?_)
    refine x_iinc rfl l2 (show (2 : Nat) < 3 from by decide) ?_
    have hno : ((wkF (fun c => sbt K (G c)) al n (p, R k) 0).flatMap (wext (fun c => sbt K (G c)) al n m)).find? whm = none := rfl
    cases k with
    | zero =>
      refine x_iload_n rfl xst_eq ?_
      refine x_iflt (t := 13) rfl rfl (by decide) (fun _ => ?_) (fun h => absurd h (by decide))
      have hp0 : p = [] := List.length_eq_zero_iff.mp hp
      subst hp0
      exact kn hno _ f (xst_ne (by decide) l0 (Or.inl rfl)) (xst_ne (by decide) l1 (Or.inl rfl)) xst_eq (fun _ => ⟨hF, hC, ⟨tl, g200, gl, gv, trivial⟩, hS, hfr⟩) (fun k' h => by omega)
    | succ k1 =>
      have ek : (((k1 + 1 : Nat) : Int) + -1) = ((k1 : Nat) : Int) := by omega
      rw [ek]
      have hpk : p.getD k1 0 < n := by
        rw [List.getD_eq_getElem?_getD, List.getElem?_eq_getElem (show k1 < p.length by omega)]
        exact hpn _ (List.getElem_mem _)
      refine x_iload_n rfl xst_eq ?_
      refine x_iflt (t := 13) rfl rfl ⟨by omega, by omega⟩ (fun h => by omega) (fun _ => ?_)
      refine xs_167x72 hF hn hA (hfr 198 (by decide) (by decide) (by decide) (by decide)) g200 gl (k := k1) (t := p.getD k1 0) (by omega) (gv k1 (by omega)) (by omega) (xst_ne (by decide) l0 (Or.inl rfl)) xst_eq ?_
      refine kn hno _ _ (xst_ne (by decide) l0 (Or.inl rfl)) (xst_ne (by decide) l1 (Or.inl rfl)) (by rw [show (((k1 + 1 : Nat) : Int) - 1) = ((k1 : Nat) : Int) by omega]; exact xst_eq) (fun h => by omega) (fun k' h => ?_)
      have ek1 : k' = k1 := by omega
      subst ek1
      refine wDI_200 (wDI_down hI) gl (fun i hi => ?_) (Nat.le_refl _) (by omega)
      rw [gv i (by omega), List.getD_eq_getElem?_getD, List.getD_eq_getElem?_getD, List.getElem?_take, if_pos hi]
  | succ j ih =>
    intro lv f hj l0 l1 l2 hI kf kn
    have eF : wkF (fun c => sbt K (G c)) al n (p, R k) (j + 1) = wk1 (fun c => sbt K (G c)) al (p, R k) (n - 1 - j) ++ wkF (fun c => sbt K (G c)) al n (p, R k) j := rfl
    by_cases ha : al (n - 1 - j) = true
    rotate_left
    · have e1 : wk1 (fun c => sbt K (G c)) al (p, R k) (n - 1 - j) = [] := by
        unfold wk1
        rw [if_neg (fun h => ha h.1)]
      rw [eF, e1, List.nil_append] at kf kn
      rw [show sfr al n (j + 1) = sfr al n j from if_neg ha] at hI
      exact ih lv f (by omega) l0 l1 l2 hI kf kn
    generalize ht0 : n - 1 - j = t at ha eF
    have htn : t < n := by omega
    rw [show sfr al n (j + 1) = ((n - 1 - j : Nat) : Int) from if_pos (by rw [ht0]; exact ha), ht0] at hI
    obtain ⟨hF, ⟨ax, ay, af, hmc⟩, ⟨tl, g200, gl, gv, gt⟩, ⟨sl, s1, s2, s3⟩, hfr⟩ := id hI
    obtain ⟨fs, hB, h0, h35, h36, h37, h38, h39⟩ := id hF
    have hKM : sKM f K t (G t) := sKM_f (hK t htn) fun q b1 b2 => hfr q (by omega) (by omega) (by omega) (by omega)
    refine x_iload_n rfl l2 ?_
    refine x_iflt (t := 148) rfl rfl ⟨by omega, by omega⟩ (fun h => by omega) (fun _ => ?_)
    refine x_iload_n rfl l2 ?_
    refine x_iload_n rfl l1 ?_
    refine x_cne (t := 56) rfl rfl ⟨by omega, by omega⟩ ⟨by omega, by omega⟩ (fun _ => ?_) (fun h => by omega)
    refine x_aload_n rfl l0 ?_
    refine x_getfield rfl (by decide) hB.1.1 h38 ?_
    refine x_iload_n rfl l2 ?_
    refine x_iaload rfl (by decide) g200 ⟨by omega, by omega⟩ (by omega) ?_
    rw [Int.toNat_natCast, gt]
    refine x_ifge (t := 93) rfl rfl ⟨by omega, by omega⟩ (fun _ => ?_) (fun h => by omega)
    refine x_aload_n rfl l0 ?_
    refine x_iload_n rfl l2 ?_
    refine x_call [_, _] rfl rfl (show (0 : Nat) ≤ 8 from by decide) (show (2 : Nat) ≤ 5 from by decide) (x_rcv (by decide) hB.1.1) (xs_166 (k := k) (c := t) (r := R k) hB h38 h39 hmc hKM (hG t htn) g200 gl (by omega) gt s1 s2 (s3 k (Nat.le_refl _))) (fun r' f1 hP => ?_)
    obtain ⟨rfl, ⟨fs1, hmo1, hfs1⟩, hC1, ⟨sl1, v1, v2, v3, v4⟩, hfr1⟩ := hP
    have hB1 : sMB f1 fs1 (n : Nat) (S.2.1.length : Nat) S.2.2 := sMB_k hB hmo1 hfs1
    have hF1 : wMF f1 n S (-1) := ⟨fs1, hB1, (hfs1 0 (by decide) (by decide)).trans h0, (hfs1 35 (by decide) (by decide)).trans h35, (hfs1 36 (by decide) (by decide)).trans h36, (hfs1 37 (by decide) (by decide)).trans h37, (hfs1 38 (by decide) (by decide)).trans h38, (hfs1 39 (by decide) (by decide)).trans h39⟩
    have hff1 : ∀ q, q ≠ 177 → ¬ (192 ≤ q ∧ q ≤ 194) → q ≠ 200 → q ≠ 201 → f1 q = f0 q := fun q b1 b2 b3 b4 => (hfr1 q b1 b2 b4).trans (hfr q b1 b2 b3 b4)
    have g1 : f1 200 = xr 0 tl := (hfr1 200 (by decide) (by decide) (by decide)).trans g200
    have hI1 : ∀ R' : Nat → Nat → Int, (∀ i, i ≤ k → R' i = R i) → wDI f0 f1 n S k R' p (fun _ => True) := fun R' hR => ⟨hF1, hC1, ⟨tl, g1, gl, gv, trivial⟩, ⟨sl1, v1, v2, fun i hi d hd => by rw [v3 (8 * i + d) (by omega), hR i hi]; exact s3 i hi d hd⟩, hff1⟩
    by_cases hz : sres (sbt K (G t)) false (R k) (sbt K (G t)).length = 0
    rotate_left
    · rw [if_neg hz]
      refine x_ifeq (t := 127) rfl rfl (by decide) (fun _ => ?_) (fun h => absurd rfl h)
      have e1 : wk1 (fun c => sbt K (G c)) al (p, R k) t = [] := by
        unfold wk1
        rw [if_neg (fun h => hz h.2)]
      rw [eF, e1, List.nil_append] at kf kn
      refine xs_167x127 hF1 hn hA (hff1 198 (by decide) (by decide) (by decide) (by decide)) g1 gl (k := k) (t := t) (by omega) gt (by omega) l0 l2 ?_
      rw [show n - (t + 1) = j by omega]
      exact ih lv _ (by omega) l0 l1 l2 (wDI_200 (hI1 R fun _ _ => rfl) gl gv (Nat.le_refl _) (by omega)) kf kn
    rw [if_pos hz]
    refine x_ifeq (t := 127) rfl rfl (by decide) (fun h => absurd h (by decide)) (fun _ => ?_)
    have e1 : wk1 (fun c => sbt K (G c)) al (p, R k) t = [(p ++ [t], srow (sbt K (G t)) false (R k) (sbt K (G t)).length)] := by
      unfold wk1
      rw [if_pos ⟨ha, hz⟩]
    refine x_iinc rfl l2 (show (2 : Nat) < 3 from by decide) ?_
    have q0 := xst_ne (k := 2) (v := xi (((k : Nat) : Int) + 1)) (by decide) l0 (Or.inl rfl)
    have q1 := xst_ne (k := 2) (v := xi (((k : Nat) : Int) + 1)) (by decide) l1 (Or.inl rfl)
    have q2 : zlv (xst 2 (xi (((k : Nat) : Int) + 1)) lv) 2 = some (xi ((k + 1 : Nat) : Int)) := xst_eq
    generalize xst 2 (xi (((k : Nat) : Int) + 1)) lv = lv4 at q0 q1 q2 ⊢
    obtain ⟨R', hR1, hR2⟩ : ∃ R' : Nat → Nat → Int, (∀ i, i ≤ k → R' i = R i) ∧ R' (k + 1) = srow (sbt K (G t)) false (R k) (sbt K (G t)).length := ⟨fun i => if i = k + 1 then srow (sbt K (G t)) false (R k) (sbt K (G t)).length else R i, fun i hi => if_neg (by omega), if_pos rfl⟩
    have hD : ∀ v : Int, (k + 1 < many → v = sfr al n n) → wDI f0 (xu f1 200 (xr 0 (tl.set (k + 1) v))) n S (k + 1) R' (p ++ [t]) (fun tl => k + 1 < many → tl.getD (k + 1) 0 = sfr al n n) := by
      intro v hv
      obtain ⟨-, ⟨ax9, ay9, af9, c1, c2, c3, c4⟩, -⟩ := hI1 R fun _ _ => rfl
      refine ⟨?_, ⟨ax9, ay9, af9, xu_ne (by decide) c1, xu_ne (by decide) c2, xu_ne (by decide) c3, c4⟩, ⟨_, xu_eq, by rw [List.length_set]; exact gl, fun i hi => ?_, fun hm => by rw [x_gset, if_pos ⟨rfl, by omega⟩]; exact hv hm⟩, ⟨sl1, xu_ne (by decide) v1, v2, fun i hi d hd => ?_⟩, fun q b1 b2 b3 b4 => xu_ne b3 (hff1 q b1 b2 b3 b4)⟩
      · obtain ⟨fs9, hB9, g9⟩ := hF1
        exact ⟨fs9, sMB_f hB9 (xu_ne (by decide) rfl), g9⟩
      · rw [x_gset, if_neg (by omega)]
        by_cases hik : i = k
        · subst hik
          rw [gt, List.getD_eq_getElem?_getD, List.getElem?_append_right (by omega), hp, Nat.sub_self]
          rfl
        · rw [gv i (by omega), List.getD_eq_getElem?_getD, List.getD_eq_getElem?_getD, List.getElem?_append_left (by omega)]
      · by_cases hik : i = k + 1
        · subst hik
          rw [hR2, show 8 * (k + 1) + d = 8 * k + 8 + d by omega]
          exact v4 hz d hd
        · rw [v3 (8 * i + d) (by omega), hR1 i (by omega)]
          exact s3 i (by omega) d hd
    refine x_aload_n rfl q0 ?_
    refine x_getfield rfl (by decide) hB1.1.1 ((hfs1 38 (by decide) (by decide)).trans h38) ?_
    refine x_iload_n rfl q2 ?_
    obtain ⟨v, hv1, hv⟩ : ∃ v : Int, v = (if k + 1 < many then sfr al n n else 0) ∧ (k + 1 < many → v = sfr al n n) := ⟨_, rfl, fun h => if_pos h⟩
    refine x_dia v 123 (fun kk => ?_) ?_
    · refine x_iload_n rfl q2 ?_
      refine x_iload_n rfl q1 ?_
      refine x_cge (t := 122) rfl rfl ⟨by omega, by omega⟩ ⟨by omega, by omega⟩ (fun h => ?_) (fun h => ?_)
      · refine x_iconst rfl ?_
        rw [hv1, if_neg (by omega)] at kk
        exact kk
      · refine x_aload_n rfl q0 ?_
        refine x_iconst rfl ?_
        refine x_call [_, _] rfl rfl (show (2 : Nat) ≤ 8 from by decide) (show (2 : Nat) ≤ 4 from by decide) (x_rcv (by decide) hB1.1.1) (wfrom (c := 0) hF1 hn hA (hff1 198 (by decide) (by decide) (by decide) (by decide)) (by decide)) (fun r' f' hP => ?_)
        obtain ⟨rfl, hPe⟩ := hP
        subst f'
        refine x_goto (t := 123) rfl rfl ?_
        rw [hv1, if_pos (by omega)] at kk
        exact kk
    refine x_iastore rfl (by decide) g1 ⟨by omega, by omega⟩ (by omega) ?_
    rw [Int.toNat_natCast]
    refine x_goto (t := 13) rfl rfl ?_
    rw [eF, e1, flatMap_app', flatMap_cons', flatMap_nil', List.append_nil, ← hR2] at kf kn
    refine hch t R' lv4 _ htn hR1 q0 q1 q2 (hD v hv) (fun y f3 hy h3 => kf y f3 (find_app_some _ _ hy) h3) (fun hno lv3 f3 o0 o1 o2 hI3 => ?_)
    rw [show n - (t + 1) = j by omega] at hI3
    rw [find_app _ _ hno] at kn
    refine ih lv3 f3 (by omega) o0 o1 o2 (wDI_R hI3 fun i hi => (hR1 i hi).symm) (fun y f4 hy h4 => kf y f4 ?_ h4) kn
    rw [find_app _ _ hno]
    exact hy
theorem xs_167m {v0 : Value} {xs : List Int32} {u : Nat × Nat} {Q : zO → zX → Prop} {f0 : Nat → zE} {K : List (Int × Int)} {G : Nat → List xBt} {n : Nat} {S : sS} {al : Nat → Bool} {many : Nat} (hK : ∀ c, c < n → sKM f0 K c (G c)) (hG : ∀ c, c < n → sGok K (G c)) (hA : sAD f0 al) (hn : n ≤ 12) (hmany : 1 ≤ many ∧ many ≤ 4) : ∀ (m k : Nat) (p : List Nat) (R : Nat → Nat → Int), k + m + 1 = many → p.length = k → (∀ c ∈ p, c < n) → ∀ (j : Nat) (lv : zL) (f : Nat → zE), j ≤ n → zlv lv 0 = some (.ref 177) → zlv lv 1 = some (xi (many : Nat)) → zlv lv 2 = some (xi (k : Nat)) → wDI f0 f n S k R p (fun tl => tl.getD k 0 = sfr al n j) →
    (∀ (y : sNd) (f2 : Nat → zE), ((wkF (fun c => sbt K (G c)) al n (p, R k) j).flatMap (wext (fun c => sbt K (G c)) al n m)).find? whm = some y → wMS2 f0 f2 n S many y.1 → Q (.inl (some (xi 1))) (xh f2, u)) →
    (((wkF (fun c => sbt K (G c)) al n (p, R k) j).flatMap (wext (fun c => sbt K (G c)) al n m)).find? whm = none → ∀ (lv2 : zL) (f2 : Nat → zE), zlv lv2 0 = some (.ref 177) → zlv lv2 1 = some (xi (many : Nat)) → zlv lv2 2 = some (xi ((k : Nat) - 1)) → (k = 0 → wDI f0 f2 n S 0 R [] (fun _ => True)) → (∀ k', k = k' + 1 → wDI f0 f2 n S k' R (p.take k') (fun tl => tl.getD k' 0 = sfr al n (n - (p.getD k' 0 + 1)))) → xz v0 xs u Q 167 13 lv2 [] f2) → xz v0 xs u Q 167 13 lv [] f := by
  intro m
  induction m with
  | zero =>
    intro k p R hkm hp hpn
    refine xs_167j hK hG hA hn hmany hkm hp hpn (fun t R' lv2 f2 htn hR l0 l1 l2 hI kf kn => ?_)
    obtain ⟨hF, hC, ⟨tl, g200, gl, gv, -⟩, ⟨sl, s1, s2, s3⟩, hfr⟩ := id hI
    obtain ⟨fs, hB, h0, h35, h36, h37, h38, h39⟩ := id hF
    refine x_iload_n rfl l2 ?_
    refine x_iflt (t := 148) rfl rfl ⟨by omega, by omega⟩ (fun h => by omega) (fun _ => ?_)
    refine x_iload_n rfl l2 ?_
    refine x_iload_n rfl l1 ?_
    refine x_cne (t := 56) rfl rfl ⟨by omega, by omega⟩ ⟨by omega, by omega⟩ (fun h => by omega) (fun _ => ?_)
    refine x_aload_n rfl l0 ?_
    refine x_iload_n rfl l2 ?_
    refine x_call [_, _] rfl rfl (show (0 : Nat) ≤ 8 from by decide) (show (2 : Nat) ≤ 4 from by decide) (x_rcv (by decide) hB.1.1) (xs_164 (k := k + 1) (r := R' (k + 1)) hB.1.1 h39 s1 s2 (by omega) (s3 (k + 1) (Nat.le_refl _))) (fun r' f' hP => ?_)
    obtain ⟨rfl, hPe⟩ := hP
    subst f'
    have hwh : whm (p ++ [t], R' (k + 1)) = sall (fun d => R' (k + 1) d == shome d) 8 := rfl
    rw [← hwh]
    by_cases hh : whm (p ++ [t], R' (k + 1)) = true
    · rw [if_pos hh]
      refine x_ifeq (t := 32) rfl rfl (by decide) (fun h => absurd h (by decide)) (fun _ => ?_)
      refine x_iconst rfl ?_
      refine x_ireturn rfl (Or.inr (Or.inl ⟨rfl, by decide⟩)) (kf (p ++ [t], R' (k + 1)) f2 ?_ ⟨hF, hC, ⟨tl, g200, gl, fun i hi => gv i (by omega)⟩, ⟨sl, s1, s2⟩, hfr⟩)
      show List.find? whm [(p ++ [t], R' (k + 1))] = _
      rw [List.find?_cons, hh]
    · rw [if_neg hh]
      refine x_ifeq (t := 32) rfl rfl (by decide) (fun _ => ?_) (fun h => absurd rfl h)
      have hno : (wext (fun c => sbt K (G c)) al n 0 (p ++ [t], R' (k + 1))).find? whm = none := by
        show List.find? whm [(p ++ [t], R' (k + 1))] = _
        rw [List.find?_cons, bool_f hh]
        rfl
      refine x_iinc rfl l2 (show (2 : Nat) < 3 from by decide) ?_
      have q2 : zlv (xst 2 (xi (((k + 1 : Nat) : Int) + -1)) lv2) 2 = some (xi (k : Nat)) := by
        rw [show ((k + 1 : Nat) : Int) + -1 = ((k : Nat) : Int) by omega]
        exact xst_eq
      have gtk : tl.getD k 0 = ((t : Nat) : Int) := by
        rw [gv k (by omega), List.getD_eq_getElem?_getD, List.getElem?_append_right (by omega), hp, Nat.sub_self]
        rfl
      refine xs_167x35 hF hn hA (hfr 198 (by decide) (by decide) (by decide) (by decide)) g200 gl (k := k) (t := t) (by omega) gtk (by omega) (xst_ne (by decide) l0 (Or.inl rfl)) q2 ?_
      have hd := wDI_down hI
      rw [takeN_app hp] at hd
      refine kn hno _ _ (xst_ne (by decide) l0 (Or.inl rfl)) (xst_ne (by decide) l1 (Or.inl rfl)) q2 (wDI_200 hd gl (fun i hi => ?_) (Nat.le_refl _) (by omega))
      rw [gv i (by omega), List.getD_eq_getElem?_getD, List.getD_eq_getElem?_getD, List.getElem?_append_left (by omega)]
  | succ m ihm =>
    intro k p R hkm hp hpn
    refine xs_167j hK hG hA hn hmany hkm hp hpn (fun t R' lv2 f2 htn hR l0 l1 l2 hI kf kn => ?_)
    have hI2 : wDI f0 f2 n S (k + 1) R' (p ++ [t]) (fun tl => tl.getD (k + 1) 0 = sfr al n n) := by
      obtain ⟨hF, hC, ⟨tl, g200, gl, gv, gt⟩, hS, hfr⟩ := hI
      exact ⟨hF, hC, ⟨tl, g200, gl, gv, gt (by omega)⟩, hS, hfr⟩
    have hpl : (p ++ [t]).length = k + 1 := by rw [List.length_append, List.length_singleton, hp]
    have eE : (wkF (fun c => sbt K (G c)) al n (p ++ [t], R' (k + 1)) n).flatMap (wext (fun c => sbt K (G c)) al n m) = wext (fun c => sbt K (G c)) al n (m + 1) (p ++ [t], R' (k + 1)) := by
      rw [wkF_all]
      rfl
    refine ihm (k + 1) (p ++ [t]) R' (by omega) hpl (fun c hc => ?_) n lv2 f2 (Nat.le_refl n) l0 l1 l2 hI2 (fun y f3 hy h3 => kf y f3 (by rw [← eE]; exact hy) h3) (fun hno lv3 f3 o0 o1 o2 _ o4 => ?_)
    · rcases List.mem_append.mp hc with h1 | h1
      · exact hpn c h1
      · rw [List.mem_singleton.mp h1]
        exact htn
    · have h4 := o4 k rfl
      rw [takeN_app hp, List.getD_eq_getElem?_getD, List.getElem?_append_right (by omega), hp, Nat.sub_self] at h4
      rw [eE] at hno
      refine kn hno lv3 f3 o0 o1 ?_ h4
      rw [show ((k + 1 : Nat) : Int) - 1 = ((k : Nat) : Int) by omega] at o2
      exact o2
/-- what the model's search comes to -/
theorem xs_167 {v0 : Value} {xs : List Int32} {u : Nat × Nat} {f0 f : Nat → zE} {K : List (Int × Int)} {G : Nat → List xBt} {n : Nat} {S : sS} {al : Nat → Bool} {many : Nat} {R : Nat → Nat → Int} (hK : ∀ c, c < n → sKM f0 K c (G c)) (hG : ∀ c, c < n → sGok K (G c)) (hA : sAD f0 al) (hn : n ≤ 12) (hmany : 1 ≤ many ∧ many ≤ 4) (hI : wDI f0 f n S 0 R [] (fun _ => True)) : xq v0 xs u 167 [(0, .ref 177), (1, xi (many : Nat))] f (fun r' f' => (∃ y : sNd, wfd (fun c => sbt K (G c)) al n (R 0) many = some y ∧ r' = some (xi 1) ∧ wMS2 f0 f' n S many y.1) ∨ (wfd (fun c => sbt K (G c)) al n (R 0) many = none ∧ r' = some (xi 0) ∧ wDI f0 f' n S 0 R [] (fun _ => True))) := by
  unfold xq
  obtain ⟨hF, hC, ⟨tl, g200, gl, gv, -⟩, hS, hfr⟩ := id hI
  obtain ⟨fs, hB, h0, h35, h36, h37, h38, h39⟩ := id hF
  obtain ⟨m, rfl⟩ : ∃ m, many = m + 1 := ⟨many - 1, by omega⟩
  refine x_iconst rfl ?_
  refine x_istore_n rfl (show (2 : Nat) < 3 from by decide) ?_
  refine x_aload_n rfl (xst_ne (by decide) rfl (Or.inl rfl)) ?_
  refine x_getfield rfl (by decide) hB.1.1 h38 ?_
  refine x_iconst rfl ?_
  refine x_aload_n rfl (xst_ne (by decide) rfl (Or.inl rfl)) ?_
  refine x_iconst rfl ?_
  refine x_call [_, _] rfl rfl (show (2 : Nat) ≤ 8 from by decide) (show (2 : Nat) ≤ 4 from by decide) (x_rcv (by decide) hB.1.1) (wfrom (c := 0) hF hn hA (hfr 198 (by decide) (by decide) (by decide) (by decide)) (by decide)) (fun r' f' hP => ?_)
  obtain ⟨rfl, hPe⟩ := hP
  subst f'
  refine x_iastore rfl (by decide) g200 ⟨by omega, by omega⟩ (by omega) ?_
  have eW : (wkF (fun c => sbt K (G c)) al n ([], R 0) n).flatMap (wext (fun c => sbt K (G c)) al n m) = wext (fun c => sbt K (G c)) al n (m + 1) ([], R 0) := by
    rw [wkF_all]
    rfl
  refine xs_167m hK hG hA hn hmany m 0 [] R (by omega) rfl (fun c hc => by cases hc) n _ _ (Nat.le_refl n) (xst_ne (by decide) rfl (Or.inl rfl)) (xst_ne (by decide) rfl (Or.inl rfl)) xst_eq (wDI_200 hI gl (fun i hi => absurd hi (Nat.not_lt_zero i)) (Nat.le_refl 0) (by decide)) (fun y f2 hy h2 => ?_) (fun hno lv2 f2 o0 o1 o2 o3 _ => ?_)
  · rw [eW] at hy
    exact ⟨_, _, rfl, rfl, Or.inl ⟨y, hy, rfl, h2⟩⟩
  · rw [eW] at hno
    refine x_iload_n rfl o2 ?_
    refine x_iflt (t := 148) rfl rfl (by decide) (fun _ => ?_) (fun h => absurd h (by decide))
    refine x_iconst rfl ?_
    exact x_ireturn rfl (Or.inr (Or.inl ⟨rfl, by decide⟩)) ⟨_, _, rfl, rfl, Or.inr ⟨hno, rfl, o3 rfl⟩⟩
