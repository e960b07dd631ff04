/-! The class's dancing, above follow. -/
theorem zwp_and {t : zT} {G : List zE} {mi pc : Nat} {lv : zL} {st : List Value} {X : zX} {Q1 Q2 : zO → zX → Prop} (h1 : zwp t G mi pc lv st X Q1) (h2 : zwp t G mi pc lv st X Q2) : zwp t G mi pc lv st X (fun o X' => Q1 o X' ∧ Q2 o X') := by
  obtain ⟨n1, o1, X1, e1, q1⟩ := h1
  obtain ⟨n2, o2, X2, e2, q2⟩ := h2
  have a := zev_le (Nat.le_max_left n1 n2) e1
  have b := zev_le (Nat.le_max_right n1 n2) e2
  rw [a] at b
  cases b
  exact ⟨_, _, _, a, q1, q2⟩
theorem xD_h {f f1 f2 : Nat → zE} (e : xh f1 = xh f2) (h : xD f f1) : xD f f2 := by
  unfold xD at h ⊢
  rw [← e]
  exact h
/-- what a method of the model does, with the types kept -/
theorem sxq_D {v0 : Value} {xs : List Int32} {u : Nat × Nat} {f : Nat → zE} {m : Nat} {ps : List yA} {ro : Option yA} {vs : List Value} {P : Option Value → (Nat → zE) → Prop} (h : xq v0 xs u m (lv_args 0 vs) f P) (hA : xca f m ps ro []) (hf : yfa ps vs) : xq v0 xs u m (lv_args 0 vs) f (fun r f' => P r f' ∧ xD f f') := by
  refine zwp_mono (zwp_and h (xca_q hA hf)) fun o X hq => ?_
  obtain ⟨⟨r, f1, e1, e2, hP⟩, r2, f2, e3, e4, -, hD⟩ := hq
  refine ⟨r, f1, e1, e2, hP, xD_h ?_ hD⟩
  rw [e2] at e4
  exact (congrArg Prod.fst e4).symm
theorem scopy_at {lx ly : List Int} {s d n : Nat} (h1 : s + n ≤ lx.length) (h2 : d + n ≤ ly.length) (j : Nat) : (ly.take d ++ (lx.drop s).take n ++ ly.drop (d + n)).getD j 0 = if d ≤ j ∧ j < d + n then lx.getD (s + (j - d)) 0 else ly.getD j 0 := by
  have e1 : (ly.take d).length = d := by rw [List.length_take]; omega
  have e2 : ((lx.drop s).take n).length = n := by rw [List.length_take, List.length_drop]; omega
  rw [List.getD_eq_getElem?_getD]
  by_cases hj : j < d
  · rw [if_neg (by omega), List.append_assoc, List.getElem?_append_left (by omega), List.getElem?_take, if_pos hj, ← List.getD_eq_getElem?_getD]
  · by_cases hj2 : j < d + n
    · rw [if_pos ⟨by omega, hj2⟩, List.append_assoc, List.getElem?_append_right (by omega), List.getElem?_append_left (by omega), e1, List.getElem?_take, if_pos (by omega), List.getElem?_drop, ← List.getD_eq_getElem?_getD]
    · rw [if_neg (by omega), List.getElem?_append_right (by rw [List.length_append]; omega), List.length_append, e1, e2, List.getElem?_drop, show d + n + (j - (d + n)) = j by omega, ← List.getD_eq_getElem?_getD]
theorem scopy_len {lx ly : List Int} {s d n : Nat} (h1 : s + n ≤ lx.length) (h2 : d + n ≤ ly.length) : (ly.take d ++ (lx.drop s).take n ++ ly.drop (d + n)).length = ly.length := by
  simp only [List.length_append, List.length_take, List.length_drop]
  omega
theorem x_acopy {v0 : Value} {xs : List Int32} {u : Nat × Nat} {Q : zO → zX → Prop} {mi pc k c : Nat} {v : Value} {lv : zL} {r : List Value} {f : Nat → zE} {p d : Nat} {lx ly : List Int} {sp dp n : Int} (hc : zcd (zt v0) mi pc = some (.invokestatic k, 1, 3, c, v)) (hp : 50 ≤ p ∧ p < 204) (hd : 50 ≤ d ∧ d < 204) (hne : d ≠ p) (h1 : f p = xr 0 lx) (h2 : f d = xr 0 ly) (hn : 0 ≤ n) (hs : 0 ≤ sp ∧ sp + n ≤ (lx.length : Nat)) (hdp : 0 ≤ dp ∧ dp + n ≤ (ly.length : Nat)) (hl : lx.length ≤ 5000) (hl2 : ly.length ≤ 5000) (h8 : zcat r ≤ 8) (kk : xz v0 xs u Q mi (pc + 3) lv r (xu f d (xr 0 (ly.take dp.toNat ++ (lx.drop sp.toNat).take n.toNat ++ ly.drop (dp.toNat + n.toNat))))) : xz v0 xs u Q mi pc lv (xi n :: xi dp :: .ref d :: xi sp :: .ref p :: r) f := by
  obtain ⟨z1, z2, z3, z4, z5⟩ := zk_za (G := zG xs) (df := zdf (zt v0)) (i := .invokestatic k) (a := 1) (b := 3) (c := c) (v := v) (nL := znl (zt v0) mi) (pc := pc) (lv := lv) (st := xi n :: xi dp :: .ref d :: xi sp :: .ref p :: r) (X := (xh f, u)) rfl
  have c1 := xi_clamp hn (show n ≤ 2147483647 by omega)
  have c2 := xi_clamp hs.1 (show sp ≤ 2147483647 by omega)
  have c3 := xi_clamp hdp.1 (show dp ≤ 2147483647 by omega)
  have e : zd 3 (xi n :: xi dp :: .ref d :: xi sp :: .ref p :: r) (xh f, u) = some (r, (xh (xu f d (xr 0 (ly.take dp.toNat ++ (lx.drop sp.toNat).take n.toNat ++ ly.drop (dp.toNat + n.toNat)))), u)) := by
    simp only [zd]
    rw [if_neg (show ¬ (d < 50 ∨ p < 50 ∨ d = p) by omega)]
    simp only [xh_at hp.1 hp.2, xh_at hd.1 hd.2, h1, h2]
    rw [if_pos ⟨c1.1, c2.1, c3.1, by rw [c1.2, c2.2, List.length_map]; omega, by rw [c1.2, c3.2, List.length_map]; omega⟩, c1.2, c2.2, c3.2]
    have e2 : ((ly.map Int32.ofInt).take dp.toNat ++ ((lx.map Int32.ofInt).drop sp.toNat).take n.toNat ++ (ly.map Int32.ofInt).drop (dp.toNat + n.toNat)) = (ly.take dp.toNat ++ (lx.drop sp.toNat).take n.toNat ++ ly.drop (dp.toNat + n.toNat)).map Int32.ofInt := by
      simp only [List.map_append, List.map_take, List.map_drop]
    rw [e2]
    show some (r, ((xh f).set (d - 50) _, u)) = _
    rw [xh_set hd.1]
  exact zwp_jdk ⟨hc, z1, z2, z3⟩ z4 rfl rfl e h8 kk
def xjl : List (Option Nat) := [some 123, some 125, some 127, some 129, some 131, some 133, some 135, some 137, some 139, some 141, some 143, some 145, some 147, some 149, some 151, some 153, some 155, some 157, some 159, some 161, some 163, some 165, some 167, some 169]
theorem xjl_at : ∀ i : Nat, i < 24 → xjl.getD i none = some (123 + 2 * i) := by decide
theorem yT2_trkA : ∀ i : Nat, i < 13 → yT2[73 + 2 * i]? = some (.inl (9, [.inr (.inr [123 + 2 * i + 1]), .inl (0, 16)])) ∧ yT2[73 + 2 * i + 1]? = some (.inr (.inl (0, [(136, 0, 399)]))) := fun i hi => match i, hi with
  | 0, _ => ⟨rfl, rfl⟩
  | 1, _ => ⟨rfl, rfl⟩
  | 2, _ => ⟨rfl, rfl⟩
  | 3, _ => ⟨rfl, rfl⟩
  | 4, _ => ⟨rfl, rfl⟩
  | 5, _ => ⟨rfl, rfl⟩
  | 6, _ => ⟨rfl, rfl⟩
  | 7, _ => ⟨rfl, rfl⟩
  | 8, _ => ⟨rfl, rfl⟩
  | 9, _ => ⟨rfl, rfl⟩
  | 10, _ => ⟨rfl, rfl⟩
  | 11, _ => ⟨rfl, rfl⟩
  | 12, _ => ⟨rfl, rfl⟩
theorem yT2_trkB : ∀ i : Nat, i < 13 → yT2[73 + 2 * (i + 13)]? = some (.inl (9, [.inr (.inr [123 + 2 * (i + 13) + 1]), .inl (0, 16)])) ∧ yT2[73 + 2 * (i + 13) + 1]? = some (.inr (.inl (0, [(136, 0, 399)]))) := fun i hi => match i, hi with
  | 0, _ => ⟨rfl, rfl⟩
  | 1, _ => ⟨rfl, rfl⟩
  | 2, _ => ⟨rfl, rfl⟩
  | 3, _ => ⟨rfl, rfl⟩
  | 4, _ => ⟨rfl, rfl⟩
  | 5, _ => ⟨rfl, rfl⟩
  | 6, _ => ⟨rfl, rfl⟩
  | 7, _ => ⟨rfl, rfl⟩
  | 8, _ => ⟨rfl, rfl⟩
  | 9, _ => ⟨rfl, rfl⟩
  | 10, _ => ⟨rfl, rfl⟩
  | 11, _ => ⟨rfl, rfl⟩
  | 12, _ => ⟨rfl, rfl⟩
theorem yT2_trk (i : Nat) (hi : i < 26) : yT2[73 + 2 * i]? = some (.inl (9, [.inr (.inr [123 + 2 * i + 1]), .inl (0, 16)])) ∧ yT2[73 + 2 * i + 1]? = some (.inr (.inl (0, [(136, 0, 399)]))) := by
  by_cases h : i < 13
  · exact yT2_trkA i h
  · have e := yT2_trkB (i - 13) (by omega)
    rw [show i - 13 + 13 = i by omega] at e
    exact e
theorem sTk {f : Nat → zE} (hM : yM yT2 (xh f)) {i : Nat} (hi : i < 26) : ∃ (z : Int) (l : List Int), f (123 + 2 * i) = .inl (9, [.ref (123 + 2 * i + 1), xi z]) ∧ (0 ≤ z ∧ z ≤ 16) ∧ f (123 + 2 * i + 1) = xr 0 l ∧ l.length = 136 ∧ ∀ j, j < 136 → sok (l.getD j 0) := by
  obtain ⟨y1, y2⟩ := yT2_trk i hi
  obtain ⟨fs, h1, h2, h3⟩ := xT_o (p := 123 + 2 * i) hM (by omega) (by rw [show 123 + 2 * i - 50 = 73 + 2 * i by omega]; exact y1)
  obtain ⟨l, g1, g2, g3⟩ := xT_a (p := 123 + 2 * i + 1) hM (by omega) (by rw [show 123 + 2 * i + 1 - 50 = 73 + 2 * i + 1 by omega]; exact y2)
  have gl : l.length = 136 := g2
  match fs, h2, h1, h3 with
  | [a, b], _, h1, h3 =>
    obtain ⟨_, hv, hg⟩ := h3 0 _ rfl
    cases hv
    obtain ⟨_, hw, hg2⟩ := h3 1 _ rfl
    cases hw
    obtain ⟨z, rfl, z1, z2⟩ := yg_i hg2
    rw [yg_rf hg] at h1
    refine ⟨z, l, h1, ⟨z1, z2⟩, g1, gl, fun j hj => ?_⟩
    obtain ⟨b1, b2⟩ := g3 j (0, 399) (by unfold yat; exact if_pos hj) (by omega)
    dsimp only at b1 b2
    unfold sok
    omega
theorem sDN_M {f : Nat → zE} (hM : yM yT2 (xh f)) : sDN f := by
  obtain ⟨fs, h1, h2, h3⟩ := xT_o (p := 113) hM (by decide) (show yT2[113 - 50]? = some (.inl (6, [.inr (.inr [53]), .inr (.inr [114]), .inr (.inr [116])])) from rfl)
  obtain ⟨gs, i1, i2, i3⟩ := xT_o (p := 114) hM (by decide) (show yT2[114 - 50]? = some (.inl (7, [.inr (.inr [115])])) from rfl)
  obtain ⟨l, j1, j2, -⟩ := xT_a (p := 115) hM (by decide) (show yT2[115 - 50]? = some (.inr (.inl (0, [(8, ytop)]))) from rfl)
  obtain ⟨m, k1, k2, k3⟩ := xT_a (p := 116) hM (by decide) (show yT2[116 - 50]? = some (.inr (.inl (0, [(8, 0, 6)]))) from rfl)
  have k2' : m.length = 8 := k2
  match fs, h2, h1, h3, gs, i2, i1, i3 with
  | [a, b, c], _, h1, h3, [d], _, i1, i3 =>
    obtain ⟨_, hv, g0⟩ := h3 0 _ rfl
    cases hv
    obtain ⟨_, hv, g1⟩ := h3 1 _ rfl
    cases hv
    obtain ⟨_, hv, g2⟩ := h3 2 _ rfl
    cases hv
    obtain ⟨_, hv, g3⟩ := i3 0 _ rfl
    cases hv
    rw [yg_rf g0, yg_rf g1, yg_rf g2] at h1
    rw [yg_rf g3] at i1
    exact ⟨h1, i1, ⟨l, j1, j2⟩, m, k1, k2', fun e he => k3 e (0, 6) (by unfold yat; exact if_pos he) (by omega)⟩
theorem s122 {f : Nat → zE} (hM : yM yT2 (xh f)) : f 122 = .inr (.inr (.inr (9, xjl))) := by
  obtain ⟨c, hc, hok⟩ := hM.2 72 (.inr (.inr (.inr (9, [[123], [125], [127], [129], [131], [133], [135], [137], [139], [141], [143], [145], [147], [149], [151], [153], [155], [157], [159], [161], [163], [165], [167], [169]])))) rfl
  have e : (xh f)[72]? = some (f 122) := xh_at (p := 122) (by decide) (by decide)
  rw [hc] at e
  rw [← Option.some.inj e]
  match c, hok with
  | .inr (.inr (.inr (a, l))), hok =>
    obtain ⟨h1, h2, h3⟩ := hok
    have h1' : 9 = a := h1
    subst h1'
    have hl : l = xjl := by
      apply List.ext_getElem?
      intro k
      have h2' : (24 : Nat) = l.length := h2
      by_cases hk : k < 24
      · have key : ∀ k : Nat, k < 24 → ([[123], [125], [127], [129], [131], [133], [135], [137], [139], [141], [143], [145], [147], [149], [151], [153], [155], [157], [159], [161], [163], [165], [167], [169]] : List (List Nat))[k]? = some [123 + 2 * k] ∧ xjl[k]? = some (some (123 + 2 * k)) := by decide
        obtain ⟨hp1, hp2⟩ := key k hk
        have hk2 : k < l.length := by omega
        obtain ⟨o, ho1, ho2⟩ := h3 k [123 + 2 * k] (l[k]'hk2) hp1 (show l[k]? = some (l[k]'hk2) from List.getElem?_eq_getElem hk2)
        rw [hp2, List.getElem?_eq_getElem hk2, ho1, List.mem_singleton.mp ho2]
      · rw [List.getElem?_eq_none (by omega), List.getElem?_eq_none (by show 24 ≤ k; omega)]
    rw [hl]
theorem xs_91 {v0 : Value} {xs : List Int32} {u : Nat × Nat} {f : Nat → zE} {t p : Nat} {w : Value} {l pl : List Int} {o : Int} (ht : 50 ≤ t ∧ t < 203) (h1 : f t = .inl (9, [.ref (t + 1), w])) (h2 : f (t + 1) = xr 0 l) (hl : l.length = 136) (hp : 50 ≤ p ∧ p < 204) (hpt : t + 1 ≠ p) (h3 : f p = xr 0 pl) (hpl : pl.length ≤ 5000) (ho : 0 ≤ o ∧ o + 8 ≤ (pl.length : Nat)) : xq v0 xs u 91 [(0, .ref t), (1, .ref p), (2, xi o)] f (fun r' f' => r' = none ∧ f' t = .inl (9, [.ref (t + 1), xi 0]) ∧ (∃ l' : List Int, f' (t + 1) = xr 0 l' ∧ l'.length = 136 ∧ ∀ d : Nat, d < 8 → l'.getD d 0 = pl.getD (o + (d : Nat)).toNat 0) ∧ ∀ q, q ≠ t → q ≠ t + 1 → f' q = f q) := by
  unfold xq
  refine x_aload_n rfl rfl ?_
  refine x_iload_n rfl rfl ?_
  refine x_aload_n rfl rfl ?_
  refine x_getfield rfl ⟨by omega, by omega⟩ h1 rfl ?_
  refine x_iconst rfl ?_
  refine x_bipush rfl (by decide) ?_
  refine x_acopy rfl hp ⟨by omega, by omega⟩ hpt h3 h2 (by decide) ho ⟨by omega, by omega⟩ hpl (by omega) (show (0 : Nat) ≤ 8 from by decide) ?_
  refine x_aload_n rfl rfl ?_
  refine x_iconst rfl ?_
  refine x_putfield rfl ⟨by omega, by omega⟩ (xu_ne (by omega) h1) (show (1 : Nat) < 2 from by decide) rfl ?_
  refine x_return rfl ⟨_, _, rfl, rfl, rfl, xu_eq, ⟨_, xu_ne (by omega) xu_eq, ?_, fun d hd => ?_⟩, fun q a b => xu_ne a (xu_ne b rfl)⟩
  · rw [show (8 : Int).toNat = 8 from rfl, show (0 : Int).toNat = 0 from rfl, scopy_len (by omega) (by omega)]
    exact hl
  · rw [show (8 : Int).toNat = 8 from rfl, show (0 : Int).toNat = 0 from rfl, scopy_at (by omega) (by omega), if_pos ⟨by omega, by omega⟩]
    congr 1
    omega
theorem xs_106 {v0 : Value} {xs : List Int32} {u : Nat × Nat} {f : Nat → zE} {t p : Nat} {w : Value} {l ly : List Int} {b o : Int} (ht : 50 ≤ t ∧ t < 203) (h1 : f t = .inl (9, [.ref (t + 1), w])) (h2 : f (t + 1) = xr 0 l) (hl : l.length = 136) (hb : 0 ≤ b ∧ b ≤ 16) (hp : 50 ≤ p ∧ p < 204) (hpt : p ≠ t + 1) (h3 : f p = xr 0 ly) (hly : ly.length ≤ 5000) (ho : 0 ≤ o ∧ o + 8 ≤ (ly.length : Nat)) : xq v0 xs u 106 [(0, .ref t), (1, xi b), (2, .ref p), (3, xi o)] f (fun r' f' => r' = none ∧ (∃ l' : List Int, f' p = xr 0 l' ∧ l'.length = ly.length ∧ ∀ j : Nat, l'.getD j 0 = if o.toNat ≤ j ∧ j < o.toNat + 8 then l.getD ((b * 8).toNat + (j - o.toNat)) 0 else ly.getD j 0) ∧ ∀ q, q ≠ p → f' q = f q) := by
  unfold xq
  refine x_aload_n rfl rfl ?_
  refine x_getfield rfl ⟨by omega, by omega⟩ h1 rfl ?_
  refine x_iload_n rfl rfl ?_
  refine x_bipush rfl (by decide) ?_
  refine x_imul rfl ?_
  refine x_aload_n rfl rfl ?_
  refine x_iload_n rfl rfl ?_
  refine x_bipush rfl (by decide) ?_
  refine x_acopy rfl ⟨by omega, by omega⟩ hp hpt h2 h3 (by decide) ⟨by omega, by omega⟩ ho (by omega) hly (show (0 : Nat) ≤ 8 from by decide) ?_
  refine x_return rfl ⟨_, _, rfl, rfl, rfl, ⟨_, xu_eq, ?_, fun j => ?_⟩, fun q a => xu_ne a rfl⟩
  · rw [show (8 : Int).toNat = 8 from rfl, scopy_len (by omega) (by omega)]
  · rw [show (8 : Int).toNat = 8 from rfl, scopy_at (by omega) (by omega)]
