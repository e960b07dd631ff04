/-! The model's places and journal. -/
theorem sget_eq {l : List Value} {k : Nat} {v : Value} (h : k < l.length) : (l.set k v)[k]? = some v := List.getElem?_set_self h
theorem sget_ne {l : List Value} {k j : Nat} {v w : Value} (h : k ≠ j) (e : l[j]? = some w) : (l.set k v)[j]? = some w := by rw [List.getElem?_set_ne h]; exact e
theorem slen {l : List Value} {k n : Nat} {v : Value} (h : l.length = n) : (l.set k v).length = n := by rw [List.length_set]; exact h
abbrev sHE := Nat × Bool × (Nat → Int)
abbrev sS := (Nat → Int) × List sHE × Int
def sH0 : sHE := (0, false, fun _ => 0)
/-- the model's object -/
def sMB (f : Nat → zE) (fs : List Value) (ca dn cl : Int) : Prop := sMO f fs ∧ (fs[22]? = some (.ref 189) ∧ fs[23]? = some (.ref 190) ∧ fs[24]? = some (.ref 191) ∧ fs[32]? = some (.ref 195) ∧ fs[33]? = some (.ref 196) ∧ fs[34]? = some (.ref 197)) ∧ fs[9]? = some (xi ca) ∧ fs[31]? = some (xi dn) ∧ fs[30]? = some (xi cl)
theorem sMB_0 {f f' : Nat → zE} {fs : List Value} {ca dn cl : Int} {v : Value} (h : sMB f fs ca dn cl) (hf : f' 177 = .inl (10, fs.set 0 v)) : sMB f' (fs.set 0 v) ca dn cl := by
  obtain ⟨h1, ⟨a1, a2, a3, a4, a5, a6⟩, h2, h3, h4⟩ := h
  exact ⟨sMO_set h1 hf (by simp), ⟨sget_ne (by decide) a1, sget_ne (by decide) a2, sget_ne (by decide) a3, sget_ne (by decide) a4, sget_ne (by decide) a5, sget_ne (by decide) a6⟩, sget_ne (by decide) h2, sget_ne (by decide) h3, sget_ne (by decide) h4⟩
theorem sMB_30 {f f' : Nat → zE} {fs : List Value} {ca dn cl z : Int} (h : sMB f fs ca dn cl) (hf : f' 177 = .inl (10, fs.set 30 (xi z))) : sMB f' (fs.set 30 (xi z)) ca dn z := by
  obtain ⟨h1, ⟨a1, a2, a3, a4, a5, a6⟩, h2, h3, h4⟩ := h
  exact ⟨sMO_set h1 hf (by simp), ⟨sget_ne (by decide) a1, sget_ne (by decide) a2, sget_ne (by decide) a3, sget_ne (by decide) a4, sget_ne (by decide) a5, sget_ne (by decide) a6⟩, sget_ne (by decide) h2, sget_ne (by decide) h3, sget_eq (by rw [h1.2.1]; decide)⟩
theorem sMB_31 {f f' : Nat → zE} {fs : List Value} {ca dn cl z : Int} (h : sMB f fs ca dn cl) (hf : f' 177 = .inl (10, fs.set 31 (xi z))) : sMB f' (fs.set 31 (xi z)) ca z cl := by
  obtain ⟨h1, ⟨a1, a2, a3, a4, a5, a6⟩, h2, h3, h4⟩ := h
  exact ⟨sMO_set h1 hf (by simp), ⟨sget_ne (by decide) a1, sget_ne (by decide) a2, sget_ne (by decide) a3, sget_ne (by decide) a4, sget_ne (by decide) a5, sget_ne (by decide) a6⟩, sget_ne (by decide) h2, sget_eq (by rw [h1.2.1]; decide), sget_ne (by decide) h4⟩
theorem sMB_f {f f' : Nat → zE} {fs : List Value} {ca dn cl : Int} (h : sMB f fs ca dn cl) (hf : f' 177 = f 177) : sMB f' fs ca dn cl := ⟨⟨hf.trans h.1.1, h.1.2⟩, h.2⟩
theorem sMB_k {f f' : Nat → zE} {fs fs' : List Value} {ca dn cl : Int} (h : sMB f fs ca dn cl) (hm : sMO f' fs') (hk : ∀ j, j ≠ 28 → j ≠ 29 → fs'[j]? = fs[j]?) : sMB f' fs' ca dn cl := by
  obtain ⟨h1, ⟨a1, a2, a3, a4, a5, a6⟩, h2, h3, h4⟩ := h
  have P : ∀ j w, j ≠ 28 → j ≠ 29 → fs[j]? = some w → fs'[j]? = some w := fun j w b1 b2 e => (hk j b1 b2).trans e
  exact ⟨hm, ⟨P _ _ (by decide) (by decide) a1, P _ _ (by decide) (by decide) a2, P _ _ (by decide) (by decide) a3, P _ _ (by decide) (by decide) a4, P _ _ (by decide) (by decide) a5, P _ _ (by decide) (by decide) a6⟩, P _ _ (by decide) (by decide) h2, P _ _ (by decide) (by decide) h3, P _ _ (by decide) (by decide) h4⟩
/-- its places -/
def sMX (f : Nat → zE) (cur : Nat → Int) : Prop := ∃ mx my mf : List Int, f 189 = xr 0 mx ∧ f 190 = xr 0 my ∧ f 191 = xr 0 mf ∧ (mx.length = 8 ∧ my.length = 8 ∧ mf.length = 8) ∧ ∀ d, d < 8 → (mx.getD d 0 = sX (cur d) ∧ my.getD d 0 = sY (cur d) ∧ mf.getD d 0 = sF (cur d)) ∧ sok (cur d)
/-- its journal -/
def sMJ (f : Nat → zE) (H : List sHE) : Prop := H.length ≤ 24 ∧ ∃ wl bl be : List Int, f 195 = xr 0 wl ∧ f 196 = xr 2 bl ∧ f 197 = xr 0 be ∧ (wl.length = 24 ∧ bl.length = 24 ∧ be.length = 192) ∧ ∀ i, i < H.length → wl.getD i 0 = ((H.getD i sH0).1 : Nat) ∧ bl.getD i 0 = (if (H.getD i sH0).2.1 = true then 1 else 0) ∧ ∀ d, d < 8 → be.getD (8 * i + d) 0 = (H.getD i sH0).2.2 d ∧ sok ((H.getD i sH0).2.2 d)
theorem sMX_f {f f' : Nat → zE} {cur : Nat → Int} (h : sMX f cur) (e : ∀ q, 189 ≤ q → q ≤ 191 → f' q = f q) : sMX f' cur := by
  obtain ⟨mx, my, mf, h1, h2, h3, h4⟩ := h
  exact ⟨mx, my, mf, (e _ (by decide) (by decide)).trans h1, (e _ (by decide) (by decide)).trans h2, (e _ (by decide) (by decide)).trans h3, h4⟩
theorem sMJ_f {f f' : Nat → zE} {H : List sHE} (h : sMJ f H) (e : ∀ q, 195 ≤ q → q ≤ 197 → f' q = f q) : sMJ f' H := by
  obtain ⟨h0, wl, bl, be, h1, h2, h3, h4⟩ := h
  exact ⟨h0, wl, bl, be, (e _ (by decide) (by decide)).trans h1, (e _ (by decide) (by decide)).trans h2, (e _ (by decide) (by decide)).trans h3, h4⟩
theorem sKM_f {f f' : Nat → zE} {K : List (Int × Int)} {c : Nat} {G : List xBt} (h : sKM f K c G) (e : ∀ q, 180 ≤ q → q ≤ 186 → f' q = f q) : sKM f' K c G := by
  obtain ⟨hc, cn, tk, pf, pq, se, at', h1, h2, h3, h4, h5, h6, h7⟩ := h
  exact ⟨hc, cn, tk, pf, pq, se, at', (e _ (by decide) (by decide)).trans h1, (e _ (by decide) (by decide)).trans h2, (e _ (by decide) (by decide)).trans h3, (e _ (by decide) (by decide)).trans h4, (e _ (by decide) (by decide)).trans h5, (e _ (by decide) (by decide)).trans h6, h7⟩
/-- one place of the rows is set -/
theorem sMP_set {ax ay af : List Int} {k n : Nat} {cur : Nat → Int} {x y z : Int} (hl : ax.length = 144 ∧ ay.length = 144 ∧ af.length = 144) (hk : k < 144) (h : ∀ e, e < k → sMP ax ay af ((e : Nat) : Int) (cur e)) (hx : x = sX (cur k)) (hy : y = sY (cur k)) (hz : z = sF (cur k)) : ∀ e, e < k + 1 → sMP (ax.set k x) (ay.set k y) (af.set k z) ((e : Nat) : Int) (cur e) := by
  intro e he
  unfold sMP
  rw [Int.toNat_natCast, x_gset, x_gset, x_gset]
  by_cases h2 : k = e
  · subst h2
    rw [if_pos ⟨rfl, by omega⟩, if_pos ⟨rfl, by omega⟩, if_pos ⟨rfl, by omega⟩]
    exact ⟨hx, hy, hz⟩
  · rw [if_neg (fun h => h2 h.1), if_neg (fun h => h2 h.1), if_neg (fun h => h2 h.1)]
    have := h e (by omega)
    unfold sMP at this
    rw [Int.toNat_natCast] at this
    exact this
theorem sML_of {ax ay af : List Int} {cur : Nat → Int} (h : ∀ e, e < 8 → sMP ax ay af ((e : Nat) : Int) (cur e)) (hk : ∀ d, d < 8 → sok (cur d)) : sML ax ay af 0 cur := ⟨by decide, by decide, fun d hd => ⟨by rw [Int.zero_add]; exact h d hd, hk d hd⟩⟩
theorem xs_110l {v0 : Value} {xs : List Int32} {u : Nat × Nat} {f0 : Nat → zE} {fs : List Value} {cur : Nat → Int} {ca dn cl : Int} (hB : sMB f0 fs ca dn cl) (hX : sMX f0 cur) : ∀ (w d : Nat) (lv : zL) (f : Nat → zE), w + d = 8 → zlv lv 0 = some (.ref 177) → zlv lv 1 = some (xi (d : Nat)) → (∃ ax ay af : List Int, sMC f ax ay af ∧ ∀ e, e < d → sMP ax ay af ((e : Nat) : Int) (cur e)) → (∀ q, q ≠ 192 → q ≠ 193 → q ≠ 194 → f q = f0 q) → xz v0 xs u (fun o X => ∃ r' f', o = .inl r' ∧ X = (xh f', u) ∧ (fun r' f' => r' = none ∧ (∃ ax ay af : List Int, sMC f' ax ay af ∧ ∀ e, e < 8 → sMP ax ay af ((e : Nat) : Int) (cur e)) ∧ (∀ q, q ≠ 192 → q ≠ 193 → q ≠ 194 → f' q = f0 q)) r' f') 110 2 lv [] f := by
  obtain ⟨⟨h177, hfl, ⟨f11, f13, f14, f15, f17, f18⟩, h25, h26, h27⟩, ⟨a1, a2, a3, a4, a5, a6⟩, h9, h31, h30⟩ := hB
  obtain ⟨mx, my, mf, h189, h190, h191, ⟨x1, x2, x3⟩, hxyf⟩ := hX
  intro w
  induction w with
  | zero =>
    intro d lv f hw l0 l1 hrow hfr
    have e8 : d = 8 := by omega
    subst e8
    refine x_iload_n rfl l1 ?_
    refine x_bipush rfl (by decide) ?_
    refine x_cge (t := 50) rfl rfl (by decide) (by decide) (fun _ => ?_) (fun h => absurd h (by decide))
    exact x_return rfl ⟨_, _, rfl, rfl, rfl, hrow, hfr⟩
  | succ w ih =>
    intro d lv f hw l0 l1 hrow hfr
    obtain ⟨ax, ay, af, ⟨w1, w2, w3, w4, w5, w6⟩, hrow⟩ := hrow
    have hd : d < 8 := by omega
    obtain ⟨⟨g1, g2, g3⟩, -⟩ := hxyf d hd
    refine x_iload_n rfl l1 ?_
    refine x_bipush rfl (by decide) ?_
    refine x_cge (t := 50) rfl rfl ⟨by omega, by omega⟩ (by decide) (fun h => absurd h (by omega)) (fun _ => ?_)
    refine x_aload_n rfl l0 ?_
    refine x_getfield rfl (by decide) ((hfr 177 (by decide) (by decide) (by decide)).trans h177) h25 ?_
    refine x_iload_n rfl l1 ?_
    refine x_aload_n rfl l0 ?_
    refine x_getfield rfl (by decide) ((hfr 177 (by decide) (by decide) (by decide)).trans h177) a1 ?_
    refine x_iload_n rfl l1 ?_
    refine x_iaload rfl (by decide) ((hfr 189 (by decide) (by decide) (by decide)).trans h189) ⟨by omega, by omega⟩ (by omega) ?_
    rw [Int.toNat_natCast, g1]
    refine x_iastore rfl (by decide) w1 ⟨by omega, by omega⟩ (by omega) ?_
    refine x_aload_n rfl l0 ?_
    refine x_getfield rfl (by decide) (xu_ne (by decide) ((hfr 177 (by decide) (by decide) (by decide)).trans h177)) h26 ?_
    refine x_iload_n rfl l1 ?_
    refine x_aload_n rfl l0 ?_
    refine x_getfield rfl (by decide) (xu_ne (by decide) ((hfr 177 (by decide) (by decide) (by decide)).trans h177)) a2 ?_
    refine x_iload_n rfl l1 ?_
    refine x_iaload rfl (by decide) (xu_ne (by decide) ((hfr 190 (by decide) (by decide) (by decide)).trans h190)) ⟨by omega, by omega⟩ (by omega) ?_
    rw [Int.toNat_natCast, g2]
    refine x_iastore rfl (by decide) (xu_ne (by decide) w2) ⟨by omega, by omega⟩ (by omega) ?_
    refine x_aload_n rfl l0 ?_
    refine x_getfield rfl (by decide) (xu_ne (by decide) (xu_ne (by decide) ((hfr 177 (by decide) (by decide) (by decide)).trans h177))) h27 ?_
    refine x_iload_n rfl l1 ?_
    refine x_aload_n rfl l0 ?_
    refine x_getfield rfl (by decide) (xu_ne (by decide) (xu_ne (by decide) ((hfr 177 (by decide) (by decide) (by decide)).trans h177))) a3 ?_
    refine x_iload_n rfl l1 ?_
    refine x_iaload rfl (by decide) (xu_ne (by decide) (xu_ne (by decide) ((hfr 191 (by decide) (by decide) (by decide)).trans h191))) ⟨by omega, by omega⟩ (by omega) ?_
    rw [Int.toNat_natCast, g3]
    refine x_iastore rfl (by decide) (xu_ne (by decide) (xu_ne (by decide) w3)) ⟨by omega, by omega⟩ (by omega) ?_
    refine x_iinc rfl l1 (show (1 : Nat) < 2 from by decide) ?_
    refine x_goto (t := 2) rfl rfl ?_
    refine ih (d + 1) _ _ (by omega) (xst_ne (by decide) l0 (Or.inl rfl)) xst_eq ⟨_, _, _, ⟨(xu_ne (by decide) (xu_ne (by decide) xu_eq)), (xu_ne (by decide) xu_eq), xu_eq, by rw [List.length_set]; exact w4, by rw [List.length_set]; exact w5, by rw [List.length_set]; exact w6⟩, ?_⟩ (fun q b1 b2 b3 => xu_ne b3 (xu_ne b2 (xu_ne b1 (hfr q b1 b2 b3))))
    rw [Int.toNat_natCast]
    exact sMP_set (n := 8) ⟨w4, w5, w6⟩ (by omega) hrow rfl rfl rfl
theorem xs_110 {v0 : Value} {xs : List Int32} {u : Nat × Nat} {f0 : Nat → zE} {fs : List Value} {cur : Nat → Int} {ca dn cl : Int} {ax ay af : List Int} (hB : sMB f0 fs ca dn cl) (hX : sMX f0 cur) (hmc : sMC f0 ax ay af) : xq v0 xs u 110 [(0, .ref 177)] f0 (fun r' f' => r' = none ∧ (∃ ax ay af : List Int, sMC f' ax ay af ∧ sML ax ay af 0 cur) ∧ (∀ q, q ≠ 192 → q ≠ 193 → q ≠ 194 → f' q = f0 q)) := by
  unfold xq
  refine x_iconst rfl ?_
  refine x_istore_n rfl (show (1 : Nat) < 2 from by decide) ?_
  refine zwp_mono (xs_110l hB hX 8 0 _ _ rfl (xst_ne (by decide) rfl (Or.inl rfl)) xst_eq ⟨ax, ay, af, hmc, fun e he => absurd he (Nat.not_lt_zero _)⟩ (fun _ _ _ _ => rfl)) ?_
  rintro o X' ⟨r9, f9, e1, e2, e3, ⟨bx, bY, bf, e4, e5⟩, e6⟩
  obtain ⟨mx, my, mf, h189, h190, h191, hll, hxyf⟩ := hX
  exact ⟨r9, f9, e1, e2, e3, ⟨bx, bY, bf, e4, sML_of e5 fun d hd => (hxyf d hd).2⟩, e6⟩
theorem xs_133 {v0 : Value} {xs : List Int32} {u : Nat × Nat} {f : Nat → zE} {fs : List Value} {ca dn cl p : Int} {d : Nat} {ax ay af : List Int} (hB : sMB f fs ca dn cl) (hmc : sMC f ax ay af) (hd : d < 8) (hp : sok p) : xq v0 xs u 133 [(0, .ref 177), (1, xi (d : Nat)), (2, xi p)] f (fun r' f' => r' = none ∧ sMC f' (ax.set d (sX p)) (ay.set d (sY p)) (af.set d (sF p)) ∧ ∀ q, q ≠ 192 → q ≠ 193 → q ≠ 194 → f' q = f q) := by
  unfold xq
  obtain ⟨⟨h177, hfl, ⟨f11, f13, f14, f15, f17, f18⟩, h25, h26, h27⟩, ⟨a1, a2, a3, a4, a5, a6⟩, h9, h31, h30⟩ := hB
  obtain ⟨w1, w2, w3, w4, w5, w6⟩ := hmc
  unfold sok at hp
  refine x_aload_n rfl rfl ?_
  refine x_getfield rfl (by decide) h177 h27 ?_
  refine x_iload_n rfl rfl ?_
  refine x_iload_n rfl rfl ?_
  refine x_iconst rfl ?_
  refine x_irem rfl ⟨by omega, by omega⟩ (by decide) ?_
  refine x_iastore rfl (by decide) w3 ⟨by omega, by omega⟩ (by omega) ?_
  refine x_aload_n rfl rfl ?_
  refine x_getfield rfl (by decide) (xu_ne (by decide) h177) h25 ?_
  refine x_iload_n rfl rfl ?_
  refine x_iload_n rfl rfl ?_
  refine x_iconst rfl ?_
  refine x_idiv rfl ⟨by omega, by omega⟩ (by decide) ?_
  refine x_bipush rfl (by decide) ?_
  refine x_irem rfl ⟨by omega, by omega⟩ (by decide) ?_
  refine x_iastore rfl (by decide) (xu_ne (by decide) w1) ⟨by omega, by omega⟩ (by omega) ?_
  refine x_aload_n rfl rfl ?_
  refine x_getfield rfl (by decide) (xu_ne (by decide) (xu_ne (by decide) h177)) h26 ?_
  refine x_iload_n rfl rfl ?_
  refine x_iload_n rfl rfl ?_
  refine x_bipush rfl (by decide) ?_
  refine x_idiv rfl ⟨by omega, by omega⟩ (by decide) ?_
  refine x_iastore rfl (by decide) (xu_ne (by decide) (xu_ne (by decide) w2)) ⟨by omega, by omega⟩ (by omega) ?_
  refine x_return rfl ⟨_, _, rfl, rfl, rfl, ⟨?_, ?_, ?_, by rw [List.length_set]; exact w4, by rw [List.length_set]; exact w5, by rw [List.length_set]; exact w6⟩, fun q b1 b2 b3 => xu_ne b2 (xu_ne b1 (xu_ne b3 rfl))⟩
  · exact (xu_ne (by decide) xu_eq)
  · exact xu_eq
  · exact (xu_ne (by decide) (xu_ne (by decide) xu_eq))
theorem xs_123l {v0 : Value} {xs : List Int32} {u : Nat × Nat} {f0 : Nat → zE} {fs : List Value} {cur : Nat → Int} {ca dn cl b : Int} {ax ay af : List Int} (hB : sMB f0 fs ca dn cl) (hmc : sMC f0 ax ay af) (hb : 0 ≤ b ∧ b ≤ 16) (hr : sML ax ay af (8 * b) cur) : ∀ (w d : Nat) (lv : zL) (f : Nat → zE), w + d = 8 → zlv lv 0 = some (.ref 177) → zlv lv 1 = some (xi b) → zlv lv 2 = some (xi (d : Nat)) → (∃ mx my mf : List Int, f 189 = xr 0 mx ∧ f 190 = xr 0 my ∧ f 191 = xr 0 mf ∧ (mx.length = 8 ∧ my.length = 8 ∧ mf.length = 8) ∧ ∀ e, e < d → mx.getD e 0 = sX (cur e) ∧ my.getD e 0 = sY (cur e) ∧ mf.getD e 0 = sF (cur e)) → (∀ q, q ≠ 189 → q ≠ 190 → q ≠ 191 → f q = f0 q) → xz v0 xs u (fun o X => ∃ r' f', o = .inl r' ∧ X = (xh f', u) ∧ (fun r' f' => r' = none ∧ sMX f' cur ∧ ∀ q, q ≠ 189 → q ≠ 190 → q ≠ 191 → f' q = f0 q) r' f') 123 2 lv [] f := by
  obtain ⟨⟨h177, hfl, ⟨f11, f13, f14, f15, f17, f18⟩, h25, h26, h27⟩, ⟨a1, a2, a3, a4, a5, a6⟩, h9, h31, h30⟩ := hB
  obtain ⟨w1, w2, w3, w4, w5, w6⟩ := hmc
  obtain ⟨g0, g1, hrow⟩ := hr
  intro w
  induction w with
  | zero =>
    intro d lv f hw l0 l1 l2 hX hfr
    have e8 : d = 8 := by omega
    subst e8
    refine x_iload_n rfl l2 ?_
    refine x_bipush rfl (by decide) ?_
    refine x_cge (t := 65) rfl rfl (by decide) (by decide) (fun _ => ?_) (fun h => absurd h (by decide))
    obtain ⟨mx, my, mf, x1, x2, x3, hl, hx⟩ := hX
    exact x_return rfl ⟨_, _, rfl, rfl, rfl, ⟨mx, my, mf, x1, x2, x3, hl, fun d hd => ⟨hx d hd, (hrow d hd).2⟩⟩, hfr⟩
  | succ w ih =>
    intro d lv f hw l0 l1 l2 hX hfr
    obtain ⟨mx, my, mf, x1, x2, x3, ⟨y1, y2, y3⟩, hx⟩ := hX
    have hd : d < 8 := by omega
    obtain ⟨⟨p1, p2, p3⟩, -⟩ := hrow d hd
    refine x_iload_n rfl l2 ?_
    refine x_bipush rfl (by decide) ?_
    refine x_cge (t := 65) rfl rfl ⟨by omega, by omega⟩ (by decide) (fun h => absurd h (by omega)) (fun _ => ?_)
    refine x_aload_n rfl l0 ?_
    refine x_getfield rfl (by decide) ((hfr 177 (by decide) (by decide) (by decide)).trans h177) a1 ?_
    refine x_iload_n rfl l2 ?_
    refine x_aload_n rfl l0 ?_
    refine x_getfield rfl (by decide) ((hfr 177 (by decide) (by decide) (by decide)).trans h177) h25 ?_
    refine x_bipush rfl (by decide) ?_
    refine x_iload_n rfl l1 ?_
    refine x_imul rfl ?_
    refine x_iload_n rfl l2 ?_
    refine x_iadd rfl ?_
    refine x_iaload rfl (by decide) ((hfr 192 (by decide) (by decide) (by decide)).trans w1) ⟨by omega, by omega⟩ (by omega) ?_
    rw [p1]
    refine x_iastore rfl (by decide) x1 ⟨by omega, by omega⟩ (by omega) ?_
    refine x_aload_n rfl l0 ?_
    refine x_getfield rfl (by decide) (xu_ne (by decide) ((hfr 177 (by decide) (by decide) (by decide)).trans h177)) a2 ?_
    refine x_iload_n rfl l2 ?_
    refine x_aload_n rfl l0 ?_
    refine x_getfield rfl (by decide) (xu_ne (by decide) ((hfr 177 (by decide) (by decide) (by decide)).trans h177)) h26 ?_
    refine x_bipush rfl (by decide) ?_
    refine x_iload_n rfl l1 ?_
    refine x_imul rfl ?_
    refine x_iload_n rfl l2 ?_
    refine x_iadd rfl ?_
    refine x_iaload rfl (by decide) (xu_ne (by decide) ((hfr 193 (by decide) (by decide) (by decide)).trans w2)) ⟨by omega, by omega⟩ (by omega) ?_
    rw [p2]
    refine x_iastore rfl (by decide) (xu_ne (by decide) x2) ⟨by omega, by omega⟩ (by omega) ?_
    refine x_aload_n rfl l0 ?_
    refine x_getfield rfl (by decide) (xu_ne (by decide) (xu_ne (by decide) ((hfr 177 (by decide) (by decide) (by decide)).trans h177))) a3 ?_
    refine x_iload_n rfl l2 ?_
    refine x_aload_n rfl l0 ?_
    refine x_getfield rfl (by decide) (xu_ne (by decide) (xu_ne (by decide) ((hfr 177 (by decide) (by decide) (by decide)).trans h177))) h27 ?_
    refine x_bipush rfl (by decide) ?_
    refine x_iload_n rfl l1 ?_
    refine x_imul rfl ?_
    refine x_iload_n rfl l2 ?_
    refine x_iadd rfl ?_
    refine x_iaload rfl (by decide) (xu_ne (by decide) (xu_ne (by decide) ((hfr 194 (by decide) (by decide) (by decide)).trans w3))) ⟨by omega, by omega⟩ (by omega) ?_
    rw [p3]
    refine x_iastore rfl (by decide) (xu_ne (by decide) (xu_ne (by decide) x3)) ⟨by omega, by omega⟩ (by omega) ?_
    refine x_iinc rfl l2 (show (2 : Nat) < 3 from by decide) ?_
    refine x_goto (t := 2) rfl rfl ?_
    refine ih (d + 1) _ _ (by omega) (xst_ne (by decide) l0 (Or.inl rfl)) (xst_ne (by decide) l1 (Or.inl rfl)) xst_eq ⟨_, _, _, (xu_ne (by decide) (xu_ne (by decide) xu_eq)), (xu_ne (by decide) xu_eq), xu_eq, ⟨by rw [List.length_set]; exact y1, by rw [List.length_set]; exact y2, by rw [List.length_set]; exact y3⟩, fun e he => ?_⟩ (fun q b1 b2 b3 => xu_ne b3 (xu_ne b2 (xu_ne b1 (hfr q b1 b2 b3))))
    rw [Int.toNat_natCast, x_gset, x_gset, x_gset]
    by_cases h2 : d = e
    · subst h2
      rw [if_pos ⟨rfl, by omega⟩, if_pos ⟨rfl, by omega⟩, if_pos ⟨rfl, by omega⟩]
      exact ⟨rfl, rfl, rfl⟩
    · rw [if_neg (fun h => h2 h.1), if_neg (fun h => h2 h.1), if_neg (fun h => h2 h.1)]
      exact hx e (by omega)
theorem xs_123 {v0 : Value} {xs : List Int32} {u : Nat × Nat} {f0 : Nat → zE} {fs : List Value} {cur cur0 : Nat → Int} {ca dn cl b : Int} {ax ay af : List Int} (hB : sMB f0 fs ca dn cl) (hX : sMX f0 cur0) (hmc : sMC f0 ax ay af) (hb : 0 ≤ b ∧ b ≤ 16) (hr : sML ax ay af (8 * b) cur) : xq v0 xs u 123 [(0, .ref 177), (1, xi b)] f0 (fun r' f' => r' = none ∧ sMX f' cur ∧ ∀ q, q ≠ 189 → q ≠ 190 → q ≠ 191 → f' q = f0 q) := by
  unfold xq
  obtain ⟨mx, my, mf, x1, x2, x3, hl, -⟩ := hX
  refine x_iconst rfl ?_
  refine x_istore_n rfl (show (2 : Nat) < 3 from by decide) ?_
  exact xs_123l hB hmc hb hr 8 0 _ _ rfl (xst_ne (by decide) rfl (Or.inl rfl)) (xst_ne (by decide) rfl (Or.inl rfl)) xst_eq ⟨mx, my, mf, x1, x2, x3, hl, fun e he => absurd he (Nat.not_lt_zero _)⟩ (fun _ _ _ _ => rfl)
