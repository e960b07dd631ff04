/-! The calls that change the text or the book keep what holds. -/
theorem yM_cells {f f' : Nat → zE} (hM : yM yT2 (xh f)) (L : List Nat) (h1 : ∀ p, ¬ p ∈ L → f' p = f p) (h2 : ∀ p ∈ L, ∃ t, yT2[p - 50]? = some t ∧ yok t (f' p)) : yM yT2 (xh f') := by
  refine yM_up yT2_len hM fun p _ _ => ?_
  by_cases hp : p ∈ L
  · exact Or.inr (h2 p hp)
  · exact Or.inl (h1 p hp)
theorem yc_c {P : Nat → Prop} {a : Nat} {l : List Nat} (h1 : P a) (h2 : ∀ p ∈ l, P p) : ∀ p ∈ a :: l, P p := fun p hp => by
  rcases List.mem_cons.mp hp with e | e
  · rw [e]; exact h1
  · exact h2 p e
theorem yc_n {P : Nat → Prop} : ∀ p ∈ ([] : List Nat), P p := fun p hp => by cases hp
theorem yok_fs {ci k : Nat} {as : List yA} {fs : List Value} {a : yA} {v : Value} (h : yok (.inl (ci, as)) (.inl (ci, fs))) (ha : as[k]? = some a) (hv : yg a v) : yok (.inl (ci, as)) (.inl (ci, fs.set k v)) := by
  obtain ⟨h1, h2, h3⟩ := h
  refine ⟨h1, ?_, fun j b w hb hw => ?_⟩
  · show as.length = (fs.set k v).length
    rw [List.length_set]
    exact h2
  · have hw' : (fs.set k v)[j]? = some w := hw
    by_cases e : k = j
    · subst e
      have hb' : as[k]? = some b := hb
      rw [ha] at hb'
      cases hb'
      have hl : k < (fs.set k v).length := (List.getElem?_eq_some_iff.mp hw').1
      rw [List.length_set] at hl
      rw [List.getElem?_set_self hl] at hw'
      cases hw'
      exact hv
    · rw [List.getElem?_set_ne e] at hw'
      exact h3 j b w hb hw'
theorem xM_at {f : Nat → zE} (hM : yM yT2 (xh f)) {p : Nat} {t : yC} (hp : 50 ≤ p ∧ p < 204) (ht : yT2[p - 50]? = some t) : yok t (f p) := by
  obtain ⟨c, hc, hok⟩ := hM.2 _ t ht
  have e := xh_at (f := f) hp.1 hp.2
  rw [hc] at e
  rw [← Option.some.inj e]
  exact hok
theorem xwr_rg {g : Int64} {n : Int} {cs : List Int} (h : ∀ j : Nat, 0 ≤ cs.getD j 0 ∧ cs.getD j 0 ≤ 126) : ∀ k, xok g k → ∀ j : Nat, 0 ≤ (xwr g n cs k).getD j 0 ∧ (xwr g n cs k).getD j 0 ≤ 126 := by
  intro k
  induction k with
  | zero => intro _ j; exact h j
  | succ k ih =>
    intro hk j
    have ih' := ih (fun i hi => hk i (by omega))
    have hb := hk k (by omega)
    simp only [xwr]
    split
    · exact ih' j
    · rw [x_gset]
      split
      · omega
      · exact ih' j
/-- a text that has changed, and the model's code -/
theorem xINV_tx {f f2 : Nat → zE} {n n' : Nat} {cs cs' : List Int} {nms : List (List Int)} {bc dp tk0 : Nat → Int} {KK : List (Int × Int)} {GG : Nat → List xBt} {RR : Nat → Int × Int} (h : xINV f n cs nms bc dp tk0 KK GG RR) (hn : n' ≤ 100) (hl : cs'.length = 100) (hcs : ∀ j : Nat, 0 ≤ cs'.getD j 0 ∧ cs'.getD j 0 ≤ 126) (h51 : f2 51 = .inl (1, [.ref 52, xi (n' : Nat)])) (h52 : f2 52 = xr 1 cs') (h178 : f2 178 = xr 1 cs') (h177 : ∃ (cd' : Int) (fs : List Value), f 177 = .inl (10, fs) ∧ f2 177 = .inl (10, (fs.set 0 (xi cd')).set 1 (xi (n' : Nat)))) (hfr : ∀ p, p ≠ 51 → p ≠ 52 → p ≠ 177 → p ≠ 178 → f2 p = f p) : xINV f2 n' cs' nms bc dp tk0 KK GG RR := by
  obtain ⟨hM, ⟨t1, t2, t3, t4, t5, t6⟩, hN, ⟨c1, c2, c3, kp, al, ⟨Ec, Bc, dr, op, ex, bs, sl, pt, tm, oa, ki, st, en, wo, di, sg, nmd, m, d, h109, hbs, hsl, h53, h110, h111, q1, q2, q3, q4, h112, hd, se, at', h55, h56, p1⟩, hkp⟩, ⟨cd, fa, ki2, be, en2, wo2, nu, pa0, op2, q, nl, m0, d0, tmM, oaM, Ee, Bb, k177, hpa, h179, hnl, hnm, ⟨cn, dn, tk, pf, pq, k0, k1, k2, k3, k4, hmd⟩, h187, h188, l1, l2, se2, at2, h185, h186, hms⟩, hK⟩ := h
  have hc := hN.1
  obtain ⟨cd', fs, f177, g177⟩ := h177
  rw [k177] at f177
  cases f177
  have h177' : f2 177 = xmo cd' (n' : Nat) fa ki2 be en2 wo2 nu (nms.length : Nat) pa0 op2 q := g177
  have P : ∀ p, p ≠ 51 ∧ p ≠ 52 ∧ p ≠ 177 ∧ p ≠ 178 → f2 p = f p := fun p hp => hfr p hp.1 hp.2.1 hp.2.2.1 hp.2.2.2
  have hM2 : yM yT2 (xh f2) := by
    refine yM_cells hM [51, 52, 177, 178] (fun p hp => ?_) (yc_c ⟨_, rfl, ?_⟩ (yc_c ⟨_, rfl, ?_⟩ (yc_c ⟨_, yT2_177, ?_⟩ (yc_c ⟨_, rfl, ?_⟩ yc_n))))
    · simp only [List.mem_cons, List.not_mem_nil, or_false, not_or] at hp
      exact P p hp
    · rw [h51]; exact yok_o ⟨ygr, ygi (by omega) (by omega) (by omega) (by omega), trivial⟩
    · rw [h52]; exact yok_r1 hl (by decide) (fun j _ => ⟨(hcs j).1, by have := hcs j; omega⟩)
    · have h0 := xM_at hM (p := 177) (by decide) yT2_177
      rw [k177] at h0
      rw [h177']
      exact yok_fs (k := 1) (yok_fs (k := 0) (v := xi cd') h0 rfl ygt) rfl (ygi (by omega) (by omega) (by omega) (by omega))
    · rw [h178]; exact yok_r1 hl (by decide) (fun j _ => ⟨(hcs j).1, by have := hcs j; omega⟩)
  have FD : ∀ i, i < 13 → ∀ (B : List xBt) (nm : Int64) (m d : Int) (al : Value), xDR B i f nm m d al → xDR B i f2 nm m d al := by
    rintro i hi B nm m d al ⟨a1, a2, fp, ep, ta, a3, a4, a5, a6, a7⟩
    exact ⟨a1, a2, fp, ep, ta, (P _ (by omega)).trans a3, (P _ (by omega)).trans a4, (P _ (by omega)).trans a5, (P _ (by omega)).trans a6, a7⟩
  refine ⟨hM2, ⟨hn, hl, hcs, h51, h52, h178⟩, hN, ⟨c1, ?_, ?_, kp, al, ⟨Ec, Bc, dr, op, ex, bs, sl, pt, tm, oa, ki, st, en, wo, di, sg, nmd, m, d, (P _ (by decide)).trans h109, hbs, hsl, (P _ (by decide)).trans h53, (P _ (by decide)).trans h110, (P _ (by decide)).trans h111, q1, q2, q3, q4, (P _ (by decide)).trans h112, FD _ (by omega) _ _ _ _ _ hd, se, at', (P _ (by decide)).trans h55, (P _ (by decide)).trans h56, p1⟩, hkp⟩, ⟨cd', fa, ki2, be, en2, wo2, nu, pa0, op2, q, nl, m0, d0, tmM, oaM, Ee, Bb, h177', hpa, (P _ (by decide)).trans h179, hnl, hnm, ⟨cn, dn, tk, pf, pq, (P _ (by decide)).trans k0, (P _ (by decide)).trans k1, (P _ (by decide)).trans k2, (P _ (by decide)).trans k3, (P _ (by decide)).trans k4, hmd⟩, (P _ (by decide)).trans h187, (P _ (by decide)).trans h188, l1, l2, se2, at2, (P _ (by decide)).trans h185, (P _ (by decide)).trans h186, hms⟩, hK⟩
  · intro i hi
    obtain ⟨al2, a1, a2, fp, ep, ta, a3, a4, a5, a6, a7⟩ := c2 i hi
    exact ⟨al2, a1, a2, fp, ep, ta, (P _ (by omega)).trans a3, (P _ (by omega)).trans a4, (P _ (by omega)).trans a5, (P _ (by omega)).trans a6, a7⟩
  · intro i hi1 hi2
    obtain ⟨B2, nmd2, m2, d2, al2, hk⟩ := c3 i hi1 hi2
    exact ⟨B2, nmd2, m2, d2, al2, FD _ (by omega) _ _ _ _ _ hk⟩
/-! A new call's name. -/
theorem xfi_ge {w : List Int} : ∀ {l : List (List Int)} {i : Int}, 0 ≤ i → w ∈ l → 0 ≤ xfi (some w) l i := by
  intro l
  induction l with
  | nil => intro i _ h; cases h
  | cons a r ih =>
    intro i hi h
    simp only [xfi]
    split
    · exact hi
    · rename_i hne
      rcases List.mem_cons.mp h with e | e
      · exact absurd (by rw [e]) hne
      · exact ih (by omega) e
theorem xgo_name {cs : List Int} {n : Nat} {nms : List (List Int)} {bc dp : Nat → Int} {tm oa : List Int} {k : Nat} {r : Int × Int} (h : xgo cs n nms bc dp (k + 1) 0 (xq0 tm oa) = .inr r) : ∃ w, xwd cs (xtf cs n 0).2.1 (xtf cs n 0).2.2 = some w ∧ xwf w ∧ w ∉ nms ∧ w ∉ selW := by
  obtain ⟨ki, s, e, hT⟩ := xTK_ex cs n 0 (by omega)
  have ht := xtf_eq hT
  rw [xgo, ht] at h
  rw [ht]
  dsimp only at h ⊢
  by_cases k0 : ki = 0
  · rw [if_pos k0] at h
    simp [xfin, xfo] at h
  · rw [if_neg k0] at h
    split at h
    · cases h
    · rename_i q' hq
      simp only [xtq, xstep] at hq
      split at hq
      · rename_i hc
        obtain ⟨k1, k2, k3, k4, k5⟩ := hc
        obtain ⟨hwo, he, hs⟩ := xTK_w hT k1
        cases hw : xwd cs s e with
        | none => rw [hw] at k2; cases k2
        | some w =>
          rw [hw] at k3 k4
          refine ⟨w, rfl, ⟨?_, (hwo w hw).1, (hwo w hw).2⟩, ?_, ?_⟩
          · intro e0
            rw [e0] at hw
            exact xwd_ne ((xTK_rg hT (by omega)).2.2.2.2.2.1 k0) hw
          · intro hm
            have := xfi_ge (i := 0) (by omega) hm
            omega
          · intro hm
            have := xfi_ge (i := 0) (by omega) hm
            omega
      · cases hq
/-! The class's side of define, the types. -/
theorem yT2_fig2 : ∀ f : Nat, f < 13 → yT2[8 + 4 * f]? = some (.inr (.inl (0, [(16, 0, 208)]))) ∧ yT2[9 + 4 * f]? = some (.inr (.inl (0, [(16, 0, 208)]))) := fun f hf => match f, hf with
  | 0, _ => ⟨rfl, rfl⟩
  | 1, _ => ⟨rfl, rfl⟩
  | 2, _ => ⟨rfl, rfl⟩
  | 3, _ => ⟨rfl, rfl⟩
  | 4, _ => ⟨rfl, rfl⟩
  | 5, _ => ⟨rfl, rfl⟩
  | 6, _ => ⟨rfl, rfl⟩
  | 7, _ => ⟨rfl, rfl⟩
  | 8, _ => ⟨rfl, rfl⟩
  | 9, _ => ⟨rfl, rfl⟩
  | 10, _ => ⟨rfl, rfl⟩
  | 11, _ => ⟨rfl, rfl⟩
  | 12, _ => ⟨rfl, rfl⟩
theorem xfig_m : ∀ i : Nat, i < 13 → (57 + 4 * i) ∈ [57, 61, 65, 69, 73, 77, 81, 85, 89, 93, 97, 101, 105] := by decide
theorem xcl_M {Bx : List xBt} {Kx Ex : List (Int × Int)} {ptx : Int} {f f1 : Nat → zE} {c : Nat} {dd v lc al : Value} {n' c' kp pt op ex bs sl ki st en di sg m d : Int} {wo nm : Int64} {tm oa : List Int} (hc : c ≤ 12) (hM : yM yT2 (xh f)) (hdd : yg (.inl (0, 24)) dd) (hv : yg (.inl ytop) v) (hlc : yg (.inl ytop) lc) (hal : yg (.inl (0, 1)) al) (h50 : f1 50 = xfc dd v lc) (h51 : f1 51 = .inl (1, [.ref 52, xi n'])) (hn' : 0 ≤ n' ∧ n' ≤ 100) (h53 : f1 53 = xbo c' kp pt) (hb : (0 ≤ c' ∧ c' ≤ 12) ∧ (0 ≤ kp ∧ kp ≤ 208) ∧ 0 ≤ pt ∧ pt ≤ 208) (h109 : f1 109 = xrd c op ex bs sl) (h110 : f1 110 = xr 0 tm) (h111 : f1 111 = xr 0 oa) (l1 : tm.length = 3) (l2 : oa.length = 3) (b1 : ∀ j : Nat, 0 ≤ tm.getD j 0 ∧ tm.getD j 0 ≤ 4) (b2 : ∀ j : Nat, 0 ≤ oa.getD j 0 ∧ oa.getD j 0 ≤ 17) (h112 : f1 112 = xtk ki st en wo di sg) (hDR : xDR Bx c f1 nm m d al) (hPT : xPT Kx Ex ptx f1) (hfr : ∀ p, p ≠ 50 → p ≠ 51 → p ≠ 53 → p ≠ 55 → p ≠ 56 → p ≠ 57 + 4 * c → p ≠ 58 + 4 * c → p ≠ 59 + 4 * c → p ≠ 60 + 4 * c → p ≠ 109 → p ≠ 110 → p ≠ 111 → p ≠ 112 → f1 p = f p) : yM yT2 (xh f1) := by
  obtain ⟨a1, a2, fp, ep, ta, a3, a4, a5, a6, ⟨g1, g2, g3, r1, r2, r3, r4⟩, -⟩ := hDR
  obtain ⟨se, at', e1, e2, e3, e4, e5, e6, -⟩ := hPT
  obtain ⟨y1, y2⟩ := yT2_fig c (by omega)
  obtain ⟨y3, y4⟩ := yT2_fig2 c (by omega)
  refine yM_cells hM [50, 51, 53, 55, 56, 57 + 4 * c, 58 + 4 * c, 59 + 4 * c, 60 + 4 * c, 109, 110, 111, 112] (fun p hp => ?_) (yc_c ⟨_, rfl, ?_⟩ (yc_c ⟨_, rfl, ?_⟩ (yc_c ⟨_, rfl, ?_⟩ (yc_c ⟨_, rfl, ?_⟩ (yc_c ⟨_, rfl, ?_⟩ (yc_c ⟨_, by rw [show 57 + 4 * c - 50 = 7 + 4 * c by omega]; exact y1, ?_⟩ (yc_c ⟨_, by rw [show 58 + 4 * c - 50 = 8 + 4 * c by omega]; exact y3, ?_⟩ (yc_c ⟨_, by rw [show 59 + 4 * c - 50 = 9 + 4 * c by omega]; exact y4, ?_⟩ (yc_c ⟨_, by rw [show 60 + 4 * c - 50 = 10 + 4 * c by omega]; exact y2, ?_⟩ (yc_c ⟨_, rfl, ?_⟩ (yc_c ⟨_, rfl, ?_⟩ (yc_c ⟨_, rfl, ?_⟩ (yc_c ⟨_, rfl, ?_⟩ yc_n)))))))))))))
  · simp only [List.mem_cons, List.not_mem_nil, or_false, not_or] at hp
    obtain ⟨i1, i2, i3, i4, i5, i6, i7, i8, i9, i10, i11, i12, i13⟩ := hp
    exact hfr p i1 i2 i3 i4 i5 i6 i7 i8 i9 i10 i11 i12 i13
  · rw [h50]; exact yok_o ⟨ygr, ygr, ygr, ygr, ygr, ygr, ygr, ygr, ygr, ygr, hdd, hv, hlc, trivial⟩
  · rw [h51]; exact yok_o ⟨ygr, ygi hn'.1 hn'.2 (by omega) (by omega), trivial⟩
  · rw [h53]; exact yok_o ⟨ygr, ygr, ygr, ygi hb.1.1 hb.1.2 (by omega) (by omega), ygi hb.2.1.1 hb.2.1.2 (by omega) (by omega), ygi hb.2.2.1 hb.2.2.2 (by omega) (by omega), trivial⟩
  · rw [e1]; exact yok_r1 e3 (by decide) (fun j _ => e5 j)
  · rw [e2]; exact yok_r1 e4 (by decide) (fun j _ => e6 j)
  · rw [a3]; exact yok_o ⟨ygr, ygr, ygr, ygl, ygi a1 a2 (by omega) (by omega), ygt, hal, trivial⟩
  · rw [a4]; exact yok_r1 g1 (by decide) (fun j _ => r1 j)
  · rw [a5]; exact yok_r1 g2 (by decide) (fun j _ => r2 j)
  · rw [a6]; exact yok_r1 g3 (by decide) (fun j _ => ⟨(r3 j).1, by have := r3 j; omega⟩)
  · rw [h109]; exact yok_o ⟨ygr, ygr, ygr, ygr, ygr, ⟨_, rfl, xfig_m c (by omega)⟩, ygt, ygt, ygt, ygt, trivial⟩
  · rw [h110]; exact yok_r1 l1 (by decide) (fun j _ => b1 j)
  · rw [h111]; exact yok_r1 l2 (by decide) (fun j _ => b2 j)
  · rw [h112]; exact yok_o ⟨ygr, ygt, ygt, ygt, ygl, ygt, ygt, trivial⟩
/-! The model's side, the types. -/
theorem xmd_M {Rx : Nat → Int × Int} {Bx : List xBt} {Kx Ex : List (Int × Int)} {f f' : Nat → zE} {cd n fa ki be en nu ca pa op cd' n' fa' ki' be' en' nu' ca' pa' op' m d : Int} {wo wo' : Int64} {q : Nat → Value} {nl : List Int64} {cn0 dn0 tk0 : Nat → Int} {tmM oaM : List Int} (hM : yM yT2 (xh f)) (h177 : f 177 = xmo cd n fa ki be en wo nu ca pa op q) (k177 : f' 177 = xmo cd' n' fa' ki' be' en' wo' nu' ca' pa' op' q) (hn : 0 ≤ n' ∧ n' ≤ 100) (hca : 0 ≤ ca' ∧ ca' ≤ 12) (h179 : f' 179 = .inr (.inr (.inl nl))) (hnl : nl.length = 13) (hmd : xMD Rx Bx cn0 dn0 tk0 f' m d) (hcn : ∀ i, i < 12 → 0 ≤ cn0 i ∧ cn0 i ≤ 16) (htk : ∀ j, j < 192 → 0 ≤ tk0 j ∧ tk0 j ≤ 16) (h187 : f' 187 = xr 0 tmM) (h188 : f' 188 = xr 0 oaM) (l1 : tmM.length = 3) (l2 : oaM.length = 3) (hMS : xMS Kx Ex f') (hfr : ∀ p, p ≠ 177 → p ≠ 179 → p ≠ 180 → p ≠ 181 → p ≠ 182 → p ≠ 183 → p ≠ 184 → p ≠ 185 → p ≠ 186 → p ≠ 187 → p ≠ 188 → f' p = f p) : yM yT2 (xh f') := by
  obtain ⟨cn, dn, tk, pf, pq, e1, e2, e3, e4, e5, ⟨g1, g2, g3, g4, g5⟩, r1, r2, r3, r4, r5, -⟩ := hmd
  obtain ⟨se, at', s1, s2, s3, s4, s5, s6, -⟩ := hMS
  refine yM_cells hM [177, 179, 180, 181, 182, 183, 184, 185, 186, 187, 188] (fun p hp => ?_) (yc_c ⟨_, yT2_177, ?_⟩ (yc_c ⟨_, rfl, ?_⟩ (yc_c ⟨_, rfl, ?_⟩ (yc_c ⟨_, rfl, ?_⟩ (yc_c ⟨_, rfl, ?_⟩ (yc_c ⟨_, rfl, ?_⟩ (yc_c ⟨_, rfl, ?_⟩ (yc_c ⟨_, rfl, ?_⟩ (yc_c ⟨_, rfl, ?_⟩ (yc_c ⟨_, rfl, ?_⟩ (yc_c ⟨_, rfl, ?_⟩ yc_n)))))))))))
  · simp only [List.mem_cons, List.not_mem_nil, or_false, not_or] at hp
    obtain ⟨i1, i2, i3, i4, i5, i6, i7, i8, i9, i10, i11⟩ := hp
    exact hfr p i1 i2 i3 i4 i5 i6 i7 i8 i9 i10 i11
  · have h0 := xM_at hM (p := 177) (by decide) yT2_177
    rw [h177] at h0
    rw [k177]
    exact yok_o ⟨ygt, ygi hn.1 hn.2 (by omega) (by omega), ygr, ygt, ygt, ygt, ygt, ygl, ygt, ygi hca.1 hca.2 (by omega) (by omega), ygr, ygr, ygr, ygr, ygr, ygr, ygt, ygr, ygr, ygt, ygr, ygr, ygr, ygr, ygr, ygr, ygr, ygr, h0.2.2 28 _ _ rfl rfl, h0.2.2 29 _ _ rfl rfl, h0.2.2 30 _ _ rfl rfl, h0.2.2 31 _ _ rfl rfl, ygr, ygr, ygr, ygr, h0.2.2 36 _ _ rfl rfl, ygr, ygr, ygr, ygr, trivial⟩
  · rw [h179]; exact hnl
  · rw [e1]; exact yok_2 g1 (Or.inr ⟨by decide, by decide, fun j hj => by rw [r3 j hj]; exact hcn j hj⟩) (Or.inl rfl)
  · rw [e2]; exact yok_t1 g2
  · rw [e3]; exact yok_2 g3 (Or.inr ⟨by decide, by decide, fun j hj => by rw [(r5 j hj).1]; exact htk j hj⟩) (Or.inl rfl)
  · rw [e4]; exact yok_2 g4 (Or.inr ⟨by decide, by decide, fun j hj => (r5 j hj).2.1⟩) (Or.inl rfl)
  · rw [e5]; exact yok_2 g5 (Or.inr ⟨by decide, by decide, fun j hj => (r5 j hj).2.2⟩) (Or.inl rfl)
  · rw [s1]; exact yok_r1 s3 (by decide) (fun j _ => s5 j)
  · rw [s2]; exact yok_r1 s4 (by decide) (fun j _ => s6 j)
  · rw [h187]; exact yok_t1 l1
  · rw [h188]; exact yok_t1 l2
