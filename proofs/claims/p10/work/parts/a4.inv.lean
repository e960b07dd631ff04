/-! What holds between two calls of the law. -/
def xTX (f : Nat → zE) (n : Nat) (cs : List Int) : Prop := n ≤ 100 ∧ cs.length = 100 ∧ (∀ j : Nat, 0 ≤ cs.getD j 0 ∧ cs.getD j 0 ≤ 126) ∧ f 51 = .inl (1, [.ref 52, xi (n : Nat)]) ∧ f 52 = xr 1 cs ∧ f 178 = xr 1 cs
def xNM (nms : List (List Int)) : Prop := nms.length ≤ 12 ∧ (∀ w ∈ nms, xwf w) ∧ nms.Nodup ∧ ∀ w ∈ nms, w ∉ selW
def xCL (f : Nat → zE) (K : List (Int × Int)) (G : Nat → List xBt) (nms : List (List Int)) (bc dp : Nat → Int) : Prop := (∀ i, i < nms.length → 1 ≤ dp i ∧ dp i ≤ 6) ∧ (∀ i, i < nms.length → ∃ al, xKF (G i) i f (Int64.ofInt (xpr (nms.getD i []).reverse)) (bc i) (dp i) al) ∧ (∀ i, nms.length < i → i ≤ 12 → ∃ B nmd m d al, xDR B i f nmd m d al) ∧ ∃ kp al, xRD f K nms.length kp al
def xMO (f : Nat → zE) (n : Nat) (nms : List (List Int)) (bc dp tk0 : Nat → Int) (K : List (Int × Int)) (R0 : Nat → Int × Int) : Prop := ∃ (cd fa ki be en : Int) (wo : Int64) (nu pa0 op : Int) (q : Nat → Value) (nl : List Int64) (m0 d0 : Int) (tmM oaM : List Int) (Ee : List (Int × Int)) (Bb : List xBt), f 177 = xmo cd (n : Nat) fa ki be en wo nu (nms.length : Nat) pa0 op q ∧ ((0 ≤ pa0 ∧ pa0 ≤ 16 * (nms.length : Nat)) ∧ (K.length : Int) = pa0) ∧ f 179 = .inr (.inr (.inl nl)) ∧ nl.length = 13 ∧ (∀ k, k < nms.length → nl.getD k 0 = Int64.ofInt (xpr (nms.getD k []))) ∧ xMD R0 Bb bc dp tk0 f m0 d0 ∧ f 187 = xr 0 tmM ∧ f 188 = xr 0 oaM ∧ tmM.length = 3 ∧ oaM.length = 3 ∧ xMS K Ee f
/-- a call's beats have their parts among the kept ones -/
def xgk (K : List (Int × Int)) (B : List xBt) : Prop := ∀ j, j < B.length → 0 ≤ (B.getD j (0, 0, 0)).1 ∧ (B.getD j (0, 0, 0)).1 ≤ (B.getD j (0, 0, 0)).2.1 ∧ (B.getD j (0, 0, 0)).2.1 ≤ (K.length : Int)
def xTZ (nms : List (List Int)) (bc tk0 : Nat → Int) (K : List (Int × Int)) (G : Nat → List xBt) (R0 : Nat → Int × Int) : Prop := ((∀ i, i < 12 → 0 ≤ bc i ∧ bc i ≤ 16) ∧ (∀ i, i < nms.length → ∀ k : Nat, (k : Int) < bc i → 0 ≤ tk0 (16 * i + k) ∧ tk0 (16 * i + k) ≤ k) ∧ ∀ j, j < 192 → 0 ≤ tk0 j ∧ tk0 j ≤ 16) ∧ (∀ i, i < nms.length → ((G i).length : Int) = bc i ∧ ∀ k, k < (G i).length → ((R0 (16 * i + k)).1, (R0 (16 * i + k)).2, tk0 (16 * i + k)) = (G i).getD k (0, 0, 0)) ∧ ∀ i, xgk K (G i)
def xINV (f : Nat → zE) (n : Nat) (cs : List Int) (nms : List (List Int)) (bc dp tk0 : Nat → Int) (K : List (Int × Int)) (G : Nat → List xBt) (R0 : Nat → Int × Int) : Prop := yM yT2 (xh f) ∧ xTX f n cs ∧ xNM nms ∧ xCL f K G nms bc dp ∧ xMO f n nms bc dp tk0 K R0 ∧ xTZ nms bc tk0 K G R0
theorem x_sets {fs' : List Value} : ∀ (S : List Nat) (fs : List Value), fs'.length = fs.length → (∀ k, ¬ k ∈ S → fs'[k]? = fs[k]?) → fs' = S.foldl (fun l k => l.set k (fs'.getD k .null)) fs := by
  intro S
  induction S with
  | nil => intro fs _ h; exact List.ext_getElem? fun k => h k (by simp)
  | cons s S ih =>
    intro fs hl h
    rw [List.foldl_cons]
    refine ih _ (by rw [List.length_set]; exact hl) fun k hk => ?_
    by_cases e : s = k
    · subst e
      by_cases hs : s < fs.length
      · rw [List.getElem?_set_self hs, List.getD_eq_getElem?_getD, List.getElem?_eq_getElem (by omega)]
        rfl
      · rw [List.getElem?_eq_none (by omega), List.getElem?_eq_none (by rw [List.length_set]; omega)]
    · rw [List.getElem?_set_ne e]
      exact h k (by intro hm; rcases List.mem_cons.mp hm with h1 | h1; exact e h1.symm; exact hk h1)
theorem xD_o {f f' : Nat → zE} {p ci : Nat} {fs : List Value} {as : List yA} (S : List Nat) (h : xD f f') (hp : 50 ≤ p ∧ p < 204) (hf : f p = .inl (ci, fs)) (ht : yT2[p - 50]? = some (.inl (ci, as))) (hl : as.length = fs.length) (hS : ∀ k, ¬ k ∈ S → ¬ (ci, k) ∈ xkl) : ∃ fs' : List Value, f' p = .inl (ci, fs') ∧ fs' = S.foldl (fun l k => l.set k (fs'.getD k .null)) fs ∧ ∀ (k : Nat) (a : yA), as[k]? = some a → ∃ v, fs'[k]? = some v ∧ yg a v := by
  have e := xh_at (f := f) hp.1 hp.2
  rw [hf] at e
  obtain ⟨fs', he', hk⟩ := h.2.2 _ _ _ e
  have e' := xh_at (f := f') hp.1 hp.2
  rw [he'] at e'
  have e2 : f' p = .inl (ci, fs') := (Option.some.inj e').symm
  obtain ⟨fs2, h2, hl2, hty⟩ := xT_o h.1 hp ht
  rw [e2] at h2
  cases h2
  exact ⟨fs', e2, x_sets S fs (by omega) fun k hk2 => hk k (hS k hk2), hty⟩
theorem xkl_3 (k : Nat) (h : ¬ k ∈ [6]) : ¬ (3, k) ∈ xkl := by
  intro hm
  apply h
  simpa [xkl] using hm
theorem xkl_10 (k : Nat) (h : ¬ k ∈ [0, 28, 29, 30, 31, 36]) : ¬ (10, k) ∈ xkl := by
  intro hm
  apply h
  simpa [xkl] using hm
theorem xD_fig {f f' : Nat → zE} {i : Nat} {nm : Int64} {b d al : Value} (h : xD f f') (hi : i < 13) (h57 : f (57 + 4 * i) = xfg i nm b d al) : ∃ al', f' (57 + 4 * i) = xfg i nm b d al' := by
  obtain ⟨fs', h1, h2, -⟩ := xD_o [6] h (p := 57 + 4 * i) (by omega) h57 (by rw [show 57 + 4 * i - 50 = 7 + 4 * i by omega]; exact (yT2_fig i hi).1) rfl xkl_3
  exact ⟨fs'.getD 6 .null, by rw [h1]; exact congrArg (fun l => Sum.inl (3, l)) h2⟩
theorem xWA_f : ∀ i : Nat, i < 13 → ¬ (58 + 4 * i) ∈ xWA ∧ ¬ (59 + 4 * i) ∈ xWA ∧ ¬ (60 + 4 * i) ∈ xWA := by decide +kernel
theorem xD_at {f f' : Nat → zE} (h : xD f f') {p : Nat} (hp : 50 ≤ p ∧ p < 204) (hW : ¬ p ∈ xWA) : f' p = f p := yF_at h.2.1 hp hW
theorem xD_KF {B : List xBt} {f f' : Nat → zE} {i : Nat} {nm : Int64} {b d : Int} {al : Value} (h : xD f f') (hi : i < 13) (hk : xKF B i f nm b d al) : ∃ al', xKF B i f' nm b d al' := by
  obtain ⟨hb0, hb1, fp, ep, ta, h57, h58, h59, h60, hty, hta⟩ := hk
  obtain ⟨al', h57'⟩ := xD_fig h hi h57
  obtain ⟨w1, w2, w3⟩ := xWA_f i hi
  exact ⟨al', hb0, hb1, fp, ep, ta, h57', (xD_at h (by omega) w1).trans h58, (xD_at h (by omega) w2).trans h59, (xD_at h (by omega) w3).trans h60, hty, hta⟩
theorem xD_DR {B : List xBt} {f f' : Nat → zE} {i : Nat} {nm : Int64} {b d : Int} {al : Value} (h : xD f f') (hi : i < 13) (hk : xDR B i f nm b d al) : ∃ al', xDR B i f' nm b d al' := by
  obtain ⟨hb0, hb1, fp, ep, ta, h57, h58, h59, h60, hty⟩ := hk
  obtain ⟨al', h57'⟩ := xD_fig h hi h57
  obtain ⟨w1, w2, w3⟩ := xWA_f i hi
  exact ⟨al', hb0, hb1, fp, ep, ta, h57', (xD_at h (by omega) w1).trans h58, (xD_at h (by omega) w2).trans h59, (xD_at h (by omega) w3).trans h60, hty⟩
theorem yT2_177 : yT2[177 - 50]? = some (.inl (10, [.inl ytop, .inl (0, 100), .inr (.inr [178]), .inl ytop, .inl ytop, .inl ytop, .inl ytop, ylong, .inl ytop, .inl (0, 12), .inr (.inr [179]), .inr (.inr [180]), .inr (.inr [181]), .inr (.inr [182]), .inr (.inr [183]), .inr (.inr [184]), .inl ytop, .inr (.inr [185]), .inr (.inr [186]), .inl ytop, .inr (.inr [187]), .inr (.inr [188]), .inr (.inr [189]), .inr (.inr [190]), .inr (.inr [191]), .inr (.inr [192]), .inr (.inr [193]), .inr (.inr [194]), .inl ytop, .inl ytop, .inl ytop, .inl (0, 24), .inr (.inr [195]), .inr (.inr [196]), .inr (.inr [197]), .inr (.inr [198]), .inl (-1, 4), .inr (.inr [199]), .inr (.inr [200]), .inr (.inr [201]), .inr (.inr [202])])) := rfl
theorem xD_mo {f f' : Nat → zE} {cd n fa ki be en nu ca pa op : Int} {wo : Int64} {q : Nat → Value} (h : xD f f') (h177 : f 177 = xmo cd n fa ki be en wo nu ca pa op q) : ∃ cd' q', f' 177 = xmo cd' n fa ki be en wo nu ca pa op q' := by
  obtain ⟨fs', h1, h2, h3⟩ := xD_o [0, 28, 29, 30, 31, 36] h (by decide) h177 yT2_177 rfl xkl_10
  obtain ⟨v, hv, hg⟩ := h3 0 (.inl ytop) rfl
  obtain ⟨z, rfl, -, -⟩ := yg_i hg
  refine ⟨z, fun k => match k with
    | 0 => fs'.getD 28 .null
    | 1 => fs'.getD 29 .null
    | 2 => fs'.getD 30 .null
    | 3 => fs'.getD 31 .null
    | _ => fs'.getD 36 .null, ?_⟩
  have e0 : fs'.getD 0 .null = xi z := by rw [List.getD_eq_getElem?_getD, hv]; rfl
  rw [h1]
  refine (congrArg (fun l => (Sum.inl (10, l) : zE)) h2).trans ?_
  simp only [List.foldl_cons, List.foldl_nil, e0]
  rfl
theorem xINV_D {f f' : Nat → zE} {n : Nat} {cs : List Int} {nms : List (List Int)} {bc dp tk0 : Nat → Int} {KK : List (Int × Int)} {GG : Nat → List xBt} {RR : Nat → Int × Int} (h : xINV f n cs nms bc dp tk0 KK GG RR) (hD : xD f f') : xINV f' n cs nms bc dp tk0 KK GG RR := by
  obtain ⟨hM, ⟨t1, t2, t3, t4, t5, t6⟩, hN, ⟨c1, c2, c3, kp, al, ⟨Ec, Bc, dr, op, ex, bs, sl, pt, tm, oa, ki, st, en, wo, di, sg, nmd, m, d, h109, hbs, hsl, h53, h110, h111, q1, q2, q3, q4, h112, hd, se, at', h55, h56, p1⟩, hkp⟩, ⟨cd, fa, ki2, be, en2, wo2, nu, pa0, op2, q, nl, m0, d0, tmM, oaM, Ee, Bb, h177, hpa, h179, hnl, hnm, ⟨cn, dn, tk, pf, pq, k0, k1, k2, k3, k4, hmd⟩, h187, h188, l1, l2, se2, at2, h185, h186, hms⟩, hK⟩ := h
  have hc := hN.1
  have P := @xD_at f f' hD
  obtain ⟨al', hd'⟩ := xD_DR hD (by omega) hd
  obtain ⟨cd', q', h177'⟩ := xD_mo hD h177
  refine ⟨hD.1, ⟨t1, t2, t3, (P (by decide) (by decide)).trans t4, (P (by decide) (by decide)).trans t5, (P (by decide) (by decide)).trans t6⟩, hN, ⟨c1, ?_, ?_, kp, al', ⟨Ec, Bc, dr, op, ex, bs, sl, pt, tm, oa, ki, st, en, wo, di, sg, nmd, m, d, (P (by decide) (by decide)).trans h109, hbs, hsl, (P (by decide) (by decide)).trans h53, (P (by decide) (by decide)).trans h110, (P (by decide) (by decide)).trans h111, q1, q2, q3, q4, (P (by decide) (by decide)).trans h112, hd', se, at', (P (by decide) (by decide)).trans h55, (P (by decide) (by decide)).trans h56, p1⟩, hkp⟩, ⟨cd', fa, ki2, be, en2, wo2, nu, pa0, op2, q', nl, m0, d0, tmM, oaM, Ee, Bb, h177', hpa, (P (by decide) (by decide)).trans h179, hnl, hnm, ⟨cn, dn, tk, pf, pq, (P (by decide) (by decide)).trans k0, (P (by decide) (by decide)).trans k1, (P (by decide) (by decide)).trans k2, (P (by decide) (by decide)).trans k3, (P (by decide) (by decide)).trans k4, hmd⟩, (P (by decide) (by decide)).trans h187, (P (by decide) (by decide)).trans h188, l1, l2, se2, at2, (P (by decide) (by decide)).trans h185, (P (by decide) (by decide)).trans h186, hms⟩, hK⟩
  · intro i hi
    obtain ⟨al2, hk⟩ := c2 i hi
    exact xD_KF hD (by omega) hk
  · intro i hi1 hi2
    obtain ⟨B2, nmd2, m2, d2, al2, hk⟩ := c3 i hi1 hi2
    obtain ⟨al3, hk3⟩ := xD_DR hD (by omega) hk
    exact ⟨B2, nmd2, m2, d2, al3, hk3⟩
/-! The types of the state. -/
theorem xINV_n {f : Nat → zE} {n : Nat} {cs : List Int} {nms : List (List Int)} {bc dp tk0 : Nat → Int} {KK : List (Int × Int)} {GG : Nat → List xBt} {RR : Nat → Int × Int} (h : xINV f n cs nms bc dp tk0 KK GG RR) : yM (yTn nms.length) (xh f) ∧ ykg nms.length (xh f, (0, 0)) ∧ nms.length < 13 ∧ (∃ kp pt : Int, f 53 = xbo (nms.length : Nat) kp pt) := by
  obtain ⟨hM, -, hN, ⟨c1, c2, c3, kp, al, ⟨Ec, Bc, dr, op, ex, bs, sl, pt, tm, oa, ki, st, en, wo, di, sg, nmd, m, d, h109, hbs, hsl, h53, -⟩, -⟩, -⟩ := h
  have hc := hN.1
  refine ⟨yMn (by omega) hM h53 fun i hi => ?_, fun i hi => ?_, by omega, kp, pt, h53⟩
  · obtain ⟨al2, hb0, hb1, fp, ep, ta, h57, -⟩ := c2 i hi
    exact ⟨_, _, _, _, h57, hb0, hb1⟩
  · obtain ⟨al2, hk⟩ := c2 i hi
    exact xKF_kg (by omega) hM hk
theorem xINV_50 {f : Nat → zE} (hM : yM yT2 (xh f)) : ∃ (dd : Int) (lf lc : Value), f 50 = xfc (xi dd) lf lc ∧ (0 ≤ dd ∧ dd ≤ 24) ∧ yg (.inl ytop) lf ∧ yg (.inl ytop) lc := by
  obtain ⟨fs, h1, h2, h3⟩ := xT_o (p := 50) hM (by decide) (show yT2[50 - 50]? = some (.inl (0, [.inr (.inr [51]), .inr (.inr [53]), .inr (.inr [109]), .inr (.inr [113]), .inr (.inr [117]), .inr (.inr [122]), .inr (.inr [171]), .inr (.inr [173]), .inr (.inr [175]), .inr (.inr [176]), .inl (0, 24), .inl ytop, .inl ytop])) from rfl)
  match fs, h1, h2, h3 with
  | [a0, a1, a2, a3, a4, a5, a6, a7, a8, a9, a10, a11, a12], h1, _, h3 =>
    have R : ∀ (k p : Nat) (v : Value), [a0, a1, a2, a3, a4, a5, a6, a7, a8, a9, a10, a11, a12][k]? = some v → ([.inr (.inr [51]), .inr (.inr [53]), .inr (.inr [109]), .inr (.inr [113]), .inr (.inr [117]), .inr (.inr [122]), .inr (.inr [171]), .inr (.inr [173]), .inr (.inr [175]), .inr (.inr [176]), .inl (0, 24), .inl ytop, .inl ytop] : List yA)[k]? = some (.inr (.inr [p])) → v = .ref p := by
      intro k p v hv ha
      obtain ⟨w, hw, hg⟩ := h3 k _ ha
      rw [hv] at hw
      cases hw
      exact yg_rf hg
    obtain ⟨w, hw, hg⟩ := h3 10 _ rfl
    cases hw
    obtain ⟨dd, e, b1, b2⟩ := yg_i hg
    obtain ⟨w1, hw1, hg1⟩ := h3 11 _ rfl
    cases hw1
    obtain ⟨w2, hw2, hg2⟩ := h3 12 _ rfl
    cases hw2
    refine ⟨dd, a11, a12, ?_, ⟨b1, b2⟩, hg1, hg2⟩
    rw [h1, R 0 51 a0 rfl rfl, R 1 53 a1 rfl rfl, R 2 109 a2 rfl rfl, R 3 113 a3 rfl rfl, R 4 117 a4 rfl rfl, R 5 122 a5 rfl rfl, R 6 171 a6 rfl rfl, R 7 173 a7 rfl rfl, R 8 175 a8 rfl rfl, R 9 176 a9 rfl rfl, e]
theorem xINV_54 {f : Nat → zE} (hM : yM yT2 (xh f)) : f 54 = .inr (.inr (.inr (3, xfl))) := by
  obtain ⟨c, hc, hok⟩ := hM.2 4 (.inr (.inr (.inr (3, [[57], [61], [65], [69], [73], [77], [81], [85], [89], [93], [97], [101], [105]])))) rfl
  have e : (xh f)[4]? = some (f 54) := xh_at (p := 54) (by decide) (by decide)
  rw [hc] at e
  rw [← Option.some.inj e]
  match c, hok with
  | .inr (.inr (.inr (a, l))), hok =>
    obtain ⟨h1, h2, h3⟩ := hok
    have h1' : 3 = a := h1
    subst h1'
    have hl : l = xfl := by
      apply List.ext_getElem?
      intro k
      have h2' : (13 : Nat) = l.length := h2
      by_cases hk : k < 13
      · have key : ∀ k : Nat, k < 13 → ∃ o : Nat, ([[57], [61], [65], [69], [73], [77], [81], [85], [89], [93], [97], [101], [105]] : List (List Nat))[k]? = some [o] ∧ xfl[k]? = some (some o) := fun k hk => match k, hk with
          | 0, _ => ⟨57, rfl, rfl⟩
          | 1, _ => ⟨61, rfl, rfl⟩
          | 2, _ => ⟨65, rfl, rfl⟩
          | 3, _ => ⟨69, rfl, rfl⟩
          | 4, _ => ⟨73, rfl, rfl⟩
          | 5, _ => ⟨77, rfl, rfl⟩
          | 6, _ => ⟨81, rfl, rfl⟩
          | 7, _ => ⟨85, rfl, rfl⟩
          | 8, _ => ⟨89, rfl, rfl⟩
          | 9, _ => ⟨93, rfl, rfl⟩
          | 10, _ => ⟨97, rfl, rfl⟩
          | 11, _ => ⟨101, rfl, rfl⟩
          | 12, _ => ⟨105, rfl, rfl⟩
        obtain ⟨p, hp1, hp2⟩ := key k hk
        have hk2 : k < l.length := by omega
        obtain ⟨o, ho1, ho2⟩ := h3 k [p] (l[k]'hk2) hp1 (show l[k]? = some (l[k]'hk2) from List.getElem?_eq_getElem hk2)
        rw [hp2, List.getElem?_eq_getElem hk2, ho1, List.mem_singleton.mp ho2]
      · rw [List.getElem?_eq_none (by omega), List.getElem?_eq_none (by show 13 ≤ k; omega)]
    rw [hl]
