section
/-! What holds between two calls of the law. -/
def xTX (f : Nat → zE) (n : Nat) (cs : List Int) : Prop := n ≤ 100 ∧ cs.length = 100 ∧ (∀ j : Nat, 0 ≤ cs.getD j 0 ∧ cs.getD j 0 ≤ 126) ∧ f 51 = .inl (1, [.ref 52, xi (n : Nat)]) ∧ f 52 = xr 1 cs ∧ f 178 = xr 1 cs
def xNM (nms : List (List Int)) : Prop := nms.length ≤ 12 ∧ (∀ w ∈ nms, xwf w) ∧ nms.Nodup ∧ ∀ w ∈ nms, w ∉ selW
def xCL (f : Nat → zE) (K : List (Int × Int)) (G : Nat → List xBt) (nms : List (List Int)) (bc dp : Nat → Int) : Prop := (∀ i, i < nms.length → 1 ≤ dp i ∧ dp i ≤ 6) ∧ (∀ i, i < nms.length → ∃ al, xKF (G i) i f (Int64.ofInt (xpr (nms.getD i []).reverse)) (bc i) (dp i) al) ∧ (∀ i, nms.length < i → i ≤ 12 → ∃ B nmd m d al, xDR B i f nmd m d al) ∧ ∃ kp al, xRD f K nms.length kp al
def xMO (f : Nat → zE) (n : Nat) (nms : List (List Int)) (bc dp tk0 : Nat → Int) (K : List (Int × Int)) (R0 : Nat → Int × Int) : Prop := ∃ (cd fa ki be en : Int) (wo : Int64) (nu pa0 op : Int) (q : Nat → Value) (nl : List Int64) (m0 d0 : Int) (tmM oaM : List Int) (Ee : List (Int × Int)) (Bb : List xBt), f 177 = xmo cd (n : Nat) fa ki be en wo nu (nms.length : Nat) pa0 op q ∧ ((0 ≤ pa0 ∧ pa0 ≤ 16 * (nms.length : Nat)) ∧ (K.length : Int) = pa0) ∧ f 179 = .inr (.inr (.inl nl)) ∧ nl.length = 13 ∧ (∀ k, k < nms.length → nl.getD k 0 = Int64.ofInt (xpr (nms.getD k []))) ∧ xMD R0 Bb bc dp tk0 f m0 d0 ∧ f 187 = xr 0 tmM ∧ f 188 = xr 0 oaM ∧ tmM.length = 3 ∧ oaM.length = 3 ∧ xMS K Ee f
/-- a call's beats have their parts among the kept ones -/
def xgk (K : List (Int × Int)) (B : List xBt) : Prop := ∀ j, j < B.length → 0 ≤ (B.getD j (0, 0, 0)).1 ∧ (B.getD j (0, 0, 0)).1 ≤ (B.getD j (0, 0, 0)).2.1 ∧ (B.getD j (0, 0, 0)).2.1 ≤ (K.length : Int)
def xTZ (nms : List (List Int)) (bc tk0 : Nat → Int) (K : List (Int × Int)) (G : Nat → List xBt) (R0 : Nat → Int × Int) : Prop := ((∀ i, i < 12 → 0 ≤ bc i ∧ bc i ≤ 16) ∧ (∀ i, i < nms.length → ∀ k : Nat, (k : Int) < bc i → 0 ≤ tk0 (16 * i + k) ∧ tk0 (16 * i + k) ≤ k) ∧ ∀ j, j < 192 → 0 ≤ tk0 j ∧ tk0 j ≤ 16) ∧ (∀ i, i < nms.length → ((G i).length : Int) = bc i ∧ ∀ k, k < (G i).length → ((R0 (16 * i + k)).1, (R0 (16 * i + k)).2, tk0 (16 * i + k)) = (G i).getD k (0, 0, 0)) ∧ ∀ i, xgk K (G i)
def xINV (f : Nat → zE) (n : Nat) (cs : List Int) (nms : List (List Int)) (bc dp tk0 : Nat → Int) (K : List (Int × Int)) (G : Nat → List xBt) (R0 : Nat → Int × Int) : Prop := yM yT2 (xh f) ∧ xTX f n cs ∧ xNM nms ∧ xCL f K G nms bc dp ∧ xMO f n nms bc dp tk0 K R0 ∧ xTZ nms bc tk0 K G R0
theorem x_sets {fs' : List Value} : ∀ (S : List Nat) (fs : List Value), fs'.length = fs.length → (∀ k, ¬ k ∈ S → fs'[k]? = fs[k]?) → fs' = S.foldl (fun l k => l.set k (fs'.getD k .null)) fs := by
  intro S
  induction S with
  | nil => intro fs _ h; exact List.ext_getElem? fun k => h k (by simp)
  | cons s S ih =>
    intro fs hl h
    rw [List.foldl_cons]
    refine ih _ (by rw [List.length_set]; exact hl) fun k hk => ?_
    by_cases e : s = k
    · subst e
      by_cases hs : s < fs.length
      · rw [List.getElem?_set_self hs, List.getD_eq_getElem?_getD, List.getElem?_eq_getElem (by omega)]
        rfl
      · rw [List.getElem?_eq_none (by omega), List.getElem?_eq_none (by rw [List.length_set]; omega)]
    · rw [List.getElem?_set_ne e]
      exact h k (by intro hm; rcases List.mem_cons.mp hm with h1 | h1; exact e h1.symm; exact hk h1)
theorem xD_o {f f' : Nat → zE} {p ci : Nat} {fs : List Value} {as : List yA} (S : List Nat) (h : xD f f') (hp : 50 ≤ p ∧ p < 204) (hf : f p = .inl (ci, fs)) (ht : yT2[p - 50]? = some (.inl (ci, as))) (hl : as.length = fs.length) (hS : ∀ k, ¬ k ∈ S → ¬ (ci, k) ∈ xkl) : ∃ fs' : List Value, f' p = .inl (ci, fs') ∧ fs' = S.foldl (fun l k => l.set k (fs'.getD k .null)) fs ∧ ∀ (k : Nat) (a : yA), as[k]? = some a → ∃ v, fs'[k]? = some v ∧ yg a v := by
  have e := xh_at (f := f) hp.1 hp.2
  rw [hf] at e
  obtain ⟨fs', he', hk⟩ := h.2.2 _ _ _ e
  have e' := xh_at (f := f') hp.1 hp.2
  rw [he'] at e'
  have e2 : f' p = .inl (ci, fs') := (Option.some.inj e').symm
  obtain ⟨fs2, h2, hl2, hty⟩ := xT_o h.1 hp ht
  rw [e2] at h2
  cases h2
  exact ⟨fs', e2, x_sets S fs (by omega) fun k hk2 => hk k (hS k hk2), hty⟩
theorem xkl_3 (k : Nat) (h : ¬ k ∈ [6]) : ¬ (3, k) ∈ xkl := by
  intro hm
  apply h
  simpa [xkl] using hm
theorem xkl_10 (k : Nat) (h : ¬ k ∈ [0, 28, 29, 30, 31, 36]) : ¬ (10, k) ∈ xkl := by
  intro hm
  apply h
  simpa [xkl] using hm
theorem xD_fig {f f' : Nat → zE} {i : Nat} {nm : Int64} {b d al : Value} (h : xD f f') (hi : i < 13) (h57 : f (57 + 4 * i) = xfg i nm b d al) : ∃ al', f' (57 + 4 * i) = xfg i nm b d al' := by
  obtain ⟨fs', h1, h2, -⟩ := xD_o [6] h (p := 57 + 4 * i) (by omega) h57 (by rw [show 57 + 4 * i - 50 = 7 + 4 * i by omega]; exact (yT2_fig i hi).1) rfl xkl_3
  exact ⟨fs'.getD 6 .null, by rw [h1]; exact congrArg (fun l => Sum.inl (3, l)) h2⟩
theorem xWA_f : ∀ i : Nat, i < 13 → ¬ (58 + 4 * i) ∈ xWA ∧ ¬ (59 + 4 * i) ∈ xWA ∧ ¬ (60 + 4 * i) ∈ xWA := by decide +kernel
theorem xD_at {f f' : Nat → zE} (h : xD f f') {p : Nat} (hp : 50 ≤ p ∧ p < 204) (hW : ¬ p ∈ xWA) : f' p = f p := yF_at h.2.1 hp hW
theorem xD_KF {B : List xBt} {f f' : Nat → zE} {i : Nat} {nm : Int64} {b d : Int} {al : Value} (h : xD f f') (hi : i < 13) (hk : xKF B i f nm b d al) : ∃ al', xKF B i f' nm b d al' := by
  obtain ⟨hb0, hb1, fp, ep, ta, h57, h58, h59, h60, hty, hta⟩ := hk
  obtain ⟨al', h57'⟩ := xD_fig h hi h57
  obtain ⟨w1, w2, w3⟩ := xWA_f i hi
  exact ⟨al', hb0, hb1, fp, ep, ta, h57', (xD_at h (by omega) w1).trans h58, (xD_at h (by omega) w2).trans h59, (xD_at h (by omega) w3).trans h60, hty, hta⟩
theorem xD_DR {B : List xBt} {f f' : Nat → zE} {i : Nat} {nm : Int64} {b d : Int} {al : Value} (h : xD f f') (hi : i < 13) (hk : xDR B i f nm b d al) : ∃ al', xDR B i f' nm b d al' := by
  obtain ⟨hb0, hb1, fp, ep, ta, h57, h58, h59, h60, hty⟩ := hk
  obtain ⟨al', h57'⟩ := xD_fig h hi h57
  obtain ⟨w1, w2, w3⟩ := xWA_f i hi
  exact ⟨al', hb0, hb1, fp, ep, ta, h57', (xD_at h (by omega) w1).trans h58, (xD_at h (by omega) w2).trans h59, (xD_at h (by omega) w3).trans h60, hty⟩
theorem yT2_177 : yT2[177 - 50]? = some (.inl (10, [.inl ytop, .inl (0, 100), .inr (.inr [178]), .inl ytop, .inl ytop, .inl ytop, .inl ytop, ylong, .inl ytop, .inl (0, 12), .inr (.inr [179]), .inr (.inr [180]), .inr (.inr [181]), .inr (.inr [182]), .inr (.inr [183]), .inr (.inr [184]), .inl ytop, .inr (.inr [185]), .inr (.inr [186]), .inl ytop, .inr (.inr [187]), .inr (.inr [188]), .inr (.inr [189]), .inr (.inr [190]), .inr (.inr [191]), .inr (.inr [192]), .inr (.inr [193]), .inr (.inr [194]), .inl ytop, .inl ytop, .inl ytop, .inl (0, 24), .inr (.inr [195]), .inr (.inr [196]), .inr (.inr [197]), .inr (.inr [198]), .inl (-1, 4), .inr (.inr [199]), .inr (.inr [200]), .inr (.inr [201]), .inr (.inr [202])])) := rfl
theorem xD_mo {f f' : Nat → zE} {cd n fa ki be en nu ca pa op : Int} {wo : Int64} {q : Nat → Value} (h : xD f f') (h177 : f 177 = xmo cd n fa ki be en wo nu ca pa op q) : ∃ cd' q', f' 177 = xmo cd' n fa ki be en wo nu ca pa op q' := by
  obtain ⟨fs', h1, h2, h3⟩ := xD_o [0, 28, 29, 30, 31, 36] h (by decide) h177 yT2_177 rfl xkl_10
  obtain ⟨v, hv, hg⟩ := h3 0 (.inl ytop) rfl
  obtain ⟨z, rfl, -, -⟩ := yg_i hg
  refine ⟨z, fun k => match k with
    | 0 => fs'.getD 28 .null
    | 1 => fs'.getD 29 .null
    | 2 => fs'.getD 30 .null
    | 3 => fs'.getD 31 .null
    | _ => fs'.getD 36 .null, ?_⟩
  have e0 : fs'.getD 0 .null = xi z := by rw [List.getD_eq_getElem?_getD, hv]; rfl
  rw [h1]
  refine (congrArg (fun l => (Sum.inl (10, l) : zE)) h2).trans ?_
  simp only [List.foldl_cons, List.foldl_nil, e0]
  rfl
theorem xINV_D {f f' : Nat → zE} {n : Nat} {cs : List Int} {nms : List (List Int)} {bc dp tk0 : Nat → Int} {KK : List (Int × Int)} {GG : Nat → List xBt} {RR : Nat → Int × Int} (h : xINV f n cs nms bc dp tk0 KK GG RR) (hD : xD f f') : xINV f' n cs nms bc dp tk0 KK GG RR := by
  obtain ⟨hM, ⟨t1, t2, t3, t4, t5, t6⟩, hN, ⟨c1, c2, c3, kp, al, ⟨Ec, Bc, dr, op, ex, bs, sl, pt, tm, oa, ki, st, en, wo, di, sg, nmd, m, d, h109, hbs, hsl, h53, h110, h111, q1, q2, q3, q4, h112, hd, se, at', h55, h56, p1⟩, hkp⟩, ⟨cd, fa, ki2, be, en2, wo2, nu, pa0, op2, q, nl, m0, d0, tmM, oaM, Ee, Bb, h177, hpa, h179, hnl, hnm, ⟨cn, dn, tk, pf, pq, k0, k1, k2, k3, k4, hmd⟩, h187, h188, l1, l2, se2, at2, h185, h186, hms⟩, hK⟩ := h
  have hc := hN.1
  have P := @xD_at f f' hD
  obtain ⟨al', hd'⟩ := xD_DR hD (by omega) hd
  obtain ⟨cd', q', h177'⟩ := xD_mo hD h177
  refine ⟨hD.1, ⟨t1, t2, t3, (P (by decide) (by decide)).trans t4, (P (by decide) (by decide)).trans t5, (P (by decide) (by decide)).trans t6⟩, hN, ⟨c1, ?_, ?_, kp, al', ⟨Ec, Bc, dr, op, ex, bs, sl, pt, tm, oa, ki, st, en, wo, di, sg, nmd, m, d, (P (by decide) (by decide)).trans h109, hbs, hsl, (P (by decide) (by decide)).trans h53, (P (by decide) (by decide)).trans h110, (P (by decide) (by decide)).trans h111, q1, q2, q3, q4, (P (by decide) (by decide)).trans h112, hd', se, at', (P (by decide) (by decide)).trans h55, (P (by decide) (by decide)).trans h56, p1⟩, hkp⟩, ⟨cd', fa, ki2, be, en2, wo2, nu, pa0, op2, q', nl, m0, d0, tmM, oaM, Ee, Bb, h177', hpa, (P (by decide) (by decide)).trans h179, hnl, hnm, ⟨cn, dn, tk, pf, pq, (P (by decide) (by decide)).trans k0, (P (by decide) (by decide)).trans k1, (P (by decide) (by decide)).trans k2, (P (by decide) (by decide)).trans k3, (P (by decide) (by decide)).trans k4, hmd⟩, (P (by decide) (by decide)).trans h187, (P (by decide) (by decide)).trans h188, l1, l2, se2, at2, (P (by decide) (by decide)).trans h185, (P (by decide) (by decide)).trans h186, hms⟩, hK⟩
  · intro i hi
    obtain ⟨al2, hk⟩ := c2 i hi
    exact xD_KF hD (by omega) hk
  · intro i hi1 hi2
    obtain ⟨B2, nmd2, m2, d2, al2, hk⟩ := c3 i hi1 hi2
    obtain ⟨al3, hk3⟩ := xD_DR hD (by omega) hk
    exact ⟨B2, nmd2, m2, d2, al3, hk3⟩
/-! The types of the state. -/
theorem xINV_n {f : Nat → zE} {n : Nat} {cs : List Int} {nms : List (List Int)} {bc dp tk0 : Nat → Int} {KK : List (Int × Int)} {GG : Nat → List xBt} {RR : Nat → Int × Int} (h : xINV f n cs nms bc dp tk0 KK GG RR) : yM (yTn nms.length) (xh f) ∧ ykg nms.length (xh f, (0, 0)) ∧ nms.length < 13 ∧ (∃ kp pt : Int, f 53 = xbo (nms.length : Nat) kp pt) := by
  obtain ⟨hM, -, hN, ⟨c1, c2, c3, kp, al, ⟨Ec, Bc, dr, op, ex, bs, sl, pt, tm, oa, ki, st, en, wo, di, sg, nmd, m, d, h109, hbs, hsl, h53, -⟩, -⟩, -⟩ := h
  have hc := hN.1
  refine ⟨yMn (by omega) hM h53 fun i hi => ?_, fun i hi => ?_, by omega, kp, pt, h53⟩
  · obtain ⟨al2, hb0, hb1, fp, ep, ta, h57, -⟩ := c2 i hi
    exact ⟨_, _, _, _, h57, hb0, hb1⟩
  · obtain ⟨al2, hk⟩ := c2 i hi
    exact xKF_kg (by omega) hM hk
theorem xINV_50 {f : Nat → zE} (hM : yM yT2 (xh f)) : ∃ (dd : Int) (lf lc : Value), f 50 = xfc (xi dd) lf lc ∧ (0 ≤ dd ∧ dd ≤ 24) ∧ yg (.inl ytop) lf ∧ yg (.inl ytop) lc := by
  obtain ⟨fs, h1, h2, h3⟩ := xT_o (p := 50) hM (by decide) (show yT2[50 - 50]? = some (.inl (0, [.inr (.inr [51]), .inr (.inr [53]), .inr (.inr [109]), .inr (.inr [113]), .inr (.inr [117]), .inr (.inr [122]), .inr (.inr [171]), .inr (.inr [173]), .inr (.inr [175]), .inr (.inr [176]), .inl (0, 24), .inl ytop, .inl ytop])) from rfl)
  match fs, h1, h2, h3 with
  | [a0, a1, a2, a3, a4, a5, a6, a7, a8, a9, a10, a11, a12], h1, _, h3 =>
    have R : ∀ (k p : Nat) (v : Value), [a0, a1, a2, a3, a4, a5, a6, a7, a8, a9, a10, a11, a12][k]? = some v → ([.inr (.inr [51]), .inr (.inr [53]), .inr (.inr [109]), .inr (.inr [113]), .inr (.inr [117]), .inr (.inr [122]), .inr (.inr [171]), .inr (.inr [173]), .inr (.inr [175]), .inr (.inr [176]), .inl (0, 24), .inl ytop, .inl ytop] : List yA)[k]? = some (.inr (.inr [p])) → v = .ref p := by
      intro k p v hv ha
      obtain ⟨w, hw, hg⟩ := h3 k _ ha
      rw [hv] at hw
      cases hw
      exact yg_rf hg
    obtain ⟨w, hw, hg⟩ := h3 10 _ rfl
    cases hw
    obtain ⟨dd, e, b1, b2⟩ := yg_i hg
    obtain ⟨w1, hw1, hg1⟩ := h3 11 _ rfl
    cases hw1
    obtain ⟨w2, hw2, hg2⟩ := h3 12 _ rfl
    cases hw2
    refine ⟨dd, a11, a12, ?_, ⟨b1, b2⟩, hg1, hg2⟩
    rw [h1, R 0 51 a0 rfl rfl, R 1 53 a1 rfl rfl, R 2 109 a2 rfl rfl, R 3 113 a3 rfl rfl, R 4 117 a4 rfl rfl, R 5 122 a5 rfl rfl, R 6 171 a6 rfl rfl, R 7 173 a7 rfl rfl, R 8 175 a8 rfl rfl, R 9 176 a9 rfl rfl, e]
theorem xINV_54 {f : Nat → zE} (hM : yM yT2 (xh f)) : f 54 = .inr (.inr (.inr (3, xfl))) := by
  obtain ⟨c, hc, hok⟩ := hM.2 4 (.inr (.inr (.inr (3, [[57], [61], [65], [69], [73], [77], [81], [85], [89], [93], [97], [101], [105]])))) rfl
  have e : (xh f)[4]? = some (f 54) := xh_at (p := 54) (by decide) (by decide)
  rw [hc] at e
  rw [← Option.some.inj e]
  match c, hok with
  | .inr (.inr (.inr (a, l))), hok =>
    obtain ⟨h1, h2, h3⟩ := hok
    have h1' : 3 = a := h1
    subst h1'
    have hl : l = xfl := by
      apply List.ext_getElem?
      intro k
      have h2' : (13 : Nat) = l.length := h2
      by_cases hk : k < 13
      · have key : ∀ k : Nat, k < 13 → ∃ o : Nat, ([[57], [61], [65], [69], [73], [77], [81], [85], [89], [93], [97], [101], [105]] : List (List Nat))[k]? = some [o] ∧ xfl[k]? = some (some o) := fun k hk => match k, hk with
          | 0, _ => ⟨57, rfl, rfl⟩
          | 1, _ => ⟨61, rfl, rfl⟩
          | 2, _ => ⟨65, rfl, rfl⟩
          | 3, _ => ⟨69, rfl, rfl⟩
          | 4, _ => ⟨73, rfl, rfl⟩
          | 5, _ => ⟨77, rfl, rfl⟩
          | 6, _ => ⟨81, rfl, rfl⟩
          | 7, _ => ⟨85, rfl, rfl⟩
          | 8, _ => ⟨89, rfl, rfl⟩
          | 9, _ => ⟨93, rfl, rfl⟩
          | 10, _ => ⟨97, rfl, rfl⟩
          | 11, _ => ⟨101, rfl, rfl⟩
          | 12, _ => ⟨105, rfl, rfl⟩
        obtain ⟨p, hp1, hp2⟩ := key k hk
        have hk2 : k < l.length := by omega
        obtain ⟨o, ho1, ho2⟩ := h3 k [p] (l[k]'hk2) hp1 (show l[k]? = some (l[k]'hk2) from List.getElem?_eq_getElem hk2)
        rw [hp2, List.getElem?_eq_getElem hk2, ho1, List.mem_singleton.mp ho2]
      · rw [List.getElem?_eq_none (by omega), List.getElem?_eq_none (by show 13 ≤ k; omega)]
    rw [hl]
end
section
/-! The parts of a new call's beats lie among the kept parts and its own. -/
def xrg (L : Int) (B : List xBt) : Prop := ∀ b ∈ B, 0 ≤ b.1 ∧ b.1 ≤ b.2.1 ∧ b.2.1 ≤ L
theorem xrg_mono {L L' : Int} {B : List xBt} (hl : L ≤ L') (h : xrg L B) : xrg L' B := fun b hb => by
  obtain ⟨h1, h2, h3⟩ := h b hb
  exact ⟨h1, h2, by omega⟩
theorem xrg_app {L : Int} {A B : List xBt} (h1 : xrg L A) (h2 : xrg L B) : xrg L (A ++ B) := fun b hb => by
  rcases List.mem_append.mp hb with h | h
  · exact h1 b h
  · exact h2 b h
theorem xrg_map {L : Int} {B : List xBt} {g : xBt → xBt} (hg : ∀ b, (g b).1 = b.1 ∧ (g b).2.1 = b.2.1) (h : xrg L B) : xrg L (B.map g) := fun b hb => by
  obtain ⟨a, ha, rfl⟩ := List.mem_map.mp hb
  rw [(hg a).1, (hg a).2]
  exact h a ha
theorem xrg_drop {L : Int} {B : List xBt} {k : Nat} (h : xrg L B) : xrg L (B.drop k) := fun b hb => h b (List.mem_of_mem_drop hb)
theorem xrg_rd {L : Int} {B : List xBt} {k : Nat} {w : Int} (h : xrg L B) : ∀ t, xrg L (xrd0 B k w t) := by
  intro t
  induction t with
  | zero => intro b hb; cases hb
  | succ t ih => exact xrg_app ih (xrg_map (fun b => ⟨rfl, rfl⟩) (xrg_drop h))
theorem xrg_gk {K : List (Int × Int)} {B : List xBt} (h : xgk K B) : xrg (K.length : Nat) B := fun b hb => by
  obtain ⟨j, hj, e⟩ := List.mem_iff_getElem.mp hb
  have h1 := h j hj
  rw [List.getD_eq_getElem?_getD, List.getElem?_eq_getElem hj] at h1
  rw [← e]
  exact h1
theorem xgk_rg {K : List (Int × Int)} {B : List xBt} (h : xrg (K.length : Nat) B) : xgk K (B.map xse) := by
  intro j hj
  rw [List.length_map] at hj
  have e : (B.map xse).getD j (0, 0, 0) = xse (B.getD j (0, 0, 0)) := by
    rw [List.getD_eq_getElem?_getD, List.getElem?_map, List.getD_eq_getElem?_getD, List.getElem?_eq_getElem hj]
    rfl
  have hm : B.getD j (0, 0, 0) ∈ B := by
    rw [List.getD_eq_getElem?_getD, List.getElem?_eq_getElem hj]
    exact List.getElem_mem hj
  rw [e]
  exact h (B.getD j (0, 0, 0)) hm
def xCr (K : List (Int × Int)) (C : xC) : Prop := (0 ≤ C.1 ∧ C.1 ≤ ((K ++ C.2.2.1).length : Nat)) ∧ xrg ((K ++ C.2.2.1).length : Nat) C.2.2.2
theorem xCr_cap {K : List (Int × Int)} {C : xC} (h : xCr K C) : xCr K (xcap K C) := by
  obtain ⟨h1, h2⟩ := h
  refine ⟨h1, xrg_app h2 fun b hb => ?_⟩
  rw [List.mem_singleton.mp hb]
  exact ⟨h1.1, h1.2, Int.le_refl _⟩
theorem xCr_eos {K : List (Int × Int)} {C : xC} {op : Int} {tm oa : List Int} {ki sg : Int} (h : xCr K C) : xCr K (xceos op tm oa ki sg C) := by
  unfold xceos
  split
  · exact h
  · exact ⟨h.1, xrg_app h.2 (xrg_rd h.2 _)⟩
theorem xCr_st {K : List (Int × Int)} {G : Nat → List xBt} (hG : ∀ i, xgk K (G i)) {ki di sg sl at' ol : Int} {q : xA} {C : xC} (h : xCr K C) : xCr K (xcst K G ki di sg sl at' ol q C) := by
  unfold xcst
  split
  · exact h
  · exact h
  · split
    · exact h
    · split
      · refine ⟨h.1, xrg_app h.2 (xrg_map (fun b => ⟨rfl, rfl⟩) (xrg_mono ?_ (xrg_gk (hG _))))⟩
        rw [List.length_append]
        omega
      · split
        · exact ⟨⟨by omega, Int.le_refl _⟩, h.2⟩
        · exact h
  · exact h
  · split
    · exact h
    · exact h
  · split
    · obtain ⟨h1, h2⟩ := h
      have e : ((K ++ C.2.2.1).length : Int) ≤ ((K ++ (C.2.2.1 ++ [(C.2.1, at')])).length : Nat) := by
        simp only [List.length_append]
        omega
      exact ⟨⟨h1.1, Int.le_trans h1.2 e⟩, xrg_mono e h2⟩
    · exact h
  · split
    · exact h
    · exact xCr_eos (xCr_cap h)
  · exact xCr_eos h
theorem xCr_gc {K : List (Int × Int)} {G : Nat → List xBt} (hG : ∀ i, xgk K (G i)) {cs : List Int} {n : Nat} {nms : List (List Int)} {bc dp : Nat → Int} : ∀ (k p : Nat) (q : xA) (C : xC), xCr K C → xCr K (xgc K G cs n nms bc dp k p q C) := by
  intro k
  induction k with
  | zero => intro p q C h; exact h
  | succ k ih =>
    intro p q C h
    unfold xgc
    split
    · split
      · exact xCr_cap h
      · exact h
    · split
      · exact ⟨⟨Int.le_refl _, by show (0 : Int) ≤ _; omega⟩, fun b hb => by cases hb⟩
      · exact ih _ _ _ (xCr_st hG h)
theorem xgk_gc {K : List (Int × Int)} {G : Nat → List xBt} (hG : ∀ i, xgk K (G i)) {cs : List Int} {n : Nat} {nms : List (List Int)} {bc dp : Nat → Int} {k p : Nat} {q : xA} {C : xC} (h : C = xgc K G cs n nms bc dp k p q xC0) : xgk (K ++ C.2.2.1) (C.2.2.2.map xse) := by
  subst h
  refine xgk_rg (xCr_gc hG k p q xC0 ⟨⟨Int.le_refl _, ?_⟩, fun b hb => by cases hb⟩).2
  show (0 : Int) ≤ _
  omega
end
section
/-! The calls that change the text or the book keep what holds. -/
theorem yM_cells {f f' : Nat → zE} (hM : yM yT2 (xh f)) (L : List Nat) (h1 : ∀ p, ¬ p ∈ L → f' p = f p) (h2 : ∀ p ∈ L, ∃ t, yT2[p - 50]? = some t ∧ yok t (f' p)) : yM yT2 (xh f') := by
  refine yM_up yT2_len hM fun p _ _ => ?_
  by_cases hp : p ∈ L
  · exact Or.inr (h2 p hp)
  · exact Or.inl (h1 p hp)
theorem yc_c {P : Nat → Prop} {a : Nat} {l : List Nat} (h1 : P a) (h2 : ∀ p ∈ l, P p) : ∀ p ∈ a :: l, P p := fun p hp => by
  rcases List.mem_cons.mp hp with e | e
  · rw [e]; exact h1
  · exact h2 p e
theorem yc_n {P : Nat → Prop} : ∀ p ∈ ([] : List Nat), P p := fun p hp => by cases hp
theorem yok_fs {ci k : Nat} {as : List yA} {fs : List Value} {a : yA} {v : Value} (h : yok (.inl (ci, as)) (.inl (ci, fs))) (ha : as[k]? = some a) (hv : yg a v) : yok (.inl (ci, as)) (.inl (ci, fs.set k v)) := by
  obtain ⟨h1, h2, h3⟩ := h
  refine ⟨h1, ?_, fun j b w hb hw => ?_⟩
  · show as.length = (fs.set k v).length
    rw [List.length_set]
    exact h2
  · have hw' : (fs.set k v)[j]? = some w := hw
    by_cases e : k = j
    · subst e
      have hb' : as[k]? = some b := hb
      rw [ha] at hb'
      cases hb'
      have hl : k < (fs.set k v).length := (List.getElem?_eq_some_iff.mp hw').1
      rw [List.length_set] at hl
      rw [List.getElem?_set_self hl] at hw'
      cases hw'
      exact hv
    · rw [List.getElem?_set_ne e] at hw'
      exact h3 j b w hb hw'
theorem xM_at {f : Nat → zE} (hM : yM yT2 (xh f)) {p : Nat} {t : yC} (hp : 50 ≤ p ∧ p < 204) (ht : yT2[p - 50]? = some t) : yok t (f p) := by
  obtain ⟨c, hc, hok⟩ := hM.2 _ t ht
  have e := xh_at (f := f) hp.1 hp.2
  rw [hc] at e
  rw [← Option.some.inj e]
  exact hok
theorem xwr_rg {g : Int64} {n : Int} {cs : List Int} (h : ∀ j : Nat, 0 ≤ cs.getD j 0 ∧ cs.getD j 0 ≤ 126) : ∀ k, xok g k → ∀ j : Nat, 0 ≤ (xwr g n cs k).getD j 0 ∧ (xwr g n cs k).getD j 0 ≤ 126 := by
  intro k
  induction k with
  | zero => intro _ j; exact h j
  | succ k ih =>
    intro hk j
    have ih' := ih (fun i hi => hk i (by omega))
    have hb := hk k (by omega)
    simp only [xwr]
    split
    · exact ih' j
    · rw [x_gset]
      split
      · omega
      · exact ih' j
/-- a text that has changed, and the model's code -/
theorem xINV_tx {f f2 : Nat → zE} {n n' : Nat} {cs cs' : List Int} {nms : List (List Int)} {bc dp tk0 : Nat → Int} {KK : List (Int × Int)} {GG : Nat → List xBt} {RR : Nat → Int × Int} (h : xINV f n cs nms bc dp tk0 KK GG RR) (hn : n' ≤ 100) (hl : cs'.length = 100) (hcs : ∀ j : Nat, 0 ≤ cs'.getD j 0 ∧ cs'.getD j 0 ≤ 126) (h51 : f2 51 = .inl (1, [.ref 52, xi (n' : Nat)])) (h52 : f2 52 = xr 1 cs') (h178 : f2 178 = xr 1 cs') (h177 : ∃ (cd' : Int) (fs : List Value), f 177 = .inl (10, fs) ∧ f2 177 = .inl (10, (fs.set 0 (xi cd')).set 1 (xi (n' : Nat)))) (hfr : ∀ p, p ≠ 51 → p ≠ 52 → p ≠ 177 → p ≠ 178 → f2 p = f p) : xINV f2 n' cs' nms bc dp tk0 KK GG RR := by
  obtain ⟨hM, ⟨t1, t2, t3, t4, t5, t6⟩, hN, ⟨c1, c2, c3, kp, al, ⟨Ec, Bc, dr, op, ex, bs, sl, pt, tm, oa, ki, st, en, wo, di, sg, nmd, m, d, h109, hbs, hsl, h53, h110, h111, q1, q2, q3, q4, h112, hd, se, at', h55, h56, p1⟩, hkp⟩, ⟨cd, fa, ki2, be, en2, wo2, nu, pa0, op2, q, nl, m0, d0, tmM, oaM, Ee, Bb, k177, hpa, h179, hnl, hnm, ⟨cn, dn, tk, pf, pq, k0, k1, k2, k3, k4, hmd⟩, h187, h188, l1, l2, se2, at2, h185, h186, hms⟩, hK⟩ := h
  have hc := hN.1
  obtain ⟨cd', fs, f177, g177⟩ := h177
  rw [k177] at f177
  cases f177
  have h177' : f2 177 = xmo cd' (n' : Nat) fa ki2 be en2 wo2 nu (nms.length : Nat) pa0 op2 q := g177
  have P : ∀ p, p ≠ 51 ∧ p ≠ 52 ∧ p ≠ 177 ∧ p ≠ 178 → f2 p = f p := fun p hp => hfr p hp.1 hp.2.1 hp.2.2.1 hp.2.2.2
  have hM2 : yM yT2 (xh f2) := by
    refine yM_cells hM [51, 52, 177, 178] (fun p hp => ?_) (yc_c ⟨_, rfl, ?_⟩ (yc_c ⟨_, rfl, ?_⟩ (yc_c ⟨_, yT2_177, ?_⟩ (yc_c ⟨_, rfl, ?_⟩ yc_n))))
    · simp only [List.mem_cons, List.not_mem_nil, or_false, not_or] at hp
      exact P p hp
    · rw [h51]; exact yok_o ⟨ygr, ygi (by omega) (by omega) (by omega) (by omega), trivial⟩
    · rw [h52]; exact yok_r1 hl (by decide) (fun j _ => ⟨(hcs j).1, by have := hcs j; omega⟩)
    · have h0 := xM_at hM (p := 177) (by decide) yT2_177
      rw [k177] at h0
      rw [h177']
      exact yok_fs (k := 1) (yok_fs (k := 0) (v := xi cd') h0 rfl ygt) rfl (ygi (by omega) (by omega) (by omega) (by omega))
    · rw [h178]; exact yok_r1 hl (by decide) (fun j _ => ⟨(hcs j).1, by have := hcs j; omega⟩)
  have FD : ∀ i, i < 13 → ∀ (B : List xBt) (nm : Int64) (m d : Int) (al : Value), xDR B i f nm m d al → xDR B i f2 nm m d al := by
    rintro i hi B nm m d al ⟨a1, a2, fp, ep, ta, a3, a4, a5, a6, a7⟩
    exact ⟨a1, a2, fp, ep, ta, (P _ (by omega)).trans a3, (P _ (by omega)).trans a4, (P _ (by omega)).trans a5, (P _ (by omega)).trans a6, a7⟩
  refine ⟨hM2, ⟨hn, hl, hcs, h51, h52, h178⟩, hN, ⟨c1, ?_, ?_, kp, al, ⟨Ec, Bc, dr, op, ex, bs, sl, pt, tm, oa, ki, st, en, wo, di, sg, nmd, m, d, (P _ (by decide)).trans h109, hbs, hsl, (P _ (by decide)).trans h53, (P _ (by decide)).trans h110, (P _ (by decide)).trans h111, q1, q2, q3, q4, (P _ (by decide)).trans h112, FD _ (by omega) _ _ _ _ _ hd, se, at', (P _ (by decide)).trans h55, (P _ (by decide)).trans h56, p1⟩, hkp⟩, ⟨cd', fa, ki2, be, en2, wo2, nu, pa0, op2, q, nl, m0, d0, tmM, oaM, Ee, Bb, h177', hpa, (P _ (by decide)).trans h179, hnl, hnm, ⟨cn, dn, tk, pf, pq, (P _ (by decide)).trans k0, (P _ (by decide)).trans k1, (P _ (by decide)).trans k2, (P _ (by decide)).trans k3, (P _ (by decide)).trans k4, hmd⟩, (P _ (by decide)).trans h187, (P _ (by decide)).trans h188, l1, l2, se2, at2, (P _ (by decide)).trans h185, (P _ (by decide)).trans h186, hms⟩, hK⟩
  · intro i hi
    obtain ⟨al2, a1, a2, fp, ep, ta, a3, a4, a5, a6, a7⟩ := c2 i hi
    exact ⟨al2, a1, a2, fp, ep, ta, (P _ (by omega)).trans a3, (P _ (by omega)).trans a4, (P _ (by omega)).trans a5, (P _ (by omega)).trans a6, a7⟩
  · intro i hi1 hi2
    obtain ⟨B2, nmd2, m2, d2, al2, hk⟩ := c3 i hi1 hi2
    exact ⟨B2, nmd2, m2, d2, al2, FD _ (by omega) _ _ _ _ _ hk⟩
/-! A new call's name. -/
theorem xfi_ge {w : List Int} : ∀ {l : List (List Int)} {i : Int}, 0 ≤ i → w ∈ l → 0 ≤ xfi (some w) l i := by
  intro l
  induction l with
  | nil => intro i _ h; cases h
  | cons a r ih =>
    intro i hi h
    simp only [xfi]
    split
    · exact hi
    · rename_i hne
      rcases List.mem_cons.mp h with e | e
      · exact absurd (by rw [e]) hne
      · exact ih (by omega) e
theorem xgo_name {cs : List Int} {n : Nat} {nms : List (List Int)} {bc dp : Nat → Int} {tm oa : List Int} {k : Nat} {r : Int × Int} (h : xgo cs n nms bc dp (k + 1) 0 (xq0 tm oa) = .inr r) : ∃ w, xwd cs (xtf cs n 0).2.1 (xtf cs n 0).2.2 = some w ∧ xwf w ∧ w ∉ nms ∧ w ∉ selW := by
  obtain ⟨ki, s, e, hT⟩ := xTK_ex cs n 0 (by omega)
  have ht := xtf_eq hT
  rw [xgo, ht] at h
  rw [ht]
  dsimp only at h ⊢
  by_cases k0 : ki = 0
  · rw [if_pos k0] at h
    simp [xfin, xfo] at h
  · rw [if_neg k0] at h
    split at h
    · cases h
    · rename_i q' hq
      simp only [xtq, xstep] at hq
      split at hq
      · rename_i hc
        obtain ⟨k1, k2, k3, k4, k5⟩ := hc
        obtain ⟨hwo, he, hs⟩ := xTK_w hT k1
        cases hw : xwd cs s e with
        | none => rw [hw] at k2; cases k2
        | some w =>
          rw [hw] at k3 k4
          refine ⟨w, rfl, ⟨?_, (hwo w hw).1, (hwo w hw).2⟩, ?_, ?_⟩
          · intro e0
            rw [e0] at hw
            exact xwd_ne ((xTK_rg hT (by omega)).2.2.2.2.2.1 k0) hw
          · intro hm
            have := xfi_ge (i := 0) (by omega) hm
            omega
          · intro hm
            have := xfi_ge (i := 0) (by omega) hm
            omega
      · cases hq
/-! The class's side of define, the types. -/
theorem yT2_fig2 : ∀ f : Nat, f < 13 → yT2[8 + 4 * f]? = some (.inr (.inl (0, [(16, 0, 208)]))) ∧ yT2[9 + 4 * f]? = some (.inr (.inl (0, [(16, 0, 208)]))) := fun f hf => match f, hf with
  | 0, _ => ⟨rfl, rfl⟩
  | 1, _ => ⟨rfl, rfl⟩
  | 2, _ => ⟨rfl, rfl⟩
  | 3, _ => ⟨rfl, rfl⟩
  | 4, _ => ⟨rfl, rfl⟩
  | 5, _ => ⟨rfl, rfl⟩
  | 6, _ => ⟨rfl, rfl⟩
  | 7, _ => ⟨rfl, rfl⟩
  | 8, _ => ⟨rfl, rfl⟩
  | 9, _ => ⟨rfl, rfl⟩
  | 10, _ => ⟨rfl, rfl⟩
  | 11, _ => ⟨rfl, rfl⟩
  | 12, _ => ⟨rfl, rfl⟩
theorem xfig_m : ∀ i : Nat, i < 13 → (57 + 4 * i) ∈ [57, 61, 65, 69, 73, 77, 81, 85, 89, 93, 97, 101, 105] := by decide
theorem xcl_M {Bx : List xBt} {Kx Ex : List (Int × Int)} {ptx : Int} {f f1 : Nat → zE} {c : Nat} {dd v lc al : Value} {n' c' kp pt op ex bs sl ki st en di sg m d : Int} {wo nm : Int64} {tm oa : List Int} (hc : c ≤ 12) (hM : yM yT2 (xh f)) (hdd : yg (.inl (0, 24)) dd) (hv : yg (.inl ytop) v) (hlc : yg (.inl ytop) lc) (hal : yg (.inl (0, 1)) al) (h50 : f1 50 = xfc dd v lc) (h51 : f1 51 = .inl (1, [.ref 52, xi n'])) (hn' : 0 ≤ n' ∧ n' ≤ 100) (h53 : f1 53 = xbo c' kp pt) (hb : (0 ≤ c' ∧ c' ≤ 12) ∧ (0 ≤ kp ∧ kp ≤ 208) ∧ 0 ≤ pt ∧ pt ≤ 208) (h109 : f1 109 = xrd c op ex bs sl) (h110 : f1 110 = xr 0 tm) (h111 : f1 111 = xr 0 oa) (l1 : tm.length = 3) (l2 : oa.length = 3) (b1 : ∀ j : Nat, 0 ≤ tm.getD j 0 ∧ tm.getD j 0 ≤ 4) (b2 : ∀ j : Nat, 0 ≤ oa.getD j 0 ∧ oa.getD j 0 ≤ 17) (h112 : f1 112 = xtk ki st en wo di sg) (hDR : xDR Bx c f1 nm m d al) (hPT : xPT Kx Ex ptx f1) (hfr : ∀ p, p ≠ 50 → p ≠ 51 → p ≠ 53 → p ≠ 55 → p ≠ 56 → p ≠ 57 + 4 * c → p ≠ 58 + 4 * c → p ≠ 59 + 4 * c → p ≠ 60 + 4 * c → p ≠ 109 → p ≠ 110 → p ≠ 111 → p ≠ 112 → f1 p = f p) : yM yT2 (xh f1) := by
  obtain ⟨a1, a2, fp, ep, ta, a3, a4, a5, a6, ⟨g1, g2, g3, r1, r2, r3, r4⟩, -⟩ := hDR
  obtain ⟨se, at', e1, e2, e3, e4, e5, e6, -⟩ := hPT
  obtain ⟨y1, y2⟩ := yT2_fig c (by omega)
  obtain ⟨y3, y4⟩ := yT2_fig2 c (by omega)
  refine yM_cells hM [50, 51, 53, 55, 56, 57 + 4 * c, 58 + 4 * c, 59 + 4 * c, 60 + 4 * c, 109, 110, 111, 112] (fun p hp => ?_) (yc_c ⟨_, rfl, ?_⟩ (yc_c ⟨_, rfl, ?_⟩ (yc_c ⟨_, rfl, ?_⟩ (yc_c ⟨_, rfl, ?_⟩ (yc_c ⟨_, rfl, ?_⟩ (yc_c ⟨_, by rw [show 57 + 4 * c - 50 = 7 + 4 * c by omega]; exact y1, ?_⟩ (yc_c ⟨_, by rw [show 58 + 4 * c - 50 = 8 + 4 * c by omega]; exact y3, ?_⟩ (yc_c ⟨_, by rw [show 59 + 4 * c - 50 = 9 + 4 * c by omega]; exact y4, ?_⟩ (yc_c ⟨_, by rw [show 60 + 4 * c - 50 = 10 + 4 * c by omega]; exact y2, ?_⟩ (yc_c ⟨_, rfl, ?_⟩ (yc_c ⟨_, rfl, ?_⟩ (yc_c ⟨_, rfl, ?_⟩ (yc_c ⟨_, rfl, ?_⟩ yc_n)))))))))))))
  · simp only [List.mem_cons, List.not_mem_nil, or_false, not_or] at hp
    obtain ⟨i1, i2, i3, i4, i5, i6, i7, i8, i9, i10, i11, i12, i13⟩ := hp
    exact hfr p i1 i2 i3 i4 i5 i6 i7 i8 i9 i10 i11 i12 i13
  · rw [h50]; exact yok_o ⟨ygr, ygr, ygr, ygr, ygr, ygr, ygr, ygr, ygr, ygr, hdd, hv, hlc, trivial⟩
  · rw [h51]; exact yok_o ⟨ygr, ygi hn'.1 hn'.2 (by omega) (by omega), trivial⟩
  · rw [h53]; exact yok_o ⟨ygr, ygr, ygr, ygi hb.1.1 hb.1.2 (by omega) (by omega), ygi hb.2.1.1 hb.2.1.2 (by omega) (by omega), ygi hb.2.2.1 hb.2.2.2 (by omega) (by omega), trivial⟩
  · rw [e1]; exact yok_r1 e3 (by decide) (fun j _ => e5 j)
  · rw [e2]; exact yok_r1 e4 (by decide) (fun j _ => e6 j)
  · rw [a3]; exact yok_o ⟨ygr, ygr, ygr, ygl, ygi a1 a2 (by omega) (by omega), ygt, hal, trivial⟩
  · rw [a4]; exact yok_r1 g1 (by decide) (fun j _ => r1 j)
  · rw [a5]; exact yok_r1 g2 (by decide) (fun j _ => r2 j)
  · rw [a6]; exact yok_r1 g3 (by decide) (fun j _ => ⟨(r3 j).1, by have := r3 j; omega⟩)
  · rw [h109]; exact yok_o ⟨ygr, ygr, ygr, ygr, ygr, ⟨_, rfl, xfig_m c (by omega)⟩, ygt, ygt, ygt, ygt, trivial⟩
  · rw [h110]; exact yok_r1 l1 (by decide) (fun j _ => b1 j)
  · rw [h111]; exact yok_r1 l2 (by decide) (fun j _ => b2 j)
  · rw [h112]; exact yok_o ⟨ygr, ygt, ygt, ygt, ygl, ygt, ygt, trivial⟩
/-! The model's side, the types. -/
theorem xmd_M {Rx : Nat → Int × Int} {Bx : List xBt} {Kx Ex : List (Int × Int)} {f f' : Nat → zE} {cd n fa ki be en nu ca pa op cd' n' fa' ki' be' en' nu' ca' pa' op' m d : Int} {wo wo' : Int64} {q : Nat → Value} {nl : List Int64} {cn0 dn0 tk0 : Nat → Int} {tmM oaM : List Int} (hM : yM yT2 (xh f)) (h177 : f 177 = xmo cd n fa ki be en wo nu ca pa op q) (k177 : f' 177 = xmo cd' n' fa' ki' be' en' wo' nu' ca' pa' op' q) (hn : 0 ≤ n' ∧ n' ≤ 100) (hca : 0 ≤ ca' ∧ ca' ≤ 12) (h179 : f' 179 = .inr (.inr (.inl nl))) (hnl : nl.length = 13) (hmd : xMD Rx Bx cn0 dn0 tk0 f' m d) (hcn : ∀ i, i < 12 → 0 ≤ cn0 i ∧ cn0 i ≤ 16) (htk : ∀ j, j < 192 → 0 ≤ tk0 j ∧ tk0 j ≤ 16) (h187 : f' 187 = xr 0 tmM) (h188 : f' 188 = xr 0 oaM) (l1 : tmM.length = 3) (l2 : oaM.length = 3) (hMS : xMS Kx Ex f') (hfr : ∀ p, p ≠ 177 → p ≠ 179 → p ≠ 180 → p ≠ 181 → p ≠ 182 → p ≠ 183 → p ≠ 184 → p ≠ 185 → p ≠ 186 → p ≠ 187 → p ≠ 188 → f' p = f p) : yM yT2 (xh f') := by
  obtain ⟨cn, dn, tk, pf, pq, e1, e2, e3, e4, e5, ⟨g1, g2, g3, g4, g5⟩, r1, r2, r3, r4, r5, -⟩ := hmd
  obtain ⟨se, at', s1, s2, s3, s4, s5, s6, -⟩ := hMS
  refine yM_cells hM [177, 179, 180, 181, 182, 183, 184, 185, 186, 187, 188] (fun p hp => ?_) (yc_c ⟨_, yT2_177, ?_⟩ (yc_c ⟨_, rfl, ?_⟩ (yc_c ⟨_, rfl, ?_⟩ (yc_c ⟨_, rfl, ?_⟩ (yc_c ⟨_, rfl, ?_⟩ (yc_c ⟨_, rfl, ?_⟩ (yc_c ⟨_, rfl, ?_⟩ (yc_c ⟨_, rfl, ?_⟩ (yc_c ⟨_, rfl, ?_⟩ (yc_c ⟨_, rfl, ?_⟩ (yc_c ⟨_, rfl, ?_⟩ yc_n)))))))))))
  · simp only [List.mem_cons, List.not_mem_nil, or_false, not_or] at hp
    obtain ⟨i1, i2, i3, i4, i5, i6, i7, i8, i9, i10, i11⟩ := hp
    exact hfr p i1 i2 i3 i4 i5 i6 i7 i8 i9 i10 i11
  · have h0 := xM_at hM (p := 177) (by decide) yT2_177
    rw [h177] at h0
    rw [k177]
    exact yok_o ⟨ygt, ygi hn.1 hn.2 (by omega) (by omega), ygr, ygt, ygt, ygt, ygt, ygl, ygt, ygi hca.1 hca.2 (by omega) (by omega), ygr, ygr, ygr, ygr, ygr, ygr, ygt, ygr, ygr, ygt, ygr, ygr, ygr, ygr, ygr, ygr, ygr, ygr, h0.2.2 28 _ _ rfl rfl, h0.2.2 29 _ _ rfl rfl, h0.2.2 30 _ _ rfl rfl, h0.2.2 31 _ _ rfl rfl, ygr, ygr, ygr, ygr, h0.2.2 36 _ _ rfl rfl, ygr, ygr, ygr, ygr, trivial⟩
  · rw [h179]; exact hnl
  · rw [e1]; exact yok_2 g1 (Or.inr ⟨by decide, by decide, fun j hj => by rw [r3 j hj]; exact hcn j hj⟩) (Or.inl rfl)
  · rw [e2]; exact yok_t1 g2
  · rw [e3]; exact yok_2 g3 (Or.inr ⟨by decide, by decide, fun j hj => by rw [(r5 j hj).1]; exact htk j hj⟩) (Or.inl rfl)
  · rw [e4]; exact yok_2 g4 (Or.inr ⟨by decide, by decide, fun j hj => (r5 j hj).2.1⟩) (Or.inl rfl)
  · rw [e5]; exact yok_2 g5 (Or.inr ⟨by decide, by decide, fun j hj => (r5 j hj).2.2⟩) (Or.inl rfl)
  · rw [s1]; exact yok_r1 s3 (by decide) (fun j _ => s5 j)
  · rw [s2]; exact yok_r1 s4 (by decide) (fun j _ => s6 j)
  · rw [h187]; exact yok_t1 l1
  · rw [h188]; exact yok_t1 l2
end
section
/-! Define keeps what holds: a call more, or none. -/
theorem xMS_r {K E : List (Int × Int)} {f : Nat → zE} (h : xMS K E f) : xMS (K ++ E) [] f := by
  obtain ⟨se, at', s1, s2, s3, s4, s5, s6, s7⟩ := h
  exact ⟨se, at', s1, s2, s3, s4, s5, s6, fun j hj => by rw [List.append_nil] at hj ⊢; exact s7 j hj⟩
theorem xINV_acc {C : xC} {f f1 f2 f3 : Nat → zE} {n : Nat} {cs : List Int} {nms : List (List Int)} {bc dp tk0 : Nat → Int} {KK : List (Int × Int)} {GG : Nat → List xBt} {RR : Nat → Int × Int} {w : List Int} {b e : Int} {al dd lc : Value} {q : Nat → Value} {nl : List Int64} {cd fa ki be en nu pa0 op : Int} {wo g : Int64} (h : xINV f n cs nms bc dp tk0 KK GG RR) (hc : nms.length < 12) (hw : xwf w) (hwn : w ∉ nms) (hws : w ∉ selW) (hAC : xAC f KK C nms.length (Int64.ofInt (xpr w.reverse)) b e al dd lc f1) (hgC : xgk (KK ++ C.2.2.1) (C.2.2.2.map xse)) (hKp : (KK.length : Int) = pa0) (hdd : yg (.inl (0, 24)) dd) (hlc : yg (.inl ytop) lc) (hal : yg (.inl (0, 1)) al) (h2 : ∀ p, p ≠ 203 → f2 p = f1 p) (h203 : f2 203 = .inr (.inr (.inl [g]))) (h177 : f 177 = xmo cd (n : Nat) fa ki be en wo nu (nms.length : Nat) pa0 op q) (hpa : 0 ≤ pa0 ∧ pa0 ≤ 16 * (nms.length : Nat)) (hnll : nl.length = 13) (hnl : ∀ k, k < nms.length → nl.getD k 0 = Int64.ofInt (xpr (nms.getD k []))) (hMK : xMK KK RR C n nms bc dp tk0 pa0 q nl (Int64.ofInt (xpr w)) f2 f3 b e) : ∃ bc' dp' tk' RR', xINV f3 0 cs (nms ++ [w]) bc' dp' tk' (KK ++ C.2.2.1) (fun i => if i = nms.length then C.2.2.2.map xse else GG i) RR' := by
  obtain ⟨hM, ⟨t1, t2, t3, t4, t5, t6⟩, ⟨n1, n2, n3, n4⟩, ⟨c1, c2, c3, kp0, al0, hrd0⟩, hMO0, ⟨⟨z1, z2, z3⟩, zG1, zG2⟩⟩ := h
  obtain ⟨pt, bs, sl, tm, oa, Bn, hpt, hbs, hsl1, hsl2, h50, h51, h53, hKF, hBn, h109, h110, h111, hbr, hPT, ⟨kt, stt, ent, wot, dit, sgt, h112⟩, hfr⟩ := hAC
  obtain ⟨hb, he, kM, be', en', wo', nu', pa, op', tmM, oaM, tk1, R1, k177, hpa', k179, kmd, ktk, ktk0, ktkc, kR0, kRc, k187, k188, kl1, kl2, kms, kfr⟩ := hMK
  obtain ⟨-, -, -, bl1, bl2, bb1, bb2, -⟩ := hbr
  have hL : (nms ++ [w]).length = nms.length + 1 := by simp
  have hKE : (KK ++ C.2.2.1).length ≤ 208 := by omega
  have hBn := hBn hKE
  subst hBn
  have hDRc : xDR (C.2.2.2.map xse) nms.length f1 (Int64.ofInt (xpr w.reverse)) b e al := by
    obtain ⟨a1, a2, fp, ep, ta, a3, a4, a5, a6, a7, -, a8⟩ := hKF
    exact ⟨a1, by omega, fp, ep, ta, a3, a4, a5, a6, a7, a8⟩
  have hptl : ((KK ++ C.2.2.1).length : Int) = pt := by
    obtain ⟨se, at', -, -, -, -, -, -, -, -, hx⟩ := hPT
    exact (hx hKE).1
  have hM1 : yM yT2 (xh f1) := xcl_M (c := nms.length) (by omega) hM hdd ygt hlc hal h50 h51 (by omega) h53 (by omega) h109 h110 h111 bl1 bl2 bb1 bb2 h112 hDRc hPT hfr
  have hM2 : yM yT2 (xh f2) := yM_cells hM1 [203] (fun p hp => h2 p (by simpa using hp)) (yc_c ⟨_, rfl, by rw [h203]; exact rfl⟩ yc_n)
  have P1 : ∀ p, (p ≠ 50 ∧ p ≠ 51 ∧ p ≠ 53 ∧ p ≠ 55 ∧ p ≠ 56 ∧ p ≠ 57 + 4 * nms.length ∧ p ≠ 58 + 4 * nms.length ∧ p ≠ 59 + 4 * nms.length ∧ p ≠ 60 + 4 * nms.length ∧ p ≠ 109 ∧ p ≠ 110 ∧ p ≠ 111 ∧ p ≠ 112 ∧ p ≠ 203) → f2 p = f p := by
    rintro p ⟨i1, i2, i3, i4, i5, i6, i7, i8, i9, i10, i11, i12, i13, i14⟩
    exact (h2 p i14).trans (hfr p i1 i2 i3 i4 i5 i6 i7 i8 i9 i10 i11 i12 i13)
  have P3 : ∀ p, (p ≠ 177 ∧ p ≠ 179 ∧ p ≠ 180 ∧ p ≠ 181 ∧ p ≠ 182 ∧ p ≠ 183 ∧ p ≠ 184 ∧ p ≠ 185 ∧ p ≠ 186 ∧ p ≠ 187 ∧ p ≠ 188) → f3 p = f2 p := by
    rintro p ⟨i1, i2, i3, i4, i5, i6, i7, i8, i9, i10, i11⟩
    exact kfr p i1 i2 i3 i4 i5 i6 i7 i8 i9 i10 i11
  have P4 : ∀ p, (p ≠ 203 ∧ p ≠ 177 ∧ p ≠ 179 ∧ p ≠ 180 ∧ p ≠ 181 ∧ p ≠ 182 ∧ p ≠ 183 ∧ p ≠ 184 ∧ p ≠ 185 ∧ p ≠ 186 ∧ p ≠ 187 ∧ p ≠ 188) → f3 p = f1 p := fun p hp => (P3 p hp.2).trans (h2 p hp.1)
  have hcn : ∀ i, i < 12 → 0 ≤ (if i = nms.length then b else bc i) ∧ (if i = nms.length then b else bc i) ≤ 16 := by
    intro i hi
    split
    · omega
    · exact z1 i hi
  have hM3 : yM yT2 (xh f3) := xmd_M (n' := 0) (ca' := (nms.length : Nat) + 1) hM2 ((P1 177 (by omega)).trans h177) k177 (by omega) (by omega) k179 (by rw [List.length_set, List.length_set]; exact hnll) kmd hcn ktk k187 k188 kl1 kl2 kms kfr
  have G1 : ∀ i, i < nms.length → (nms ++ [w]).getD i [] = nms.getD i [] := fun i hi => by rw [List.getD_eq_getElem?_getD, List.getD_eq_getElem?_getD, List.getElem?_append_left hi]
  have G2 : (nms ++ [w]).getD nms.length [] = w := by rw [List.getD_eq_getElem?_getD, List.getElem?_append_right (Nat.le_refl _)]; simp
  have FD : ∀ i, i < 13 → i ≠ nms.length → ∀ (B : List xBt) (nm : Int64) (m d : Int) (al : Value), xDR B i f nm m d al → xDR B i f3 nm m d al := by
    rintro i hi hne B nm m d al ⟨a1, a2, fp, ep, ta, a3, a4, a5, a6, a7⟩
    exact ⟨a1, a2, fp, ep, ta, ((P3 _ (by omega)).trans (P1 _ (by omega))).trans a3, ((P3 _ (by omega)).trans (P1 _ (by omega))).trans a4, ((P3 _ (by omega)).trans (P1 _ (by omega))).trans a5, ((P3 _ (by omega)).trans (P1 _ (by omega))).trans a6, a7⟩
  obtain ⟨B9, nmd, m, d, al2, hdr⟩ := c3 (nms.length + 1) (by omega) (by omega)
  obtain ⟨se, at', e1, e2, e3, e4, e5, e6, e7, e8, e9⟩ := hPT
  obtain ⟨-, e9⟩ := e9 hKE
  refine ⟨fun i => if i = nms.length then b else bc i, fun i => if i = nms.length then e else dp i, tk1, R1, hM3, ⟨by omega, t2, t3, (P4 _ (by omega)).trans h51, ((P3 _ (by omega)).trans (P1 _ (by omega))).trans t5, ((P3 _ (by omega)).trans (P1 _ (by omega))).trans t6⟩, ⟨by omega, ?_, ?_, ?_⟩, ⟨?_, ?_, ?_, pt, al2, ⟨[], B9, 57 + 4 * nms.length, 0, 7, bs, sl, pt, tm, oa, kt, stt, ent, wot, dit, sgt, nmd, m, d, (P4 _ (by omega)).trans h109, hbs, ⟨hsl1, hsl2⟩, ?_, (P4 _ (by omega)).trans h110, (P4 _ (by omega)).trans h111, bl1, bl2, bb1, bb2, (P4 _ (by omega)).trans h112, ?_, se, at', (P4 _ (by omega)).trans e1, (P4 _ (by omega)).trans e2, e3, e4, e5, e6, by omega, e9, fun _ => ⟨by rw [List.append_nil]; exact hptl, fun j hj => by rw [List.append_nil] at hj ⊢; exact e9 j hj⟩⟩, hpt, hptl⟩, ⟨0, -1, kM, be', en', wo', nu', pa, op', q, _, b, e, tmM, oaM, [], C.2.2.2, ?_, ⟨by rw [hL]; omega, by omega⟩, k179, by rw [List.length_set, List.length_set]; exact hnll, ?_, kmd, k187, k188, kl1, kl2, xMS_r kms⟩, ⟨hcn, ?_, ktk⟩, ?_, ?_⟩
  · intro v hv
    rcases List.mem_append.mp hv with h1 | h1
    · exact n2 v h1
    · rw [List.mem_singleton.mp h1]; exact hw
  · refine List.nodup_append.mpr ⟨n3, by simp, ?_⟩
    intro a ha c hcm e0
    rw [List.mem_singleton.mp hcm] at e0
    exact hwn (e0 ▸ ha)
  · intro v hv
    rcases List.mem_append.mp hv with h1 | h1
    · exact n4 v h1
    · rw [List.mem_singleton.mp h1]; exact hws
  · intro i hi
    dsimp only
    split
    · exact he
    · exact c1 i (by omega)
  · intro i hi
    dsimp only
    by_cases hic : i = nms.length
    · subst hic
      rw [if_pos rfl, if_pos rfl, if_pos rfl, G2]
      obtain ⟨a1, a2, fp, ep, ta, a3, a4, a5, a6, a7⟩ := hKF
      exact ⟨al, a1, a2, fp, ep, ta, (P4 _ (by omega)).trans a3, (P4 _ (by omega)).trans a4, (P4 _ (by omega)).trans a5, (P4 _ (by omega)).trans a6, a7⟩
    · rw [if_neg hic, if_neg hic, if_neg hic, G1 i (by omega)]
      obtain ⟨al3, a1, a2, fp, ep, ta, a3, a4, a5, a6, a7⟩ := c2 i (by omega)
      exact ⟨al3, a1, a2, fp, ep, ta, ((P3 _ (by omega)).trans (P1 _ (by omega))).trans a3, ((P3 _ (by omega)).trans (P1 _ (by omega))).trans a4, ((P3 _ (by omega)).trans (P1 _ (by omega))).trans a5, ((P3 _ (by omega)).trans (P1 _ (by omega))).trans a6, a7⟩
  · intro i hi1 hi2
    obtain ⟨B2, nmd2, m2, d2, al3, hk⟩ := c3 i (by omega) hi2
    exact ⟨B2, nmd2, m2, d2, al3, FD i (by omega) (by omega) _ _ _ _ _ hk⟩
  · rw [hL, (P4 53 (by omega)).trans h53]; rfl
  · rw [hL]; exact FD _ (by omega) (by omega) _ _ _ _ _ hdr
  · rw [hL]; exact k177
  · intro k hk
    by_cases hkc : k = nms.length
    · subst hkc
      rw [G2, List.getD_eq_getElem?_getD, List.getElem?_set_self (by rw [List.length_set]; omega)]
      rfl
    · rw [G1 k (by omega), ← hnl k (by omega), List.getD_eq_getElem?_getD, List.getElem?_set_ne (by omega), List.getElem?_set_ne (by omega), List.getD_eq_getElem?_getD]
  · intro i hi k hk
    dsimp only at hk
    by_cases hic : i = nms.length
    · subst hic
      rw [if_pos rfl] at hk
      exact ktkc k hk
    · rw [if_neg hic] at hk
      have := z1 i (by omega)
      rw [ktk0 (16 * i + k) (by omega)]
      exact z2 i (by omega) k hk
  · intro i hi
    dsimp only
    by_cases hic : i = nms.length
    · subst hic
      rw [if_pos rfl, if_pos rfl, List.length_map]
      exact ⟨kRc.1, fun k hk => kRc.2 k hk⟩
    · rw [if_neg hic, if_neg hic]
      obtain ⟨g1, g2⟩ := zG1 i (by omega)
      have hb16 := z1 i (by omega)
      refine ⟨g1, fun k hk => ?_⟩
      rw [kR0 (16 * i + k) (by omega), ktk0 (16 * i + k) (by omega)]
      exact g2 k hk
  · intro i
    dsimp only
    by_cases hic : i = nms.length
    · rw [if_pos hic]
      exact hgC
    · rw [if_neg hic]
      intro j hj
      obtain ⟨g1, g2, g3⟩ := zG2 i j hj
      refine ⟨g1, g2, ?_⟩
      rw [List.length_append]
      omega
theorem xINV_ref {f f1 f2 f3 : Nat → zE} {n : Nat} {cs : List Int} {nms : List (List Int)} {bc dp tk0 : Nat → Int} {KK : List (Int × Int)} {GG : Nat → List xBt} {RR : Nat → Int × Int} {al dd v lc : Value} {q : Nat → Value} {nl : List Int64} {kp cd fa ki be en nu pa0 op kt stt ent dit sgt cd' fa' : Int} {wo wot : Int64} (h : xINV f n cs nms bc dp tk0 KK GG RR) (hSW : xSW f KK nms.length kp f1 al) (hKk : (KK.length : Int) = kp) (hKp : (KK.length : Int) = pa0) (hkp : 0 ≤ kp ∧ kp ≤ 208) (h112 : f1 112 = xtk kt stt ent wot dit sgt) (h50 : f2 50 = xfc dd v lc) (h2 : ∀ p, p ≠ 50 → f2 p = f1 p) (hdd : yg (.inl (0, 24)) dd) (hv : yg (.inl ytop) v) (hlc : yg (.inl ytop) lc) (hal : yg (.inl (0, 1)) al) (h177 : f 177 = xmo cd (n : Nat) fa ki be en wo nu (nms.length : Nat) pa0 op q) (hpa : 0 ≤ pa0 ∧ pa0 ≤ 16 * (nms.length : Nat)) (hnll : nl.length = 13) (hnl : ∀ k, k < nms.length → nl.getD k 0 = Int64.ofInt (xpr (nms.getD k []))) (hMN : xMN KK RR n nms bc dp tk0 pa0 q nl f2 f3 cd' fa') : xINV f3 n cs nms bc dp tk0 KK GG RR := by
  obtain ⟨hM, ⟨t1, t2, t3, t4, t5, t6⟩, ⟨n1, n2, n3, n4⟩, ⟨c1, c2, c3, kp0, al0, hrd0⟩, hMO0, ⟨⟨z1, z2, z3⟩, zG⟩⟩ := h
  obtain ⟨pt, op1, ex, bs, sl, m, d, tm, oa, nmd, E1, B1, ⟨hpt, hbs, hsl⟩, h53, h109, h110, h111, bl1, bl2, bb1, bb2, hDR, hPT, hfr⟩ := hSW
  obtain ⟨W, kM, be', en', wo', nu', op', mt, d', tmM, oaM, E3, B3, k177, k179, kmd, k187, k188, kl1, kl2, kms, kfr⟩ := hMN
  have Q2 : ∀ p, p ≠ 50 → f2 p = f1 p := h2
  have P1 : ∀ p, (p ≠ 50 ∧ p ≠ 53 ∧ p ≠ 55 ∧ p ≠ 56 ∧ p ≠ 57 + 4 * nms.length ∧ p ≠ 58 + 4 * nms.length ∧ p ≠ 59 + 4 * nms.length ∧ p ≠ 60 + 4 * nms.length ∧ p ≠ 109 ∧ p ≠ 110 ∧ p ≠ 111 ∧ p ≠ 112) → f2 p = f p := by
    rintro p ⟨i1, i3, i4, i5, i6, i7, i8, i9, i10, i11, i12, i13⟩
    exact (h2 p i1).trans (hfr p i3 i4 i5 i6 i7 i8 i9 i10 i11 i12 i13)
  have P3 : ∀ p, (p ≠ 177 ∧ p ≠ 179 ∧ p ≠ 180 ∧ p ≠ 181 ∧ p ≠ 182 ∧ p ≠ 183 ∧ p ≠ 184 ∧ p ≠ 185 ∧ p ≠ 186 ∧ p ≠ 187 ∧ p ≠ 188) → f3 p = f2 p := by
    rintro p ⟨i1, i2, i3, i4, i5, i6, i7, i8, i9, i10, i11⟩
    exact kfr p i1 i2 i3 i4 i5 i6 i7 i8 i9 i10 i11
  have P4 : ∀ p, (p ≠ 50 ∧ p ≠ 177 ∧ p ≠ 179 ∧ p ≠ 180 ∧ p ≠ 181 ∧ p ≠ 182 ∧ p ≠ 183 ∧ p ≠ 184 ∧ p ≠ 185 ∧ p ≠ 186 ∧ p ≠ 187 ∧ p ≠ 188) → f3 p = f1 p := fun p hp => (P3 p hp.2).trans (h2 p hp.1)
  have DR2 : ∀ i, i < 13 → ∀ (B : List xBt) (nm : Int64) (m d : Int) (al : Value), xDR B i f1 nm m d al → xDR B i f2 nm m d al := by
    rintro i hi B nm m d al ⟨a1, a2, fp, ep, ta, a3, a4, a5, a6, a7⟩
    exact ⟨a1, a2, fp, ep, ta, (h2 _ (by omega)).trans a3, (h2 _ (by omega)).trans a4, (h2 _ (by omega)).trans a5, (h2 _ (by omega)).trans a6, a7⟩
  have DR3 : ∀ i, i < 13 → ∀ (B : List xBt) (nm : Int64) (m d : Int) (al : Value), xDR B i f2 nm m d al → xDR B i f3 nm m d al := by
    rintro i hi B nm m d al ⟨a1, a2, fp, ep, ta, a3, a4, a5, a6, a7⟩
    exact ⟨a1, a2, fp, ep, ta, (P3 _ (by omega)).trans a3, (P3 _ (by omega)).trans a4, (P3 _ (by omega)).trans a5, (P3 _ (by omega)).trans a6, a7⟩
  obtain ⟨se, at', e1, e2, e3⟩ := hPT
  have hM2 : yM yT2 (xh f2) := xcl_M (c := nms.length) (n' := (n : Nat)) (by omega) hM hdd hv hlc hal h50 ((P1 51 (by omega)).trans t4) (by omega) ((h2 53 (by decide)).trans h53) (by omega) ((h2 109 (by decide)).trans h109) ((h2 110 (by decide)).trans h110) ((h2 111 (by decide)).trans h111) bl1 bl2 bb1 bb2 ((h2 112 (by decide)).trans h112) (DR2 _ (by omega) _ _ _ _ _ hDR) ⟨se, at', (h2 55 (by decide)).trans e1, (h2 56 (by decide)).trans e2, e3⟩ (fun p i1 i2 i3 i4 i5 i6 i7 i8 i9 i10 i11 i12 i13 => P1 p ⟨i1, i3, i4, i5, i6, i7, i8, i9, i10, i11, i12, i13⟩)
  have hM3 : yM yT2 (xh f3) := xmd_M (n' := (n : Nat)) (ca' := (nms.length : Nat)) hM2 ((P1 177 (by omega)).trans h177) k177 (by omega) (by omega) k179 (by rw [List.length_set]; exact hnll) kmd z1 z3 k187 k188 kl1 kl2 kms kfr
  refine ⟨hM3, ⟨t1, t2, t3, ((P3 _ (by omega)).trans (P1 _ (by omega))).trans t4, ((P3 _ (by omega)).trans (P1 _ (by omega))).trans t5, ((P3 _ (by omega)).trans (P1 _ (by omega))).trans t6⟩, ⟨n1, n2, n3, n4⟩, ⟨c1, ?_, ?_, kp, al, ⟨E1, B1, 57 + 4 * nms.length, op1, ex, bs, sl, pt, tm, oa, kt, stt, ent, wot, dit, sgt, nmd, m, d, (P4 _ (by omega)).trans h109, hbs, hsl, (P4 _ (by omega)).trans h53, (P4 _ (by omega)).trans h110, (P4 _ (by omega)).trans h111, bl1, bl2, bb1, bb2, (P4 _ (by omega)).trans h112, DR3 _ (by omega) _ _ _ _ _ (DR2 _ (by omega) _ _ _ _ _ hDR), se, at', (P4 _ (by omega)).trans e1, (P4 _ (by omega)).trans e2, e3⟩, hkp, hKk⟩, ⟨cd', fa', kM, be', en', wo', nu', pa0, op', q, _, mt, d', tmM, oaM, E3, B3, k177, ⟨hpa, hKp⟩, k179, by rw [List.length_set]; exact hnll, ?_, kmd, k187, k188, kl1, kl2, kms⟩, ⟨⟨z1, z2, z3⟩, zG⟩⟩
  · intro i hi
    obtain ⟨al3, a1, a2, fp, ep, ta, a3, a4, a5, a6, a7⟩ := c2 i (by omega)
    exact ⟨al3, a1, a2, fp, ep, ta, ((P3 _ (by omega)).trans (P1 _ (by omega))).trans a3, ((P3 _ (by omega)).trans (P1 _ (by omega))).trans a4, ((P3 _ (by omega)).trans (P1 _ (by omega))).trans a5, ((P3 _ (by omega)).trans (P1 _ (by omega))).trans a6, a7⟩
  · intro i hi1 hi2
    obtain ⟨B2, nmd2, m2, d2, al3, a1, a2, fp, ep, ta, a3, a4, a5, a6, a7⟩ := c3 i hi1 hi2
    exact ⟨B2, nmd2, m2, d2, al3, a1, a2, fp, ep, ta, ((P3 _ (by omega)).trans (P1 _ (by omega))).trans a3, ((P3 _ (by omega)).trans (P1 _ (by omega))).trans a4, ((P3 _ (by omega)).trans (P1 _ (by omega))).trans a5, ((P3 _ (by omega)).trans (P1 _ (by omega))).trans a6, a7⟩
  · intro k hk
    rw [← hnl k hk, List.getD_eq_getElem?_getD, List.getElem?_set_ne (by omega), List.getD_eq_getElem?_getD]
end
section
/-! The law's own methods: they call, and catch. -/
def xHQ (f : Nat → zE) (u : Nat × Nat) (o : zO) (X : zX) : Prop := ∃ (z : Int) (f' : Nat → zE) (u' : Nat × Nat), o = .inl (some (xi z)) ∧ X = (xh f', u') ∧ xD f f' ∧ u'.1 ≤ u.1 + 1 ∧ u'.2 ≤ u.2 + 6
theorem xD_203 {f : Nat → zE} (hM : yM yT2 (xh f)) : ∃ l : List Int64, f 203 = .inr (.inr (.inl l)) ∧ l.length = 1 ∧ ∀ g : Int64, xD f (xu f 203 (.inr (.inr (.inl (l.set 0 g))))) := by
  have hok := xM_at hM (p := 203) (by decide) (show yT2[203 - 50]? = some (.inr (.inr (.inl 1))) from rfl)
  generalize hf : f 203 = c at hok
  match c, hf, hok with
  | .inr (.inr (.inl l)), hf, hok =>
    have hl : l.length = 1 := hok
    refine ⟨l, rfl, hl, fun g => ⟨yM_xu hM (by decide) (show yT2[203 - 50]? = some (.inr (.inr (.inl 1))) from rfl) (show (l.set 0 g).length = 1 by rw [List.length_set]; exact hl), yF_xu (fun _ _ => rfl) (by decide) (by decide +kernel), ?_⟩⟩
    rw [← xh_set (by decide)]
    have e := xh_at (f := f) (p := 203) (by decide) (by decide)
    rw [hf] at e
    exact zkeep_a e
theorem xH88 {v0 : Value} {xs : List Int32} {u : Nat × Nat} {f : Nat → zE} {z1 : Int} (hM : yM yT2 (xh f)) (hA : xca f 87 [.inr (.inr [50]), .inl ytop] (some (.inl ytop)) [100]) : xz v0 xs u (xHQ f u) 88 0 [(0, .ref 50), (1, xi z1), (2, .ref 203)] [] f := by
  obtain ⟨dd, lf, lc, h50, -⟩ := xINV_50 hM
  refine x_aload_n rfl rfl ?_
  refine x_iconst rfl ?_
  refine x_aload_n rfl rfl ?_
  refine x_iload_n rfl rfl ?_
  refine x_callT [_, _] rfl rfl (show (2 : Nat) ≤ 8 from by decide) (show (2 : Nat) ≤ 2 from by decide) (x_rcv (by decide) h50) (hA v0 xs u [.ref 50, xi z1] ⟨ygr, ygt, trivial⟩) (fun r' X' hq => ?_) (fun x X' hq => ?_)
  · rcases hq with ⟨r, f', e1, e2, hr, hD⟩ | ⟨x, f', e1, -⟩
    · cases e1
      subst e2
      match r', hr with
      | none, hr => exact hr.elim
      | some v, hr =>
        obtain ⟨y, rfl, y1, y2⟩ := yg_i hr
        obtain ⟨l, h203, hl, hw⟩ := xD_203 hD.1
        show xz v0 xs u (xHQ f u) 88 7 _ [xi y, xi 0, .ref 203] f'
        refine x_i2l rfl ?_
        refine x_lastore rfl (by decide) h203 ⟨by omega, by omega⟩ (by omega) ?_
        refine x_goto (t := 15) rfl rfl ?_
        refine x_iconst rfl ?_
        refine x_ireturn rfl (Or.inl rfl) ?_
        exact ⟨0, _, u, rfl, rfl, xD_t hD (hw _), by omega, by omega⟩
    · cases e1
  · rcases hq with ⟨r, f', e1, -⟩ | ⟨x', f', e1, hx, e3, hD⟩
    · cases e1
    · cases e1
      subst e3
      have hx1 := List.mem_singleton.mp hx
      subst hx1
      · refine ⟨(12, 3), (show zHN 88 4 100 ≠ none from by decide), rfl, ?_⟩
        show xz v0 xs (u.1 + 1, u.2 + 6) (xHQ f u) 88 13 _ [] f'
        refine x_iconst rfl ?_
        refine x_ireturn rfl (Or.inl rfl) ?_
        exact ⟨1, _, _, rfl, rfl, hD, Nat.le_refl _, Nat.le_refl _⟩
theorem xH109 {v0 : Value} {xs : List Int32} {u : Nat × Nat} {f : Nat → zE} {z1 : Int} (hM : yM yT2 (xh f)) (hA : xca f 108 [.inr (.inr [50]), .inl ytop] (some (.inl ytop)) [100, 101]) : xz v0 xs u (xHQ f u) 109 0 [(0, .ref 50), (1, xi z1), (2, .ref 203)] [] f := by
  obtain ⟨dd, lf, lc, h50, -⟩ := xINV_50 hM
  refine x_aload_n rfl rfl ?_
  refine x_iconst rfl ?_
  refine x_aload_n rfl rfl ?_
  refine x_iload_n rfl rfl ?_
  refine x_callT [_, _] rfl rfl (show (2 : Nat) ≤ 8 from by decide) (show (2 : Nat) ≤ 2 from by decide) (x_rcv (by decide) h50) (hA v0 xs u [.ref 50, xi z1] ⟨ygr, ygt, trivial⟩) (fun r' X' hq => ?_) (fun x X' hq => ?_)
  · rcases hq with ⟨r, f', e1, e2, hr, hD⟩ | ⟨x, f', e1, -⟩
    · cases e1
      subst e2
      match r', hr with
      | none, hr => exact hr.elim
      | some v, hr =>
        obtain ⟨y, rfl, y1, y2⟩ := yg_i hr
        obtain ⟨l, h203, hl, hw⟩ := xD_203 hD.1
        show xz v0 xs u (xHQ f u) 109 7 _ [xi y, xi 0, .ref 203] f'
        refine x_i2l rfl ?_
        refine x_lastore rfl (by decide) h203 ⟨by omega, by omega⟩ (by omega) ?_
        refine x_goto (t := 18) rfl rfl ?_
        refine x_iconst rfl ?_
        refine x_ireturn rfl (Or.inl rfl) ?_
        exact ⟨0, _, u, rfl, rfl, xD_t hD (hw _), by omega, by omega⟩
    · cases e1
  · rcases hq with ⟨r, f', e1, -⟩ | ⟨x', f', e1, hx, e3, hD⟩
    · cases e1
    · cases e1
      subst e3
      rcases (show x = 100 ∨ x = 101 by simpa using hx) with rfl | rfl
      · refine ⟨(12, 3), (show zHN 109 4 100 ≠ none from by decide), rfl, ?_⟩
        show xz v0 xs (u.1 + 1, u.2 + 6) (xHQ f u) 109 13 _ [] f'
        refine x_iconst rfl ?_
        refine x_ireturn rfl (Or.inl rfl) ?_
        exact ⟨1, _, _, rfl, rfl, hD, Nat.le_refl _, Nat.le_refl _⟩
      · refine ⟨(15, 3), (show zHN 109 4 101 ≠ none from by decide), rfl, ?_⟩
        show xz v0 xs (u.1 + 1, u.2 + 6) (xHQ f u) 109 16 _ [] f'
        refine x_iconst rfl ?_
        refine x_ireturn rfl (Or.inl rfl) ?_
        exact ⟨2, _, _, rfl, rfl, hD, Nat.le_refl _, Nat.le_refl _⟩
theorem xH127 {v0 : Value} {xs : List Int32} {u : Nat × Nat} {f : Nat → zE} {z1 : Int} (hM : yM yT2 (xh f)) (hA : xca f 126 [.inr (.inr [50]), .inl ytop] (some (.inl ytop)) [100, 101]) : xz v0 xs u (xHQ f u) 127 0 [(0, .ref 50), (1, xi z1), (2, .ref 203)] [] f := by
  obtain ⟨dd, lf, lc, h50, -⟩ := xINV_50 hM
  refine x_aload_n rfl rfl ?_
  refine x_iconst rfl ?_
  refine x_aload_n rfl rfl ?_
  refine x_iload_n rfl rfl ?_
  refine x_callT [_, _] rfl rfl (show (2 : Nat) ≤ 8 from by decide) (show (2 : Nat) ≤ 2 from by decide) (x_rcv (by decide) h50) (hA v0 xs u [.ref 50, xi z1] ⟨ygr, ygt, trivial⟩) (fun r' X' hq => ?_) (fun x X' hq => ?_)
  · rcases hq with ⟨r, f', e1, e2, hr, hD⟩ | ⟨x, f', e1, -⟩
    · cases e1
      subst e2
      match r', hr with
      | none, hr => exact hr.elim
      | some v, hr =>
        obtain ⟨y, rfl, y1, y2⟩ := yg_i hr
        obtain ⟨l, h203, hl, hw⟩ := xD_203 hD.1
        show xz v0 xs u (xHQ f u) 127 7 _ [xi y, xi 0, .ref 203] f'
        refine x_i2l rfl ?_
        refine x_lastore rfl (by decide) h203 ⟨by omega, by omega⟩ (by omega) ?_
        refine x_goto (t := 18) rfl rfl ?_
        refine x_iconst rfl ?_
        refine x_ireturn rfl (Or.inl rfl) ?_
        exact ⟨0, _, u, rfl, rfl, xD_t hD (hw _), by omega, by omega⟩
    · cases e1
  · rcases hq with ⟨r, f', e1, -⟩ | ⟨x', f', e1, hx, e3, hD⟩
    · cases e1
    · cases e1
      subst e3
      rcases (show x = 100 ∨ x = 101 by simpa using hx) with rfl | rfl
      · refine ⟨(12, 3), (show zHN 127 4 100 ≠ none from by decide), rfl, ?_⟩
        show xz v0 xs (u.1 + 1, u.2 + 6) (xHQ f u) 127 13 _ [] f'
        refine x_iconst rfl ?_
        refine x_ireturn rfl (Or.inl rfl) ?_
        exact ⟨1, _, _, rfl, rfl, hD, Nat.le_refl _, Nat.le_refl _⟩
      · refine ⟨(15, 3), (show zHN 127 4 101 ≠ none from by decide), rfl, ?_⟩
        show xz v0 xs (u.1 + 1, u.2 + 6) (xHQ f u) 127 16 _ [] f'
        refine x_iconst rfl ?_
        refine x_ireturn rfl (Or.inl rfl) ?_
        exact ⟨2, _, _, rfl, rfl, hD, Nat.le_refl _, Nat.le_refl _⟩
theorem xH132 {v0 : Value} {xs : List Int32} {u : Nat × Nat} {f : Nat → zE} (hM : yM yT2 (xh f)) (hA : xca f 131 [.inr (.inr [50])] (some (.inl (0, 16))) [101]) : xz v0 xs u (xHQ f u) 132 0 [(0, .ref 50), (1, .ref 203)] [] f := by
  obtain ⟨dd, lf, lc, h50, -⟩ := xINV_50 hM
  refine x_aload_n rfl rfl ?_
  refine x_iconst rfl ?_
  refine x_aload_n rfl rfl ?_
  refine x_callT [_] rfl rfl (show (2 : Nat) ≤ 8 from by decide) (show (1 : Nat) ≤ 2 from by decide) (x_rcv (by decide) h50) (hA v0 xs u [.ref 50] ⟨ygr, trivial⟩) (fun r' X' hq => ?_) (fun x X' hq => ?_)
  · rcases hq with ⟨r, f', e1, e2, hr, hD⟩ | ⟨x, f', e1, -⟩
    · cases e1
      subst e2
      match r', hr with
      | none, hr => exact hr.elim
      | some v, hr =>
        obtain ⟨y, rfl, y1, y2⟩ := yg_i hr
        obtain ⟨l, h203, hl, hw⟩ := xD_203 hD.1
        show xz v0 xs u (xHQ f u) 132 6 _ [xi y, xi 0, .ref 203] f'
        refine x_i2l rfl ?_
        refine x_lastore rfl (by decide) h203 ⟨by omega, by omega⟩ (by omega) ?_
        refine x_goto (t := 14) rfl rfl ?_
        refine x_iconst rfl ?_
        refine x_ireturn rfl (Or.inl rfl) ?_
        exact ⟨0, _, u, rfl, rfl, xD_t hD (hw _), by omega, by omega⟩
    · cases e1
  · rcases hq with ⟨r, f', e1, -⟩ | ⟨x', f', e1, hx, e3, hD⟩
    · cases e1
    · cases e1
      subst e3
      have hx1 := List.mem_singleton.mp hx
      subst hx1
      · refine ⟨(11, 2), (show zHN 132 3 101 ≠ none from by decide), rfl, ?_⟩
        show xz v0 xs (u.1 + 1, u.2 + 6) (xHQ f u) 132 12 _ [] f'
        refine x_iconst rfl ?_
        refine x_ireturn rfl (Or.inl rfl) ?_
        exact ⟨1, _, _, rfl, rfl, hD, Nat.le_refl _, Nat.le_refl _⟩
theorem xH139 {v0 : Value} {xs : List Int32} {u : Nat × Nat} {f : Nat → zE} {z1 z2 : Int} (hM : yM yT2 (xh f)) (hA : xca f 138 [.inr (.inr [50]), .inl ytop, .inl ytop] (some (.inl (0, 9))) [100]) : xz v0 xs u (xHQ f u) 139 0 [(0, .ref 50), (1, xi z1), (2, xi z2), (3, .ref 203)] [] f := by
  obtain ⟨dd, lf, lc, h50, -⟩ := xINV_50 hM
  refine x_aload_n rfl rfl ?_
  refine x_iconst rfl ?_
  refine x_aload_n rfl rfl ?_
  refine x_iload_n rfl rfl ?_
  refine x_iload_n rfl rfl ?_
  refine x_callT [_, _, _] rfl rfl (show (2 : Nat) ≤ 8 from by decide) (show (3 : Nat) ≤ 4 from by decide) (x_rcv (by decide) h50) (hA v0 xs u [.ref 50, xi z1, xi z2] ⟨ygr, ygt, ygt, trivial⟩) (fun r' X' hq => ?_) (fun x X' hq => ?_)
  · rcases hq with ⟨r, f', e1, e2, hr, hD⟩ | ⟨x, f', e1, -⟩
    · cases e1
      subst e2
      match r', hr with
      | none, hr => exact hr.elim
      | some v, hr =>
        obtain ⟨y, rfl, y1, y2⟩ := yg_i hr
        obtain ⟨l, h203, hl, hw⟩ := xD_203 hD.1
        show xz v0 xs u (xHQ f u) 139 8 _ [xi y, xi 0, .ref 203] f'
        refine x_i2l rfl ?_
        refine x_lastore rfl (by decide) h203 ⟨by omega, by omega⟩ (by omega) ?_
        refine x_goto (t := 17) rfl rfl ?_
        refine x_iconst rfl ?_
        refine x_ireturn rfl (Or.inl rfl) ?_
        exact ⟨0, _, u, rfl, rfl, xD_t hD (hw _), by omega, by omega⟩
    · cases e1
  · rcases hq with ⟨r, f', e1, -⟩ | ⟨x', f', e1, hx, e3, hD⟩
    · cases e1
    · cases e1
      subst e3
      have hx1 := List.mem_singleton.mp hx
      subst hx1
      · refine ⟨(14, 4), (show zHN 139 5 100 ≠ none from by decide), rfl, ?_⟩
        show xz v0 xs (u.1 + 1, u.2 + 6) (xHQ f u) 139 15 _ [] f'
        refine x_iconst rfl ?_
        refine x_ireturn rfl (Or.inl rfl) ?_
        exact ⟨1, _, _, rfl, rfl, hD, Nat.le_refl _, Nat.le_refl _⟩
theorem xH144 {v0 : Value} {xs : List Int32} {u : Nat × Nat} {f : Nat → zE} {z1 z2 : Int} (hM : yM yT2 (xh f)) (hA : xca f 143 [.inr (.inr [50]), .inl ytop, .inl ytop] (some (.inl (0, 99))) [100, 102]) : xz v0 xs u (xHQ f u) 144 0 [(0, .ref 50), (1, xi z1), (2, xi z2), (3, .ref 203)] [] f := by
  obtain ⟨dd, lf, lc, h50, -⟩ := xINV_50 hM
  refine x_aload_n rfl rfl ?_
  refine x_iconst rfl ?_
  refine x_aload_n rfl rfl ?_
  refine x_iload_n rfl rfl ?_
  refine x_iload_n rfl rfl ?_
  refine x_callT [_, _, _] rfl rfl (show (2 : Nat) ≤ 8 from by decide) (show (3 : Nat) ≤ 4 from by decide) (x_rcv (by decide) h50) (hA v0 xs u [.ref 50, xi z1, xi z2] ⟨ygr, ygt, ygt, trivial⟩) (fun r' X' hq => ?_) (fun x X' hq => ?_)
  · rcases hq with ⟨r, f', e1, e2, hr, hD⟩ | ⟨x, f', e1, -⟩
    · cases e1
      subst e2
      match r', hr with
      | none, hr => exact hr.elim
      | some v, hr =>
        obtain ⟨y, rfl, y1, y2⟩ := yg_i hr
        obtain ⟨l, h203, hl, hw⟩ := xD_203 hD.1
        show xz v0 xs u (xHQ f u) 144 8 _ [xi y, xi 0, .ref 203] f'
        refine x_i2l rfl ?_
        refine x_lastore rfl (by decide) h203 ⟨by omega, by omega⟩ (by omega) ?_
        refine x_goto (t := 21) rfl rfl ?_
        refine x_iconst rfl ?_
        refine x_ireturn rfl (Or.inl rfl) ?_
        exact ⟨0, _, u, rfl, rfl, xD_t hD (hw _), by omega, by omega⟩
    · cases e1
  · rcases hq with ⟨r, f', e1, -⟩ | ⟨x', f', e1, hx, e3, hD⟩
    · cases e1
    · cases e1
      subst e3
      rcases (show x = 100 ∨ x = 102 by simpa using hx) with rfl | rfl
      · refine ⟨(14, 4), (show zHN 144 5 100 ≠ none from by decide), rfl, ?_⟩
        show xz v0 xs (u.1 + 1, u.2 + 6) (xHQ f u) 144 15 _ [] f'
        refine x_iconst rfl ?_
        refine x_ireturn rfl (Or.inl rfl) ?_
        exact ⟨1, _, _, rfl, rfl, hD, Nat.le_refl _, Nat.le_refl _⟩
      · refine ⟨(18, 4), (show zHN 144 5 102 ≠ none from by decide), rfl, ?_⟩
        show xz v0 xs (u.1 + 1, u.2 + 6) (xHQ f u) 144 19 _ [] f'
        refine x_iconst rfl ?_
        refine x_ireturn rfl (Or.inl rfl) ?_
        exact ⟨2, _, _, rfl, rfl, hD, Nat.le_refl _, Nat.le_refl _⟩
theorem xH147 {v0 : Value} {xs : List Int32} {u : Nat × Nat} {f : Nat → zE} {z1 z2 : Int} (hM : yM yT2 (xh f)) (hA : xca f 146 [.inr (.inr [50]), .inl ytop, .inl ytop] (some (.inl (0, 1))) [100]) : xz v0 xs u (xHQ f u) 147 0 [(0, .ref 50), (1, xi z1), (2, xi z2), (3, .ref 203)] [] f := by
  obtain ⟨dd, lf, lc, h50, -⟩ := xINV_50 hM
  refine x_aload_n rfl rfl ?_
  refine x_iconst rfl ?_
  refine x_aload_n rfl rfl ?_
  refine x_iload_n rfl rfl ?_
  refine x_iload_n rfl rfl ?_
  refine x_callT [_, _, _] rfl rfl (show (2 : Nat) ≤ 8 from by decide) (show (3 : Nat) ≤ 3 from by decide) (x_rcv (by decide) h50) (hA v0 xs u [.ref 50, xi z1, xi z2] ⟨ygr, ygt, ygt, trivial⟩) (fun r' X' hq => ?_) (fun x X' hq => ?_)
  · rcases hq with ⟨r, f', e1, e2, hr, hD⟩ | ⟨x, f', e1, -⟩
    · cases e1
      subst e2
      match r', hr with
      | none, hr => exact hr.elim
      | some v, hr =>
        obtain ⟨y, rfl, y1, y2⟩ := yg_i hr
        obtain ⟨l, h203, hl, hw⟩ := xD_203 hD.1
        show xz v0 xs u (xHQ f u) 147 8 _ [xi y, xi 0, .ref 203] f'
        refine x_ifeq (t := 15) rfl rfl ⟨by omega, by omega⟩ (fun _ => ?_) (fun _ => ?_)
        · refine x_lconst rfl ?_
          refine x_lastore rfl (by decide) h203 ⟨by omega, by omega⟩ (by omega) ?_
          refine x_goto (t := 24) rfl rfl ?_
          refine x_iconst rfl ?_
          refine x_ireturn rfl (Or.inl rfl) ?_
          exact ⟨0, _, u, rfl, rfl, xD_t hD (hw _), by omega, by omega⟩
        · refine x_lconst rfl ?_
          refine x_goto (t := 16) rfl rfl ?_
          refine x_lastore rfl (by decide) h203 ⟨by omega, by omega⟩ (by omega) ?_
          refine x_goto (t := 24) rfl rfl ?_
          refine x_iconst rfl ?_
          refine x_ireturn rfl (Or.inl rfl) ?_
          exact ⟨0, _, u, rfl, rfl, xD_t hD (hw _), by omega, by omega⟩
    · cases e1
  · rcases hq with ⟨r, f', e1, -⟩ | ⟨x', f', e1, hx, e3, hD⟩
    · cases e1
    · cases e1
      subst e3
      have hx1 := List.mem_singleton.mp hx
      subst hx1
      · refine ⟨(21, 4), (show zHN 147 5 100 ≠ none from by decide), rfl, ?_⟩
        show xz v0 xs (u.1 + 1, u.2 + 6) (xHQ f u) 147 22 _ [] f'
        refine x_iconst rfl ?_
        refine x_ireturn rfl (Or.inl rfl) ?_
        exact ⟨1, _, _, rfl, rfl, hD, Nat.le_refl _, Nat.le_refl _⟩
theorem xH155 {v0 : Value} {xs : List Int32} {u : Nat × Nat} {f : Nat → zE} {z1 z2 : Int} (hM : yM yT2 (xh f)) (hA : xca f 154 [.inr (.inr [50]), .inl ytop, .inl (0, 1)] (none) [100, 101]) (hz : 0 ≤ z2 ∧ z2 ≤ 1) : xz v0 xs u (xHQ f u) 155 0 [(0, .ref 50), (1, xi z1), (2, xi z2)] [] f := by
  obtain ⟨dd, lf, lc, h50, -⟩ := xINV_50 hM
  refine x_aload_n rfl rfl ?_
  refine x_iload_n rfl rfl ?_
  refine x_iload_n rfl rfl ?_
  refine x_callT [_, _, _] rfl rfl (show (0 : Nat) ≤ 8 from by decide) (show (3 : Nat) ≤ 3 from by decide) (x_rcv (by decide) h50) (hA v0 xs u [.ref 50, xi z1, xi z2] ⟨ygr, ygt, (ygi hz.1 hz.2 (by omega) (by omega)), trivial⟩) (fun r' X' hq => ?_) (fun x X' hq => ?_)
  · rcases hq with ⟨r, f', e1, e2, hr, hD⟩ | ⟨x, f', e1, -⟩
    · cases e1
      subst e2
      match r', hr with
      | none, _ =>
        show xz v0 xs u (xHQ f u) 155 6 _ [] f'
        refine x_goto (t := 15) rfl rfl ?_
        refine x_iconst rfl ?_
        refine x_ireturn rfl (Or.inl rfl) ?_
        exact ⟨0, _, u, rfl, rfl, hD, by omega, by omega⟩
    · cases e1
  · rcases hq with ⟨r, f', e1, -⟩ | ⟨x', f', e1, hx, e3, hD⟩
    · cases e1
    · cases e1
      subst e3
      rcases (show x = 100 ∨ x = 101 by simpa using hx) with rfl | rfl
      · refine ⟨(9, 3), (show zHN 155 3 100 ≠ none from by decide), rfl, ?_⟩
        show xz v0 xs (u.1 + 1, u.2 + 6) (xHQ f u) 155 10 _ [] f'
        refine x_iconst rfl ?_
        refine x_ireturn rfl (Or.inl rfl) ?_
        exact ⟨1, _, _, rfl, rfl, hD, Nat.le_refl _, Nat.le_refl _⟩
      · refine ⟨(12, 3), (show zHN 155 3 101 ≠ none from by decide), rfl, ?_⟩
        show xz v0 xs (u.1 + 1, u.2 + 6) (xHQ f u) 155 13 _ [] f'
        refine x_iconst rfl ?_
        refine x_ireturn rfl (Or.inl rfl) ?_
        exact ⟨2, _, _, rfl, rfl, hD, Nat.le_refl _, Nat.le_refl _⟩
theorem xH170 {v0 : Value} {xs : List Int32} {u : Nat × Nat} {f : Nat → zE} {z1 : Int} (hM : yM yT2 (xh f)) (hA : xca f 169 [.inr (.inr [50]), .inl ytop] (some (.inl (0, 11))) [102]) : xz v0 xs u (xHQ f u) 170 0 [(0, .ref 50), (1, xi z1), (2, .ref 203)] [] f := by
  obtain ⟨dd, lf, lc, h50, -⟩ := xINV_50 hM
  refine x_aload_n rfl rfl ?_
  refine x_iconst rfl ?_
  refine x_aload_n rfl rfl ?_
  refine x_iload_n rfl rfl ?_
  refine x_callT [_, _] rfl rfl (show (2 : Nat) ≤ 8 from by decide) (show (2 : Nat) ≤ 2 from by decide) (x_rcv (by decide) h50) (hA v0 xs u [.ref 50, xi z1] ⟨ygr, ygt, trivial⟩) (fun r' X' hq => ?_) (fun x X' hq => ?_)
  · rcases hq with ⟨r, f', e1, e2, hr, hD⟩ | ⟨x, f', e1, -⟩
    · cases e1
      subst e2
      match r', hr with
      | none, hr => exact hr.elim
      | some v, hr =>
        obtain ⟨y, rfl, y1, y2⟩ := yg_i hr
        obtain ⟨l, h203, hl, hw⟩ := xD_203 hD.1
        show xz v0 xs u (xHQ f u) 170 7 _ [xi y, xi 0, .ref 203] f'
        refine x_i2l rfl ?_
        refine x_lastore rfl (by decide) h203 ⟨by omega, by omega⟩ (by omega) ?_
        refine x_goto (t := 15) rfl rfl ?_
        refine x_iconst rfl ?_
        refine x_ireturn rfl (Or.inl rfl) ?_
        exact ⟨0, _, u, rfl, rfl, xD_t hD (hw _), by omega, by omega⟩
    · cases e1
  · rcases hq with ⟨r, f', e1, -⟩ | ⟨x', f', e1, hx, e3, hD⟩
    · cases e1
    · cases e1
      subst e3
      have hx1 := List.mem_singleton.mp hx
      subst hx1
      · refine ⟨(12, 3), (show zHN 170 4 102 ≠ none from by decide), rfl, ?_⟩
        show xz v0 xs (u.1 + 1, u.2 + 6) (xHQ f u) 170 13 _ [] f'
        refine x_iconst rfl ?_
        refine x_ireturn rfl (Or.inl rfl) ?_
        exact ⟨1, _, _, rfl, rfl, hD, Nat.le_refl _, Nat.le_refl _⟩
theorem xH174 {v0 : Value} {xs : List Int32} {u : Nat × Nat} {f : Nat → zE} {z1 z2 : Int} (hM : yM yT2 (xh f)) (hA : xca f 173 [.inr (.inr [50]), .inl ytop, .inl ytop] (some (.inl ytop)) [100]) : xz v0 xs u (xHQ f u) 174 0 [(0, .ref 50), (1, xi z1), (2, xi z2), (3, .ref 203)] [] f := by
  obtain ⟨dd, lf, lc, h50, -⟩ := xINV_50 hM
  refine x_aload_n rfl rfl ?_
  refine x_iconst rfl ?_
  refine x_aload_n rfl rfl ?_
  refine x_iload_n rfl rfl ?_
  refine x_iload_n rfl rfl ?_
  refine x_callT [_, _, _] rfl rfl (show (2 : Nat) ≤ 8 from by decide) (show (3 : Nat) ≤ 6 from by decide) (x_rcv (by decide) h50) (hA v0 xs u [.ref 50, xi z1, xi z2] ⟨ygr, ygt, ygt, trivial⟩) (fun r' X' hq => ?_) (fun x X' hq => ?_)
  · rcases hq with ⟨r, f', e1, e2, hr, hD⟩ | ⟨x, f', e1, -⟩
    · cases e1
      subst e2
      match r', hr with
      | none, hr => exact hr.elim
      | some v, hr =>
        obtain ⟨y, rfl, y1, y2⟩ := yg_i hr
        obtain ⟨l, h203, hl, hw⟩ := xD_203 hD.1
        show xz v0 xs u (xHQ f u) 174 8 _ [xi y, xi 0, .ref 203] f'
        refine x_ifeq (t := 15) rfl rfl ⟨by omega, by omega⟩ (fun _ => ?_) (fun _ => ?_)
        · refine x_lconst rfl ?_
          refine x_lastore rfl (by decide) h203 ⟨by omega, by omega⟩ (by omega) ?_
          refine x_goto (t := 24) rfl rfl ?_
          refine x_iconst rfl ?_
          refine x_ireturn rfl (Or.inl rfl) ?_
          exact ⟨0, _, u, rfl, rfl, xD_t hD (hw _), by omega, by omega⟩
        · refine x_lconst rfl ?_
          refine x_goto (t := 16) rfl rfl ?_
          refine x_lastore rfl (by decide) h203 ⟨by omega, by omega⟩ (by omega) ?_
          refine x_goto (t := 24) rfl rfl ?_
          refine x_iconst rfl ?_
          refine x_ireturn rfl (Or.inl rfl) ?_
          exact ⟨0, _, u, rfl, rfl, xD_t hD (hw _), by omega, by omega⟩
    · cases e1
  · rcases hq with ⟨r, f', e1, -⟩ | ⟨x', f', e1, hx, e3, hD⟩
    · cases e1
    · cases e1
      subst e3
      have hx1 := List.mem_singleton.mp hx
      subst hx1
      · refine ⟨(21, 4), (show zHN 174 5 100 ≠ none from by decide), rfl, ?_⟩
        show xz v0 xs (u.1 + 1, u.2 + 6) (xHQ f u) 174 22 _ [] f'
        refine x_iconst rfl ?_
        refine x_ireturn rfl (Or.inl rfl) ?_
        exact ⟨1, _, _, rfl, rfl, hD, Nat.le_refl _, Nat.le_refl _⟩
end
