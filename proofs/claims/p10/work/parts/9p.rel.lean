/-! Summaries beside a heap: what is not written is as there. -/
def yVX (W : List Nat) (t : zT) (G : List zE) (T : List yC) (X00 : zX) (s : ySm) : Prop := ∀ (vs : List Value) (X : zX), yfa s.2.1 vs → yM T X.1 → yF W X00.1 X.1 → zwp t G s.1 0 (lv_args 0 vs) [] X (yQ W T s.1 s.2.2 X)
def yVXO (W : List Nat) (t : zT) (G : List zE) (T : List yC) (X00 : zX) (O : yO) (s : ySm) : Prop := ∀ (vs : List Value) (X : zX), yfa s.2.1 vs → yM T X.1 → yF W X00.1 X.1 → yo O X.1 → zwp t G s.1 0 (lv_args 0 vs) [] X (yQ W T s.1 s.2.2 X)
theorem ynx_rel {W : List Nat} {t : zT} {G : List zE} {cd : Nat → Nat → Option zI} {nl : Nat → Nat} {hn : Nat → Nat → Nat → Option Nat} {Tg T : List yC} {Sm : List ySm} {ro : Option yA} {mi pc : Nat} {i : Instr} {a b c : Nat} {v : Value} {L : yL} {S : yS} {O : yO} {kp : Nat → Nat → Nat → Bool} {ss : List yN} {lv : zL} {st : List Value} {X00 X0 X : zX}
    (h00 : yF W X00.1 X0.1) (hkp : ∀ (m ci f : Nat), kp m ci f = true → ∀ (n : Nat) (lv : zL) (X : zX) (r : zO × zX), zev (zcd t) (znl t) (zdf t) (zhn t) G n m 0 lv [] X = some r → ∀ (k : Nat) (fs : List Value), X.1[k]? = some (.inl (ci, fs)) → ∃ fs', r.2.1[k]? = some (.inl (ci, fs')) ∧ fs'[f]? = fs[f]?) (hO : yo O X.1) (hsb : ∀ mi pc q, cd mi pc = some q → zcd t mi pc = some q) (hnl : znl t = nl) (hhn : zhn t = hn) (hg : yMg Tg G) (hM : yM T X.1) (h0 : yP W X0 X) (hS : ∀ s ∈ Sm, yVX W t G T X00 s) (hcd : zcd t mi pc = some (i, a, b, c, v)) (h : ynx W cd nl hn Tg T Sm ro mi pc i a b c v L S O = some ss) (hl : yl L lv) (hs : ys S st lv)
    (k : ∀ s ∈ ss, ∀ (lv' : zL) (st' : List Value) (X' : zX), yl s.2.1 lv' → ys s.2.2 st' lv' → yM T X'.1 → yP W X0 X' → yo (yov kp i a b S O) X'.1 → (∀ (D : List (Nat × Int)) (lv0 : zL), yir i L D = true → yD D lv0 lv → yD (yupd i D) lv0 lv') → zwp t G mi s.1 lv' st' X' (yQ W T mi ro X0)) :
    zwp t G mi pc lv st X (yQ W T mi ro X0) := by
  subst hnl
  subst hhn
  unfold ynx at h
  split at h
  · rename_i S' hog
    cases h
    obtain ⟨q, h1, h3⟩ := yog_sound (G := G) hog hO hs
    obtain ⟨z1, z2⟩ := zb_za (v := v) (nL := znl t mi) (pc := pc) (lv := lv) h1
    have hz : zstp t G mi pc lv st X = some (pc + 3, lv, q, X) := by
      unfold zstp
      simp only [hcd, z1, h1]
    exact zwp_s hz (k _ List.mem_cons_self lv q X hl h3 hM h0 (by rw [zb_ov h1]; exact hO) (fun D lv0 _ hD => by rw [z2]; exact hD))
  split at h
  · rename_i ss' hsw
    cases h
    obtain ⟨q, h1, h2, s, h3, h4, h5, h6⟩ := ysw_sound (v := v) (nL := znl t mi) hsw hl hs
    have hz : zstp t G mi pc lv st X = some (q.1, q.2.1, q.2.2, X) := by
      unfold zstp
      simp only [hcd, h1]
    refine zwp_s hz ?_
    have hk := k s h3 lv q.2.2 X h5 h6 hM h0 (by rw [za_ov h1]; exact hO) (fun D lv0 _ hD => by
      cases i <;> first | (cases hsw; done) | exact hD)
    rw [h4] at hk
    show zwp t G mi q.1 q.2.1 q.2.2 X _
    rw [h2]
    exact hk
  · split at h
    · rename_i ss' hya
      cases h
      obtain ⟨q, h1, s, h3, h4, h5, h6⟩ := ya_sound hya hl hs
      have hz : zstp t G mi pc lv st X = some (q.1, q.2.1, q.2.2, X) := by
        unfold zstp
        simp only [hcd, h1]
      refine zwp_s hz ?_
      have hk := k s h3 q.2.1 q.2.2 X h5 h6 hM h0 (by rw [za_ov h1]; exact hO) (fun D lv0 hi hD => yupd_sound hya hl h1 hi hD)
      rw [h4] at hk
      exact hk
    · split at h
      · rename_i w hyb
        cases h
        obtain ⟨q, h1, h2, h3⟩ := yb_sound hg hM hyb hs
        obtain ⟨z1, z2⟩ := zb_za (v := v) (nL := znl t mi) (pc := pc) (lv := lv) h1
        have hz : zstp t G mi pc lv st X = some (pc + q.1, lv, q.2, X) := by
          unfold zstp
          simp only [hcd, z1, h1]
        refine zwp_s hz ?_
        have hk := k _ List.mem_cons_self lv q.2 X hl h3 hM h0 (by rw [zb_ov h1]; exact hO) (fun D lv0 _ hD => by rw [z2]; exact hD)
        show zwp t G mi (pc + q.1) lv q.2 X _
        rw [h2]
        exact hk
      · split at h
        · rename_i w hyc
          split at h
          case isFalse => cases h
          rename_i hwr
          cases h
          obtain ⟨q, h1, h2, h3, h4, h5⟩ := yc_sound (df := zdf t) hM hyc hs
          obtain ⟨z1, z2, z3⟩ := zc_za (G := G) (v := v) (nL := znl t mi) (pc := pc) (lv := lv) h1
          have hz : zstp t G mi pc lv st X = some (pc + q.1, lv, q.2.1, q.2.2) := by
            unfold zstp
            simp only [hcd, z1, z2, h1]
          refine zwp_s hz ?_
          have hk := k _ List.mem_cons_self lv q.2.1 q.2.2 hl h3 h4 (yP_t h0 h5 (ywr_sound hwr hs h1)) (zc_ov h1 hs hO) (fun D lv0 _ hD => by rw [z3]; exact hD)
          show zwp t G mi (pc + q.1) lv q.2.1 q.2.2 _
          rw [h2]
          exact hk
        · split at h
          · rename_i hrt
            obtain ⟨r, h1, h2⟩ := yrt_sound hrt hs
            obtain ⟨z1, z2, z3⟩ := zr_za (G := G) (df := zdf t) (b := b) (c := c) (v := v) (nL := znl t mi) (pc := pc) (lv := lv) (X := X) h1
            exact zwp_ret ⟨hcd, z1, z2, z3⟩ h1 ⟨h2, hM, h0⟩
          · split at h
            · rename_i hki
              obtain ⟨z1, z2, z3, z4, z5⟩ := zk_za (G := G) (df := zdf t) (a := a) (b := b) (c := c) (v := v) (nL := znl t mi) (pc := pc) (lv := lv) (st := st) (X := X) hki
              split at h
              · rename_i ha
                split at h
                · rename_i S' hj
                  split at h
                  · rename_i h8
                    cases h
                    obtain ⟨q, h1, h2⟩ := yj_sound (X := X) hj hs
                    refine zwp_jdk ⟨hcd, z1, z2, z3⟩ z4 hki ha h1 (by rw [ycat_spec h2]; exact h8) ?_
                    exact k _ List.mem_cons_self lv q X hl h2 hM h0 (zj_ov hki ha h1 hO) (fun D lv0 _ hD => by rw [z5]; exact hD)
                  · cases h
                · split at h
                  · rename_i S' hj
                    split at h
                    · rename_i h8
                      cases h
                      obtain ⟨q, h1, h2, h3, h4, h5⟩ := yj3_sound hM hj hs
                      refine zwp_jdk ⟨hcd, z1, z2, z3⟩ z4 hki ha h1 (by rw [ycat_spec h2]; exact h8) ?_
                      exact k _ List.mem_cons_self lv q.1 q.2 hl h2 h3 (yP_t h0 h4 h5) (zj_ov hki ha h1 hO) (fun D lv0 _ hD => by rw [z5]; exact hD)
                    · cases h
                  · cases h
              · split at h
                · rename_i hc
                  split at h
                  · rename_i ro' hsm
                    split at h
                    case isFalse => cases h
                    rename_i hyb
                    obtain ⟨s, h1, h2, h3, h4⟩ := ysm_spec hsm
                    have hf := yfa_rev (ys_fa (ys_take c hs))
                    have hv := hS s h1 _ X (yles_sound h3 hf) hM (fun j hj => (h0.2 j hj).trans (h00 j hj))
                    rw [h2, h4] at hv
                    refine zwp_call ⟨hcd, z1, z2, z3⟩ z4 hki ⟨hc.1, by rw [ys_len hs]; exact hc.2.1, by rw [ycat_spec (ys_drop c hs)]; exact hc.2.2.1, by rw [ycat_spec (ys_take c hs)]; exact hc.2.2.2.1, yrc_sound hg hM hc.2.2.2.2 hf⟩ ?_
                    obtain ⟨n, o, X', hz, hq⟩ := hv
                    refine ⟨n, o, X', hz, ?_⟩
                    cases o with
                    | inl r =>
                      obtain ⟨q1, q2, q3⟩ := hq
                      split at h
                      · rename_i hem
                        exact (yemp_spec hem q1).elim
                      cases h
                      refine k _ List.mem_cons_self lv _ X' hl (ys_ret q1 (ys_drop c hs)) q2 (yP_t h0 q3.1 q3.2) ?_ (fun D lv0 _ hD => by rw [z5]; exact hD)
                      have e : yov kp i a b S O = O.filter fun e => kp b e.2.1 e.2.2.1 := by
                        unfold yov
                        rw [hki]
                        exact if_pos hc.1
                      rw [e]
                      intro e he
                      obtain ⟨he1, he2⟩ := List.mem_filter.mp he
                      obtain ⟨h50, fs, x, k1, k2, k3, k4⟩ := hO e he1
                      obtain ⟨fs', k5, k6⟩ := hkp _ _ _ he2 n _ _ _ hz _ fs k1
                      exact ⟨h50, fs', x, k5, k6.trans k2, k3, k4⟩
                    | inr x =>
                      obtain ⟨q1, q2, q3, q4, q5⟩ := hq
                      have q6 := yhb_spec (b := b) hyb q1 q2
                      exact Or.inl ⟨q6.2, q6.1, q2, q3, fun j hj => (q4 j hj).trans (h0.2 j hj), by rw [q5, h0.1]⟩
                  · cases h
                · cases h
            · split at h
              · rename_i hth
                cases h
                obtain ⟨t1, t2, t3, t4, t5⟩ := hth
                have ha := yex_ge t3
                obtain ⟨z1, z2, z3, z4⟩ := zn_za (G := G) (df := zdf t) (b := b) (c := c) (v := v) (nL := znl t mi) (pc := pc) (lv := lv) (st := st) (X := X) t1 ha
                exact zwp_thr ⟨hcd, z1, z2, z3⟩ z4 t1 ⟨ha, zthr_sub hsb t4, by rw [ycat_spec hs]; exact t5⟩ ⟨t2, t3, hM, h0.2, by rw [h0.1]⟩
              · cases h
section yRS
variable {W : List Nat} {t : zT} {G : List zE} {cd : Nat → Nat → Option zI} {nl : Nat → Nat} {hn : Nat → Nat → Nat → Option Nat} {Tg T : List yC} {Sm : List ySm} {ro : Option yA} {mi : Nat} {K : yK} {Hs : List yH} {kp : Nat → Nat → Nat → Bool} {Ho : List (Nat × yO)}
theorem yrun_rel {X00 : zX} (hkp : ∀ (m ci f : Nat), kp m ci f = true → ∀ (n : Nat) (lv : zL) (X : zX) (r : zO × zX), zev (zcd t) (znl t) (zdf t) (zhn t) G n m 0 lv [] X = some r → ∀ (k : Nat) (fs : List Value), X.1[k]? = some (.inl (ci, fs)) → ∃ fs', r.2.1[k]? = some (.inl (ci, fs')) ∧ fs'[f]? = fs[f]?) (hnl : znl t = nl) (hhn : zhn t = hn) (hcd : ∀ mi pc q, cd mi pc = some q → zcd t mi pc = some q) (hg : yMg Tg G) (hS : ∀ s ∈ Sm, yVX W t G T X00 s) {rk : Int} {fl : List Bool} {LA : yL} {lv0 : zL} (hA : yl LA lv0) (hfA : yhk LA K fl = true) (hHk : ∀ B ∈ Hs, yhk B.2.1 K B.2.2.2 = true) {X0 : zX} (h00 : yF W X00.1 X0.1)
    (hH : ∀ B ∈ Hs, ∀ (lv : zL) (X : zX), yl B.2.1 lv → yM T X.1 → yP W X0 X → yo (yho Ho B.1) X.1 → B.2.2.1 + ytot K B.2.2.2 lv < rk + ytot K fl lv0 → zwp t G mi B.1 lv [] X (yQ W T mi ro X0)) :
    ∀ (n : Nat) (first : Bool) (pc : Nat) (L : yL) (S : yS) (D : List (Nat × Int)) (O : yO) (lv : zL) (st : List Value) (X : zX), yrun W cd nl hn Tg T Sm ro mi K Hs kp Ho rk fl n first pc L S D O = true → yl L lv → ys S st lv → yD D lv0 lv → yM T X.1 → yP W X0 X → yo O X.1 → zwp t G mi pc lv st X (yQ W T mi ro X0) := by
  intro n
  induction n with
  | zero => intro first pc L S D O lv st X h; cases h
  | succ n ih =>
    intro first pc L S D O lv st X h hl hs hD hM hX hO
    rw [yrun] at h
    split at h
    · rename_i B hB
      have hB' : Hs.find? (fun B => B.1 == pc) = some B := by
        cases first with
        | true => cases hB
        | false => exact hB
      have hm := List.mem_of_find?_eq_some hB'
      have hp : B.1 = pc := by simpa using List.find?_some hB'
      simp only [Bool.and_eq_true] at h
      obtain ⟨h1, h2, h2o, h3⟩ := h
      have h1' : S = [] := by simpa using h1
      subst h1'
      have hst := ys_nil hs
      subst hst
      have hlB := yinc_sound h2 hl
      split at h3
      · rename_i e he
        have h4 := ydif_sound hA hlB hD hfA (hHk B hm) he
        have h5 : B.2.2.1 + e < rk := by simpa using h3
        rw [← hp]
        exact hH B hm lv X hlB hM hX (by rw [hp]; exact yoi_sound h2o hO) (by omega)
      · cases h3
    · split at h
      · cases h
      · rename_i i a b c v hc
        split at h
        · cases h
        · rename_i ss hss
          refine ynx_rel (kp := kp) h00 hkp hO hcd hnl hhn hg hM hX hS (hcd _ _ _ hc) hss hl hs fun s hs' lv' st' X' k1 k2 k3 k4 ko k5 => ?_
          simp only [Bool.and_eq_true] at h
          exact ih false s.1 s.2.1 s.2.2 (yupd i D) _ lv' st' X' (List.all_eq_true.mp h.2 s hs') k1 k2 (k5 D lv0 h.1 hD) k3 k4 ko
/-- a certificate that checks: the method keeps its summary -/
theorem yck_rel {X00 : zX} (hkp : ∀ (m ci f : Nat), kp m ci f = true → ∀ (n : Nat) (lv : zL) (X : zX) (r : zO × zX), zev (zcd t) (znl t) (zdf t) (zhn t) G n m 0 lv [] X = some r → ∀ (k : Nat) (fs : List Value), X.1[k]? = some (.inl (ci, fs)) → ∃ fs', r.2.1[k]? = some (.inl (ci, fs')) ∧ fs'[f]? = fs[f]?) (hnl : znl t = nl) (hhn : zhn t = hn) (hcd : ∀ mi pc q, cd mi pc = some q → zcd t mi pc = some q) (hg : yMg Tg G) (hS : ∀ s ∈ Sm, yVX W t G T X00 s) {s : ySm} {R : Int} {n : Nat} {O : yO} (h : yck W cd nl hn Tg T Sm s K Hs kp Ho R n O = true) : yVXO W t G T X00 O s := by
  simp only [yck, Bool.and_eq_true] at h
  obtain ⟨h1, h2⟩ := h
  have h1' := List.all_eq_true.mp h1
  have hHk : ∀ B ∈ Hs, yhk B.2.1 K B.2.2.2 = true := fun B hB => by
    have := h1' B hB
    simp only [yck1, Bool.and_eq_true] at this
    exact this.1
  intro vs X hv hM h00 hO
  have key : ∀ (m : Nat), ∀ B ∈ Hs, ∀ (lv : zL) (X' : zX), yl B.2.1 lv → yM T X'.1 → yP W X X' → yo (yho Ho B.1) X'.1 → B.2.2.1 + ytot K B.2.2.2 lv < m → zwp t G s.1 B.1 lv [] X' (yQ W T s.1 s.2.2 X) := by
    intro m
    induction m with
    | zero =>
      intro B hB lv X' hl _ _ _ hlt
      exfalso
      have h3 := h1' B hB
      simp only [yck1, Bool.and_eq_true, decide_eq_true_eq] at h3
      have h4 := yhk_nonneg hl h3.1
      omega
    | succ m ih =>
      intro B hB lv X' hl hM' hX' hO' hlt
      have h3 := h1' B hB
      simp only [yck1, Bool.and_eq_true, decide_eq_true_eq] at h3
      refine yrun_rel hkp hnl hhn hcd hg hS hl h3.1 hHk h00 (fun C hC lv2 X2 k1 k2 k3 ko k4 => ih C hC lv2 X2 k1 k2 k3 ko (by omega)) n true B.1 B.2.1 [] _ _ lv [] X' h3.2.2 hl trivial (yD_0 hl) hM' hX' hO'
  have hl := yl_args (i := 0) hv
  refine yrun_rel hkp hnl hhn hcd hg hS hl (yhk_false _ K) hHk h00 (fun C hC lv2 X2 k1 k2 k3 ko k4 => key (C.2.2.1 + ytot K C.2.2.2 lv2 + 1).toNat C hC lv2 X2 k1 k2 k3 ko (by omega)) n false 0 _ [] [] _ _ [] X h2 hl trivial (fun q hq => by cases hq) hM (yP_0 W X) hO
end yRS
def yxr (W : List Nat) (T : List yC) (X00 : zX) (s : ySm) : Prop := ∀ (v0 : Value) (xs : List Int32), yVX W (zt v0) (zG xs) T X00 s
def yxro (W : List Nat) (T : List yC) (X00 : zX) (O : yO) (s : ySm) : Prop := ∀ (v0 : Value) (xs : List Int32), yVXO W (zt v0) (zG xs) T X00 O s
theorem yxr_in {W : List Nat} {T : List yC} {X00 : zX} {s : ySm} (h : yx W T s) : yxr W T X00 s := fun v0 xs vs X hf hM _ => h v0 xs vs X hf hM
theorem yxr_n {W : List Nat} {T : List yC} {X00 : zX} : ∀ s ∈ ([] : List ySm), yxr W T X00 s := fun s h => by cases h
theorem yxr_c {W : List Nat} {T : List yC} {X00 : zX} {s : ySm} {r : List ySm} (h : yxr W T X00 s) (k : ∀ u ∈ r, yxr W T X00 u) : ∀ u ∈ s :: r, yxr W T X00 u := fun u hu => by
  rcases List.mem_cons.mp hu with rfl | hu
  · exact h
  · exact k u hu
theorem yxro_of {W : List Nat} {T : List yC} {X00 : zX} {Sm : List ySm} {s : ySm} {K : yK} {Hs : List yH} {Ho : List (Nat × yO)} {R : Int} {n : Nat} {O : yO} (hS : ∀ u ∈ Sm, yxr W T X00 u) (h : yck W zcd0 zNLf zHN yTg T Sm s K Hs ykp Ho R n O = true) : yxro W T X00 O s := fun v0 xs => yck_rel (fun m ci f hk => ykp_spec v0 m ci f hk) (zt_nl v0) (zt_hn v0) (zcd0_sub v0) (yg_ok xs) (fun u hu => hS u hu v0 xs) h
theorem yxr_of {W : List Nat} {T : List yC} {X00 : zX} {Sm : List ySm} {s : ySm} {K : yK} {Hs : List yH} {Ho : List (Nat × yO)} {R : Int} {n : Nat} (hS : ∀ u ∈ Sm, yxr W T X00 u) (h : yck W zcd0 zNLf zHN yTg T Sm s K Hs ykp Ho R n [] = true) : yxr W T X00 s := fun v0 xs vs X hf hM h00 => yxro_of hS h v0 xs vs X hf hM h00 (fun e he => by cases he)
theorem yxro_ro {W : List Nat} {T : List yC} {X00 : zX} {O : yO} {m : Nat} {ps : List yA} {ro : Option yA} (ro' : Option yA) (hv : yxro W T X00 O (m, ps, ro)) (h : yrle ro ro' = true) : yxro W T X00 O (m, ps, ro') := fun v0 xs vs X hf hM h00 hO => zwp_mono (hv v0 xs vs X hf hM h00 hO) fun o X' hq => by
  cases o with
  | inl r => exact ⟨yrle_sound h hq.1, hq.2⟩
  | inr x => exact hq
theorem yxr_ro {W : List Nat} {T : List yC} {X00 : zX} {m : Nat} {ps : List yA} {ro : Option yA} (ro' : Option yA) (hv : yxr W T X00 (m, ps, ro)) (h : yrle ro ro' = true) : yxr W T X00 (m, ps, ro') := fun v0 xs vs X hf hM h00 => zwp_mono (hv v0 xs vs X hf hM h00) fun o X' hq => by
  cases o with
  | inl r => exact ⟨yrle_sound h hq.1, hq.2⟩
  | inr x => exact hq
theorem yxr_i3 {W : List Nat} {T : List yC} {X00 : zX} {m : Nat} {ro : Option yA} (as : List yA) {bs : List yA} {k k' : Int} (hk : k' = k + 1) (h1 : yxr W T X00 (m, as ++ .inl (0, k) :: bs, ro)) (h2 : yxr W T X00 (m, as ++ .inl (-2147483648, -1) :: bs, ro)) (h3 : yxr W T X00 (m, as ++ .inl (k', 2147483647) :: bs, ro)) : yxr W T X00 (m, as ++ .inl ytop :: bs, ro) := fun v0 xs vs X hf hM h00 => by
  obtain ⟨z, e1, e2, e3⟩ := yfa_i hf
  by_cases c1 : z < 0
  · exact h2 v0 xs vs X (e3 _ e1 (by dsimp only; omega)) hM h00
  · by_cases c2 : z ≤ k
    · exact h1 v0 xs vs X (e3 _ (by dsimp only; omega) c2) hM h00
    · exact h3 v0 xs vs X (e3 _ (by dsimp only; omega) e2) hM h00
theorem yxr_i2 {W : List Nat} {T : List yC} {X00 : zX} {m : Nat} {ro : Option yA} (as : List yA) {bs : List yA} (h2 : yxr W T X00 (m, as ++ .inl (-2147483648, -1) :: bs, ro)) (h3 : yxr W T X00 (m, as ++ .inl (0, 2147483647) :: bs, ro)) : yxr W T X00 (m, as ++ .inl ytop :: bs, ro) := fun v0 xs vs X hf hM h00 => by
  obtain ⟨z, e1, e2, e3⟩ := yfa_i hf
  by_cases c1 : z < 0
  · exact h2 v0 xs vs X (e3 _ e1 (by dsimp only; omega)) hM h00
  · exact h3 v0 xs vs X (e3 _ (by dsimp only; omega) e2) hM h00
theorem yxr_f2 {W : List Nat} {T : List yC} {X00 : zX} {s : ySm} (j : Nat) {ci b : Nat} {as : List yA} {lo hi l1 h1 l2 h2 : Int} (k1 : yxro W T X00 [(j + 50, ci, b, l1, h1)] s) (k2 : yxro W T X00 [(j + 50, ci, b, l2, h2)] s) (ht : T[j]? = some (.inl (ci, as))) (ha : as[b]? = some (.inl (lo, hi))) (hc : l1 ≤ lo ∧ l2 ≤ h1 + 1 ∧ hi ≤ h2) : yxr W T X00 s := fun v0 xs vs X hf hM h00 => by
  obtain ⟨z, e1, e2, e3⟩ := yM_o hM ht ha
  by_cases c1 : z ≤ h1
  · exact k1 v0 xs vs X hf hM h00 (e3 l1 h1 (by omega) c1)
  · exact k2 v0 xs vs X hf hM h00 (e3 l2 h2 (by omega) (by omega))
/-- a parameter of several places, beside a heap -/
theorem yxr_places {W : List Nat} {T : List yC} {X00 : zX} {m : Nat} {as bs : List yA} {ro : Option yA} {os : List Nat} (h : ∀ o ∈ os, yxr W T X00 (m, as ++ .inr (.inr [o]) :: bs, ro)) : yxr W T X00 (m, as ++ .inr (.inr os) :: bs, ro) := by
  intro v0 xs vs X hf hM h00
  have key : ∃ o ∈ os, yfa (as ++ .inr (.inr [o]) :: bs) vs := by
    revert hf
    show yfa (as ++ .inr (.inr os) :: bs) vs → _
    clear h hM h00
    induction as generalizing vs with
    | nil =>
      intro hf
      cases vs with
      | nil => exact hf.elim
      | cons v vs =>
        obtain ⟨⟨o, e, ho⟩, h2⟩ := hf
        exact ⟨o, ho, ⟨⟨o, e, by simp⟩, h2⟩⟩
    | cons a as ih =>
      intro hf
      cases vs with
      | nil => exact hf.elim
      | cons v vs =>
        obtain ⟨o, ho, h2⟩ := ih _ hf.2
        exact ⟨o, ho, ⟨hf.1, h2⟩⟩
  obtain ⟨o, ho, hf'⟩ := key
  exact h o ho v0 xs vs X hf' hM h00
/-- one figure's summary where the heap beside tells of it -/
theorem yxr_fig {T Tk Tf : List yC} {X00 : zX} {s : ySm} (hR : yR yW T Tk) (hR2 : yR yW T Tf) (hM0 : yM Tf X00.1) (h : yx yW Tf s) : yxr yW Tk X00 s := fun v0 xs vs X hf hMk hF =>
  zwp_mono (h v0 xs vs X hf (yM_back hR2 hM0 (yM_sub hR hMk) hF)) fun _ _ hq => yQ_up hR hMk (yQ_down hR2 hq)
