/-! What stays over a step that dances. -/
def xWA : List Nat := 200 :: yWa
def xkl : List (Nat × Nat) := [(0, 10), (0, 12), (3, 6), (8, 6), (8, 7), (9, 1), (10, 0), (10, 28), (10, 29), (10, 30), (10, 31), (10, 36)]
def xD (f f' : Nat → zE) : Prop := yM yT2 (xh f') ∧ yF xWA (xh f) (xh f') ∧ zkeep xkl (xh f) (xh f')
theorem xD_t {f g h : Nat → zE} (a : xD f g) (b : xD g h) : xD f h := ⟨b.1, fun k hk => (b.2.1 k hk).trans (a.2.1 k hk), zkeep_t a.2.2 b.2.2⟩
/-- a method that dances: what it answers and throws -/
def xca (f : Nat → zE) (m : Nat) (ps : List yA) (ro : Option yA) (E : List Nat) : Prop := ∀ (v0 : Value) (xs : List Int32) (u : Nat × Nat) (vs : List Value), yfa ps vs → zwp (zt v0) (zG xs) m 0 (lv_args 0 vs) [] (xh f, u) (fun o X => (∃ r f', o = .inl r ∧ X = (xh f', u) ∧ yro ro r ∧ xD f f') ∨ (∃ x f', o = .inr x ∧ x ∈ E ∧ X = (xh f', u.1 + 1, u.2 + 6) ∧ xD f f'))
theorem xca_of {W : List Nat} {T : List yC} {m : Nat} {ps : List yA} {ro : Option yA} {l : List (Nat × Nat)} {E : List Nat} {f : Nat → zE} (h : yxr W T (xh f, (0, 0)) (m, ps, ro)) (hl : T.length = 154) (hk : yws.lookup m = some l) (hE : yts.lookup m = some E) (hM : yM T (xh f)) (hT : ∀ M, yM T M → yM yT2 M) (hW : (W.all fun k => xWA.elem k) = true) (hl2 : (l.all fun e => xkl.elem e) = true) : xca f m ps ro E := by
  intro v0 xs u vs hf
  refine zwp_mono (xc_of h hl hk hE hf hM fun _ _ => rfl) fun o X hq => ?_
  have hw : ∀ M M', yF W M M' → yF xWA M M' := fun M M' hF k hk2 => hF k fun hk3 => hk2 (List.elem_iff.mp (List.all_eq_true.mp hW _ hk3))
  have hz : ∀ M M', zkeep l M M' → zkeep xkl M M' := fun M M' hF => zkeep_m hF fun e he => List.elem_iff.mp (List.all_eq_true.mp hl2 _ he)
  rcases hq with ⟨r, f', e1, e2, q1, q2, q3, q4⟩ | ⟨x, f', e1, e2, e3, q2, q3, q4⟩
  · exact Or.inl ⟨r, f', e1, e2, q1, hT _ q2, hw _ _ q3, hz _ _ q4⟩
  · exact Or.inr ⟨x, f', e1, e2, e3, hT _ q2, hw _ _ q3, hz _ _ q4⟩
theorem xca_m {f : Nat → zE} {m : Nat} {ps : List yA} {ro : Option yA} {l : List (Nat × Nat)} {E : List Nat} (hM : yM yT2 (xh f)) (h : yx yW yT (m, ps, ro)) (hk : yws.lookup m = some l) (hE : yts.lookup m = some E) (hl2 : (l.all fun e => xkl.elem e) = true) : xca f m ps ro E := xca_of (yxr_in (yw_up yR2 h)) yT2_len hk hE hM (fun _ h => h) (by decide +kernel) hl2
theorem xca_c {c : Nat} {f : Nat → zE} {m : Nat} {ps : List yA} {ro : Option yA} {l : List (Nat × Nat)} {E : List Nat} (hc : c < 13) (hM : yM (yTn c) (xh f)) (h : yxr yW (yTn c) (xh f, (0, 0)) (m, ps, ro)) (hk : yws.lookup m = some l) (hE : yts.lookup m = some E) (hl2 : (l.all fun e => xkl.elem e) = true) : xca f m ps ro E := xca_of h ((yRn c hc).1.symm.trans yT2_len) hk hE hM (fun _ h => yM_sub (yRn c hc) h) (by decide +kernel) hl2
/-- without throws -/
theorem xca_q {f : Nat → zE} {m : Nat} {ps : List yA} {ro : Option yA} (h : xca f m ps ro []) {v0 : Value} {xs : List Int32} {u : Nat × Nat} {vs : List Value} (hf : yfa ps vs) : xq v0 xs u m (lv_args 0 vs) f (fun r f' => yro ro r ∧ xD f f') := by
  refine zwp_mono (h v0 xs u vs hf) fun o X hq => ?_
  rcases hq with ⟨r, f', e1, e2, q1, q2⟩ | ⟨x, f', e1, e2, -⟩
  · exact ⟨r, f', e1, e2, q1, q2⟩
  · cases e2
/-! Each of them. -/
theorem xA83 {f : Nat → zE} (hM : yM yT2 (xh f)) : xca f 83 [.inr (.inr [50])] (some (.inl ytop)) [] := xca_m hM yv83 rfl rfl (by decide)
theorem xA84 {f : Nat → zE} (hM : yM yT2 (xh f)) : xca f 84 [.inr (.inr [177])] (some (.inl ytop)) [] := xca_m hM yv84 rfl rfl (by decide)
theorem xA90 {f : Nat → zE} (hM : yM yT2 (xh f)) : xca f 90 [.inr (.inr [177]), .inl ytop] (some (.inl (0, 16))) [] := xca_m hM yv90 rfl rfl (by decide)
theorem xA125 {f : Nat → zE} (hM : yM yT2 (xh f)) : xca f 125 [.inr (.inr [177]), .inl ytop] (some (.inl (0, 16))) [] := xca_m hM yv125 rfl rfl (by decide)
theorem xA128 {f : Nat → zE} (hM : yM yT2 (xh f)) : xca f 128 [.inr (.inr [177]), .inl ytop] (some (.inl (0, 16))) [] := xca_m hM yv128 rfl rfl (by decide)
theorem xA129 {f : Nat → zE} (hM : yM yT2 (xh f)) : xca f 129 [.inr (.inr [50])] (some (.inl ytop)) [] := xca_m hM yv129 rfl rfl (by decide)
theorem xA130 {f : Nat → zE} (hM : yM yT2 (xh f)) : xca f 130 [.inr (.inr [177])] (some (.inl ytop)) [] := xca_m hM yv130 rfl rfl (by decide)
theorem xA131 {f : Nat → zE} (hM : yM yT2 (xh f)) : xca f 131 [.inr (.inr [50])] (some (.inl (0, 16))) [101] := xca_m hM yv131 rfl rfl (by decide)
theorem xA134 {f : Nat → zE} (hM : yM yT2 (xh f)) : xca f 134 [.inr (.inr [177])] (some (.inl (0, 16))) [] := xca_m hM yv134 rfl rfl (by decide)
theorem xA135 {f : Nat → zE} (hM : yM yT2 (xh f)) : xca f 135 [.inr (.inr [50])] (some (.inl (0, 24))) [] := xca_m hM yv135 rfl rfl (by decide)
theorem xA136 {f : Nat → zE} (hM : yM yT2 (xh f)) : xca f 136 [.inr (.inr [177])] (some (.inl (0, 24))) [] := xca_m hM yv136 rfl rfl (by decide)
theorem xA138 {f : Nat → zE} (hM : yM yT2 (xh f)) : xca f 138 [.inr (.inr [50]), .inl ytop, .inl ytop] (some (.inl (0, 9))) [100] := xca_m hM yv138 rfl rfl (by decide)
theorem xA141 {f : Nat → zE} (hM : yM yT2 (xh f)) : xca f 141 [.inr (.inr [177]), .inl ytop, .inl ytop] (some (.inl ytop)) [] := xca_m hM yv141 rfl rfl (by decide)
theorem xA143 {f : Nat → zE} (hM : yM yT2 (xh f)) : xca f 143 [.inr (.inr [50]), .inl ytop, .inl ytop] (some (.inl (0, 99))) [100, 102] := xca_m hM yv143 rfl rfl (by decide)
theorem xA145 {f : Nat → zE} (hM : yM yT2 (xh f)) : xca f 145 [.inr (.inr [177]), .inl ytop, .inl ytop] (some (.inl ytop)) [] := xca_m hM yv145 rfl rfl (by decide)
theorem xA146 {f : Nat → zE} (hM : yM yT2 (xh f)) : xca f 146 [.inr (.inr [50]), .inl ytop, .inl ytop] (some (.inl (0, 1))) [100] := xca_m hM yv146 rfl rfl (by decide)
theorem xA148 {f : Nat → zE} (hM : yM yT2 (xh f)) : xca f 148 [.inr (.inr [177]), .inl ytop, .inl ytop] (some (.inl (0, 1))) [] := xca_m hM yv148 rfl rfl (by decide)
theorem xA151 {f : Nat → zE} (hM : yM yT2 (xh f)) : xca f 151 [.inr (.inr [50])] (some (.inl (0, 4))) [] := xca_m hM yv151 rfl rfl (by decide)
theorem xA152 {f : Nat → zE} (hM : yM yT2 (xh f)) : xca f 152 [.inr (.inr [177])] (some (.inl (0, 4))) [] := xca_m hM yv152 rfl rfl (by decide)
theorem xA156 {f : Nat → zE} (hM : yM yT2 (xh f)) : xca f 156 [.inr (.inr [177]), .inl ytop, .inl (0, 1)] (none) [] := xca_m hM yv156 rfl rfl (by decide)
theorem xA169 {f : Nat → zE} (hM : yM yT2 (xh f)) : xca f 169 [.inr (.inr [50]), .inl ytop] (some (.inl (0, 11))) [102] := xca_m hM yv169 rfl rfl (by decide)
theorem xA171 {f : Nat → zE} (hM : yM yT2 (xh f)) : xca f 171 [.inr (.inr [177]), .inl ytop] (some (.inl ytop)) [] := xca_m hM yv171 rfl rfl (by decide)
theorem xA176 {f : Nat → zE} (hM : yM yT2 (xh f)) : xca f 176 [.inr (.inr [177]), .inl ytop, .inl ytop] (some (.inl (0, 1))) [] := xca_m hM yv176 rfl rfl (by decide)
theorem yR3w : yR yW3 yT yT2 := yrB_spec (by decide +kernel)
theorem xA168 {f : Nat → zE} (hM : yM yT2 (xh f)) : xca f 168 [.inr (.inr [177])] (some (.inl (-1, 4))) [] := xca_of (yxr_in (yw_up yR3w yv168)) yT2_len rfl rfl hM (fun _ h => h) (by decide +kernel) (by decide)
theorem yvn87 {X00 : zX} (c : Nat) (hc : c < 13) (hg : ykg c X00) : yxr yW (yTn c) X00 (87, [.inr (.inr [50]), .inl ytop], some (.inl ytop)) := match c, hc with
  | 0, _ => yxr_ro (some (.inl ytop)) (yv87n0 hg) (by decide +kernel)
  | 1, _ => yxr_ro (some (.inl ytop)) (yv87n1 hg) (by decide +kernel)
  | 2, _ => yxr_ro (some (.inl ytop)) (yv87n2 hg) (by decide +kernel)
  | 3, _ => yxr_ro (some (.inl ytop)) (yv87n3 hg) (by decide +kernel)
  | 4, _ => yxr_ro (some (.inl ytop)) (yv87n4 hg) (by decide +kernel)
  | 5, _ => yxr_ro (some (.inl ytop)) (yv87n5 hg) (by decide +kernel)
  | 6, _ => yxr_ro (some (.inl ytop)) (yv87n6 hg) (by decide +kernel)
  | 7, _ => yxr_ro (some (.inl ytop)) (yv87n7 hg) (by decide +kernel)
  | 8, _ => yxr_ro (some (.inl ytop)) (yv87n8 hg) (by decide +kernel)
  | 9, _ => yxr_ro (some (.inl ytop)) (yv87n9 hg) (by decide +kernel)
  | 10, _ => yxr_ro (some (.inl ytop)) (yv87n10 hg) (by decide +kernel)
  | 11, _ => yxr_ro (some (.inl ytop)) (yv87n11 hg) (by decide +kernel)
  | 12, _ => yxr_ro (some (.inl ytop)) (yv87n12 hg) (by decide +kernel)
theorem xA87 {f : Nat → zE} {c : Nat} (hc : c < 13) (hM : yM (yTn c) (xh f)) (hg : ykg c (xh f, (0, 0))) : xca f 87 [.inr (.inr [50]), .inl ytop] (some (.inl ytop)) [100] := xca_c hc hM (yvn87 c hc hg) rfl rfl (by decide)
theorem yvn108 {X00 : zX} (c : Nat) (hc : c < 13) (hg : ykg c X00) : yxr yW (yTn c) X00 (108, [.inr (.inr [50]), .inl ytop], some (.inl ytop)) := match c, hc with
  | 0, _ => yxr_ro (some (.inl ytop)) (yv108n0 hg) (by decide +kernel)
  | 1, _ => yxr_ro (some (.inl ytop)) (yv108n1 hg) (by decide +kernel)
  | 2, _ => yxr_ro (some (.inl ytop)) (yv108n2 hg) (by decide +kernel)
  | 3, _ => yxr_ro (some (.inl ytop)) (yv108n3 hg) (by decide +kernel)
  | 4, _ => yxr_ro (some (.inl ytop)) (yv108n4 hg) (by decide +kernel)
  | 5, _ => yxr_ro (some (.inl ytop)) (yv108n5 hg) (by decide +kernel)
  | 6, _ => yxr_ro (some (.inl ytop)) (yv108n6 hg) (by decide +kernel)
  | 7, _ => yxr_ro (some (.inl ytop)) (yv108n7 hg) (by decide +kernel)
  | 8, _ => yxr_ro (some (.inl ytop)) (yv108n8 hg) (by decide +kernel)
  | 9, _ => yxr_ro (some (.inl ytop)) (yv108n9 hg) (by decide +kernel)
  | 10, _ => yxr_ro (some (.inl ytop)) (yv108n10 hg) (by decide +kernel)
  | 11, _ => yxr_ro (some (.inl ytop)) (yv108n11 hg) (by decide +kernel)
  | 12, _ => yxr_ro (some (.inl ytop)) (yv108n12 hg) (by decide +kernel)
theorem xA108 {f : Nat → zE} {c : Nat} (hc : c < 13) (hM : yM (yTn c) (xh f)) (hg : ykg c (xh f, (0, 0))) : xca f 108 [.inr (.inr [50]), .inl ytop] (some (.inl ytop)) [100, 101] := xca_c hc hM (yvn108 c hc hg) rfl rfl (by decide)
theorem yvn126 {X00 : zX} (c : Nat) (hc : c < 13) (hg : ykg c X00) : yxr yW (yTn c) X00 (126, [.inr (.inr [50]), .inl ytop], some (.inl ytop)) := match c, hc with
  | 0, _ => yxr_ro (some (.inl ytop)) (yv126n0 hg) (by decide +kernel)
  | 1, _ => yxr_ro (some (.inl ytop)) (yv126n1 hg) (by decide +kernel)
  | 2, _ => yxr_ro (some (.inl ytop)) (yv126n2 hg) (by decide +kernel)
  | 3, _ => yxr_ro (some (.inl ytop)) (yv126n3 hg) (by decide +kernel)
  | 4, _ => yxr_ro (some (.inl ytop)) (yv126n4 hg) (by decide +kernel)
  | 5, _ => yxr_ro (some (.inl ytop)) (yv126n5 hg) (by decide +kernel)
  | 6, _ => yxr_ro (some (.inl ytop)) (yv126n6 hg) (by decide +kernel)
  | 7, _ => yxr_ro (some (.inl ytop)) (yv126n7 hg) (by decide +kernel)
  | 8, _ => yxr_ro (some (.inl ytop)) (yv126n8 hg) (by decide +kernel)
  | 9, _ => yxr_ro (some (.inl ytop)) (yv126n9 hg) (by decide +kernel)
  | 10, _ => yxr_ro (some (.inl ytop)) (yv126n10 hg) (by decide +kernel)
  | 11, _ => yxr_ro (some (.inl ytop)) (yv126n11 hg) (by decide +kernel)
  | 12, _ => yxr_ro (some (.inl ytop)) (yv126n12 hg) (by decide +kernel)
theorem xA126 {f : Nat → zE} {c : Nat} (hc : c < 13) (hM : yM (yTn c) (xh f)) (hg : ykg c (xh f, (0, 0))) : xca f 126 [.inr (.inr [50]), .inl ytop] (some (.inl ytop)) [100, 101] := xca_c hc hM (yvn126 c hc hg) rfl rfl (by decide)
theorem yvn163 {X00 : zX} (c : Nat) (hc : c < 13) (hg : ykg c X00) : yxr yW (yTn c) X00 (163, [.inr (.inr [50])], some (.inl (-1, 4))) := match c, hc with
  | 0, _ => yxr_ro (some (.inl (-1, 4))) (yv163n0 hg) (by decide +kernel)
  | 1, _ => yxr_ro (some (.inl (-1, 4))) (yv163n1 hg) (by decide +kernel)
  | 2, _ => yxr_ro (some (.inl (-1, 4))) (yv163n2 hg) (by decide +kernel)
  | 3, _ => yxr_ro (some (.inl (-1, 4))) (yv163n3 hg) (by decide +kernel)
  | 4, _ => yxr_ro (some (.inl (-1, 4))) (yv163n4 hg) (by decide +kernel)
  | 5, _ => yxr_ro (some (.inl (-1, 4))) (yv163n5 hg) (by decide +kernel)
  | 6, _ => yxr_ro (some (.inl (-1, 4))) (yv163n6 hg) (by decide +kernel)
  | 7, _ => yxr_ro (some (.inl (-1, 4))) (yv163n7 hg) (by decide +kernel)
  | 8, _ => yxr_ro (some (.inl (-1, 4))) (yv163n8 hg) (by decide +kernel)
  | 9, _ => yxr_ro (some (.inl (-1, 4))) (yv163n9 hg) (by decide +kernel)
  | 10, _ => yxr_ro (some (.inl (-1, 4))) (yv163n10 hg) (by decide +kernel)
  | 11, _ => yxr_ro (some (.inl (-1, 4))) (yv163n11 hg) (by decide +kernel)
  | 12, _ => yxr_ro (some (.inl (-1, 4))) (yv163n12 hg) (by decide +kernel)
theorem xA163 {f : Nat → zE} {c : Nat} (hc : c < 13) (hM : yM (yTn c) (xh f)) (hg : ykg c (xh f, (0, 0))) : xca f 163 [.inr (.inr [50])] (some (.inl (-1, 4))) [] := xca_c hc hM (yvn163 c hc hg) rfl rfl (by decide)
theorem yvn173 {X00 : zX} (c : Nat) (hc : c < 13) (hg : ykg c X00) : yxr yW (yTn c) X00 (173, [.inr (.inr [50]), .inl ytop, .inl ytop], some (.inl ytop)) := match c, hc with
  | 0, _ => yxr_ro (some (.inl ytop)) (yv173n0 hg) (by decide +kernel)
  | 1, _ => yxr_ro (some (.inl ytop)) (yv173n1 hg) (by decide +kernel)
  | 2, _ => yxr_ro (some (.inl ytop)) (yv173n2 hg) (by decide +kernel)
  | 3, _ => yxr_ro (some (.inl ytop)) (yv173n3 hg) (by decide +kernel)
  | 4, _ => yxr_ro (some (.inl ytop)) (yv173n4 hg) (by decide +kernel)
  | 5, _ => yxr_ro (some (.inl ytop)) (yv173n5 hg) (by decide +kernel)
  | 6, _ => yxr_ro (some (.inl ytop)) (yv173n6 hg) (by decide +kernel)
  | 7, _ => yxr_ro (some (.inl ytop)) (yv173n7 hg) (by decide +kernel)
  | 8, _ => yxr_ro (some (.inl ytop)) (yv173n8 hg) (by decide +kernel)
  | 9, _ => yxr_ro (some (.inl ytop)) (yv173n9 hg) (by decide +kernel)
  | 10, _ => yxr_ro (some (.inl ytop)) (yv173n10 hg) (by decide +kernel)
  | 11, _ => yxr_ro (some (.inl ytop)) (yv173n11 hg) (by decide +kernel)
  | 12, _ => yxr_ro (some (.inl ytop)) (yv173n12 hg) (by decide +kernel)
theorem xA173 {f : Nat → zE} {c : Nat} (hc : c < 13) (hM : yM (yTn c) (xh f)) (hg : ykg c (xh f, (0, 0))) : xca f 173 [.inr (.inr [50]), .inl ytop, .inl ytop] (some (.inl ytop)) [100] := xca_c hc hM (yvn173 c hc hg) rfl rfl (by decide)
theorem yTc_M {c : Nat} {f : Nat → zE} {kp pt : Int} (hc : c < 13) (hM : yM yT2 (xh f)) (h53 : f 53 = xbo (c : Nat) kp pt) : yM (yT2.set 3 (.inl (2, [.inr (.inr [54]), .inr (.inr [55]), .inr (.inr [56]), .inl ((c : Int), (c : Int)), .inl (0, 208), .inl (0, 208)]))) (xh f) := by
  refine yM_re hM fun e he => ?_
  have e2 : (xh f)[3]? = some (f 53) := xh_at (p := 53) (by decide) (by decide)
  rw [he, h53] at e2
  cases e2
  obtain ⟨e', he', hok⟩ := hM.2 3 (.inl (2, [.inr (.inr [54]), .inr (.inr [55]), .inr (.inr [56]), .inl (0, 12), .inl (0, 208), .inl (0, 208)])) rfl
  rw [he] at he'
  cases he'
  exact yok_o ⟨ygr, ygr, ygr, ygi (by omega) (by omega) (by omega) (by omega), hok.2.2 4 _ _ rfl rfl, hok.2.2 5 _ _ rfl rfl, trivial⟩
theorem xA154 {f : Nat → zE} {c : Nat} {kp pt : Int} (hc : c < 13) (hM : yM yT2 (xh f)) (h53 : f 53 = xbo (c : Nat) kp pt) : xca f 154 [.inr (.inr [50]), .inl ytop, .inl (0, 1)] none [100, 101] := match c, hc, yTc_M hc hM h53 with
  | 0, _, h => xca_of (W := yWa) (T := yTc0) (yxr_in (yx_ro none yv154c0 (by decide +kernel))) (by decide +kernel) rfl rfl h (fun _ h => yM_sub yRc_0 h) (by decide +kernel) (by decide)
  | 1, _, h => xca_of (W := yWa) (T := yTc1) (yxr_in (yx_ro none yv154c1 (by decide +kernel))) (by decide +kernel) rfl rfl h (fun _ h => yM_sub yRc_1 h) (by decide +kernel) (by decide)
  | 2, _, h => xca_of (W := yWa) (T := yTc2) (yxr_in (yx_ro none yv154c2 (by decide +kernel))) (by decide +kernel) rfl rfl h (fun _ h => yM_sub yRc_2 h) (by decide +kernel) (by decide)
  | 3, _, h => xca_of (W := yWa) (T := yTc3) (yxr_in (yx_ro none yv154c3 (by decide +kernel))) (by decide +kernel) rfl rfl h (fun _ h => yM_sub yRc_3 h) (by decide +kernel) (by decide)
  | 4, _, h => xca_of (W := yWa) (T := yTc4) (yxr_in (yx_ro none yv154c4 (by decide +kernel))) (by decide +kernel) rfl rfl h (fun _ h => yM_sub yRc_4 h) (by decide +kernel) (by decide)
  | 5, _, h => xca_of (W := yWa) (T := yTc5) (yxr_in (yx_ro none yv154c5 (by decide +kernel))) (by decide +kernel) rfl rfl h (fun _ h => yM_sub yRc_5 h) (by decide +kernel) (by decide)
  | 6, _, h => xca_of (W := yWa) (T := yTc6) (yxr_in (yx_ro none yv154c6 (by decide +kernel))) (by decide +kernel) rfl rfl h (fun _ h => yM_sub yRc_6 h) (by decide +kernel) (by decide)
  | 7, _, h => xca_of (W := yWa) (T := yTc7) (yxr_in (yx_ro none yv154c7 (by decide +kernel))) (by decide +kernel) rfl rfl h (fun _ h => yM_sub yRc_7 h) (by decide +kernel) (by decide)
  | 8, _, h => xca_of (W := yWa) (T := yTc8) (yxr_in (yx_ro none yv154c8 (by decide +kernel))) (by decide +kernel) rfl rfl h (fun _ h => yM_sub yRc_8 h) (by decide +kernel) (by decide)
  | 9, _, h => xca_of (W := yWa) (T := yTc9) (yxr_in (yx_ro none yv154c9 (by decide +kernel))) (by decide +kernel) rfl rfl h (fun _ h => yM_sub yRc_9 h) (by decide +kernel) (by decide)
  | 10, _, h => xca_of (W := yWa) (T := yTc10) (yxr_in (yx_ro none yv154c10 (by decide +kernel))) (by decide +kernel) rfl rfl h (fun _ h => yM_sub yRc_10 h) (by decide +kernel) (by decide)
  | 11, _, h => xca_of (W := yWa) (T := yTc11) (yxr_in (yx_ro none yv154c11 (by decide +kernel))) (by decide +kernel) rfl rfl h (fun _ h => yM_sub yRc_11 h) (by decide +kernel) (by decide)
  | 12, _, h => xca_of (W := yWa) (T := yTc12) (yxr_in (yx_ro none yv154c12 (by decide +kernel))) (by decide +kernel) rfl rfl h (fun _ h => yM_sub yRc_12 h) (by decide +kernel) (by decide)
