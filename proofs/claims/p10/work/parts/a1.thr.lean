/-! Which exceptions a method may throw, by the instructions of all that it calls. -/
def zthrows (cd : Nat → Nat → Option zI) (tb : List (Nat × List Nat)) : Prop := ∀ (mi : Nat) (l : List Nat), tb.lookup mi = some l → ∀ (pc : Nat) (q : zI), cd mi pc = some q → (zki q.1 = 1 → 100 ≤ q.2.1 → q.2.1 ∈ l) ∧ (zki q.1 = 2 → q.2.1 = 0 → ∃ l', tb.lookup q.2.2.1 = some l' ∧ ∀ e, e ∈ l' → e ∈ l)
theorem zev_thr {cd : Nat → Nat → Option zI} {nl : Nat → Nat} {df : Nat → List Value} {hn : Nat → Nat → Nat → Option Nat} {G : List zE} {tb : List (Nat × List Nat)} (ht : zthrows cd tb) :
    ∀ (n mi pc : Nat) (l : List Nat) (lv : zL) (st : List Value) (X X' : zX) (x : Nat), tb.lookup mi = some l → zev cd nl df hn G n mi pc lv st X = some (.inr x, X') → x ∈ l := by
  intro n
  induction n with
  | zero => intro mi pc l lv st X X' x _ h; simp [zev] at h
  | succ n ih =>
    intro mi pc l lv st X X' x hl h
    rw [zev] at h
    split at h
    · cases h
    · rename_i i a b c v hcd
      obtain ⟨hw, hc⟩ := ht mi l hl pc _ hcd
      split at h
      · exact ih _ _ _ _ _ _ _ _ hl h
      · split at h
        · exact ih _ _ _ _ _ _ _ _ hl h
        · split at h
          · exact ih _ _ _ _ _ _ _ _ hl h
          · split at h
            · cases h
            · split at h
              · rename_i hk
                split at h
                · rename_i h5
                  cases h
                  exact hw hk h5.1
                · cases h
              · split at h
                · rename_i hk
                  split at h
                  · split at h
                    · split at h
                      · exact ih _ _ _ _ _ _ _ _ hl h
                      · cases h
                    · cases h
                  · split at h
                    · rename_i ha
                      obtain ⟨l', h1, h2⟩ := hc hk ha.1
                      split at h
                      · exact ih _ _ _ _ _ _ _ _ hl h
                      · rename_i x2 X2 hz
                        split at h
                        · cases h
                          exact h2 _ (ih _ _ _ _ _ _ _ _ h1 hz)
                        · split at h
                          · exact ih _ _ _ _ _ _ _ _ hl h
                          · cases h
                      · cases h
                    · cases h
                · cases h
def yts : List (Nat × List Nat) := [(11, []), (13, []), (14, []), (15, []), (22, []), (23, []), (24, []), (44, []), (61, []), (83, []), (84, []), (85, []), (86, [100]), (87, [100]), (89, []), (90, []), (91, []), (92, []), (93, []), (94, []), (95, []), (96, []), (97, []), (98, []), (99, []), (100, []), (101, []), (102, []), (103, []), (104, []), (105, []), (106, []), (107, [100, 101]), (108, [100, 101]), (110, []), (111, []), (112, []), (113, []), (114, []), (115, []), (116, []), (117, []), (118, []), (119, []), (120, []), (121, []), (122, []), (123, []), (124, []), (125, []), (126, [100, 101]), (128, []), (129, []), (130, []), (131, [101]), (133, []), (134, []), (135, []), (136, []), (137, [100]), (138, [100]), (140, []), (141, []), (142, []), (143, [100, 102]), (145, []), (146, [100]), (148, []), (149, []), (150, []), (151, []), (152, []), (153, []), (154, [100, 101]), (156, []), (157, []), (158, []), (159, []), (160, []), (161, []), (162, []), (163, []), (164, []), (165, []), (166, []), (167, []), (168, []), (169, [102]), (171, []), (172, []), (173, [100]), (175, []), (176, [])]
def ytsB : Bool := yts.all fun e => !(e.1 == 36) && ((((zKS .null)[e.1]?).getD []).all fun r => (!(zki r.2.1 == 1 && Nat.ble 100 r.2.2.1) || e.2.elem r.2.2.1) && (!(zki r.2.1 == 2 && r.2.2.1 == 0) || (match yts.lookup r.2.2.2.1 with
  | some l => l.all fun x => e.2.elem x
  | none => false)))
theorem ytsB_ok : ytsB = true := by decide +kernel
theorem yts_ok (v0 : Value) : zthrows (zcd (zt v0)) yts := by
  intro mi l hl pc q hq
  have h1 := List.all_eq_true.mp ytsB_ok _ (zlook hl)
  simp only [Bool.and_eq_true, Bool.not_eq_true', beq_eq_false_iff_ne] at h1
  have hq' : (((zKS v0)[mi]?).getD []).lookup pc = some q := hq
  rw [zks_set, List.getElem?_set_ne (fun h => h1.1 h.symm)] at hq'
  have h2 := List.all_eq_true.mp h1.2 _ (zlook hq')
  simp only [Bool.and_eq_true] at h2
  refine ⟨fun k1 k2 => ?_, fun k1 k2 => ?_⟩
  · have h3 := h2.1
    simp only [k1, BEq.rfl, Nat.ble_eq_true_of_le k2, Bool.and_self, Bool.not_true, Bool.false_or] at h3
    exact List.elem_iff.mp h3
  · have h3 := h2.2
    simp only [k1, k2, BEq.rfl, Bool.and_self, Bool.not_true, Bool.false_or] at h3
    split at h3
    · rename_i l' hl'
      exact ⟨l', hl', fun e he => List.elem_iff.mp (List.all_eq_true.mp h3 e he)⟩
    · cases h3
/-- a summary by hand, with throws, and with what is left alone -/
def xcQ (W : List Nat) (T : List yC) (ro : Option yA) (l : List (Nat × Nat)) (E : List Nat) (f : Nat → zE) (u : Nat × Nat) (o : zO) (X : zX) : Prop := (∃ r f', o = .inl r ∧ X = (xh f', u) ∧ yro ro r ∧ yM T (xh f') ∧ yF W (xh f) (xh f') ∧ zkeep l (xh f) (xh f')) ∨ (∃ x f', o = .inr x ∧ x ∈ E ∧ X = (xh f', u.1 + 1, u.2 + 6) ∧ yM T (xh f') ∧ yF W (xh f) (xh f') ∧ zkeep l (xh f) (xh f'))
theorem xc_of {W : List Nat} {T : List yC} {X00 : zX} {m : Nat} {ps : List yA} {ro : Option yA} {l : List (Nat × Nat)} {E : List Nat} (h : yxr W T X00 (m, ps, ro)) (hl : T.length = 154) (hk : yws.lookup m = some l) (hE : yts.lookup m = some E) {v0 : Value} {xs : List Int32} {u : Nat × Nat} {f : Nat → zE} {vs : List Value} (hf : yfa ps vs) (hM : yM T (xh f)) (h00 : yF W X00.1 (xh f)) : zwp (zt v0) (zG xs) m 0 (lv_args 0 vs) [] (xh f, u) (xcQ W T ro l E f u) := by
  obtain ⟨n, o, X', hz, hq⟩ := h v0 xs vs (xh f, u) hf hM h00
  refine ⟨n, o, X', hz, ?_⟩
  have hkp := zev_keep (yws_closed v0) n m 0 l _ [] (xh f, u) _ hk hz
  cases o with
  | inl r =>
    obtain ⟨q1, q2, q3, q4⟩ := hq
    obtain ⟨f', hf'⟩ := xh_ex (q2.1.trans hl)
    refine Or.inl ⟨r, f', rfl, ?_, q1, by rw [← hf']; exact q2, by rw [← hf']; exact q4, by rw [← hf']; exact hkp⟩
    rw [← hf']
    exact Prod.ext rfl q3
  | inr x =>
    obtain ⟨q1, q2, q3, q4, q5⟩ := hq
    obtain ⟨f', hf'⟩ := xh_ex (q3.1.trans hl)
    refine Or.inr ⟨x, f', rfl, zev_thr (yts_ok v0) n m 0 E _ [] (xh f, u) X' x hE hz, ?_, by rw [← hf']; exact q3, by rw [← hf']; exact q4, by rw [← hf']; exact hkp⟩
    rw [← hf']
    exact Prod.ext rfl q5
/-- a call that may throw, its handlers beside it -/
theorem x_callT {v0 : Value} {xs : List Int32} {u : Nat × Nat} {Q : zO → zX → Prop} {mi pc b : Nat} {v : Value} {lv : zL} {f : Nat → zE} {r : List Value} {i : Instr} {Q2 : zO → zX → Prop} (as : List Value) (hc : zcd (zt v0) mi pc = some (i, 0, b, as.length, v)) (hki : zki i = 2) (h8 : zcat r ≤ 8) (hn : zcat as ≤ znl (zt v0) b) (hrc : zrcv (zG xs) (xh f, u) v as.reverse = true) (hs : zwp (zt v0) (zG xs) b 0 (lv_args 0 as.reverse) [] (xh f, u) Q2)
    (k1 : ∀ r' X', Q2 (.inl r') X' → zwp (zt v0) (zG xs) mi (pc + 3) lv (r'.toList ++ r) X' Q) (k2 : ∀ x X', Q2 (.inr x) X' → ∃ q, zhn (zt v0) mi pc x ≠ none ∧ zhd (zcd (zt v0)) (zhn (zt v0)) (znl (zt v0) mi) mi pc x = some q ∧ zwp (zt v0) (zG xs) mi (q.1 + 1) (zf1 q.2 lv) [] X' Q) : xz v0 xs u Q mi pc lv (as ++ r) f := by
  obtain ⟨z1, z2, z3, z4, z5⟩ := zk_za (G := zG xs) (df := zdf (zt v0)) (a := 0) (b := b) (c := as.length) (v := v) (nL := znl (zt v0) mi) (pc := pc) (lv := lv) (st := as ++ r) (X := (xh f, u)) hki
  have e1 : (as ++ r).take as.length = as := List.take_left
  have e2 : (as ++ r).drop as.length = r := List.drop_left
  refine zwp_call ⟨hc, z1, z2, z3⟩ z4 hki ⟨rfl, by simp, by rw [e2]; exact h8, by rw [e1]; exact hn, by rw [e1]; exact hrc⟩ ?_
  rw [e1, e2]
  refine zwp_mono hs fun o X' hq => ?_
  cases o with
  | inl r' => exact k1 r' X' hq
  | inr x => exact Or.inr (k2 x X' hq)
