/-! One step of the checker. -/
/-- the methods that may throw -/
def yth (mi : Nat) : Bool := [64, 86, 87, 107, 108, 126, 131, 137, 138, 143, 146, 154, 169, 173].elem mi
def yex (x : Nat) : Bool := [100, 101, 102].elem x
def yQ (W : List Nat) (T : List yC) (mi : Nat) (ro : Option yA) (X0 : zX) (o : zO) (X : zX) : Prop := match o with
  | .inl r => yro ro r ∧ yM T X.1 ∧ yP W X0 X
  | .inr x => yth mi = true ∧ yex x = true ∧ yM T X.1 ∧ yF W X0.1 X.1 ∧ X.2 = (X0.2.1 + 1, X0.2.2 + 6)
def yV (W : List Nat) (t : zT) (G : List zE) (T : List yC) (s : ySm) : Prop := ∀ (vs : List Value) (X : zX), yfa s.2.1 vs → yM T X.1 → zwp t G s.1 0 (lv_args 0 vs) [] X (yQ W T s.1 s.2.2 X)
def yto (q : Int × Int) (pc p : Nat) (L : yL) (r : yS) : Int → List Int → Option (List yN)
  | _, [] => some []
  | k, o :: os => match ztgt pc o, yto q pc p L r (k + 1) os with
    | some t, some l => some (if q.1 ≤ k ∧ k ≤ q.2 then (t, yset p (.inl (k, k)) L, r) :: l else l)
    | _, _ => none
theorem yto_spec {q : Int × Int} {pc p : Nat} {L : yL} {r : yS} : ∀ {os : List Int} {k : Int} {l : List yN} {j : Nat} {o : Int}, yto q pc p L r k os = some l → os[j]? = some o → q.1 ≤ k + j → k + j ≤ q.2 → ∃ t, ztgt pc o = some t ∧ (t, yset p (.inl (k + j, k + j)) L, r) ∈ l := by
  intro os
  induction os with
  | nil => intro k l j o _ h; simp at h
  | cons a os ih =>
    intro k l j o h hj h1 h2
    simp only [yto] at h
    split at h
    · rename_i t l' ht hl
      cases h
      cases j with
      | zero =>
        simp only [List.getElem?_cons_zero, Option.some.injEq] at hj
        subst hj
        refine ⟨t, ht, ?_⟩
        rw [if_pos (by constructor <;> omega)]
        have e : k + ((0 : Nat) : Int) = k := by omega
        rw [e]
        exact List.mem_cons_self
      | succ j =>
        rw [List.getElem?_cons_succ] at hj
        obtain ⟨t', h3, h4⟩ := ih hl hj (by omega) (by omega)
        have e : k + ((j + 1 : Nat) : Int) = k + 1 + (j : Int) := by omega
        rw [e]
        refine ⟨t', h3, ?_⟩
        split
        · exact List.mem_cons_of_mem _ h4
        · exact h4
    · cases h
def ysw (i : Instr) (pc : Nat) (L : yL) (S : yS) : Option (List yN) := match i with
  | .tableswitch d lo hi os => match S with
    | (.inl q, p) :: r => if os.toList.length = (hi + 1 - lo).toNat then match ztgt pc d, yto q pc p L r lo os.toList with
      | some t, some l => some (if q.1 < lo ∨ hi < q.2 then (t, (if lo ≤ q.1 then yset p (.inl (ymax q.1 (hi + 1), q.2)) L else L), r) :: l else l)
      | _, _ => none
      else none
    | _ => none
  | _ => none
theorem ysw_sound {i : Instr} {v : Value} {nL pc : Nat} {L : yL} {S : yS} {ss : List yN} {lv : zL} {st : List Value} (h : ysw i pc L S = some ss) (hl : yl L lv) (hs : ys S st lv) :
    ∃ q, za i v nL pc lv st = some q ∧ q.2.1 = lv ∧ ∃ s ∈ ss, s.1 = q.1 ∧ yl s.2.1 lv ∧ ys s.2.2 q.2.2 lv := by
  cases i with
  | tableswitch d lo hi os =>
    simp only [ysw] at h
    split at h
    · rename_i q p r
      split at h
      · rename_i hlen
        split at h
        · rename_i t l ht hto
          cases h
          obtain ⟨x, w, rfl, ⟨h1, h2⟩, hp, hr⟩ := ys_int hs
          by_cases hx : x.toInt < lo ∨ hi < x.toInt
          · have hd : yl (if lo ≤ q.1 then yset p (.inl (ymax q.1 (hi + 1), q.2)) L else L) lv := by
              split
              · refine yl_set hl hp (yg_int ⟨?_, h2⟩)
                simp only [ymax]
                split <;> omega
              · exact hl
            refine ⟨(t, lv, w), ?_, rfl, (t, (if lo ≤ q.1 then yset p (.inl (ymax q.1 (hi + 1), q.2)) L else L), r), ?_, rfl, hd, hr⟩
            · simp only [za]
              rw [if_pos hx]
              simp only [ht]
            · rw [if_pos (by omega)]
              exact List.mem_cons_self
          · have hj : (x.toInt - lo).toNat < os.toList.length := by omega
            have e : lo + (((x.toInt - lo).toNat : Nat) : Int) = x.toInt := by omega
            obtain ⟨t', h3, h4⟩ := yto_spec hto (List.getElem?_eq_getElem hj) (by omega) (by omega)
            rw [e] at h4
            refine ⟨(t', lv, w), ?_, rfl, (t', yset p (.inl (x.toInt, x.toInt)) L, r), ?_, rfl, yl_set hl hp (yg_c x), hr⟩
            · simp only [za]
              rw [if_neg hx, ← Array.getElem?_toList, List.getElem?_eq_getElem hj]
              simp only [h3]
            · split
              · exact List.mem_cons_of_mem _ h4
              · exact h4
        · cases h
      · cases h
    · cases h
  | _ => cases h
def ysm : List ySm → Nat → List yA → Option (Option yA)
  | [], _, _ => none
  | s :: r, b, as => if s.1 = b ∧ yles as s.2.1 = true then some s.2.2 else ysm r b as
theorem ysm_spec {Sm : List ySm} {b : Nat} {as : List yA} {ro : Option yA} (h : ysm Sm b as = some ro) : ∃ s ∈ Sm, s.1 = b ∧ yles as s.2.1 = true ∧ s.2.2 = ro := by
  induction Sm with
  | nil => cases h
  | cons s r ih =>
    simp only [ysm] at h
    split at h
    · rename_i hc
      cases h
      exact ⟨s, List.mem_cons_self, hc.1, hc.2, rfl⟩
    · obtain ⟨u, h1, h2⟩ := ih h
      exact ⟨u, List.mem_cons_of_mem _ h1, h2⟩
/-- a callee that may throw: only in a method that may throw, with no handler there -/
def yhb (hn : Nat → Nat → Nat → Option Nat) (mi pc b : Nat) : Bool := !yth b || (yth mi && [100, 101, 102].all fun x => (hn mi pc x).isNone)
theorem yhb_spec {hn : Nat → Nat → Nat → Option Nat} {mi pc b x : Nat} (h : yhb hn mi pc b = true) (hb : yth b = true) (hx : yex x = true) : yth mi = true ∧ hn mi pc x = none := by
  simp only [yhb, hb, Bool.not_true, Bool.false_or, Bool.and_eq_true] at h
  exact ⟨h.1, by simpa using List.all_eq_true.mp h.2 x (List.elem_iff.mp hx)⟩
theorem yex_ge {x : Nat} (h : yex x = true) : 100 ≤ x := by
  have := List.elem_iff.mp h
  simp at this
  omega
/-! What is known of single fields: place, class, field, interval. -/
abbrev yO : Type := List (Nat × Nat × Nat × Int × Int)
def yo (O : yO) (M : List zE) : Prop := ∀ e ∈ O, 50 ≤ e.1 ∧ ∃ (fs : List Value) (x : Int32), M[e.1 - 50]? = some (.inl (e.2.1, fs)) ∧ fs[e.2.2.1]? = some (.int x) ∧ e.2.2.2.1 ≤ x.toInt ∧ x.toInt ≤ e.2.2.2.2
def yog (i : Instr) (a b : Nat) (S : yS) (O : yO) : Option yS := match i, S with
  | .getfield _, (.inr (.inr [o]), _) :: r => match O.find? (fun e => e.1 == o && (e.2.1 == a && e.2.2.1 == b)) with
    | some e => some ((.inl e.2.2.2, 0) :: r)
    | none => none
  | _, _ => none
theorem yog_sound {G : List zE} {i : Instr} {a b : Nat} {S S' : yS} {O : yO} {st : List Value} {lv : zL} {X : zX} (h : yog i a b S O = some S') (hO : yo O X.1) (hs : ys S st lv) : ∃ q, zb G i a b st X = some (3, q) ∧ ys S' q lv := by
  unfold yog at h
  split at h
  · rename_i o p r
    split at h
    · rename_i e he
      cases h
      have hm := List.mem_of_find?_eq_some he
      have hp := List.find?_some he
      simp only [Bool.and_eq_true, beq_iff_eq] at hp
      obtain ⟨h50, fs, x, h1, h2, h3, h4⟩ := hO e hm
      cases st with
      | nil => exact hs.elim
      | cons v st =>
        obtain ⟨⟨o', rfl, ho'⟩, -, h5⟩ := hs
        have ho : o' = o := by simpa using ho'
        subst ho
        rw [hp.1, hp.2.1] at h1
        rw [hp.2.2] at h2
        have hlt : ¬ o' < 50 := Nat.not_lt.mpr (hp.1 ▸ h50)
        refine ⟨.int x :: st, ?_, ys_0 ⟨x, rfl, h3, h4⟩ h5⟩
        simp only [zb, zrd, if_neg hlt, h1, if_true, h2]
    · cases h
  · cases h
def yov1 (a b : Nat) (S : yS) (O : yO) : yO := match S with
  | (x, _) :: (.inr (.inr os), _) :: _ => match x, os with
    | .inl q, [o] => (o, a, b, q) :: O.filter fun e => !(e.1 == o && e.2.2.1 == b)
    | _, _ => O.filter fun e => !(os.elem e.1 && e.2.2.1 == b)
  | _ => []
/-- what is known behind an instruction; kp m c f: method m leaves field f of class c alone -/
def yov (kp : Nat → Nat → Nat → Bool) (i : Instr) (a b : Nat) (S : yS) (O : yO) : yO := match zki i with
  | 2 => if a = 0 then O.filter fun e => kp b e.2.1 e.2.2.1 else O
  | _ => match i with
    | .putfield _ => yov1 a b S O
    | _ => O
theorem za_ov {kp : Nat → Nat → Nat → Bool} {i : Instr} {v : Value} {a b nL pc : Nat} {lv : zL} {st : List Value} {q : Nat × zL × List Value} {S : yS} {O : yO} (h : za i v nL pc lv st = some q) : yov kp i a b S O = O := by
  cases i <;> first | (simp [za] at h; done) | rfl
theorem zb_ov {kp : Nat → Nat → Nat → Bool} {G : List zE} {i : Instr} {a b : Nat} {st : List Value} {X : zX} {q : Nat × List Value} {S : yS} {O : yO} (h : zb G i a b st X = some q) : yov kp i a b S O = O := by
  cases i <;> first | (simp [zb] at h; done) | rfl
theorem yo_keep {l : List (Nat × Nat)} {M M' : List zE} {O : yO} (h : zkeep l M M') (hO : yo O M) (hl : ∀ e ∈ O, ¬ (e.2.1, e.2.2.1) ∈ l) : yo O M' := by
  intro e he
  obtain ⟨h50, fs, x, h1, h2, h3, h4⟩ := hO e he
  obtain ⟨fs', k1, k2⟩ := h _ _ _ h1
  exact ⟨h50, fs', x, k1, (k2 _ (hl e he)).trans h2, h3, h4⟩
theorem yo_f {O : yO} {M : List zE} {P : (Nat × Nat × Nat × Int × Int) → Bool} (h : yo O M) : yo (O.filter P) M := fun e he => h e (List.mem_filter.mp he).1
theorem yo_put {O : yO} {M : List zE} {o a b : Nat} {fs : List Value} {v : Value} (h : yo O M) (ho : ¬ o < 50) (hc : M[o - 50]? = some (.inl (a, fs))) (hn : ∀ e ∈ O, ¬ (e.1 = o ∧ e.2.2.1 = b)) : yo O (M.set (o - 50) (.inl (a, fs.set b v))) := by
  intro e he
  obtain ⟨h50, gs, x, h1, h2, h3, h4⟩ := h e he
  by_cases hk : o = e.1
  · have hk' : o - 50 = e.1 - 50 := by rw [hk]
    have hb : b ≠ e.2.2.1 := fun hb => hn e he ⟨hk.symm, hb.symm⟩
    rw [← hk'] at h1
    cases hc.symm.trans h1
    refine ⟨h50, fs.set b v, x, ?_, by rw [List.getElem?_set_ne hb]; exact h2, h3, h4⟩
    rw [← hk', List.getElem?_set_self (List.getElem?_eq_some_iff.mp hc).1]
  · have hk' : o - 50 ≠ e.1 - 50 := by omega
    exact ⟨h50, gs, x, by rw [List.getElem?_set_ne hk']; exact h1, h2, h3, h4⟩
theorem zc_ov {kp : Nat → Nat → Nat → Bool} {df : Nat → List Value} {i : Instr} {a b c : Nat} {st : List Value} {lv : zL} {X : zX} {q : Nat × List Value × zX} {S : yS} {O : yO} (h : zc df i a b c st X = some q) (hs : ys S st lv) (hO : yo O X.1) : yo (yov kp i a b S O) q.2.2.1 := by
  by_cases hp : ∃ k, i = .putfield k
  · obtain ⟨k, rfl⟩ := hp
    simp only [zc] at h
    split at h
    · rename_i v o r
      split at h
      · cases h
      · rename_i ho
        split at h
        · rename_i ci fs hx
          split at h
          · rename_i hc
            cases h
            obtain ⟨rfl, hb, -⟩ := hc
            have e0 : yov kp (.putfield k) ci b S O = yov1 ci b S O := rfl
            rw [e0]
            show yo _ (X.1.set (o - 50) (.inl (ci, fs.set b v)))
            unfold yov1
            split
            · rename_i x p os p2 S'
              obtain ⟨hx1, -, ⟨o', e1, ho'⟩, -, -⟩ := hs
              cases e1
              split
              · rename_i qq o2
                have e2 : o = o2 := by simpa using ho'
                subst e2
                intro e he
                rcases List.mem_cons.mp he with rfl | he
                · obtain ⟨z, rfl, h1, h2⟩ := hx1
                  refine ⟨Nat.not_lt.mp ho, fs.set b (.int z), z, ?_, ?_, h1, h2⟩
                  · dsimp only
                    rw [List.getElem?_set_self (List.getElem?_eq_some_iff.mp hx).1]
                  · dsimp only
                    rw [List.getElem?_set_self hb]
                · refine yo_put (yo_f hO) ho hx (fun e he => ?_) e he
                  have h3 := (List.mem_filter.mp he).2
                  intro ⟨h4, h5⟩
                  rw [h4, h5] at h3
                  simp at h3
              · refine yo_put (yo_f hO) ho hx fun e he => ?_
                have h3 := (List.mem_filter.mp he).2
                intro ⟨h4, h5⟩
                rw [h4, h5, List.elem_iff.mpr ho'] at h3
                simp at h3
            · intro e he; cases he
          · cases h
        · cases h
    · cases h
  · have e0 : yov kp i a b S O = O := by
      cases i <;> first | (simp [zc] at h; done) | rfl | (exfalso; exact hp ⟨_, rfl⟩)
    rw [e0]
    have hw : zwi i a b [] = true := by
      cases i <;> first | rfl | (exfalso; exact hp ⟨_, rfl⟩)
    exact yo_keep (zc_keep h hw) hO (fun e _ he => by cases he)
theorem zj_ov {kp : Nat → Nat → Nat → Bool} {i : Instr} {a b : Nat} {st : List Value} {X : zX} {q : List Value × zX} {S : yS} {O : yO} (hk : zki i = 2) (ha : a = 1) (h : zd b st X = some q) (hO : yo O X.1) : yo (yov kp i a b S O) q.2.1 := by
  have e : yov kp i a b S O = O := by
    unfold yov
    rw [hk]
    exact if_neg (by omega)
  rw [e]
  exact yo_keep (l := []) (zd_keep h) hO (fun e _ he => by cases he)
/-- an answer that there is none of: the method never returns -/
def yemp (ro : Option yA) : Bool := match ro with
  | some (.inl q) => decide (q.2 < q.1)
  | _ => false
theorem yemp_spec {ro : Option yA} {r : Option Value} (h : yemp ro = true) (hr : yro ro r) : False := by
  unfold yemp at h
  split at h
  · rename_i q
    cases r with
    | none => exact hr
    | some v =>
      obtain ⟨x, -, h1, h2⟩ := hr
      have := of_decide_eq_true h
      omega
  · cases h
def ynx (W : List Nat) (cd : Nat → Nat → Option zI) (nl : Nat → Nat) (hn : Nat → Nat → Nat → Option Nat) (Tg T : List yC) (Sm : List ySm) (ro : Option yA) (mi pc : Nat) (i : Instr) (a b c : Nat) (v : Value) (L : yL) (S : yS) (O : yO) : Option (List yN) := match yog i a b S O with
  | some S' => some [(pc + 3, L, S')]
  | none => match ysw i pc L S with
  | some ss => some ss
  | none => match ya i v (nl mi) pc L S with
    | some ss => some ss
    | none => match yb Tg T i a b S with
      | some w => some [(pc + w.1, L, w.2)]
      | none => match yc T i a b c S with
        | some w => if ywr W i S = true then some [(pc + w.1, L, w.2)] else none
        | none => if yrt i a S ro = true then some [] else if zki i = 2 then
            (if a = 1 then match yj b S with
              | some S' => if ycat S' ≤ 8 then some [(pc + 3, L, S')] else none
              | none => match yj3 W T b S with
                | some S' => if ycat S' ≤ 8 then some [(pc + 3, L, S')] else none
                | none => none
            else if a = 0 ∧ c ≤ S.length ∧ ycat (S.drop c) ≤ 8 ∧ ycat (S.take c) ≤ nl b ∧ yrc Tg T v ((S.take c).map Prod.fst).reverse = true then
              match ysm Sm b ((S.take c).map Prod.fst).reverse with
              | some ro' => if yhb hn mi pc b = true then (if yemp ro' = true then some [] else some [(pc + 3, L, (ro'.toList.map fun u => (u, 0)) ++ S.drop c)]) else none
              | none => none
            else none)
          else if zki i = 1 ∧ yth mi = true ∧ yex a = true ∧ zthr cd mi pc a = true ∧ ycat S ≤ 4 then some [] else none
theorem zb_za {G : List zE} {i : Instr} {a b nL pc : Nat} {v : Value} {lv : zL} {st : List Value} {X : zX} {q : Nat × List Value} (h : zb G i a b st X = some q) : za i v nL pc lv st = none ∧ ∀ D, yupd i D = D := by
  cases i <;> first | (simp [zb] at h; done) | exact ⟨rfl, fun _ => rfl⟩
theorem zc_za {G : List zE} {df : Nat → List Value} {i : Instr} {a b c nL pc : Nat} {v : Value} {lv : zL} {st : List Value} {X : zX} {q : Nat × List Value × zX} (h : zc df i a b c st X = some q) : za i v nL pc lv st = none ∧ zb G i a b st X = none ∧ ∀ D, yupd i D = D := by
  cases i <;> first | (simp [zc] at h; done) | exact ⟨rfl, rfl, fun _ => rfl⟩
theorem zk_za {G : List zE} {df : Nat → List Value} {i : Instr} {a b c nL pc : Nat} {v : Value} {lv : zL} {st : List Value} {X : zX} (h : zki i = 2) : za i v nL pc lv st = none ∧ zb G i a b st X = none ∧ zc df i a b c st X = none ∧ zret i a st = none ∧ ∀ D, yupd i D = D := by
  cases i <;> first | (simp [zki] at h; done) | exact ⟨rfl, rfl, rfl, rfl, fun _ => rfl⟩
theorem zr_za {G : List zE} {df : Nat → List Value} {i : Instr} {a b c nL pc : Nat} {v : Value} {lv : zL} {st : List Value} {X : zX} {r : Option Value} (h : zret i a st = some r) : za i v nL pc lv st = none ∧ zb G i a b st X = none ∧ zc df i a b c st X = none := by
  cases i <;> first | (simp [zret] at h; done) | exact ⟨rfl, rfl, rfl⟩
theorem zn_za {G : List zE} {df : Nat → List Value} {i : Instr} {a b c nL pc : Nat} {v : Value} {lv : zL} {st : List Value} {X : zX} (h : zki i = 1) (ha : 100 ≤ a) : za i v nL pc lv st = none ∧ zb G i a b st X = none ∧ zc df i a b c st X = none ∧ zret i a st = none := by
  have hn : ¬ (X.1.length = X.2.1 ∧ a < 100) := by omega
  cases i <;> first | (simp [zki] at h; done) | exact ⟨rfl, rfl, if_neg hn, rfl⟩
theorem ys_ret {ro : Option yA} {r : Option Value} {S : yS} {st : List Value} {lv : zL} (h : yro ro r) (hs : ys S st lv) : ys ((ro.toList.map fun u => (u, 0)) ++ S) (r.toList ++ st) lv := by
  cases ro with
  | none => cases r with
    | none => exact hs
    | some v => exact h.elim
  | some a => cases r with
    | none => exact h.elim
    | some v => exact ys_0 h hs
theorem ynx_sound {W : List Nat} {t : zT} {G : List zE} {cd : Nat → Nat → Option zI} {nl : Nat → Nat} {hn : Nat → Nat → Nat → Option Nat} {Tg T : List yC} {Sm : List ySm} {ro : Option yA} {mi pc : Nat} {i : Instr} {a b c : Nat} {v : Value} {L : yL} {S : yS} {O : yO} {kp : Nat → Nat → Nat → Bool} {ss : List yN} {lv : zL} {st : List Value} {X0 X : zX}
    (hkp : ∀ (m ci f : Nat), kp m ci f = true → ∀ (n : Nat) (lv : zL) (X : zX) (r : zO × zX), zev (zcd t) (znl t) (zdf t) (zhn t) G n m 0 lv [] X = some r → ∀ (k : Nat) (fs : List Value), X.1[k]? = some (.inl (ci, fs)) → ∃ fs', r.2.1[k]? = some (.inl (ci, fs')) ∧ fs'[f]? = fs[f]?) (hO : yo O X.1) (hsb : ∀ mi pc q, cd mi pc = some q → zcd t mi pc = some q) (hnl : znl t = nl) (hhn : zhn t = hn) (hg : yMg Tg G) (hM : yM T X.1) (h0 : yP W X0 X) (hS : ∀ s ∈ Sm, yV W t G T s) (hcd : zcd t mi pc = some (i, a, b, c, v)) (h : ynx W cd nl hn Tg T Sm ro mi pc i a b c v L S O = some ss) (hl : yl L lv) (hs : ys S st lv)
    (k : ∀ s ∈ ss, ∀ (lv' : zL) (st' : List Value) (X' : zX), yl s.2.1 lv' → ys s.2.2 st' lv' → yM T X'.1 → yP W X0 X' → yo (yov kp i a b S O) X'.1 → (∀ (D : List (Nat × Int)) (lv0 : zL), yir i L D = true → yD D lv0 lv → yD (yupd i D) lv0 lv') → zwp t G mi s.1 lv' st' X' (yQ W T mi ro X0)) :
    zwp t G mi pc lv st X (yQ W T mi ro X0) := by
  subst hnl
  subst hhn
  unfold ynx at h
  split at h
  · rename_i S' hog
    cases h
    obtain ⟨q, h1, h3⟩ := yog_sound (G := G) hog hO hs
    obtain ⟨z1, z2⟩ := zb_za (v := v) (nL := znl t mi) (pc := pc) (lv := lv) h1
    have hz : zstp t G mi pc lv st X = some (pc + 3, lv, q, X) := by
      unfold zstp
      simp only [hcd, z1, h1]
    exact zwp_s hz (k _ List.mem_cons_self lv q X hl h3 hM h0 (by rw [zb_ov h1]; exact hO) (fun D lv0 _ hD => by rw [z2]; exact hD))
  split at h
  · rename_i ss' hsw
    cases h
    obtain ⟨q, h1, h2, s, h3, h4, h5, h6⟩ := ysw_sound (v := v) (nL := znl t mi) hsw hl hs
    have hz : zstp t G mi pc lv st X = some (q.1, q.2.1, q.2.2, X) := by
      unfold zstp
      simp only [hcd, h1]
    refine zwp_s hz ?_
    have hk := k s h3 lv q.2.2 X h5 h6 hM h0 (by rw [za_ov h1]; exact hO) (fun D lv0 _ hD => by
      cases i <;> first | (cases hsw; done) | exact hD)
    rw [h4] at hk
    show zwp t G mi q.1 q.2.1 q.2.2 X _
    rw [h2]
    exact hk
  · split at h
    · rename_i ss' hya
      cases h
      obtain ⟨q, h1, s, h3, h4, h5, h6⟩ := ya_sound hya hl hs
      have hz : zstp t G mi pc lv st X = some (q.1, q.2.1, q.2.2, X) := by
        unfold zstp
        simp only [hcd, h1]
      refine zwp_s hz ?_
      have hk := k s h3 q.2.1 q.2.2 X h5 h6 hM h0 (by rw [za_ov h1]; exact hO) (fun D lv0 hi hD => yupd_sound hya hl h1 hi hD)
      rw [h4] at hk
      exact hk
    · split at h
      · rename_i w hyb
        cases h
        obtain ⟨q, h1, h2, h3⟩ := yb_sound hg hM hyb hs
        obtain ⟨z1, z2⟩ := zb_za (v := v) (nL := znl t mi) (pc := pc) (lv := lv) h1
        have hz : zstp t G mi pc lv st X = some (pc + q.1, lv, q.2, X) := by
          unfold zstp
          simp only [hcd, z1, h1]
        refine zwp_s hz ?_
        have hk := k _ List.mem_cons_self lv q.2 X hl h3 hM h0 (by rw [zb_ov h1]; exact hO) (fun D lv0 _ hD => by rw [z2]; exact hD)
        show zwp t G mi (pc + q.1) lv q.2 X _
        rw [h2]
        exact hk
      · split at h
        · rename_i w hyc
          split at h
          case isFalse => cases h
          rename_i hwr
          cases h
          obtain ⟨q, h1, h2, h3, h4, h5⟩ := yc_sound (df := zdf t) hM hyc hs
          obtain ⟨z1, z2, z3⟩ := zc_za (G := G) (v := v) (nL := znl t mi) (pc := pc) (lv := lv) h1
          have hz : zstp t G mi pc lv st X = some (pc + q.1, lv, q.2.1, q.2.2) := by
            unfold zstp
            simp only [hcd, z1, z2, h1]
          refine zwp_s hz ?_
          have hk := k _ List.mem_cons_self lv q.2.1 q.2.2 hl h3 h4 (yP_t h0 h5 (ywr_sound hwr hs h1)) (zc_ov h1 hs hO) (fun D lv0 _ hD => by rw [z3]; exact hD)
          show zwp t G mi (pc + q.1) lv q.2.1 q.2.2 _
          rw [h2]
          exact hk
        · split at h
          · rename_i hrt
            obtain ⟨r, h1, h2⟩ := yrt_sound hrt hs
            obtain ⟨z1, z2, z3⟩ := zr_za (G := G) (df := zdf t) (b := b) (c := c) (v := v) (nL := znl t mi) (pc := pc) (lv := lv) (X := X) h1
            exact zwp_ret ⟨hcd, z1, z2, z3⟩ h1 ⟨h2, hM, h0⟩
          · split at h
            · rename_i hki
              obtain ⟨z1, z2, z3, z4, z5⟩ := zk_za (G := G) (df := zdf t) (a := a) (b := b) (c := c) (v := v) (nL := znl t mi) (pc := pc) (lv := lv) (st := st) (X := X) hki
              split at h
              · rename_i ha
                split at h
                · rename_i S' hj
                  split at h
                  · rename_i h8
                    cases h
                    obtain ⟨q, h1, h2⟩ := yj_sound (X := X) hj hs
                    refine zwp_jdk ⟨hcd, z1, z2, z3⟩ z4 hki ha h1 (by rw [ycat_spec h2]; exact h8) ?_
                    exact k _ List.mem_cons_self lv q X hl h2 hM h0 (zj_ov hki ha h1 hO) (fun D lv0 _ hD => by rw [z5]; exact hD)
                  · cases h
                · split at h
                  · rename_i S' hj
                    split at h
                    · rename_i h8
                      cases h
                      obtain ⟨q, h1, h2, h3, h4, h5⟩ := yj3_sound hM hj hs
                      refine zwp_jdk ⟨hcd, z1, z2, z3⟩ z4 hki ha h1 (by rw [ycat_spec h2]; exact h8) ?_
                      exact k _ List.mem_cons_self lv q.1 q.2 hl h2 h3 (yP_t h0 h4 h5) (zj_ov hki ha h1 hO) (fun D lv0 _ hD => by rw [z5]; exact hD)
                    · cases h
                  · cases h
              · split at h
                · rename_i hc
                  split at h
                  · rename_i ro' hsm
                    split at h
                    case isFalse => cases h
                    rename_i hyb
                    obtain ⟨s, h1, h2, h3, h4⟩ := ysm_spec hsm
                    have hf := yfa_rev (ys_fa (ys_take c hs))
                    have hv := hS s h1 _ X (yles_sound h3 hf) hM
                    rw [h2, h4] at hv
                    refine zwp_call ⟨hcd, z1, z2, z3⟩ z4 hki ⟨hc.1, by rw [ys_len hs]; exact hc.2.1, by rw [ycat_spec (ys_drop c hs)]; exact hc.2.2.1, by rw [ycat_spec (ys_take c hs)]; exact hc.2.2.2.1, yrc_sound hg hM hc.2.2.2.2 hf⟩ ?_
                    obtain ⟨n, o, X', hz, hq⟩ := hv
                    refine ⟨n, o, X', hz, ?_⟩
                    cases o with
                    | inl r =>
                      obtain ⟨q1, q2, q3⟩ := hq
                      split at h
                      · rename_i hem
                        exact (yemp_spec hem q1).elim
                      cases h
                      refine k _ List.mem_cons_self lv _ X' hl (ys_ret q1 (ys_drop c hs)) q2 (yP_t h0 q3.1 q3.2) ?_ (fun D lv0 _ hD => by rw [z5]; exact hD)
                      have e : yov kp i a b S O = O.filter fun e => kp b e.2.1 e.2.2.1 := by
                        unfold yov
                        rw [hki]
                        exact if_pos hc.1
                      rw [e]
                      intro e he
                      obtain ⟨he1, he2⟩ := List.mem_filter.mp he
                      obtain ⟨h50, fs, x, k1, k2, k3, k4⟩ := hO e he1
                      obtain ⟨fs', k5, k6⟩ := hkp _ _ _ he2 n _ _ _ hz _ fs k1
                      exact ⟨h50, fs', x, k5, k6.trans k2, k3, k4⟩
                    | inr x =>
                      obtain ⟨q1, q2, q3, q4, q5⟩ := hq
                      have q6 := yhb_spec (b := b) hyb q1 q2
                      exact Or.inl ⟨q6.2, q6.1, q2, q3, fun j hj => (q4 j hj).trans (h0.2 j hj), by rw [q5, h0.1]⟩
                  · cases h
                · cases h
            · split at h
              · rename_i hth
                cases h
                obtain ⟨t1, t2, t3, t4, t5⟩ := hth
                have ha := yex_ge t3
                obtain ⟨z1, z2, z3, z4⟩ := zn_za (G := G) (df := zdf t) (b := b) (c := c) (v := v) (nL := znl t mi) (pc := pc) (lv := lv) (st := st) (X := X) t1 ha
                exact zwp_thr ⟨hcd, z1, z2, z3⟩ z4 t1 ⟨ha, zthr_sub hsb t4, by rw [ycat_spec hs]; exact t5⟩ ⟨t2, t3, hM, h0.2, by rw [h0.1]⟩
              · cases h
/-- a summary, where something is known of single fields -/
def yVO (W : List Nat) (t : zT) (G : List zE) (T : List yC) (O : yO) (s : ySm) : Prop := ∀ (vs : List Value) (X : zX), yfa s.2.1 vs → yM T X.1 → yo O X.1 → zwp t G s.1 0 (lv_args 0 vs) [] X (yQ W T s.1 s.2.2 X)
