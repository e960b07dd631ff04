section zP
variable {p : Program} {l : Launch} {e : Env} {R : Room} {s : State} {m : MethodId} {args : Array Value} {below : List Frame} {meth : Method} {c : Code} {H : Heap} {locs : List Loc} {cells slots : Nat}
variable {t : zT} {D : va_G} {aC : Nat → ClassId} {gad : Nat → Nat} {base : Nat} {G : List zE}
/-- a method's words, read -/
theorem zmeth {mi b : Nat} {a : Array Value} {U : State} (hts : ∀ w ∈ zWS t, w.before a U = true) (ok : zokm t mi b) :
    ∃ mk methk ck, U.methodNamed? (zmt t b) = some mk ∧ U.vm.method? mk = some methk ∧ methk.code = some ck ∧ ck.code = zmb t b ∧ ck.maxLocals = znl t b ∧ methk.sig.returnType = zmr t b ∧ methk.locks = false ∧
      ck.exceptionTable.toList.map (fun h => (h.startPc, h.endPc, h.handlerPc, h.catchType)) = zhs t b ∧ parseMethodDescriptor (zmt t b).desc = some methk.sig ∧ U.plainMethod mk ∧ methk.name = (zmt t b).name := by
  obtain ⟨-, -, -, hpl, hco, -, -⟩ := ok
  rcases hco with ⟨h0, hco⟩ | hco
  · have hc := hts _ hco
    obtain ⟨mk, hmk⟩ := Cond.code_named hc
    obtain ⟨methk, ck, h1, h2, h3, h4, h5, h6, h7, h8⟩ := Cond.code_spec hmk hc
    refine ⟨mk, methk, ck, hmk, h1, h2, h3, h4, h5, h6, ?_, h8, State.plainMethod.of_named hpl hmk h1, (name_of_methodNamed hmk h1).1⟩
    rw [h0]
    have : ck.exceptionTable = #[] := by simpa using h7
    simp [this]
  · obtain ⟨mk, methk, ck, hmk, h1, h2, h3, h4, h5, h6, h7, h8⟩ := Cond.codeWith_spec (hts _ hco)
    exact ⟨mk, methk, ck, hmk, h1, h2, h3, h4, h6, h7, h5, h8, State.plainMethod.of_named hpl hmk h1, (name_of_methodNamed hmk h1).1⟩
theorem zlen_sl (vs : List Value) : (lg_sl vs).length = zcat vs := by
  induction vs with
  | nil => rfl
  | cons v r ih =>
    simp only [lg_sl, List.flatMap_cons, List.length_append, zcat, List.map_cons, List.sum_cons] at ih ⊢
    rcases lv_cat v with hv | hv <;> simp [hv, ih]
theorem zargs_tr (ad : Nat → Nat) (vs : List Value) (i : Nat) : lv_args i (vs.map (ztr ad)) = ztl ad (lv_args i vs) := by
  induction vs generalizing i with
  | nil => rfl
  | cons v r ih => simp [lv_args, ztl, ztr_cat, ih]
theorem zrcv_first {v : Value} {as : List Value} {X : zX} {ci : Nat} (hv : v = .ref ci) (h : zrcv G X v as = true) : ∃ o as', as = .ref o :: as' := by
  subst hv
  simp only [zrcv] at h
  split at h
  · exact ⟨_, _, rfl⟩
  · cases h
theorem zrecv {v : Value} {as : List Value} {X : zX} {ci : Nat} {C : String} (hU : zU t D aC gad base G s) (hP : va_P D (zcl t) (zw base (zad gad base) aC X.1) H) (hS : va_S (fun q => base ≤ q) s.heap H locs) (h99 : (zcl t).length ≤ 99) (hv : v = .ref ci) (hc : zcn t ci = some C) (h : zrcv G X v as = true) :
    ∃ o as', as = .ref o :: as' ∧ ∃ cell : Cell, H[zad gad base o]? = some cell ∧ cell.vm.isStatics = false ∧ s.vm.findClass C = some cell.cls := by
  subst hv
  simp only [zrcv] at h
  split at h
  · rename_i o as'
    split at h
    · rename_i cj fs hz
      have hcj : cj = ci := by simpa using h
      subst hcj
      refine ⟨o, as', rfl, ?_⟩
      by_cases ho : o < 50
      · have hg : G[o]? = some (.inl (cj, fs)) := by simpa [zrd, ho] using hz
        obtain ⟨g1, ⟨cell, g2, g3, g4, g5⟩, -, -⟩ := hU.2.1 _ _ hg
        have hC : C = "java/lang/String" := by
          have g1' : cj = 99 := g1
          simp [zcn, g1'] at hc
          exact hc.symm
        subst hC
        exact ⟨cell, by rw [hS.2.1 _ (Array.getElem?_eq_some_iff.mp g2).1 g5]; exact g2, g3, g4⟩
      · have hg : X.1[o - 50]? = some (.inl (cj, fs)) := by simpa [zrd, ho] using hz
        have hw := zw_get (base := base) (ad := zad gad base) (aC := aC) hg
        obtain ⟨r, h1, cell, g1, g2, g3, -⟩ := hP _ _ hw
        have hlt : cj < (zcl t).length := (List.getElem?_eq_some_iff.mp h1).1
        have hC : C = r.1 := by
          have h1' : (zcl t)[cj]? = some r := h1
          rw [zcn, if_neg (by omega), h1'] at hc
          exact (Option.some.inj hc).symm
        rw [hC, zad_hi ho]
        exact ⟨cell, g1, by rw [g3]; rfl, by rw [g2]; exact (hU.1.1 cj r h1).2.1⟩
    · cases h
  · cases h
/-- the invoking instruction's own step -/
theorem zinv {mi pc b c0 n nc0 : Nat} {ls : Array Slot} {i : Instr} {v : Value} {st : List Value} {X : zX} {T : State} (F : zF t D aC gad base G p R s m args meth c mi nc0) (h99 : (zcl t).length ≤ 99) (hd : decode (zmb t mi) pc = .ok (i, n)) (hn : zlk i n = true) (ok : zokk t mi i 0 b c0 v)
    (hi : (∃ k, i = .invokevirtual k) ∨ (∃ k, i = .invokespecial k) ∨ ∃ k, i = .invokestatic k) (hc0 : c0 ≤ st.length) (hr : zrcv G X v (st.take c0).reverse = true)
    (hP : va_P D (zcl t) (zw base (zad gad base) aC X.1) H) (hS : va_S (fun q => base ≤ q) s.heap H locs) (hT : T.heap = H) (Y : Stand p l e R s m args below meth c T locs cells slots) :
    n = 3 ∧ zokm t mi b ∧ ∃ (vm₁ : Vm) (mk : MethodId), Stand p l e R s m args below meth c (T.setVm vm₁) locs cells slots ∧ s.methodNamed? (zmt t b) = some mk ∧
      ∀ target, (∀ acts, Steps p.tables e below (doInvoke e ((T.setVm vm₁).setTop (F0 m pc ls ((st.drop c0).map (ztr (zad gad base))))) acts mk ((st.take c0).reverse.map (ztr (zad gad base))).toArray).1 target) → Steps p.tables e below (T.setTop (F0 m pc ls (st.map (ztr (zad gad base))))) target := by
  obtain ⟨hexec, hcode, hnl, hret, hlocks, hown, hname, htab, hts, hfr, hlo, hU, hbs, hsz⟩ := F
  have hpl : e.platform.magicAccessors = ({} : Platform).magicAccessors := by rw [Y.admits.platform]
  have hstk : st.map (ztr (zad gad base)) = ((st.take c0).reverse.map (ztr (zad gad base))).reverse ++ (st.drop c0).map (ztr (zad gad base)) := by
    rw [← List.map_reverse, List.reverse_reverse, ← List.map_append, List.take_append_drop]
  have hlenA : ((st.take c0).reverse.map (ztr (zad gad base))).length = c0 := by simp; omega
  rcases hi with ⟨z, rfl⟩ | ⟨z, rfl⟩ | ⟨z, rfl⟩
  · have e1 : n = 3 := by simpa [zlk] using hn
    subst e1
    obtain ⟨-, hm, hlk, hin, hpar, ci, C, hv, hC, hsel⟩ := ok
    refine ⟨rfl, hm, ?_⟩
    obtain ⟨o, as', has, cellB, hcB, hoB, hclB⟩ := zrecv hU hP hS h99 hv hC hr
    obtain ⟨mk, methk, ck, q1, q2, -, -, -, -, -, -, q3, -, -⟩ := zmeth hts hm
    obtain ⟨mk', methk', r1, r2, r3, r4⟩ := Cond.instanceMethod_spec (hts _ hin)
    cases q1.symm.trans r1
    cases q2.symm.trans r2
    obtain ⟨c2, rr, m2, w1, w2, w3, w4, kP, hkP, hkPi⟩ := Cond.selects_spec (hts _ hsel)
    cases hclB.symm.trans w1
    cases (State.methodFound?_of_named q1 ⟨hm.2.1, hm.2.2.1⟩).symm.trans w2
    cases q1.symm.trans w3
    have hselP : selectMethod e.platform s.vm cellB.cls mk = .method mk := by rw [Launch.admits_selectMethod Y.admits]; exact w4
    have hpl2 : (as'.map (ztr (zad gad base))).length = methk.sig.parameters.length := by
      rw [q3] at hpar
      have h1 : methk.sig.parameters.length + 1 = c0 := Option.some.inj hpar
      rw [has] at hlenA
      simp at hlenA ⊢
      omega
    have hst2 : st.map (ztr (zad gad base)) = (as'.map (ztr (zad gad base))).reverse ++ .ref (zad gad base o) :: (st.drop c0).map (ztr (zad gad base)) := by
      rw [hstk, has]
      simp [ztr]
    have harr : ((st.take c0).reverse.map (ztr (zad gad base))).toArray = (Value.ref (zad gad base o) :: as'.map (ztr (zad gad base))).toArray := by rw [has]; rfl
    rcases hlk with hlk | hlk
    · obtain ⟨vm₁, Y₁, st₁⟩ := Y.invokevirtual hexec hown (hts _ hlk) q1 q2 r3 hkP hkPi ⟨hm.2.1, hm.2.2.1⟩ (a := zad gad base o) (cell := cellB) (by rw [hT]; exact hcB) (fun z h => by rw [h] at hoB; cases hoB) hselP q2 r4 hkP hkPi (g := F0 m pc ls (st.map (ztr (zad gad base)))) rfl (argsL := as'.map (ztr (zad gad base))) (rest := (st.drop c0).map (ztr (zad gad base))) hpl2 hst2 (by rw [hcode]; exact hd)
      exact ⟨vm₁, mk, Y₁, q1, fun target h => st₁ target (by rw [← harr]; exact h)⟩
    · obtain ⟨vm₁, Y₁, st₁⟩ := Y.invokevirtualNest hexec hown (hts _ hlk) q1 q2 r3 hkP hkPi ⟨hm.2.1, hm.2.2.1⟩ (a := zad gad base o) (cell := cellB) (by rw [hT]; exact hcB) (fun z h => by rw [h] at hoB; cases hoB) hselP q2 r4 hkP hkPi (g := F0 m pc ls (st.map (ztr (zad gad base)))) rfl (argsL := as'.map (ztr (zad gad base))) (rest := (st.drop c0).map (ztr (zad gad base))) hpl2 hst2 (by rw [hcode]; exact hd)
      exact ⟨vm₁, mk, Y₁, q1, fun target h => st₁ target (by rw [← harr]; exact h)⟩
  · have e1 : n = 3 := by simpa [zlk] using hn
    subst e1
    obtain ⟨hm, hlk, hin, hpar, hnm, hco, ci, hv⟩ := ok.1 rfl
    refine ⟨rfl, hm, ?_⟩
    obtain ⟨o, as', has⟩ := zrcv_first hv hr
    have hpl2 : ∀ sig, parseMethodDescriptor (zmt t b).desc = some sig → (as'.map (ztr (zad gad base))).length = sig.parameters.length := by
      intro sig hsig
      rw [hsig] at hpar
      have h1 : sig.parameters.length + 1 = c0 := Option.some.inj hpar
      rw [has] at hlenA
      simp at hlenA ⊢
      omega
    have hst2 : st.map (ztr (zad gad base)) = (as'.map (ztr (zad gad base))).reverse ++ .ref (zad gad base o) :: (st.drop c0).map (ztr (zad gad base)) := by
      rw [hstk, has]
      simp [ztr]
    have harr : ((st.take c0).reverse.map (ztr (zad gad base))).toArray = (Value.ref (zad gad base o) :: as'.map (ztr (zad gad base))).toArray := by rw [has]; rfl
    rcases hlk with hlk | hlk
    · obtain ⟨mk, methM, cM, kP, vm₁, hnamed, -, -, -, -, -, -, -, hW₁, st₁⟩ := Steps.initColdArgs (e := e) Y.here hexec Y.warmed hpl hown hnm ⟨hm.2.1, hm.2.2.1⟩ (hts _ hlk) (hts _ hin) (hts _ hco) (f := F0 m pc ls (st.map (ztr (zad gad base)))) rfl (a := zad gad base o) (argsL := as'.map (ztr (zad gad base))) (rest := (st.drop c0).map (ztr (zad gad base))) hpl2 hst2 (by rw [hcode]; exact hd)
      exact ⟨vm₁, mk, Y.noted hW₁, hnamed, fun target h => st₁ target (by rw [← harr]; exact h)⟩
    · obtain ⟨mk, methM, cM, kP, vm₁, hnamed, -, -, -, -, -, -, -, hW₁, st₁⟩ := Steps.initColdArgsNest (e := e) Y.here hexec Y.warmed hpl hown hnm ⟨hm.2.1, hm.2.2.1⟩ (hts _ hlk) (hts _ hin) (hts _ hco) (f := F0 m pc ls (st.map (ztr (zad gad base)))) rfl (a := zad gad base o) (argsL := as'.map (ztr (zad gad base))) (rest := (st.drop c0).map (ztr (zad gad base))) hpl2 hst2 (by rw [hcode]; exact hd)
      exact ⟨vm₁, mk, Y.noted hW₁, hnamed, fun target h => st₁ target (by rw [← harr]; exact h)⟩
  · have e1 : n = 3 := by simpa [zlk] using hn
    subst e1
    obtain ⟨hm, hlk, hst, hpar, hv⟩ := ok.1 rfl
    refine ⟨rfl, hm, ?_⟩
    obtain ⟨mk, methk, ck, q1, q2, -, -, -, -, -, -, q3, -, -⟩ := zmeth hts hm
    have hstatic : methk.isStatic = true := Cond.static_spec q1 q2 (hts _ hst)
    obtain ⟨kP, hkP, -⟩ := className_of_methodNamed q1
    have hinitP : kP.init = .initialized := Cond.initialized_spec (findClass_of_methodNamed q1) hkP (hts _ hm.1)
    have hpl2 : ((st.take c0).reverse.map (ztr (zad gad base))).length = methk.sig.parameters.length := by
      rw [q3] at hpar
      have h1 : methk.sig.parameters.length = c0 := Option.some.inj hpar
      omega
    rcases hlk with hlk | hlk
    · obtain ⟨vm₁, Y₁, st₁⟩ := Y.invokestatic hexec hown (hts _ hlk) q1 q2 hstatic hkP hinitP ⟨hm.2.1, hm.2.2.1⟩ (g := F0 m pc ls (st.map (ztr (zad gad base)))) rfl (argsL := (st.take c0).reverse.map (ztr (zad gad base))) (rest := (st.drop c0).map (ztr (zad gad base))) hpl2 hstk (by rw [hcode]; exact hd)
      exact ⟨vm₁, mk, Y₁, q1, st₁⟩
    · obtain ⟨vm₁, Y₁, st₁⟩ := Y.invokestaticNest hexec hown (hts _ hlk) q1 q2 hstatic hkP hinitP ⟨hm.2.1, hm.2.2.1⟩ (g := F0 m pc ls (st.map (ztr (zad gad base)))) rfl (argsL := (st.take c0).reverse.map (ztr (zad gad base))) (rest := (st.drop c0).map (ztr (zad gad base))) hpl2 hstk (by rw [hcode]; exact hd)
      exact ⟨vm₁, mk, Y₁, q1, st₁⟩
/-- the callee's whole run, from the caller's frame -/
theorem zcall_in {mi pc b c0 nc0 ns0 : Nat} {ls : Array Slot} {ig : Instr} {st : List Value} {X X1 : zX} {o1 : zO} {T : State} {vm₁ : Vm} {mk : MethodId} (hgood : ∀ w ∈ zWS t, zgw w) (F : zF t D aC gad base G p R s m args meth c mi nc0) (hl : ls.size = znl t mi) (hd : decode (zmb t mi) pc = .ok (ig, 3)) (hm : zokm t mi b)
    (hc2 : zcat (st.drop c0) ≤ 8) (hc3 : zcat (st.take c0) ≤ znl t b) (hP : va_P D (zcl t) (zw base (zad gad base) aC X.1) H) (hS : va_S (fun q => base ≤ q) s.heap H locs) (hT : T.heap = H)
    (Y₁ : Stand p l e R s m args below meth c (T.setVm vm₁) locs cells slots) (hmk : s.methodNamed? (zmt t b) = some mk) (hcc : cells + nc0 = X.2.1) (hss : slots + ns0 = X.2.2) (hmo : X.2.1 ≤ X1.2.1 ∧ X.2.2 ≤ X1.2.2) (hr1 : X1.2.1 ≤ R.cells + nc0) (hr2 : X1.2.2 ≤ R.slots + ns0)
    (ihc : ∀ (p : Program) (e : Env) (R : Room) (s : State) (m : MethodId) (args : Array Value) (below : List Frame) (meth : Method) (c : Code) (H : Heap) (locs : List Loc) (cells slots : Nat) (ls : Array Slot) (nc0 ns0 : Nat),
      zF t D aC gad base G p R s m args meth c b nc0 → lv_has ls (znl t b) (ztl (zad gad base) (lv_args 0 (st.take c0).reverse)) → va_P D (zcl t) (zw base (zad gad base) aC X.1) H → va_S (fun q => base ≤ q) s.heap H locs → cells + nc0 = X.2.1 → slots + ns0 = X.2.2 → X1.2.1 ≤ R.cells + nc0 → X1.2.2 ≤ R.slots + ns0 →
      W p l e R s m args below meth c H locs cells slots (zQ t D aC gad base G below s nc0 ns0 o1 X1) (F0 m 0 ls (([] : List Value).map (ztr (zad gad base))))) :
    ∃ t', (∀ acts, Steps p.tables e below (doInvoke e ((T.setVm vm₁).setTop (F0 m pc ls ((st.drop c0).map (ztr (zad gad base))))) acts mk ((st.take c0).reverse.map (ztr (zad gad base))).toArray).1 t') ∧
      zQ t D aC gad base G (.java (F0 m pc ls ((st.drop c0).map (ztr (zad gad base)))) :: below) ((T.setVm vm₁).calling (F0 m pc ls ((st.drop c0).map (ztr (zad gad base)))) mk ((st.take c0).reverse.map (ztr (zad gad base))).toArray) X.2.1 X.2.2 o1 X1 t' := by
  obtain ⟨hexec, hcode, hnl, hret, hlocks, hown, hname, htab, hts, hfr, hlo, hU, hbs, hsz⟩ := F
  have hz : H.size ≤ base + X.2.1 := by
    have h1 := Y₁.heapSize
    have h2 : (T.setVm vm₁).heap = H := hT
    rw [h2] at h1
    omega
  obtain ⟨mk', methk, ck, q1, q2, q3, q4, q5, q6, q7, q8, q9, q10, q11⟩ := zmeth hts hm
  cases hmk.symm.trans q1
  have hW1 : s.WarmedH vm₁ := Y₁.warmed
  have hm1 : (T.setVm vm₁).vm.method? mk = some methk := by
    show vm₁.method? mk = some methk
    rw [hW1.alike.method?]
    exact q2
  have hp1 : (T.setVm vm₁).plainMethod mk := State.plainMethod.of_named hm.2.2.2.1 (Y₁.named q1) hm1
  have hframes : zfr t b + 1 ≤ R.frames := Nat.le_trans hm.2.2.2.2.2.1 hfr
  have hrm := lv_room (m := m) (pc := pc) (ls := ls) (rest := (st.drop c0).map (ztr (zad gad base))) (st := (st.drop c0).map (ztr (zad gad base))) (by rw [zcat_tr]; exact hc2)
  refine zenter Y₁ (g := F0 m pc ls ((st.drop c0).map (ztr (zad gad base)))) rfl (by show ls.size = _; rw [hl, hnl]) (by rw [hcode]; exact hd) _ (R' := { frames := zfr t b, cells := X1.2.1 - X.2.1, slots := X1.2.2 - X.2.2, locals := zlo t b }) hm1 q3 q7 hp1 hframes ?_ ?_ ?_ ?_
  · have h2 := hm.2.2.2.2.2.2
    rw [q5]
    show _ + (znl t b + 11) + zlo t b ≤ R.locals
    have h3 : 2 * (F0 m pc ls ((st.drop c0).map (ztr (zad gad base)))).monitorRoom + (((st.drop c0).map (ztr (zad gad base))).map fun v => v.category).sum ≤ 8 := hrm
    have h4 : (F0 m pc ls ((st.drop c0).map (ztr (zad gad base)))).stack = (st.drop c0).map (ztr (zad gad base)) := rfl
    rw [h4]
    omega
  · show cells + (X1.2.1 - X.2.1) ≤ R.cells
    omega
  · show slots + (X1.2.2 - X.2.2) ≤ R.slots
    omega
  · have hent := lg_entry_eq mk ((st.take c0).reverse.map (ztr (zad gad base))) ck.maxLocals
    have hcat2 : (lg_sl ((st.take c0).reverse.map (ztr (zad gad base)))).length ≤ znl t b := by
      rw [zlen_sl]
      unfold zcat
      rw [zcat_tr]
      unfold zcat at hc3 ⊢
      rw [List.map_reverse, List.sum_reverse]
      exact hc3
    rw [hent, q5]
    have hhs : ((T.setVm vm₁).calling (F0 m pc ls ((st.drop c0).map (ztr (zad gad base)))) mk ((st.take c0).reverse.map (ztr (zad gad base))).toArray).heap = H := hT
    have hTh : (T.setVm vm₁).heap = H := hT
    rw [hTh]
    refine ihc p e _ _ mk _ _ methk ck H [] 0 0 _ X.2.1 X.2.2 ⟨hexec, q4, q5, q6, q7, ?_, q11, q8, fun w hw => hgood w hw _ _ _ _ hW1 (hts w hw), Nat.le_refl _, Nat.le_refl _, zU_move hU hW1 (fun a h1 h2 => by rw [hhs]; exact hS.2.1 a h1 h2), by rw [hhs]; exact Nat.le_trans hbs hS.1, by rw [hhs]; exact hz⟩ ?_ hP ?_ (by omega) (by omega) (by show X1.2.1 ≤ (X1.2.1 - X.2.1) + X.2.1; omega) (by show X1.2.2 ≤ (X1.2.2 - X.2.2) + X.2.2; omega)
    · show vm₁.findClass (zmt t b).cls = some mk.cls
      rw [hW1.alike.findClass]
      exact findClass_of_methodNamed q1
    · have := lv_entry ((st.take c0).reverse.map (ztr (zad gad base))) hcat2
      rw [zargs_tr] at this
      exact this
    · rw [hhs]
      exact va_S.rf
end zP
