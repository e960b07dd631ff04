section
section zM
variable {p : Program} {l : Launch} {e : Env} {R : Room} {s : State} {m : MethodId} {args : Array Value} {below : List Frame} {meth : Method} {c : Code} {H : Heap} {locs : List Loc} {cells slots : Nat} {Q Q' : State → Prop}
variable {t : zT} {D : va_G} {aC : Nat → ClassId} {gad : Nat → Nat} {base : Nat} {G : List zE}
theorem zWmono {g : JFrame} (k : W p l e R s m args below meth c H locs cells slots Q g) (h : ∀ t, Q t → Q' t) : W p l e R s m args below meth c H locs cells slots Q' g := by
  intro T hT X
  obtain ⟨t, a, b⟩ := k T hT X
  exact ⟨t, a, h t b⟩
theorem zcst_of {own : String} {i : Instr} {v : Value} (hU : zU t D aC gad base G s) (hts : ∀ w ∈ zWS t, w.before args s = true) (h : zokv t own i v) : zcst own (zad gad base) args s (fun q => base ≤ q) i v := by
  unfold zokv at h
  unfold zcst
  cases i with
  | ldc k =>
    cases v with
    | int x => exact hts _ h
    | ref g =>
      obtain ⟨tx, h⟩ := h
      exact ⟨tx, hU.2.2.2.1 _ h⟩
    | _ => trivial
  | ldc2_w k =>
    cases v with
    | long x => exact hts _ h
    | _ => trivial
  | getstatic k =>
    obtain ⟨C, n, d, h1, h2⟩ := h
    refine ⟨C, n, d, hU.2.2.1 _ h1, ?_⟩
    rcases h2 with h2 | h2
    · exact Or.inl (hts _ h2)
    · exact Or.inr ⟨_, hts _ h2⟩
  | _ => trivial
/-- the world at an end -/
theorem zIs_end {X : zX} {U : State} (hU : zU t D aC gad base G s) (hP : va_P D (zcl t) (zw base (zad gad base) aC X.1) H) (hS : va_S (fun q => base ≤ q) s.heap H locs) (hbs : base ≤ s.heap.size) (hz : H.size ≤ base + X.2.1) (hh : U.heap = H) (hW : s.WarmedH U.vm) : zIs t D aC gad base G X U :=
  ⟨zU_move hU hW (fun a h1 h2 => by rw [hh]; exact hS.2.1 a h1 h2), by rw [hh]; exact hP, by rw [hh]; exact Nat.le_trans hbs hS.1, by rw [hh]; exact hz⟩
def zQc (t : zT) (D : va_G) (aC : Nat → ClassId) (gad : Nat → Nat) (base : Nat) (G : List zE) (o : zO) (X : zX) : Array Value → State → Outcome → State → Prop := fun _ s oc U => zout t (zad gad base) o oc U ∧ zIs t D aC gad base G X U ∧ va_F (fun q => base ≤ q) s U
theorem zQ_of {nc0 ns0 : Nat} {o : zO} {X : zX} (hcc : cells + nc0 = X.2.1) (hss : slots + ns0 = X.2.2) (U : State) (h : MQ below (zQc t D aC gad base G o X) args s cells slots (fun q => base ≤ q) U) : zQ t D aC gad base G below s nc0 ns0 o X U := by
  obtain ⟨oc, h1, h2, ⟨h3, h4, h8⟩, L, ⟨-, h5, h6⟩, h7⟩ := h
  exact ⟨oc, L, cells, slots, h1, h2, h3, h4, h5, h6, h7, hcc, hss, h8⟩
theorem zret_sound {mi pc a n nc0 ns0 : Nat} {ls : Array Slot} {i : Instr} {st : List Value} {r : Option Value} {X : zX} (F : zF t D aC gad base G p R s m args meth c mi nc0) (hd : decode (zmb t mi) pc = .ok (i, n)) (hn : zlk i n = true) (h : zret i a st = some r) (ok : zokr t mi i a)
    (hP : va_P D (zcl t) (zw base (zad gad base) aC X.1) H) (hS : va_S (fun q => base ≤ q) s.heap H locs) (hcc : cells + nc0 = X.2.1) (hss : slots + ns0 = X.2.2) :
    W p l e R s m args below meth c H locs cells slots (zQ t D aC gad base G below s nc0 ns0 (.inl r) X) (F0 m pc ls (st.map (ztr (zad gad base)))) := by
  obtain ⟨hexec, hcode, hnl, hret, hlocks, hown, hname, htab, hts, hfr, hlo, hU, hbs, hsz⟩ := F
  intro T hT Y
  have hz : H.size ≤ base + X.2.1 := by
    have := Y.heapSize
    rw [hT] at this
    omega
  have hI : ∀ U : State, U.heap = H → s.WarmedH U.vm → zIs t D aC gad base G X U := fun U h1 h2 => zIs_end hU hP hS hbs hz h1 h2
  cases i with
  | ireturn =>
    have e1 : n = 1 := by simpa [zlk] using hn
    subst e1
    simp only [zret] at h
    split at h
    · rename_i x
      split at h
      · rename_i hx
        cases h
        rcases ok with ⟨ha, hr⟩ | ⟨ha, hr⟩ | ⟨ha, hr⟩ | ⟨ha, hr⟩
        · exact zWmono (W.iret (Qc := zQc t D aC gad base G (.inl (some (.int x))) X) (free := fun q => base ≤ q) hexec hcode (hret.trans hr) (fun U h1 h2 => ⟨rfl, hI U h1 h2, hS.F h1⟩) hS.2.2 hd hlocks) (zQ_of hcc hss) T hT Y
        · have hx2 : x = 0 ∨ x = 1 := by
            rcases hx with h | h | h | h
            · omega
            · exact h.2
            · omega
            · omega
          exact zWmono (W.zret (Qc := zQc t D aC gad base G (.inl (some (.int x))) X) (free := fun q => base ≤ q) hexec hcode (hret.trans hr) (by rcases hx2 with rfl | rfl <;> rfl) (fun U h1 h2 => ⟨rfl, hI U h1 h2, hS.F h1⟩) hS.2.2 hd hlocks) (zQ_of hcc hss) T hT Y
        · have hx2 : (x.toUInt32 % 65536).toInt32 = x := by
            rcases hx with h | h | h | h
            · omega
            · omega
            · exact h.2
            · omega
          have hx3 := pk_nc x
          rw [hx2] at hx3
          exact zWmono (W.zret (Qc := zQc t D aC gad base G (.inl (some (.int x))) X) (free := fun q => base ≤ q) hexec hcode (hret.trans hr) hx3 (fun U h1 h2 => ⟨rfl, hI U h1 h2, hS.F h1⟩) hS.2.2 hd hlocks) (zQ_of hcc hss) T hT Y
        · have hx2 : x.toInt8.toInt32 = x := by
            rcases hx with h | h | h | h
            · omega
            · omega
            · omega
            · exact h.2
          have hx3 := pk_nb x
          rw [hx2] at hx3
          exact zWmono (W.zret (Qc := zQc t D aC gad base G (.inl (some (.int x))) X) (free := fun q => base ≤ q) hexec hcode (hret.trans hr) hx3 (fun U h1 h2 => ⟨rfl, hI U h1 h2, hS.F h1⟩) hS.2.2 hd hlocks) (zQ_of hcc hss) T hT Y
      · cases h
    · cases h
  | lreturn =>
    have e1 : n = 1 := by simpa [zlk] using hn
    subst e1
    simp only [zret] at h
    split at h
    · rename_i x
      cases h
      exact zWmono (W.lret (Qc := zQc t D aC gad base G (.inl (some (.long x))) X) (free := fun q => base ≤ q) hexec hcode (hret.trans ok) (fun U h1 h2 => ⟨rfl, hI U h1 h2, hS.F h1⟩) hS.2.2 hd hlocks) (zQ_of hcc hss) T hT Y
    · cases h
  | areturn =>
    have e1 : n = 1 := by simpa [zlk] using hn
    subst e1
    simp only [zret] at h
    split at h
    · rename_i x
      cases h
      obtain ⟨C, hC⟩ := ok
      exact zWmono (W.aret (Qc := zQc t D aC gad base G (.inl (some (.ref x))) X) (free := fun q => base ≤ q) hexec hcode (hret.trans hC) (Or.inl ⟨C, rfl⟩) (Or.inr ⟨_, rfl⟩) (fun U h1 h2 => ⟨rfl, hI U h1 h2, hS.F h1⟩) hS.2.2 hd hlocks) (zQ_of hcc hss) T hT Y
    · cases h
  | return_ =>
    have e1 : n = 1 := by simpa [zlk] using hn
    subst e1
    simp only [zret] at h
    split at h
    · cases h
      exact zWmono (W.vret (Qc := zQc t D aC gad base G (.inl none) X) (free := fun q => base ≤ q) hexec hcode (hret.trans ok) (fun U h1 h2 => ⟨rfl, hI U h1 h2, hS.F h1⟩) hS.2.2 hd hlocks) (zQ_of hcc hss) T hT Y
    · cases h
  | _ => simp [zret] at h
end zM
end
section
section zN
variable {p : Program} {l : Launch} {e : Env} {R : Room} {s : State} {m : MethodId} {args : Array Value} {below : List Frame} {meth : Method} {c : Code} {H : Heap} {locs : List Loc} {cells slots : Nat} {Q Q' : State → Prop}
variable {t : zT} {D : va_G} {aC : Nat → ClassId} {gad : Nat → Nat} {base : Nat} {G : List zE}
theorem zcpy {xs ys : List Int32} {sp dp n : Nat} (h1 : sp + n ≤ xs.length) (h2 : dp + n ≤ ys.length) : va_cpy (fun j => xs.getD j 0) (fun j => ys.getD j 0) sp dp n = fun j => (ys.take dp ++ (xs.drop sp).take n ++ ys.drop (dp + n)).getD j 0 := by
  funext j
  simp only [va_cpy, List.getD_eq_getElem?_getD]
  by_cases ha : j < dp
  · rw [if_neg (by omega), List.append_assoc, List.getElem?_append_left (by simp; omega)]
    simp [List.getElem?_take, ha]
  · by_cases hb : j < dp + n
    · rw [if_pos ⟨by omega, hb⟩, List.getElem?_append_left (by simp; omega), List.getElem?_append_right (by simp; omega)]
      have e1 : (List.take dp ys).length = dp := by simp; omega
      rw [e1, List.getElem?_take, if_pos (by omega), List.getElem?_drop]
    · rw [if_neg (by omega), List.getElem?_append_right (by simp; omega)]
      have e1 : (List.take dp ys ++ List.take n (List.drop sp xs)).length = dp + n := by simp; omega
      rw [e1, List.getElem?_drop]
      congr 2
      omega
theorem zcpy_len {xs ys : List Int32} {sp dp n : Nat} (h1 : sp + n ≤ xs.length) (h2 : dp + n ≤ ys.length) : (ys.take dp ++ (xs.drop sp).take n ++ ys.drop (dp + n)).length = ys.length := by
  simp
  omega
/-- the JDK's own -/
theorem zd_sound {mi pc b c0 n nc0 : Nat} {ls : Array Slot} {i : Instr} {v : Value} {st : List Value} {X : zX} {q : List Value × zX} (F : zF t D aC gad base G p R s m args meth c mi nc0) (hl : ls.size = znl t mi) (hd : decode (zmb t mi) pc = .ok (i, n)) (hn : zlk i n = true) (h : zd b st X = some q) (hq : zcat q.1 ≤ 8) (ok : zokk t mi i 1 b c0 v) (hi : (∃ k, i = .invokespecial k) ∨ ∃ k, i = .invokestatic k)
    (hP : va_P D (zcl t) (zw base (zad gad base) aC X.1) H) (hS : va_S (fun q => base ≤ q) s.heap H locs) (hR1 : cells ≤ R.cells) (hR2 : slots ≤ R.slots)
    (k : ∀ (H1 : Heap) (locs1 : List Loc), va_P D (zcl t) (zw base (zad gad base) aC q.2.1) H1 → va_S (fun q => base ≤ q) s.heap H1 locs1 → q.2.2 = X.2 → W p l e R s m args below meth c H1 locs1 cells slots Q (F0 m (pc + 3) ls (q.1.map (ztr (zad gad base))))) :
    W p l e R s m args below meth c H locs cells slots Q (F0 m pc ls (st.map (ztr (zad gad base)))) := by
  obtain ⟨hexec, hcode, hnl, hret, hlocks, hown, hname, htab, hts, hfr, hlo, hU, hbs, hsz⟩ := F
  have hml : c.maxLocals = ls.size := hnl.trans hl.symm
  rcases hi with ⟨z, rfl⟩ | ⟨z, rfl⟩
  · have e1 : n = 3 := by simpa [zlk] using hn
    subst e1
    obtain ⟨hb0, k1, k2, k3, k4, k5⟩ := ok.2 rfl
    subst hb0
    simp only [zd] at h
    split at h
    · rename_i o r
      cases h
      have hr := lv_room (m := m) (pc := pc) (ls := ls) (rest := (Value.ref (zad gad base o) :: r.map (ztr (zad gad base)))) (st := r.map (ztr (zad gad base))) (by rw [zcat_tr]; exact hq)
      exact W.objInit hexec hcode hown (hts _ k1) (hts _ k2) (hts _ k3) (g := F0 m pc ls (Value.ref (zad gad base o) :: r.map (ztr (zad gad base)))) rfl (by rw [hml]) rfl hd (by omega) (by omega) (k H locs hP hS rfl)
    · cases h
  · have e1 : n = 3 := by simpa [zlk] using hn
    subst e1
    obtain ⟨k1, k2, k3⟩ := ok.2 rfl
    rcases k3 with ⟨hb0, j1, j2, j3, j4⟩ | ⟨hb0, j1, j2, j3, j4⟩ | ⟨hb0, j1, j2, j3, j4⟩
    · subst hb0
      simp only [zd] at h
      split at h
      · rename_i y x r
        cases h
        have hc : (List.map (fun v => v.category) (r.map (ztr (zad gad base)))).sum ≤ 8 := by
          rw [zcat_tr]
          have : zcat (Value.int (if x < y then y else x) :: r) ≤ 8 := hq
          simp [zcat, Value.category] at this ⊢
          omega
        exact va_mmax hexec hcode hml hown (hts _ j1) (hts _ j2) (hts _ j3) (hts _ j4) (by omega) (by omega) hR1 hR2 hd (k H locs hP hS rfl)
      · cases h
    · subst hb0
      simp only [zd] at h
      split at h
      · rename_i y x r
        cases h
        have hc : (List.map (fun v => v.category) (r.map (ztr (zad gad base)))).sum ≤ 8 := by
          rw [zcat_tr]
          have : zcat (Value.int (if y < x then y else x) :: r) ≤ 8 := hq
          simp [zcat, Value.category] at this ⊢
          omega
        exact va_mmin hexec hcode hml hown (hts _ j1) (hts _ j2) (hts _ j3) (hts _ j4) (by omega) (by omega) hR1 hR2 hd (k H locs hP hS rfl)
      · cases h
    · subst hb0
      simp only [zd] at h
      split at h
      · rename_i z1 dp d sp q0 r
        split at h
        · cases h
        · rename_i hne
          split at h
          · rename_i xs ys hx hy
            split at h
            · rename_i hc
              cases h
              obtain ⟨c1, c2, c3, c4, c5⟩ := hc
              have hd1 : ¬ d < 50 := fun z => hne (Or.inl z)
              have hd2 : ¬ q0 < 50 := fun z => hne (Or.inr (Or.inl z))
              have hwx := zw_get (base := base) (ad := zad gad base) (aC := aC) hx
              have hwy := zw_get (base := base) (ad := zad gad base) (aC := aC) hy
              have hcat : (List.map (fun v => v.category) (r.map (ztr (zad gad base)))).sum ≤ 8 := by rw [zcat_tr]; exact hq
              show W p l e R s m args below meth c H locs cells slots Q (F0 m pc ls (.int z1 :: .int dp :: .ref (zad gad base d) :: .int sp :: .ref (zad gad base q0) :: r.map (ztr (zad gad base))))
              rw [zad_hi hd1, zad_hi hd2]
              refine va_copyi hexec hcode hml hown (hts _ j1) (hts _ j2) (hts _ j3) (hts _ j4) hU.1 hP zw_D hS (q0 - 50) (d - 50) 0 0 (ty := .int) hwx hwy (by rfl) (by rfl) rfl c2 c3 c1 c4 c5 (fun _ _ => rfl) (by omega) ?_ hd fun H1 locs1 g1 _ g3 => ?_
              · have : nativeFrameWords "java/lang/System" "arraycopy" 5 + 11 ≤ 52 := by decide
                omega
              · refine k H1 locs1 ?_ g3 rfl
                show va_P D (zcl t) (zw base (zad gad base) aC (X.1.set (d - 50) (.inr (.inl (0, ys.take dp.toNatClampNeg ++ (xs.drop sp.toNatClampNeg).take z1.toNatClampNeg ++ ys.drop (dp.toNatClampNeg + z1.toNatClampNeg)))))) H1
                rw [← zw_set]
                rw [zcpy c4 c5] at g1
                have e2 := zcpy_len c4 c5
                simpa only [zen, e2] using g1
            · cases h
          · cases h
      · cases h
end zN
end
section
section zP
variable {p : Program} {l : Launch} {e : Env} {R : Room} {s : State} {m : MethodId} {args : Array Value} {below : List Frame} {meth : Method} {c : Code} {H : Heap} {locs : List Loc} {cells slots : Nat}
variable {t : zT} {D : va_G} {aC : Nat → ClassId} {gad : Nat → Nat} {base : Nat} {G : List zE}
/-- a method's words, read -/
theorem zmeth {mi b : Nat} {a : Array Value} {U : State} (hts : ∀ w ∈ zWS t, w.before a U = true) (ok : zokm t mi b) :
    ∃ mk methk ck, U.methodNamed? (zmt t b) = some mk ∧ U.vm.method? mk = some methk ∧ methk.code = some ck ∧ ck.code = zmb t b ∧ ck.maxLocals = znl t b ∧ methk.sig.returnType = zmr t b ∧ methk.locks = false ∧
      ck.exceptionTable.toList.map (fun h => (h.startPc, h.endPc, h.handlerPc, h.catchType)) = zhs t b ∧ parseMethodDescriptor (zmt t b).desc = some methk.sig ∧ U.plainMethod mk ∧ methk.name = (zmt t b).name := by
  obtain ⟨-, -, -, hpl, hco, -, -⟩ := ok
  rcases hco with ⟨h0, hco⟩ | hco
  · have hc := hts _ hco
    obtain ⟨mk, hmk⟩ := Cond.code_named hc
    obtain ⟨methk, ck, h1, h2, h3, h4, h5, h6, h7, h8⟩ := Cond.code_spec hmk hc
    refine ⟨mk, methk, ck, hmk, h1, h2, h3, h4, h5, h6, ?_, h8, State.plainMethod.of_named hpl hmk h1, (name_of_methodNamed hmk h1).1⟩
    rw [h0]
    have : ck.exceptionTable = #[] := by simpa using h7
    simp [this]
  · obtain ⟨mk, methk, ck, hmk, h1, h2, h3, h4, h5, h6, h7, h8⟩ := Cond.codeWith_spec (hts _ hco)
    exact ⟨mk, methk, ck, hmk, h1, h2, h3, h4, h6, h7, h5, h8, State.plainMethod.of_named hpl hmk h1, (name_of_methodNamed hmk h1).1⟩
theorem zlen_sl (vs : List Value) : (lg_sl vs).length = zcat vs := by
  induction vs with
  | nil => rfl
  | cons v r ih =>
    simp only [lg_sl, List.flatMap_cons, List.length_append, zcat, List.map_cons, List.sum_cons] at ih ⊢
    rcases lv_cat v with hv | hv <;> simp [hv, ih]
theorem zargs_tr (ad : Nat → Nat) (vs : List Value) (i : Nat) : lv_args i (vs.map (ztr ad)) = ztl ad (lv_args i vs) := by
  induction vs generalizing i with
  | nil => rfl
  | cons v r ih => simp [lv_args, ztl, ztr_cat, ih]
theorem zrcv_first {v : Value} {as : List Value} {X : zX} {ci : Nat} (hv : v = .ref ci) (h : zrcv G X v as = true) : ∃ o as', as = .ref o :: as' := by
  subst hv
  simp only [zrcv] at h
  split at h
  · exact ⟨_, _, rfl⟩
  · cases h
theorem zrecv {v : Value} {as : List Value} {X : zX} {ci : Nat} {C : String} (hU : zU t D aC gad base G s) (hP : va_P D (zcl t) (zw base (zad gad base) aC X.1) H) (hS : va_S (fun q => base ≤ q) s.heap H locs) (h99 : (zcl t).length ≤ 99) (hv : v = .ref ci) (hc : zcn t ci = some C) (h : zrcv G X v as = true) :
    ∃ o as', as = .ref o :: as' ∧ ∃ cell : Cell, H[zad gad base o]? = some cell ∧ cell.vm.isStatics = false ∧ s.vm.findClass C = some cell.cls := by
  subst hv
  simp only [zrcv] at h
  split at h
  · rename_i o as'
    split at h
    · rename_i cj fs hz
      have hcj : cj = ci := by simpa using h
      subst hcj
      refine ⟨o, as', rfl, ?_⟩
      by_cases ho : o < 50
      · have hg : G[o]? = some (.inl (cj, fs)) := by simpa [zrd, ho] using hz
        obtain ⟨g1, ⟨cell, g2, g3, g4, g5⟩, -, -⟩ := hU.2.1 _ _ hg
        have hC : C = "java/lang/String" := by
          have g1' : cj = 99 := g1
          simp [zcn, g1'] at hc
          exact hc.symm
        subst hC
        exact ⟨cell, by rw [hS.2.1 _ (Array.getElem?_eq_some_iff.mp g2).1 g5]; exact g2, g3, g4⟩
      · have hg : X.1[o - 50]? = some (.inl (cj, fs)) := by simpa [zrd, ho] using hz
        have hw := zw_get (base := base) (ad := zad gad base) (aC := aC) hg
        obtain ⟨r, h1, cell, g1, g2, g3, -⟩ := hP _ _ hw
        have hlt : cj < (zcl t).length := (List.getElem?_eq_some_iff.mp h1).1
        have hC : C = r.1 := by
          have h1' : (zcl t)[cj]? = some r := h1
          rw [zcn, if_neg (by omega), h1'] at hc
          exact (Option.some.inj hc).symm
        rw [hC, zad_hi ho]
        exact ⟨cell, g1, by rw [g3]; rfl, by rw [g2]; exact (hU.1.1 cj r h1).2.1⟩
    · cases h
  · cases h
/-- the invoking instruction's own step -/
theorem zinv {mi pc b c0 n nc0 : Nat} {ls : Array Slot} {i : Instr} {v : Value} {st : List Value} {X : zX} {T : State} (F : zF t D aC gad base G p R s m args meth c mi nc0) (h99 : (zcl t).length ≤ 99) (hd : decode (zmb t mi) pc = .ok (i, n)) (hn : zlk i n = true) (ok : zokk t mi i 0 b c0 v)
    (hi : (∃ k, i = .invokevirtual k) ∨ (∃ k, i = .invokespecial k) ∨ ∃ k, i = .invokestatic k) (hc0 : c0 ≤ st.length) (hr : zrcv G X v (st.take c0).reverse = true)
    (hP : va_P D (zcl t) (zw base (zad gad base) aC X.1) H) (hS : va_S (fun q => base ≤ q) s.heap H locs) (hT : T.heap = H) (Y : Stand p l e R s m args below meth c T locs cells slots) :
    n = 3 ∧ zokm t mi b ∧ ∃ (vm₁ : Vm) (mk : MethodId), Stand p l e R s m args below meth c (T.setVm vm₁) locs cells slots ∧ s.methodNamed? (zmt t b) = some mk ∧
      ∀ target, (∀ acts, Steps p.tables e below (doInvoke e ((T.setVm vm₁).setTop (F0 m pc ls ((st.drop c0).map (ztr (zad gad base))))) acts mk ((st.take c0).reverse.map (ztr (zad gad base))).toArray).1 target) → Steps p.tables e below (T.setTop (F0 m pc ls (st.map (ztr (zad gad base))))) target := by
  obtain ⟨hexec, hcode, hnl, hret, hlocks, hown, hname, htab, hts, hfr, hlo, hU, hbs, hsz⟩ := F
  have hpl : e.platform.magicAccessors = ({} : Platform).magicAccessors := by rw [Y.admits.platform]
  have hstk : st.map (ztr (zad gad base)) = ((st.take c0).reverse.map (ztr (zad gad base))).reverse ++ (st.drop c0).map (ztr (zad gad base)) := by
    rw [← List.map_reverse, List.reverse_reverse, ← List.map_append, List.take_append_drop]
  have hlenA : ((st.take c0).reverse.map (ztr (zad gad base))).length = c0 := by simp; omega
  rcases hi with ⟨z, rfl⟩ | ⟨z, rfl⟩ | ⟨z, rfl⟩
  · have e1 : n = 3 := by simpa [zlk] using hn
    subst e1
    obtain ⟨-, hm, hlk, hin, hpar, ci, C, hv, hC, hsel⟩ := ok
    refine ⟨rfl, hm, ?_⟩
    obtain ⟨o, as', has, cellB, hcB, hoB, hclB⟩ := zrecv hU hP hS h99 hv hC hr
    obtain ⟨mk, methk, ck, q1, q2, -, -, -, -, -, -, q3, -, -⟩ := zmeth hts hm
    obtain ⟨mk', methk', r1, r2, r3, r4⟩ := Cond.instanceMethod_spec (hts _ hin)
    cases q1.symm.trans r1
    cases q2.symm.trans r2
    obtain ⟨c2, rr, m2, w1, w2, w3, w4, kP, hkP, hkPi⟩ := Cond.selects_spec (hts _ hsel)
    cases hclB.symm.trans w1
    cases (State.methodFound?_of_named q1 ⟨hm.2.1, hm.2.2.1⟩).symm.trans w2
    cases q1.symm.trans w3
    have hselP : selectMethod e.platform s.vm cellB.cls mk = .method mk := by rw [Launch.admits_selectMethod Y.admits]; exact w4
    have hpl2 : (as'.map (ztr (zad gad base))).length = methk.sig.parameters.length := by
      rw [q3] at hpar
      have h1 : methk.sig.parameters.length + 1 = c0 := Option.some.inj hpar
      rw [has] at hlenA
      simp at hlenA ⊢
      omega
    have hst2 : st.map (ztr (zad gad base)) = (as'.map (ztr (zad gad base))).reverse ++ .ref (zad gad base o) :: (st.drop c0).map (ztr (zad gad base)) := by
      rw [hstk, has]
      simp [ztr]
    have harr : ((st.take c0).reverse.map (ztr (zad gad base))).toArray = (Value.ref (zad gad base o) :: as'.map (ztr (zad gad base))).toArray := by rw [has]; rfl
    rcases hlk with hlk | hlk
    · obtain ⟨vm₁, Y₁, st₁⟩ := Y.invokevirtual hexec hown (hts _ hlk) q1 q2 r3 hkP hkPi ⟨hm.2.1, hm.2.2.1⟩ (a := zad gad base o) (cell := cellB) (by rw [hT]; exact hcB) (fun z h => by rw [h] at hoB; cases hoB) hselP q2 r4 hkP hkPi (g := F0 m pc ls (st.map (ztr (zad gad base)))) rfl (argsL := as'.map (ztr (zad gad base))) (rest := (st.drop c0).map (ztr (zad gad base))) hpl2 hst2 (by rw [hcode]; exact hd)
      exact ⟨vm₁, mk, Y₁, q1, fun target h => st₁ target (by rw [← harr]; exact h)⟩
    · obtain ⟨vm₁, Y₁, st₁⟩ := Y.invokevirtualNest hexec hown (hts _ hlk) q1 q2 r3 hkP hkPi ⟨hm.2.1, hm.2.2.1⟩ (a := zad gad base o) (cell := cellB) (by rw [hT]; exact hcB) (fun z h => by rw [h] at hoB; cases hoB) hselP q2 r4 hkP hkPi (g := F0 m pc ls (st.map (ztr (zad gad base)))) rfl (argsL := as'.map (ztr (zad gad base))) (rest := (st.drop c0).map (ztr (zad gad base))) hpl2 hst2 (by rw [hcode]; exact hd)
      exact ⟨vm₁, mk, Y₁, q1, fun target h => st₁ target (by rw [← harr]; exact h)⟩
  · have e1 : n = 3 := by simpa [zlk] using hn
    subst e1
    obtain ⟨hm, hlk, hin, hpar, hnm, hco, ci, hv⟩ := ok.1 rfl
    refine ⟨rfl, hm, ?_⟩
    obtain ⟨o, as', has⟩ := zrcv_first hv hr
    have hpl2 : ∀ sig, parseMethodDescriptor (zmt t b).desc = some sig → (as'.map (ztr (zad gad base))).length = sig.parameters.length := by
      intro sig hsig
      rw [hsig] at hpar
      have h1 : sig.parameters.length + 1 = c0 := Option.some.inj hpar
      rw [has] at hlenA
      simp at hlenA ⊢
      omega
    have hst2 : st.map (ztr (zad gad base)) = (as'.map (ztr (zad gad base))).reverse ++ .ref (zad gad base o) :: (st.drop c0).map (ztr (zad gad base)) := by
      rw [hstk, has]
      simp [ztr]
    have harr : ((st.take c0).reverse.map (ztr (zad gad base))).toArray = (Value.ref (zad gad base o) :: as'.map (ztr (zad gad base))).toArray := by rw [has]; rfl
    rcases hlk with hlk | hlk
    · obtain ⟨mk, methM, cM, kP, vm₁, hnamed, -, -, -, -, -, -, -, hW₁, st₁⟩ := Steps.initColdArgs (e := e) Y.here hexec Y.warmed hpl hown hnm ⟨hm.2.1, hm.2.2.1⟩ (hts _ hlk) (hts _ hin) (hts _ hco) (f := F0 m pc ls (st.map (ztr (zad gad base)))) rfl (a := zad gad base o) (argsL := as'.map (ztr (zad gad base))) (rest := (st.drop c0).map (ztr (zad gad base))) hpl2 hst2 (by rw [hcode]; exact hd)
      exact ⟨vm₁, mk, Y.noted hW₁, hnamed, fun target h => st₁ target (by rw [← harr]; exact h)⟩
    · obtain ⟨mk, methM, cM, kP, vm₁, hnamed, -, -, -, -, -, -, -, hW₁, st₁⟩ := Steps.initColdArgsNest (e := e) Y.here hexec Y.warmed hpl hown hnm ⟨hm.2.1, hm.2.2.1⟩ (hts _ hlk) (hts _ hin) (hts _ hco) (f := F0 m pc ls (st.map (ztr (zad gad base)))) rfl (a := zad gad base o) (argsL := as'.map (ztr (zad gad base))) (rest := (st.drop c0).map (ztr (zad gad base))) hpl2 hst2 (by rw [hcode]; exact hd)
      exact ⟨vm₁, mk, Y.noted hW₁, hnamed, fun target h => st₁ target (by rw [← harr]; exact h)⟩
  · have e1 : n = 3 := by simpa [zlk] using hn
    subst e1
    obtain ⟨hm, hlk, hst, hpar, hv⟩ := ok.1 rfl
    refine ⟨rfl, hm, ?_⟩
    obtain ⟨mk, methk, ck, q1, q2, -, -, -, -, -, -, q3, -, -⟩ := zmeth hts hm
    have hstatic : methk.isStatic = true := Cond.static_spec q1 q2 (hts _ hst)
    obtain ⟨kP, hkP, -⟩ := className_of_methodNamed q1
    have hinitP : kP.init = .initialized := Cond.initialized_spec (findClass_of_methodNamed q1) hkP (hts _ hm.1)
    have hpl2 : ((st.take c0).reverse.map (ztr (zad gad base))).length = methk.sig.parameters.length := by
      rw [q3] at hpar
      have h1 : methk.sig.parameters.length = c0 := Option.some.inj hpar
      omega
    rcases hlk with hlk | hlk
    · obtain ⟨vm₁, Y₁, st₁⟩ := Y.invokestatic hexec hown (hts _ hlk) q1 q2 hstatic hkP hinitP ⟨hm.2.1, hm.2.2.1⟩ (g := F0 m pc ls (st.map (ztr (zad gad base)))) rfl (argsL := (st.take c0).reverse.map (ztr (zad gad base))) (rest := (st.drop c0).map (ztr (zad gad base))) hpl2 hstk (by rw [hcode]; exact hd)
      exact ⟨vm₁, mk, Y₁, q1, st₁⟩
    · obtain ⟨vm₁, Y₁, st₁⟩ := Y.invokestaticNest hexec hown (hts _ hlk) q1 q2 hstatic hkP hinitP ⟨hm.2.1, hm.2.2.1⟩ (g := F0 m pc ls (st.map (ztr (zad gad base)))) rfl (argsL := (st.take c0).reverse.map (ztr (zad gad base))) (rest := (st.drop c0).map (ztr (zad gad base))) hpl2 hstk (by rw [hcode]; exact hd)
      exact ⟨vm₁, mk, Y₁, q1, st₁⟩
/-- the callee's whole run, from the caller's frame -/
theorem zcall_in {mi pc b c0 nc0 ns0 : Nat} {ls : Array Slot} {ig : Instr} {st : List Value} {X X1 : zX} {o1 : zO} {T : State} {vm₁ : Vm} {mk : MethodId} (hgood : ∀ w ∈ zWS t, zgw w) (F : zF t D aC gad base G p R s m args meth c mi nc0) (hl : ls.size = znl t mi) (hd : decode (zmb t mi) pc = .ok (ig, 3)) (hm : zokm t mi b)
    (hc2 : zcat (st.drop c0) ≤ 8) (hc3 : zcat (st.take c0) ≤ znl t b) (hP : va_P D (zcl t) (zw base (zad gad base) aC X.1) H) (hS : va_S (fun q => base ≤ q) s.heap H locs) (hT : T.heap = H)
    (Y₁ : Stand p l e R s m args below meth c (T.setVm vm₁) locs cells slots) (hmk : s.methodNamed? (zmt t b) = some mk) (hcc : cells + nc0 = X.2.1) (hss : slots + ns0 = X.2.2) (hmo : X.2.1 ≤ X1.2.1 ∧ X.2.2 ≤ X1.2.2) (hr1 : X1.2.1 ≤ R.cells + nc0) (hr2 : X1.2.2 ≤ R.slots + ns0)
    (ihc : ∀ (p : Program) (e : Env) (R : Room) (s : State) (m : MethodId) (args : Array Value) (below : List Frame) (meth : Method) (c : Code) (H : Heap) (locs : List Loc) (cells slots : Nat) (ls : Array Slot) (nc0 ns0 : Nat),
      zF t D aC gad base G p R s m args meth c b nc0 → lv_has ls (znl t b) (ztl (zad gad base) (lv_args 0 (st.take c0).reverse)) → va_P D (zcl t) (zw base (zad gad base) aC X.1) H → va_S (fun q => base ≤ q) s.heap H locs → cells + nc0 = X.2.1 → slots + ns0 = X.2.2 → X1.2.1 ≤ R.cells + nc0 → X1.2.2 ≤ R.slots + ns0 →
      W p l e R s m args below meth c H locs cells slots (zQ t D aC gad base G below s nc0 ns0 o1 X1) (F0 m 0 ls (([] : List Value).map (ztr (zad gad base))))) :
    ∃ t', (∀ acts, Steps p.tables e below (doInvoke e ((T.setVm vm₁).setTop (F0 m pc ls ((st.drop c0).map (ztr (zad gad base))))) acts mk ((st.take c0).reverse.map (ztr (zad gad base))).toArray).1 t') ∧
      zQ t D aC gad base G (.java (F0 m pc ls ((st.drop c0).map (ztr (zad gad base)))) :: below) ((T.setVm vm₁).calling (F0 m pc ls ((st.drop c0).map (ztr (zad gad base)))) mk ((st.take c0).reverse.map (ztr (zad gad base))).toArray) X.2.1 X.2.2 o1 X1 t' := by
  obtain ⟨hexec, hcode, hnl, hret, hlocks, hown, hname, htab, hts, hfr, hlo, hU, hbs, hsz⟩ := F
  have hz : H.size ≤ base + X.2.1 := by
    have h1 := Y₁.heapSize
    have h2 : (T.setVm vm₁).heap = H := hT
    rw [h2] at h1
    omega
  obtain ⟨mk', methk, ck, q1, q2, q3, q4, q5, q6, q7, q8, q9, q10, q11⟩ := zmeth hts hm
  cases hmk.symm.trans q1
  have hW1 : s.WarmedH vm₁ := Y₁.warmed
  have hm1 : (T.setVm vm₁).vm.method? mk = some methk := by
    show vm₁.method? mk = some methk
    rw [hW1.alike.method?]
    exact q2
  have hp1 : (T.setVm vm₁).plainMethod mk := State.plainMethod.of_named hm.2.2.2.1 (Y₁.named q1) hm1
  have hframes : zfr t b + 1 ≤ R.frames := Nat.le_trans hm.2.2.2.2.2.1 hfr
  have hrm := lv_room (m := m) (pc := pc) (ls := ls) (rest := (st.drop c0).map (ztr (zad gad base))) (st := (st.drop c0).map (ztr (zad gad base))) (by rw [zcat_tr]; exact hc2)
  refine zenter Y₁ (g := F0 m pc ls ((st.drop c0).map (ztr (zad gad base)))) rfl (by show ls.size = _; rw [hl, hnl]) (by rw [hcode]; exact hd) _ (R' := { frames := zfr t b, cells := X1.2.1 - X.2.1, slots := X1.2.2 - X.2.2, locals := zlo t b }) hm1 q3 q7 hp1 hframes ?_ ?_ ?_ ?_
  · have h2 := hm.2.2.2.2.2.2
    rw [q5]
    show _ + (znl t b + 11) + zlo t b ≤ R.locals
    have h3 : 2 * (F0 m pc ls ((st.drop c0).map (ztr (zad gad base)))).monitorRoom + (((st.drop c0).map (ztr (zad gad base))).map fun v => v.category).sum ≤ 8 := hrm
    have h4 : (F0 m pc ls ((st.drop c0).map (ztr (zad gad base)))).stack = (st.drop c0).map (ztr (zad gad base)) := rfl
    rw [h4]
    omega
  · show cells + (X1.2.1 - X.2.1) ≤ R.cells
    omega
  · show slots + (X1.2.2 - X.2.2) ≤ R.slots
    omega
  · have hent := lg_entry_eq mk ((st.take c0).reverse.map (ztr (zad gad base))) ck.maxLocals
    have hcat2 : (lg_sl ((st.take c0).reverse.map (ztr (zad gad base)))).length ≤ znl t b := by
      rw [zlen_sl]
      unfold zcat
      rw [zcat_tr]
      unfold zcat at hc3 ⊢
      rw [List.map_reverse, List.sum_reverse]
      exact hc3
    rw [hent, q5]
    have hhs : ((T.setVm vm₁).calling (F0 m pc ls ((st.drop c0).map (ztr (zad gad base)))) mk ((st.take c0).reverse.map (ztr (zad gad base))).toArray).heap = H := hT
    have hTh : (T.setVm vm₁).heap = H := hT
    rw [hTh]
    refine ihc p e _ _ mk _ _ methk ck H [] 0 0 _ X.2.1 X.2.2 ⟨hexec, q4, q5, q6, q7, ?_, q11, q8, fun w hw => hgood w hw _ _ _ _ hW1 (hts w hw), Nat.le_refl _, Nat.le_refl _, zU_move hU hW1 (fun a h1 h2 => by rw [hhs]; exact hS.2.1 a h1 h2), by rw [hhs]; exact Nat.le_trans hbs hS.1, by rw [hhs]; exact hz⟩ ?_ hP ?_ (by omega) (by omega) (by show X1.2.1 ≤ (X1.2.1 - X.2.1) + X.2.1; omega) (by show X1.2.2 ≤ (X1.2.2 - X.2.2) + X.2.2; omega)
    · show vm₁.findClass (zmt t b).cls = some mk.cls
      rw [hW1.alike.findClass]
      exact findClass_of_methodNamed q1
    · have := lv_entry ((st.take c0).reverse.map (ztr (zad gad base))) hcat2
      rw [zargs_tr] at this
      exact this
    · rw [hhs]
      exact va_S.rf
end zP
end
section
section zR
variable {G : List zE}
theorem zc_mono {df : Nat → List Value} {i : Instr} {a b c : Nat} {st : List Value} {X : zX} {q : Nat × List Value × zX} (h : zc df i a b c st X = some q) : X.2.1 ≤ q.2.2.2.1 ∧ X.2.2 ≤ q.2.2.2.2 := by
  unfold zc at h
  repeat' split at h
  all_goals first | (cases h; done) | (cases h; exact ⟨Nat.le_refl _, Nat.le_refl _⟩) | (cases h; exact ⟨Nat.le_succ _, Nat.le_add_right _ _⟩)
theorem zd_mono {b : Nat} {st : List Value} {X : zX} {q : List Value × zX} (h : zd b st X = some q) : q.2.2 = X.2 := by
  unfold zd at h
  repeat' split at h
  all_goals first | (cases h; done) | (cases h; rfl)
theorem zmono {cd : Nat → Nat → Option zI} {nl : Nat → Nat} {df : Nat → List Value} {hn : Nat → Nat → Nat → Option Nat} : ∀ (n mi pc : Nat) (lv : zL) (st : List Value) (X : zX) (o : zO) (X' : zX), zev cd nl df hn G n mi pc lv st X = some (o, X') → X.2.1 ≤ X'.2.1 ∧ X.2.2 ≤ X'.2.2 := by
  intro n
  induction n with
  | zero => intro mi pc lv st X o X' h; simp [zev] at h
  | succ n ih =>
    intro mi pc lv st X o X' h
    simp only [zev] at h
    split at h
    · cases h
    · split at h
      · exact ih _ _ _ _ _ _ _ h
      · split at h
        · exact ih _ _ _ _ _ _ _ h
        · split at h
          · rename_i q hq
            have h1 := zc_mono hq
            have h2 := ih _ _ _ _ _ _ _ h
            exact ⟨Nat.le_trans h1.1 h2.1, Nat.le_trans h1.2 h2.2⟩
          · split at h
            · cases h
              exact ⟨Nat.le_refl _, Nat.le_refl _⟩
            · split at h
              · split at h
                · cases h
                  exact ⟨Nat.le_succ _, Nat.le_add_right _ _⟩
                · cases h
              · split at h
                · split at h
                  · split at h
                    · rename_i q hq
                      split at h
                      · have h1 := zd_mono hq
                        have h2 := ih _ _ _ _ _ _ _ h
                        rw [h1] at h2
                        exact h2
                      · cases h
                    · cases h
                  · split at h
                    · split at h
                      · rename_i r X1 hq
                        have h1 := ih _ _ _ _ _ _ _ hq
                        have h2 := ih _ _ _ _ _ _ _ h
                        exact ⟨Nat.le_trans h1.1 h2.1, Nat.le_trans h1.2 h2.2⟩
                      · rename_i x X1 hq
                        have h1 := ih _ _ _ _ _ _ _ hq
                        split at h
                        · cases h
                          exact h1
                        · split at h
                          · have h2 := ih _ _ _ _ _ _ _ h
                            exact ⟨Nat.le_trans h1.1 h2.1, Nat.le_trans h1.2 h2.2⟩
                          · cases h
                      · cases h
                    · cases h
                · cases h
end zR
theorem zhd_spec {cd : Nat → Nat → Option zI} {hn : Nat → Nat → Nat → Option Nat} {nL mi pc x g k : Nat} (hq : zhd cd hn nL mi pc x = some (g, k)) : ∃ h, hn mi pc x = some h ∧ k < nL ∧ ((∃ (k4 : Fin 4) (r : Nat × Nat × Nat × Value), cd mi h = some (.astore_n k4, r) ∧ (k4 : Nat) = k ∧ g = h) ∨ (∃ (r : Nat × Nat × Nat × Value), cd mi h = some (.astore k, r) ∧ g = h + 1)) := by
  unfold zhd at hq
  split at hq
  · cases hq
  · rename_i h1 e1
    split at hq
    · rename_i k4 r hc
      split at hq
      · rename_i hk
        cases hq
        exact ⟨_, e1, hk, Or.inl ⟨k4, r, hc, rfl, rfl⟩⟩
      · cases hq
    · rename_i k5 r hc
      split at hq
      · rename_i hk
        cases hq
        exact ⟨_, e1, hk, Or.inr ⟨r, hc, rfl⟩⟩
      · cases hq
    · cases hq
section zS
variable {t : zT} {D : va_G} {aC : Nat → ClassId} {gad : Nat → Nat} {base : Nat} {G : List zE}
/-- a throw, open -/
def zThrows (t : zT) (D : va_G) (aC : Nat → ClassId) (gad : Nat → Nat) (base : Nat) (G : List zE) (l : Launch) : Prop :=
  ∀ (p : Program) (e : Env) (R : Room) (s : State) (m : MethodId) (args : Array Value) (below : List Frame) (meth : Method) (c : Code) (H : Heap) (locs : List Loc) (cells slots : Nat) (ls : Array Slot) (nc0 ns0 mi pc a : Nat) (lv : zL) (st : List Value) (X : zX) (i : Instr) (b c0 : Nat) (v : Value),
    zF t D aC gad base G p R s m args meth c mi nc0 → lv_has ls (znl t mi) (ztl (zad gad base) lv) → va_P D (zcl t) (zw base (zad gad base) aC X.1) H → va_S (fun q => base ≤ q) s.heap H locs → cells + nc0 = X.2.1 → slots + ns0 = X.2.2 → X.2.1 + 1 ≤ R.cells + nc0 → X.2.2 + 6 ≤ R.slots + ns0 →
    zcd t mi pc = some (i, a, b, c0, v) → zki i = 1 → 100 ≤ a → zthr (zcd t) mi pc a = true → zcat st ≤ 4 →
    W p l e R s m args below meth c H locs cells slots (zQ t D aC gad base G below s nc0 ns0 (.inr a) (X.1, X.2.1 + 1, X.2.2 + 6)) (F0 m pc ls (st.map (ztr (zad gad base))))
/-- a catch, open -/
def zCatches (t : zT) (D : va_G) (aC : Nat → ClassId) (gad : Nat → Nat) (base : Nat) (G : List zE) (l : Launch) : Prop :=
  ∀ (p : Program) (e : Env) (R : Room) (s : State) (m : MethodId) (args : Array Value) (below : List Frame) (meth : Method) (c : Code) (T : State) (locs : List Loc) (cells slots : Nat) (ls : Array Slot) (nc0 mi pc x h : Nat) (st : List Value) (a : Addr) (cell : Cell),
    zF t D aC gad base G p R s m args meth c mi nc0 → Stand p l e R s m args below meth c T locs cells slots → T.heap[a]? = some cell → cell.vm = .none → T.vm.findClass (zxn t x) = some cell.cls → zhn t mi pc x = some h → ¬ zhd (zcd t) (zhn t) (znl t mi) mi pc x = none →
    ∃ vm', Stand p l e R s m args below meth c (T.setVm vm') locs cells slots ∧ ∀ target, Steps p.tables e below ((T.setVm vm').setTop (F0 m h ls [.ref a])) target → Steps p.tables e below ((T.setTop (F0 m pc ls st)).pushFrame (.throwing a)) target
set_option maxHeartbeats 8000000 in
theorem zsound (hST : zST t) (hno : ∀ mi pc x, zhn t mi pc x = none → zhs t mi = []) {l : Launch} (hthr : zThrows t D aC gad base G l) (hcat : zCatches t D aC gad base G l) : ∀ (n mi pc : Nat) (lv : zL) (st : List Value) (X : zX) (o : zO) (X' : zX), zev (zcd t) (znl t) (zdf t) (zhn t) G n mi pc lv st X = some (o, X') →
    ∀ (p : Program) (e : Env) (R : Room) (s : State) (m : MethodId) (args : Array Value) (below : List Frame) (meth : Method) (c : Code) (H : Heap) (locs : List Loc) (cells slots : Nat) (ls : Array Slot) (nc0 ns0 : Nat),
    zF t D aC gad base G p R s m args meth c mi nc0 → lv_has ls (znl t mi) (ztl (zad gad base) lv) → va_P D (zcl t) (zw base (zad gad base) aC X.1) H → va_S (fun q => base ≤ q) s.heap H locs → cells + nc0 = X.2.1 → slots + ns0 = X.2.2 → X'.2.1 ≤ R.cells + nc0 → X'.2.2 ≤ R.slots + ns0 →
    W p l e R s m args below meth c H locs cells slots (zQ t D aC gad base G below s nc0 ns0 o X') (F0 m pc ls (st.map (ztr (zad gad base)))) := by
  obtain ⟨hgood, hcq, h99, hins⟩ := hST
  intro n
  induction n with
  | zero => intro mi pc lv st X o X' h; simp [zev] at h
  | succ n ih =>
    intro mi pc lv st X o X' h p e R s m args below meth c H locs cells slots ls nc0 ns0 F hl hP hS hcc hss hR1 hR2
    have F2 := F
    obtain ⟨hexec, hcode, hnl, hret, hlocks, hown, hname, htab, hts, hfr, hlo, hU, hbs, hsz⟩ := F2
    simp only [zev] at h
    split at h
    · cases h
    · rename_i i a b c0 v hcd
      obtain ⟨⟨len, hd, hlen⟩, ok1, ok2, ok3, ok4, ok5⟩ := hins mi pc i a b c0 v hcd
      split at h
      · rename_i q hq
        exact za_sound hexec hcode hown hS hd hlen hq hl (zcst_of hU hts ok3) fun ls' hl' => ih _ _ _ _ _ _ _ h p e R s m args below meth c H locs cells slots ls' nc0 ns0 F hl' hP hS hcc hss hR1 hR2
      · split at h
        · rename_i q hq
          exact zb_sound hexec hcode hown hts (fun q hq => (hcq q hq).1) h99 hU.1 hU.2.1 hS hP hd hlen hq ok1 (ih _ _ _ _ _ _ _ h p e R s m args below meth c H locs cells slots ls nc0 ns0 F hl hP hS hcc hss hR1 hR2)
        · split at h
          · rename_i q hq
            have hmo := zmono _ _ _ _ _ _ _ _ h
            exact zc_sound hexec hcode hown (fun hf => by rw [hname]; simpa using hf) hts hcq hU.1 hS hbs hsz hP hcc hss hd hlen hq ok2 (by omega) (by omega) fun H1 locs1 cells1 slots1 g1 g2 g3 g4 =>
              ih _ _ _ _ _ _ _ h p e R s m args below meth c H1 locs1 cells1 slots1 ls nc0 ns0 F hl g1 g2 g3 g4 hR1 hR2
          · split at h
            · rename_i r hr
              cases h
              exact zret_sound F hd hlen hr ok4 hP hS hcc hss
            · split at h
              · rename_i hki
                split at h
                · rename_i hc
                  cases h
                  exact hthr p e R s m args below meth c H locs cells slots ls nc0 ns0 mi pc a lv st X i b c0 v F hl hP hS hcc hss hR1 hR2 hcd hki hc.1 hc.2.1 hc.2.2
                · cases h
              · split at h
                · rename_i hki
                  have hi3 : (∃ k, i = .invokevirtual k) ∨ (∃ k, i = .invokespecial k) ∨ ∃ k, i = .invokestatic k := by
                    cases i <;> simp [zki] at hki
                    · exact Or.inr (Or.inl ⟨_, rfl⟩)
                    · exact Or.inr (Or.inr ⟨_, rfl⟩)
                    · exact Or.inl ⟨_, rfl⟩
                  split at h
                  · rename_i ha
                    subst ha
                    split at h
                    · rename_i q hq
                      split at h
                      · rename_i hcq8
                        have hmo := zmono _ _ _ _ _ _ _ _ h
                        have hm2 := zd_mono hq
                        have hi2 : (∃ k, i = .invokespecial k) ∨ ∃ k, i = .invokestatic k := by
                          rcases hi3 with ⟨k, rfl⟩ | h3
                          · exact absurd ok5.1 (by decide)
                          · exact h3
                        rw [hm2] at hmo
                        exact zd_sound F hl.1 hd hlen hq hcq8 ok5 hi2 hP hS (by omega) (by omega) fun H1 locs1 g1 g2 g3 =>
                          ih _ _ _ _ _ _ _ h p e R s m args below meth c H1 locs1 cells slots ls nc0 ns0 F hl g1 g2 (by rw [g3]; exact hcc) (by rw [g3]; exact hss) hR1 hR2
                      · cases h
                    · cases h
                  · split at h
                    · rename_i ha
                      obtain ⟨ha, hc1, hc2, hc3, hc4⟩ := ha
                      subst ha
                      intro T hT Y
                      obtain ⟨e3, hm, vm₁, mk, Y₁, hmk, hstep⟩ := zinv F h99 hd hlen ok5 hi3 hc1 hc4 hP hS hT Y
                      subst e3
                      split at h
                      · rename_i r X1 hcall
                        have hmo := zmono _ _ _ _ _ _ _ _ hcall
                        have hmo2 := zmono _ _ _ _ _ _ _ _ h
                        obtain ⟨t', hst', oc, L, mc, ms, w1, w2, w3, w4, w5, w6, w7, w8, w9, w10⟩ := zcall_in (o1 := .inl r) hgood F hl.1 hd hm hc2 hc3 hP hS hT Y₁ hmk hcc hss hmo (by omega) (by omega) (ih _ _ _ _ _ _ _ hcall)
                        cases w3
                        obtain ⟨T2, Y2, hW2, -, ht2⟩ := Y₁.outOf (g := F0 m pc ls ((st.drop c0).map (ztr (zad gad base)))) rfl (by rw [hcode]; exact hd) w2 w5 w6
                        have hheap : t'.heap = T2.heap := by rw [ht2]; simp [State.setTop, State.modifyTopJava]
                        have hhs : ((T.setVm vm₁).calling (F0 m pc ls ((st.drop c0).map (ztr (zad gad base)))) mk ((st.take c0).reverse.map (ztr (zad gad base))).toArray).heap = H := hT
                        have hS2 : va_S (fun q => base ≤ q) s.heap T2.heap (locs ++ L) := by
                          refine ⟨?_, fun q h1 h2 => ?_, fun q hq => ?_⟩
                          · have := w10.1
                            rw [hhs, hheap] at this
                            exact Nat.le_trans hS.1 this
                          · have h3 := w10.2 q (by rw [hhs]; exact Nat.lt_of_lt_of_le h1 hS.1) h2
                            rw [hhs, hheap] at h3
                            rw [h3]
                            exact hS.2.1 q h1 h2
                          · rcases List.mem_append.mp hq with h3 | h3
                            · exact hS.2.2 q h3
                            · exact w7 q h3
                        have hP2 : va_P D (zcl t) (zw base (zad gad base) aC X1.1) T2.heap := by rw [← hheap]; exact w4.2.1
                        obtain ⟨t3, st3, q3⟩ := ih _ _ _ _ _ _ _ h p e R s m args below meth c T2.heap (locs ++ L) (cells + mc) (slots + ms) ls nc0 ns0 F hl hP2 hS2 (by omega) (by omega) hR1 hR2 T2 rfl Y2
                        refine ⟨t3, hstep _ fun acts => (hst' acts).trans ?_, q3⟩
                        rw [ht2]
                        have e5 : (r.toList ++ st.drop c0).map (ztr (zad gad base)) = (r.map (ztr (zad gad base))).toList ++ (st.drop c0).map (ztr (zad gad base)) := by cases r <;> simp
                        rw [e5] at st3
                        exact st3
                      · rename_i x X1 hcall
                        have hmo := zmono _ _ _ _ _ _ _ _ hcall
                        have hmo3 : X1.2.1 ≤ X'.2.1 ∧ X1.2.2 ≤ X'.2.2 := by
                          split at h
                          · cases h
                            exact ⟨Nat.le_refl _, Nat.le_refl _⟩
                          · split at h
                            · exact zmono _ _ _ _ _ _ _ _ h
                            · cases h
                        obtain ⟨t', hst', oc, L, mc, ms, w1, w2, ⟨a, cell, w3, w3a, w3b, w3c⟩, w4, w5, w6, w7, w8, w9, w10⟩ := zcall_in (o1 := .inr x) hgood F hl.1 hd hm hc2 hc3 hP hS hT Y₁ hmk hcc hss hmo (by omega) (by omega) (ih _ _ _ _ _ _ _ hcall)
                        subst w3
                        obtain ⟨T2, Y2, hW2, -, ht2⟩ := Y₁.outOfThrown (g := F0 m pc ls ((st.drop c0).map (ztr (zad gad base)))) rfl w2 w5 w6
                        have hheap : t'.heap = T2.heap := by rw [ht2]; simp [State.setTop, State.modifyTopJava, State.pushFrame, State.setFrames]
                        have hvm : t'.vm = T2.vm := by rw [ht2]; simp [State.setTop, State.modifyTopJava, State.pushFrame, State.setFrames]
                        have hhs : ((T.setVm vm₁).calling (F0 m pc ls ((st.drop c0).map (ztr (zad gad base)))) mk ((st.take c0).reverse.map (ztr (zad gad base))).toArray).heap = H := hT
                        have hS2 : va_S (fun q => base ≤ q) s.heap T2.heap (locs ++ L) := by
                          refine ⟨?_, fun q h1 h2 => ?_, fun q hq => ?_⟩
                          · have := w10.1
                            rw [hhs, hheap] at this
                            exact Nat.le_trans hS.1 this
                          · have h3 := w10.2 q (by rw [hhs]; exact Nat.lt_of_lt_of_le h1 hS.1) h2
                            rw [hhs, hheap] at h3
                            rw [h3]
                            exact hS.2.1 q h1 h2
                          · rcases List.mem_append.mp hq with h3 | h3
                            · exact hS.2.2 q h3
                            · exact w7 q h3
                        have hP2 : va_P D (zcl t) (zw base (zad gad base) aC X1.1) T2.heap := by rw [← hheap]; exact w4.2.1
                        split at h
                        · rename_i hnone
                          cases h
                          have hs0 := hno mi pc x hnone
                          rw [hs0] at htab
                          have htab0 : c.exceptionTable.toList = [] := List.map_eq_nil_iff.mp htab
                          obtain ⟨v1, v2, v3, v4, v5⟩ := Y2.leaveThrown a (g := F0 m pc ls ((st.drop c0).map (ztr (zad gad base)))) rfl rfl rfl (by rw [htab0]; intro x hx; cases hx) hlocks
                          refine ⟨T2.setFrames (.throwing a :: below), hstep _ fun acts => (hst' acts).trans (by rw [ht2]; exact v1), .threw a, locs ++ L, cells + mc, slots + ms, v2, v3, ⟨a, cell, rfl, ?_, w3b, ?_⟩, zIs_end hU hP2 hS2 hbs ?_ rfl v4, v4, v5, hS2.2.2, by omega, by omega, hS2.F rfl⟩
                          · show T2.heap[a]? = some cell
                            rw [← hheap]
                            exact w3a
                          · show T2.vm.findClass (zxn t x) = some cell.cls
                            rw [← hvm]
                            exact w3c
                          · have := Y2.heapSize
                            omega
                        · split at h
                          · rename_i q hq
                            obtain ⟨hpc, hk⟩ := q
                            obtain ⟨h0, hh0, hk3, hcase⟩ := zhd_spec hq
                            have hh := hcat p e R s m args below meth c T2 (locs ++ L) (cells + mc) (slots + ms) ls nc0 mi pc x h0 ((st.drop c0).map (ztr (zad gad base))) a cell F Y2 (by rw [← hheap]; exact w3a) w3b (by rw [← hvm]; exact w3c) hh0 (by rw [hq]; intro hx; cases hx)
                            obtain ⟨vm₃, Y3, st3⟩ := hh
                            have W3 : W p l e R s m args below meth c T2.heap (locs ++ L) (cells + mc) (slots + ms) (zQ t D aC gad base G below s nc0 ns0 o X') (F0 m h0 ls [.ref a]) := by
                              rcases hcase with ⟨k4, ⟨a4, b4, c4, v4⟩, hk1, hk2, rfl⟩ | ⟨⟨a4, b4, c4, v4⟩, hk1, rfl⟩
                              · obtain ⟨⟨len4, hd4, hlen4⟩, -⟩ := hins mi hpc _ a4 b4 c4 v4 hk1
                                have e4 : len4 = 1 := by simpa [zlk] using hlen4
                                subst e4
                                exact lv_astore_n hexec hcode hd4 hk2 hl hk3 rfl fun ls' hl' => ih _ _ _ _ _ _ _ h p e R s m args below meth c T2.heap (locs ++ L) (cells + mc) (slots + ms) ls' nc0 ns0 F
                                  ⟨hl'.1, hl'.2.1, fun q hq => hl'.2.2 q (List.mem_cons_of_mem _ (by rw [zf1_tr]; exact hq))⟩ hP2 hS2 (by omega) (by omega) hR1 hR2
                              · obtain ⟨⟨len4, hd4, hlen4⟩, -⟩ := hins mi h0 _ a4 b4 c4 v4 hk1
                                have e4 : len4 = 2 := by simpa [zlk] using hlen4
                                subst e4
                                exact lv_astore hexec hcode hd4 hl hk3 rfl fun ls' hl' => ih _ _ _ _ _ _ _ h p e R s m args below meth c T2.heap (locs ++ L) (cells + mc) (slots + ms) ls' nc0 ns0 F
                                  ⟨hl'.1, hl'.2.1, fun q hq => hl'.2.2 q (List.mem_cons_of_mem _ (by rw [zf1_tr]; exact hq))⟩ hP2 hS2 (by omega) (by omega) hR1 hR2
                            obtain ⟨t5, st5, q5⟩ := W3 (T2.setVm vm₃) rfl Y3
                            exact ⟨t5, hstep _ fun acts => (hst' acts).trans (by rw [ht2]; exact st3 _ st5), q5⟩
                          · cases h
                      · cases h
                    · cases h
                · cases h
end zS
end
section
/-! Throws: an exception made with a message and thrown at once. -/
theorem znil_eq {s u : State} {k n : Nat} (h : s.sameButNew u [] k n) {q : Nat} {cell : Cell} (hq : s.heap[q]? = some cell) : u.heap[q]? = some cell := by
  obtain ⟨-, -, -, -, -, h6⟩ := h
  obtain ⟨c', h1, h2, h3, h4⟩ := h6 q cell hq
  have e1 : c'.slots = cell.slots := by
    apply Array.ext_getElem?
    intro i
    exact h4 i (fun hm => by cases hm)
  rw [h1, h2, e1]
section zT1
variable {p : Program} {l : Launch} {e : Env} {R : Room} {s : State} {m : MethodId} {args : Array Value} {below : List Frame} {meth : Method} {c : Code} {T : State} {locs : List Loc} {cells slots : Nat}
/-- the same walk, told from here on -/
theorem zrebase (X : Stand p l e R s m args below meth c T locs cells slots) (hc : cells ≤ R.cells) (hs : slots ≤ R.slots) :
    Stand p l e { frames := R.frames, cells := R.cells - cells, slots := R.slots - slots, locals := R.locals } { s with heap := T.heap, slotsUsed := T.slotsUsed } m args below meth c T [] 0 0 := by
  have hroom := X.room
  have h1 := X.heapSize
  have h2 := X.used
  have hdr : T.heap.toList.drop T.heap.size = [] := List.drop_eq_nil_of_le (by simp)
  refine ⟨X.admits, X.cas, X.clock, X.frames, ?_, X.hears, X.method, X.code, X.here, X.tail, X.warmed, X.limits, X.bytes, ?_⟩
  · simp only [State.hasRoom, Bool.and_eq_true, decide_eq_true_eq] at hroom ⊢
    obtain ⟨⟨⟨⟨r1, r2⟩, r3⟩, r4⟩, r5⟩ := hroom
    refine ⟨⟨⟨⟨r1, r2⟩, ?_⟩, ?_⟩, X.book⟩
    · show T.heap.size + (R.cells - cells) ≤ _
      omega
    · show T.slotsUsed + (R.slots - slots) ≤ _
      omega
  · refine ⟨X.same.1, Nat.le_refl _, Nat.le_refl _, ?_, ?_, fun a c h => ⟨c, h, rfl, rfl, fun _ _ => rfl⟩⟩
    · show T.slotsUsed = T.slotsUsed + ((T.heap.toList.drop T.heap.size).map (·.slots.size)).sum
      rw [hdr]
      rfl
    · show ((T.heap.toList.drop T.heap.size).map (·.slots.size)).sum ≤ 0
      rw [hdr]
      exact Nat.le_refl _
end zT1
theorem zTh_lays {base : Nat} {U : State} {args : Array Value} (h : zTh base U) {q : String × String} (hq : q ∈ ([("UNASSIGNED_STACK", Bundle.steD), ("SUPPRESSED_SENTINEL", Bundle.listD)] : List (String × String))) : (Jvm.Cond.laysStatic Bundle.tN q.1 q.2).before args U = true := by
  obtain ⟨c, k, i, f, a, cell, v, h1, h2, h3, h4, h5, h6, h7, h8, h9, h10, h11, h12⟩ := h q hq
  simp [Jvm.Cond.before, Jvm.Cond.holds, Jvm.Cond.value, h1, h2, h3, h4, h5, h6, h7, h8, h9]
theorem zTh_ref {base : Nat} {U : State} {args : Array Value} (h : zTh base U) {q : String × String} (hq : q ∈ ([("UNASSIGNED_STACK", Bundle.steD), ("SUPPRESSED_SENTINEL", Bundle.listD)] : List (String × String))) : (Jvm.Cond.isRef (.static Bundle.tN q.1 q.2)).before args U = true := by
  obtain ⟨c, k, i, f, a, cell, v, h1, h2, h3, h4, h5, h6, h7, h8, h9, h10, h11, h12⟩ := h q hq
  have hv : (Term.static Bundle.tN q.1 q.2).eval args U none [] U = some v := by
    simp [Term.eval, State.fieldNamed?, h2, h3, h4, h5, h6, h10]
  simp only [Jvm.Cond.before, Jvm.Cond.holds, Jvm.Cond.value, hv]
  cases v <;> simp_all [Value.isRef]
def zxs : List String := ["java/lang/RuntimeException", "java/lang/Exception"]
/-- what the tables must say where an exception is thrown -/
def zokT (t : zT) (mi pc a : Nat) (i : Instr) : Prop := ∃ k ic, i = .new k ∧ (∃ r, zcd t mi (pc + 6) = some (.invokespecial ic, r)) ∧ Jvm.Cond.classLink (zmt t mi).cls k (zxn t a) ∈ zWS t ∧ Jvm.Cond.instantiable (zxn t a) 6 ∈ zWS t ∧ Jvm.Cond.initialized (zxn t a) ∈ zWS t ∧ Bundle.fit (zxn t a) = true ∧
  (∀ w ∈ Bundle.ownAtoms (zmt t mi).cls ic (zxn t a) zxs, w ∈ zWS t ∨ w = .laysStatic Bundle.tN "UNASSIGNED_STACK" Bundle.steD ∨ w = .laysStatic Bundle.tN "SUPPRESSED_SENTINEL" Bundle.listD ∨ w = .isRef (.static Bundle.tN "UNASSIGNED_STACK" Bundle.steD) ∨ w = .isRef (.static Bundle.tN "SUPPRESSED_SENTINEL" Bundle.listD)) ∧
  zhs t mi = [] ∧ 6 ≤ zfr t mi ∧ 90 ≤ zlo t mi
theorem zthr_spec {cd : Nat → Nat → Option zI} {mi pc x : Nat} (h : zthr cd mi pc x = true) : (∃ r, cd mi (pc + 3) = some (.dup, r)) ∧ (∃ k a b c g, cd mi (pc + 4) = some (.ldc k, a, b, c, .ref g)) ∧ (∃ ic r, cd mi (pc + 6) = some (.invokespecial ic, r)) ∧ ∃ r, cd mi (pc + 9) = some (.athrow, r) := by
  unfold zthr at h
  split at h
  · rename_i h1 h2 h3 h4
    exact ⟨⟨_, h1⟩, ⟨_, _, _, _, _, h2⟩, ⟨_, _, h3⟩, ⟨_, h4⟩⟩
  · cases h
section zT2
variable {t : zT} {D : va_G} {aC : Nat → ClassId} {gad : Nat → Nat} {base : Nat} {G : List zE}
set_option maxHeartbeats 4000000 in
theorem zthrows_of {l : Launch} (hfl : l.flags = pinnedFlags ++ [noTraceFlag]) (hST : zST t) (hT : ∀ mi pc i a b c v, zcd t mi pc = some (i, a, b, c, v) → zki i = 1 → 100 ≤ a → zokT t mi pc a i) : zThrows t D aC gad base G l := by
  intro p e R s m args below meth c H locs cells slots ls nc0 ns0 mi pc a lv st X i b c0 v F hl hP hS hcc hss hR1 hR2 hcd hki ha hthr hst
  obtain ⟨hexec, hcode, hnl, hret, hlocks, hown, hname, htab, hts, hfr, hlo, hU, hbs, hsz⟩ := F
  obtain ⟨hgood, hcq, h99, hins⟩ := hST
  obtain ⟨k, ic, rfl, ⟨r6, h6⟩, k1, k2, k3, k4, k5, k6, k7, k8⟩ := hT mi pc i a b c0 v hcd hki ha
  obtain ⟨⟨r3, h3⟩, ⟨z4, a4, b4, c4, g4, h4⟩, ⟨ic', r6', h6'⟩, ⟨r9, h9⟩⟩ := zthr_spec hthr
  cases h6.symm.trans h6'
  obtain ⟨⟨n0, d0, l0⟩, -⟩ := hins _ _ _ _ _ _ _ hcd
  obtain ⟨⟨n3, d3, l3⟩, -⟩ := hins _ _ _ r3.1 r3.2.1 r3.2.2.1 r3.2.2.2 h3
  obtain ⟨⟨n4, d4, l4⟩, -, -, o4, -⟩ := hins _ _ _ _ _ _ _ h4
  obtain ⟨⟨n6, d6, l6⟩, -⟩ := hins _ _ _ r6.1 r6.2.1 r6.2.2.1 r6.2.2.2 h6
  obtain ⟨⟨n9, d9, l9⟩, -⟩ := hins _ _ _ r9.1 r9.2.1 r9.2.2.1 r9.2.2.2 h9
  have e0 : n0 = 3 := by simpa [zlk] using l0
  have e3 : n3 = 1 := by simpa [zlk] using l3
  have e4 : n4 = 2 := by simpa [zlk] using l4
  have e6 : n6 = 3 := by simpa [zlk] using l6
  have e9 : n9 = 1 := by simpa [zlk] using l9
  subst e0; subst e3; subst e4; subst e6; subst e9
  rw [k6] at htab
  have htab0 : c.exceptionTable.toList = [] := List.map_eq_nil_iff.mp htab
  intro T hT0 Y
  have hz : H.size ≤ base + X.2.1 := by
    have := Y.heapSize
    rw [hT0] at this
    omega
  have Y1 := zrebase Y (by omega) (by omega)
  have htr : e.platform.stackTraces = false := Launch.traces_off hfl Y.admits
  generalize hs1 : ({ s with heap := T.heap, slotsUsed := T.slotsUsed } : State) = s1 at Y1
  have hvm1 : s1.vm = s.vm := by rw [← hs1]
  have hheap1 : s1.heap = H := by rw [← hs1]; exact hT0
  have hWr : s.WarmedH s1.vm := by rw [hvm1]; exact State.WarmedH.refl s
  have hts1 : ∀ w ∈ zWS t, w.before args s1 = true := fun w hw => hgood w hw _ _ _ _ hWr (hts w hw)
  have hown1 : s1.vm.findClass (zmt t mi).cls = some m.cls := by rw [hvm1]; exact hown
  have hU1 : zU t D aC gad base G s1 := zU_move hU hWr (fun a h1 h2 => by rw [hheap1]; exact hS.2.1 a h1 h2)
  have hat : ∀ w ∈ Bundle.ownAtoms (zmt t mi).cls ic (zxn t a) zxs, w.before args s1 = true := by
    intro w hw
    rcases k5 w hw with h | h | h | h | h
    · exact hts1 w h
    · rw [h]; exact zTh_lays hU1.2.2.2.2.1 (q := ("UNASSIGNED_STACK", Bundle.steD)) (by simp)
    · rw [h]; exact zTh_lays hU1.2.2.2.2.1 (q := ("SUPPRESSED_SENTINEL", Bundle.listD)) (by simp)
    · rw [h]; exact zTh_ref hU1.2.2.2.2.1 (q := ("UNASSIGNED_STACK", Bundle.steD)) (by simp)
    · rw [h]; exact zTh_ref hU1.2.2.2.2.1 (q := ("SUPPRESSED_SENTINEL", Bundle.listD)) (by simp)
  have hWk : W p l e { frames := R.frames, cells := R.cells - cells, slots := R.slots - slots, locals := R.locals } s1 m args below meth c H [] 0 0
      (fun U => U.status = .running ∧ Ended U below (.threw H.size) ∧ s1.WarmedH U.vm ∧ s1.sameButNew ({ U with vm := s1.vm } : State) [] 1 6 ∧ ∃ ce : Cell, U.heap[H.size]? = some ce ∧ ce.vm = .none ∧ s1.vm.findClass (zxn t a) = some ce.cls) (F0 m pc ls (st.map (ztr (zad gad base)))) := by
    refine W.newc hexec hcode hown1 (hts1 _ k1) (hts1 _ k2) (hts1 _ k3) (g := F0 m pc ls (st.map (ztr (zad gad base)))) rfl d0 (by show 0 + 1 ≤ R.cells - cells; omega) (by show 0 + 6 ≤ R.slots - slots; omega) fun cC kC w1 w2 w3 w4 => ?_
    refine lv_dup hexec hcode d3 rfl ?_
    obtain ⟨tx, htx⟩ := o4
    refine va_ldcS hexec hcode hown1 (hU1.2.2.2.1 _ htx) d4 ?_
    intro T6 hT6 Y6
    obtain ⟨U, u1, u2, u3, u4, u5, ce, u6, u7⟩ := Y6.ctorThrowS hexec htr hown1 k4 (by decide +kernel) hat (fun x hx => by cases hx) w1 w2 (a := H.size) (by rw [hT6]; simp) (by rw [hheap1]; exact Nat.le_refl _) (msg := .ref (zad gad base g4)) rfl
      (g := F0 m (pc + 6) ls (.ref (zad gad base g4) :: .ref H.size :: .ref H.size :: st.map (ztr (zad gad base)))) rfl (by show ls.size = c.maxLocals; rw [hl.1, hnl]) rfl rfl rfl (by rw [hcode]; exact d6) (by rw [hcode]; exact d9) (by rw [htab0]; intro x hx; cases hx)
      (by show zxs.length + 3 < R.frames; have : zxs.length = 2 := rfl; omega)
      (by
        have hc9 : (((Value.ref H.size :: st.map (ztr (zad gad base))).map fun v => v.category)).sum ≤ 5 := by
          have := zcat_tr (zad gad base) st
          simp only [List.map_cons, List.sum_cons, Value.category] at this ⊢
          omega
        have hm9 := lv_room (m := m) (pc := pc + 6) (ls := ls) (rest := (.ref (zad gad base g4) :: .ref H.size :: .ref H.size :: st.map (ztr (zad gad base)))) (st := (Value.ref H.size :: st.map (ztr (zad gad base)))) (by omega)
        have hx2 : zxs.length = 2 := rfl
        show 2 * (F0 m (pc + 6) ls (.ref (zad gad base g4) :: .ref H.size :: .ref H.size :: st.map (ztr (zad gad base)))).monitorRoom + ((Value.ref H.size :: st.map (ztr (zad gad base))).map fun v => v.category).sum + (13 * (zxs.length + 1) + 42) ≤ R.locals
        rw [hx2]
        omega) hlocks
    exact ⟨U, u1, u2, u3, u4, (by simpa using u5), ce, u6, u7.vm, u7.cls⟩
  obtain ⟨U, st9, v1, v2, v3, v4, ce, v5, v6, v7⟩ := hWk T hT0 Y1
  have hkeep : ∀ q : Nat, q < H.size → U.heap[q]? = H[q]? := by
    intro q hq
    have h1 : s1.heap[q]? = some H[q] := by rw [hheap1]; exact Array.getElem?_eq_getElem hq
    have h2 := znil_eq v4 h1
    rw [show U.heap[q]? = some H[q] from h2]
    exact (Array.getElem?_eq_getElem hq).symm
  have hsz1 : H.size ≤ U.heap.size := by
    have := v4.2.1
    rw [hheap1] at this
    exact this
  have hsz2 : U.heap.size ≤ H.size + 1 := by
    have := v4.2.2.1
    rw [hheap1] at this
    exact this
  have hWU : s.WarmedH U.vm := by
    rw [← hs1] at v3
    exact v3
  have hSU : va_S (fun q => base ≤ q) s.heap U.heap locs := ⟨Nat.le_trans hS.1 hsz1, fun q h1 h2 => by rw [hkeep q (Nat.lt_of_lt_of_le h1 hS.1)]; exact hS.2.1 q h1 h2, hS.2.2⟩
  have hPU : va_P D (zcl t) (zw base (zad gad base) aC X.1) U.heap := hP.kept fun k q hq => hkeep _ ((hP k q hq).lt)
  refine ⟨U, st9, .threw H.size, locs, cells + 1, slots + 6, v1, v2, ⟨H.size, ce, rfl, v5, v6, ?_⟩, zIs_end hU hPU hSU hbs (by show U.heap.size ≤ base + (X.2.1 + 1); omega) rfl hWU, hWU, ?_, hS.2.2, by show cells + 1 + nc0 = X.2.1 + 1; omega, by show slots + 6 + ns0 = X.2.2 + 6; omega, hSU.F rfl⟩
  · rw [hWU.alike.findClass]
    rw [hvm1] at v7
    exact v7
  · have w1 := Y.same
    have w2 : (T.setVm s.vm).sameButNew ({ U with vm := s.vm } : State) [] 1 6 := by
      obtain ⟨x1, x2, x3, x4, x5, x6⟩ := v4
      rw [← hs1] at x1 x2 x3 x4 x5 x6
      refine ⟨?_, x2, x3, x4, x5, x6⟩
      have y1 := w1.1
      have y3 : ∀ K, (T.setVm s.vm).setFrames K = ({ s with heap := T.heap, slotsUsed := T.slotsUsed } : State).setFrames K := by
        intro K
        have y4 : T.setVm s.vm = ({ s with heap := T.heap, slotsUsed := T.slotsUsed } : State).setFrames (T.setVm s.vm).frames := y1
        rw [y4, State.setFrames_setFrames]
      rw [y3]
      exact x1
    have w3 := w1.trans w2
    rw [List.append_nil] at w3
    exact w3
end zT2
end
section
/-! Catches, the catch type resolved or not. -/
section zK1
variable {Q : Handler → Pre} {E : CtlPost} {e : Env} {d : Bool} {acts : List Action} {s : State} {f : JFrame} {a : Addr}
theorem zgoY {x : ExceptionTableEntry} {t : List ExceptionTableEntry} {c : ClassId} {cell : Cell} (hx : covers x f.pc = true) (h0 : x.catchType ≠ 0) (hl : s.vm.ClassLinks e.platform f.method.cls x.catchType c) (hcell : s.heap[a]? = some cell) (hobj : ∀ k, cell.vm ≠ .statics k)
    (hk : ∃ k, s.vm.classes[cell.cls]? = some k) (hc : ∃ k, s.vm.classes[c]? = some k) (hfit : s.vm.assignable cell.cls c = true) :
    wp (findHandler.go f a (x :: t)) Q E e d acts s ↔ Q (.found x.handlerPc) d acts (s.setVm (s.vm.noted f.method.cls x.catchType (.cls c))) := by
  simp only [covers] at hx
  obtain ⟨ha, ht⟩ := (resolveClass_links e.toSetting hl).op (op := VmOp.resolveClass f.method.cls x.catchType) rfl
  have hal : s.vm.Alike (s.vm.noted f.method.cls x.catchType (.cls c)) := (Vm.Alike.refl s.vm).noted _ _ _
  obtain ⟨k1, hk1⟩ := hk
  obtain ⟨k2, hk2⟩ := hc
  obtain ⟨k1', hk1', -⟩ := hal.2.2 _ _ hk1
  obtain ⟨k2', hk2', -⟩ := hal.2.2 _ _ hk2
  have hfit' : (s.vm.noted f.method.cls x.catchType (.cls c)).assignable cell.cls c = true := by rw [hal.assignable]; exact hfit
  simp [findHandler.go, hx, h0, ha, ht, hcell, hobj, hk1', hk2', hfit', VmOp.dirties, VmOp.acts]
theorem zgoN {x : ExceptionTableEntry} {t : List ExceptionTableEntry} {c : ClassId} {cell : Cell} (hx : covers x f.pc = true) (h0 : x.catchType ≠ 0) (hl : s.vm.ClassLinks e.platform f.method.cls x.catchType c) (hcell : s.heap[a]? = some cell) (hobj : ∀ k, cell.vm ≠ .statics k)
    (hk : ∃ k, s.vm.classes[cell.cls]? = some k) (hc : ∃ k, s.vm.classes[c]? = some k) (hfit : s.vm.assignable cell.cls c = false) :
    wp (findHandler.go f a (x :: t)) Q E e d acts s ↔ wp (findHandler.go f a t) Q E e d acts (s.setVm (s.vm.noted f.method.cls x.catchType (.cls c))) := by
  simp only [covers] at hx
  obtain ⟨ha, ht⟩ := (resolveClass_links e.toSetting hl).op (op := VmOp.resolveClass f.method.cls x.catchType) rfl
  have hal : s.vm.Alike (s.vm.noted f.method.cls x.catchType (.cls c)) := (Vm.Alike.refl s.vm).noted _ _ _
  obtain ⟨k1, hk1⟩ := hk
  obtain ⟨k2, hk2⟩ := hc
  obtain ⟨k1', hk1', -⟩ := hal.2.2 _ _ hk1
  obtain ⟨k2', hk2', -⟩ := hal.2.2 _ _ hk2
  have hfit' : (s.vm.noted f.method.cls x.catchType (.cls c)).assignable cell.cls c = false := by rw [hal.assignable]; exact hfit
  simp [findHandler.go, hx, h0, ha, ht, hcell, hobj, hk1', hk2', hfit', VmOp.dirties, VmOp.acts]
end zK1
theorem zcaught {tb : Tables} {e : Env} {s target : State} {g : JFrame} {c : Code} {below : List Frame} {a : Addr} (h : At s g.method c below) {pc : Nat} {vm' : Vm}
    (hfind : ∀ (Q : Handler → Pre) (E : CtlPost) (d : Bool) (acts : List Action), wp (findHandler g a) Q E e d acts ((s.setTop g).pushFrame (.throwing a)) ↔ Q (.found pc) d acts (((s.setTop g).pushFrame (.throwing a)).setVm vm'))
    (hrest : Steps tb e below ((s.setVm vm').setTop { g with pc := pc, stack := [.ref a] }) target) :
    Steps tb e below ((s.setTop g).pushFrame (.throwing a)) target := by
  have hstep : (stepThrowing e ((s.setTop g).pushFrame (.throwing a)) a (.java g :: s.frames.tail)).Is ((((s.setTop g).pushFrame (.throwing a)).setVm vm').setFrames (.java { g with pc := pc, stack := [.ref a] } :: s.frames.tail)) [] := by
    simp only [stepThrowing, searchFrame, vmDo]
    generalize hr : Sem.go _ e false [] ((s.setTop g).pushFrame (.throwing a)) = res
    obtain ⟨as, rfl, ha⟩ := Sem.eq_ok_of hr (a := Handler.found pc) (s' := ((s.setTop g).pushFrame (.throwing a)).setVm vm') (acts' := []) (by simp [hfind _ _ _ _])
    exact ⟨rfl, ha⟩
  obtain ⟨hgo, hw⟩ := h.throwing a
  refine Steps.head hgo hw ?_
  rw [stepThread_throwing (frames_entered h.top _), hstep.1]
  obtain ⟨g₀, hg⟩ := Option.isSome_iff_exists.mp h.top
  obtain ⟨r, hr⟩ := State.topJava?_eq_some.mp hg
  have hr' : (s.setVm vm').frames = .java g₀ :: r := hr
  rw [State.setTop_of_frames _ hr'] at hrest
  have hf : ∀ (u : State) (F K : List Frame), ((u.setFrames F).setVm vm').setFrames K = (u.setVm vm').setFrames K := by
    intro u F K
    have h1 : (u.setFrames F).setVm vm' = (u.setVm vm').setFrames F := rfl
    rw [h1, State.setFrames_setFrames]
  rw [hr, List.tail_cons, State.pushFrame, hf, State.setTop_of_frames _ hr, hf]
  exact hrest
/-- what the tables must say where an exception is caught -/
def zokC (t : zT) (mi pc x h : Nat) : Prop :=
  (∃ s0 e0 ct rest C, zhs t mi = (s0, e0, h, ct) :: rest ∧ s0 ≤ pc ∧ pc < e0 ∧ ct ≠ 0 ∧ Jvm.Cond.classLink (zmt t mi).cls ct C ∈ zWS t ∧ Jvm.Cond.castable (zxn t x) C ∈ zWS t) ∨
  (∃ s0 e0 h0 ct0 C0 s1 e1 ct1 rest C1, zhs t mi = (s0, e0, h0, ct0) :: (s1, e1, h, ct1) :: rest ∧ s0 ≤ pc ∧ pc < e0 ∧ s1 ≤ pc ∧ pc < e1 ∧ ct0 ≠ 0 ∧ ct1 ≠ 0 ∧ Jvm.Cond.classLink (zmt t mi).cls ct0 C0 ∈ zWS t ∧ (zxn t x, C0) ∈ znc ∧
    Jvm.Cond.classLink (zmt t mi).cls ct1 C1 ∈ zWS t ∧ Jvm.Cond.castable (zxn t x) C1 ∈ zWS t)
section zK2
variable {t : zT} {D : va_G} {aC : Nat → ClassId} {gad : Nat → Nat} {base : Nat} {G : List zE}
set_option maxHeartbeats 4000000 in
theorem zcatches_of {l : Launch} (hC : ∀ mi pc x h, zhn t mi pc x = some h → ¬ zhd (zcd t) (zhn t) (znl t mi) mi pc x = none → zokC t mi pc x h) : zCatches t D aC gad base G l := by
  intro p e R s m args below meth c T locs cells slots ls nc0 mi pc x h st a cell F Y hcell hvm hcls hh0 hq
  obtain ⟨hexec, hcode, hnl, hret, hlocks, hown, hname, htab, hts, hfr, hlo, hU, hbs, hsz⟩ := F
  have hpl : e.platform.magicAccessors = ({} : Platform).magicAccessors := by rw [Y.admits.platform]
  have hal := Y.warmed.alike
  have hclsS : s.vm.findClass (zxn t x) = some cell.cls := by rw [← hal.findClass]; exact hcls
  have hobj : ∀ k, cell.vm ≠ .statics k := fun k hk => by rw [hvm] at hk; cases hk
  rcases hC mi pc x h hh0 hq with ⟨s0, e0, ct, rest, C, hz, c1, c2, c3, c4, c5⟩ | ⟨s0, e0, h0, ct0, C0, s1, e1, ct1, rest, C1, hz, c1, c2, c3, c4, c5, c6, c7, c8, c9, c10⟩
  · rw [hz] at htab
    obtain ⟨y, ys, hy, hy1, hy2⟩ := List.map_eq_cons_iff.mp htab
    cases hy1
    obtain ⟨cT, hcT, hcl⟩ := Jvm.Cond.classLink_spec hown (hts _ c4) e.platform hpl
    obtain ⟨cA, cB, hcA, hcB, hasg⟩ := Jvm.Cond.castable_spec (hts _ c5)
    cases hclsS.symm.trans hcA
    cases hcT.symm.trans hcB
    obtain ⟨dk, _, _, kt, hd, _, _, _, _, hkt, _, hopen⟩ := hcl.here
    have hcl₀ := Y.warmed.classLinks hcl
    have hW' : s.WarmedH (T.vm.noted m.cls y.catchType (.cls cT)) := Y.warmed.noted hd hopen (State.rightAt_cls hcl)
    obtain ⟨kt', hkt', -⟩ := hal.2.2 _ _ hkt
    have hfit' : T.vm.assignable cell.cls cT = true := by rw [hal.assignable]; exact hasg
    refine ⟨_, Y.noted hW', fun target hrest => ?_⟩
    refine zcaught (g := F0 m pc ls st) Y.here (pc := y.handlerPc) (vm' := T.vm.noted m.cls y.catchType (.cls cT)) ?_ hrest
    intro Q E d acts
    rw [W.findHandler_eq (s := (T.setTop (F0 m pc ls st)).pushFrame (.throwing a)) (f := F0 m pc ls st) Y.method' Y.code, hy]
    exact zgoY (s := (T.setTop (F0 m pc ls st)).pushFrame (.throwing a)) (f := F0 m pc ls st) (by simp [covers, c1, c2]) c3 hcl₀ hcell hobj (Vm.classAt_of_assignable hfit' ⟨kt', hkt'⟩) ⟨kt', hkt'⟩ hfit'
  · rw [hz] at htab
    obtain ⟨y0, ys0, hy0, hy1, hy2⟩ := List.map_eq_cons_iff.mp htab
    cases hy1
    obtain ⟨y1, ys1, hy3, hy4, hy5⟩ := List.map_eq_cons_iff.mp hy2
    cases hy4
    subst hy3
    obtain ⟨cT0, hcT0, hcl0⟩ := Jvm.Cond.classLink_spec hown (hts _ c7) e.platform hpl
    obtain ⟨cT1, hcT1, hcl1⟩ := Jvm.Cond.classLink_spec hown (hts _ c9) e.platform hpl
    obtain ⟨cA, cB, hcA, hcB, hasg⟩ := Jvm.Cond.castable_spec (hts _ c10)
    cases hclsS.symm.trans hcA
    cases hcT1.symm.trans hcB
    obtain ⟨cN, cM, hcN, hcM, hno⟩ := hU.2.2.2.2.2 _ c8
    cases hclsS.symm.trans hcN
    cases hcT0.symm.trans hcM
    obtain ⟨dk0, _, _, kt0, hd0, _, _, _, _, hkt0, _, hopen0⟩ := hcl0.here
    obtain ⟨dk1, _, _, kt1, hd1, _, _, _, _, hkt1, _, hopen1⟩ := hcl1.here
    have hclA := Y.warmed.classLinks hcl0
    have hW1 : s.WarmedH (T.vm.noted m.cls y0.catchType (.cls cT0)) := Y.warmed.noted hd0 hopen0 (State.rightAt_cls hcl0)
    have Y1 := Y.noted hW1
    have hclB := Y1.warmed.classLinks hcl1
    have hW2 : s.WarmedH ((T.vm.noted m.cls y0.catchType (.cls cT0)).noted m.cls y1.catchType (.cls cT1)) := Y1.warmed.noted hd1 hopen1 (State.rightAt_cls hcl1)
    obtain ⟨kt0', hkt0', -⟩ := hal.2.2 _ _ hkt0
    obtain ⟨kt1', hkt1', -⟩ := hal.2.2 _ _ hkt1
    obtain ⟨kt1'', hkt1'', -⟩ := hW1.alike.2.2 _ _ hkt1
    have hfitT : T.vm.assignable cell.cls cT1 = true := by rw [hal.assignable]; exact hasg
    have hfit1 : (T.vm.noted m.cls y0.catchType (.cls cT0)).assignable cell.cls cT1 = true := by rw [hW1.alike.assignable]; exact hasg
    have hnoT : T.vm.assignable cell.cls cT0 = false := by rw [hal.assignable]; exact hno
    refine ⟨_, Y.noted hW2, fun target hrest => ?_⟩
    refine zcaught (g := F0 m pc ls st) Y.here (pc := y1.handlerPc) (vm' := (T.vm.noted m.cls y0.catchType (.cls cT0)).noted m.cls y1.catchType (.cls cT1)) ?_ hrest
    intro Q E d acts
    rw [W.findHandler_eq (s := (T.setTop (F0 m pc ls st)).pushFrame (.throwing a)) (f := F0 m pc ls st) Y.method' Y.code, hy0]
    rw [zgoN (s := (T.setTop (F0 m pc ls st)).pushFrame (.throwing a)) (f := F0 m pc ls st) (by simp [covers, c1, c2]) c5 hclA hcell hobj (Vm.classAt_of_assignable hfitT ⟨kt1', hkt1'⟩) ⟨kt0', hkt0'⟩ hnoT]
    exact zgoY (s := ((T.setTop (F0 m pc ls st)).pushFrame (.throwing a)).setVm (T.vm.noted m.cls y0.catchType (.cls cT0))) (f := F0 m pc ls st) (by simp [covers, c3, c4]) c6 hclB hcell hobj (Vm.classAt_of_assignable hfit1 ⟨kt1'', hkt1''⟩) ⟨kt1'', hkt1''⟩ hfit1
end zK2
end
section
/-! Above the machine: what a run of the interpreter comes to. -/
section zW1
variable {cd : Nat → Nat → Option zI} {nl : Nat → Nat} {df : Nat → List Value} {hn : Nat → Nat → Nat → Option Nat} {G : List zE}
theorem zev_succ : ∀ (n mi pc : Nat) (lv : zL) (st : List Value) (X : zX) (r : zO × zX), zev cd nl df hn G n mi pc lv st X = some r → zev cd nl df hn G (n + 1) mi pc lv st X = some r := by
  intro n
  induction n with
  | zero => intro mi pc lv st X r h; simp [zev] at h
  | succ n ih =>
    intro mi pc lv st X r h
    rw [zev] at h
    rw [zev]
    split at h
    · cases h
    · rename_i i a b c v hcd
      try simp only [hcd]
      split at h
      · rename_i q hq
        try simp only [hq]
        exact ih _ _ _ _ _ _ h
      · rename_i hq
        try simp only [hq]
        split at h
        · rename_i q hq2
          try simp only [hq2]
          exact ih _ _ _ _ _ _ h
        · rename_i hq2
          try simp only [hq2]
          split at h
          · rename_i q hq3
            try simp only [hq3]
            exact ih _ _ _ _ _ _ h
          · rename_i hq3
            try simp only [hq3]
            split at h
            · rename_i r2 hq4
              try simp only [hq4]
              exact h
            · rename_i hq4
              try simp only [hq4]
              split at h
              · rename_i hk
                rw [if_pos hk]
                exact h
              · rename_i hk
                rw [if_neg hk]
                split at h
                · rename_i hk2
                  rw [if_pos hk2]
                  split at h
                  · rename_i ha
                    rw [if_pos ha]
                    split at h
                    · rename_i q hz
                      try simp only [hz]
                      split at h
                      · rename_i h8
                        rw [if_pos h8]
                        exact ih _ _ _ _ _ _ h
                      · cases h
                    · cases h
                  · rename_i ha
                    rw [if_neg ha]
                    split at h
                    · rename_i hc
                      rw [if_pos hc]
                      split at h
                      · rename_i r2 X2 hz
                        rw [ih _ _ _ _ _ _ hz]
                        exact ih _ _ _ _ _ _ h
                      · rename_i x X2 hz
                        rw [ih _ _ _ _ _ _ hz]
                        dsimp only
                        split at h
                        · rename_i hh
                          try simp only [hh]
                          exact h
                        · rename_i y hh
                          try simp only [hh]
                          split at h
                          · rename_i q hq
                            try simp only [hq]
                            exact ih _ _ _ _ _ _ h
                          · cases h
                      · cases h
                    · cases h
                · cases h
theorem zev_le {n k mi pc : Nat} {lv : zL} {st : List Value} {X : zX} {r : zO × zX} (hk : n ≤ k) (h : zev cd nl df hn G n mi pc lv st X = some r) : zev cd nl df hn G k mi pc lv st X = some r := by
  obtain ⟨d, rfl⟩ := Nat.exists_eq_add_of_le hk
  induction d with
  | zero => exact h
  | succ d ih => exact zev_succ _ _ _ _ _ _ _ (ih (by omega))
end zW1
def zwp (t : zT) (G : List zE) (mi pc : Nat) (lv : zL) (st : List Value) (X : zX) (Q : zO → zX → Prop) : Prop := ∃ (n : Nat) (o : zO) (X' : zX), zev (zcd t) (znl t) (zdf t) (zhn t) G n mi pc lv st X = some (o, X') ∧ Q o X'
/-- one instruction that is no call and no end -/
def zstp (t : zT) (G : List zE) (mi pc : Nat) (lv : zL) (st : List Value) (X : zX) : Option (Nat × zL × List Value × zX) := match zcd t mi pc with
  | none => none
  | some (i, a, b, c, v) => match za i v (znl t mi) pc lv st with
    | some q => some (q.1, q.2.1, q.2.2, X)
    | none => match zb G i a b st X with
      | some q => some (pc + q.1, lv, q.2, X)
      | none => match zc (zdf t) i a b c st X with
        | some q => some (pc + q.1, lv, q.2.1, q.2.2)
        | none => none
def zrun (t : zT) (G : List zE) (mi : Nat) : Nat → Nat × zL × List Value × zX → Option (Nat × zL × List Value × zX)
  | 0, s => some s
  | n + 1, s => match zstp t G mi s.1 s.2.1 s.2.2.1 s.2.2.2 with
    | none => none
    | some s' => zrun t G mi n s'
section zW2
variable {t : zT} {G : List zE} {mi pc : Nat} {lv : zL} {st : List Value} {X : zX} {Q Q' : zO → zX → Prop}
theorem zwp_mono (h : zwp t G mi pc lv st X Q) (hq : ∀ o X', Q o X' → Q' o X') : zwp t G mi pc lv st X Q' := by
  obtain ⟨n, o, X', h1, h2⟩ := h
  exact ⟨n, o, X', h1, hq o X' h2⟩
theorem zwp_s {s' : Nat × zL × List Value × zX} (h : zstp t G mi pc lv st X = some s') (k : zwp t G mi s'.1 s'.2.1 s'.2.2.1 s'.2.2.2 Q) : zwp t G mi pc lv st X Q := by
  obtain ⟨n, o, X', h1, h2⟩ := k
  refine ⟨n + 1, o, X', ?_, h2⟩
  unfold zstp at h
  rw [zev]
  split at h
  · cases h
  · rename_i i a b c v hcd
    try simp only [hcd]
    split at h
    · rename_i q hq
      cases h
      try simp only [hq]
      exact h1
    · rename_i hq
      try simp only [hq]
      split at h
      · rename_i q hq2
        cases h
        try simp only [hq2]
        exact h1
      · rename_i hq2
        try simp only [hq2]
        split at h
        · rename_i q hq3
          cases h
          try simp only [hq3]
          exact h1
        · cases h
theorem zwp_r {s s' : Nat × zL × List Value × zX} (n : Nat) (h : zrun t G mi n s = some s') (k : zwp t G mi s'.1 s'.2.1 s'.2.2.1 s'.2.2.2 Q) : zwp t G mi s.1 s.2.1 s.2.2.1 s.2.2.2 Q := by
  induction n generalizing s with
  | zero => cases h; exact k
  | succ n ih =>
    rw [zrun] at h
    split at h
    · cases h
    · rename_i s2 h2
      exact zwp_s h2 (ih h)
/-- an instruction that is none of the first three kinds -/
def zoff (t : zT) (G : List zE) (mi pc : Nat) (lv : zL) (st : List Value) (X : zX) (i : Instr) (a b c : Nat) (v : Value) : Prop := zcd t mi pc = some (i, a, b, c, v) ∧ za i v (znl t mi) pc lv st = none ∧ zb G i a b st X = none ∧ zc (zdf t) i a b c st X = none
theorem zwp_ret {i : Instr} {a b c : Nat} {v : Value} {r : Option Value} (h : zoff t G mi pc lv st X i a b c v) (hr : zret i a st = some r) (k : Q (.inl r) X) : zwp t G mi pc lv st X Q := by
  obtain ⟨h1, h2, h3, h4⟩ := h
  refine ⟨1, .inl r, X, ?_, k⟩
  rw [zev]
  simp only [h1, h2, h3, h4, hr]
theorem zwp_thr {i : Instr} {a b c : Nat} {v : Value} (h : zoff t G mi pc lv st X i a b c v) (hr : zret i a st = none) (hk : zki i = 1) (h5 : 100 ≤ a ∧ zthr (zcd t) mi pc a = true ∧ zcat st ≤ 4) (k : Q (.inr a) (X.1, X.2.1 + 1, X.2.2 + 6)) : zwp t G mi pc lv st X Q := by
  obtain ⟨h1, h2, h3, h4⟩ := h
  refine ⟨1, .inr a, (X.1, X.2.1 + 1, X.2.2 + 6), ?_, k⟩
  rw [zev]
  simp only [h1, h2, h3, h4, hr]
  rw [if_pos hk, if_pos h5]
theorem zwp_jdk {i : Instr} {a b c : Nat} {v : Value} {q : List Value × zX} (h : zoff t G mi pc lv st X i a b c v) (hr : zret i a st = none) (hk : zki i = 2) (ha : a = 1) (hd : zd b st X = some q) (h8 : zcat q.1 ≤ 8) (k : zwp t G mi (pc + 3) lv q.1 q.2 Q) : zwp t G mi pc lv st X Q := by
  obtain ⟨h1, h2, h3, h4⟩ := h
  obtain ⟨n, o, X', k1, k2⟩ := k
  refine ⟨n + 1, o, X', ?_, k2⟩
  rw [zev]
  simp only [h1, h2, h3, h4, hr]
  rw [if_neg (by omega), if_pos hk, if_pos ha]
  simp only [hd]
  rw [if_pos h8]
  exact k1
/-- a call of a method of the tables: what it comes to, and how the caller goes on -/
theorem zwp_call {i : Instr} {a b c : Nat} {v : Value} (h : zoff t G mi pc lv st X i a b c v) (hr : zret i a st = none) (hk : zki i = 2) (hc : a = 0 ∧ c ≤ st.length ∧ zcat (st.drop c) ≤ 8 ∧ zcat (st.take c) ≤ znl t b ∧ zrcv G X v (st.take c).reverse = true)
    (k : zwp t G b 0 (lv_args 0 (st.take c).reverse) [] X (fun o X' => match o with
      | .inl r => zwp t G mi (pc + 3) lv (r.toList ++ st.drop c) X' Q
      | .inr x => (zhn t mi pc x = none ∧ Q (.inr x) X') ∨ ∃ q, zhn t mi pc x ≠ none ∧ zhd (zcd t) (zhn t) (znl t mi) mi pc x = some q ∧ zwp t G mi (q.1 + 1) (zf1 q.2 lv) [] X' Q)) : zwp t G mi pc lv st X Q := by
  obtain ⟨h1, h2, h3, h4⟩ := h
  obtain ⟨n, o, X1, k1, k2⟩ := k
  have hne : ¬ zki i = 1 := by omega
  have hna : ¬ a = 1 := by omega
  cases o with
  | inl r =>
    obtain ⟨n2, o2, X2, k3, k4⟩ := k2
    refine ⟨n + n2 + 1, o2, X2, ?_, k4⟩
    rw [zev]
    simp only [h1, h2, h3, h4, hr]
    rw [if_neg hne, if_pos hk, if_neg hna, if_pos hc, zev_le (by omega) k1]
    exact zev_le (by omega) k3
  | inr x =>
    rcases k2 with ⟨k3, k4⟩ | ⟨q, k3, k4, n2, o2, X2, k5, k6⟩
    · refine ⟨n + 1, .inr x, X1, ?_, k4⟩
      rw [zev]
      simp only [h1, h2, h3, h4, hr]
      rw [if_neg hne, if_pos hk, if_neg hna, if_pos hc, k1]
      simp only [k3]
    · refine ⟨n + n2 + 1, o2, X2, ?_, k6⟩
      rw [zev]
      simp only [h1, h2, h3, h4, hr]
      rw [if_neg hne, if_pos hk, if_neg hna, if_pos hc, zev_le (by omega) k1]
      dsimp only
      cases hh : zhn t mi pc x with
      | none => exact absurd hh k3
      | some y =>
        simp only [k4]
        exact zev_le (by omega) k5
end zW2
end
section
/-! Which words stay true while the tables warm. -/
def zgb (w : Jvm.Cond) : Bool := goodWord w || (match w with
  | .fieldLinkNest .. => true
  | .methodLinkNest .. => true
  | .declares _ => true
  | .castable .. => true
  | .arrayOver (.object _) => true
  | _ => false)
theorem zgb_spec {w : Jvm.Cond} (h : zgb w = true) : zgw w := by
  intro a a' s U hW hb
  unfold zgb at h
  rw [Bool.or_eq_true] at h
  rcases h with h | h
  · exact word_at hW (good_of_word h) hb
  · split at h
    · exact va_Nw.use rfl (va_Nw.warmF hW (va_Nw.of rfl hb))
    · exact va_Nw.use rfl (va_Nw.warmM hW (va_Nw.of rfl hb))
    · exact va_Nw.use rfl (va_Nw.warmD hW (va_Nw.of rfl hb))
    · rename_i x y
      obtain ⟨c1, c2, h1, h2, h3⟩ := Jvm.Cond.castable_spec hb
      have e1 : U.vm.findClass x = some c1 := by rw [hW.alike.findClass]; exact h1
      have e2 : U.vm.findClass y = some c2 := by rw [hW.alike.findClass]; exact h2
      have e3 : U.vm.assignable c1 c2 = true := by rw [hW.alike.assignable]; exact h3
      simp [Jvm.Cond.before, Jvm.Cond.holds, Jvm.Cond.value, e1, e2, e3]
    · exact va_AO.use (va_AO.moved hW.alike (va_AO.of hb))
    · cases h
end
