/-! Throws: an exception made with a message and thrown at once. -/
theorem znil_eq {s u : State} {k n : Nat} (h : s.sameButNew u [] k n) {q : Nat} {cell : Cell} (hq : s.heap[q]? = some cell) : u.heap[q]? = some cell := by
  obtain ⟨-, -, -, -, -, h6⟩ := h
  obtain ⟨c', h1, h2, h3, h4⟩ := h6 q cell hq
  have e1 : c'.slots = cell.slots := by
    apply Array.ext_getElem?
    intro i
    exact h4 i (fun hm => by cases hm)
  rw [h1, h2, e1]
section zT1
variable {p : Program} {l : Launch} {e : Env} {R : Room} {s : State} {m : MethodId} {args : Array Value} {below : List Frame} {meth : Method} {c : Code} {T : State} {locs : List Loc} {cells slots : Nat}
/-- the same walk, told from here on -/
theorem zrebase (X : Stand p l e R s m args below meth c T locs cells slots) (hc : cells ≤ R.cells) (hs : slots ≤ R.slots) :
    Stand p l e { frames := R.frames, cells := R.cells - cells, slots := R.slots - slots, locals := R.locals } { s with heap := T.heap, slotsUsed := T.slotsUsed } m args below meth c T [] 0 0 := by
  have hroom := X.room
  have h1 := X.heapSize
  have h2 := X.used
  have hdr : T.heap.toList.drop T.heap.size = [] := List.drop_eq_nil_of_le (by simp)
  refine ⟨X.admits, X.cas, X.clock, X.frames, ?_, X.hears, X.method, X.code, X.here, X.tail, X.warmed, X.limits, X.bytes, ?_⟩
  · simp only [State.hasRoom, Bool.and_eq_true, decide_eq_true_eq] at hroom ⊢
    obtain ⟨⟨⟨⟨r1, r2⟩, r3⟩, r4⟩, r5⟩ := hroom
    refine ⟨⟨⟨⟨r1, r2⟩, ?_⟩, ?_⟩, X.book⟩
    · show T.heap.size + (R.cells - cells) ≤ _
      omega
    · show T.slotsUsed + (R.slots - slots) ≤ _
      omega
  · refine ⟨X.same.1, Nat.le_refl _, Nat.le_refl _, ?_, ?_, fun a c h => ⟨c, h, rfl, rfl, fun _ _ => rfl⟩⟩
    · show T.slotsUsed = T.slotsUsed + ((T.heap.toList.drop T.heap.size).map (·.slots.size)).sum
      rw [hdr]
      rfl
    · show ((T.heap.toList.drop T.heap.size).map (·.slots.size)).sum ≤ 0
      rw [hdr]
      exact Nat.le_refl _
end zT1
theorem zTh_lays {base : Nat} {U : State} {args : Array Value} (h : zTh base U) {q : String × String} (hq : q ∈ ([("UNASSIGNED_STACK", Bundle.steD), ("SUPPRESSED_SENTINEL", Bundle.listD)] : List (String × String))) : (Jvm.Cond.laysStatic Bundle.tN q.1 q.2).before args U = true := by
  obtain ⟨c, k, i, f, a, cell, v, h1, h2, h3, h4, h5, h6, h7, h8, h9, h10, h11, h12⟩ := h q hq
  simp [Jvm.Cond.before, Jvm.Cond.holds, Jvm.Cond.value, h1, h2, h3, h4, h5, h6, h7, h8, h9]
theorem zTh_ref {base : Nat} {U : State} {args : Array Value} (h : zTh base U) {q : String × String} (hq : q ∈ ([("UNASSIGNED_STACK", Bundle.steD), ("SUPPRESSED_SENTINEL", Bundle.listD)] : List (String × String))) : (Jvm.Cond.isRef (.static Bundle.tN q.1 q.2)).before args U = true := by
  obtain ⟨c, k, i, f, a, cell, v, h1, h2, h3, h4, h5, h6, h7, h8, h9, h10, h11, h12⟩ := h q hq
  have hv : (Term.static Bundle.tN q.1 q.2).eval args U none [] U = some v := by
    simp [Term.eval, State.fieldNamed?, h2, h3, h4, h5, h6, h10]
  simp only [Jvm.Cond.before, Jvm.Cond.holds, Jvm.Cond.value, hv]
  cases v <;> simp_all [Value.isRef]
def zxs : List String := ["java/lang/RuntimeException", "java/lang/Exception"]
/-- what the tables must say where an exception is thrown -/
def zokT (t : zT) (mi pc a : Nat) (i : Instr) : Prop := ∃ k ic, i = .new k ∧ (∃ r, zcd t mi (pc + 6) = some (.invokespecial ic, r)) ∧ Jvm.Cond.classLink (zmt t mi).cls k (zxn t a) ∈ zWS t ∧ Jvm.Cond.instantiable (zxn t a) 6 ∈ zWS t ∧ Jvm.Cond.initialized (zxn t a) ∈ zWS t ∧ Bundle.fit (zxn t a) = true ∧
  (∀ w ∈ Bundle.ownAtoms (zmt t mi).cls ic (zxn t a) zxs, w ∈ zWS t ∨ w = .laysStatic Bundle.tN "UNASSIGNED_STACK" Bundle.steD ∨ w = .laysStatic Bundle.tN "SUPPRESSED_SENTINEL" Bundle.listD ∨ w = .isRef (.static Bundle.tN "UNASSIGNED_STACK" Bundle.steD) ∨ w = .isRef (.static Bundle.tN "SUPPRESSED_SENTINEL" Bundle.listD)) ∧
  zhs t mi = [] ∧ 6 ≤ zfr t mi ∧ 90 ≤ zlo t mi
theorem zthr_spec {cd : Nat → Nat → Option zI} {mi pc x : Nat} (h : zthr cd mi pc x = true) : (∃ r, cd mi (pc + 3) = some (.dup, r)) ∧ (∃ k a b c g, cd mi (pc + 4) = some (.ldc k, a, b, c, .ref g)) ∧ (∃ ic r, cd mi (pc + 6) = some (.invokespecial ic, r)) ∧ ∃ r, cd mi (pc + 9) = some (.athrow, r) := by
  unfold zthr at h
  split at h
  · rename_i h1 h2 h3 h4
    exact ⟨⟨_, h1⟩, ⟨_, _, _, _, _, h2⟩, ⟨_, _, h3⟩, ⟨_, h4⟩⟩
  · cases h
section zT2
variable {t : zT} {D : va_G} {aC : Nat → ClassId} {gad : Nat → Nat} {base : Nat} {G : List zE}
set_option maxHeartbeats 4000000 in
theorem zthrows_of {l : Launch} (hfl : l.flags = pinnedFlags ++ [noTraceFlag]) (hST : zST t) (hT : ∀ mi pc i a b c v, zcd t mi pc = some (i, a, b, c, v) → zki i = 1 → 100 ≤ a → zokT t mi pc a i) : zThrows t D aC gad base G l := by
  intro p e R s m args below meth c H locs cells slots ls nc0 ns0 mi pc a lv st X i b c0 v F hl hP hS hcc hss hR1 hR2 hcd hki ha hthr hst
  obtain ⟨hexec, hcode, hnl, hret, hlocks, hown, hname, htab, hts, hfr, hlo, hU, hbs, hsz⟩ := F
  obtain ⟨hgood, hcq, h99, hins⟩ := hST
  obtain ⟨k, ic, rfl, ⟨r6, h6⟩, k1, k2, k3, k4, k5, k6, k7, k8⟩ := hT mi pc i a b c0 v hcd hki ha
  obtain ⟨⟨r3, h3⟩, ⟨z4, a4, b4, c4, g4, h4⟩, ⟨ic', r6', h6'⟩, ⟨r9, h9⟩⟩ := zthr_spec hthr
  cases h6.symm.trans h6'
  obtain ⟨⟨n0, d0, l0⟩, -⟩ := hins _ _ _ _ _ _ _ hcd
  obtain ⟨⟨n3, d3, l3⟩, -⟩ := hins _ _ _ r3.1 r3.2.1 r3.2.2.1 r3.2.2.2 h3
  obtain ⟨⟨n4, d4, l4⟩, -, -, o4, -⟩ := hins _ _ _ _ _ _ _ h4
  obtain ⟨⟨n6, d6, l6⟩, -⟩ := hins _ _ _ r6.1 r6.2.1 r6.2.2.1 r6.2.2.2 h6
  obtain ⟨⟨n9, d9, l9⟩, -⟩ := hins _ _ _ r9.1 r9.2.1 r9.2.2.1 r9.2.2.2 h9
  have e0 : n0 = 3 := by simpa [zlk] using l0
  have e3 : n3 = 1 := by simpa [zlk] using l3
  have e4 : n4 = 2 := by simpa [zlk] using l4
  have e6 : n6 = 3 := by simpa [zlk] using l6
  have e9 : n9 = 1 := by simpa [zlk] using l9
  subst e0; subst e3; subst e4; subst e6; subst e9
  rw [k6] at htab
  have htab0 : c.exceptionTable.toList = [] := List.map_eq_nil_iff.mp htab
  intro T hT0 Y
  have hz : H.size ≤ base + X.2.1 := by
    have := Y.heapSize
    rw [hT0] at this
    omega
  have Y1 := zrebase Y (by omega) (by omega)
  have htr : e.platform.stackTraces = false := Launch.traces_off hfl Y.admits
  generalize hs1 : ({ s with heap := T.heap, slotsUsed := T.slotsUsed } : State) = s1 at Y1
  have hvm1 : s1.vm = s.vm := by rw [← hs1]
  have hheap1 : s1.heap = H := by rw [← hs1]; exact hT0
  have hWr : s.WarmedH s1.vm := by rw [hvm1]; exact State.WarmedH.refl s
  have hts1 : ∀ w ∈ zWS t, w.before args s1 = true := fun w hw => hgood w hw _ _ _ _ hWr (hts w hw)
  have hown1 : s1.vm.findClass (zmt t mi).cls = some m.cls := by rw [hvm1]; exact hown
  have hU1 : zU t D aC gad base G s1 := zU_move hU hWr (fun a h1 h2 => by rw [hheap1]; exact hS.2.1 a h1 h2)
  have hat : ∀ w ∈ Bundle.ownAtoms (zmt t mi).cls ic (zxn t a) zxs, w.before args s1 = true := by
    intro w hw
    rcases k5 w hw with h | h | h | h | h
    · exact hts1 w h
    · rw [h]; exact zTh_lays hU1.2.2.2.2.1 (q := ("UNASSIGNED_STACK", Bundle.steD)) (by simp)
    · rw [h]; exact zTh_lays hU1.2.2.2.2.1 (q := ("SUPPRESSED_SENTINEL", Bundle.listD)) (by simp)
    · rw [h]; exact zTh_ref hU1.2.2.2.2.1 (q := ("UNASSIGNED_STACK", Bundle.steD)) (by simp)
    · rw [h]; exact zTh_ref hU1.2.2.2.2.1 (q := ("SUPPRESSED_SENTINEL", Bundle.listD)) (by simp)
  have hWk : W p l e { frames := R.frames, cells := R.cells - cells, slots := R.slots - slots, locals := R.locals } s1 m args below meth c H [] 0 0
      (fun U => U.status = .running ∧ Ended U below (.threw H.size) ∧ s1.WarmedH U.vm ∧ s1.sameButNew ({ U with vm := s1.vm } : State) [] 1 6 ∧ ∃ ce : Cell, U.heap[H.size]? = some ce ∧ ce.vm = .none ∧ s1.vm.findClass (zxn t a) = some ce.cls) (F0 m pc ls (st.map (ztr (zad gad base)))) := by
    refine W.newc hexec hcode hown1 (hts1 _ k1) (hts1 _ k2) (hts1 _ k3) (g := F0 m pc ls (st.map (ztr (zad gad base)))) rfl d0 (by show 0 + 1 ≤ R.cells - cells; omega) (by show 0 + 6 ≤ R.slots - slots; omega) fun cC kC w1 w2 w3 w4 => ?_
    refine lv_dup hexec hcode d3 rfl ?_
    obtain ⟨tx, htx⟩ := o4
    refine va_ldcS hexec hcode hown1 (hU1.2.2.2.1 _ htx) d4 ?_
    intro T6 hT6 Y6
    obtain ⟨U, u1, u2, u3, u4, u5, ce, u6, u7⟩ := Y6.ctorThrowS hexec htr hown1 k4 (by decide +kernel) hat (fun x hx => by cases hx) w1 w2 (a := H.size) (by rw [hT6]; simp) (by rw [hheap1]; exact Nat.le_refl _) (msg := .ref (zad gad base g4)) rfl
      (g := F0 m (pc + 6) ls (.ref (zad gad base g4) :: .ref H.size :: .ref H.size :: st.map (ztr (zad gad base)))) rfl (by show ls.size = c.maxLocals; rw [hl.1, hnl]) rfl rfl rfl (by rw [hcode]; exact d6) (by rw [hcode]; exact d9) (by rw [htab0]; intro x hx; cases hx)
      (by show zxs.length + 3 < R.frames; have : zxs.length = 2 := rfl; omega)
      (by
        have hc9 : (((Value.ref H.size :: st.map (ztr (zad gad base))).map fun v => v.category)).sum ≤ 5 := by
          have := zcat_tr (zad gad base) st
          simp only [List.map_cons, List.sum_cons, Value.category] at this ⊢
          omega
        have hm9 := lv_room (m := m) (pc := pc + 6) (ls := ls) (rest := (.ref (zad gad base g4) :: .ref H.size :: .ref H.size :: st.map (ztr (zad gad base)))) (st := (Value.ref H.size :: st.map (ztr (zad gad base)))) (by omega)
        have hx2 : zxs.length = 2 := rfl
        show 2 * (F0 m (pc + 6) ls (.ref (zad gad base g4) :: .ref H.size :: .ref H.size :: st.map (ztr (zad gad base)))).monitorRoom + ((Value.ref H.size :: st.map (ztr (zad gad base))).map fun v => v.category).sum + (13 * (zxs.length + 1) + 42) ≤ R.locals
        rw [hx2]
        omega) hlocks
    exact ⟨U, u1, u2, u3, u4, (by simpa using u5), ce, u6, u7.vm, u7.cls⟩
  obtain ⟨U, st9, v1, v2, v3, v4, ce, v5, v6, v7⟩ := hWk T hT0 Y1
  have hkeep : ∀ q : Nat, q < H.size → U.heap[q]? = H[q]? := by
    intro q hq
    have h1 : s1.heap[q]? = some H[q] := by rw [hheap1]; exact Array.getElem?_eq_getElem hq
    have h2 := znil_eq v4 h1
    rw [show U.heap[q]? = some H[q] from h2]
    exact (Array.getElem?_eq_getElem hq).symm
  have hsz1 : H.size ≤ U.heap.size := by
    have := v4.2.1
    rw [hheap1] at this
    exact this
  have hsz2 : U.heap.size ≤ H.size + 1 := by
    have := v4.2.2.1
    rw [hheap1] at this
    exact this
  have hWU : s.WarmedH U.vm := by
    rw [← hs1] at v3
    exact v3
  have hSU : va_S (fun q => base ≤ q) s.heap U.heap locs := ⟨Nat.le_trans hS.1 hsz1, fun q h1 h2 => by rw [hkeep q (Nat.lt_of_lt_of_le h1 hS.1)]; exact hS.2.1 q h1 h2, hS.2.2⟩
  have hPU : va_P D (zcl t) (zw base (zad gad base) aC X.1) U.heap := hP.kept fun k q hq => hkeep _ ((hP k q hq).lt)
  refine ⟨U, st9, .threw H.size, locs, cells + 1, slots + 6, v1, v2, ⟨H.size, ce, rfl, v5, v6, ?_⟩, zIs_end hU hPU hSU hbs (by show U.heap.size ≤ base + (X.2.1 + 1); omega) rfl hWU, hWU, ?_, hS.2.2, by show cells + 1 + nc0 = X.2.1 + 1; omega, by show slots + 6 + ns0 = X.2.2 + 6; omega, hSU.F rfl⟩
  · rw [hWU.alike.findClass]
    rw [hvm1] at v7
    exact v7
  · have w1 := Y.same
    have w2 : (T.setVm s.vm).sameButNew ({ U with vm := s.vm } : State) [] 1 6 := by
      obtain ⟨x1, x2, x3, x4, x5, x6⟩ := v4
      rw [← hs1] at x1 x2 x3 x4 x5 x6
      refine ⟨?_, x2, x3, x4, x5, x6⟩
      have y1 := w1.1
      have y3 : ∀ K, (T.setVm s.vm).setFrames K = ({ s with heap := T.heap, slotsUsed := T.slotsUsed } : State).setFrames K := by
        intro K
        have y4 : T.setVm s.vm = ({ s with heap := T.heap, slotsUsed := T.slotsUsed } : State).setFrames (T.setVm s.vm).frames := y1
        rw [y4, State.setFrames_setFrames]
      rw [y3]
      exact x1
    have w3 := w1.trans w2
    rw [List.append_nil] at w3
    exact w3
end zT2
