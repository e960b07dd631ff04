/-! The claim out of one run of the interpreter. -/
def zg1 : List Int32 := [34, 35, 46, 56, 65, 64, 53, 43]
def zg2 : List Int32 := [0, 0, 3, 3, 2, 2, 1, 1]
def zg3 : List Int32 := [0, 2, 1, 4, 3, 6, 5]
def zg4 : List Int32 := [10, 1, -10, -1]
def zg5 : List Int32 := [97, 108, 108, 32, 108, 101, 97, 100, 115, 32, 102, 111, 108, 108, 111, 119, 115, 32, 104, 101, 97, 100, 115, 32, 115, 105, 100, 101, 115, 32, 110, 111, 114, 116, 104, 32, 101, 97, 115, 116, 32, 115, 111, 117, 116, 104, 32, 119, 101, 115, 116, 32, 99, 101, 110, 116, 114, 101, 115, 32, 101, 110, 100, 115, 32, 102, 114, 111, 110, 116, 32, 114, 101, 97, 114]
def zg6 : List Int32 := [115, 116, 97, 121, 32, 102, 119, 100, 32, 98, 97, 99, 107, 32, 108, 101, 102, 116, 32, 114, 105, 103, 104, 116, 32, 116, 108, 32, 116, 114]
/-- the given cells: the script, four tables, two texts and their bytes -/
def zG (xs : List Int32) : List zE := [.inr (.inl (0, xs)), .inr (.inl (0, zg1)), .inr (.inl (0, zg2)), .inr (.inl (0, zg3)), .inr (.inl (0, zg4)), .inl (99, [.ref 7, .int 0]), .inl (99, [.ref 8, .int 0]), .inr (.inl (3, zg5)), .inr (.inl (3, zg6))]
/-- what is left to show: no machine in it -/
def zGoal : Prop := ∀ (v0 : Value) (xs : List Int32), (v0 = .null ∨ v0 = .ref 49) → xs.length ≤ 1536 → zwp (zt v0) (zG xs) 177 0 [(0, .ref 0)] [] ([], 0, 0) (fun o X => o = .inl (some (.int 1)) ∧ X.2.1 ≤ 601024 ∧ X.2.2 ≤ 7293034)
abbrev zNA : Jvm.Cond := Jvm.Cond.and given_1 narrow_1
theorem zst_1 {b : Nat} {s : State} (hs : ∀ c ∈ flatC zNA, c.before #[Value.ref b] s = true) {A : Nat → Prop} (hA : ∀ a : Nat, a < s.heap.size → ¬ A a) : ∃ t : Nat, (Term.static "FigureCaller" "HOME_SPOTS" "[I").eval #[Value.ref b] s none [] s = some (.ref t) ∧ va_T .int t 8 (fun j => .int (zg1.getD j 0)) A s s.heap :=
  va_Tof (by decide) (hs _ (by decide +kernel)) (va_eqt (hs _ (by decide +kernel))) (fun j hj => va_eqt (hs _ ((by decide +kernel : ∀ j, j < 8 → Jvm.Cond.eq (.elem (.static "FigureCaller" "HOME_SPOTS" "[I") (.int (Int32.ofNat j))) (.int (zg1.getD j 0)) ∈ flatC zNA) j hj))) hA
theorem zst_2 {b : Nat} {s : State} (hs : ∀ c ∈ flatC zNA, c.before #[Value.ref b] s = true) {A : Nat → Prop} (hA : ∀ a : Nat, a < s.heap.size → ¬ A a) : ∃ t : Nat, (Term.static "FigureCaller" "HOME_FACINGS" "[I").eval #[Value.ref b] s none [] s = some (.ref t) ∧ va_T .int t 8 (fun j => .int (zg2.getD j 0)) A s s.heap :=
  va_Tof (by decide) (hs _ (by decide +kernel)) (va_eqt (hs _ (by decide +kernel))) (fun j hj => va_eqt (hs _ ((by decide +kernel : ∀ j, j < 8 → Jvm.Cond.eq (.elem (.static "FigureCaller" "HOME_FACINGS" "[I") (.int (Int32.ofNat j))) (.int (zg2.getD j 0)) ∈ flatC zNA) j hj))) hA
theorem zst_3 {b : Nat} {s : State} (hs : ∀ c ∈ flatC zNA, c.before #[Value.ref b] s = true) {A : Nat → Prop} (hA : ∀ a : Nat, a < s.heap.size → ¬ A a) : ∃ t : Nat, (Term.static "FigureCaller$Dancing" "EXCHANGED" "[I").eval #[Value.ref b] s none [] s = some (.ref t) ∧ va_T .int t 7 (fun j => .int (zg3.getD j 0)) A s s.heap :=
  va_Tof (by decide) (hs _ (by decide +kernel)) (va_eqt (hs _ (by decide +kernel))) (fun j hj => va_eqt (hs _ ((by decide +kernel : ∀ j, j < 7 → Jvm.Cond.eq (.elem (.static "FigureCaller$Dancing" "EXCHANGED" "[I") (.int (Int32.ofNat j))) (.int (zg3.getD j 0)) ∈ flatC zNA) j hj))) hA
theorem zst_4 {b : Nat} {s : State} (hs : ∀ c ∈ flatC zNA, c.before #[Value.ref b] s = true) {A : Nat → Prop} (hA : ∀ a : Nat, a < s.heap.size → ¬ A a) : ∃ t : Nat, (Term.static "FigureCaller$Dancing" "STRIDES" "[I").eval #[Value.ref b] s none [] s = some (.ref t) ∧ va_T .int t 4 (fun j => .int (zg4.getD j 0)) A s s.heap :=
  va_Tof (by decide) (hs _ (by decide +kernel)) (va_eqt (hs _ (by decide +kernel))) (fun j hj => va_eqt (hs _ ((by decide +kernel : ∀ j, j < 4 → Jvm.Cond.eq (.elem (.static "FigureCaller$Dancing" "STRIDES" "[I") (.int (Int32.ofNat j))) (.int (zg4.getD j 0)) ∈ flatC zNA) j hj))) hA
theorem zst_5 {b : Nat} {s : State} (hs : ∀ c ∈ flatC zNA, c.before #[Value.ref b] s = true) {A : Nat → Prop} (hA : ∀ a : Nat, a < s.heap.size → ¬ A a) : ∃ a t : Nat, (Term.string "FigureCaller$Reader" 118).eval #[Value.ref b] s none [] s = some (.ref a) ∧ va_O "java/lang/String" a A s s.heap ∧ va_OF "java/lang/String" "coder" "B" (.int 0) a A s s.heap ∧ va_OF "java/lang/String" "value" "[B" (.ref t) a A s s.heap ∧ va_T .byte t 75 (fun j => .int (zg5.getD j 0)) A s s.heap := by
  obtain ⟨a, c, cA, kA, q1, q2, q3, q4, q5, q6, -⟩ := Jvm.Cond.exactly_spec (hs (Jvm.Cond.exactly (Term.string "FigureCaller$Reader" 118) "java/lang/String") (by decide +kernel))
  obtain ⟨t, ht, hT⟩ := va_Tof (N := 75) (f := fun j => .int (zg5.getD j 0)) (A := A) (by decide) (hs (Jvm.Cond.arrayOf (Term.field (Term.string "FigureCaller$Reader" 118) "java/lang/String" "value" "[B") .byte) (by decide +kernel)) (va_eqt (hs _ (by decide +kernel))) (fun j hj => va_eqt (hs _ ((by decide +kernel : ∀ j, j < 75 → Jvm.Cond.eq (.elem (Term.field (Term.string "FigureCaller$Reader" 118) "java/lang/String" "value" "[B") (.int (Int32.ofNat j))) (.int (zg5.getD j 0)) ∈ flatC zNA) j hj))) hA
  exact ⟨a, t, q1, ⟨cA, q3, q5, by rw [q6]; exact q2, hA a (Array.getElem?_eq_some_iff.mp q3).1⟩, vk_OFof q1 (va_eqt (hs _ (by decide +kernel))) hA, vk_OFof q1 ht hA, hT⟩
theorem zst_6 {b : Nat} {s : State} (hs : ∀ c ∈ flatC zNA, c.before #[Value.ref b] s = true) {A : Nat → Prop} (hA : ∀ a : Nat, a < s.heap.size → ¬ A a) : ∃ a t : Nat, (Term.string "FigureCaller$Reader" 124).eval #[Value.ref b] s none [] s = some (.ref a) ∧ va_O "java/lang/String" a A s s.heap ∧ va_OF "java/lang/String" "coder" "B" (.int 0) a A s s.heap ∧ va_OF "java/lang/String" "value" "[B" (.ref t) a A s s.heap ∧ va_T .byte t 30 (fun j => .int (zg6.getD j 0)) A s s.heap := by
  obtain ⟨a, c, cA, kA, q1, q2, q3, q4, q5, q6, -⟩ := Jvm.Cond.exactly_spec (hs (Jvm.Cond.exactly (Term.string "FigureCaller$Reader" 124) "java/lang/String") (by decide +kernel))
  obtain ⟨t, ht, hT⟩ := va_Tof (N := 30) (f := fun j => .int (zg6.getD j 0)) (A := A) (by decide) (hs (Jvm.Cond.arrayOf (Term.field (Term.string "FigureCaller$Reader" 124) "java/lang/String" "value" "[B") .byte) (by decide +kernel)) (va_eqt (hs _ (by decide +kernel))) (fun j hj => va_eqt (hs _ ((by decide +kernel : ∀ j, j < 30 → Jvm.Cond.eq (.elem (Term.field (Term.string "FigureCaller$Reader" 124) "java/lang/String" "value" "[B") (.int (Int32.ofNat j))) (.int (zg6.getD j 0)) ∈ flatC zNA) j hj))) hA
  exact ⟨a, t, q1, ⟨cA, q3, q5, by rw [q6]; exact q2, hA a (Array.getElem?_eq_some_iff.mp q3).1⟩, vk_OFof q1 (va_eqt (hs _ (by decide +kernel))) hA, vk_OFof q1 ht hA, hT⟩
theorem zst_m {b : Nat} {s : State} (hs : ∀ c ∈ flatC zNA, c.before #[Value.ref b] s = true) {own : String} {k : Nat} (h : Jvm.Cond.exactly (.string own k) "java/lang/String" ∈ flatC zNA) : ∃ a : Nat, (Term.string own k).eval #[Value.ref b] s none [] s = some (.ref a) := by
  obtain ⟨a, c, cA, kA, q1, -⟩ := Jvm.Cond.exactly_spec (hs _ h)
  exact ⟨a, q1⟩
theorem zref {args : Array Value} {s : State} {t : Term} (h : (Jvm.Cond.isRef t).before args s = true) : ∃ v, t.eval args s none [] s = some v ∧ v.isRef = true := by
  cases hv : t.eval args s none [] s with
  | none => simp [Jvm.Cond.before, Jvm.Cond.holds, Jvm.Cond.value, hv] at h
  | some v =>
    refine ⟨v, rfl, ?_⟩
    simp only [Jvm.Cond.before, Jvm.Cond.holds, Jvm.Cond.value, hv] at h
    cases v <;> simp_all [Value.isRef]
theorem zTh_of {b : Nat} {s : State} (hs : ∀ c ∈ flatC zNA, c.before #[Value.ref b] s = true) (hts : ∀ w ∈ lw_tbl, w.before #[Value.ref b] s = true) : zTh s.heap.size s := by
  have key : ∀ n d : String, (Jvm.Cond.laysStatic Bundle.tN n d).before #[Value.ref b] s = true → (Jvm.Cond.isRef (.static Bundle.tN n d)).before #[Value.ref b] s = true → ∃ (c : ClassId) (k : Class) (i : Nat) (f : Field) (a : Nat) (cell : Cell) (v : Value),
      s.vm.findClass Bundle.tN = some c ∧ s.fieldFound? Bundle.tN n d = some (c, k, i, f) ∧ f.isStatic = true ∧ k.statics = some a ∧ s.heap[a]? = some cell ∧ cell.vm.isStatics = true ∧ cell.cls = c ∧ f.slot < cell.slots.size ∧ k.staticTypes[f.slot]? = some f.type ∧ cell.slots[f.slot]? = some v ∧ v.isRef = true ∧ a < s.heap.size := by
    intro n d h1 h2
    obtain ⟨c, k, i, f, a, cell, e1, e2, e3, e4, e5, e6, e7, e8, e9⟩ := Jvm.Cond.laysStatic_spec h1
    obtain ⟨v, hv, hr⟩ := zref h2
    obtain ⟨-, a', cell', e4', e5', -, e10⟩ := Term.static_spec e2 hv
    cases e4.symm.trans e4'
    cases e5.symm.trans e5'
    exact ⟨c, k, i, f, a, cell, v, e1, e2, e3, e4, e5, e6, e7, e8, e9, e10, hr, (Array.getElem?_eq_some_iff.mp e5).1⟩
  intro q hq
  rcases List.mem_cons.mp hq with rfl | hq
  · exact key _ _ (hts _ (List.mem_append_right _ (List.mem_of_getElem? (i := 668) (by decide +kernel)))) (hs _ (by decide +kernel))
  · rcases List.mem_cons.mp hq with rfl | hq
    · exact key _ _ (hts _ (List.mem_append_right _ (List.mem_of_getElem? (i := 670) (by decide +kernel)))) (hs _ (by decide +kernel))
    · cases hq
theorem znc_of {b : Nat} {s : State} (hs : ∀ c ∈ flatC zNA, c.before #[Value.ref b] s = true) : ∀ q ∈ znc, va_Nc q.1 q.2 s := by
  have key : ∀ C T : String, (Jvm.Cond.not (.castable C T)).before #[Value.ref b] s = true → va_Nc C T s := by
    intro C T h
    exact va_Nc.of h
  intro q hq
  rcases List.mem_cons.mp hq with rfl | hq
  · exact key _ _ (hs _ (by decide +kernel))
  · rcases List.mem_cons.mp hq with rfl | hq
    · exact key _ _ (hs _ (by decide +kernel))
    · cases hq
