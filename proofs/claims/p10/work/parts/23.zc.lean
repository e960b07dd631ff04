/-! The writing and making instructions. -/
def ztyk (c : Nat) (ty : FieldType) : Prop := match c with
  | 0 => ty = .int
  | 1 => ty = .boolean
  | 2 => ty = .char
  | 3 => ty = .long
  | _ => (∃ n, ty = .object n) ∨ ∃ t, ty = .array t
theorem zfit_spec {ad : Nat → Nat} {c : Nat} {v : Value} {ty : FieldType} (h : zfit c v = true) (ht : ztyk c ty) : narrow ty (ztr ad v) = ztr ad v ∧ fits ty (ztr ad v) = true := by
  unfold zfit at h
  split at h
  · cases ht
    exact ⟨rfl, rfl⟩
  · cases ht
    simp only [Bool.or_eq_true, decide_eq_true_eq] at h
    rcases h with rfl | rfl
    · exact ⟨rfl, rfl⟩
    · exact ⟨rfl, rfl⟩
  · rename_i x
    cases ht
    have hx : (x.toUInt32 % 65536).toInt32 = x := by simpa using h
    have h1 := pk_nc x
    have h2 := pk_fc x
    rw [hx] at h1 h2
    exact ⟨h1, h2⟩
  · cases ht
    exact ⟨rfl, rfl⟩
  · rcases ht with ⟨n, rfl⟩ | ⟨t, rfl⟩ <;> exact ⟨rfl, rfl⟩
  · rcases ht with ⟨n, rfl⟩ | ⟨t, rfl⟩ <;> exact ⟨rfl, rfl⟩
  · cases h
/-- what the tables say of a class of ours -/
def zcq (WS : List Jvm.Cond) (q : vw_C) : Prop := (∀ w ∈ u_ws q.1 q.2.1 q.2.2, w ∈ WS) ∧ (∀ a, a < q.2.2 → ∀ b, b < q.2.2 → a ≠ b → (q.2.1 a).2.1 ≠ (q.2.1 b).2.1) ∧ ∃ ty : Nat → FieldType, ∀ k, k < q.2.2 → parseFieldDescriptor (q.2.1 k).2.2.1 = some (ty k)
/-- and of an instruction that writes or makes; f tells that the method is a constructor -/
def zokc (WS : List Jvm.Cond) (cl : List vw_C) (el : List (Nat × String)) (df : Nat → List Value) (own host : String) (f : Bool) (i : Instr) (a b c : Nat) : Prop := match i with
  | .putfield k => ∃ q, cl[a]? = some q ∧ b < q.2.2 ∧ (q.2.1 b).1 = q.1 ∧ (∃ ty, parseFieldDescriptor (q.2.1 b).2.2.1 = some ty ∧ ztyk c ty) ∧
      (((q.2.1 b).2.2.2 = false ∧ zfl WS own host q.1 (q.2.1 b).2.1 (q.2.1 b).2.2.1 k) ∨ ((q.2.1 b).2.2.2 = true ∧ f = true ∧ q.1 = own ∧ Jvm.Cond.fieldLink own k q.1 (q.2.1 b).2.1 (q.2.1 b).2.2.1 ∈ WS))
  | .aastore => ∃ (j : Nat) (q : vw_C), el[j]? = some (a, q.1) ∧ cl[a]? = some q
  | .newarray t => Jvm.Cond.arrayClass (newarray.typeOf t) ∈ WS
  | .anewarray k => ∃ (j : Nat) (C : String), el[j]? = some (a, C) ∧ Jvm.Cond.classLink own k C ∈ WS ∧ Jvm.Cond.arrayOver (.object C) ∈ WS
  | .new k => 100 ≤ a ∨ ∃ q, cl[a]? = some q ∧ Jvm.Cond.classLink own k q.1 ∈ WS ∧ Jvm.Cond.instantiable q.1 q.2.2 ∈ WS ∧ Jvm.Cond.initialized q.1 ∈ WS ∧ (df a).length = q.2.2 ∧
      ∀ j, j < q.2.2 → ∃ ty, parseFieldDescriptor (q.2.1 j).2.2.1 = some ty ∧ (df a)[j]? = some (defaultValue ty)
  | _ => True
theorem zupd {xs : List Int32} {j : Nat} {x : Int32} (h : j < xs.length) : upd (fun i => xs.getD i 0) j x = fun i => (xs.set j x).getD i 0 := by
  funext i
  rw [set_getD x h]
  rfl
theorem zupdL {xs : List Int64} {j : Nat} {x : Int64} (h : j < xs.length) : vp_updL (fun i => xs.getD i 0) j x = fun i => (xs.set j x).getD i 0 := by
  funext i
  simp only [vp_updL, List.getD_eq_getElem?_getD, List.getElem?_set]
  by_cases hi : i = j
  · subst hi
    simp [h]
  · rw [if_neg hi, if_neg (fun q => hi (Eq.symm q))]
theorem zupdQ {ad : Nat → Nat} {xs : List (Option Nat)} {j q : Nat} (h : j < xs.length) : va_up (fun i => (xs.getD i none).map ad) j (some (ad q)) = fun i => ((xs.set j (some q)).getD i none).map ad := by
  funext i
  simp only [va_up, List.getD_eq_getElem?_getD, List.getElem?_set]
  by_cases hi : i = j
  · subst hi
    simp [h]
  · rw [if_neg hi, if_neg (fun q => hi (Eq.symm q))]
theorem ztr_def {ad : Nat → Nat} {ty : FieldType} : ztr ad (defaultValue ty) = defaultValue ty := by cases ty <;> rfl
section zC
variable {p : Program} {l : Launch} {e : Env} {R : Room} {s : State} {m : MethodId} {args : Array Value} {below : List Frame} {meth : Method} {c : Code} {H : Heap} {locs : List Loc} {cells slots : Nat} {Q : State → Prop}
variable {cc : ByteArray} {pc : Nat} {ls : Array Slot} {own host : String} {gad : Nat → Nat} {base : Nat} {aC : Nat → ClassId} {D : va_G} {cl : List vw_C} {el : List (Nat × String)} {WS : List Jvm.Cond} {df : Nat → List Value}
/-- a new cell lies where the interpreter says -/
theorem znew {M : List zE} {q nc0 : Nat} {x : va_E} {H1 : Heap} {T : State} (hP : va_P D cl (zw base (zad gad base) aC M ++ [(q, x)]) H1) (hD : va_D (fun q => base ≤ q) (zw base (zad gad base) aC M ++ [(q, x)])) (hT : T.heap = H1)
    (X : Stand p l e R s m args below meth c T locs cells slots) (h0 : s.heap.size ≤ base + nc0) (hc : cells + nc0 = M.length + 1) : q = base + M.length := by
  have hl : (zw base (zad gad base) aC M).length = M.length := by simp [zw]
  have hq : (zw base (zad gad base) aC M ++ [(q, x)])[M.length]? = some (q, x) := by
    rw [List.getElem?_append_right (by omega)]
    simp [hl]
  have h1 : q < H1.size := (hP _ _ hq).lt
  have h2 := X.heapSize
  rw [hT] at h2
  have h3 : base ≤ q := hD.2 _ _ hq
  rcases Nat.lt_or_ge q (base + M.length) with hlt | hge
  · exfalso
    have hj : q - base < M.length := by omega
    have hx : M[q - base]? = some M[q - base] := List.getElem?_eq_getElem hj
    have hw := zw_get (base := base) (ad := zad gad base) (aC := aC) hx
    have hw2 : (zw base (zad gad base) aC M ++ [(q, x)])[q - base]? = some (base + (q - base), zen (zad gad base) aC M[q - base]) := by
      rw [List.getElem?_append_left (by omega)]
      exact hw
    have := hD.1 _ _ _ _ hw2 hq (by show base + (q - base) = q; omega)
    omega
  · omega
set_option maxHeartbeats 8000000 in
theorem zc_sound (hexec : p.tables.exec = Jvm.exec) (hb : c.code = cc) {f : Bool} {i : Instr} {a b c0 n nc0 ns0 : Nat} {st : List Value} {X : zX} {q : Nat × List Value × zX} (hown : s.vm.findClass own = some m.cls) (hinit : f = true → meth.name = "<init>")
    (hts : ∀ w ∈ WS, w.before args s = true) (hcq : ∀ q ∈ cl, zcq WS q)
    (hK : va_K D cl (ztys aC el) s) (hS : va_S (fun q => base ≤ q) s.heap H locs) (hbs : base ≤ s.heap.size) (hsz : s.heap.size ≤ base + nc0)
    (hP : va_P D cl (zw base (zad gad base) aC X.1) H) (hcc : cells + nc0 = X.2.1) (hss : slots + ns0 = X.2.2)
    (hd : decode cc pc = .ok (i, n)) (hn : zlk i n = true) (h : zc df i a b c0 st X = some q) (ok : zokc WS cl el df own host f i a b c0) (hR1 : q.2.2.2.1 ≤ R.cells + nc0) (hR2 : q.2.2.2.2 ≤ R.slots + ns0)
    (k : ∀ (H1 : Heap) (locs1 : List Loc) (cells1 slots1 : Nat), va_P D cl (zw base (zad gad base) aC q.2.2.1) H1 → va_S (fun q => base ≤ q) s.heap H1 locs1 → cells1 + nc0 = q.2.2.2.1 → slots1 + ns0 = q.2.2.2.2 →
      W p l e R s m args below meth c H1 locs1 cells1 slots1 Q (F0 m (pc + q.1) ls (q.2.1.map (ztr (zad gad base))))) :
    W p l e R s m args below meth c H locs cells slots Q (F0 m pc ls (st.map (ztr (zad gad base)))) := by
  have hA : ∀ q, s.heap.size ≤ q → base ≤ q := fun q h => Nat.le_trans hbs h
  cases i with
  | putfield z =>
    have e1 : n = 3 := by simpa [zlk] using hn
    subst e1
    simp only [zc] at h
    split at h
    · rename_i v o r
      split at h
      · cases h
      · rename_i ho
        split at h
        · rename_i ci fs hg
          split at h
          · rename_i hc
            cases h
            obtain ⟨h1, h2, h3⟩ := hc
            subst h1
            obtain ⟨q, hq, hbq, hre, ⟨ty, hty, htk⟩, hlk⟩ := ok
            obtain ⟨q1, q2, ty0, q3⟩ := hcq q (List.mem_of_getElem? hq)
            have hw := zw_get (base := base) (ad := zad gad base) (aC := aC) hg
            obtain ⟨f1, f2⟩ := zfit_spec (ad := zad gad base) h3 htk
            have hk2 : ∀ (H1 : Heap) (locs1 : List Loc), va_P D cl ((zw base (zad gad base) aC X.1).set (o - 50) (base + (o - 50), .inr (ci, (fs.map (ztr (zad gad base))).set b (ztr (zad gad base) v)))) H1 → va_D (fun q => base ≤ q) ((zw base (zad gad base) aC X.1).set (o - 50) (base + (o - 50), .inr (ci, (fs.map (ztr (zad gad base))).set b (ztr (zad gad base) v)))) → va_S (fun q => base ≤ q) s.heap H1 locs1 → W p l e R s m args below meth c H1 locs1 cells slots Q (F0 m (pc + 3) ls (r.map (ztr (zad gad base)))) := by
              intro H1 locs1 g1 _ g3
              refine k H1 locs1 cells slots ?_ g3 hcc hss
              show va_P D cl (zw base (zad gad base) aC (X.1.set (o - 50) (.inl (ci, fs.set b v)))) H1
              rw [← zw_set]
              simpa [zen, List.map_set] using g1
            show W p l e R s m args below meth c H locs cells slots Q (F0 m pc ls (ztr (zad gad base) v :: .ref (zad gad base o) :: r.map (ztr (zad gad base))))
            rw [zad_hi ho]
            rcases hlk with ⟨hf, hlk | hlk⟩ | ⟨hf, hf2, hf3, hlk⟩
            · exact va_put hexec hb hts q1 ty0 q3 q2 hown hK hP zw_D hS (o - 50) hw hq b hbq (hts _ hlk) (fun x hx => by rw [hre] at hx; exact hx) hf hty f1 f2 (by simpa using h2) hd hk2
            · exact va_putN hexec hb hts q1 ty0 q3 q2 hown hK hP zw_D hS (o - 50) hw hq b hbq (hts _ hlk) (fun x hx => by rw [hre] at hx; exact hx) hf hty f1 f2 (by simpa using h2) hd hk2
            · exact va_putF hexec hb hts q1 ty0 q3 q2 hown hK hP zw_D hS (o - 50) hw hq b hbq (hts _ hlk) (fun x hx => by rw [hre] at hx; exact hx) hf (hinit hf2) (hre.trans hf3) hty f1 f2 (by simpa using h2) hd hk2
          · cases h
        · cases h
    · cases h
  | iastore =>
    have e1 : n = 1 := by simpa [zlk] using hn
    subst e1
    simp only [zc] at h
    split at h
    · rename_i x j o r
      split at h
      · cases h
      · rename_i ho
        split at h
        · rename_i xs hg
          split at h
          · rename_i hi
            cases h
            have hlt : j.toNatClampNeg < xs.length := Nat.not_le.mp fun q => (zin_spec hi) (Or.inr q)
            have hw := zw_get (base := base) (ad := zad gad base) (aC := aC) hg
            show W p l e R s m args below meth c H locs cells slots Q (F0 m pc ls (.int x :: .int j :: .ref (zad gad base o) :: r.map (ztr (zad gad base))))
            rw [zad_hi ho]
            refine va_iast hexec hb hK hP zw_D hS (o - 50) 0 hw (by rfl) (zin_spec hi) hd fun H1 locs1 g1 _ g3 => ?_
            refine k H1 locs1 cells slots ?_ g3 hcc hss
            show va_P D cl (zw base (zad gad base) aC (X.1.set (o - 50) (.inr (.inl (0, xs.set j.toNatClampNeg x))))) H1
            rw [← zw_set]
            rw [zupd hlt] at g1
            simpa [zen] using g1
          · cases h
        · cases h
    · cases h
  | castore =>
    have e1 : n = 1 := by simpa [zlk] using hn
    subst e1
    simp only [zc] at h
    split at h
    · rename_i x j o r
      split at h
      · cases h
      · rename_i ho
        split at h
        · rename_i xs hg
          split at h
          · rename_i hi
            cases h
            have hlt : j.toNatClampNeg < xs.length := Nat.not_le.mp fun q => (zin_spec hi) (Or.inr q)
            have hw := zw_get (base := base) (ad := zad gad base) (aC := aC) hg
            show W p l e R s m args below meth c H locs cells slots Q (F0 m pc ls (.int x :: .int j :: .ref (zad gad base o) :: r.map (ztr (zad gad base))))
            rw [zad_hi ho]
            refine va_cast hexec hb hK hP zw_D hS (o - 50) 1 hw (by rfl) (zin_spec hi) hd fun H1 locs1 g1 _ g3 => ?_
            refine k H1 locs1 cells slots ?_ g3 hcc hss
            show va_P D cl (zw base (zad gad base) aC (X.1.set (o - 50) (.inr (.inl (1, xs.set j.toNatClampNeg (vp_nar .char x)))))) H1
            rw [← zw_set]
            rw [zupd hlt] at g1
            simpa [zen] using g1
          · cases h
        · cases h
    · cases h
  | bastore =>
    have e1 : n = 1 := by simpa [zlk] using hn
    subst e1
    simp only [zc] at h
    split at h
    · rename_i x j o r
      split at h
      · cases h
      · rename_i ho
        split at h
        · rename_i xs hg
          split at h
          · rename_i hi
            cases h
            have hlt : j.toNatClampNeg < xs.length := Nat.not_le.mp fun q => (zin_spec hi) (Or.inr q)
            have hw := zw_get (base := base) (ad := zad gad base) (aC := aC) hg
            show W p l e R s m args below meth c H locs cells slots Q (F0 m pc ls (.int x :: .int j :: .ref (zad gad base o) :: r.map (ztr (zad gad base))))
            rw [zad_hi ho]
            refine va_zast hexec hb hK hP zw_D hS (o - 50) 2 hw (by rfl) (zin_spec hi) hd fun H1 locs1 g1 _ g3 => ?_
            refine k H1 locs1 cells slots ?_ g3 hcc hss
            show va_P D cl (zw base (zad gad base) aC (X.1.set (o - 50) (.inr (.inl (2, xs.set j.toNatClampNeg (vp_nar .boolean x)))))) H1
            rw [← zw_set]
            rw [zupd hlt] at g1
            simpa [zen] using g1
          · cases h
        · cases h
    · cases h
  | lastore =>
    have e1 : n = 1 := by simpa [zlk] using hn
    subst e1
    simp only [zc] at h
    split at h
    · rename_i x j o r
      split at h
      · cases h
      · rename_i ho
        split at h
        · rename_i xs hg
          split at h
          · rename_i hi
            cases h
            have hlt : j.toNatClampNeg < xs.length := Nat.not_le.mp fun q => (zin_spec hi) (Or.inr q)
            have hw := zw_get (base := base) (ad := zad gad base) (aC := aC) hg
            show W p l e R s m args below meth c H locs cells slots Q (F0 m pc ls (.long x :: .int j :: .ref (zad gad base o) :: r.map (ztr (zad gad base))))
            rw [zad_hi ho]
            refine va_last hexec hb hK hP zw_D hS (o - 50) 3 hw (by rfl) (zin_spec hi) hd fun H1 locs1 g1 _ g3 => ?_
            refine k H1 locs1 cells slots ?_ g3 hcc hss
            show va_P D cl (zw base (zad gad base) aC (X.1.set (o - 50) (.inr (.inr (.inl (xs.set j.toNatClampNeg x)))))) H1
            rw [← zw_set]
            rw [zupdL hlt] at g1
            simpa [zen] using g1
          · cases h
        · cases h
    · cases h
  | aastore =>
    have e1 : n = 1 := by simpa [zlk] using hn
    subst e1
    simp only [zc] at h
    split at h
    · rename_i v j o r
      split at h
      · cases h
      · rename_i ho
        split at h
        · rename_i kd xs ci vs hg hg2
          split at h
          · rename_i hi
            cases h
            obtain ⟨h1, h2, hi⟩ := hi
            subst h1
            subst h2
            obtain ⟨t, q, ht, hq⟩ := ok
            have ho1 : ¬ o < 50 := fun z => ho (Or.inl z)
            have ho2 : ¬ v < 50 := fun z => ho (Or.inr z)
            have hlt : j.toNatClampNeg < xs.length := Nat.not_le.mp fun q => (zin_spec hi) (Or.inr q)
            have hw := zw_get (base := base) (ad := zad gad base) (aC := aC) hg
            have hw2 := zw_get (base := base) (ad := zad gad base) (aC := aC) hg2
            have hu := zupdQ (ad := zad gad base) (q := v) hlt
            rw [zad_hi ho2] at hu
            show W p l e R s m args below meth c H locs cells slots Q (F0 m pc ls (.ref (zad gad base v) :: .int j :: .ref (zad gad base o) :: r.map (ztr (zad gad base))))
            rw [zad_hi ho1, zad_hi ho2]
            refine va_astq hexec hb hK hP zw_D hS (o - 50) (4 + t) (v - 50) kd hw (zty_el ht) hw2 hq (zin_spec hi) hd fun H1 locs1 g1 _ g3 => ?_
            refine k H1 locs1 cells slots ?_ g3 hcc hss
            show va_P D cl (zw base (zad gad base) aC (X.1.set (o - 50) (.inr (.inr (.inr (kd, xs.set j.toNatClampNeg (some v))))))) H1
            rw [← zw_set]
            rw [hu] at g1
            simpa [zen] using g1
          · cases h
        · cases h
    · cases h
  | newarray t =>
    have e1 : n = 2 := by simpa [zlk] using hn
    subst e1
    simp only [zc] at h
    split at h
    · rename_i z r
      split at h
      · rename_i hz
        obtain ⟨hm, hz0, hz1⟩ := hz
        cases t with
        | int =>
          cases h
          have hr : ∀ i, (List.replicate z.toNatClampNeg (0 : Int32)).getD i 0 = 0 := fun i => by simp [List.getD_eq_getElem?_getD, List.getElem?_replicate]; split <;> rfl
          refine va_newa hexec hb (hts _ ok) (ty := .int) rfl hK hP zw_D hS hA (a0 := ((List.replicate z.toNatClampNeg (0 : Int32)).length, .inl fun i => (List.replicate z.toNatClampNeg (0 : Int32)).getD i 0)) (N' := z.toNatClampNeg)
            (fun cA => by simp only [vp_cell, hr, List.length_replicate, defaultValue]) hz0 rfl (by simp [componentBytes]; omega) (by have := hR1; simp at this; omega) (by have := hR2; simp at this; omega) hd fun q cA H1 g0 g1 g2 g3 => ?_
          have hcA : cA = aC 0 := by
            have w1 := (hK.2 0 _ rfl).2
            have w2 := (g0.2 (ztys aC el).length (cA, .int) (by simp)).2
            exact Option.some.inj (w2.symm.trans w1)
          subst hcA
          intro T hT Y
          have hq := znew g1 g2 hT Y hsz (by omega)
          subst hq
          have g1' : va_P D cl (zw base (zad gad base) aC (X.1 ++ [.inr (.inl (0, List.replicate z.toNatClampNeg 0))])) H1 := by
              rw [zw_push]
              exact g1
          have e9 : ztr (zad gad base) (.ref (50 + X.1.length)) = .ref (base + X.1.length) := by
            show Value.ref (zad gad base (50 + X.1.length)) = _
            rw [zad_hi (by omega)]
            congr 2
            omega
          have e10 : List.map (ztr (zad gad base)) (Value.ref (50 + X.1.length) :: r) = .ref (base + X.1.length) :: r.map (ztr (zad gad base)) := by rw [List.map_cons, e9]
          have w : W p l e R s m args below meth c H1 locs (cells + 1) (slots + z.toNatClampNeg) Q (F0 m (pc + 2) ls (List.map (ztr (zad gad base)) (Value.ref (50 + X.1.length) :: r))) := k H1 locs (cells + 1) (slots + z.toNatClampNeg) g1' g3 (by show cells + 1 + nc0 = X.2.1 + 1; omega) (by show slots + z.toNatClampNeg + ns0 = X.2.2 + z.toNatClampNeg; omega)
          rw [e10] at w
          exact w T hT Y
        | char =>
          cases h
          have hr : ∀ i, (List.replicate z.toNatClampNeg (0 : Int32)).getD i 0 = 0 := fun i => by simp [List.getD_eq_getElem?_getD, List.getElem?_replicate]; split <;> rfl
          refine va_newa hexec hb (hts _ ok) (ty := .char) rfl hK hP zw_D hS hA (a0 := ((List.replicate z.toNatClampNeg (0 : Int32)).length, .inl fun i => (List.replicate z.toNatClampNeg (0 : Int32)).getD i 0)) (N' := z.toNatClampNeg)
            (fun cA => by simp only [vp_cell, hr, List.length_replicate, defaultValue]) hz0 rfl (by simp [componentBytes]; omega) (by have := hR1; simp at this; omega) (by have := hR2; simp at this; omega) hd fun q cA H1 g0 g1 g2 g3 => ?_
          have hcA : cA = aC 1 := by
            have w1 := (hK.2 1 _ rfl).2
            have w2 := (g0.2 (ztys aC el).length (cA, .char) (by simp)).2
            exact Option.some.inj (w2.symm.trans w1)
          subst hcA
          intro T hT Y
          have hq := znew g1 g2 hT Y hsz (by omega)
          subst hq
          have g1' : va_P D cl (zw base (zad gad base) aC (X.1 ++ [.inr (.inl (1, List.replicate z.toNatClampNeg 0))])) H1 := by
              rw [zw_push]
              exact g1
          have e9 : ztr (zad gad base) (.ref (50 + X.1.length)) = .ref (base + X.1.length) := by
            show Value.ref (zad gad base (50 + X.1.length)) = _
            rw [zad_hi (by omega)]
            congr 2
            omega
          have e10 : List.map (ztr (zad gad base)) (Value.ref (50 + X.1.length) :: r) = .ref (base + X.1.length) :: r.map (ztr (zad gad base)) := by rw [List.map_cons, e9]
          have w : W p l e R s m args below meth c H1 locs (cells + 1) (slots + z.toNatClampNeg) Q (F0 m (pc + 2) ls (List.map (ztr (zad gad base)) (Value.ref (50 + X.1.length) :: r))) := k H1 locs (cells + 1) (slots + z.toNatClampNeg) g1' g3 (by show cells + 1 + nc0 = X.2.1 + 1; omega) (by show slots + z.toNatClampNeg + ns0 = X.2.2 + z.toNatClampNeg; omega)
          rw [e10] at w
          exact w T hT Y
        | boolean =>
          cases h
          have hr : ∀ i, (List.replicate z.toNatClampNeg (0 : Int32)).getD i 0 = 0 := fun i => by simp [List.getD_eq_getElem?_getD, List.getElem?_replicate]; split <;> rfl
          refine va_newa hexec hb (hts _ ok) (ty := .boolean) rfl hK hP zw_D hS hA (a0 := ((List.replicate z.toNatClampNeg (0 : Int32)).length, .inl fun i => (List.replicate z.toNatClampNeg (0 : Int32)).getD i 0)) (N' := z.toNatClampNeg)
            (fun cA => by simp only [vp_cell, hr, List.length_replicate, defaultValue]) hz0 rfl (by simp [componentBytes]; omega) (by have := hR1; simp at this; omega) (by have := hR2; simp at this; omega) hd fun q cA H1 g0 g1 g2 g3 => ?_
          have hcA : cA = aC 2 := by
            have w1 := (hK.2 2 _ rfl).2
            have w2 := (g0.2 (ztys aC el).length (cA, .boolean) (by simp)).2
            exact Option.some.inj (w2.symm.trans w1)
          subst hcA
          intro T hT Y
          have hq := znew g1 g2 hT Y hsz (by omega)
          subst hq
          have g1' : va_P D cl (zw base (zad gad base) aC (X.1 ++ [.inr (.inl (2, List.replicate z.toNatClampNeg 0))])) H1 := by
              rw [zw_push]
              exact g1
          have e9 : ztr (zad gad base) (.ref (50 + X.1.length)) = .ref (base + X.1.length) := by
            show Value.ref (zad gad base (50 + X.1.length)) = _
            rw [zad_hi (by omega)]
            congr 2
            omega
          have e10 : List.map (ztr (zad gad base)) (Value.ref (50 + X.1.length) :: r) = .ref (base + X.1.length) :: r.map (ztr (zad gad base)) := by rw [List.map_cons, e9]
          have w : W p l e R s m args below meth c H1 locs (cells + 1) (slots + z.toNatClampNeg) Q (F0 m (pc + 2) ls (List.map (ztr (zad gad base)) (Value.ref (50 + X.1.length) :: r))) := k H1 locs (cells + 1) (slots + z.toNatClampNeg) g1' g3 (by show cells + 1 + nc0 = X.2.1 + 1; omega) (by show slots + z.toNatClampNeg + ns0 = X.2.2 + z.toNatClampNeg; omega)
          rw [e10] at w
          exact w T hT Y
        | long =>
          cases h
          have hr : ∀ i, (List.replicate z.toNatClampNeg (0 : Int64)).getD i 0 = 0 := fun i => by simp [List.getD_eq_getElem?_getD, List.getElem?_replicate]; split <;> rfl
          refine va_newa hexec hb (hts _ ok) (ty := .long) rfl hK hP zw_D hS hA (a0 := ((List.replicate z.toNatClampNeg (0 : Int64)).length, .inr (.inl fun i => (List.replicate z.toNatClampNeg (0 : Int64)).getD i 0))) (N' := z.toNatClampNeg)
            (fun cA => by simp only [vp_cell, hr, List.length_replicate, defaultValue]) hz0 rfl (by simp [componentBytes]; omega) (by have := hR1; simp at this; omega) (by have := hR2; simp at this; omega) hd fun q cA H1 g0 g1 g2 g3 => ?_
          have hcA : cA = aC 4 := by
            have w1 := (hK.2 3 _ rfl).2
            have w2 := (g0.2 (ztys aC el).length (cA, .long) (by simp)).2
            exact Option.some.inj (w2.symm.trans w1)
          subst hcA
          intro T hT Y
          have hq := znew g1 g2 hT Y hsz (by omega)
          subst hq
          have g1' : va_P D cl (zw base (zad gad base) aC (X.1 ++ [.inr (.inr (.inl (List.replicate z.toNatClampNeg 0)))])) H1 := by
              rw [zw_push]
              exact g1
          have e9 : ztr (zad gad base) (.ref (50 + X.1.length)) = .ref (base + X.1.length) := by
            show Value.ref (zad gad base (50 + X.1.length)) = _
            rw [zad_hi (by omega)]
            congr 2
            omega
          have e10 : List.map (ztr (zad gad base)) (Value.ref (50 + X.1.length) :: r) = .ref (base + X.1.length) :: r.map (ztr (zad gad base)) := by rw [List.map_cons, e9]
          have w : W p l e R s m args below meth c H1 locs (cells + 1) (slots + z.toNatClampNeg) Q (F0 m (pc + 2) ls (List.map (ztr (zad gad base)) (Value.ref (50 + X.1.length) :: r))) := k H1 locs (cells + 1) (slots + z.toNatClampNeg) g1' g3 (by show cells + 1 + nc0 = X.2.1 + 1; omega) (by show slots + z.toNatClampNeg + ns0 = X.2.2 + z.toNatClampNeg; omega)
          rw [e10] at w
          exact w T hT Y
        | _ => cases h
      · cases h
    · cases h
  | anewarray t =>
    have e1 : n = 3 := by simpa [zlk] using hn
    subst e1
    simp only [zc] at h
    split at h
    · rename_i z r
      split at h
      · rename_i hz
        obtain ⟨hm, hz0, hz1⟩ := hz
        cases h
        obtain ⟨j, C, hj, hk1, hk2⟩ := ok
        have hr : ∀ i, ((List.replicate z.toNatClampNeg (none : Option Nat)).getD i none).map (zad gad base) = none := fun i => by simp [List.getD_eq_getElem?_getD, List.getElem?_replicate]; split <;> rfl
        refine va_newq hexec hb hown (hts _ hk1) (show va_AO C s from hts _ hk2) hK hP zw_D hS hA (N' := z.toNatClampNeg)
          hz0 rfl (by omega) (by have := hR1; simp at this; omega) (by have := hR2; simp at this; omega) hd fun q cA H1 g0 g1 g2 g3 => ?_
        have hcA : cA = aC (10 + a) := by
          obtain ⟨_, _, _, _, _, w1⟩ := (hK.2 (4 + j) _ (zty_el hj)).2
          obtain ⟨_, _, _, _, _, w2⟩ := (g0.2 (ztys aC el).length (cA, .object C) (by simp)).2
          exact Option.some.inj (w2.symm.trans w1)
        subst hcA
        intro T hT Y
        have hq := znew g1 g2 hT Y hsz (by omega)
        subst hq
        have g1' : va_P D cl (zw base (zad gad base) aC (X.1 ++ [.inr (.inr (.inr (a, List.replicate z.toNatClampNeg none)))])) H1 := by
            rw [zw_push]
            simp only [zen, hr, List.length_replicate]
            exact g1
        have e9 : ztr (zad gad base) (.ref (50 + X.1.length)) = .ref (base + X.1.length) := by
          show Value.ref (zad gad base (50 + X.1.length)) = _
          rw [zad_hi (by omega)]
          congr 2
          omega
        have e10 : List.map (ztr (zad gad base)) (Value.ref (50 + X.1.length) :: r) = .ref (base + X.1.length) :: r.map (ztr (zad gad base)) := by rw [List.map_cons, e9]
        have w : W p l e R s m args below meth c H1 locs (cells + 1) (slots + z.toNatClampNeg) Q (F0 m (pc + 3) ls (List.map (ztr (zad gad base)) (Value.ref (50 + X.1.length) :: r))) := k H1 locs (cells + 1) (slots + z.toNatClampNeg) g1' g3 (by show cells + 1 + nc0 = X.2.1 + 1; omega) (by show slots + z.toNatClampNeg + ns0 = X.2.2 + z.toNatClampNeg; omega)
        rw [e10] at w
        exact w T hT Y
      · cases h
    · cases h
  | new t =>
    have e1 : n = 3 := by simpa [zlk] using hn
    subst e1
    simp only [zc] at h
    split at h
    · rename_i hz
      obtain ⟨hm, hz0⟩ := hz
      cases h
      rcases ok with hbig | ⟨q, hq, hk1, hk2, hk3, hk4, hk5⟩
      · omega
      obtain ⟨q1, q2, ty0, q3⟩ := hcq q (List.mem_of_getElem? hq)
      refine va_new hexec hb hts q1 ty0 q3 hown (hts _ hk1) (hts _ hk2) (hts _ hk3) hK hP zw_D hS hA hq (fs := (df a).map (ztr (zad gad base))) (fun j hj => ?_) (by have := hR1; simp at this; omega) (by have := hR2; simp at this; omega) hd fun q' H1 g1 g2 g3 => ?_
      · obtain ⟨ty, w1, w2⟩ := hk5 j hj
        have : ty0 j = ty := Option.some.inj ((q3 j hj).symm.trans w1)
        rw [this]
        simp [vp_V, List.getD_eq_getElem?_getD, w2, ztr_def]
      intro T hT Y
      have hq' := znew g1 g2 hT Y hsz (by omega)
      subst hq'
      have g1' : va_P D cl (zw base (zad gad base) aC (X.1 ++ [.inl (a, df a)])) H1 := by
          rw [zw_push]
          exact g1
      have e9 : ztr (zad gad base) (.ref (50 + X.1.length)) = .ref (base + X.1.length) := by
        show Value.ref (zad gad base (50 + X.1.length)) = _
        rw [zad_hi (by omega)]
        congr 2
        omega
      have e10 : List.map (ztr (zad gad base)) (Value.ref (50 + X.1.length) :: st) = .ref (base + X.1.length) :: st.map (ztr (zad gad base)) := by rw [List.map_cons, e9]
      have w : W p l e R s m args below meth c H1 locs (cells + 1) (slots + q.2.2) Q (F0 m (pc + 3) ls (List.map (ztr (zad gad base)) (Value.ref (50 + X.1.length) :: st))) := k H1 locs (cells + 1) (slots + q.2.2) g1' g3 (by show cells + 1 + nc0 = X.2.1 + 1; omega) (by show slots + q.2.2 + ns0 = X.2.2 + (df a).length; omega)
      rw [e10] at w
      exact w T hT Y
    · cases h
  | _ => simp [zc] at h
end zC
