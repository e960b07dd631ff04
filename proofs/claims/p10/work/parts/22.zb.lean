/-! The cells: how the interpreter's are laid in the machine's heap. -/
def zen (ad : Nat → Nat) (aC : Nat → ClassId) (c : zE) : va_E := match c with
  | .inl o => .inr (o.1, o.2.map (ztr ad))
  | .inr (.inl x) => .inl (aC x.1, x.2.length, .inl fun j => x.2.getD j 0)
  | .inr (.inr (.inl xs)) => .inl (aC 4, xs.length, .inr (.inl fun j => xs.getD j 0))
  | .inr (.inr (.inr x)) => .inl (aC (10 + x.1), x.2.length, .inr (.inr (.inr (.inr fun j => (x.2.getD j none).map ad))))
def zw (base : Nat) (ad : Nat → Nat) (aC : Nat → ClassId) (M : List zE) : va_W := M.mapIdx fun j c => (base + j, zen ad aC c)
theorem zw_get {base : Nat} {ad : Nat → Nat} {aC : Nat → ClassId} {M : List zE} {j : Nat} {c : zE} (h : M[j]? = some c) : (zw base ad aC M)[j]? = some (base + j, zen ad aC c) := by
  simp [zw, List.getElem?_mapIdx, h]
theorem zw_of {base : Nat} {ad : Nat → Nat} {aC : Nat → ClassId} {M : List zE} {j : Nat} {q : Nat × va_E} (h : (zw base ad aC M)[j]? = some q) : ∃ c, M[j]? = some c ∧ q = (base + j, zen ad aC c) := by
  simp only [zw, List.getElem?_mapIdx] at h
  cases hc : M[j]? with
  | none => rw [hc] at h; cases h
  | some c =>
    rw [hc] at h
    exact ⟨c, rfl, (Option.some.inj h).symm⟩
theorem zw_set {base : Nat} {ad : Nat → Nat} {aC : Nat → ClassId} {M : List zE} {j : Nat} {c : zE} : (zw base ad aC M).set j (base + j, zen ad aC c) = zw base ad aC (M.set j c) := by
  apply List.ext_getElem?
  intro n
  simp only [zw, List.getElem?_set, List.getElem?_mapIdx, List.length_mapIdx]
  by_cases h : j = n
  · subst h
    by_cases hj : j < M.length <;> simp [hj]
  · simp [h]
theorem zw_push {base : Nat} {ad : Nat → Nat} {aC : Nat → ClassId} {M : List zE} {c : zE} : zw base ad aC (M ++ [c]) = zw base ad aC M ++ [(base + M.length, zen ad aC c)] := by
  simp [zw, List.mapIdx_append]
theorem zw_D {base : Nat} {ad : Nat → Nat} {aC : Nat → ClassId} {M : List zE} : va_D (fun q => base ≤ q) (zw base ad aC M) := by
  refine ⟨fun i j p q hi hj he => ?_, fun k q hk => ?_⟩
  · obtain ⟨c1, -, e1⟩ := zw_of hi
    obtain ⟨c2, -, e2⟩ := zw_of hj
    rw [e1, e2] at he
    have : base + i = base + j := he
    omega
  · obtain ⟨c1, -, e1⟩ := zw_of hk
    rw [e1]
    exact Nat.le_add_right _ _
theorem zad_hi {gad : Nat → Nat} {base o : Nat} (h : ¬ o < 50) : zad gad base o = base + (o - 50) := if_neg h
theorem zad_lo {gad : Nat → Nat} {base o : Nat} (h : o < 50) : zad gad base o = gad o := if_pos h
theorem zin_spec {i : Int32} {n : Nat} (h : zin i n = true) : vp_in i n := by
  simp only [zin, Bool.and_eq_true, Bool.not_eq_true', decide_eq_false_iff_not, decide_eq_true_eq] at h
  rintro (h1 | h1)
  · exact h.1 h1
  · omega
/-- what is known of a given cell -/
def zgv (ad : Nat → Nat) (A : Nat → Prop) (U : State) (g : Nat) (c : zE) : Prop := match c with
  | .inl o => o.1 = 99 ∧ va_O "java/lang/String" (ad g) A U U.heap ∧ (∀ v, o.2[0]? = some v → va_OF "java/lang/String" "value" "[B" (ztr ad v) (ad g) A U U.heap) ∧ ∀ v, o.2[1]? = some v → va_OF "java/lang/String" "coder" "B" (ztr ad v) (ad g) A U U.heap
  | .inr (.inl x) => (x.1 = 0 ∧ va_T .int (ad g) x.2.length (fun j => .int (x.2.getD j 0)) A U U.heap) ∨ (x.1 = 3 ∧ va_T .byte (ad g) x.2.length (fun j => .int (x.2.getD j 0)) A U U.heap)
  | _ => False
/-- the array classes -/
def ztys (aC : Nat → ClassId) (el : List (Nat × String)) : List (ClassId × FieldType) := [(aC 0, .int), (aC 1, .char), (aC 2, .boolean), (aC 4, .long)] ++ el.map fun q => (aC (10 + q.1), .object q.2)
/-- what the tables must say of an instruction that reads or writes cells: f: its method may write finals -/
def zfl (WS : List Jvm.Cond) (own host C n d : String) (k : Nat) : Prop := Jvm.Cond.fieldLink own k C n d ∈ WS ∨ Jvm.Cond.fieldLinkNest own k C n d host ∈ WS
def zok (WS : List Jvm.Cond) (cl : List vw_C) (el : List (Nat × String)) (own host : String) (i : Instr) (a b : Nat) : Prop := match i with
  | .getfield k => (a = 99 ∧ b = 0 ∧ Jvm.Cond.fieldLink own k "java/lang/String" "value" "[B" ∈ WS) ∨ (a = 99 ∧ b = 1 ∧ Jvm.Cond.fieldLink own k "java/lang/String" "coder" "B" ∈ WS) ∨
      (a ≠ 99 ∧ ∃ q, cl[a]? = some q ∧ b < q.2.2 ∧ (q.2.1 b).1 = q.1 ∧ zfl WS own host q.1 (q.2.1 b).2.1 (q.2.1 b).2.2.1 k)
  | .aaload => ∃ (j : Nat) (C : String), el[j]? = some (a, C)
  | .arraylength => a = 98 ∨ ∃ (j : Nat) (C : String), el[j]? = some (a, C)
  | _ => True
theorem zty_el {aC : Nat → ClassId} {el : List (Nat × String)} {j a : Nat} {C : String} (h : el[j]? = some (a, C)) : (ztys aC el)[4 + j]? = some (aC (10 + a), .object C) := by
  unfold ztys
  rw [List.getElem?_append_right (by simp)]
  simp [h]
section zB
variable {p : Program} {l : Launch} {e : Env} {R : Room} {s : State} {m : MethodId} {args : Array Value} {below : List Frame} {meth : Method} {c : Code} {H : Heap} {locs : List Loc} {cells slots : Nat} {Q : State → Prop}
variable {cc : ByteArray} {pc : Nat} {ls : Array Slot} {own host : String} {gad : Nat → Nat} {base : Nat} {aC : Nat → ClassId} {D : va_G} {cl : List vw_C} {el : List (Nat × String)} {WS : List Jvm.Cond} {G : List zE}
set_option maxHeartbeats 4000000 in
theorem zb_sound (hexec : p.tables.exec = Jvm.exec) (hb : c.code = cc) {i : Instr} {a b n : Nat} {st : List Value} {X : zX} {q : Nat × List Value} (hown : s.vm.findClass own = some m.cls)
    (hts : ∀ w ∈ WS, w.before args s = true) (hin : ∀ q ∈ cl, ∀ w ∈ u_ws q.1 q.2.1 q.2.2, w ∈ WS) (hcl : cl.length ≤ 99)
    (hK : va_K D cl (ztys aC el) s) (hG : ∀ g x, G[g]? = some x → zgv (zad gad base) (fun q => base ≤ q) s g x) (hS : va_S (fun q => base ≤ q) s.heap H locs)
    (hP : va_P D cl (zw base (zad gad base) aC X.1) H)
    (hd : decode cc pc = .ok (i, n)) (hn : zlk i n = true) (h : zb G i a b st X = some q) (ok : zok WS cl el own host i a b)
    (k : W p l e R s m args below meth c H locs cells slots Q (F0 m (pc + q.1) ls (q.2.map (ztr (zad gad base))))) :
    W p l e R s m args below meth c H locs cells slots Q (F0 m pc ls (st.map (ztr (zad gad base)))) := by
  cases i with
  | getfield z =>
    have e1 : n = 3 := by simpa [zlk] using hn
    subst e1
    simp only [zb] at h
    split at h
    · rename_i o r
      split at h
      · rename_i ci fs hz
        split at h
        · rename_i hci
          subst hci
          split at h
          · rename_i v hv
            cases h
            by_cases ho : o < 50
            · have hg : G[o]? = some (.inl (ci, fs)) := by simpa [zrd, ho] using hz
              obtain ⟨g1, -, g2, g3⟩ := hG _ _ hg
              rcases ok with ⟨-, rfl, hk⟩ | ⟨-, rfl, hk⟩ | ⟨hk, -⟩
              · exact vk_getf hexec hb (g2 v hv) hS hown (hts _ hk) (fun _ h => h) hd k
              · exact vk_getf hexec hb (g3 v hv) hS hown (hts _ hk) (fun _ h => h) hd k
              · exact absurd g1 hk
            · have hg : X.1[o - 50]? = some (.inl (ci, fs)) := by simpa [zrd, ho] using hz
              have hw := zw_get (base := base) (ad := zad gad base) (aC := aC) hg
              have hv2 : (fs.map (ztr (zad gad base)))[b]? = some (ztr (zad gad base) v) := by simp [hv]
              obtain ⟨r2, h2, -⟩ := hP _ _ hw
              have hlt : ci < cl.length := (List.getElem?_eq_some_iff.mp h2).1
              rcases ok with ⟨h1, -⟩ | ⟨h1, -⟩ | ⟨-, q, hq, hbq, hre, hlk⟩
              · omega
              · omega
              · have hqm : q ∈ cl := List.mem_of_getElem? hq
                show W p l e R s m args below meth c H locs cells slots Q (F0 m pc ls (.ref (zad gad base o) :: r.map (ztr (zad gad base))))
                rw [zad_hi ho]
                rcases hlk with hlk | hlk
                · exact va_get hexec hb hts (hin q hqm) hown hK hP (o - 50) hw hq b hbq (hts _ hlk) (fun x hx => by rw [hre] at hx; exact hx) hv2 hd k
                · exact va_getN hexec hb hts (hin q hqm) hown hK hP (o - 50) hw hq b hbq (hts _ hlk) (fun x hx => by rw [hre] at hx; exact hx) hv2 hd k
          · cases h
        · cases h
      · cases h
    · cases h
  | arraylength =>
    have e1 : n = 1 := by simpa [zlk] using hn
    subst e1
    simp only [zb] at h
    split at h
    · rename_i o r
      split at h
      · rename_i kd xs hz
        split at h
        · rename_i hc
          cases h
          by_cases ho : o < 50
          · have hg : G[o]? = some (.inr (.inl (kd, xs))) := by simpa [zrd, ho] using hz
            rcases hG _ _ hg with ⟨-, g1⟩ | ⟨-, g1⟩
            · exact va_tlen hexec hb g1 hS rfl hd k
            · exact va_tlen hexec hb g1 hS rfl hd k
          · have hg : X.1[o - 50]? = some (.inr (.inl (kd, xs))) := by simpa [zrd, ho] using hz
            have hk0 : kd = 0 := hc.resolve_left ho
            subst hk0
            have hw := zw_get (base := base) (ad := zad gad base) (aC := aC) hg
            show W p l e R s m args below meth c H locs cells slots Q (F0 m pc ls (.ref (zad gad base o) :: r.map (ztr (zad gad base))))
            rw [zad_hi ho]
            exact va_alen hexec hb hK hP (o - 50) 0 hw (by rfl) rfl hd k
        · cases h
      · rename_i kd xs hz
        split at h
        · rename_i hc
          cases h
          obtain ⟨hc, hc2⟩ := hc
          subst hc
          by_cases ho : o < 50
          · have hg : G[o]? = some (.inr (.inr (.inr (kd, xs)))) := by simpa [zrd, ho] using hz
            exact absurd (hG _ _ hg) (fun h => h)
          · have hg : X.1[o - 50]? = some (.inr (.inr (.inr (kd, xs)))) := by simpa [zrd, ho] using hz
            have hw := zw_get (base := base) (ad := zad gad base) (aC := aC) hg
            show W p l e R s m args below meth c H locs cells slots Q (F0 m pc ls (.ref (zad gad base o) :: r.map (ztr (zad gad base))))
            rw [zad_hi ho]
            rcases ok with h98 | ⟨j, C, hj⟩
            · exact absurd h98 hc2
            · exact va_alen hexec hb hK hP (o - 50) (4 + j) hw (zty_el hj) rfl hd k
        · cases h
      · cases h
    · cases h
  | iaload =>
    have e1 : n = 1 := by simpa [zlk] using hn
    subst e1
    simp only [zb] at h
    split at h
    · rename_i j o r
      split at h
      · rename_i xs hz
        split at h
        · rename_i hi
          cases h
          by_cases ho : o < 50
          · have hg : G[o]? = some (.inr (.inl (0, xs))) := by simpa [zrd, ho] using hz
            rcases hG _ _ hg with ⟨g0, g1⟩ | ⟨g0, g1⟩
            · exact va_ti hexec hb g1 hS (zin_spec hi) rfl hd k
            · cases g0
          · have hg : X.1[o - 50]? = some (.inr (.inl (0, xs))) := by simpa [zrd, ho] using hz
            have hw := zw_get (base := base) (ad := zad gad base) (aC := aC) hg
            show W p l e R s m args below meth c H locs cells slots Q (F0 m pc ls (.int j :: .ref (zad gad base o) :: r.map (ztr (zad gad base))))
            rw [zad_hi ho]
            exact va_iald hexec hb hK hP (o - 50) 0 hw (by rfl) (zin_spec hi) hd k
        · cases h
      · cases h
    · cases h
  | caload =>
    have e1 : n = 1 := by simpa [zlk] using hn
    subst e1
    simp only [zb] at h
    split at h
    · rename_i j o r
      split at h
      · rename_i xs hz
        split at h
        · rename_i hi
          cases h
          by_cases ho : o < 50
          · have hg : G[o]? = some (.inr (.inl (1, xs))) := by simpa [zrd, ho] using hz
            rcases hG _ _ hg with ⟨g0, g1⟩ | ⟨g0, g1⟩
            · cases g0
            · cases g0
          · have hg : X.1[o - 50]? = some (.inr (.inl (1, xs))) := by simpa [zrd, ho] using hz
            have hw := zw_get (base := base) (ad := zad gad base) (aC := aC) hg
            show W p l e R s m args below meth c H locs cells slots Q (F0 m pc ls (.int j :: .ref (zad gad base o) :: r.map (ztr (zad gad base))))
            rw [zad_hi ho]
            exact va_cald hexec hb hK hP (o - 50) 1 hw (by rfl) (zin_spec hi) hd k
        · cases h
      · cases h
    · cases h
  | baload =>
    have e1 : n = 1 := by simpa [zlk] using hn
    subst e1
    simp only [zb] at h
    split at h
    · rename_i j o r
      split at h
      · rename_i xs hz
        split at h
        · rename_i hi
          cases h
          by_cases ho : o < 50
          · have hg : G[o]? = some (.inr (.inl (2, xs))) := by simpa [zrd, ho] using hz
            rcases hG _ _ hg with ⟨g0, g1⟩ | ⟨g0, g1⟩
            · cases g0
            · cases g0
          · have hg : X.1[o - 50]? = some (.inr (.inl (2, xs))) := by simpa [zrd, ho] using hz
            have hw := zw_get (base := base) (ad := zad gad base) (aC := aC) hg
            show W p l e R s m args below meth c H locs cells slots Q (F0 m pc ls (.int j :: .ref (zad gad base o) :: r.map (ztr (zad gad base))))
            rw [zad_hi ho]
            exact va_zald hexec hb hK hP (o - 50) 2 hw (by rfl) (zin_spec hi) hd k
        · cases h
      · rename_i xs hz
        split at h
        · rename_i hi
          cases h
          have hg : G[o]? = some (.inr (.inl (3, xs))) := by simpa [zrd, hi.1] using hz
          rcases hG _ _ hg with ⟨g0, g1⟩ | ⟨g0, g1⟩
          · cases g0
          · exact va_tb hexec hb g1 hS (zin_spec hi.2) rfl hd k
        · cases h
      · cases h
    · cases h
  | laload =>
    have e1 : n = 1 := by simpa [zlk] using hn
    subst e1
    simp only [zb] at h
    split at h
    · rename_i j o r
      split at h
      · rename_i xs hz
        split at h
        · rename_i hi
          cases h
          by_cases ho : o < 50
          · have hg : G[o]? = some (.inr (.inr (.inl xs))) := by simpa [zrd, ho] using hz
            exact absurd (hG _ _ hg) (fun h => h)
          · have hg : X.1[o - 50]? = some (.inr (.inr (.inl xs))) := by simpa [zrd, ho] using hz
            have hw := zw_get (base := base) (ad := zad gad base) (aC := aC) hg
            show W p l e R s m args below meth c H locs cells slots Q (F0 m pc ls (.int j :: .ref (zad gad base o) :: r.map (ztr (zad gad base))))
            rw [zad_hi ho]
            exact va_lald hexec hb hK hP (o - 50) 3 hw (by rfl) (zin_spec hi) hd k
        · cases h
      · cases h
    · cases h
  | aaload =>
    have e1 : n = 1 := by simpa [zlk] using hn
    subst e1
    simp only [zb] at h
    split at h
    · rename_i j o r
      split at h
      · rename_i kd xs hz
        split at h
        · rename_i hi
          split at h
          · rename_i q hq
            cases h
            obtain ⟨hi1, hi2⟩ := hi
            subst hi1
            by_cases ho : o < 50
            · have hg : G[o]? = some (.inr (.inr (.inr (kd, xs)))) := by simpa [zrd, ho] using hz
              exact absurd (hG _ _ hg) (fun h => h)
            · have hg : X.1[o - 50]? = some (.inr (.inr (.inr (kd, xs)))) := by simpa [zrd, ho] using hz
              have hw := zw_get (base := base) (ad := zad gad base) (aC := aC) hg
              show W p l e R s m args below meth c H locs cells slots Q (F0 m pc ls (.int j :: .ref (zad gad base o) :: r.map (ztr (zad gad base))))
              rw [zad_hi ho]
              obtain ⟨t, C, ht⟩ := ok
              refine va_aldq hexec hb hK hP (o - 50) (4 + t) hw (zty_el ht) (zin_spec hi2) hd ?_
              rw [hq]
              exact k
          · cases h
        · cases h
      · cases h
    · cases h
  | _ => simp [zb] at h
end zB
