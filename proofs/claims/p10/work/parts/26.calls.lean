section zN
variable {p : Program} {l : Launch} {e : Env} {R : Room} {s : State} {m : MethodId} {args : Array Value} {below : List Frame} {meth : Method} {c : Code} {H : Heap} {locs : List Loc} {cells slots : Nat} {Q Q' : State → Prop}
variable {t : zT} {D : va_G} {aC : Nat → ClassId} {gad : Nat → Nat} {base : Nat} {G : List zE}
theorem zcpy {xs ys : List Int32} {sp dp n : Nat} (h1 : sp + n ≤ xs.length) (h2 : dp + n ≤ ys.length) : va_cpy (fun j => xs.getD j 0) (fun j => ys.getD j 0) sp dp n = fun j => (ys.take dp ++ (xs.drop sp).take n ++ ys.drop (dp + n)).getD j 0 := by
  funext j
  simp only [va_cpy, List.getD_eq_getElem?_getD]
  by_cases ha : j < dp
  · rw [if_neg (by omega), List.append_assoc, List.getElem?_append_left (by simp; omega)]
    simp [List.getElem?_take, ha]
  · by_cases hb : j < dp + n
    · rw [if_pos ⟨by omega, hb⟩, List.getElem?_append_left (by simp; omega), List.getElem?_append_right (by simp; omega)]
      have e1 : (List.take dp ys).length = dp := by simp; omega
      rw [e1, List.getElem?_take, if_pos (by omega), List.getElem?_drop]
    · rw [if_neg (by omega), List.getElem?_append_right (by simp; omega)]
      have e1 : (List.take dp ys ++ List.take n (List.drop sp xs)).length = dp + n := by simp; omega
      rw [e1, List.getElem?_drop]
      congr 2
      omega
theorem zcpy_len {xs ys : List Int32} {sp dp n : Nat} (h1 : sp + n ≤ xs.length) (h2 : dp + n ≤ ys.length) : (ys.take dp ++ (xs.drop sp).take n ++ ys.drop (dp + n)).length = ys.length := by
  simp
  omega
/-- the JDK's own -/
theorem zd_sound {mi pc b c0 n nc0 : Nat} {ls : Array Slot} {i : Instr} {v : Value} {st : List Value} {X : zX} {q : List Value × zX} (F : zF t D aC gad base G p R s m args meth c mi nc0) (hl : ls.size = znl t mi) (hd : decode (zmb t mi) pc = .ok (i, n)) (hn : zlk i n = true) (h : zd b st X = some q) (hq : zcat q.1 ≤ 8) (ok : zokk t mi i 1 b c0 v) (hi : (∃ k, i = .invokespecial k) ∨ ∃ k, i = .invokestatic k)
    (hP : va_P D (zcl t) (zw base (zad gad base) aC X.1) H) (hS : va_S (fun q => base ≤ q) s.heap H locs) (hR1 : cells ≤ R.cells) (hR2 : slots ≤ R.slots)
    (k : ∀ (H1 : Heap) (locs1 : List Loc), va_P D (zcl t) (zw base (zad gad base) aC q.2.1) H1 → va_S (fun q => base ≤ q) s.heap H1 locs1 → q.2.2 = X.2 → W p l e R s m args below meth c H1 locs1 cells slots Q (F0 m (pc + 3) ls (q.1.map (ztr (zad gad base))))) :
    W p l e R s m args below meth c H locs cells slots Q (F0 m pc ls (st.map (ztr (zad gad base)))) := by
  obtain ⟨hexec, hcode, hnl, hret, hlocks, hown, hname, htab, hts, hfr, hlo, hU, hbs, hsz⟩ := F
  have hml : c.maxLocals = ls.size := hnl.trans hl.symm
  rcases hi with ⟨z, rfl⟩ | ⟨z, rfl⟩
  · have e1 : n = 3 := by simpa [zlk] using hn
    subst e1
    obtain ⟨hb0, k1, k2, k3, k4, k5⟩ := ok.2 rfl
    subst hb0
    simp only [zd] at h
    split at h
    · rename_i o r
      cases h
      have hr := lv_room (m := m) (pc := pc) (ls := ls) (rest := (Value.ref (zad gad base o) :: r.map (ztr (zad gad base)))) (st := r.map (ztr (zad gad base))) (by rw [zcat_tr]; exact hq)
      exact W.objInit hexec hcode hown (hts _ k1) (hts _ k2) (hts _ k3) (g := F0 m pc ls (Value.ref (zad gad base o) :: r.map (ztr (zad gad base)))) rfl (by rw [hml]) rfl hd (by omega) (by omega) (k H locs hP hS rfl)
    · cases h
  · have e1 : n = 3 := by simpa [zlk] using hn
    subst e1
    obtain ⟨k1, k2, k3⟩ := ok.2 rfl
    rcases k3 with ⟨hb0, j1, j2, j3, j4⟩ | ⟨hb0, j1, j2, j3, j4⟩ | ⟨hb0, j1, j2, j3, j4⟩
    · subst hb0
      simp only [zd] at h
      split at h
      · rename_i y x r
        cases h
        have hc : (List.map (fun v => v.category) (r.map (ztr (zad gad base)))).sum ≤ 8 := by
          rw [zcat_tr]
          have : zcat (Value.int (if x < y then y else x) :: r) ≤ 8 := hq
          simp [zcat, Value.category] at this ⊢
          omega
        exact va_mmax hexec hcode hml hown (hts _ j1) (hts _ j2) (hts _ j3) (hts _ j4) (by omega) (by omega) hR1 hR2 hd (k H locs hP hS rfl)
      · cases h
    · subst hb0
      simp only [zd] at h
      split at h
      · rename_i y x r
        cases h
        have hc : (List.map (fun v => v.category) (r.map (ztr (zad gad base)))).sum ≤ 8 := by
          rw [zcat_tr]
          have : zcat (Value.int (if y < x then y else x) :: r) ≤ 8 := hq
          simp [zcat, Value.category] at this ⊢
          omega
        exact va_mmin hexec hcode hml hown (hts _ j1) (hts _ j2) (hts _ j3) (hts _ j4) (by omega) (by omega) hR1 hR2 hd (k H locs hP hS rfl)
      · cases h
    · subst hb0
      simp only [zd] at h
      split at h
      · rename_i z1 dp d sp q0 r
        split at h
        · cases h
        · rename_i hne
          split at h
          · rename_i xs ys hx hy
            split at h
            · rename_i hc
              cases h
              obtain ⟨c1, c2, c3, c4, c5⟩ := hc
              have hd1 : ¬ d < 50 := fun z => hne (Or.inl z)
              have hd2 : ¬ q0 < 50 := fun z => hne (Or.inr (Or.inl z))
              have hwx := zw_get (base := base) (ad := zad gad base) (aC := aC) hx
              have hwy := zw_get (base := base) (ad := zad gad base) (aC := aC) hy
              have hcat : (List.map (fun v => v.category) (r.map (ztr (zad gad base)))).sum ≤ 8 := by rw [zcat_tr]; exact hq
              show W p l e R s m args below meth c H locs cells slots Q (F0 m pc ls (.int z1 :: .int dp :: .ref (zad gad base d) :: .int sp :: .ref (zad gad base q0) :: r.map (ztr (zad gad base))))
              rw [zad_hi hd1, zad_hi hd2]
              refine va_copyi hexec hcode hml hown (hts _ j1) (hts _ j2) (hts _ j3) (hts _ j4) hU.1 hP zw_D hS (q0 - 50) (d - 50) 0 0 (ty := .int) hwx hwy (by rfl) (by rfl) rfl c2 c3 c1 c4 c5 (fun _ _ => rfl) (by omega) ?_ hd fun H1 locs1 g1 _ g3 => ?_
              · have : nativeFrameWords "java/lang/System" "arraycopy" 5 + 11 ≤ 52 := by decide
                omega
              · refine k H1 locs1 ?_ g3 rfl
                show va_P D (zcl t) (zw base (zad gad base) aC (X.1.set (d - 50) (.inr (.inl (0, ys.take dp.toNatClampNeg ++ (xs.drop sp.toNatClampNeg).take z1.toNatClampNeg ++ ys.drop (dp.toNatClampNeg + z1.toNatClampNeg)))))) H1
                rw [← zw_set]
                rw [zcpy c4 c5] at g1
                have e2 := zcpy_len c4 c5
                simpa only [zen, e2] using g1
            · cases h
          · cases h
      · cases h
end zN
