section zM
variable {p : Program} {l : Launch} {e : Env} {R : Room} {s : State} {m : MethodId} {args : Array Value} {below : List Frame} {meth : Method} {c : Code} {H : Heap} {locs : List Loc} {cells slots : Nat} {Q Q' : State → Prop}
variable {t : zT} {D : va_G} {aC : Nat → ClassId} {gad : Nat → Nat} {base : Nat} {G : List zE}
theorem zWmono {g : JFrame} (k : W p l e R s m args below meth c H locs cells slots Q g) (h : ∀ t, Q t → Q' t) : W p l e R s m args below meth c H locs cells slots Q' g := by
  intro T hT X
  obtain ⟨t, a, b⟩ := k T hT X
  exact ⟨t, a, h t b⟩
theorem zcst_of {own : String} {i : Instr} {v : Value} (hU : zU t D aC gad base G s) (hts : ∀ w ∈ zWS t, w.before args s = true) (h : zokv t own i v) : zcst own (zad gad base) args s (fun q => base ≤ q) i v := by
  unfold zokv at h
  unfold zcst
  cases i with
  | ldc k =>
    cases v with
    | int x => exact hts _ h
    | ref g =>
      obtain ⟨tx, h⟩ := h
      exact ⟨tx, hU.2.2.2.1 _ h⟩
    | _ => trivial
  | ldc2_w k =>
    cases v with
    | long x => exact hts _ h
    | _ => trivial
  | getstatic k =>
    obtain ⟨C, n, d, h1, h2⟩ := h
    refine ⟨C, n, d, hU.2.2.1 _ h1, ?_⟩
    rcases h2 with h2 | h2
    · exact Or.inl (hts _ h2)
    · exact Or.inr ⟨_, hts _ h2⟩
  | _ => trivial
/-- the world at an end -/
theorem zIs_end {X : zX} {U : State} (hU : zU t D aC gad base G s) (hP : va_P D (zcl t) (zw base (zad gad base) aC X.1) H) (hS : va_S (fun q => base ≤ q) s.heap H locs) (hbs : base ≤ s.heap.size) (hz : H.size ≤ base + X.2.1) (hh : U.heap = H) (hW : s.WarmedH U.vm) : zIs t D aC gad base G X U :=
  ⟨zU_move hU hW (fun a h1 h2 => by rw [hh]; exact hS.2.1 a h1 h2), by rw [hh]; exact hP, by rw [hh]; exact Nat.le_trans hbs hS.1, by rw [hh]; exact hz⟩
def zQc (t : zT) (D : va_G) (aC : Nat → ClassId) (gad : Nat → Nat) (base : Nat) (G : List zE) (o : zO) (X : zX) : Array Value → State → Outcome → State → Prop := fun _ s oc U => zout t (zad gad base) o oc U ∧ zIs t D aC gad base G X U ∧ va_F (fun q => base ≤ q) s U
theorem zQ_of {nc0 ns0 : Nat} {o : zO} {X : zX} (hcc : cells + nc0 = X.2.1) (hss : slots + ns0 = X.2.2) (U : State) (h : MQ below (zQc t D aC gad base G o X) args s cells slots (fun q => base ≤ q) U) : zQ t D aC gad base G below s nc0 ns0 o X U := by
  obtain ⟨oc, h1, h2, ⟨h3, h4, h8⟩, L, ⟨-, h5, h6⟩, h7⟩ := h
  exact ⟨oc, L, cells, slots, h1, h2, h3, h4, h5, h6, h7, hcc, hss, h8⟩
theorem zret_sound {mi pc a n nc0 ns0 : Nat} {ls : Array Slot} {i : Instr} {st : List Value} {r : Option Value} {X : zX} (F : zF t D aC gad base G p R s m args meth c mi nc0) (hd : decode (zmb t mi) pc = .ok (i, n)) (hn : zlk i n = true) (h : zret i a st = some r) (ok : zokr t mi i a)
    (hP : va_P D (zcl t) (zw base (zad gad base) aC X.1) H) (hS : va_S (fun q => base ≤ q) s.heap H locs) (hcc : cells + nc0 = X.2.1) (hss : slots + ns0 = X.2.2) :
    W p l e R s m args below meth c H locs cells slots (zQ t D aC gad base G below s nc0 ns0 (.inl r) X) (F0 m pc ls (st.map (ztr (zad gad base)))) := by
  obtain ⟨hexec, hcode, hnl, hret, hlocks, hown, hname, htab, hts, hfr, hlo, hU, hbs, hsz⟩ := F
  intro T hT Y
  have hz : H.size ≤ base + X.2.1 := by
    have := Y.heapSize
    rw [hT] at this
    omega
  have hI : ∀ U : State, U.heap = H → s.WarmedH U.vm → zIs t D aC gad base G X U := fun U h1 h2 => zIs_end hU hP hS hbs hz h1 h2
  cases i with
  | ireturn =>
    have e1 : n = 1 := by simpa [zlk] using hn
    subst e1
    simp only [zret] at h
    split at h
    · rename_i x
      split at h
      · rename_i hx
        cases h
        rcases ok with ⟨ha, hr⟩ | ⟨ha, hr⟩ | ⟨ha, hr⟩ | ⟨ha, hr⟩
        · exact zWmono (W.iret (Qc := zQc t D aC gad base G (.inl (some (.int x))) X) (free := fun q => base ≤ q) hexec hcode (hret.trans hr) (fun U h1 h2 => ⟨rfl, hI U h1 h2, hS.F h1⟩) hS.2.2 hd hlocks) (zQ_of hcc hss) T hT Y
        · have hx2 : x = 0 ∨ x = 1 := by
            rcases hx with h | h | h | h
            · omega
            · exact h.2
            · omega
            · omega
          exact zWmono (W.zret (Qc := zQc t D aC gad base G (.inl (some (.int x))) X) (free := fun q => base ≤ q) hexec hcode (hret.trans hr) (by rcases hx2 with rfl | rfl <;> rfl) (fun U h1 h2 => ⟨rfl, hI U h1 h2, hS.F h1⟩) hS.2.2 hd hlocks) (zQ_of hcc hss) T hT Y
        · have hx2 : (x.toUInt32 % 65536).toInt32 = x := by
            rcases hx with h | h | h | h
            · omega
            · omega
            · exact h.2
            · omega
          have hx3 := pk_nc x
          rw [hx2] at hx3
          exact zWmono (W.zret (Qc := zQc t D aC gad base G (.inl (some (.int x))) X) (free := fun q => base ≤ q) hexec hcode (hret.trans hr) hx3 (fun U h1 h2 => ⟨rfl, hI U h1 h2, hS.F h1⟩) hS.2.2 hd hlocks) (zQ_of hcc hss) T hT Y
        · have hx2 : x.toInt8.toInt32 = x := by
            rcases hx with h | h | h | h
            · omega
            · omega
            · omega
            · exact h.2
          have hx3 := pk_nb x
          rw [hx2] at hx3
          exact zWmono (W.zret (Qc := zQc t D aC gad base G (.inl (some (.int x))) X) (free := fun q => base ≤ q) hexec hcode (hret.trans hr) hx3 (fun U h1 h2 => ⟨rfl, hI U h1 h2, hS.F h1⟩) hS.2.2 hd hlocks) (zQ_of hcc hss) T hT Y
      · cases h
    · cases h
  | lreturn =>
    have e1 : n = 1 := by simpa [zlk] using hn
    subst e1
    simp only [zret] at h
    split at h
    · rename_i x
      cases h
      exact zWmono (W.lret (Qc := zQc t D aC gad base G (.inl (some (.long x))) X) (free := fun q => base ≤ q) hexec hcode (hret.trans ok) (fun U h1 h2 => ⟨rfl, hI U h1 h2, hS.F h1⟩) hS.2.2 hd hlocks) (zQ_of hcc hss) T hT Y
    · cases h
  | areturn =>
    have e1 : n = 1 := by simpa [zlk] using hn
    subst e1
    simp only [zret] at h
    split at h
    · rename_i x
      cases h
      obtain ⟨C, hC⟩ := ok
      exact zWmono (W.aret (Qc := zQc t D aC gad base G (.inl (some (.ref x))) X) (free := fun q => base ≤ q) hexec hcode (hret.trans hC) (Or.inl ⟨C, rfl⟩) (Or.inr ⟨_, rfl⟩) (fun U h1 h2 => ⟨rfl, hI U h1 h2, hS.F h1⟩) hS.2.2 hd hlocks) (zQ_of hcc hss) T hT Y
    · cases h
  | return_ =>
    have e1 : n = 1 := by simpa [zlk] using hn
    subst e1
    simp only [zret] at h
    split at h
    · cases h
      exact zWmono (W.vret (Qc := zQc t D aC gad base G (.inl none) X) (free := fun q => base ≤ q) hexec hcode (hret.trans ok) (fun U h1 h2 => ⟨rfl, hI U h1 h2, hS.F h1⟩) hS.2.2 hd hlocks) (zQ_of hcc hss) T hT Y
    · cases h
  | _ => simp [zret] at h
end zM
