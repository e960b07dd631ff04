section zR
variable {G : List zE}
theorem zc_mono {df : Nat → List Value} {i : Instr} {a b c : Nat} {st : List Value} {X : zX} {q : Nat × List Value × zX} (h : zc df i a b c st X = some q) : X.2.1 ≤ q.2.2.2.1 ∧ X.2.2 ≤ q.2.2.2.2 := by
  unfold zc at h
  repeat' split at h
  all_goals first | (cases h; done) | (cases h; exact ⟨Nat.le_refl _, Nat.le_refl _⟩) | (cases h; exact ⟨Nat.le_succ _, Nat.le_add_right _ _⟩)
theorem zd_mono {b : Nat} {st : List Value} {X : zX} {q : List Value × zX} (h : zd b st X = some q) : q.2.2 = X.2 := by
  unfold zd at h
  repeat' split at h
  all_goals first | (cases h; done) | (cases h; rfl)
theorem zmono {cd : Nat → Nat → Option zI} {nl : Nat → Nat} {df : Nat → List Value} {hn : Nat → Nat → Nat → Option Nat} : ∀ (n mi pc : Nat) (lv : zL) (st : List Value) (X : zX) (o : zO) (X' : zX), zev cd nl df hn G n mi pc lv st X = some (o, X') → X.2.1 ≤ X'.2.1 ∧ X.2.2 ≤ X'.2.2 := by
  intro n
  induction n with
  | zero => intro mi pc lv st X o X' h; simp [zev] at h
  | succ n ih =>
    intro mi pc lv st X o X' h
    simp only [zev] at h
    split at h
    · cases h
    · split at h
      · exact ih _ _ _ _ _ _ _ h
      · split at h
        · exact ih _ _ _ _ _ _ _ h
        · split at h
          · rename_i q hq
            have h1 := zc_mono hq
            have h2 := ih _ _ _ _ _ _ _ h
            exact ⟨Nat.le_trans h1.1 h2.1, Nat.le_trans h1.2 h2.2⟩
          · split at h
            · cases h
              exact ⟨Nat.le_refl _, Nat.le_refl _⟩
            · split at h
              · split at h
                · cases h
                  exact ⟨Nat.le_succ _, Nat.le_add_right _ _⟩
                · cases h
              · split at h
                · split at h
                  · split at h
                    · rename_i q hq
                      split at h
                      · have h1 := zd_mono hq
                        have h2 := ih _ _ _ _ _ _ _ h
                        rw [h1] at h2
                        exact h2
                      · cases h
                    · cases h
                  · split at h
                    · split at h
                      · rename_i r X1 hq
                        have h1 := ih _ _ _ _ _ _ _ hq
                        have h2 := ih _ _ _ _ _ _ _ h
                        exact ⟨Nat.le_trans h1.1 h2.1, Nat.le_trans h1.2 h2.2⟩
                      · rename_i x X1 hq
                        have h1 := ih _ _ _ _ _ _ _ hq
                        split at h
                        · cases h
                          exact h1
                        · split at h
                          · have h2 := ih _ _ _ _ _ _ _ h
                            exact ⟨Nat.le_trans h1.1 h2.1, Nat.le_trans h1.2 h2.2⟩
                          · cases h
                      · cases h
                    · cases h
                · cases h
end zR
theorem zhd_spec {cd : Nat → Nat → Option zI} {hn : Nat → Nat → Nat → Option Nat} {nL mi pc x g k : Nat} (hq : zhd cd hn nL mi pc x = some (g, k)) : ∃ h, hn mi pc x = some h ∧ k < nL ∧ ((∃ (k4 : Fin 4) (r : Nat × Nat × Nat × Value), cd mi h = some (.astore_n k4, r) ∧ (k4 : Nat) = k ∧ g = h) ∨ (∃ (r : Nat × Nat × Nat × Value), cd mi h = some (.astore k, r) ∧ g = h + 1)) := by
  unfold zhd at hq
  split at hq
  · cases hq
  · rename_i h1 e1
    split at hq
    · rename_i k4 r hc
      split at hq
      · rename_i hk
        cases hq
        exact ⟨_, e1, hk, Or.inl ⟨k4, r, hc, rfl, rfl⟩⟩
      · cases hq
    · rename_i k5 r hc
      split at hq
      · rename_i hk
        cases hq
        exact ⟨_, e1, hk, Or.inr ⟨r, hc, rfl⟩⟩
      · cases hq
    · cases hq
section zS
variable {t : zT} {D : va_G} {aC : Nat → ClassId} {gad : Nat → Nat} {base : Nat} {G : List zE}
/-- a throw, open -/
def zThrows (t : zT) (D : va_G) (aC : Nat → ClassId) (gad : Nat → Nat) (base : Nat) (G : List zE) (l : Launch) : Prop :=
  ∀ (p : Program) (e : Env) (R : Room) (s : State) (m : MethodId) (args : Array Value) (below : List Frame) (meth : Method) (c : Code) (H : Heap) (locs : List Loc) (cells slots : Nat) (ls : Array Slot) (nc0 ns0 mi pc a : Nat) (lv : zL) (st : List Value) (X : zX) (i : Instr) (b c0 : Nat) (v : Value),
    zF t D aC gad base G p R s m args meth c mi nc0 → lv_has ls (znl t mi) (ztl (zad gad base) lv) → va_P D (zcl t) (zw base (zad gad base) aC X.1) H → va_S (fun q => base ≤ q) s.heap H locs → cells + nc0 = X.2.1 → slots + ns0 = X.2.2 → X.2.1 + 1 ≤ R.cells + nc0 → X.2.2 + 6 ≤ R.slots + ns0 →
    zcd t mi pc = some (i, a, b, c0, v) → zki i = 1 → 100 ≤ a → zthr (zcd t) mi pc a = true → zcat st ≤ 4 →
    W p l e R s m args below meth c H locs cells slots (zQ t D aC gad base G below s nc0 ns0 (.inr a) (X.1, X.2.1 + 1, X.2.2 + 6)) (F0 m pc ls (st.map (ztr (zad gad base))))
/-- a catch, open -/
def zCatches (t : zT) (D : va_G) (aC : Nat → ClassId) (gad : Nat → Nat) (base : Nat) (G : List zE) (l : Launch) : Prop :=
  ∀ (p : Program) (e : Env) (R : Room) (s : State) (m : MethodId) (args : Array Value) (below : List Frame) (meth : Method) (c : Code) (T : State) (locs : List Loc) (cells slots : Nat) (ls : Array Slot) (nc0 mi pc x h : Nat) (st : List Value) (a : Addr) (cell : Cell),
    zF t D aC gad base G p R s m args meth c mi nc0 → Stand p l e R s m args below meth c T locs cells slots → T.heap[a]? = some cell → cell.vm = .none → T.vm.findClass (zxn t x) = some cell.cls → zhn t mi pc x = some h → ¬ zhd (zcd t) (zhn t) (znl t mi) mi pc x = none →
    ∃ vm', Stand p l e R s m args below meth c (T.setVm vm') locs cells slots ∧ ∀ target, Steps p.tables e below ((T.setVm vm').setTop (F0 m h ls [.ref a])) target → Steps p.tables e below ((T.setTop (F0 m pc ls st)).pushFrame (.throwing a)) target
set_option maxHeartbeats 8000000 in
theorem zsound (hST : zST t) (hno : ∀ mi pc x, zhn t mi pc x = none → zhs t mi = []) {l : Launch} (hthr : zThrows t D aC gad base G l) (hcat : zCatches t D aC gad base G l) : ∀ (n mi pc : Nat) (lv : zL) (st : List Value) (X : zX) (o : zO) (X' : zX), zev (zcd t) (znl t) (zdf t) (zhn t) G n mi pc lv st X = some (o, X') →
    ∀ (p : Program) (e : Env) (R : Room) (s : State) (m : MethodId) (args : Array Value) (below : List Frame) (meth : Method) (c : Code) (H : Heap) (locs : List Loc) (cells slots : Nat) (ls : Array Slot) (nc0 ns0 : Nat),
    zF t D aC gad base G p R s m args meth c mi nc0 → lv_has ls (znl t mi) (ztl (zad gad base) lv) → va_P D (zcl t) (zw base (zad gad base) aC X.1) H → va_S (fun q => base ≤ q) s.heap H locs → cells + nc0 = X.2.1 → slots + ns0 = X.2.2 → X'.2.1 ≤ R.cells + nc0 → X'.2.2 ≤ R.slots + ns0 →
    W p l e R s m args below meth c H locs cells slots (zQ t D aC gad base G below s nc0 ns0 o X') (F0 m pc ls (st.map (ztr (zad gad base)))) := by
  obtain ⟨hgood, hcq, h99, hins⟩ := hST
  intro n
  induction n with
  | zero => intro mi pc lv st X o X' h; simp [zev] at h
  | succ n ih =>
    intro mi pc lv st X o X' h p e R s m args below meth c H locs cells slots ls nc0 ns0 F hl hP hS hcc hss hR1 hR2
    have F2 := F
    obtain ⟨hexec, hcode, hnl, hret, hlocks, hown, hname, htab, hts, hfr, hlo, hU, hbs, hsz⟩ := F2
    simp only [zev] at h
    split at h
    · cases h
    · rename_i i a b c0 v hcd
      obtain ⟨⟨len, hd, hlen⟩, ok1, ok2, ok3, ok4, ok5⟩ := hins mi pc i a b c0 v hcd
      split at h
      · rename_i q hq
        exact za_sound hexec hcode hown hS hd hlen hq hl (zcst_of hU hts ok3) fun ls' hl' => ih _ _ _ _ _ _ _ h p e R s m args below meth c H locs cells slots ls' nc0 ns0 F hl' hP hS hcc hss hR1 hR2
      · split at h
        · rename_i q hq
          exact zb_sound hexec hcode hown hts (fun q hq => (hcq q hq).1) h99 hU.1 hU.2.1 hS hP hd hlen hq ok1 (ih _ _ _ _ _ _ _ h p e R s m args below meth c H locs cells slots ls nc0 ns0 F hl hP hS hcc hss hR1 hR2)
        · split at h
          · rename_i q hq
            have hmo := zmono _ _ _ _ _ _ _ _ h
            exact zc_sound hexec hcode hown (fun hf => by rw [hname]; simpa using hf) hts hcq hU.1 hS hbs hsz hP hcc hss hd hlen hq ok2 (by omega) (by omega) fun H1 locs1 cells1 slots1 g1 g2 g3 g4 =>
              ih _ _ _ _ _ _ _ h p e R s m args below meth c H1 locs1 cells1 slots1 ls nc0 ns0 F hl g1 g2 g3 g4 hR1 hR2
          · split at h
            · rename_i r hr
              cases h
              exact zret_sound F hd hlen hr ok4 hP hS hcc hss
            · split at h
              · rename_i hki
                split at h
                · rename_i hc
                  cases h
                  exact hthr p e R s m args below meth c H locs cells slots ls nc0 ns0 mi pc a lv st X i b c0 v F hl hP hS hcc hss hR1 hR2 hcd hki hc.1 hc.2.1 hc.2.2
                · cases h
              · split at h
                · rename_i hki
                  have hi3 : (∃ k, i = .invokevirtual k) ∨ (∃ k, i = .invokespecial k) ∨ ∃ k, i = .invokestatic k := by
                    cases i <;> simp [zki] at hki
                    · exact Or.inr (Or.inl ⟨_, rfl⟩)
                    · exact Or.inr (Or.inr ⟨_, rfl⟩)
                    · exact Or.inl ⟨_, rfl⟩
                  split at h
                  · rename_i ha
                    subst ha
                    split at h
                    · rename_i q hq
                      split at h
                      · rename_i hcq8
                        have hmo := zmono _ _ _ _ _ _ _ _ h
                        have hm2 := zd_mono hq
                        have hi2 : (∃ k, i = .invokespecial k) ∨ ∃ k, i = .invokestatic k := by
                          rcases hi3 with ⟨k, rfl⟩ | h3
                          · exact absurd ok5.1 (by decide)
                          · exact h3
                        rw [hm2] at hmo
                        exact zd_sound F hl.1 hd hlen hq hcq8 ok5 hi2 hP hS (by omega) (by omega) fun H1 locs1 g1 g2 g3 =>
                          ih _ _ _ _ _ _ _ h p e R s m args below meth c H1 locs1 cells slots ls nc0 ns0 F hl g1 g2 (by rw [g3]; exact hcc) (by rw [g3]; exact hss) hR1 hR2
                      · cases h
                    · cases h
                  · split at h
                    · rename_i ha
                      obtain ⟨ha, hc1, hc2, hc3, hc4⟩ := ha
                      subst ha
                      intro T hT Y
                      obtain ⟨e3, hm, vm₁, mk, Y₁, hmk, hstep⟩ := zinv F h99 hd hlen ok5 hi3 hc1 hc4 hP hS hT Y
                      subst e3
                      split at h
                      · rename_i r X1 hcall
                        have hmo := zmono _ _ _ _ _ _ _ _ hcall
                        have hmo2 := zmono _ _ _ _ _ _ _ _ h
                        obtain ⟨t', hst', oc, L, mc, ms, w1, w2, w3, w4, w5, w6, w7, w8, w9, w10⟩ := zcall_in (o1 := .inl r) hgood F hl.1 hd hm hc2 hc3 hP hS hT Y₁ hmk hcc hss hmo (by omega) (by omega) (ih _ _ _ _ _ _ _ hcall)
                        cases w3
                        obtain ⟨T2, Y2, hW2, -, ht2⟩ := Y₁.outOf (g := F0 m pc ls ((st.drop c0).map (ztr (zad gad base)))) rfl (by rw [hcode]; exact hd) w2 w5 w6
                        have hheap : t'.heap = T2.heap := by rw [ht2]; simp [State.setTop, State.modifyTopJava]
                        have hhs : ((T.setVm vm₁).calling (F0 m pc ls ((st.drop c0).map (ztr (zad gad base)))) mk ((st.take c0).reverse.map (ztr (zad gad base))).toArray).heap = H := hT
                        have hS2 : va_S (fun q => base ≤ q) s.heap T2.heap (locs ++ L) := by
                          refine ⟨?_, fun q h1 h2 => ?_, fun q hq => ?_⟩
                          · have := w10.1
                            rw [hhs, hheap] at this
                            exact Nat.le_trans hS.1 this
                          · have h3 := w10.2 q (by rw [hhs]; exact Nat.lt_of_lt_of_le h1 hS.1) h2
                            rw [hhs, hheap] at h3
                            rw [h3]
                            exact hS.2.1 q h1 h2
                          · rcases List.mem_append.mp hq with h3 | h3
                            · exact hS.2.2 q h3
                            · exact w7 q h3
                        have hP2 : va_P D (zcl t) (zw base (zad gad base) aC X1.1) T2.heap := by rw [← hheap]; exact w4.2.1
                        obtain ⟨t3, st3, q3⟩ := ih _ _ _ _ _ _ _ h p e R s m args below meth c T2.heap (locs ++ L) (cells + mc) (slots + ms) ls nc0 ns0 F hl hP2 hS2 (by omega) (by omega) hR1 hR2 T2 rfl Y2
                        refine ⟨t3, hstep _ fun acts => (hst' acts).trans ?_, q3⟩
                        rw [ht2]
                        have e5 : (r.toList ++ st.drop c0).map (ztr (zad gad base)) = (r.map (ztr (zad gad base))).toList ++ (st.drop c0).map (ztr (zad gad base)) := by cases r <;> simp
                        rw [e5] at st3
                        exact st3
                      · rename_i x X1 hcall
                        have hmo := zmono _ _ _ _ _ _ _ _ hcall
                        have hmo3 : X1.2.1 ≤ X'.2.1 ∧ X1.2.2 ≤ X'.2.2 := by
                          split at h
                          · cases h
                            exact ⟨Nat.le_refl _, Nat.le_refl _⟩
                          · split at h
                            · exact zmono _ _ _ _ _ _ _ _ h
                            · cases h
                        obtain ⟨t', hst', oc, L, mc, ms, w1, w2, ⟨a, cell, w3, w3a, w3b, w3c⟩, w4, w5, w6, w7, w8, w9, w10⟩ := zcall_in (o1 := .inr x) hgood F hl.1 hd hm hc2 hc3 hP hS hT Y₁ hmk hcc hss hmo (by omega) (by omega) (ih _ _ _ _ _ _ _ hcall)
                        subst w3
                        obtain ⟨T2, Y2, hW2, -, ht2⟩ := Y₁.outOfThrown (g := F0 m pc ls ((st.drop c0).map (ztr (zad gad base)))) rfl w2 w5 w6
                        have hheap : t'.heap = T2.heap := by rw [ht2]; simp [State.setTop, State.modifyTopJava, State.pushFrame, State.setFrames]
                        have hvm : t'.vm = T2.vm := by rw [ht2]; simp [State.setTop, State.modifyTopJava, State.pushFrame, State.setFrames]
                        have hhs : ((T.setVm vm₁).calling (F0 m pc ls ((st.drop c0).map (ztr (zad gad base)))) mk ((st.take c0).reverse.map (ztr (zad gad base))).toArray).heap = H := hT
                        have hS2 : va_S (fun q => base ≤ q) s.heap T2.heap (locs ++ L) := by
                          refine ⟨?_, fun q h1 h2 => ?_, fun q hq => ?_⟩
                          · have := w10.1
                            rw [hhs, hheap] at this
                            exact Nat.le_trans hS.1 this
                          · have h3 := w10.2 q (by rw [hhs]; exact Nat.lt_of_lt_of_le h1 hS.1) h2
                            rw [hhs, hheap] at h3
                            rw [h3]
                            exact hS.2.1 q h1 h2
                          · rcases List.mem_append.mp hq with h3 | h3
                            · exact hS.2.2 q h3
                            · exact w7 q h3
                        have hP2 : va_P D (zcl t) (zw base (zad gad base) aC X1.1) T2.heap := by rw [← hheap]; exact w4.2.1
                        split at h
                        · rename_i hnone
                          cases h
                          have hs0 := hno mi pc x hnone
                          rw [hs0] at htab
                          have htab0 : c.exceptionTable.toList = [] := List.map_eq_nil_iff.mp htab
                          obtain ⟨v1, v2, v3, v4, v5⟩ := Y2.leaveThrown a (g := F0 m pc ls ((st.drop c0).map (ztr (zad gad base)))) rfl rfl rfl (by rw [htab0]; intro x hx; cases hx) hlocks
                          refine ⟨T2.setFrames (.throwing a :: below), hstep _ fun acts => (hst' acts).trans (by rw [ht2]; exact v1), .threw a, locs ++ L, cells + mc, slots + ms, v2, v3, ⟨a, cell, rfl, ?_, w3b, ?_⟩, zIs_end hU hP2 hS2 hbs ?_ rfl v4, v4, v5, hS2.2.2, by omega, by omega, hS2.F rfl⟩
                          · show T2.heap[a]? = some cell
                            rw [← hheap]
                            exact w3a
                          · show T2.vm.findClass (zxn t x) = some cell.cls
                            rw [← hvm]
                            exact w3c
                          · have := Y2.heapSize
                            omega
                        · split at h
                          · rename_i q hq
                            obtain ⟨hpc, hk⟩ := q
                            obtain ⟨h0, hh0, hk3, hcase⟩ := zhd_spec hq
                            have hh := hcat p e R s m args below meth c T2 (locs ++ L) (cells + mc) (slots + ms) ls nc0 mi pc x h0 ((st.drop c0).map (ztr (zad gad base))) a cell F Y2 (by rw [← hheap]; exact w3a) w3b (by rw [← hvm]; exact w3c) hh0 (by rw [hq]; intro hx; cases hx)
                            obtain ⟨vm₃, Y3, st3⟩ := hh
                            have W3 : W p l e R s m args below meth c T2.heap (locs ++ L) (cells + mc) (slots + ms) (zQ t D aC gad base G below s nc0 ns0 o X') (F0 m h0 ls [.ref a]) := by
                              rcases hcase with ⟨k4, ⟨a4, b4, c4, v4⟩, hk1, hk2, rfl⟩ | ⟨⟨a4, b4, c4, v4⟩, hk1, rfl⟩
                              · obtain ⟨⟨len4, hd4, hlen4⟩, -⟩ := hins mi hpc _ a4 b4 c4 v4 hk1
                                have e4 : len4 = 1 := by simpa [zlk] using hlen4
                                subst e4
                                exact lv_astore_n hexec hcode hd4 hk2 hl hk3 rfl fun ls' hl' => ih _ _ _ _ _ _ _ h p e R s m args below meth c T2.heap (locs ++ L) (cells + mc) (slots + ms) ls' nc0 ns0 F
                                  ⟨hl'.1, hl'.2.1, fun q hq => hl'.2.2 q (List.mem_cons_of_mem _ (by rw [zf1_tr]; exact hq))⟩ hP2 hS2 (by omega) (by omega) hR1 hR2
                              · obtain ⟨⟨len4, hd4, hlen4⟩, -⟩ := hins mi h0 _ a4 b4 c4 v4 hk1
                                have e4 : len4 = 2 := by simpa [zlk] using hlen4
                                subst e4
                                exact lv_astore hexec hcode hd4 hl hk3 rfl fun ls' hl' => ih _ _ _ _ _ _ _ h p e R s m args below meth c T2.heap (locs ++ L) (cells + mc) (slots + ms) ls' nc0 ns0 F
                                  ⟨hl'.1, hl'.2.1, fun q hq => hl'.2.2 q (List.mem_cons_of_mem _ (by rw [zf1_tr]; exact hq))⟩ hP2 hS2 (by omega) (by omega) hR1 hR2
                            obtain ⟨t5, st5, q5⟩ := W3 (T2.setVm vm₃) rfl Y3
                            exact ⟨t5, hstep _ fun acts => (hst' acts).trans (by rw [ht2]; exact st3 _ st5), q5⟩
                          · cases h
                      · cases h
                    · cases h
                · cases h
end zS
