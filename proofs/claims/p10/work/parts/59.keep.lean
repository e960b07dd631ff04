/-! Which fields a method leaves alone, by the instructions of all that it calls. -/
/-- every object stays where it is, of its class; its fields but those of l stay -/
def zkeep (l : List (Nat × Nat)) (M M' : List zE) : Prop := ∀ (k ci : Nat) (fs : List Value), M[k]? = some (.inl (ci, fs)) → ∃ fs', M'[k]? = some (.inl (ci, fs')) ∧ ∀ f, ¬ (ci, f) ∈ l → fs'[f]? = fs[f]?
theorem zkeep_0 (l : List (Nat × Nat)) (M : List zE) : zkeep l M M := fun _ _ fs h => ⟨fs, h, fun _ _ => rfl⟩
theorem zkeep_t {l : List (Nat × Nat)} {M1 M2 M3 : List zE} (h : zkeep l M1 M2) (k : zkeep l M2 M3) : zkeep l M1 M3 := by
  intro j ci fs hj
  obtain ⟨f2, h2, h3⟩ := h j ci fs hj
  obtain ⟨f3, k2, k3⟩ := k j ci f2 h2
  exact ⟨f3, k2, fun f hf => (k3 f hf).trans (h3 f hf)⟩
theorem zkeep_m {l l' : List (Nat × Nat)} {M1 M2 : List zE} (h : zkeep l M1 M2) (hl : ∀ e, e ∈ l → e ∈ l') : zkeep l' M1 M2 := by
  intro j ci fs hj
  obtain ⟨f2, h2, h3⟩ := h j ci fs hj
  exact ⟨f2, h2, fun f hf => h3 f fun he => hf (hl _ he)⟩
/-- an array's cell set anew -/
theorem zkeep_a {l : List (Nat × Nat)} {M : List zE} {j : Nat} {u v : (Nat × List Int32) ⊕ (List Int64 ⊕ (Nat × List (Option Nat)))} (h : M[j]? = some (.inr u)) : zkeep l M (M.set j (.inr v)) := by
  intro k ci fs hk
  have hne : j ≠ k := by
    intro e
    subst e
    cases h.symm.trans hk
  exact ⟨fs, by rw [List.getElem?_set_ne hne]; exact hk, fun _ _ => rfl⟩
theorem zkeep_e {l : List (Nat × Nat)} {M : List zE} {c : zE} : zkeep l M (M ++ [c]) := by
  intro k ci fs hk
  have hlt : k < M.length := (List.getElem?_eq_some_iff.mp hk).1
  exact ⟨fs, by rw [List.getElem?_append_left hlt]; exact hk, fun _ _ => rfl⟩
theorem zkeep_f {l : List (Nat × Nat)} {M : List zE} {j ci b : Nat} {fs : List Value} {v : Value} (h : M[j]? = some (.inl (ci, fs))) (hl : (ci, b) ∈ l) : zkeep l M (M.set j (.inl (ci, fs.set b v))) := by
  intro k ck gs hk
  by_cases hne : j = k
  · subst hne
    cases h.symm.trans hk
    refine ⟨fs.set b v, by rw [List.getElem?_set_self (List.getElem?_eq_some_iff.mp h).1], fun f hf => ?_⟩
    have hbf : b ≠ f := by
      intro e
      subst e
      exact hf hl
    rw [List.getElem?_set_ne hbf]
  · exact ⟨gs, by rw [List.getElem?_set_ne hne]; exact hk, fun _ _ => rfl⟩
/-- what an instruction may write is in l -/
def zwi (i : Instr) (a b : Nat) (l : List (Nat × Nat)) : Bool := match i with
  | .putfield _ => l.elem (a, b)
  | _ => true
theorem zc_keep {df : Nat → List Value} {i : Instr} {a b c : Nat} {st : List Value} {X : zX} {q : Nat × List Value × zX} {l : List (Nat × Nat)} (h : zc df i a b c st X = some q) (hw : zwi i a b l = true) : zkeep l X.1 q.2.2.1 := by
  cases i <;> first | (simp [zc] at h; done) | skip
  all_goals simp only [zc] at h
  all_goals (repeat' split at h) <;> first | (cases h; done) | skip
  all_goals cases h
  all_goals first
    | exact zkeep_e
    | (rename_i hx _; exact zkeep_a hx)
    | (rename_i hx; exact zkeep_a hx)
    | (rename_i hx _ _; exact zkeep_a hx)
    | (rename_i hx hy; obtain ⟨rfl, -⟩ := hy; exact zkeep_f hx (List.elem_iff.mp hw))
theorem zd_keep {b : Nat} {st : List Value} {X : zX} {q : List Value × zX} {l : List (Nat × Nat)} (h : zd b st X = some q) : zkeep l X.1 q.2.1 := by
  unfold zd at h
  split at h
  · split at h
    · cases h; exact zkeep_0 _ _
    · cases h
  · split at h
    · cases h; exact zkeep_0 _ _
    · cases h
  · split at h
    · cases h; exact zkeep_0 _ _
    · cases h
  · split at h
    · split at h
      · cases h
      · split at h
        · rename_i hx hy
          split at h
          · cases h; exact zkeep_a hy
          · cases h
        · cases h
    · cases h
  · cases h
/-- a table: for each method what it may write, itself and by its calls -/
def zclosed (cd : Nat → Nat → Option zI) (tb : List (Nat × List (Nat × Nat))) : Prop := ∀ (mi : Nat) (l : List (Nat × Nat)), tb.lookup mi = some l → ∀ (pc : Nat) (q : zI), cd mi pc = some q → zwi q.1 q.2.1 q.2.2.1 l = true ∧ (zki q.1 = 2 → q.2.1 = 0 → ∃ l', tb.lookup q.2.2.1 = some l' ∧ ∀ e, e ∈ l' → e ∈ l)
theorem zev_keep {cd : Nat → Nat → Option zI} {nl : Nat → Nat} {df : Nat → List Value} {hn : Nat → Nat → Nat → Option Nat} {G : List zE} {tb : List (Nat × List (Nat × Nat))} (ht : zclosed cd tb) :
    ∀ (n mi pc : Nat) (l : List (Nat × Nat)) (lv : zL) (st : List Value) (X : zX) (r : zO × zX), tb.lookup mi = some l → zev cd nl df hn G n mi pc lv st X = some r → zkeep l X.1 r.2.1 := by
  intro n
  induction n with
  | zero => intro mi pc l lv st X r _ h; simp [zev] at h
  | succ n ih =>
    intro mi pc l lv st X r hl h
    rw [zev] at h
    split at h
    · cases h
    · rename_i i a b c v hcd
      obtain ⟨hw, hc⟩ := ht mi l hl pc _ hcd
      split at h
      · exact ih _ _ _ _ _ _ _ hl h
      · split at h
        · exact ih _ _ _ _ _ _ _ hl h
        · split at h
          · rename_i q hq
            exact zkeep_t (zc_keep hq hw) (ih _ _ _ _ _ _ _ hl h)
          · split at h
            · cases h; exact zkeep_0 _ _
            · split at h
              · split at h
                · cases h; exact zkeep_0 _ _
                · cases h
              · split at h
                · rename_i hk
                  split at h
                  · split at h
                    · rename_i q hq
                      split at h
                      · exact zkeep_t (zd_keep hq) (ih _ _ _ _ _ _ _ hl h)
                      · cases h
                    · cases h
                  · split at h
                    · rename_i ha
                      obtain ⟨l', h1, h2⟩ := hc hk ha.1
                      split at h
                      · rename_i r2 X2 hz
                        exact zkeep_t (zkeep_m (ih _ _ _ _ _ _ _ h1 hz) h2) (ih _ _ _ _ _ _ _ hl h)
                      · rename_i x X2 hz
                        have hkx := zkeep_m (ih _ _ _ _ _ _ _ h1 hz) h2
                        split at h
                        · cases h; exact hkx
                        · split at h
                          · exact zkeep_t hkx (ih _ _ _ _ _ _ _ hl h)
                          · cases h
                      · cases h
                    · cases h
                · cases h
