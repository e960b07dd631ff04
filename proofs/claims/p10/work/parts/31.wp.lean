/-! Above the machine: what a run of the interpreter comes to. -/
section zW1
variable {cd : Nat → Nat → Option zI} {nl : Nat → Nat} {df : Nat → List Value} {hn : Nat → Nat → Nat → Option Nat} {G : List zE}
theorem zev_succ : ∀ (n mi pc : Nat) (lv : zL) (st : List Value) (X : zX) (r : zO × zX), zev cd nl df hn G n mi pc lv st X = some r → zev cd nl df hn G (n + 1) mi pc lv st X = some r := by
  intro n
  induction n with
  | zero => intro mi pc lv st X r h; simp [zev] at h
  | succ n ih =>
    intro mi pc lv st X r h
    rw [zev] at h
    rw [zev]
    split at h
    · cases h
    · rename_i i a b c v hcd
      try simp only [hcd]
      split at h
      · rename_i q hq
        try simp only [hq]
        exact ih _ _ _ _ _ _ h
      · rename_i hq
        try simp only [hq]
        split at h
        · rename_i q hq2
          try simp only [hq2]
          exact ih _ _ _ _ _ _ h
        · rename_i hq2
          try simp only [hq2]
          split at h
          · rename_i q hq3
            try simp only [hq3]
            exact ih _ _ _ _ _ _ h
          · rename_i hq3
            try simp only [hq3]
            split at h
            · rename_i r2 hq4
              try simp only [hq4]
              exact h
            · rename_i hq4
              try simp only [hq4]
              split at h
              · rename_i hk
                rw [if_pos hk]
                exact h
              · rename_i hk
                rw [if_neg hk]
                split at h
                · rename_i hk2
                  rw [if_pos hk2]
                  split at h
                  · rename_i ha
                    rw [if_pos ha]
                    split at h
                    · rename_i q hz
                      try simp only [hz]
                      split at h
                      · rename_i h8
                        rw [if_pos h8]
                        exact ih _ _ _ _ _ _ h
                      · cases h
                    · cases h
                  · rename_i ha
                    rw [if_neg ha]
                    split at h
                    · rename_i hc
                      rw [if_pos hc]
                      split at h
                      · rename_i r2 X2 hz
                        rw [ih _ _ _ _ _ _ hz]
                        exact ih _ _ _ _ _ _ h
                      · rename_i x X2 hz
                        rw [ih _ _ _ _ _ _ hz]
                        dsimp only
                        split at h
                        · rename_i hh
                          try simp only [hh]
                          exact h
                        · rename_i y hh
                          try simp only [hh]
                          split at h
                          · rename_i q hq
                            try simp only [hq]
                            exact ih _ _ _ _ _ _ h
                          · cases h
                      · cases h
                    · cases h
                · cases h
theorem zev_le {n k mi pc : Nat} {lv : zL} {st : List Value} {X : zX} {r : zO × zX} (hk : n ≤ k) (h : zev cd nl df hn G n mi pc lv st X = some r) : zev cd nl df hn G k mi pc lv st X = some r := by
  obtain ⟨d, rfl⟩ := Nat.exists_eq_add_of_le hk
  induction d with
  | zero => exact h
  | succ d ih => exact zev_succ _ _ _ _ _ _ _ (ih (by omega))
end zW1
def zwp (t : zT) (G : List zE) (mi pc : Nat) (lv : zL) (st : List Value) (X : zX) (Q : zO → zX → Prop) : Prop := ∃ (n : Nat) (o : zO) (X' : zX), zev (zcd t) (znl t) (zdf t) (zhn t) G n mi pc lv st X = some (o, X') ∧ Q o X'
/-- one instruction that is no call and no end -/
def zstp (t : zT) (G : List zE) (mi pc : Nat) (lv : zL) (st : List Value) (X : zX) : Option (Nat × zL × List Value × zX) := match zcd t mi pc with
  | none => none
  | some (i, a, b, c, v) => match za i v (znl t mi) pc lv st with
    | some q => some (q.1, q.2.1, q.2.2, X)
    | none => match zb G i a b st X with
      | some q => some (pc + q.1, lv, q.2, X)
      | none => match zc (zdf t) i a b c st X with
        | some q => some (pc + q.1, lv, q.2.1, q.2.2)
        | none => none
def zrun (t : zT) (G : List zE) (mi : Nat) : Nat → Nat × zL × List Value × zX → Option (Nat × zL × List Value × zX)
  | 0, s => some s
  | n + 1, s => match zstp t G mi s.1 s.2.1 s.2.2.1 s.2.2.2 with
    | none => none
    | some s' => zrun t G mi n s'
section zW2
variable {t : zT} {G : List zE} {mi pc : Nat} {lv : zL} {st : List Value} {X : zX} {Q Q' : zO → zX → Prop}
theorem zwp_mono (h : zwp t G mi pc lv st X Q) (hq : ∀ o X', Q o X' → Q' o X') : zwp t G mi pc lv st X Q' := by
  obtain ⟨n, o, X', h1, h2⟩ := h
  exact ⟨n, o, X', h1, hq o X' h2⟩
theorem zwp_s {s' : Nat × zL × List Value × zX} (h : zstp t G mi pc lv st X = some s') (k : zwp t G mi s'.1 s'.2.1 s'.2.2.1 s'.2.2.2 Q) : zwp t G mi pc lv st X Q := by
  obtain ⟨n, o, X', h1, h2⟩ := k
  refine ⟨n + 1, o, X', ?_, h2⟩
  unfold zstp at h
  rw [zev]
  split at h
  · cases h
  · rename_i i a b c v hcd
    try simp only [hcd]
    split at h
    · rename_i q hq
      cases h
      try simp only [hq]
      exact h1
    · rename_i hq
      try simp only [hq]
      split at h
      · rename_i q hq2
        cases h
        try simp only [hq2]
        exact h1
      · rename_i hq2
        try simp only [hq2]
        split at h
        · rename_i q hq3
          cases h
          try simp only [hq3]
          exact h1
        · cases h
theorem zwp_r {s s' : Nat × zL × List Value × zX} (n : Nat) (h : zrun t G mi n s = some s') (k : zwp t G mi s'.1 s'.2.1 s'.2.2.1 s'.2.2.2 Q) : zwp t G mi s.1 s.2.1 s.2.2.1 s.2.2.2 Q := by
  induction n generalizing s with
  | zero => cases h; exact k
  | succ n ih =>
    rw [zrun] at h
    split at h
    · cases h
    · rename_i s2 h2
      exact zwp_s h2 (ih h)
/-- an instruction that is none of the first three kinds -/
def zoff (t : zT) (G : List zE) (mi pc : Nat) (lv : zL) (st : List Value) (X : zX) (i : Instr) (a b c : Nat) (v : Value) : Prop := zcd t mi pc = some (i, a, b, c, v) ∧ za i v (znl t mi) pc lv st = none ∧ zb G i a b st X = none ∧ zc (zdf t) i a b c st X = none
theorem zwp_ret {i : Instr} {a b c : Nat} {v : Value} {r : Option Value} (h : zoff t G mi pc lv st X i a b c v) (hr : zret i a st = some r) (k : Q (.inl r) X) : zwp t G mi pc lv st X Q := by
  obtain ⟨h1, h2, h3, h4⟩ := h
  refine ⟨1, .inl r, X, ?_, k⟩
  rw [zev]
  simp only [h1, h2, h3, h4, hr]
theorem zwp_thr {i : Instr} {a b c : Nat} {v : Value} (h : zoff t G mi pc lv st X i a b c v) (hr : zret i a st = none) (hk : zki i = 1) (h5 : 100 ≤ a ∧ zthr (zcd t) mi pc a = true ∧ zcat st ≤ 4) (k : Q (.inr a) (X.1, X.2.1 + 1, X.2.2 + 6)) : zwp t G mi pc lv st X Q := by
  obtain ⟨h1, h2, h3, h4⟩ := h
  refine ⟨1, .inr a, (X.1, X.2.1 + 1, X.2.2 + 6), ?_, k⟩
  rw [zev]
  simp only [h1, h2, h3, h4, hr]
  rw [if_pos hk, if_pos h5]
theorem zwp_jdk {i : Instr} {a b c : Nat} {v : Value} {q : List Value × zX} (h : zoff t G mi pc lv st X i a b c v) (hr : zret i a st = none) (hk : zki i = 2) (ha : a = 1) (hd : zd b st X = some q) (h8 : zcat q.1 ≤ 8) (k : zwp t G mi (pc + 3) lv q.1 q.2 Q) : zwp t G mi pc lv st X Q := by
  obtain ⟨h1, h2, h3, h4⟩ := h
  obtain ⟨n, o, X', k1, k2⟩ := k
  refine ⟨n + 1, o, X', ?_, k2⟩
  rw [zev]
  simp only [h1, h2, h3, h4, hr]
  rw [if_neg (by omega), if_pos hk, if_pos ha]
  simp only [hd]
  rw [if_pos h8]
  exact k1
/-- a call of a method of the tables: what it comes to, and how the caller goes on -/
theorem zwp_call {i : Instr} {a b c : Nat} {v : Value} (h : zoff t G mi pc lv st X i a b c v) (hr : zret i a st = none) (hk : zki i = 2) (hc : a = 0 ∧ c ≤ st.length ∧ zcat (st.drop c) ≤ 8 ∧ zcat (st.take c) ≤ znl t b ∧ zrcv G X v (st.take c).reverse = true)
    (k : zwp t G b 0 (lv_args 0 (st.take c).reverse) [] X (fun o X' => match o with
      | .inl r => zwp t G mi (pc + 3) lv (r.toList ++ st.drop c) X' Q
      | .inr x => (zhn t mi pc x = none ∧ Q (.inr x) X') ∨ ∃ q, zhn t mi pc x ≠ none ∧ zhd (zcd t) (zhn t) (znl t mi) mi pc x = some q ∧ zwp t G mi (q.1 + 1) (zf1 q.2 lv) [] X' Q)) : zwp t G mi pc lv st X Q := by
  obtain ⟨h1, h2, h3, h4⟩ := h
  obtain ⟨n, o, X1, k1, k2⟩ := k
  have hne : ¬ zki i = 1 := by omega
  have hna : ¬ a = 1 := by omega
  cases o with
  | inl r =>
    obtain ⟨n2, o2, X2, k3, k4⟩ := k2
    refine ⟨n + n2 + 1, o2, X2, ?_, k4⟩
    rw [zev]
    simp only [h1, h2, h3, h4, hr]
    rw [if_neg hne, if_pos hk, if_neg hna, if_pos hc, zev_le (by omega) k1]
    exact zev_le (by omega) k3
  | inr x =>
    rcases k2 with ⟨k3, k4⟩ | ⟨q, k3, k4, n2, o2, X2, k5, k6⟩
    · refine ⟨n + 1, .inr x, X1, ?_, k4⟩
      rw [zev]
      simp only [h1, h2, h3, h4, hr]
      rw [if_neg hne, if_pos hk, if_neg hna, if_pos hc, k1]
      simp only [k3]
    · refine ⟨n + n2 + 1, o2, X2, ?_, k6⟩
      rw [zev]
      simp only [h1, h2, h3, h4, hr]
      rw [if_neg hne, if_pos hk, if_neg hna, if_pos hc, zev_le (by omega) k1]
      dsimp only
      cases hh : zhn t mi pc x with
      | none => exact absurd hh k3
      | some y =>
        simp only [k4]
        exact zev_le (by omega) k5
end zW2
