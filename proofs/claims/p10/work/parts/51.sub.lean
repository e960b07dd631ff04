/-! More tables, more given cells: the same runs. -/
theorem zb_kind {G : List zE} {df : Nat → List Value} {i : Instr} {a b c : Nat} {st : List Value} {X : zX} {q : Nat × List Value} (h : zb G i a b st X = some q) : zc df i a b c st X = none ∧ zret i a st = none ∧ zki i = 0 := by
  cases i <;> first | (simp [zb] at h; done) | exact ⟨rfl, rfl, rfl⟩
theorem zrd_sub {G1 G2 : List zE} (hG : ∀ (k : Nat) (c : zE), G1[k]? = some c → G2[k]? = some c ∨ c = .inr (.inr (.inl []))) {X : zX} {k : Nat} {c : zE} (h : zrd G1 X k = some c) : zrd G2 X k = some c ∨ c = .inr (.inr (.inl [])) := by
  unfold zrd at h ⊢
  split at h
  · rename_i hk
    rw [if_pos hk]
    exact hG _ _ h
  · rename_i hk
    rw [if_neg hk]
    exact Or.inl h
theorem zb_sub {G1 G2 : List zE} (hG : ∀ (k : Nat) (c : zE), G1[k]? = some c → G2[k]? = some c ∨ c = .inr (.inr (.inl []))) {i : Instr} {a b : Nat} {st : List Value} {X : zX} {q : Nat × List Value} (h : zb G1 i a b st X = some q) : zb G2 i a b st X = some q := by
  cases i <;> first | (simp [zb] at h; done) | skip
  all_goals
    simp only [zb] at h ⊢
    split at h
    · split at h
      all_goals first
        | (cases h; done)
        | (rename_i hz
           rcases zrd_sub hG hz with hz2 | hz2
           · simp only [hz2]
             exact h
           · first
             | (cases hz2; done)
             | (cases hz2; simp [zin] at h; done))
    · cases h
theorem zrcv_sub {G1 G2 : List zE} (hG : ∀ (k : Nat) (c : zE), G1[k]? = some c → G2[k]? = some c ∨ c = .inr (.inr (.inl []))) {X : zX} {v : Value} {as : List Value} (h : zrcv G1 X v as = true) : zrcv G2 X v as = true := by
  unfold zrcv at h ⊢
  split at h
  · split at h
    · split at h
      · rename_i hz
        rcases zrd_sub hG hz with hz2 | hz2
        · simp only [hz2]
          exact h
        · cases hz2
      · cases h
    · cases h
  · rfl
theorem zthr_sub {cd1 cd2 : Nat → Nat → Option zI} (hcd : ∀ mi pc q, cd1 mi pc = some q → cd2 mi pc = some q) {mi pc x : Nat} (h : zthr cd1 mi pc x = true) : zthr cd2 mi pc x = true := by
  unfold zthr at h ⊢
  split at h
  · rename_i h1 h2 h3 h4
    simp only [hcd _ _ _ h1, hcd _ _ _ h2, hcd _ _ _ h3, hcd _ _ _ h4]
    exact h
  · cases h
theorem zhd_sub {cd1 cd2 : Nat → Nat → Option zI} {hn : Nat → Nat → Nat → Option Nat} (hcd : ∀ mi pc q, cd1 mi pc = some q → cd2 mi pc = some q) {nL mi pc x : Nat} {q : Nat × Nat} (h : zhd cd1 hn nL mi pc x = some q) : zhd cd2 hn nL mi pc x = some q := by
  unfold zhd at h ⊢
  split at h
  · cases h
  · rename_i hh e1
    try simp only [e1]
    split at h
    · rename_i hc
      simp only [hcd _ _ _ hc]
      exact h
    · rename_i hc
      simp only [hcd _ _ _ hc]
      exact h
    · cases h
set_option maxHeartbeats 4000000 in
theorem zev_sub {cd1 cd2 : Nat → Nat → Option zI} {nl : Nat → Nat} {df : Nat → List Value} {hn : Nat → Nat → Nat → Option Nat} {G1 G2 : List zE} (hcd : ∀ mi pc q, cd1 mi pc = some q → cd2 mi pc = some q) (hG : ∀ (k : Nat) (c : zE), G1[k]? = some c → G2[k]? = some c ∨ c = .inr (.inr (.inl []))) :
    ∀ (n mi pc : Nat) (lv : zL) (st : List Value) (X : zX) (r : zO × zX), zev cd1 nl df hn G1 n mi pc lv st X = some r → zev cd2 nl df hn G2 n mi pc lv st X = some r := by
  intro n
  induction n with
  | zero => intro mi pc lv st X r h; simp [zev] at h
  | succ n ih =>
    intro mi pc lv st X r h
    rw [zev] at h ⊢
    cases hc : cd1 mi pc with
    | none => rw [hc] at h; cases h
    | some e =>
      obtain ⟨i, a, b, c, v⟩ := e
      rw [hc] at h
      rw [hcd _ _ _ hc]
      dsimp only at h ⊢
      cases ha : za i v (nl mi) pc lv st with
      | some q =>
        rw [ha] at h
        exact ih _ _ _ _ _ _ h
      | none =>
        rw [ha] at h
        dsimp only at h ⊢
        cases hb1 : zb G1 i a b st X with
        | some q =>
          rw [hb1] at h
          rw [zb_sub hG hb1]
          exact ih _ _ _ _ _ _ h
        | none =>
          rw [hb1] at h
          dsimp only at h
          cases hb2 : zb G2 i a b st X with
          | some q =>
            exfalso
            obtain ⟨k1, k2, k3⟩ := zb_kind (df := df) (c := c) hb2
            rw [k1, k2, k3] at h
            simp at h
          | none =>
            dsimp only
            cases hc2 : zc df i a b c st X with
            | some q =>
              rw [hc2] at h
              exact ih _ _ _ _ _ _ h
            | none =>
              rw [hc2] at h
              dsimp only at h ⊢
              cases hr : zret i a st with
              | some w =>
                rw [hr] at h
                exact h
              | none =>
                rw [hr] at h
                dsimp only at h ⊢
                split at h
                · rename_i hk
                  rw [if_pos hk]
                  split at h
                  · rename_i h5
                    rw [if_pos ⟨h5.1, zthr_sub hcd h5.2.1, h5.2.2⟩]
                    exact h
                  · cases h
                · rename_i hk
                  rw [if_neg hk]
                  split at h
                  · rename_i hk2
                    rw [if_pos hk2]
                    split at h
                    · rename_i ha1
                      rw [if_pos ha1]
                      cases hd : zd b st X with
                      | none => rw [hd] at h; cases h
                      | some q =>
                        rw [hd] at h
                        dsimp only at h ⊢
                        split at h
                        · rename_i h8
                          rw [if_pos h8]
                          exact ih _ _ _ _ _ _ h
                        · cases h
                    · rename_i ha1
                      rw [if_neg ha1]
                      split at h
                      · rename_i h5
                        rw [if_pos ⟨h5.1, h5.2.1, h5.2.2.1, h5.2.2.2.1, zrcv_sub hG h5.2.2.2.2⟩]
                        cases hcall : zev cd1 nl df hn G1 n b 0 (lv_args 0 (st.take c).reverse) [] X with
                        | none => rw [hcall] at h; cases h
                        | some w =>
                          rw [hcall] at h
                          rw [ih _ _ _ _ _ _ hcall]
                          obtain ⟨w1, w2⟩ := w
                          cases w1 with
                          | inl r1 =>
                            dsimp only at h ⊢
                            exact ih _ _ _ _ _ _ h
                          | inr x =>
                            dsimp only at h ⊢
                            cases hh : hn mi pc x with
                            | none =>
                              rw [hh] at h
                              exact h
                            | some y =>
                              rw [hh] at h
                              dsimp only at h ⊢
                              cases hz : zhd cd1 hn (nl mi) mi pc x with
                              | none => rw [hz] at h; cases h
                              | some q =>
                                rw [hz] at h
                                rw [zhd_sub hcd hz]
                                exact ih _ _ _ _ _ _ h
                      · cases h
                  · cases h
theorem zcd0_sub (v0 : Value) (mi pc : Nat) (q : zI) (h : zcd0 mi pc = some q) : zcd (zt v0) mi pc = some q := by
  unfold zcd0 at h
  split at h
  · cases h
  · rename_i hmi
    have h' : (((zKS .null)[mi]?).getD []).lookup pc = some q := h
    show (((zKS v0)[mi]?).getD []).lookup pc = some q
    rw [zks_set, List.getElem?_set_ne (fun h => hmi h.symm)]
    exact h'
theorem zG0_sub (xs : List Int32) (k : Nat) (c : zE) (h : zG0[k]? = some c) : (zG xs)[k]? = some c ∨ c = .inr (.inr (.inl [])) := by
  match k, h with
  | 0, h => cases h; exact Or.inr rfl
  | k + 1, h => exact Or.inl h
theorem zt_nl (v0 : Value) : znl (zt v0) = zNLf := rfl
theorem zt_df (v0 : Value) : zdf (zt v0) = zDF := rfl
theorem zt_hn (v0 : Value) : zhn (zt v0) = zHN := rfl
/-- a closed run is a run in every launch, on every script -/
theorem zwp_of0 {v0 : Value} {xs : List Int32} {n mi pc : Nat} {lv : zL} {st : List Value} {X X' : zX} {o : zO} {Q : zO → zX → Prop} (h : zev zcd0 zNLf zDF zHN zG0 n mi pc lv st X = some (o, X')) (hq : Q o X') : zwp (zt v0) (zG xs) mi pc lv st X Q := by
  unfold zwp
  rw [zt_nl, zt_df, zt_hn]
  exact ⟨n, o, X', zev_sub (zcd0_sub v0) (zG0_sub xs) _ _ _ _ _ _ _ h, hq⟩
