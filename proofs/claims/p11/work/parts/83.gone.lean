/-! One step of a dancer, spot by spot. -/
theorem yv_split4 {m : Nat} {n : Nat} {as : List yA} {ro : Option yA} (h : ∀ p : Nat, p < n → yv (m, .inl (4 * (p : Int), 4 * (p : Int) + 3) :: as, ro)) : yv (m, .inl (0, 4 * (n : Int) - 1) :: as, ro) := by
  intro v0 xs vs X hf hM
  cases vs with
  | nil => exact hf.elim
  | cons v vs =>
    obtain ⟨⟨x, e, h1, h2⟩, hr⟩ := hf
    dsimp only at h1 h2
    have hx : (((x.toInt / 4).toNat : Nat) : Int) = x.toInt / 4 := by omega
    refine h (x.toInt / 4).toNat (by omega) v0 xs (v :: vs) X ⟨⟨x, e, ?_, ?_⟩, hr⟩ hM
    · dsimp only; omega
    · dsimp only; omega
def zcdK (m : Nat) (l : List (Nat × zI)) (mi pc : Nat) : Option zI := if mi = m then l.lookup pc else none
theorem zcdK_sub {m : Nat} {l : List (Nat × zI)} (hl : ∀ v0 : Value, ((zKS v0)[m]?).getD [] = l) (v0 : Value) (mi pc : Nat) (q : zI) (h : zcdK m l mi pc = some q) : zcd (zt v0) mi pc = some q := by
  unfold zcdK at h
  split at h
  · rename_i e
    subst e
    rw [← hl v0] at h
    exact h
  · cases h
theorem yw_ofK {m0 : Nat} {l0 : List (Nat × zI)} (hl : ∀ v0 : Value, ((zKS v0)[m0]?).getD [] = l0) {W : List Nat} {T : List yC} {Sm : List ySm} {s : ySm} {K : yK} {Hs : List yH} {Ho : List (Nat × yO)} {R : Int} {n : Nat} (hS : ∀ u ∈ Sm, yx W T u) (h : yck W (zcdK m0 l0) zNLf zHN yTg T Sm s K Hs ykp Ho R n [] = true) : yx W T s := fun v0 xs vs X hf hM => yck_sound (fun m ci f hk => ykp_spec v0 m ci f hk) (zt_nl v0) (zt_hn v0) (zcdK_sub hl v0) (yg_ok xs) (fun u hu => hS u hu v0 xs) h vs X hf hM (fun e he => by cases he)
def ycG (p : Nat) : Bool := yck yW (zcdK 100 zk_100) zNLf zHN yTg yT [] (100, [.inl (4 * (p : Int), 4 * (p : Int) + 3), .inl (0, 3)], some (.inl (-1, 399))) [] [] ykp [] 0 40 []
theorem ykG_0 : ((List.range 10).all fun p => ycG (p + 0)) = true := by decide +kernel
theorem ykG_1 : ((List.range 10).all fun p => ycG (p + 10)) = true := by decide +kernel
theorem ykG_2 : ((List.range 10).all fun p => ycG (p + 20)) = true := by decide +kernel
theorem ykG_3 : ((List.range 10).all fun p => ycG (p + 30)) = true := by decide +kernel
theorem ykG_4 : ((List.range 10).all fun p => ycG (p + 40)) = true := by decide +kernel
theorem ykG_5 : ((List.range 10).all fun p => ycG (p + 50)) = true := by decide +kernel
theorem ykG_6 : ((List.range 10).all fun p => ycG (p + 60)) = true := by decide +kernel
theorem ykG_7 : ((List.range 10).all fun p => ycG (p + 70)) = true := by decide +kernel
theorem ykG_8 : ((List.range 10).all fun p => ycG (p + 80)) = true := by decide +kernel
theorem ykG_9 : ((List.range 10).all fun p => ycG (p + 90)) = true := by decide +kernel
theorem ykG_at {k p : Nat} (h : ((List.range 10).all fun p => ycG (p + 10 * k)) = true) (h1 : 10 * k ≤ p) (h2 : p < 10 * k + 10) : ycG p = true := by
  have e := List.all_eq_true.mp h (p - 10 * k) (List.mem_range.mpr (by omega))
  have e2 : p - 10 * k + 10 * k = p := by omega
  rw [e2] at e
  exact e
theorem ykG {p : Nat} (hp : p < 100) : ycG p = true := by
  by_cases h0 : p < 10
  · exact ykG_at (k := 0) ykG_0 (by omega) (by omega)
  by_cases h1 : p < 20
  · exact ykG_at (k := 1) ykG_1 (by omega) (by omega)
  by_cases h2 : p < 30
  · exact ykG_at (k := 2) ykG_2 (by omega) (by omega)
  by_cases h3 : p < 40
  · exact ykG_at (k := 3) ykG_3 (by omega) (by omega)
  by_cases h4 : p < 50
  · exact ykG_at (k := 4) ykG_4 (by omega) (by omega)
  by_cases h5 : p < 60
  · exact ykG_at (k := 5) ykG_5 (by omega) (by omega)
  by_cases h6 : p < 70
  · exact ykG_at (k := 6) ykG_6 (by omega) (by omega)
  by_cases h7 : p < 80
  · exact ykG_at (k := 7) ykG_7 (by omega) (by omega)
  by_cases h8 : p < 90
  · exact ykG_at (k := 8) ykG_8 (by omega) (by omega)
  exact ykG_at (k := 9) ykG_9 (by omega) (by omega)
def yc100G : ySm := (100, [.inl (0, 399), .inl (0, 3)], some (.inl (-1, 399)))
theorem yv100G : yv yc100G := yv_split4 (n := 100) fun p hp => yw_ofK (m0 := 100) (l0 := zk_100) (fun _ => rfl) yw_n (ykG hp)
