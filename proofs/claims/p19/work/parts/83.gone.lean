/-! One step of a dancer, in five pieces. -/
def zcdK (m : Nat) (l : List (Nat × zI)) (mi pc : Nat) : Option zI := if mi = m then l.lookup pc else none
theorem zcdK_sub {m : Nat} {l : List (Nat × zI)} (hl : ∀ v0 : Value, ((zKS v0)[m]?).getD [] = l) (v0 : Value) (mi pc : Nat) (q : zI) (h : zcdK m l mi pc = some q) : zcd (zt v0) mi pc = some q := by
  unfold zcdK at h
  split at h
  · rename_i e
    subst e
    rw [← hl v0] at h
    exact h
  · cases h
theorem yw_ofK {m0 : Nat} {l0 : List (Nat × zI)} (hl : ∀ v0 : Value, ((zKS v0)[m0]?).getD [] = l0) {W : List Nat} {T : List yC} {Sm : List ySm} {s : ySm} {K : yK} {Hs : List yH} {Ho : List (Nat × yO)} {R : Int} {n : Nat} (hS : ∀ u ∈ Sm, yx W T u) (h : yck W (zcdK m0 l0) zNLf zHN yTg T Sm s K Hs ykp Ho R n [] = true) : yx W T s := fun v0 xs vs X hf hM => yck_sound (fun m ci f hk => ykp_spec v0 m ci f hk) (zt_nl v0) (zt_hn v0) (zcdK_sub hl v0) (yg_ok xs) (fun u hu => hS u hu v0 xs) h vs X hf hM (fun e he => by cases he)
def ycG (lo hi : Int) : Bool := yck yW (zcdK 100 zk_100) zNLf zHN yTg yT [] (100, [.inl (lo, hi), .inl (0, 3)], some (.inl (-1, 399))) [] [] ykp [] 0 40 []
theorem ykG_0 : ycG 0 3 = true := by decide +kernel
theorem ykG_1 : ycG 4 39 = true := by decide +kernel
theorem ykG_2 : ycG 40 359 = true := by decide +kernel
theorem ykG_3 : ycG 360 395 = true := by decide +kernel
theorem ykG_4 : ycG 396 399 = true := by decide +kernel
theorem yvG {lo hi : Int} (h : ycG lo hi = true) : yv (100, [.inl (lo, hi), .inl (0, 3)], some (.inl (-1, 399))) := yw_ofK (m0 := 100) (l0 := zk_100) (fun _ => rfl) yw_n h
def yc100G : ySm := (100, [.inl (0, 399), .inl (0, 3)], some (.inl (-1, 399)))
theorem yv100G : yv yc100G := fun v0 xs vs X hf hM => by
  obtain ⟨z, e1, e2, e3⟩ := yfa_i (as := []) (bs := [.inl (0, 3)]) (q := (0, 399)) hf
  dsimp only at e1 e2
  by_cases c1 : z ≤ 3
  · exact yvG ykG_0 v0 xs vs X (e3 (0, 3) (by dsimp only; omega) (by dsimp only; omega)) hM
  · by_cases c2 : z ≤ 39
    · exact yvG ykG_1 v0 xs vs X (e3 (4, 39) (by dsimp only; omega) (by dsimp only; omega)) hM
    · by_cases c3 : z ≤ 359
      · exact yvG ykG_2 v0 xs vs X (e3 (40, 359) (by dsimp only; omega) (by dsimp only; omega)) hM
      · by_cases c4 : z ≤ 395
        · exact yvG ykG_3 v0 xs vs X (e3 (360, 395) (by dsimp only; omega) (by dsimp only; omega)) hM
        · exact yvG ykG_4 v0 xs vs X (e3 (396, 399) (by dsimp only; omega) (by dsimp only; omega)) hM
