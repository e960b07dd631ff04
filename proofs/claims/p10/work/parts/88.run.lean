/-! The model's run: call by call, count by count (printed by crt_main.py). -/
theorem yRm_B : ((List.range 12).all fun c => (List.range 17).all fun n => ysubc (.inr (.inl (0, [(c, 0, 16), (1, (n : Int), (n : Int)), (11 - c, 0, 16), (1, ytop)]))) (.inr (.inl (0, [(12, 0, 16), (1, ytop)])))) = true := by decide +kernel
theorem yRm (c n : Nat) (hc : c < 12) (hn : n < 17) : yR yW yT (yTm c ((n : Int), (n : Int))) := yR_set (t := .inr (.inl (0, [(12, 0, 16), (1, ytop)]))) rfl (by decide +kernel) (List.all_eq_true.mp (List.all_eq_true.mp yRm_B c (List.mem_range.mpr hc)) n (List.mem_range.mpr hn))
/-- the model's call c has some count -/
theorem yM_cnt {M : List zE} {c : Nat} (hc : c < 12) (hM : yM yT M) : ∃ n : Nat, n < 17 ∧ yM (yTm c ((n : Int), (n : Int))) M := by
  obtain ⟨e, he, hok⟩ := hM.2 130 (.inr (.inl (0, [(12, 0, 16), (1, ytop)]))) rfl
  match e, hok with
  | .inr (.inl o), hok =>
    obtain ⟨h1, h2, h3⟩ := hok
    have hl : o.2.length = 13 := h2
    have hcl : c < o.2.length := by omega
    have hat : yat [(12, (0, 16)), (1, ytop)] c = some (0, 16) := by simp only [yat]; rw [if_pos hc]
    have hz := h3 c (0, 16) o.2[c] hat (List.getElem?_eq_getElem hcl)
    obtain ⟨z1, z2⟩ := hz
    dsimp only at z1 z2
    refine ⟨(o.2[c]).toInt.toNat, by omega, ⟨by unfold yTm; simp [hM.1], fun k u hu => ?_⟩⟩
    by_cases hk : 130 = k
    · subst hk
      unfold yTm at hu
      rw [List.getElem?_set_self (by decide +kernel)] at hu
      cases hu
      refine ⟨.inr (.inl o), he, h1, ?_, fun j q z hj hz => ?_⟩
      · show o.2.length = c + (1 + (11 - c + (1 + 0)))
        omega
      · have hz' : o.2[j]? = some z := hz
        have hj' : yat [(c, (0, 16)), (1, (((o.2[c]).toInt.toNat : Nat) : Int), (((o.2[c]).toInt.toNat : Nat) : Int)), (11 - c, (0, 16)), (1, ytop)] j = some q := hj
        by_cases h1 : j < c
        · have : q = (0, 16) := by simp only [yat] at hj'; rw [if_pos h1] at hj'; exact (Option.some.inj hj').symm
          rw [this]
          exact h3 j (0, 16) z (by simp only [yat]; rw [if_pos (by omega)]) hz
        · by_cases h2 : j = c
          · subst h2
            simp only [yat, Nat.lt_irrefl, if_false, Nat.sub_self, Nat.zero_lt_one, if_true] at hj'
            cases hj'
            rw [List.getElem?_eq_getElem hcl] at hz'
            cases hz'
            exact ⟨by dsimp only; omega, by dsimp only; omega⟩
          · simp only [yat] at hj'
            rw [if_neg h1, if_neg (by omega)] at hj'
            by_cases h4 : j < 12
            · rw [if_pos (by omega)] at hj'
              cases hj'
              exact h3 j (0, 16) z (by simp only [yat]; rw [if_pos h4]) hz
            · rw [if_neg (by omega)] at hj'
              by_cases h5 : j - c - 1 - (11 - c) < 1
              · rw [if_pos h5] at hj'
                cases hj'
                exact ⟨y_lo z, y_hi z⟩
              · rw [if_neg h5] at hj'
                cases hj'
    · unfold yTm at hu
      rw [List.getElem?_set_ne hk] at hu
      exact hM.2 k u hu
def yh122 (c n : Nat) : List yH := [(2, [(0, .inr (.inr [177])), (1, .inl ((c : Int), (c : Int))), (2, .inl (1, 1)), (3, .inl (0, (n : Int)))], 224000019, [true, false, false, false]), (65, [(0, .inr (.inr [177])), (1, .inl ((c : Int), (c : Int))), (2, .inl (1, 1)), (3, .inl (0, (n : Int) - 1)), (4, .inl (16 * (c : Int), 16 * (c : Int) + (n : Int) - 1)), (5, .inl (0, 128)), (6, .inl (255, 255)), (7, .inl (0, 8))], 224000010, [true, true, false, false]), (98, [(0, .inr (.inr [177])), (1, .inl ((c : Int), (c : Int))), (2, .inl (1, 1)), (3, .inl (0, (n : Int) - 1)), (4, .inl (16 * (c : Int), 16 * (c : Int) + (n : Int) - 1)), (5, .inl (0, 128)), (6, .inl ytop), (7, .inl (0, 224))], 9, [true, false, true, false]), (131, [(0, .inr (.inr [177])), (1, .inl ((c : Int), (c : Int))), (2, .inl (1, 1)), (3, .inl (0, (n : Int) - 1)), (4, .inl (16 * (c : Int), 16 * (c : Int) + (n : Int) - 1)), (5, .inl (0, 128)), (6, .inl ytop), (7, .inl (0, 223)), (8, .inl ytop), (9, .inl (0, 8))], 0, [true, false, true, true])]
def yh122z (c : Nat) : List yH := [(2, [(0, .inr (.inr [177])), (1, .inl ((c : Int), (c : Int))), (2, .inl (1, 1)), (3, .inl (0, 0))], 0, [true])]
def yc122 (c : Nat) : ySm := (122, [.inr (.inr [177]), .inl ((c : Int), (c : Int)), .inl (1, 1)], some (.inl (0, 1)))
def zcd122 (mi pc : Nat) : Option zI := if mi = 122 then zk_122.lookup pc else none
theorem zcd122_sub (v0 : Value) (mi pc : Nat) (q : zI) (h : zcd122 mi pc = some q) : zcd (zt v0) mi pc = some q := by
  unfold zcd122 at h
  split at h
  · rename_i e
    subst e
    exact h
  · cases h
theorem yw_of122 {T : List yC} {Sm : List ySm} {s : ySm} {K : yK} {Hs : List yH} {Ho : List (Nat × yO)} {R : Int} {n : Nat} (hS : ∀ u ∈ Sm, yx yW T u) (h : yck yW zcd122 zNLf zHN yTg T Sm s K Hs ykp Ho R n [] = true) : yx yW T s := fun v0 xs vs X hf hM => yck_sound (fun m ci f hk => ykp_spec v0 m ci f hk) (zt_nl v0) (zt_hn v0) (zcd122_sub v0) (yg_ok xs) (fun u hu => hS u hu v0 xs) h vs X hf hM (fun e he => by cases he)
def yk122 (c n : Nat) : Bool := if n = 0 then yck yW zcd122 zNLf zHN yTg (yTm c ((n : Int), (n : Int))) [] (yc122 c) [(3, 0, 1)] (yh122z c) ykp [] 1 10 [] else yck yW zcd122 zNLf zHN yTg (yTm c ((n : Int), (n : Int))) [yc113, yc117, yc118, yc121] (yc122 c) [(3, 16, 1000000000000), (7, 8, 1), (7, 224, 1000000), (9, 8, 1)] (yh122 c n) ykp [] 16000224000020 34 []
theorem yv122_c {c : Nat} (hc : c < 12) (h : ((List.range 17).all fun n => yk122 c n) = true) : yv (yc122 c) := fun v0 xs => yV_cases fun X hM => by
  obtain ⟨n, hn, h1⟩ := yM_cnt hc hM
  have h2 := List.all_eq_true.mp h n (List.mem_range.mpr hn)
  refine ⟨_, yRm c n hc hn, h1, ?_⟩
  unfold yk122 at h2
  split at h2
  · exact yw_of122 yw_n h2 v0 xs
  · exact yw_of122 (yw_c (yw_up (yRm c n hc hn) yv113) (yw_c (yw_up (yRm c n hc hn) yv117) (yw_c (yw_up (yRm c n hc hn) yv118) (yw_c (yw_up (yRm c n hc hn) yv121) yw_n)))) h2 v0 xs
theorem yk122_0 : ((List.range 17).all fun n => yk122 0 n) = true := by decide +kernel
def yc122a : ySm := (122, [.inr (.inr [177]), .inl (0, 11), .inl (0, 1)], some (.inl (0, 1)))
def yc122f : ySm := (122, [.inr (.inr [177]), .inl (0, 11), .inl (0, 0)], some (.inl (0, 1)))
theorem yv122f : yx yW (yT) yc122f := yw_of (Sm := [yc113, yc117, yc121]) (K := [(3, 16, 1000000000000), (7, 8, 1), (7, 224, 1000000), (9, 8, 1)]) (Hs := [(2, [(0, .inr (.inr [177])), (1, .inl (0, 11)), (2, .inl (0, 0)), (3, .inl (0, 16))], 224000019, [true, false, false, false]), (65, [(0, .inr (.inr [177])), (1, .inl (0, 11)), (2, .inl (0, 0)), (3, .inl (0, 15)), (4, .inl (0, 191)), (5, .inl (0, 128)), (6, .inl (255, 255)), (7, .inl (0, 8))], 224000010, [true, true, false, false]), (98, [(0, .inr (.inr [177])), (1, .inl (0, 11)), (2, .inl (0, 0)), (3, .inl (0, 15)), (4, .inl (0, 191)), (5, .inl (0, 128)), (6, .inl ytop), (7, .inl (0, 224))], 9, [true, false, true, false]), (131, [(0, .inr (.inr [177])), (1, .inl (0, 11)), (2, .inl (0, 0)), (3, .inl (0, 15)), (4, .inl (0, 191)), (5, .inl (0, 128)), (6, .inl ytop), (7, .inl (0, 223)), (8, .inl ytop), (9, .inl (0, 8))], 0, [true, false, true, true])]) (Ho := []) (R := 16000224000020) (n := 30) (yw_c yv113 (yw_c yv117 (yw_c yv121 yw_n))) (by decide +kernel)
def yc122g : ySm := (122, [.inr (.inr [177]), .inl (1, 11), .inl (1, 1)], some (.inl (0, 1)))
theorem yv122g : yx yW (yT) yc122g := yw_of (Sm := [yc113, yc117, yc118, yc121]) (K := [(3, 16, 1000000000000), (7, 8, 1), (7, 224, 1000000), (9, 8, 1)]) (Hs := [(2, [(0, .inr (.inr [177])), (1, .inl (1, 11)), (2, .inl (1, 1)), (3, .inl (0, 16))], 224000019, [true, false, false, false]), (65, [(0, .inr (.inr [177])), (1, .inl (1, 11)), (2, .inl (1, 1)), (3, .inl (0, 15)), (4, .inl (0, 191)), (5, .inl (0, 0)), (6, .inl (255, 255)), (7, .inl (0, 8))], 224000010, [true, true, false, false]), (98, [(0, .inr (.inr [177])), (1, .inl (1, 11)), (2, .inl (1, 1)), (3, .inl (0, 15)), (4, .inl (0, 191)), (5, .inl (0, 0)), (6, .inl ytop), (7, .inl (0, 224))], 9, [true, false, true, false]), (131, [(0, .inr (.inr [177])), (1, .inl (1, 11)), (2, .inl (1, 1)), (3, .inl (0, 15)), (4, .inl (0, 191)), (5, .inl (0, 0)), (6, .inl ytop), (7, .inl (0, 223)), (8, .inl ytop), (9, .inl (0, 8))], 0, [true, false, true, true])]) (Ho := []) (R := 16000224000020) (n := 34) (yw_c yv113 (yw_c yv117 (yw_c yv118 (yw_c yv121 yw_n)))) (by decide +kernel)
theorem yv122b : yv (122, [.inr (.inr [177]), .inl (0, 11), .inl (1, 1)], some (.inl (0, 1))) := fun v0 xs vs X hf hM => by
  obtain ⟨z, e1, e2, e3⟩ := yfa_i (as := [.inr (.inr [177])]) (bs := [.inl (1, 1)]) (q := (0, 11)) hf
  dsimp only at e1 e2
  by_cases hz : z = 0
  · exact yv122_c (c := 0) (by decide) yk122_0 v0 xs vs X (e3 (((0 : Nat) : Int), ((0 : Nat) : Int)) (by dsimp only; omega) (by dsimp only; omega)) hM
  · exact yv122g v0 xs vs X (e3 (1, 11) (by dsimp only; omega) (by dsimp only; omega)) hM
theorem yv122a : yv yc122a := yx_iN [.inr (.inr [177]), .inl (0, 11)] (bs := []) fun z h1 h2 => by
  by_cases hz : z = 0
  · subst hz
    exact yv122f
  · have : z = 1 := by omega
    subst this
    exact yv122b
