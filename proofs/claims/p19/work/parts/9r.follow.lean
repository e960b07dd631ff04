/-! A call is followed: figure by figure, count by count (printed by crt_main.py). -/
def yc98z : ySm := (98, [.inr (.inr [113]), .inr (.inr [123, 125, 127, 129, 131, 133, 135, 137, 139, 141, 143, 145, 147, 149, 151, 153, 155, 157, 159, 161, 163, 165, 167, 169, 171, 173]), .inr (.inr [57, 61, 65, 69, 73, 77, 81, 85, 89, 93, 97, 101, 105]), .inl (0, 15), .inl (0, 16)], none)
theorem yv98z : yx yW (yT2) yc98z := yw_of (Sm := [yc97]) (K := [(5, 8, 1), (6, 208, 1000000), (8, 8, 1)]) (Hs := [(3, [(0, .inr (.inr [113])), (1, .inr (.inr [123, 125, 127, 129, 131, 133, 135, 137, 139, 141, 143, 145, 147, 149, 151, 153, 155, 157, 159, 161, 163, 165, 167, 169, 171, 173])), (2, .inr (.inr [57, 61, 65, 69, 73, 77, 81, 85, 89, 93, 97, 101, 105])), (3, .inl (0, 15)), (4, .inl (0, 16)), (5, .inl (0, 8))], 208000010, [true, false, false]), (37, [(0, .inr (.inr [113])), (1, .inr (.inr [123, 125, 127, 129, 131, 133, 135, 137, 139, 141, 143, 145, 147, 149, 151, 153, 155, 157, 159, 161, 163, 165, 167, 169, 171, 173])), (2, .inr (.inr [57, 61, 65, 69, 73, 77, 81, 85, 89, 93, 97, 101, 105])), (3, .inl (0, 15)), (4, .inl (0, 16)), (5, .inl ytop), (6, .inl (0, 208))], 9, [false, true, false]), (82, [(0, .inr (.inr [113])), (1, .inr (.inr [123, 125, 127, 129, 131, 133, 135, 137, 139, 141, 143, 145, 147, 149, 151, 153, 155, 157, 159, 161, 163, 165, 167, 169, 171, 173])), (2, .inr (.inr [57, 61, 65, 69, 73, 77, 81, 85, 89, 93, 97, 101, 105])), (3, .inl (0, 15)), (4, .inl (0, 16)), (5, .inl ytop), (6, .inl (0, 207)), (7, .inl ytop), (8, .inl (0, 8))], 0, [false, true, true])]) (Ho := []) (R := 208000019) (n := 27) (yw_c (yw_up yR2 yv97) yw_n) (by decide +kernel)
def yc105z (f : Nat) : ySm := (105, [.inr (.inr [113]), .inr (.inr [123, 125, 127, 129, 131, 133, 135, 137, 139, 141, 143, 145, 147, 149, 151, 153, 155, 157, 159, 161, 163, 165, 167, 169, 171, 173]), .inr (.inr [57 + 4 * f]), .inl (0, 1)], some (.inl (0, 163)))
def yh105z (f n : Nat) : List yH := [(3, [(0, .inr (.inr [113])), (1, .inr (.inr [123, 125, 127, 129, 131, 133, 135, 137, 139, 141, 143, 145, 147, 149, 151, 153, 155, 157, 159, 161, 163, 165, 167, 169, 171, 173])), (2, .inr (.inr [57 + 4 * f])), (3, .inl (0, 1)), (4, .inl (0, (n : Int)))], 0, [true])]
def yh105y (f n : Nat) : List yH := [(3, [(0, .inr (.inr [113])), (1, .inr (.inr [123, 125, 127, 129, 131, 133, 135, 137, 139, 141, 143, 145, 147, 149, 151, 153, 155, 157, 159, 161, 163, 165, 167, 169, 171, 173])), (2, .inr (.inr [57 + 4 * f])), (3, .inl (0, 1)), (4, .inl (0, (n : Int)))], 1, [true]), (54, [(0, .inr (.inr [113])), (1, .inr (.inr [123, 125, 127, 129, 131, 133, 135, 137, 139, 141, 143, 145, 147, 149, 151, 153, 155, 157, 159, 161, 163, 165, 167, 169, 171, 173])), (2, .inr (.inr [57 + 4 * f])), (3, .inl (0, 1)), (4, .inl (0, (n : Int) - 1))], 0, [true])]
def zcd105 (mi pc : Nat) : Option zI := if mi = 105 then zk_105.lookup pc else none
theorem zcd105_sub (v0 : Value) (mi pc : Nat) (q : zI) (h : zcd105 mi pc = some q) : zcd (zt v0) mi pc = some q := by
  unfold zcd105 at h
  split at h
  · rename_i e
    subst e
    exact h
  · cases h
theorem yw_of105 {T : List yC} {Sm : List ySm} {s : ySm} {K : yK} {Hs : List yH} {Ho : List (Nat × yO)} {R : Int} {n : Nat} (hS : ∀ u ∈ Sm, yx yW T u) (h : yck yW zcd105 zNLf zHN yTg T Sm s K Hs ykp Ho R n [] = true) : yx yW T s := fun v0 xs vs X hf hM => yck_sound (fun m ci f hk => ykp_spec v0 m ci f hk) (zt_nl v0) (zt_hn v0) (zcd105_sub v0) (yg_ok xs) (fun u hu => hS u hu v0 xs) h vs X hf hM (fun e he => by cases he)
def yk105z (f n : Nat) : Bool := if n = 0 then yck yW zcd105 zNLf zHN yTg (yTf2 f n) [yc98z, yc99, yc104] (yc105z f) [(4, 16, 1)] (yh105z f n) ykp [] 17 40 [] else yck yW zcd105 zNLf zHN yTg (yTf2 f n) [yc98z, yc99, yc104] (yc105z f) [(4, 16, 1000000)] (yh105y f n) ykp [] 16000002 23 []
theorem yv105z_n {f n : Nat} (hf : f < 13) (hn : n < 17) (h : ((List.range 17).all fun n => yk105z f n) = true) : yx yW (yTf2 f n) (yc105z f) := by
  have h2 := List.all_eq_true.mp h n (List.mem_range.mpr hn)
  unfold yk105z at h2
  split at h2
  · exact yw_of105 (yw_c (yw_up (yRf2 f n hf hn) yv98z) (yw_c (yw_up (yR_t yR2 (yRf2 f n hf hn)) yv99) (yw_c (yw_up (yR_t yR2 (yRf2 f n hf hn)) yv104) yw_n))) h2
  · exact yw_of105 (yw_c (yw_up (yRf2 f n hf hn) yv98z) (yw_c (yw_up (yR_t yR2 (yRf2 f n hf hn)) yv99) (yw_c (yw_up (yR_t yR2 (yRf2 f n hf hn)) yv104) yw_n))) h2
theorem yk105z_0 : ((List.range 17).all fun n => yk105z 0 n) = true := by decide +kernel
theorem yk105z_1 : ((List.range 17).all fun n => yk105z 1 n) = true := by decide +kernel
theorem yk105z_2 : ((List.range 17).all fun n => yk105z 2 n) = true := by decide +kernel
theorem yk105z_3 : ((List.range 17).all fun n => yk105z 3 n) = true := by decide +kernel
theorem yk105z_4 : ((List.range 17).all fun n => yk105z 4 n) = true := by decide +kernel
theorem yk105z_5 : ((List.range 17).all fun n => yk105z 5 n) = true := by decide +kernel
theorem yk105z_6 : ((List.range 17).all fun n => yk105z 6 n) = true := by decide +kernel
theorem yk105z_7 : ((List.range 17).all fun n => yk105z 7 n) = true := by decide +kernel
theorem yk105z_8 : ((List.range 17).all fun n => yk105z 8 n) = true := by decide +kernel
theorem yk105z_9 : ((List.range 17).all fun n => yk105z 9 n) = true := by decide +kernel
theorem yk105z_10 : ((List.range 17).all fun n => yk105z 10 n) = true := by decide +kernel
theorem yk105z_11 : ((List.range 17).all fun n => yk105z 11 n) = true := by decide +kernel
theorem yk105z_12 : ((List.range 17).all fun n => yk105z 12 n) = true := by decide +kernel
theorem yv105z (f n : Nat) (hf : f < 13) (hn : n < 17) : yx yW (yTf2 f n) (yc105z f) := match f, hf with
  | 0, h => yv105z_n h hn yk105z_0
  | 1, h => yv105z_n h hn yk105z_1
  | 2, h => yv105z_n h hn yk105z_2
  | 3, h => yv105z_n h hn yk105z_3
  | 4, h => yv105z_n h hn yk105z_4
  | 5, h => yv105z_n h hn yk105z_5
  | 6, h => yv105z_n h hn yk105z_6
  | 7, h => yv105z_n h hn yk105z_7
  | 8, h => yv105z_n h hn yk105z_8
  | 9, h => yv105z_n h hn yk105z_9
  | 10, h => yv105z_n h hn yk105z_10
  | 11, h => yv105z_n h hn yk105z_11
  | 12, h => yv105z_n h hn yk105z_12
