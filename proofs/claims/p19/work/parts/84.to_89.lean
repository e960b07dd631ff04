section
/-! More certificates of the class (printed by crt_main.py). -/
def yc159 : ySm := (159, [.inr (.inr [117]), .inl (0, 155), .inl (0, 11), .inl (1, 4)], none)
theorem yv159 : yx yW (yT) yc159 := yw_of (Sm := []) (K := []) (Hs := []) (Ho := []) (R := 0) (n := 72) yw_n (by decide +kernel)
def yc160_f0 : ySm := (160, [.inr (.inr [117]), .inl (0, 155), .inl (0, 11), .inr (.inr [123, 125, 127, 129, 131, 133, 135, 137, 139, 141, 143, 145, 147, 149, 151, 153, 155, 157, 159, 161, 163, 165, 167, 169, 171, 173])], none)
theorem yv160_f0 : yxo yW (yT) [(117, 8, 6, 0, 155)] yc160_f0 := ywo_of (Sm := [yc106w]) (K := []) (Hs := []) (Ho := []) (R := 0) (n := 35) (yw_c yv106w yw_n) (by decide +kernel)
def yc160_f1 : ySm := (160, [.inr (.inr [117]), .inl (0, 155), .inl (0, 11), .inr (.inr [123, 125, 127, 129, 131, 133, 135, 137, 139, 141, 143, 145, 147, 149, 151, 153, 155, 157, 159, 161, 163, 165, 167, 169, 171, 173])], none)
theorem yv160_f1 : yxo yW (yT) [(117, 8, 6, 156, 156)] yc160_f1 := ywo_of (Sm := []) (K := []) (Hs := []) (Ho := []) (R := 0) (n := 7) yw_n (by decide +kernel)
def yc160 : ySm := (160, [.inr (.inr [117]), .inl (0, 155), .inl (0, 11), .inr (.inr [123, 125, 127, 129, 131, 133, 135, 137, 139, 141, 143, 145, 147, 149, 151, 153, 155, 157, 159, 161, 163, 165, 167, 169, 171, 173])], none)
theorem yv160 : yx yW (yT) yc160 := yx_f2 67 yv160_f0 yv160_f1 rfl rfl (by decide)
def yc153 : ySm := (153, [.inr (.inr [53]), .inl ytop], some (.inl ytop))
theorem yv153 : yx yW (yT) yc153 := yw_of (Sm := []) (K := [(3, 12, 1)]) (Hs := [(4, [(0, .inr (.inr [53])), (1, .inl ytop), (2, .inl ytop), (3, .inl (0, 12))], 0, [true])]) (Ho := []) (R := 13) (n := 19) yw_n (by decide +kernel)
def yc11p : ySm := (11, [.inr (.inr [175]), .inl (0, 3)], none)
theorem yv11p : yx yW (yT) yc11p := yw_of (Sm := []) (K := [(2, 8, 1)]) (Hs := [(2, [(0, .inr (.inr [175])), (1, .inl (0, 3)), (2, .inl (0, 8))], 0, [true])]) (Ho := []) (R := 9) (n := 24) yw_n (by decide +kernel)
def yc11s : ySm := (11, [.inr (.inr [176]), .inl (0, 3)], none)
theorem yv11s : yx yW (yT) yc11s := yw_of (Sm := []) (K := [(2, 8, 1)]) (Hs := [(2, [(0, .inr (.inr [176])), (1, .inl (0, 3)), (2, .inl (0, 8))], 0, [true])]) (Ho := []) (R := 9) (n := 24) yw_n (by decide +kernel)
def yc83 : ySm := (83, [.inr (.inr [50])], some (.inl ytop))
theorem yv83 : yx yW (yT) yc83 := yw_of (Sm := []) (K := []) (Hs := []) (Ho := []) (R := 0) (n := 5) yw_n (by decide +kernel)
def yc129 : ySm := (129, [.inr (.inr [50])], some (.inl ytop))
theorem yv129 : yx yW (yT) yc129 := yw_of (Sm := []) (K := []) (Hs := []) (Ho := []) (R := 0) (n := 5) yw_n (by decide +kernel)
def yc135 : ySm := (135, [.inr (.inr [50])], some (.inl (0, 24)))
theorem yv135 : yx yW (yT) yc135 := yw_of (Sm := [yc11p]) (K := []) (Hs := []) (Ho := []) (R := 0) (n := 14) (yw_c yv11p yw_n) (by decide +kernel)
def yc137_0 : ySm := (137, [.inl (0, 7)], none)
theorem yv137_0 : yx yW (yT) yc137_0 := yw_of (Sm := []) (K := []) (Hs := []) (Ho := []) (R := 0) (n := 8) yw_n (by decide +kernel)
def yc137_1 : ySm := (137, [.inl ((-2147483648), (-1))], some (.inl (1, 0)))
theorem yv137_1 : yx yW (yT) yc137_1 := yw_of (Sm := []) (K := []) (Hs := []) (Ho := []) (R := 0) (n := 5) yw_n (by decide +kernel)
def yc137_2 : ySm := (137, [.inl (8, 2147483647)], some (.inl (1, 0)))
theorem yv137_2 : yx yW (yT) yc137_2 := yw_of (Sm := []) (K := []) (Hs := []) (Ho := []) (R := 0) (n := 8) yw_n (by decide +kernel)
def yc137 : ySm := (137, [.inl ytop], none)
theorem yv137 : yx yW (yT) yc137 := yx_i3 [] (bs := []) (k := 7) (k' := 8) (by decide) yv137_0 (yx_ro (none) yv137_1 (by decide +kernel)) (yx_ro (none) yv137_2 (by decide +kernel))
def yc138_0 : ySm := (138, [.inr (.inr [50]), .inl (0, 7), .inl ytop], some (.inl (0, 9)))
theorem yv138_0 : yx yW (yT) yc138_0 := yw_of (Sm := [yc137_0]) (K := []) (Hs := []) (Ho := []) (R := 0) (n := 17) (yw_c yv137_0 yw_n) (by decide +kernel)
def yc138_1 : ySm := (138, [.inr (.inr [50]), .inl ((-2147483648), (-1)), .inl ytop], some (.inl (1, 0)))
theorem yv138_1 : yx yW (yT) yc138_1 := yw_of (Sm := [yc137_1]) (K := []) (Hs := []) (Ho := []) (R := 0) (n := 4) (yw_c yv137_1 yw_n) (by decide +kernel)
def yc138_2 : ySm := (138, [.inr (.inr [50]), .inl (8, 2147483647), .inl ytop], some (.inl (1, 0)))
theorem yv138_2 : yx yW (yT) yc138_2 := yw_of (Sm := [yc137_2]) (K := []) (Hs := []) (Ho := []) (R := 0) (n := 4) (yw_c yv137_2 yw_n) (by decide +kernel)
def yc138 : ySm := (138, [.inr (.inr [50]), .inl ytop, .inl ytop], some (.inl (0, 9)))
theorem yv138 : yx yW (yT) yc138 := yx_i3 [.inr (.inr [50])] (bs := [.inl ytop]) (k := 7) (k' := 8) (by decide) yv138_0 (yx_ro (some (.inl (0, 9))) yv138_1 (by decide +kernel)) (yx_ro (some (.inl (0, 9))) yv138_2 (by decide +kernel))
def yc143_0_f0 : ySm := (143, [.inr (.inr [50]), .inl ytop, .inl (0, 7)], some (.inl (1, 0)))
theorem yv143_0_f0 : yxo yW (yT) [(50, 0, 10, 0, 0)] yc143_0_f0 := ywo_of (Sm := [yc137_0]) (K := []) (Hs := []) (Ho := []) (R := 0) (n := 8) (yw_c yv137_0 yw_n) (by decide +kernel)
def yc143_0_f1 : ySm := (143, [.inr (.inr [50]), .inl ytop, .inl (0, 7)], some (.inl (0, 99)))
theorem yv143_0_f1 : yxo yW (yT) [(50, 0, 10, 1, 24)] yc143_0_f1 := ywo_of (Sm := [yc137_0, yc142]) (K := []) (Hs := []) (Ho := []) (R := 0) (n := 28) (yw_c yv137_0 (yw_c yv142 yw_n)) (by decide +kernel)
def yc143_0 : ySm := (143, [.inr (.inr [50]), .inl ytop, .inl (0, 7)], some (.inl (0, 99)))
theorem yv143_0 : yx yW (yT) yc143_0 := yx_f2 0 (yxo_ro (some (.inl (0, 99))) yv143_0_f0 (by decide +kernel)) yv143_0_f1 rfl rfl (by decide)
def yc143_1 : ySm := (143, [.inr (.inr [50]), .inl ytop, .inl ((-2147483648), (-1))], some (.inl (1, 0)))
theorem yv143_1 : yx yW (yT) yc143_1 := yw_of (Sm := [yc137_1]) (K := []) (Hs := []) (Ho := []) (R := 0) (n := 4) (yw_c yv137_1 yw_n) (by decide +kernel)
def yc143_2 : ySm := (143, [.inr (.inr [50]), .inl ytop, .inl (8, 2147483647)], some (.inl (1, 0)))
theorem yv143_2 : yx yW (yT) yc143_2 := yw_of (Sm := [yc137_2]) (K := []) (Hs := []) (Ho := []) (R := 0) (n := 4) (yw_c yv137_2 yw_n) (by decide +kernel)
def yc143 : ySm := (143, [.inr (.inr [50]), .inl ytop, .inl ytop], some (.inl (0, 99)))
theorem yv143 : yx yW (yT) yc143 := yx_i3 [.inr (.inr [50]), .inl ytop] (bs := []) (k := 7) (k' := 8) (by decide) yv143_0 (yx_ro (some (.inl (0, 99))) yv143_1 (by decide +kernel)) (yx_ro (some (.inl (0, 99))) yv143_2 (by decide +kernel))
def yc131_f0 : ySm := (131, [.inr (.inr [50])], some (.inl (1, 0)))
theorem yv131_f0 : yxo yW (yT) [(50, 0, 10, 0, 0)] yc131_f0 := ywo_of (Sm := []) (K := []) (Hs := []) (Ho := []) (R := 0) (n := 6) yw_n (by decide +kernel)
def yc131_f1 : ySm := (131, [.inr (.inr [50])], some (.inl (0, 16)))
theorem yv131_f1 : yxo yW (yT) [(50, 0, 10, 1, 24)] yc131_f1 := ywo_of (Sm := [yc106p]) (K := []) (Hs := []) (Ho := []) (R := 0) (n := 26) (yw_c yv106p yw_n) (by decide +kernel)
def yc131 : ySm := (131, [.inr (.inr [50])], some (.inl (0, 16)))
theorem yv131 : yx yW (yT) yc131 := yx_f2 0 (yxo_ro (some (.inl (0, 16))) yv131_f0 (by decide +kernel)) yv131_f1 rfl rfl (by decide)
def yc146 : ySm := (146, [.inr (.inr [50]), .inl ytop, .inl ytop], some (.inl (0, 1)))
theorem yv146 : yx yW (yT) yc146 := yw_of (Sm := [yc97p, yc137]) (K := []) (Hs := []) (Ho := []) (R := 0) (n := 26) (yw_c yv97p (yw_c yv137 yw_n)) (by decide +kernel)
def yc169 : ySm := (169, [.inr (.inr [50]), .inl ytop], some (.inl (0, 11)))
theorem yv169 : yx yW (yT) yc169 := yw_of (Sm := []) (K := []) (Hs := []) (Ho := []) (R := 0) (n := 15) yw_n (by decide +kernel)
end
section
/-! A step of all dancers (printed by crt_main.py). -/
def yc102 : ySm := (102, [.inl (0, 399), .inl (0, 6)], some (.inl ((-1), 399)))
theorem yv102 : yx yW (yT) yc102 := yw_of (Sm := [yc100G, yc101]) (K := []) (Hs := []) (Ho := []) (R := 0) (n := 8) (yw_c yv100G (yw_c yv101 yw_n)) (by decide +kernel)
def yc104 : ySm := (104, [.inr (.inr [113]), .inr (.inr [124, 126, 128, 130, 132, 134, 136, 138, 140, 142, 144, 146, 148, 150, 152, 154, 156, 158, 160, 162, 164, 166, 168, 170, 172, 174]), .inl (0, 120)], some (.inl (0, 3)))
theorem yv104 : yx yW (yT) yc104 := yw_of (Sm := [yc102, yc103]) (K := [(4, 8, 1), (5, 8, 1000000), (6, 8, 1)]) (Hs := [(8, [(0, .inr (.inr [113])), (1, .inr (.inr [124, 126, 128, 130, 132, 134, 136, 138, 140, 142, 144, 146, 148, 150, 152, 154, 156, 158, 160, 162, 164, 166, 168, 170, 172, 174])), (2, .inl (0, 120)), (3, .inl (8, 128)), (4, .inl (0, 8))], 8000009, [true, false, false]), (61, [(0, .inr (.inr [113])), (1, .inr (.inr [124, 126, 128, 130, 132, 134, 136, 138, 140, 142, 144, 146, 148, 150, 152, 154, 156, 158, 160, 162, 164, 166, 168, 170, 172, 174])), (2, .inl (0, 120)), (3, .inl (8, 128)), (4, .inl (0, 1)), (5, .inl (0, 8))], 8, [false, true, false]), (74, [(0, .inr (.inr [113])), (1, .inr (.inr [124, 126, 128, 130, 132, 134, 136, 138, 140, 142, 144, 146, 148, 150, 152, 154, 156, 158, 160, 162, 164, 166, 168, 170, 172, 174])), (2, .inl (0, 120)), (3, .inl (8, 128)), (4, .inl (0, 1)), (5, .inl (0, 7)), (6, .inl (1, 8))], 0, [false, true, true])]) (Ho := []) (R := 8000018) (n := 34) (yw_c yv102 (yw_c yv103 yw_n)) (by decide +kernel)
end
section
/-! Certificates of the model (printed by crt_main.py). -/
def yc13 : ySm := (13, [.inl ytop], some (.inl (3, 6)))
theorem yv13 : yx yW (yT) yc13 := yw_of (Sm := []) (K := []) (Hs := []) (Ho := []) (R := 0) (n := 19) yw_n (by decide +kernel)
def yc14 : ySm := (14, [.inl ytop], some (.inl (3, 6)))
theorem yv14 : yx yW (yT) yc14 := yw_of (Sm := []) (K := []) (Hs := []) (Ho := []) (R := 0) (n := 20) yw_n (by decide +kernel)
def yc15 : ySm := (15, [.inl ytop], some (.inl (0, 3)))
theorem yv15 : yx yW (yT) yc15 := yw_of (Sm := []) (K := []) (Hs := []) (Ho := []) (R := 0) (n := 14) yw_n (by decide +kernel)
def yc24 : ySm := (24, [.inr (.inr [177])], some (.inl (0, 100)))
theorem yv24 : yx yW (yT) yc24 := yw_of (Sm := []) (K := []) (Hs := []) (Ho := []) (R := 0) (n := 13) yw_n (by decide +kernel)
def yc84 : ySm := (84, [.inr (.inr [177])], some (.inl ytop))
theorem yv84 : yx yW (yT) yc84 := yw_of (Sm := []) (K := []) (Hs := []) (Ho := []) (R := 0) (n := 8) yw_n (by decide +kernel)
def yc89_0 : ySm := (89, [.inr (.inr [177]), .inl (0, 11)], some (.inl (0, 1)))
theorem yv89_0 : yx yW (yT) yc89_0 := yw_of (Sm := []) (K := []) (Hs := []) (Ho := []) (R := 0) (n := 11) yw_n (by decide +kernel)
def yc89_1 : ySm := (89, [.inr (.inr [177]), .inl ((-2147483648), (-1))], some (.inl (0, 0)))
theorem yv89_1 : yx yW (yT) yc89_1 := yw_of (Sm := []) (K := []) (Hs := []) (Ho := []) (R := 0) (n := 6) yw_n (by decide +kernel)
def yc89_2 : ySm := (89, [.inr (.inr [177]), .inl (12, 2147483647)], some (.inl (0, 0)))
theorem yv89_2 : yx yW (yT) yc89_2 := yw_of (Sm := []) (K := []) (Hs := []) (Ho := []) (R := 0) (n := 10) yw_n (by decide +kernel)
def yc89 : ySm := (89, [.inr (.inr [177]), .inl ytop], some (.inl (0, 1)))
theorem yv89 : yx yW (yT) yc89 := yx_i3 [.inr (.inr [177])] (bs := []) (k := 11) (k' := 12) (by decide) yv89_0 (yx_ro (some (.inl (0, 1))) yv89_1 (by decide +kernel)) (yx_ro (some (.inl (0, 1))) yv89_2 (by decide +kernel))
def yc90_0 : ySm := (90, [.inr (.inr [177]), .inl (0, 11)], some (.inl (0, 16)))
theorem yv90_0 : yx yW (yT) yc90_0 := yw_of (Sm := [yc89_0]) (K := []) (Hs := []) (Ho := []) (R := 0) (n := 18) (yw_c yv89_0 yw_n) (by decide +kernel)
def yc90_1 : ySm := (90, [.inr (.inr [177]), .inl ((-2147483648), (-1))], some (.inl (0, 0)))
theorem yv90_1 : yx yW (yT) yc90_1 := yw_of (Sm := [yc89_1]) (K := []) (Hs := []) (Ho := []) (R := 0) (n := 15) (yw_c yv89_1 yw_n) (by decide +kernel)
def yc90_2 : ySm := (90, [.inr (.inr [177]), .inl (12, 2147483647)], some (.inl (0, 0)))
theorem yv90_2 : yx yW (yT) yc90_2 := yw_of (Sm := [yc89_2]) (K := []) (Hs := []) (Ho := []) (R := 0) (n := 15) (yw_c yv89_2 yw_n) (by decide +kernel)
def yc90 : ySm := (90, [.inr (.inr [177]), .inl ytop], some (.inl (0, 16)))
theorem yv90 : yx yW (yT) yc90 := yx_i3 [.inr (.inr [177])] (bs := []) (k := 11) (k' := 12) (by decide) yv90_0 (yx_ro (some (.inl (0, 16))) yv90_1 (by decide +kernel)) (yx_ro (some (.inl (0, 16))) yv90_2 (by decide +kernel))
def yc110 : ySm := (110, [.inr (.inr [177])], none)
theorem yv110 : yx yW (yT) yc110 := yw_of (Sm := []) (K := [(1, 8, 1)]) (Hs := [(2, [(0, .inr (.inr [177])), (1, .inl (0, 8))], 0, [true])]) (Ho := []) (R := 9) (n := 32) yw_n (by decide +kernel)
def yc111 : ySm := (111, [.inl ytop], some (.inl ((-1), 1)))
theorem yv111 : yx yW (yT) yc111 := yw_of (Sm := []) (K := []) (Hs := []) (Ho := []) (R := 0) (n := 11) yw_n (by decide +kernel)
def yc112 : ySm := (112, [.inl ytop], some (.inl ((-1), 1)))
theorem yv112 : yx yW (yT) yc112 := yw_of (Sm := []) (K := []) (Hs := []) (Ho := []) (R := 0) (n := 10) yw_n (by decide +kernel)
def yc113 : ySm := (113, [.inr (.inr [177]), .inl (0, 120), .inl (0, 7), .inl ytop], none)
theorem yv113 : yx yW (yT) yc113 := yw_of (Sm := [yc111, yc112]) (K := []) (Hs := []) (Ho := []) (R := 0) (n := 96) (yw_c yv111 (yw_c yv112 yw_n)) (by decide +kernel)
def yc114 : ySm := (114, [.inr (.inr [177]), .inl (0, 128), .inl (0, 7)], some (ylong))
theorem yv114 : yx yW (yT) yc114 := yw_of (Sm := []) (K := [(5, 136, 1)]) (Hs := [(8, [(0, .inr (.inr [177])), (1, .inl (0, 128)), (2, .inl (0, 7)), (3, .inl ytop), (4, .inl ytop), (5, .inl (0, 136))], 0, [true])]) (Ho := []) (R := 137) (n := 59) yw_n (by decide +kernel)
def yc115 : ySm := (115, [.inr (.inr [177]), .inl (0, 128)], some (.inl ytop))
theorem yv115 : yx yW (yT) yc115 := yw_of (Sm := [yc114]) (K := [(3, 8, 1000000), (5, 8, 1)]) (Hs := [(4, [(0, .inr (.inr [177])), (1, .inl (0, 128)), (2, .inl ytop), (3, .inl (0, 8))], 9, [true, false]), (16, [(0, .inr (.inr [177])), (1, .inl (0, 128)), (2, .inl ytop), (3, .inl (0, 7)), (4, .inl ytop), (5, .inl (0, 8))], 0, [true, true])]) (Ho := []) (R := 8000010) (n := 23) (yw_c yv114 yw_n) (by decide +kernel)
def yc116 : ySm := (116, [.inr (.inr [177]), .inl (0, 128), .inl (0, 2)], some (.inl ytop))
theorem yv116 : yx yW (yT) yc116 := yw_of (Sm := [yc111, yc112]) (K := [(4, 255, 1)]) (Hs := [(7, [(0, .inr (.inr [177])), (1, .inl (0, 128)), (2, .inl (0, 2)), (3, .inl ytop), (4, .inl (0, 255))], 0, [true])]) (Ho := []) (R := 256) (n := 87) (yw_c yv111 (yw_c yv112 yw_n)) (by decide +kernel)
def yc117 : ySm := (117, [.inr (.inr [177]), .inl ytop, .inl (0, 128)], some (.inl ytop))
theorem yv117 : yx yW (yT) yc117 := yw_of (Sm := [yc115, yc116]) (K := [(4, 8, 1)]) (Hs := [(121, [(0, .inr (.inr [177])), (1, .inl ytop), (2, .inl (0, 128)), (3, .inl ytop), (4, .inl (0, 8))], 0, [true])]) (Ho := []) (R := 9) (n := 25) (yw_c yv115 (yw_c yv116 yw_n)) (by decide +kernel)
def yc118 : ySm := (118, [.inl ytop], some (.inl ytop))
theorem yv118 : yx yW (yT) yc118 := yw_of (Sm := []) (K := []) (Hs := []) (Ho := []) (R := 0) (n := 14) yw_n (by decide +kernel)
def yc119 : ySm := (119, [.inr (.inr [177]), .inl (0, 135), .inl (0, 135)], some (.inl (0, 1)))
theorem yv119 : yx yW (yT) yc119 := yw_of (Sm := []) (K := []) (Hs := []) (Ho := []) (R := 0) (n := 23) yw_n (by decide +kernel)
def yc120 : ySm := (120, [.inr (.inr [177]), .inl (0, 135), .inl (0, 135), .inl (0, 2)], some (.inl (0, 1)))
theorem yv120 : yx yW (yT) yc120 := yw_of (Sm := [yc111, yc112]) (K := []) (Hs := []) (Ho := []) (R := 0) (n := 38) (yw_c yv111 (yw_c yv112 yw_n)) (by decide +kernel)
def yc121 : ySm := (121, [.inr (.inr [177]), .inl (0, 120)], some (.inl (0, 3)))
theorem yv121 : yx yW (yT) yc121 := yw_of (Sm := [yc119, yc120]) (K := [(3, 136, 1), (3, 255, 1000000)]) (Hs := [(7, [(0, .inr (.inr [177])), (1, .inl (0, 120)), (2, .inl (0, 1)), (3, .inl (8, 136))], 255000004, [true, false]), (69, [(0, .inr (.inr [177])), (1, .inl (0, 120)), (2, .inl (0, 3)), (3, .inl (0, 255))], 3, [false, true]), (127, [(0, .inr (.inr [177])), (1, .inl (0, 120)), (2, .inl (0, 3)), (3, .inl (0, 63)), (4, .inl (0, 127)), (5, .inl (0, 127)), (6, .inl (0, 1))], 2, [false, true]), (169, [(0, .inr (.inr [177])), (1, .inl (0, 120)), (2, .inl (0, 3)), (3, .inl (0, 63)), (4, .inl (0, 127)), (5, .inl (0, 127)), (6, .inl (0, 1)), (7, .inl (0, 1))], 1, [false, true]), (224, [(0, .inr (.inr [177])), (1, .inl (0, 120)), (2, .inl (0, 3)), (3, .inl (0, 63)), (4, .inl (0, 127)), (5, .inl (0, 127)), (6, .inl (0, 1)), (7, .inl (0, 1)), (8, .inl (0, 1))], 0, [false, true])]) (Ho := []) (R := 255000133) (n := 36) (yw_c yv119 (yw_c yv120 yw_n)) (by decide +kernel)
def yc123 : ySm := (123, [.inr (.inr [177]), .inl (0, 16)], none)
theorem yv123 : yx yW (yT) yc123 := yw_of (Sm := []) (K := [(2, 8, 1)]) (Hs := [(2, [(0, .inr (.inr [177])), (1, .inl (0, 16)), (2, .inl (0, 8))], 0, [true])]) (Ho := []) (R := 9) (n := 44) yw_n (by decide +kernel)
def yc130 : ySm := (130, [.inr (.inr [177])], some (.inl ytop))
theorem yv130 : yx yW (yT) yc130 := yw_of (Sm := []) (K := []) (Hs := []) (Ho := []) (R := 0) (n := 8) yw_n (by decide +kernel)
def yc133 : ySm := (133, [.inr (.inr [177]), .inl (0, 7), .inl ytop], none)
theorem yv133 : yx yW (yT) yc133 := yw_of (Sm := []) (K := []) (Hs := []) (Ho := []) (R := 0) (n := 26) yw_n (by decide +kernel)
def yc136 : ySm := (136, [.inr (.inr [177])], some (.inl (0, 24)))
theorem yv136 : yx yW (yT) yc136 := yw_of (Sm := [yc13, yc14, yc15]) (K := [(2, 8, 1)]) (Hs := [(17, [(0, .inr (.inr [177])), (1, .inl (0, 24)), (2, .inl (0, 8))], 0, [true])]) (Ho := [(17, [(177, 10, 0, 0, 0), (177, 10, 31, 0, 0)])]) (R := 9) (n := 26) (yw_c yv13 (yw_c yv14 (yw_c yv15 yw_n))) (by decide +kernel)
def yc140_0 : ySm := (140, [.inl (0, 7)], some (.inl (1, 1)))
theorem yv140_0 : yx yW (yT) yc140_0 := yw_of (Sm := []) (K := []) (Hs := []) (Ho := []) (R := 0) (n := 10) yw_n (by decide +kernel)
def yc140_1 : ySm := (140, [.inl ((-2147483648), (-1))], some (.inl (0, 0)))
theorem yv140_1 : yx yW (yT) yc140_1 := yw_of (Sm := []) (K := []) (Hs := []) (Ho := []) (R := 0) (n := 6) yw_n (by decide +kernel)
def yc140_2 : ySm := (140, [.inl (8, 2147483647)], some (.inl (0, 0)))
theorem yv140_2 : yx yW (yT) yc140_2 := yw_of (Sm := []) (K := []) (Hs := []) (Ho := []) (R := 0) (n := 9) yw_n (by decide +kernel)
def yc140 : ySm := (140, [.inl ytop], some (.inl (0, 1)))
theorem yv140 : yx yW (yT) yc140 := yx_i3 [] (bs := []) (k := 7) (k' := 8) (by decide) (yx_ro (some (.inl (0, 1))) yv140_0 (by decide +kernel)) (yx_ro (some (.inl (0, 1))) yv140_1 (by decide +kernel)) (yx_ro (some (.inl (0, 1))) yv140_2 (by decide +kernel))
def yc141_0 : ySm := (141, [.inr (.inr [177]), .inl (0, 7), .inl ytop], some (.inl ytop))
theorem yv141_0 : yx yW (yT) yc141_0 := yw_of (Sm := [yc140_0]) (K := []) (Hs := []) (Ho := []) (R := 0) (n := 28) (yw_c yv140_0 yw_n) (by decide +kernel)
def yc141_1 : ySm := (141, [.inr (.inr [177]), .inl ((-2147483648), (-1)), .inl ytop], some (.inl (0, 0)))
theorem yv141_1 : yx yW (yT) yc141_1 := yw_of (Sm := [yc140_1]) (K := []) (Hs := []) (Ho := []) (R := 0) (n := 14) (yw_c yv140_1 yw_n) (by decide +kernel)
def yc141_2 : ySm := (141, [.inr (.inr [177]), .inl (8, 2147483647), .inl ytop], some (.inl (0, 0)))
theorem yv141_2 : yx yW (yT) yc141_2 := yw_of (Sm := [yc140_2]) (K := []) (Hs := []) (Ho := []) (R := 0) (n := 14) (yw_c yv140_2 yw_n) (by decide +kernel)
def yc141 : ySm := (141, [.inr (.inr [177]), .inl ytop, .inl ytop], some (.inl ytop))
theorem yv141 : yx yW (yT) yc141 := yx_i3 [.inr (.inr [177])] (bs := [.inl ytop]) (k := 7) (k' := 8) (by decide) yv141_0 (yx_ro (some (.inl ytop)) yv141_1 (by decide +kernel)) (yx_ro (some (.inl ytop)) yv141_2 (by decide +kernel))
def yc148 : ySm := (148, [.inr (.inr [177]), .inl ytop, .inl ytop], some (.inl (0, 1)))
theorem yv148 : yx yW (yT) yc148 := yw_of (Sm := [yc110, yc117, yc140]) (K := []) (Hs := []) (Ho := []) (R := 0) (n := 32) (yw_c yv110 (yw_c yv117 (yw_c yv140 yw_n))) (by decide +kernel)
def yc152 : ySm := (152, [.inr (.inr [177])], some (.inl (0, 4)))
theorem yv152 : yx yW (yT) yc152 := yw_of (Sm := []) (K := [(5, 8, 1), (8, 8, 1)]) (Hs := [(19, [(0, .inr (.inr [177])), (1, .inl ytop), (2, .inl ytop), (3, .inl ytop), (4, .inl ytop), (5, .inl (0, 8))], 9, [true, false]), (176, [(0, .inr (.inr [177])), (1, .inl ytop), (2, .inl ytop), (3, .inl ytop), (4, .inl ytop), (5, .inl ytop), (6, .inl ytop), (7, .inl (0, 1)), (8, .inl (0, 8))], 0, [false, true])]) (Ho := [(19, [(177, 10, 0, 0, 0)]), (176, [(177, 10, 0, 0, 0)])]) (R := 18) (n := 56) yw_n (by decide +kernel)
def yc156_0 : ySm := (156, [.inr (.inr [177]), .inl (0, 11), .inl (0, 1)], none)
theorem yv156_0 : yx yW (yT) yc156_0 := yw_of (Sm := [yc89_0]) (K := [(4, 12, 1)]) (Hs := [(22, [(0, .inr (.inr [177])), (1, .inl (0, 11)), (2, .inl (0, 1)), (3, .inl ytop), (4, .inl (0, 12))], 0, [true])]) (Ho := [(22, [(177, 10, 0, 0, 1)])]) (R := 13) (n := 29) (yw_c yv89_0 yw_n) (by decide +kernel)
def yc156_1 : ySm := (156, [.inr (.inr [177]), .inl ((-2147483648), (-1)), .inl (0, 1)], none)
theorem yv156_1 : yx yW (yT) yc156_1 := yw_of (Sm := [yc89_1]) (K := [(4, 0, 1)]) (Hs := [(22, [(0, .inr (.inr [177])), (1, .inl ((-2147483648), (-1))), (2, .inl (0, 1)), (3, .inl (0, 0)), (4, .inl (0, 0))], 0, [true])]) (Ho := [(22, [(177, 10, 0, 1, 1)])]) (R := 1) (n := 19) (yw_c yv89_1 yw_n) (by decide +kernel)
def yc156_2 : ySm := (156, [.inr (.inr [177]), .inl (12, 2147483647), .inl (0, 1)], none)
theorem yv156_2 : yx yW (yT) yc156_2 := yw_of (Sm := [yc89_2]) (K := [(4, 0, 1)]) (Hs := [(22, [(0, .inr (.inr [177])), (1, .inl (12, 2147483647)), (2, .inl (0, 1)), (3, .inl (0, 0)), (4, .inl (0, 0))], 0, [true])]) (Ho := [(22, [(177, 10, 0, 1, 1)])]) (R := 1) (n := 19) (yw_c yv89_2 yw_n) (by decide +kernel)
def yc156 : ySm := (156, [.inr (.inr [177]), .inl ytop, .inl (0, 1)], none)
theorem yv156 : yx yW (yT) yc156 := yx_i3 [.inr (.inr [177])] (bs := [.inl (0, 1)]) (k := 11) (k' := 12) (by decide) yv156_0 yv156_1 yv156_2
def yc164 : ySm := (164, [.inr (.inr [177]), .inl (0, 4)], some (.inl (0, 1)))
theorem yv164 : yx yW (yT) yc164 := yw_of (Sm := [yc13, yc14, yc15]) (K := [(3, 8, 1)]) (Hs := [(4, [(0, .inr (.inr [177])), (1, .inl (0, 4)), (2, .inl (0, 1)), (3, .inl (0, 8))], 0, [true])]) (Ho := []) (R := 9) (n := 34) (yw_c yv13 (yw_c yv14 (yw_c yv15 yw_n))) (by decide +kernel)
def yc165 : ySm := (165, [.inr (.inr [177]), .inl (0, 12)], some (.inl ((-1), 11)))
theorem yv165 : yx yW (yT) yc165 := yw_of (Sm := []) (K := [(3, (-1), -1)]) (Hs := [(9, [(0, .inr (.inr [177])), (1, .inl (0, 12)), (2, .inl ((-1), 11)), (3, .inl ((-1), 11))], 0, [true])]) (Ho := []) (R := 13) (n := 16) yw_n (by decide +kernel)
def yc171 : ySm := (171, [.inr (.inr [177]), .inl ytop], some (.inl ytop))
theorem yv171 : yx yW (yT) yc171 := yw_of (Sm := []) (K := []) (Hs := []) (Ho := []) (R := 0) (n := 19) yw_n (by decide +kernel)
def yc175 : ySm := (175, [.inr (.inr [177]), .inl (0, 3)], none)
theorem yv175 : yx yW (yT) yc175 := yw_of (Sm := [yc13, yc14, yc15]) (K := [(2, 8, 1)]) (Hs := [(2, [(0, .inr (.inr [177])), (1, .inl (0, 3)), (2, .inl (0, 8))], 0, [true])]) (Ho := []) (R := 9) (n := 30) (yw_c yv13 (yw_c yv14 (yw_c yv15 yw_n))) (by decide +kernel)
end
section
/-! The model's run: call by call, count by count (printed by crt_main.py). -/
theorem yRm_B : ((List.range 12).all fun c => (List.range 17).all fun n => ysubc (.inr (.inl (0, [(c, 0, 16), (1, (n : Int), (n : Int)), (11 - c, 0, 16), (1, ytop)]))) (.inr (.inl (0, [(12, 0, 16), (1, ytop)])))) = true := by decide +kernel
theorem yRm (c n : Nat) (hc : c < 12) (hn : n < 17) : yR yW yT (yTm c ((n : Int), (n : Int))) := yR_set (t := .inr (.inl (0, [(12, 0, 16), (1, ytop)]))) rfl (by decide +kernel) (List.all_eq_true.mp (List.all_eq_true.mp yRm_B c (List.mem_range.mpr hc)) n (List.mem_range.mpr hn))
/-- the model's call c has some count -/
theorem yM_cnt {M : List zE} {c : Nat} (hc : c < 12) (hM : yM yT M) : ∃ n : Nat, n < 17 ∧ yM (yTm c ((n : Int), (n : Int))) M := by
  obtain ⟨e, he, hok⟩ := hM.2 130 (.inr (.inl (0, [(12, 0, 16), (1, ytop)]))) rfl
  match e, hok with
  | .inr (.inl o), hok =>
    obtain ⟨h1, h2, h3⟩ := hok
    have hl : o.2.length = 13 := h2
    have hcl : c < o.2.length := by omega
    have hat : yat [(12, (0, 16)), (1, ytop)] c = some (0, 16) := by simp only [yat]; rw [if_pos hc]
    have hz := h3 c (0, 16) o.2[c] hat (List.getElem?_eq_getElem hcl)
    obtain ⟨z1, z2⟩ := hz
    dsimp only at z1 z2
    refine ⟨(o.2[c]).toInt.toNat, by omega, ⟨by unfold yTm; simp [hM.1], fun k u hu => ?_⟩⟩
    by_cases hk : 130 = k
    · subst hk
      unfold yTm at hu
      rw [List.getElem?_set_self (by decide +kernel)] at hu
      cases hu
      refine ⟨.inr (.inl o), he, h1, ?_, fun j q z hj hz => ?_⟩
      · show o.2.length = c + (1 + (11 - c + (1 + 0)))
        omega
      · have hz' : o.2[j]? = some z := hz
        have hj' : yat [(c, (0, 16)), (1, (((o.2[c]).toInt.toNat : Nat) : Int), (((o.2[c]).toInt.toNat : Nat) : Int)), (11 - c, (0, 16)), (1, ytop)] j = some q := hj
        by_cases h1 : j < c
        · have : q = (0, 16) := by simp only [yat] at hj'; rw [if_pos h1] at hj'; exact (Option.some.inj hj').symm
          rw [this]
          exact h3 j (0, 16) z (by simp only [yat]; rw [if_pos (by omega)]) hz
        · by_cases h2 : j = c
          · subst h2
            simp only [yat, Nat.lt_irrefl, if_false, Nat.sub_self, Nat.zero_lt_one, if_true] at hj'
            cases hj'
            rw [List.getElem?_eq_getElem hcl] at hz'
            cases hz'
            exact ⟨by dsimp only; omega, by dsimp only; omega⟩
          · simp only [yat] at hj'
            rw [if_neg h1, if_neg (by omega)] at hj'
            by_cases h4 : j < 12
            · rw [if_pos (by omega)] at hj'
              cases hj'
              exact h3 j (0, 16) z (by simp only [yat]; rw [if_pos h4]) hz
            · rw [if_neg (by omega)] at hj'
              by_cases h5 : j - c - 1 - (11 - c) < 1
              · rw [if_pos h5] at hj'
                cases hj'
                exact ⟨y_lo z, y_hi z⟩
              · rw [if_neg h5] at hj'
                cases hj'
    · unfold yTm at hu
      rw [List.getElem?_set_ne hk] at hu
      exact hM.2 k u hu
def yh122 (c n : Nat) : List yH := [(2, [(0, .inr (.inr [177])), (1, .inl ((c : Int), (c : Int))), (2, .inl (1, 1)), (3, .inl (0, (n : Int)))], 224000019, [true, false, false, false]), (65, [(0, .inr (.inr [177])), (1, .inl ((c : Int), (c : Int))), (2, .inl (1, 1)), (3, .inl (0, (n : Int) - 1)), (4, .inl (16 * (c : Int), 16 * (c : Int) + (n : Int) - 1)), (5, .inl (0, 128)), (6, .inl (255, 255)), (7, .inl (0, 8))], 224000010, [true, true, false, false]), (98, [(0, .inr (.inr [177])), (1, .inl ((c : Int), (c : Int))), (2, .inl (1, 1)), (3, .inl (0, (n : Int) - 1)), (4, .inl (16 * (c : Int), 16 * (c : Int) + (n : Int) - 1)), (5, .inl (0, 128)), (6, .inl ytop), (7, .inl (0, 224))], 9, [true, false, true, false]), (131, [(0, .inr (.inr [177])), (1, .inl ((c : Int), (c : Int))), (2, .inl (1, 1)), (3, .inl (0, (n : Int) - 1)), (4, .inl (16 * (c : Int), 16 * (c : Int) + (n : Int) - 1)), (5, .inl (0, 128)), (6, .inl ytop), (7, .inl (0, 223)), (8, .inl ytop), (9, .inl (0, 8))], 0, [true, false, true, true])]
def yh122z (c : Nat) : List yH := [(2, [(0, .inr (.inr [177])), (1, .inl ((c : Int), (c : Int))), (2, .inl (1, 1)), (3, .inl (0, 0))], 0, [true])]
def yc122 (c : Nat) : ySm := (122, [.inr (.inr [177]), .inl ((c : Int), (c : Int)), .inl (1, 1)], some (.inl (0, 1)))
def zcd122 (mi pc : Nat) : Option zI := if mi = 122 then zk_122.lookup pc else none
theorem zcd122_sub (v0 : Value) (mi pc : Nat) (q : zI) (h : zcd122 mi pc = some q) : zcd (zt v0) mi pc = some q := by
  unfold zcd122 at h
  split at h
  · rename_i e
    subst e
    exact h
  · cases h
theorem yw_of122 {T : List yC} {Sm : List ySm} {s : ySm} {K : yK} {Hs : List yH} {Ho : List (Nat × yO)} {R : Int} {n : Nat} (hS : ∀ u ∈ Sm, yx yW T u) (h : yck yW zcd122 zNLf zHN yTg T Sm s K Hs ykp Ho R n [] = true) : yx yW T s := fun v0 xs vs X hf hM => yck_sound (fun m ci f hk => ykp_spec v0 m ci f hk) (zt_nl v0) (zt_hn v0) (zcd122_sub v0) (yg_ok xs) (fun u hu => hS u hu v0 xs) h vs X hf hM (fun e he => by cases he)
def yk122 (c n : Nat) : Bool := if n = 0 then yck yW zcd122 zNLf zHN yTg (yTm c ((n : Int), (n : Int))) [] (yc122 c) [(3, 0, 1)] (yh122z c) ykp [] 1 10 [] else yck yW zcd122 zNLf zHN yTg (yTm c ((n : Int), (n : Int))) [yc113, yc117, yc118, yc121] (yc122 c) [(3, 16, 1000000000000), (7, 8, 1), (7, 224, 1000000), (9, 8, 1)] (yh122 c n) ykp [] 16000224000020 34 []
theorem yv122_c {c : Nat} (hc : c < 12) (h : ((List.range 17).all fun n => yk122 c n) = true) : yv (yc122 c) := fun v0 xs => yV_cases fun X hM => by
  obtain ⟨n, hn, h1⟩ := yM_cnt hc hM
  have h2 := List.all_eq_true.mp h n (List.mem_range.mpr hn)
  refine ⟨_, yRm c n hc hn, h1, ?_⟩
  unfold yk122 at h2
  split at h2
  · exact yw_of122 yw_n h2 v0 xs
  · exact yw_of122 (yw_c (yw_up (yRm c n hc hn) yv113) (yw_c (yw_up (yRm c n hc hn) yv117) (yw_c (yw_up (yRm c n hc hn) yv118) (yw_c (yw_up (yRm c n hc hn) yv121) yw_n)))) h2 v0 xs
theorem yk122_0 : ((List.range 17).all fun n => yk122 0 n) = true := by decide +kernel
def yc122a : ySm := (122, [.inr (.inr [177]), .inl (0, 11), .inl (0, 1)], some (.inl (0, 1)))
def yc122f : ySm := (122, [.inr (.inr [177]), .inl (0, 11), .inl (0, 0)], some (.inl (0, 1)))
theorem yv122f : yx yW (yT) yc122f := yw_of (Sm := [yc113, yc117, yc121]) (K := [(3, 16, 1000000000000), (7, 8, 1), (7, 224, 1000000), (9, 8, 1)]) (Hs := [(2, [(0, .inr (.inr [177])), (1, .inl (0, 11)), (2, .inl (0, 0)), (3, .inl (0, 16))], 224000019, [true, false, false, false]), (65, [(0, .inr (.inr [177])), (1, .inl (0, 11)), (2, .inl (0, 0)), (3, .inl (0, 15)), (4, .inl (0, 191)), (5, .inl (0, 128)), (6, .inl (255, 255)), (7, .inl (0, 8))], 224000010, [true, true, false, false]), (98, [(0, .inr (.inr [177])), (1, .inl (0, 11)), (2, .inl (0, 0)), (3, .inl (0, 15)), (4, .inl (0, 191)), (5, .inl (0, 128)), (6, .inl ytop), (7, .inl (0, 224))], 9, [true, false, true, false]), (131, [(0, .inr (.inr [177])), (1, .inl (0, 11)), (2, .inl (0, 0)), (3, .inl (0, 15)), (4, .inl (0, 191)), (5, .inl (0, 128)), (6, .inl ytop), (7, .inl (0, 223)), (8, .inl ytop), (9, .inl (0, 8))], 0, [true, false, true, true])]) (Ho := []) (R := 16000224000020) (n := 30) (yw_c yv113 (yw_c yv117 (yw_c yv121 yw_n))) (by decide +kernel)
def yc122g : ySm := (122, [.inr (.inr [177]), .inl (1, 11), .inl (1, 1)], some (.inl (0, 1)))
theorem yv122g : yx yW (yT) yc122g := yw_of (Sm := [yc113, yc117, yc118, yc121]) (K := [(3, 16, 1000000000000), (7, 8, 1), (7, 224, 1000000), (9, 8, 1)]) (Hs := [(2, [(0, .inr (.inr [177])), (1, .inl (1, 11)), (2, .inl (1, 1)), (3, .inl (0, 16))], 224000019, [true, false, false, false]), (65, [(0, .inr (.inr [177])), (1, .inl (1, 11)), (2, .inl (1, 1)), (3, .inl (0, 15)), (4, .inl (0, 191)), (5, .inl (0, 0)), (6, .inl (255, 255)), (7, .inl (0, 8))], 224000010, [true, true, false, false]), (98, [(0, .inr (.inr [177])), (1, .inl (1, 11)), (2, .inl (1, 1)), (3, .inl (0, 15)), (4, .inl (0, 191)), (5, .inl (0, 0)), (6, .inl ytop), (7, .inl (0, 224))], 9, [true, false, true, false]), (131, [(0, .inr (.inr [177])), (1, .inl (1, 11)), (2, .inl (1, 1)), (3, .inl (0, 15)), (4, .inl (0, 191)), (5, .inl (0, 0)), (6, .inl ytop), (7, .inl (0, 223)), (8, .inl ytop), (9, .inl (0, 8))], 0, [true, false, true, true])]) (Ho := []) (R := 16000224000020) (n := 34) (yw_c yv113 (yw_c yv117 (yw_c yv118 (yw_c yv121 yw_n)))) (by decide +kernel)
theorem yv122b : yv (122, [.inr (.inr [177]), .inl (0, 11), .inl (1, 1)], some (.inl (0, 1))) := fun v0 xs vs X hf hM => by
  obtain ⟨z, e1, e2, e3⟩ := yfa_i (as := [.inr (.inr [177])]) (bs := [.inl (1, 1)]) (q := (0, 11)) hf
  dsimp only at e1 e2
  by_cases hz : z = 0
  · exact yv122_c (c := 0) (by decide) yk122_0 v0 xs vs X (e3 (((0 : Nat) : Int), ((0 : Nat) : Int)) (by dsimp only; omega) (by dsimp only; omega)) hM
  · exact yv122g v0 xs vs X (e3 (1, 11) (by dsimp only; omega) (by dsimp only; omega)) hM
theorem yv122a : yv yc122a := yx_iN [.inr (.inr [177]), .inl (0, 11)] (bs := []) fun z h1 h2 => by
  by_cases hz : z = 0
  · subst hz
    exact yv122f
  · have : z = 1 := by omega
    subst this
    exact yv122b
end
section
/-! What the model does by its run (printed by crt_main.py). -/
def yc124_0_f0 : ySm := (124, [.inr (.inr [177]), .inl (0, 11), .inl (0, 1)], some (.inl (0, 16)))
theorem yv124_0_f0 : yxo yW (yT) [(177, 10, 31, 0, 23)] yc124_0_f0 := ywo_of (Sm := [yc89_0, yc110, yc122a, yc123]) (K := [(3, 8, 1)]) (Hs := [(82, [(0, .inr (.inr [177])), (1, .inl (0, 11)), (2, .inl (0, 1)), (3, .inl (0, 8))], 0, [true])]) (Ho := [(82, [(177, 10, 0, 0, 0), (177, 10, 30, 0, 0), (177, 10, 31, 0, 23)])]) (R := 9) (n := 37) (yw_c yv89_0 (yw_c yv110 (yw_c yv122a (yw_c yv123 yw_n)))) (by decide +kernel)
def yc124_0_f1 : ySm := (124, [.inr (.inr [177]), .inl (0, 11), .inl (0, 1)], some (.inl (0, 0)))
theorem yv124_0_f1 : yxo yW (yT) [(177, 10, 31, 24, 24)] yc124_0_f1 := ywo_of (Sm := [yc89_0]) (K := []) (Hs := []) (Ho := []) (R := 0) (n := 19) (yw_c yv89_0 yw_n) (by decide +kernel)
def yc124_0 : ySm := (124, [.inr (.inr [177]), .inl (0, 11), .inl (0, 1)], some (.inl (0, 16)))
theorem yv124_0 : yx yW (yT) yc124_0 := yx_f2 127 yv124_0_f0 (yxo_ro (some (.inl (0, 16))) yv124_0_f1 (by decide +kernel)) rfl rfl (by decide)
def yc124_1 : ySm := (124, [.inr (.inr [177]), .inl ((-2147483648), (-1)), .inl (0, 1)], some (.inl (0, 0)))
theorem yv124_1 : yx yW (yT) yc124_1 := yw_of (Sm := [yc89_1]) (K := []) (Hs := []) (Ho := []) (R := 0) (n := 15) (yw_c yv89_1 yw_n) (by decide +kernel)
def yc124_2 : ySm := (124, [.inr (.inr [177]), .inl (12, 2147483647), .inl (0, 1)], some (.inl (0, 0)))
theorem yv124_2 : yx yW (yT) yc124_2 := yw_of (Sm := [yc89_2]) (K := []) (Hs := []) (Ho := []) (R := 0) (n := 15) (yw_c yv89_2 yw_n) (by decide +kernel)
def yc124 : ySm := (124, [.inr (.inr [177]), .inl ytop, .inl (0, 1)], some (.inl (0, 16)))
theorem yv124 : yx yW (yT) yc124 := yx_i3 [.inr (.inr [177])] (bs := [.inl (0, 1)]) (k := 11) (k' := 12) (by decide) yv124_0 (yx_ro (some (.inl (0, 16))) yv124_1 (by decide +kernel)) (yx_ro (some (.inl (0, 16))) yv124_2 (by decide +kernel))
def yc125 : ySm := (125, [.inr (.inr [177]), .inl ytop], some (.inl (0, 16)))
theorem yv125 : yx yW (yT) yc125 := yw_of (Sm := [yc124]) (K := []) (Hs := []) (Ho := []) (R := 0) (n := 7) (yw_c yv124 yw_n) (by decide +kernel)
def yc128 : ySm := (128, [.inr (.inr [177]), .inl ytop], some (.inl (0, 16)))
theorem yv128 : yx yW (yT) yc128 := yw_of (Sm := [yc124]) (K := []) (Hs := []) (Ho := []) (R := 0) (n := 7) (yw_c yv124 yw_n) (by decide +kernel)
def yc134_f0 : ySm := (134, [.inr (.inr [177])], some (.inl (0, 0)))
theorem yv134_f0 : yxo yW (yT) [(177, 10, 31, 0, 0)] yc134_f0 := ywo_of (Sm := []) (K := []) (Hs := []) (Ho := []) (R := 0) (n := 14) yw_n (by decide +kernel)
def yc134_f1 : ySm := (134, [.inr (.inr [177])], some (.inl (0, 16)))
theorem yv134_f1 : yxo yW (yT) [(177, 10, 31, 1, 24)] yc134_f1 := ywo_of (Sm := [yc123, yc133]) (K := [(1, 8, 1)]) (Hs := [(37, [(0, .inr (.inr [177])), (1, .inl (0, 8))], 0, [true])]) (Ho := [(37, [(177, 10, 0, 0, 0), (177, 10, 31, 0, 23)])]) (R := 9) (n := 20) (yw_c yv123 (yw_c yv133 yw_n)) (by decide +kernel)
def yc134 : ySm := (134, [.inr (.inr [177])], some (.inl (0, 16)))
theorem yv134 : yx yW (yT) yc134 := yx_f2 127 (yxo_ro (some (.inl (0, 16))) yv134_f0 (by decide +kernel)) yv134_f1 rfl rfl (by decide)
def yc145_0_f0 : ySm := (145, [.inr (.inr [177]), .inl ytop, .inl (0, 7)], some (.inl (0, 0)))
theorem yv145_0_f0 : yxo yW (yT) [(177, 10, 31, 0, 0)] yc145_0_f0 := ywo_of (Sm := [yc140_0]) (K := []) (Hs := []) (Ho := []) (R := 0) (n := 24) (yw_c yv140_0 yw_n) (by decide +kernel)
def yc145_0_f1 : ySm := (145, [.inr (.inr [177]), .inl ytop, .inl (0, 7)], some (.inl ytop))
theorem yv145_0_f1 : yxo yW (yT) [(177, 10, 31, 1, 24)] yc145_0_f1 := ywo_of (Sm := [yc122a, yc133, yc140_0]) (K := [(3, 8, 1)]) (Hs := [(87, [(0, .inr (.inr [177])), (1, .inl (0, 16)), (2, .inl (0, 7)), (3, .inl (0, 8))], 0, [true])]) (Ho := [(87, [(177, 10, 0, 0, 0), (177, 10, 31, 1, 24)])]) (R := 9) (n := 42) (yw_c yv122a (yw_c yv133 (yw_c yv140_0 yw_n))) (by decide +kernel)
def yc145_0 : ySm := (145, [.inr (.inr [177]), .inl ytop, .inl (0, 7)], some (.inl ytop))
theorem yv145_0 : yx yW (yT) yc145_0 := yx_f2 127 (yxo_ro (some (.inl ytop)) yv145_0_f0 (by decide +kernel)) yv145_0_f1 rfl rfl (by decide)
def yc145_1 : ySm := (145, [.inr (.inr [177]), .inl ytop, .inl ((-2147483648), (-1))], some (.inl (0, 0)))
theorem yv145_1 : yx yW (yT) yc145_1 := yw_of (Sm := [yc140_1]) (K := []) (Hs := []) (Ho := []) (R := 0) (n := 13) (yw_c yv140_1 yw_n) (by decide +kernel)
def yc145_2 : ySm := (145, [.inr (.inr [177]), .inl ytop, .inl (8, 2147483647)], some (.inl (0, 0)))
theorem yv145_2 : yx yW (yT) yc145_2 := yw_of (Sm := [yc140_2]) (K := []) (Hs := []) (Ho := []) (R := 0) (n := 13) (yw_c yv140_2 yw_n) (by decide +kernel)
def yc145 : ySm := (145, [.inr (.inr [177]), .inl ytop, .inl ytop], some (.inl ytop))
theorem yv145 : yx yW (yT) yc145 := yx_i3 [.inr (.inr [177]), .inl ytop] (bs := []) (k := 7) (k' := 8) (by decide) yv145_0 (yx_ro (some (.inl ytop)) yv145_1 (by decide +kernel)) (yx_ro (some (.inl ytop)) yv145_2 (by decide +kernel))
def yc176_0_0 : ySm := (176, [.inr (.inr [177]), .inl (0, 11), .inl (0, 11)], some (.inl (0, 1)))
theorem yv176_0_0 : yx yW (yT) yc176_0_0 := yw_of (Sm := [yc89_0, yc122f, yc175]) (K := [(4, 4, 1000000), (6, 8, 1), (7, 8, 1)]) (Hs := [(41, [(0, .inr (.inr [177])), (1, .inl (0, 11)), (2, .inl (0, 11)), (3, .inl (0, 1)), (4, .inl (0, 4))], 18, [true, false, false]), (68, [(0, .inr (.inr [177])), (1, .inl (0, 11)), (2, .inl (0, 11)), (3, .inl (1, 1)), (4, .inl (0, 3)), (5, .inl (0, 1)), (6, .inl (0, 8))], 9, [true, true, false]), (160, [(0, .inr (.inr [177])), (1, .inl (0, 11)), (2, .inl (0, 11)), (3, .inl (0, 1)), (4, .inl (0, 3)), (5, .inl (0, 1)), (6, .inl (0, 1)), (7, .inl (0, 8))], 0, [true, false, true])]) (Ho := [(41, [(177, 10, 0, 0, 1)]), (68, [(177, 10, 0, 0, 1)]), (160, [(177, 10, 0, 0, 1)])]) (R := 4000019) (n := 47) (yw_c yv89_0 (yw_c yv122f (yw_c yv175 yw_n))) (by decide +kernel)
def yc176_0_1 : ySm := (176, [.inr (.inr [177]), .inl (0, 11), .inl ((-2147483648), (-1))], some (.inl (0, 0)))
theorem yv176_0_1 : yx yW (yT) yc176_0_1 := yw_of (Sm := [yc89_1, yc89_0]) (K := [(4, 0, 1)]) (Hs := [(41, [(0, .inr (.inr [177])), (1, .inl (0, 11)), (2, .inl ((-2147483648), (-1))), (3, .inl (0, 0)), (4, .inl (0, 0))], 0, [true])]) (Ho := [(41, [(177, 10, 0, 1, 1)])]) (R := 1) (n := 21) (yw_c yv89_1 (yw_c yv89_0 yw_n)) (by decide +kernel)
def yc176_0_2 : ySm := (176, [.inr (.inr [177]), .inl (0, 11), .inl (12, 2147483647)], some (.inl (0, 0)))
theorem yv176_0_2 : yx yW (yT) yc176_0_2 := yw_of (Sm := [yc89_0, yc89_2]) (K := [(4, 0, 1)]) (Hs := [(41, [(0, .inr (.inr [177])), (1, .inl (0, 11)), (2, .inl (12, 2147483647)), (3, .inl (0, 0)), (4, .inl (0, 0))], 0, [true])]) (Ho := [(41, [(177, 10, 0, 1, 1)])]) (R := 1) (n := 21) (yw_c yv89_0 (yw_c yv89_2 yw_n)) (by decide +kernel)
def yc176_0 : ySm := (176, [.inr (.inr [177]), .inl (0, 11), .inl ytop], some (.inl (0, 1)))
theorem yv176_0 : yx yW (yT) yc176_0 := yx_i3 [.inr (.inr [177]), .inl (0, 11)] (bs := []) (k := 11) (k' := 12) (by decide) yv176_0_0 (yx_ro (some (.inl (0, 1))) yv176_0_1 (by decide +kernel)) (yx_ro (some (.inl (0, 1))) yv176_0_2 (by decide +kernel))
def yc176_1 : ySm := (176, [.inr (.inr [177]), .inl ((-2147483648), (-1)), .inl ytop], some (.inl (0, 0)))
theorem yv176_1 : yx yW (yT) yc176_1 := yw_of (Sm := [yc89_1]) (K := [(4, 0, 1)]) (Hs := [(41, [(0, .inr (.inr [177])), (1, .inl ((-2147483648), (-1))), (2, .inl ytop), (3, .inl (0, 0)), (4, .inl (0, 0))], 0, [true])]) (Ho := [(41, [(177, 10, 0, 1, 1)])]) (R := 1) (n := 17) (yw_c yv89_1 yw_n) (by decide +kernel)
def yc176_2 : ySm := (176, [.inr (.inr [177]), .inl (12, 2147483647), .inl ytop], some (.inl (0, 0)))
theorem yv176_2 : yx yW (yT) yc176_2 := yw_of (Sm := [yc89_2]) (K := [(4, 0, 1)]) (Hs := [(41, [(0, .inr (.inr [177])), (1, .inl (12, 2147483647)), (2, .inl ytop), (3, .inl (0, 0)), (4, .inl (0, 0))], 0, [true])]) (Ho := [(41, [(177, 10, 0, 1, 1)])]) (R := 1) (n := 17) (yw_c yv89_2 yw_n) (by decide +kernel)
def yc176 : ySm := (176, [.inr (.inr [177]), .inl ytop, .inl ytop], some (.inl (0, 1)))
theorem yv176 : yx yW (yT) yc176 := yx_i3 [.inr (.inr [177])] (bs := [.inl ytop]) (k := 11) (k' := 12) (by decide) yv176_0 (yx_ro (some (.inl (0, 1))) yv176_1 (by decide +kernel)) (yx_ro (some (.inl (0, 1))) yv176_2 (by decide +kernel))
end
