section
theorem zw_79 : (Jvm.Cond.initialized "java/lang/IllegalArgumentException") ∈ zWSL := zin_1 (List.mem_of_getElem? (i := 20) rfl) rfl
theorem zw_80 : (Jvm.Cond.initialized "java/lang/IllegalStateException") ∈ zWSL := zin_1 (List.mem_of_getElem? (i := 21) rfl) rfl
theorem zw_82 : (Jvm.Cond.initialized "java/lang/IndexOutOfBoundsException") ∈ zWSL := zin_1 (List.mem_of_getElem? (i := 23) rfl) rfl
theorem zw_527 : (Jvm.Cond.classLink "FigureCallerLaw" (13 : Nat) "java/lang/IllegalArgumentException") ∈ zWSL := zin_2 (List.mem_of_getElem? (i := 228) rfl) rfl
theorem zw_528 : (Jvm.Cond.classLink "FigureCallerLaw" (15 : Nat) "java/lang/IllegalStateException") ∈ zWSL := zin_2 (List.mem_of_getElem? (i := 229) rfl) rfl
theorem zw_700 : (Jvm.Cond.classLink "FigureCaller" (90 : Nat) "java/lang/IllegalArgumentException") ∈ zWSL := zin_3 (List.mem_of_getElem? (i := 161) rfl) rfl
theorem zw_701 : (Jvm.Cond.instantiable "java/lang/IllegalArgumentException" (6 : Nat)) ∈ zWSL := zin_3 (List.mem_of_getElem? (i := 162) rfl) rfl
theorem zw_702 : (Jvm.Cond.castable "java/lang/IllegalArgumentException" "java/lang/IllegalArgumentException") ∈ zWSL := zin_3 (List.mem_of_getElem? (i := 163) rfl) rfl
theorem zw_772 : (Jvm.Cond.classLink "FigureCaller" (101 : Nat) "java/lang/IllegalStateException") ∈ zWSL := zin_3 (List.mem_of_getElem? (i := 233) rfl) rfl
theorem zw_773 : (Jvm.Cond.instantiable "java/lang/IllegalStateException" (6 : Nat)) ∈ zWSL := zin_3 (List.mem_of_getElem? (i := 234) rfl) rfl
theorem zw_774 : (Jvm.Cond.castable "java/lang/IllegalStateException" "java/lang/IllegalStateException") ∈ zWSL := zin_3 (List.mem_of_getElem? (i := 235) rfl) rfl
theorem zw_859 : (Jvm.Cond.classLink "FigureCallerLaw" (37 : Nat) "java/lang/IndexOutOfBoundsException") ∈ zWSL := zin_4 (List.mem_of_getElem? (i := 80) rfl) rfl
theorem zw_864 : (Jvm.Cond.classLink "FigureCaller" (144 : Nat) "java/lang/IndexOutOfBoundsException") ∈ zWSL := zin_4 (List.mem_of_getElem? (i := 85) rfl) rfl
theorem zw_865 : (Jvm.Cond.instantiable "java/lang/IndexOutOfBoundsException" (6 : Nat)) ∈ zWSL := zin_4 (List.mem_of_getElem? (i := 86) rfl) rfl
theorem zw_866 : (Jvm.Cond.castable "java/lang/IndexOutOfBoundsException" "java/lang/IndexOutOfBoundsException") ∈ zWSL := zin_4 (List.mem_of_getElem? (i := 87) rfl) rfl
theorem uC0 : ∀ w ∈ u_ws RC0 TC0 13, w ∈ zWSL := by
  intro w hw
  obtain ⟨k, hk, rfl⟩ := List.mem_map.mp hw
  have hk2 := List.mem_range.mp hk
  clear hk hw
  match k, hk2 with
  | 0, _ => exact zw_353
  | 1, _ => exact zw_355
  | 2, _ => exact zw_357
  | 3, _ => exact zw_359
  | 4, _ => exact zw_361
  | 5, _ => exact zw_363
  | 6, _ => exact zw_365
  | 7, _ => exact zw_367
  | 8, _ => exact zw_369
  | 9, _ => exact zw_371
  | 10, _ => exact zw_373
  | 11, _ => exact zw_375
  | 12, _ => exact zw_377
  | m + 13, h => exact absurd h (by omega)
theorem uC1 : ∀ w ∈ u_ws RC1 TC1 2, w ∈ zWSL := by
  intro w hw
  obtain ⟨k, hk, rfl⟩ := List.mem_map.mp hw
  have hk2 := List.mem_range.mp hk
  clear hk hw
  match k, hk2 with
  | 0, _ => exact zw_103
  | 1, _ => exact zw_105
  | m + 2, h => exact absurd h (by omega)
theorem uC2 : ∀ w ∈ u_ws RC2 TC2 6, w ∈ zWSL := by
  intro w hw
  obtain ⟨k, hk, rfl⟩ := List.mem_map.mp hw
  have hk2 := List.mem_range.mp hk
  clear hk hw
  match k, hk2 with
  | 0, _ => exact zw_165
  | 1, _ => exact zw_167
  | 2, _ => exact zw_169
  | 3, _ => exact zw_171
  | 4, _ => exact zw_173
  | 5, _ => exact zw_175
  | m + 6, h => exact absurd h (by omega)
theorem uC3 : ∀ w ∈ u_ws RC3 TC3 7, w ∈ zWSL := by
  intro w hw
  obtain ⟨k, hk, rfl⟩ := List.mem_map.mp hw
  have hk2 := List.mem_range.mp hk
  clear hk hw
  match k, hk2 with
  | 0, _ => exact zw_138
  | 1, _ => exact zw_140
  | 2, _ => exact zw_142
  | 3, _ => exact zw_144
  | 4, _ => exact zw_146
  | 5, _ => exact zw_148
  | 6, _ => exact zw_150
  | m + 7, h => exact absurd h (by omega)
theorem uC4 : ∀ w ∈ u_ws RC4 TC4 10, w ∈ zWSL := by
  intro w hw
  obtain ⟨k, hk, rfl⟩ := List.mem_map.mp hw
  have hk2 := List.mem_range.mp hk
  clear hk hw
  match k, hk2 with
  | 0, _ => exact zw_234
  | 1, _ => exact zw_236
  | 2, _ => exact zw_238
  | 3, _ => exact zw_240
  | 4, _ => exact zw_242
  | 5, _ => exact zw_244
  | 6, _ => exact zw_246
  | 7, _ => exact zw_248
  | 8, _ => exact zw_250
  | 9, _ => exact zw_252
  | m + 10, h => exact absurd h (by omega)
theorem uC5 : ∀ w ∈ u_ws RC5 TC5 7, w ∈ zWSL := by
  intro w hw
  obtain ⟨k, hk, rfl⟩ := List.mem_map.mp hw
  have hk2 := List.mem_range.mp hk
  clear hk hw
  match k, hk2 with
  | 0, _ => exact zw_201
  | 1, _ => exact zw_203
  | 2, _ => exact zw_205
  | 3, _ => exact zw_207
  | 4, _ => exact zw_209
  | 5, _ => exact zw_211
  | 6, _ => exact zw_213
  | m + 7, h => exact absurd h (by omega)
theorem uC6 : ∀ w ∈ u_ws RC6 TC6 3, w ∈ zWSL := by
  intro w hw
  obtain ⟨k, hk, rfl⟩ := List.mem_map.mp hw
  have hk2 := List.mem_range.mp hk
  clear hk hw
  match k, hk2 with
  | 0, _ => exact zw_275
  | 1, _ => exact zw_277
  | 2, _ => exact zw_279
  | m + 3, h => exact absurd h (by omega)
theorem uC7 : ∀ w ∈ u_ws RC7 TC7 1, w ∈ zWSL := by
  intro w hw
  obtain ⟨k, hk, rfl⟩ := List.mem_map.mp hw
  have hk2 := List.mem_range.mp hk
  clear hk hw
  match k, hk2 with
  | 0, _ => exact zw_268
  | m + 1, h => exact absurd h (by omega)
theorem uC8 : ∀ w ∈ u_ws RC8 TC8 8, w ∈ zWSL := by
  intro w hw
  obtain ⟨k, hk, rfl⟩ := List.mem_map.mp hw
  have hk2 := List.mem_range.mp hk
  clear hk hw
  match k, hk2 with
  | 0, _ => exact zw_298
  | 1, _ => exact zw_300
  | 2, _ => exact zw_302
  | 3, _ => exact zw_304
  | 4, _ => exact zw_306
  | 5, _ => exact zw_308
  | 6, _ => exact zw_310
  | 7, _ => exact zw_312
  | m + 8, h => exact absurd h (by omega)
theorem uC9 : ∀ w ∈ u_ws RC9 TC9 2, w ∈ zWSL := by
  intro w hw
  obtain ⟨k, hk, rfl⟩ := List.mem_map.mp hw
  have hk2 := List.mem_range.mp hk
  clear hk hw
  match k, hk2 with
  | 0, _ => exact zw_328
  | 1, _ => exact zw_330
  | m + 2, h => exact absurd h (by omega)
theorem uC10 : ∀ w ∈ u_ws RC10 TC10 41, w ∈ zWSL := by
  intro w hw
  obtain ⟨k, hk, rfl⟩ := List.mem_map.mp hw
  have hk2 := List.mem_range.mp hk
  clear hk hw
  match k, hk2 with
  | 0, _ => exact zw_981
  | 1, _ => exact zw_983
  | 2, _ => exact zw_985
  | 3, _ => exact zw_987
  | 4, _ => exact zw_989
  | 5, _ => exact zw_991
  | 6, _ => exact zw_993
  | 7, _ => exact zw_995
  | 8, _ => exact zw_997
  | 9, _ => exact zw_999
  | 10, _ => exact zw_1001
  | 11, _ => exact zw_1003
  | 12, _ => exact zw_1005
  | 13, _ => exact zw_1007
  | 14, _ => exact zw_1009
  | 15, _ => exact zw_1011
  | 16, _ => exact zw_1013
  | 17, _ => exact zw_1015
  | 18, _ => exact zw_1017
  | 19, _ => exact zw_1019
  | 20, _ => exact zw_1021
  | 21, _ => exact zw_1023
  | 22, _ => exact zw_1025
  | 23, _ => exact zw_1027
  | 24, _ => exact zw_1029
  | 25, _ => exact zw_1031
  | 26, _ => exact zw_1033
  | 27, _ => exact zw_1035
  | 28, _ => exact zw_1037
  | 29, _ => exact zw_1039
  | 30, _ => exact zw_1041
  | 31, _ => exact zw_1043
  | 32, _ => exact zw_1045
  | 33, _ => exact zw_1047
  | 34, _ => exact zw_1049
  | 35, _ => exact zw_1051
  | 36, _ => exact zw_1053
  | 37, _ => exact zw_1055
  | 38, _ => exact zw_1057
  | 39, _ => exact zw_1059
  | 40, _ => exact zw_1061
  | m + 41, h => exact absurd h (by omega)
theorem zcl_ok : ∀ q ∈ zCL, zcq zWSL q := List.forall_mem_cons.mpr ⟨⟨uC0, nC0, yC0, oC0⟩, List.forall_mem_cons.mpr ⟨⟨uC1, nC1, yC1, oC1⟩, List.forall_mem_cons.mpr ⟨⟨uC2, nC2, yC2, oC2⟩, List.forall_mem_cons.mpr ⟨⟨uC3, nC3, yC3, oC3⟩, List.forall_mem_cons.mpr ⟨⟨uC4, nC4, yC4, oC4⟩, List.forall_mem_cons.mpr ⟨⟨uC5, nC5, yC5, oC5⟩, List.forall_mem_cons.mpr ⟨⟨uC6, nC6, yC6, oC6⟩, List.forall_mem_cons.mpr ⟨⟨uC7, nC7, yC7, oC7⟩, List.forall_mem_cons.mpr ⟨⟨uC8, nC8, yC8, oC8⟩, List.forall_mem_cons.mpr ⟨⟨uC9, nC9, yC9, oC9⟩, List.forall_mem_cons.mpr ⟨⟨uC10, nC10, yC10, oC10⟩, fun _ h => absurd h List.not_mem_nil⟩⟩⟩⟩⟩⟩⟩⟩⟩⟩⟩
def zIN : List Bool := [true, true, true, true, false, false, true, true, true, true, true, false, true, false, false, false, true, false, false, false, false, false, false, false, false, false, false, false, false, false, false, false, false, false, false, false, false, false, false, false, false, false, false, false, false, false, false, false, false, false, false, false, false, false, false, false, false, false, false, false, false, false, false, false, false, false, false, false, false, false, false, false, false, false, false, false, false, false, false, false, false, false, false, false, false, false, false, false, false, false, false, false, false, false, false, false, false, false, false, false, false, false, false, false, false, false, false, false, false, false, false, false, false, false, false, false, false, false, false, false, false, false, false, false, false, false, false, false, false, false, false, false, false, false, false, false, false, false, false, false, false, false, false, false, false, false, false, false, false, false, false, false, false, false, false, false, false, false, false, false, false, false, false, false, false, false, false, false, false, false, false, false, false, false, false, false, false, false, false]
def zall {α : Type} (P : Nat → α → Prop) : Nat → List α → Prop
  | _, [] => True
  | n, l :: r => P n l ∧ zall P (n + 1) r
theorem zall_get {α : Type} {P : Nat → α → Prop} {L : List α} : ∀ {n j : Nat} {l : α}, zall P n L → L[j]? = some l → P (n + j) l := by
  induction L with
  | nil => intro n j l _ h; simp at h
  | cons a r ih =>
    intro n j l h hj
    cases j with
    | zero =>
      have : a = l := by simpa using hj
      subst this
      exact h.1
    | succ j =>
      have := ih h.2 (by simpa using hj : r[j]? = some l)
      rw [show n + (j + 1) = n + 1 + j by omega]
      exact this
theorem zall_app {α : Type} {P : Nat → α → Prop} {A B : List α} : ∀ {n : Nat}, zall P n A → zall P (n + A.length) B → zall P n (A ++ B) := by
  induction A with
  | nil => intro n _ h; exact h
  | cons a r ih =>
    intro n h k
    refine ⟨h.1, ih h.2 ?_⟩
    rw [show n + 1 + r.length = n + (a :: r).length by simp; omega]
    exact k
/-- a method's rows stand as they must -/
def zP (v0 : Value) (mi : Nat) (l : List (Nat × zI)) : Prop := (∀ q ∈ l, zrq (zt v0) ((zMT[mi]?).getD ⟨"", "", ""⟩).cls ((zIN[mi]?).getD false) ((zMR[mi]?).getD none) ((zFR[mi]?).getD 0) ((zLO[mi]?).getD 0) q) ∧ zchk ((zMB[mi]?).getD ⟨#[]⟩) l = true
theorem zp_0 (v0 : Value) : zP v0 0 (zk_0) := ⟨zr_0 v0, zd_0 v0⟩
theorem zp_1 (v0 : Value) : zP v0 1 (zk_1) := ⟨zr_1 v0, zd_1 v0⟩
theorem zp_2 (v0 : Value) : zP v0 2 (zk_2) := ⟨zr_2 v0, zd_2 v0⟩
theorem zp_3 (v0 : Value) : zP v0 3 (zk_3) := ⟨zr_3 v0, zd_3 v0⟩
theorem zp_4 (v0 : Value) : zP v0 4 (zk_4) := ⟨zr_4 v0, zd_4 v0⟩
theorem zp_5 (v0 : Value) : zP v0 5 (zk_5) := ⟨zr_5 v0, zd_5 v0⟩
theorem zp_6 (v0 : Value) : zP v0 6 (zk_6) := ⟨zr_6 v0, zd_6 v0⟩
theorem zp_7 (v0 : Value) : zP v0 7 (zk_7) := ⟨zr_7 v0, zd_7 v0⟩
theorem zp_8 (v0 : Value) : zP v0 8 (zk_8) := ⟨zr_8 v0, zd_8 v0⟩
theorem zp_9 (v0 : Value) : zP v0 9 (zk_9) := ⟨zr_9 v0, zd_9 v0⟩
theorem zp_10 (v0 : Value) : zP v0 10 (zk_10) := ⟨zr_10 v0, zd_10 v0⟩
theorem zp_11 (v0 : Value) : zP v0 11 (zk_11) := ⟨zr_11 v0, zd_11 v0⟩
theorem zp_12 (v0 : Value) : zP v0 12 (zk_12) := ⟨zr_12 v0, zd_12 v0⟩
theorem zp_13 (v0 : Value) : zP v0 13 (zk_13) := ⟨zr_13 v0, zd_13 v0⟩
theorem zp_14 (v0 : Value) : zP v0 14 (zk_14) := ⟨zr_14 v0, zd_14 v0⟩
theorem zp_15 (v0 : Value) : zP v0 15 (zk_15) := ⟨zr_15 v0, zd_15 v0⟩
theorem zp_16 (v0 : Value) : zP v0 16 (zk_16) := ⟨zr_16 v0, zd_16 v0⟩
theorem zp_17 (v0 : Value) : zP v0 17 (zk_17) := ⟨zr_17 v0, zd_17 v0⟩
theorem zp_18 (v0 : Value) : zP v0 18 (zk_18) := ⟨zr_18 v0, zd_18 v0⟩
theorem zp_19 (v0 : Value) : zP v0 19 (zk_19) := ⟨zr_19 v0, zd_19 v0⟩
theorem zp_20 (v0 : Value) : zP v0 20 (zk_20) := ⟨zr_20 v0, zd_20 v0⟩
theorem zp_21 (v0 : Value) : zP v0 21 (zk_21) := ⟨zr_21 v0, zd_21 v0⟩
theorem zp_22 (v0 : Value) : zP v0 22 (zk_22) := ⟨zr_22 v0, zd_22 v0⟩
theorem zp_23 (v0 : Value) : zP v0 23 (zk_23) := ⟨zr_23 v0, zd_23 v0⟩
theorem zp_24 (v0 : Value) : zP v0 24 (zk_24) := ⟨zr_24 v0, zd_24 v0⟩
theorem zp_25 (v0 : Value) : zP v0 25 (zk_25) := ⟨zr_25 v0, zd_25 v0⟩
theorem zp_26 (v0 : Value) : zP v0 26 (zk_26) := ⟨zr_26 v0, zd_26 v0⟩
theorem zp_27 (v0 : Value) : zP v0 27 (zk_27) := ⟨zr_27 v0, zd_27 v0⟩
theorem zp_28 (v0 : Value) : zP v0 28 (zk_28) := ⟨zr_28 v0, zd_28 v0⟩
theorem zp_29 (v0 : Value) : zP v0 29 (zk_29) := ⟨zr_29 v0, zd_29 v0⟩
theorem zp_30 (v0 : Value) : zP v0 30 (zk_30) := ⟨zr_30 v0, zd_30 v0⟩
theorem zp_31 (v0 : Value) : zP v0 31 (zk_31) := ⟨zr_31 v0, zd_31 v0⟩
theorem zp_32 (v0 : Value) : zP v0 32 (zk_32) := ⟨zr_32 v0, zd_32 v0⟩
theorem zp_33 (v0 : Value) : zP v0 33 (zk_33) := ⟨zr_33 v0, zd_33 v0⟩
theorem zp_34 (v0 : Value) : zP v0 34 (zk_34) := ⟨zr_34 v0, zd_34 v0⟩
theorem zp_35 (v0 : Value) : zP v0 35 (zk_35) := ⟨zr_35 v0, zd_35 v0⟩
theorem zp_36 (v0 : Value) : zP v0 36 (zk_36 v0) := ⟨zr_36 v0, zd_36 v0⟩
theorem zp_37 (v0 : Value) : zP v0 37 (zk_37) := ⟨zr_37 v0, zd_37 v0⟩
theorem zp_38 (v0 : Value) : zP v0 38 (zk_38) := ⟨zr_38 v0, zd_38 v0⟩
theorem zp_39 (v0 : Value) : zP v0 39 (zk_39) := ⟨zr_39 v0, zd_39 v0⟩
theorem zp_40 (v0 : Value) : zP v0 40 (zk_40) := ⟨zr_40 v0, zd_40 v0⟩
theorem zp_41 (v0 : Value) : zP v0 41 (zk_41) := ⟨zr_41 v0, zd_41 v0⟩
theorem zp_42 (v0 : Value) : zP v0 42 (zk_42) := ⟨zr_42 v0, zd_42 v0⟩
theorem zp_43 (v0 : Value) : zP v0 43 (zk_43) := ⟨zr_43 v0, zd_43 v0⟩
theorem zp_44 (v0 : Value) : zP v0 44 (zk_44) := ⟨zr_44 v0, zd_44 v0⟩
theorem zp_45 (v0 : Value) : zP v0 45 (zk_45) := ⟨zr_45 v0, zd_45 v0⟩
theorem zp_46 (v0 : Value) : zP v0 46 (zk_46) := ⟨zr_46 v0, zd_46 v0⟩
theorem zp_47 (v0 : Value) : zP v0 47 (zk_47) := ⟨zr_47 v0, zd_47 v0⟩
theorem zp_48 (v0 : Value) : zP v0 48 (zk_48) := ⟨zr_48 v0, zd_48 v0⟩
theorem zp_49 (v0 : Value) : zP v0 49 (zk_49) := ⟨zr_49 v0, zd_49 v0⟩
theorem zp_50 (v0 : Value) : zP v0 50 (zk_50) := ⟨zr_50 v0, zd_50 v0⟩
theorem zp_51 (v0 : Value) : zP v0 51 (zk_51) := ⟨zr_51 v0, zd_51 v0⟩
theorem zp_52 (v0 : Value) : zP v0 52 (zk_52) := ⟨zr_52 v0, zd_52 v0⟩
theorem zp_53 (v0 : Value) : zP v0 53 (zk_53) := ⟨zr_53 v0, zd_53 v0⟩
theorem zp_54 (v0 : Value) : zP v0 54 (zk_54) := ⟨zr_54 v0, zd_54 v0⟩
theorem zp_55 (v0 : Value) : zP v0 55 (zk_55) := ⟨zr_55 v0, zd_55 v0⟩
theorem zp_56 (v0 : Value) : zP v0 56 (zk_56) := ⟨zr_56 v0, zd_56 v0⟩
theorem zp_57 (v0 : Value) : zP v0 57 (zk_57) := ⟨zr_57 v0, zd_57 v0⟩
theorem zp_58 (v0 : Value) : zP v0 58 (zk_58) := ⟨zr_58 v0, zd_58 v0⟩
theorem zp_59 (v0 : Value) : zP v0 59 (zk_59) := ⟨zr_59 v0, zd_59 v0⟩
theorem zp_60 (v0 : Value) : zP v0 60 (zk_60) := ⟨zr_60 v0, zd_60 v0⟩
theorem zp_61 (v0 : Value) : zP v0 61 (zk_61) := ⟨zr_61 v0, zd_61 v0⟩
theorem zp_62 (v0 : Value) : zP v0 62 (zk_62) := ⟨zr_62 v0, zd_62 v0⟩
theorem zp_63 (v0 : Value) : zP v0 63 (zk_63) := ⟨zr_63 v0, zd_63 v0⟩
theorem zp_64 (v0 : Value) : zP v0 64 (zk_64) := ⟨zr_64 v0, zd_64 v0⟩
theorem zp_65 (v0 : Value) : zP v0 65 (zk_65) := ⟨zr_65 v0, zd_65 v0⟩
theorem zp_66 (v0 : Value) : zP v0 66 (zk_66) := ⟨zr_66 v0, zd_66 v0⟩
theorem zp_67 (v0 : Value) : zP v0 67 (zk_67) := ⟨zr_67 v0, zd_67 v0⟩
theorem zp_68 (v0 : Value) : zP v0 68 (zk_68) := ⟨zr_68 v0, zd_68 v0⟩
theorem zp_69 (v0 : Value) : zP v0 69 (zk_69) := ⟨zr_69 v0, zd_69 v0⟩
theorem zp_70 (v0 : Value) : zP v0 70 (zk_70) := ⟨zr_70 v0, zd_70 v0⟩
theorem zp_71 (v0 : Value) : zP v0 71 (zk_71) := ⟨zr_71 v0, zd_71 v0⟩
theorem zp_72 (v0 : Value) : zP v0 72 (zk_72) := ⟨zr_72 v0, zd_72 v0⟩
theorem zp_73 (v0 : Value) : zP v0 73 (zk_73) := ⟨zr_73 v0, zd_73 v0⟩
theorem zp_74 (v0 : Value) : zP v0 74 (zk_74) := ⟨zr_74 v0, zd_74 v0⟩
theorem zp_75 (v0 : Value) : zP v0 75 (zk_75) := ⟨zr_75 v0, zd_75 v0⟩
theorem zp_76 (v0 : Value) : zP v0 76 (zk_76) := ⟨zr_76 v0, zd_76 v0⟩
theorem zp_77 (v0 : Value) : zP v0 77 (zk_77) := ⟨zr_77 v0, zd_77 v0⟩
theorem zp_78 (v0 : Value) : zP v0 78 (zk_78) := ⟨zr_78 v0, zd_78 v0⟩
theorem zp_79 (v0 : Value) : zP v0 79 (zk_79) := ⟨zr_79 v0, zd_79 v0⟩
theorem zp_80 (v0 : Value) : zP v0 80 (zk_80) := ⟨zr_80 v0, zd_80 v0⟩
theorem zp_81 (v0 : Value) : zP v0 81 (zk_81) := ⟨zr_81 v0, zd_81 v0⟩
theorem zp_82 (v0 : Value) : zP v0 82 (zk_82) := ⟨zr_82 v0, zd_82 v0⟩
theorem zp_83 (v0 : Value) : zP v0 83 (zk_83) := ⟨zr_83 v0, zd_83 v0⟩
theorem zp_84 (v0 : Value) : zP v0 84 (zk_84) := ⟨zr_84 v0, zd_84 v0⟩
theorem zp_85 (v0 : Value) : zP v0 85 (zk_85) := ⟨zr_85 v0, zd_85 v0⟩
theorem zp_86 (v0 : Value) : zP v0 86 (zk_86) := ⟨zr_86 v0, zd_86 v0⟩
theorem zp_87 (v0 : Value) : zP v0 87 (zk_87) := ⟨zr_87 v0, zd_87 v0⟩
theorem zp_88 (v0 : Value) : zP v0 88 (zk_88) := ⟨zr_88 v0, zd_88 v0⟩
theorem zp_89 (v0 : Value) : zP v0 89 (zk_89) := ⟨zr_89 v0, zd_89 v0⟩
theorem zp_90 (v0 : Value) : zP v0 90 (zk_90) := ⟨zr_90 v0, zd_90 v0⟩
theorem zp_91 (v0 : Value) : zP v0 91 (zk_91) := ⟨zr_91 v0, zd_91 v0⟩
theorem zp_92 (v0 : Value) : zP v0 92 (zk_92) := ⟨zr_92 v0, zd_92 v0⟩
theorem zp_93 (v0 : Value) : zP v0 93 (zk_93) := ⟨zr_93 v0, zd_93 v0⟩
theorem zp_94 (v0 : Value) : zP v0 94 (zk_94) := ⟨zr_94 v0, zd_94 v0⟩
theorem zp_95 (v0 : Value) : zP v0 95 (zk_95) := ⟨zr_95 v0, zd_95 v0⟩
theorem zp_96 (v0 : Value) : zP v0 96 (zk_96) := ⟨zr_96 v0, zd_96 v0⟩
theorem zp_97 (v0 : Value) : zP v0 97 (zk_97) := ⟨zr_97 v0, zd_97 v0⟩
theorem zp_98 (v0 : Value) : zP v0 98 (zk_98) := ⟨zr_98 v0, zd_98 v0⟩
theorem zp_99 (v0 : Value) : zP v0 99 (zk_99) := ⟨zr_99 v0, zd_99 v0⟩
theorem zp_100 (v0 : Value) : zP v0 100 (zk_100) := ⟨zr_100 v0, zd_100 v0⟩
theorem zp_101 (v0 : Value) : zP v0 101 (zk_101) := ⟨zr_101 v0, zd_101 v0⟩
theorem zp_102 (v0 : Value) : zP v0 102 (zk_102) := ⟨zr_102 v0, zd_102 v0⟩
theorem zp_103 (v0 : Value) : zP v0 103 (zk_103) := ⟨zr_103 v0, zd_103 v0⟩
theorem zp_104 (v0 : Value) : zP v0 104 (zk_104) := ⟨zr_104 v0, zd_104 v0⟩
theorem zp_105 (v0 : Value) : zP v0 105 (zk_105) := ⟨zr_105 v0, zd_105 v0⟩
theorem zp_106 (v0 : Value) : zP v0 106 (zk_106) := ⟨zr_106 v0, zd_106 v0⟩
theorem zp_107 (v0 : Value) : zP v0 107 (zk_107) := ⟨zr_107 v0, zd_107 v0⟩
theorem zp_108 (v0 : Value) : zP v0 108 (zk_108) := ⟨zr_108 v0, zd_108 v0⟩
theorem zp_109 (v0 : Value) : zP v0 109 (zk_109) := ⟨zr_109 v0, zd_109 v0⟩
theorem zp_110 (v0 : Value) : zP v0 110 (zk_110) := ⟨zr_110 v0, zd_110 v0⟩
theorem zp_111 (v0 : Value) : zP v0 111 (zk_111) := ⟨zr_111 v0, zd_111 v0⟩
theorem zp_112 (v0 : Value) : zP v0 112 (zk_112) := ⟨zr_112 v0, zd_112 v0⟩
theorem zp_113 (v0 : Value) : zP v0 113 (zk_113) := ⟨zr_113 v0, zd_113 v0⟩
theorem zp_114 (v0 : Value) : zP v0 114 (zk_114) := ⟨zr_114 v0, zd_114 v0⟩
theorem zp_115 (v0 : Value) : zP v0 115 (zk_115) := ⟨zr_115 v0, zd_115 v0⟩
theorem zp_116 (v0 : Value) : zP v0 116 (zk_116) := ⟨zr_116 v0, zd_116 v0⟩
theorem zp_117 (v0 : Value) : zP v0 117 (zk_117) := ⟨zr_117 v0, zd_117 v0⟩
theorem zp_118 (v0 : Value) : zP v0 118 (zk_118) := ⟨zr_118 v0, zd_118 v0⟩
theorem zp_119 (v0 : Value) : zP v0 119 (zk_119) := ⟨zr_119 v0, zd_119 v0⟩
theorem zp_120 (v0 : Value) : zP v0 120 (zk_120) := ⟨zr_120 v0, zd_120 v0⟩
theorem zp_121 (v0 : Value) : zP v0 121 (zk_121) := ⟨zr_121 v0, zd_121 v0⟩
theorem zp_122 (v0 : Value) : zP v0 122 (zk_122) := ⟨zr_122 v0, zd_122 v0⟩
theorem zp_123 (v0 : Value) : zP v0 123 (zk_123) := ⟨zr_123 v0, zd_123 v0⟩
theorem zp_124 (v0 : Value) : zP v0 124 (zk_124) := ⟨zr_124 v0, zd_124 v0⟩
theorem zp_125 (v0 : Value) : zP v0 125 (zk_125) := ⟨zr_125 v0, zd_125 v0⟩
theorem zp_126 (v0 : Value) : zP v0 126 (zk_126) := ⟨zr_126 v0, zd_126 v0⟩
theorem zp_127 (v0 : Value) : zP v0 127 (zk_127) := ⟨zr_127 v0, zd_127 v0⟩
theorem zp_128 (v0 : Value) : zP v0 128 (zk_128) := ⟨zr_128 v0, zd_128 v0⟩
theorem zp_129 (v0 : Value) : zP v0 129 (zk_129) := ⟨zr_129 v0, zd_129 v0⟩
theorem zp_130 (v0 : Value) : zP v0 130 (zk_130) := ⟨zr_130 v0, zd_130 v0⟩
theorem zp_131 (v0 : Value) : zP v0 131 (zk_131) := ⟨zr_131 v0, zd_131 v0⟩
theorem zp_132 (v0 : Value) : zP v0 132 (zk_132) := ⟨zr_132 v0, zd_132 v0⟩
theorem zp_133 (v0 : Value) : zP v0 133 (zk_133) := ⟨zr_133 v0, zd_133 v0⟩
theorem zp_134 (v0 : Value) : zP v0 134 (zk_134) := ⟨zr_134 v0, zd_134 v0⟩
theorem zp_135 (v0 : Value) : zP v0 135 (zk_135) := ⟨zr_135 v0, zd_135 v0⟩
theorem zp_136 (v0 : Value) : zP v0 136 (zk_136) := ⟨zr_136 v0, zd_136 v0⟩
theorem zp_137 (v0 : Value) : zP v0 137 (zk_137) := ⟨zr_137 v0, zd_137 v0⟩
theorem zp_138 (v0 : Value) : zP v0 138 (zk_138) := ⟨zr_138 v0, zd_138 v0⟩
theorem zp_139 (v0 : Value) : zP v0 139 (zk_139) := ⟨zr_139 v0, zd_139 v0⟩
theorem zp_140 (v0 : Value) : zP v0 140 (zk_140) := ⟨zr_140 v0, zd_140 v0⟩
theorem zp_141 (v0 : Value) : zP v0 141 (zk_141) := ⟨zr_141 v0, zd_141 v0⟩
theorem zp_142 (v0 : Value) : zP v0 142 (zk_142) := ⟨zr_142 v0, zd_142 v0⟩
theorem zp_143 (v0 : Value) : zP v0 143 (zk_143) := ⟨zr_143 v0, zd_143 v0⟩
theorem zp_144 (v0 : Value) : zP v0 144 (zk_144) := ⟨zr_144 v0, zd_144 v0⟩
theorem zp_145 (v0 : Value) : zP v0 145 (zk_145) := ⟨zr_145 v0, zd_145 v0⟩
theorem zp_146 (v0 : Value) : zP v0 146 (zk_146) := ⟨zr_146 v0, zd_146 v0⟩
theorem zp_147 (v0 : Value) : zP v0 147 (zk_147) := ⟨zr_147 v0, zd_147 v0⟩
theorem zp_148 (v0 : Value) : zP v0 148 (zk_148) := ⟨zr_148 v0, zd_148 v0⟩
theorem zp_149 (v0 : Value) : zP v0 149 (zk_149) := ⟨zr_149 v0, zd_149 v0⟩
theorem zp_150 (v0 : Value) : zP v0 150 (zk_150) := ⟨zr_150 v0, zd_150 v0⟩
theorem zp_151 (v0 : Value) : zP v0 151 (zk_151) := ⟨zr_151 v0, zd_151 v0⟩
theorem zp_152 (v0 : Value) : zP v0 152 (zk_152) := ⟨zr_152 v0, zd_152 v0⟩
theorem zp_153 (v0 : Value) : zP v0 153 (zk_153) := ⟨zr_153 v0, zd_153 v0⟩
theorem zp_154 (v0 : Value) : zP v0 154 (zk_154) := ⟨zr_154 v0, zd_154 v0⟩
theorem zp_155 (v0 : Value) : zP v0 155 (zk_155) := ⟨zr_155 v0, zd_155 v0⟩
theorem zp_156 (v0 : Value) : zP v0 156 (zk_156) := ⟨zr_156 v0, zd_156 v0⟩
theorem zp_157 (v0 : Value) : zP v0 157 (zk_157) := ⟨zr_157 v0, zd_157 v0⟩
theorem zp_158 (v0 : Value) : zP v0 158 (zk_158) := ⟨zr_158 v0, zd_158 v0⟩
theorem zp_159 (v0 : Value) : zP v0 159 (zk_159) := ⟨zr_159 v0, zd_159 v0⟩
theorem zp_160 (v0 : Value) : zP v0 160 (zk_160) := ⟨zr_160 v0, zd_160 v0⟩
theorem zp_161 (v0 : Value) : zP v0 161 (zk_161) := ⟨zr_161 v0, zd_161 v0⟩
theorem zp_162 (v0 : Value) : zP v0 162 (zk_162) := ⟨zr_162 v0, zd_162 v0⟩
theorem zp_163 (v0 : Value) : zP v0 163 (zk_163) := ⟨zr_163 v0, zd_163 v0⟩
theorem zp_164 (v0 : Value) : zP v0 164 (zk_164) := ⟨zr_164 v0, zd_164 v0⟩
theorem zp_165 (v0 : Value) : zP v0 165 (zk_165) := ⟨zr_165 v0, zd_165 v0⟩
theorem zp_166 (v0 : Value) : zP v0 166 (zk_166) := ⟨zr_166 v0, zd_166 v0⟩
theorem zp_167 (v0 : Value) : zP v0 167 (zk_167) := ⟨zr_167 v0, zd_167 v0⟩
theorem zp_168 (v0 : Value) : zP v0 168 (zk_168) := ⟨zr_168 v0, zd_168 v0⟩
theorem zp_169 (v0 : Value) : zP v0 169 (zk_169) := ⟨zr_169 v0, zd_169 v0⟩
theorem zp_170 (v0 : Value) : zP v0 170 (zk_170) := ⟨zr_170 v0, zd_170 v0⟩
theorem zp_171 (v0 : Value) : zP v0 171 (zk_171) := ⟨zr_171 v0, zd_171 v0⟩
theorem zp_172 (v0 : Value) : zP v0 172 (zk_172) := ⟨zr_172 v0, zd_172 v0⟩
theorem zp_173 (v0 : Value) : zP v0 173 (zk_173) := ⟨zr_173 v0, zd_173 v0⟩
theorem zp_174 (v0 : Value) : zP v0 174 (zk_174) := ⟨zr_174 v0, zd_174 v0⟩
theorem zp_175 (v0 : Value) : zP v0 175 (zk_175) := ⟨zr_175 v0, zd_175 v0⟩
theorem zp_176 (v0 : Value) : zP v0 176 (zk_176) := ⟨zr_176 v0, zd_176 v0⟩
theorem zp_177 (v0 : Value) : zP v0 177 (zk_177) := ⟨zr_177 v0, zd_177 v0⟩
theorem zp_178 (v0 : Value) : zP v0 178 (zk_178) := ⟨zr_178 v0, zd_178 v0⟩
theorem zpa_0 (v0 : Value) : zall (zP v0) 0 [zk_0, zk_1, zk_2, zk_3, zk_4, zk_5, zk_6, zk_7, zk_8, zk_9, zk_10, zk_11, zk_12, zk_13, zk_14, zk_15, zk_16, zk_17, zk_18, zk_19] := ⟨zp_0 v0, zp_1 v0, zp_2 v0, zp_3 v0, zp_4 v0, zp_5 v0, zp_6 v0, zp_7 v0, zp_8 v0, zp_9 v0, zp_10 v0, zp_11 v0, zp_12 v0, zp_13 v0, zp_14 v0, zp_15 v0, zp_16 v0, zp_17 v0, zp_18 v0, zp_19 v0, trivial⟩
theorem zpa_1 (v0 : Value) : zall (zP v0) 20 [zk_20, zk_21, zk_22, zk_23, zk_24, zk_25, zk_26, zk_27, zk_28, zk_29, zk_30, zk_31, zk_32, zk_33, zk_34, zk_35, zk_36 v0, zk_37, zk_38, zk_39] := ⟨zp_20 v0, zp_21 v0, zp_22 v0, zp_23 v0, zp_24 v0, zp_25 v0, zp_26 v0, zp_27 v0, zp_28 v0, zp_29 v0, zp_30 v0, zp_31 v0, zp_32 v0, zp_33 v0, zp_34 v0, zp_35 v0, zp_36 v0, zp_37 v0, zp_38 v0, zp_39 v0, trivial⟩
theorem zpa_2 (v0 : Value) : zall (zP v0) 40 [zk_40, zk_41, zk_42, zk_43, zk_44, zk_45, zk_46, zk_47, zk_48, zk_49, zk_50, zk_51, zk_52, zk_53, zk_54, zk_55, zk_56, zk_57, zk_58, zk_59] := ⟨zp_40 v0, zp_41 v0, zp_42 v0, zp_43 v0, zp_44 v0, zp_45 v0, zp_46 v0, zp_47 v0, zp_48 v0, zp_49 v0, zp_50 v0, zp_51 v0, zp_52 v0, zp_53 v0, zp_54 v0, zp_55 v0, zp_56 v0, zp_57 v0, zp_58 v0, zp_59 v0, trivial⟩
theorem zpa_3 (v0 : Value) : zall (zP v0) 60 [zk_60, zk_61, zk_62, zk_63, zk_64, zk_65, zk_66, zk_67, zk_68, zk_69, zk_70, zk_71, zk_72, zk_73, zk_74, zk_75, zk_76, zk_77, zk_78, zk_79] := ⟨zp_60 v0, zp_61 v0, zp_62 v0, zp_63 v0, zp_64 v0, zp_65 v0, zp_66 v0, zp_67 v0, zp_68 v0, zp_69 v0, zp_70 v0, zp_71 v0, zp_72 v0, zp_73 v0, zp_74 v0, zp_75 v0, zp_76 v0, zp_77 v0, zp_78 v0, zp_79 v0, trivial⟩
theorem zpa_4 (v0 : Value) : zall (zP v0) 80 [zk_80, zk_81, zk_82, zk_83, zk_84, zk_85, zk_86, zk_87, zk_88, zk_89, zk_90, zk_91, zk_92, zk_93, zk_94, zk_95, zk_96, zk_97, zk_98, zk_99] := ⟨zp_80 v0, zp_81 v0, zp_82 v0, zp_83 v0, zp_84 v0, zp_85 v0, zp_86 v0, zp_87 v0, zp_88 v0, zp_89 v0, zp_90 v0, zp_91 v0, zp_92 v0, zp_93 v0, zp_94 v0, zp_95 v0, zp_96 v0, zp_97 v0, zp_98 v0, zp_99 v0, trivial⟩
theorem zpa_5 (v0 : Value) : zall (zP v0) 100 [zk_100, zk_101, zk_102, zk_103, zk_104, zk_105, zk_106, zk_107, zk_108, zk_109, zk_110, zk_111, zk_112, zk_113, zk_114, zk_115, zk_116, zk_117, zk_118, zk_119] := ⟨zp_100 v0, zp_101 v0, zp_102 v0, zp_103 v0, zp_104 v0, zp_105 v0, zp_106 v0, zp_107 v0, zp_108 v0, zp_109 v0, zp_110 v0, zp_111 v0, zp_112 v0, zp_113 v0, zp_114 v0, zp_115 v0, zp_116 v0, zp_117 v0, zp_118 v0, zp_119 v0, trivial⟩
theorem zpa_6 (v0 : Value) : zall (zP v0) 120 [zk_120, zk_121, zk_122, zk_123, zk_124, zk_125, zk_126, zk_127, zk_128, zk_129, zk_130, zk_131, zk_132, zk_133, zk_134, zk_135, zk_136, zk_137, zk_138, zk_139] := ⟨zp_120 v0, zp_121 v0, zp_122 v0, zp_123 v0, zp_124 v0, zp_125 v0, zp_126 v0, zp_127 v0, zp_128 v0, zp_129 v0, zp_130 v0, zp_131 v0, zp_132 v0, zp_133 v0, zp_134 v0, zp_135 v0, zp_136 v0, zp_137 v0, zp_138 v0, zp_139 v0, trivial⟩
theorem zpa_7 (v0 : Value) : zall (zP v0) 140 [zk_140, zk_141, zk_142, zk_143, zk_144, zk_145, zk_146, zk_147, zk_148, zk_149, zk_150, zk_151, zk_152, zk_153, zk_154, zk_155, zk_156, zk_157, zk_158, zk_159] := ⟨zp_140 v0, zp_141 v0, zp_142 v0, zp_143 v0, zp_144 v0, zp_145 v0, zp_146 v0, zp_147 v0, zp_148 v0, zp_149 v0, zp_150 v0, zp_151 v0, zp_152 v0, zp_153 v0, zp_154 v0, zp_155 v0, zp_156 v0, zp_157 v0, zp_158 v0, zp_159 v0, trivial⟩
theorem zpa_8 (v0 : Value) : zall (zP v0) 160 [zk_160, zk_161, zk_162, zk_163, zk_164, zk_165, zk_166, zk_167, zk_168, zk_169, zk_170, zk_171, zk_172, zk_173, zk_174, zk_175, zk_176, zk_177, zk_178] := ⟨zp_160 v0, zp_161 v0, zp_162 v0, zp_163 v0, zp_164 v0, zp_165 v0, zp_166 v0, zp_167 v0, zp_168 v0, zp_169 v0, zp_170 v0, zp_171 v0, zp_172 v0, zp_173 v0, zp_174 v0, zp_175 v0, zp_176 v0, zp_177 v0, zp_178 v0, trivial⟩
theorem zp_all (v0 : Value) : zall (zP v0) 0 (zKS v0) := zall_app (zpa_0 v0) (zall_app (zpa_1 v0) (zall_app (zpa_2 v0) (zall_app (zpa_3 v0) (zall_app (zpa_4 v0) (zall_app (zpa_5 v0) (zall_app (zpa_6 v0) (zall_app (zpa_7 v0) (zpa_8 v0))))))))
theorem zin_ok : (List.range 179).all (fun mi => ((((zMT[mi]?).getD (⟨"", "", ""⟩ : MethodName)).name == "<init>") == (zIN[mi]?).getD false)) = true := by decide +kernel
theorem zlen_ok : (∀ v0, (zKS v0).length = 179) := fun _ => rfl
theorem zlook {β : Type} {l : List (Nat × β)} {k : Nat} {v : β} (h : l.lookup k = some v) : (k, v) ∈ l := by
  induction l with
  | nil => cases h
  | cons a r ih =>
    obtain ⟨x, y⟩ := a
    by_cases hx : k = x
    · subst hx
      have : y = v := by simpa [List.lookup] using h
      subst this
      exact List.mem_cons_self
    · have hb : (k == x) = false := by simpa using hx
      simp only [List.lookup, hb] at h
      exact List.mem_cons_of_mem _ (ih h)
theorem zget {v0 : Value} {mi pc : Nat} {q : zI} (h : zcd (zt v0) mi pc = some q) : ∃ l, (zKS v0)[mi]? = some l ∧ (pc, q) ∈ l := by
  have h' : (((zKS v0)[mi]?).getD []).lookup pc = some q := h
  cases hl : (zKS v0)[mi]? with
  | none => rw [hl] at h'; cases h'
  | some l => rw [hl] at h'; exact ⟨l, rfl, zlook h'⟩
theorem zins_ok (v0 : Value) (mi pc : Nat) (i : Instr) (a b c : Nat) (v : Value) (h : zcd (zt v0) mi pc = some (i, a, b, c, v)) : zokI (zt v0) mi pc i a b c v := by
  obtain ⟨l, hl, hm⟩ := zget h
  have hp := zall_get (zp_all v0) hl
  rw [Nat.zero_add] at hp
  obtain ⟨h1, h2⟩ := hp
  have hlt : mi < 179 := by
    have := (List.getElem?_eq_some_iff.mp hl).1
    rw [zlen_ok] at this
    exact this
  have hini : (((zMT[mi]?).getD ⟨"", "", ""⟩).name == "<init>") = (zIN[mi]?).getD false := by
    have := List.all_eq_true.mp zin_ok mi (List.mem_range.mpr hlt)
    simpa using this
  have hd : ∃ n, decode (zmb (zt v0) mi) pc = .ok (i, n) ∧ zlk i n = true := by
    have h3 := List.all_eq_true.mp h2 _ hm
    dsimp only at h3
    split at h3
    · rename_i j n hj
      simp only [Bool.and_eq_true, decide_eq_true_eq] at h3
      obtain ⟨h4, h5⟩ := h3
      subst h4
      exact ⟨n, hj, h5⟩
    · cases h3
  obtain ⟨g1, g2, g3, g4, g5⟩ := h1 _ hm
  refine ⟨hd, g1, ?_, g3, g4, g5⟩
  show zokc (zWS (zt v0)) (zcl (zt v0)) (zel (zt v0)) (zdf (zt v0)) ((zMT[mi]?).getD ⟨"", "", ""⟩).cls (zho (zt v0)) (((zMT[mi]?).getD ⟨"", "", ""⟩).name == "<init>") i a b c
  rw [hini]
  exact g2
theorem zST_ok (v0 : Value) : zST (zt v0) := ⟨fun w hw => zgb_spec (List.mem_filter.mp hw).2, zcl_ok, (by decide : zCL.length ≤ 99), zins_ok v0⟩
theorem zhno (v0 : Value) (mi pc x : Nat) (h : zhn (zt v0) mi pc x = none) : zhs (zt v0) mi = [] := by
  have h' : zHN mi pc x = none := h
  have hn : zHL.lookup mi = none := by
    unfold zHN at h'
    split at h'
    · assumption
    · split at h' <;> cases h'
  show (zHS[mi]?).getD [] = []
  by_cases hlt : mi < 179
  · have hall : (List.range 179).all (fun mi => (zHL.lookup mi).isSome || decide ((zHS[mi]?).getD [] = [])) = true := by decide +kernel
    have := List.all_eq_true.mp hall mi (List.mem_range.mpr hlt)
    simpa [hn] using this
  · have : zHS[mi]? = none := List.getElem?_eq_none (by show 179 ≤ mi; omega)
    rw [this]
    rfl
theorem zit_1 {c : Jvm.Cond} (h : c ∈ tables_1_1) : c ∈ lw_tbl := show c ∈ k2_sels lw_privs ++ (tables_1_1 ++ (tables_1_2 ++ (tables_1_3 ++ (tables_1_4 ++ (tables_1_5 ++ tables_1_6))))) from List.mem_append_right _ (List.mem_append_left _ h)
theorem zit_2 {c : Jvm.Cond} (h : c ∈ tables_1_2) : c ∈ lw_tbl := show c ∈ k2_sels lw_privs ++ (tables_1_1 ++ (tables_1_2 ++ (tables_1_3 ++ (tables_1_4 ++ (tables_1_5 ++ tables_1_6))))) from List.mem_append_right _ (List.mem_append_right _ (List.mem_append_left _ h))
theorem zit_3 {c : Jvm.Cond} (h : c ∈ tables_1_3) : c ∈ lw_tbl := show c ∈ k2_sels lw_privs ++ (tables_1_1 ++ (tables_1_2 ++ (tables_1_3 ++ (tables_1_4 ++ (tables_1_5 ++ tables_1_6))))) from List.mem_append_right _ (List.mem_append_right _ (List.mem_append_right _ (List.mem_append_left _ h)))
theorem zit_4 {c : Jvm.Cond} (h : c ∈ tables_1_4) : c ∈ lw_tbl := show c ∈ k2_sels lw_privs ++ (tables_1_1 ++ (tables_1_2 ++ (tables_1_3 ++ (tables_1_4 ++ (tables_1_5 ++ tables_1_6))))) from List.mem_append_right _ (List.mem_append_right _ (List.mem_append_right _ (List.mem_append_right _ (List.mem_append_left _ h))))
theorem zit_5 {c : Jvm.Cond} (h : c ∈ tables_1_5) : c ∈ lw_tbl := show c ∈ k2_sels lw_privs ++ (tables_1_1 ++ (tables_1_2 ++ (tables_1_3 ++ (tables_1_4 ++ (tables_1_5 ++ tables_1_6))))) from List.mem_append_right _ (List.mem_append_right _ (List.mem_append_right _ (List.mem_append_right _ (List.mem_append_right _ (List.mem_append_left _ h)))))
theorem zit_6 {c : Jvm.Cond} (h : c ∈ tables_1_6) : c ∈ lw_tbl := show c ∈ k2_sels lw_privs ++ (tables_1_1 ++ (tables_1_2 ++ (tables_1_3 ++ (tables_1_4 ++ (tables_1_5 ++ tables_1_6))))) from List.mem_append_right _ (List.mem_append_right _ (List.mem_append_right _ (List.mem_append_right _ (List.mem_append_right _ (List.mem_append_right _ h)))))
def zjl_0 : List Jvm.Cond := [(Jvm.Cond.initialized "java/lang/String"), (Jvm.Cond.initialized "java/lang/StringLatin1"), (Jvm.Cond.initialized "java/lang/StringUTF16"), (Jvm.Cond.initialized "java/lang/Math"), (Jvm.Cond.initialized "java/lang/Throwable"), (Jvm.Cond.initialized "java/lang/Exception"), (Jvm.Cond.initialized "java/lang/RuntimeException"), (Jvm.Cond.initialized "java/lang/IllegalArgumentException"), (Jvm.Cond.initialized "java/lang/IllegalStateException"), (Jvm.Cond.initialized "java/lang/System"), (Jvm.Cond.initialized "java/lang/IndexOutOfBoundsException"), (Jvm.Cond.methodLink "FigureCaller" (1 : Nat) ({ cls := "java/lang/Object", name := "<init>", desc := "()V" } : Jvm.MethodName)), (Jvm.Cond.instanceMethod ({ cls := "java/lang/Object", name := "<init>", desc := "()V" } : Jvm.MethodName)), (Jvm.Cond.code ({ cls := "java/lang/Object", name := "<init>", desc := "()V" } : Jvm.MethodName) object_method_1_code (1 : Nat) (Option.none : Option Jvm.ClassFile.FieldType)), (Jvm.Cond.methodLink "FigureCaller$Text" (3 : Nat) ({ cls := "java/lang/Object", name := "<init>", desc := "()V" } : Jvm.MethodName)), (Jvm.Cond.superclass "FigureCaller$Text" "java/lang/Object"), (Jvm.Cond.methodLink "FigureCaller$Book" (3 : Nat) ({ cls := "java/lang/Object", name := "<init>", desc := "()V" } : Jvm.MethodName)), (Jvm.Cond.methodLink "FigureCaller$Figure" (3 : Nat) ({ cls := "java/lang/Object", name := "<init>", desc := "()V" } : Jvm.MethodName)), (Jvm.Cond.superclass "FigureCaller$Figure" "java/lang/Object"), (Jvm.Cond.superclass "FigureCaller$Book" "java/lang/Object")]
theorem zjo_0 : ∀ w ∈ zjl_0, w ∈ lw_tbl := List.forall_mem_cons.mpr ⟨zit_1 (List.mem_of_getElem? (i := 12) rfl), List.forall_mem_cons.mpr ⟨zit_1 (List.mem_of_getElem? (i := 13) rfl), List.forall_mem_cons.mpr ⟨zit_1 (List.mem_of_getElem? (i := 15) rfl), List.forall_mem_cons.mpr ⟨zit_1 (List.mem_of_getElem? (i := 16) rfl), List.forall_mem_cons.mpr ⟨zit_1 (List.mem_of_getElem? (i := 17) rfl), List.forall_mem_cons.mpr ⟨zit_1 (List.mem_of_getElem? (i := 18) rfl), List.forall_mem_cons.mpr ⟨zit_1 (List.mem_of_getElem? (i := 19) rfl), List.forall_mem_cons.mpr ⟨zit_1 (List.mem_of_getElem? (i := 20) rfl), List.forall_mem_cons.mpr ⟨zit_1 (List.mem_of_getElem? (i := 21) rfl), List.forall_mem_cons.mpr ⟨zit_1 (List.mem_of_getElem? (i := 22) rfl), List.forall_mem_cons.mpr ⟨zit_1 (List.mem_of_getElem? (i := 23) rfl), List.forall_mem_cons.mpr ⟨zit_1 (List.mem_of_getElem? (i := 30) rfl), List.forall_mem_cons.mpr ⟨zit_1 (List.mem_of_getElem? (i := 31) rfl), List.forall_mem_cons.mpr ⟨zit_1 (List.mem_of_getElem? (i := 32) rfl), List.forall_mem_cons.mpr ⟨zit_1 (List.mem_of_getElem? (i := 38) rfl), List.forall_mem_cons.mpr ⟨zit_1 (List.mem_of_getElem? (i := 48) rfl), List.forall_mem_cons.mpr ⟨zit_1 (List.mem_of_getElem? (i := 55) rfl), List.forall_mem_cons.mpr ⟨zit_1 (List.mem_of_getElem? (i := 62) rfl), List.forall_mem_cons.mpr ⟨zit_1 (List.mem_of_getElem? (i := 93) rfl), List.forall_mem_cons.mpr ⟨zit_1 (List.mem_of_getElem? (i := 118) rfl), fun _ h => absurd h List.not_mem_nil⟩⟩⟩⟩⟩⟩⟩⟩⟩⟩⟩⟩⟩⟩⟩⟩⟩⟩⟩⟩
def zjl_1 : List Jvm.Cond := [(Jvm.Cond.methodLink "FigureCaller$Reader" (3 : Nat) ({ cls := "java/lang/Object", name := "<init>", desc := "()V" } : Jvm.MethodName)), (Jvm.Cond.methodLink "FigureCaller$Tokens" (3 : Nat) ({ cls := "java/lang/Object", name := "<init>", desc := "()V" } : Jvm.MethodName)), (Jvm.Cond.superclass "FigureCaller$Tokens" "java/lang/Object"), (Jvm.Cond.superclass "FigureCaller$Reader" "java/lang/Object"), (Jvm.Cond.methodLink "FigureCaller$Dancing" (3 : Nat) ({ cls := "java/lang/Object", name := "<init>", desc := "()V" } : Jvm.MethodName)), (Jvm.Cond.methodLink "FigureCaller$Selection" (3 : Nat) ({ cls := "java/lang/Object", name := "<init>", desc := "()V" } : Jvm.MethodName)), (Jvm.Cond.superclass "FigureCaller$Selection" "java/lang/Object"), (Jvm.Cond.superclass "FigureCaller$Dancing" "java/lang/Object"), (Jvm.Cond.methodLink "FigureCaller$WayHome" (3 : Nat) ({ cls := "java/lang/Object", name := "<init>", desc := "()V" } : Jvm.MethodName)), (Jvm.Cond.superclass "FigureCaller$WayHome" "java/lang/Object"), (Jvm.Cond.methodLink "FigureCaller$Track" (3 : Nat) ({ cls := "java/lang/Object", name := "<init>", desc := "()V" } : Jvm.MethodName)), (Jvm.Cond.superclass "FigureCaller$Track" "java/lang/Object"), (Jvm.Cond.superclass "FigureCaller" "java/lang/Object"), (Jvm.Cond.methodLink "FigureCaller$Shape" (9 : Nat) ({ cls := "java/lang/Math", name := "min", desc := "(II)I" } : Jvm.MethodName)), (Jvm.Cond.static ({ cls := "java/lang/Math", name := "min", desc := "(II)I" } : Jvm.MethodName)), (Jvm.Cond.code ({ cls := "java/lang/Math", name := "min", desc := "(II)I" } : Jvm.MethodName) prog_18_method_69_code (2 : Nat) (Option.some Jvm.ClassFile.FieldType.int)), (Jvm.Cond.methodLink "FigureCaller$Shape" (15 : Nat) ({ cls := "java/lang/Math", name := "max", desc := "(II)I" } : Jvm.MethodName)), (Jvm.Cond.static ({ cls := "java/lang/Math", name := "max", desc := "(II)I" } : Jvm.MethodName)), (Jvm.Cond.code ({ cls := "java/lang/Math", name := "max", desc := "(II)I" } : Jvm.MethodName) prog_18_method_65_code (2 : Nat) (Option.some Jvm.ClassFile.FieldType.int)), (Jvm.Cond.methodLink "FigureCaller$WayHome" (40 : Nat) ({ cls := "java/lang/System", name := "arraycopy", desc := "(Ljava/lang/Object;ILjava/lang/Object;II)V" } : Jvm.MethodName))]
theorem zjo_1 : ∀ w ∈ zjl_1, w ∈ lw_tbl := List.forall_mem_cons.mpr ⟨zit_1 (List.mem_of_getElem? (i := 124) rfl), List.forall_mem_cons.mpr ⟨zit_1 (List.mem_of_getElem? (i := 130) rfl), List.forall_mem_cons.mpr ⟨zit_1 (List.mem_of_getElem? (i := 156) rfl), List.forall_mem_cons.mpr ⟨zit_1 (List.mem_of_getElem? (i := 195) rfl), List.forall_mem_cons.mpr ⟨zit_1 (List.mem_of_getElem? (i := 201) rfl), List.forall_mem_cons.mpr ⟨zit_1 (List.mem_of_getElem? (i := 207) rfl), List.forall_mem_cons.mpr ⟨zit_1 (List.mem_of_getElem? (i := 211) rfl), List.forall_mem_cons.mpr ⟨zit_1 (List.mem_of_getElem? (i := 222) rfl), List.forall_mem_cons.mpr ⟨zit_1 (List.mem_of_getElem? (i := 228) rfl), List.forall_mem_cons.mpr ⟨zit_2 (List.mem_of_getElem? (i := 15) rfl), List.forall_mem_cons.mpr ⟨zit_2 (List.mem_of_getElem? (i := 22) rfl), List.forall_mem_cons.mpr ⟨zit_2 (List.mem_of_getElem? (i := 33) rfl), List.forall_mem_cons.mpr ⟨zit_2 (List.mem_of_getElem? (i := 80) rfl), List.forall_mem_cons.mpr ⟨zit_2 (List.mem_of_getElem? (i := 123) rfl), List.forall_mem_cons.mpr ⟨zit_2 (List.mem_of_getElem? (i := 124) rfl), List.forall_mem_cons.mpr ⟨zit_2 (List.mem_of_getElem? (i := 125) rfl), List.forall_mem_cons.mpr ⟨zit_2 (List.mem_of_getElem? (i := 126) rfl), List.forall_mem_cons.mpr ⟨zit_2 (List.mem_of_getElem? (i := 127) rfl), List.forall_mem_cons.mpr ⟨zit_2 (List.mem_of_getElem? (i := 128) rfl), List.forall_mem_cons.mpr ⟨zit_2 (List.mem_of_getElem? (i := 143) rfl), fun _ h => absurd h List.not_mem_nil⟩⟩⟩⟩⟩⟩⟩⟩⟩⟩⟩⟩⟩⟩⟩⟩⟩⟩⟩⟩
def zjl_2 : List Jvm.Cond := [(Jvm.Cond.static ({ cls := "java/lang/System", name := "arraycopy", desc := "(Ljava/lang/Object;ILjava/lang/Object;II)V" } : Jvm.MethodName)), (Jvm.Cond.native ({ cls := "java/lang/System", name := "arraycopy", desc := "(Ljava/lang/Object;ILjava/lang/Object;II)V" } : Jvm.MethodName)), (Jvm.Cond.methodLink "FigureCaller$Track" (15 : Nat) ({ cls := "java/lang/System", name := "arraycopy", desc := "(Ljava/lang/Object;ILjava/lang/Object;II)V" } : Jvm.MethodName)), (Jvm.Cond.classLink "FigureCallerLaw" (13 : Nat) "java/lang/IllegalArgumentException"), (Jvm.Cond.classLink "FigureCallerLaw" (15 : Nat) "java/lang/IllegalStateException"), (Jvm.Cond.methodLink "FigureCaller$Reader" (120 : Nat) ({ cls := "FigureCaller$Tokens", name := "indexIn", desc := "(Ljava/lang/String;)I" } : Jvm.MethodName)), (Jvm.Cond.instanceMethod ({ cls := "FigureCaller$Tokens", name := "indexIn", desc := "(Ljava/lang/String;)I" } : Jvm.MethodName)), (Jvm.Cond.selects "FigureCaller$Tokens" ({ cls := "FigureCaller$Tokens", name := "indexIn", desc := "(Ljava/lang/String;)I" } : Jvm.MethodName) ({ cls := "FigureCaller$Tokens", name := "indexIn", desc := "(Ljava/lang/String;)I" } : Jvm.MethodName)), (Jvm.Cond.code ({ cls := "FigureCaller$Tokens", name := "indexIn", desc := "(Ljava/lang/String;)I" } : Jvm.MethodName) prog_9_method_5_code (6 : Nat) (Option.some Jvm.ClassFile.FieldType.int)), (Jvm.Cond.methodLink "FigureCaller$Tokens" (48 : Nat) ({ cls := "java/lang/String", name := "length", desc := "()I" } : Jvm.MethodName)), (Jvm.Cond.instanceMethod ({ cls := "java/lang/String", name := "length", desc := "()I" } : Jvm.MethodName)), (Jvm.Cond.selects "java/lang/String" ({ cls := "java/lang/String", name := "length", desc := "()I" } : Jvm.MethodName) ({ cls := "java/lang/String", name := "length", desc := "()I" } : Jvm.MethodName)), (Jvm.Cond.code ({ cls := "java/lang/String", name := "length", desc := "()I" } : Jvm.MethodName) prog_20_method_54_code (1 : Nat) (Option.some Jvm.ClassFile.FieldType.int)), (Jvm.Cond.methodLink "java/lang/String" (335 : Nat) ({ cls := "java/lang/String", name := "coder", desc := "()B" } : Jvm.MethodName)), (Jvm.Cond.instanceMethod ({ cls := "java/lang/String", name := "coder", desc := "()B" } : Jvm.MethodName)), (Jvm.Cond.selects "java/lang/String" ({ cls := "java/lang/String", name := "coder", desc := "()B" } : Jvm.MethodName) ({ cls := "java/lang/String", name := "coder", desc := "()B" } : Jvm.MethodName)), (Jvm.Cond.code ({ cls := "java/lang/String", name := "coder", desc := "()B" } : Jvm.MethodName) prog_20_method_152_code (1 : Nat) (Option.some Jvm.ClassFile.FieldType.byte)), (Jvm.Cond.fieldLink "java/lang/String" (38 : Nat) "java/lang/String" "COMPACT_STRINGS" "Z"), (Jvm.Cond.laysStatic "java/lang/String" "COMPACT_STRINGS" "Z"), (Jvm.Cond.methodLink "FigureCaller$Tokens" (53 : Nat) ({ cls := "java/lang/String", name := "charAt", desc := "(I)C" } : Jvm.MethodName))]
theorem zjo_2 : ∀ w ∈ zjl_2, w ∈ lw_tbl := List.forall_mem_cons.mpr ⟨zit_2 (List.mem_of_getElem? (i := 144) rfl), List.forall_mem_cons.mpr ⟨zit_2 (List.mem_of_getElem? (i := 145) rfl), List.forall_mem_cons.mpr ⟨zit_2 (List.mem_of_getElem? (i := 154) rfl), List.forall_mem_cons.mpr ⟨zit_2 (List.mem_of_getElem? (i := 228) rfl), List.forall_mem_cons.mpr ⟨zit_2 (List.mem_of_getElem? (i := 229) rfl), List.forall_mem_cons.mpr ⟨zit_3 (List.mem_of_getElem? (i := 35) rfl), List.forall_mem_cons.mpr ⟨zit_3 (List.mem_of_getElem? (i := 36) rfl), List.forall_mem_cons.mpr ⟨zit_3 (List.mem_of_getElem? (i := 37) rfl), List.forall_mem_cons.mpr ⟨zit_3 (List.mem_of_getElem? (i := 38) rfl), List.forall_mem_cons.mpr ⟨zit_3 (List.mem_of_getElem? (i := 39) rfl), List.forall_mem_cons.mpr ⟨zit_3 (List.mem_of_getElem? (i := 40) rfl), List.forall_mem_cons.mpr ⟨zit_3 (List.mem_of_getElem? (i := 41) rfl), List.forall_mem_cons.mpr ⟨zit_3 (List.mem_of_getElem? (i := 42) rfl), List.forall_mem_cons.mpr ⟨zit_3 (List.mem_of_getElem? (i := 43) rfl), List.forall_mem_cons.mpr ⟨zit_3 (List.mem_of_getElem? (i := 44) rfl), List.forall_mem_cons.mpr ⟨zit_3 (List.mem_of_getElem? (i := 45) rfl), List.forall_mem_cons.mpr ⟨zit_3 (List.mem_of_getElem? (i := 46) rfl), List.forall_mem_cons.mpr ⟨zit_3 (List.mem_of_getElem? (i := 47) rfl), List.forall_mem_cons.mpr ⟨zit_3 (List.mem_of_getElem? (i := 48) rfl), List.forall_mem_cons.mpr ⟨zit_3 (List.mem_of_getElem? (i := 49) rfl), fun _ h => absurd h List.not_mem_nil⟩⟩⟩⟩⟩⟩⟩⟩⟩⟩⟩⟩⟩⟩⟩⟩⟩⟩⟩⟩
def zjl_3 : List Jvm.Cond := [(Jvm.Cond.instanceMethod ({ cls := "java/lang/String", name := "charAt", desc := "(I)C" } : Jvm.MethodName)), (Jvm.Cond.selects "java/lang/String" ({ cls := "java/lang/String", name := "charAt", desc := "(I)C" } : Jvm.MethodName) ({ cls := "java/lang/String", name := "charAt", desc := "(I)C" } : Jvm.MethodName)), (Jvm.Cond.code ({ cls := "java/lang/String", name := "charAt", desc := "(I)C" } : Jvm.MethodName) prog_20_method_56_code (2 : Nat) (Option.some Jvm.ClassFile.FieldType.char)), (Jvm.Cond.methodLink "java/lang/String" (492 : Nat) ({ cls := "java/lang/String", name := "isLatin1", desc := "()Z" } : Jvm.MethodName)), (Jvm.Cond.instanceMethod ({ cls := "java/lang/String", name := "isLatin1", desc := "()Z" } : Jvm.MethodName)), (Jvm.Cond.selects "java/lang/String" ({ cls := "java/lang/String", name := "isLatin1", desc := "()Z" } : Jvm.MethodName) ({ cls := "java/lang/String", name := "isLatin1", desc := "()Z" } : Jvm.MethodName)), (Jvm.Cond.code ({ cls := "java/lang/String", name := "isLatin1", desc := "()Z" } : Jvm.MethodName) prog_20_method_154_code (1 : Nat) (Option.some Jvm.ClassFile.FieldType.boolean)), (Jvm.Cond.methodLink "java/lang/String" (495 : Nat) ({ cls := "java/lang/StringLatin1", name := "charAt", desc := "([BI)C" } : Jvm.MethodName)), (Jvm.Cond.static ({ cls := "java/lang/StringLatin1", name := "charAt", desc := "([BI)C" } : Jvm.MethodName)), (Jvm.Cond.code ({ cls := "java/lang/StringLatin1", name := "charAt", desc := "([BI)C" } : Jvm.MethodName) prog_21_method_2_code (2 : Nat) (Option.some Jvm.ClassFile.FieldType.char)), (Jvm.Cond.methodLink "java/lang/StringLatin1" (9 : Nat) ({ cls := "java/lang/String", name := "checkIndex", desc := "(II)V" } : Jvm.MethodName)), (Jvm.Cond.static ({ cls := "java/lang/String", name := "checkIndex", desc := "(II)V" } : Jvm.MethodName)), (Jvm.Cond.code ({ cls := "java/lang/String", name := "checkIndex", desc := "(II)V" } : Jvm.MethodName) prog_20_method_155_code (2 : Nat) (Option.none : Option Jvm.ClassFile.FieldType)), (Jvm.Cond.fieldLink "java/lang/String" (1053 : Nat) "jdk/internal/util/Preconditions" "SIOOBE_FORMATTER" "Ljava/util/function/BiFunction;"), (Jvm.Cond.laysStatic "jdk/internal/util/Preconditions" "SIOOBE_FORMATTER" "Ljava/util/function/BiFunction;"), (Jvm.Cond.methodLink "java/lang/String" (1059 : Nat) ({ cls := "jdk/internal/util/Preconditions", name := "checkIndex", desc := "(IILjava/util/function/BiFunction;)I" } : Jvm.MethodName)), (Jvm.Cond.static ({ cls := "jdk/internal/util/Preconditions", name := "checkIndex", desc := "(IILjava/util/function/BiFunction;)I" } : Jvm.MethodName)), (Jvm.Cond.code ({ cls := "jdk/internal/util/Preconditions", name := "checkIndex", desc := "(IILjava/util/function/BiFunction;)I" } : Jvm.MethodName) prog_25_method_11_code (3 : Nat) (Option.some Jvm.ClassFile.FieldType.int)), (Jvm.Cond.methodLink "java/lang/String" (498 : Nat) ({ cls := "java/lang/StringUTF16", name := "charAt", desc := "([BI)C" } : Jvm.MethodName)), (Jvm.Cond.static ({ cls := "java/lang/StringUTF16", name := "charAt", desc := "([BI)C" } : Jvm.MethodName))]
theorem zjo_3 : ∀ w ∈ zjl_3, w ∈ lw_tbl := List.forall_mem_cons.mpr ⟨zit_3 (List.mem_of_getElem? (i := 50) rfl), List.forall_mem_cons.mpr ⟨zit_3 (List.mem_of_getElem? (i := 51) rfl), List.forall_mem_cons.mpr ⟨zit_3 (List.mem_of_getElem? (i := 52) rfl), List.forall_mem_cons.mpr ⟨zit_3 (List.mem_of_getElem? (i := 53) rfl), List.forall_mem_cons.mpr ⟨zit_3 (List.mem_of_getElem? (i := 54) rfl), List.forall_mem_cons.mpr ⟨zit_3 (List.mem_of_getElem? (i := 55) rfl), List.forall_mem_cons.mpr ⟨zit_3 (List.mem_of_getElem? (i := 56) rfl), List.forall_mem_cons.mpr ⟨zit_3 (List.mem_of_getElem? (i := 57) rfl), List.forall_mem_cons.mpr ⟨zit_3 (List.mem_of_getElem? (i := 58) rfl), List.forall_mem_cons.mpr ⟨zit_3 (List.mem_of_getElem? (i := 59) rfl), List.forall_mem_cons.mpr ⟨zit_3 (List.mem_of_getElem? (i := 60) rfl), List.forall_mem_cons.mpr ⟨zit_3 (List.mem_of_getElem? (i := 61) rfl), List.forall_mem_cons.mpr ⟨zit_3 (List.mem_of_getElem? (i := 62) rfl), List.forall_mem_cons.mpr ⟨zit_3 (List.mem_of_getElem? (i := 63) rfl), List.forall_mem_cons.mpr ⟨zit_3 (List.mem_of_getElem? (i := 64) rfl), List.forall_mem_cons.mpr ⟨zit_3 (List.mem_of_getElem? (i := 65) rfl), List.forall_mem_cons.mpr ⟨zit_3 (List.mem_of_getElem? (i := 66) rfl), List.forall_mem_cons.mpr ⟨zit_3 (List.mem_of_getElem? (i := 67) rfl), List.forall_mem_cons.mpr ⟨zit_3 (List.mem_of_getElem? (i := 68) rfl), List.forall_mem_cons.mpr ⟨zit_3 (List.mem_of_getElem? (i := 69) rfl), fun _ h => absurd h List.not_mem_nil⟩⟩⟩⟩⟩⟩⟩⟩⟩⟩⟩⟩⟩⟩⟩⟩⟩⟩⟩⟩
def zjl_4 : List Jvm.Cond := [(Jvm.Cond.code ({ cls := "java/lang/StringUTF16", name := "charAt", desc := "([BI)C" } : Jvm.MethodName) prog_22_method_83_code (2 : Nat) (Option.some Jvm.ClassFile.FieldType.char)), (Jvm.Cond.methodLink "java/lang/StringUTF16" (67 : Nat) ({ cls := "java/lang/StringUTF16", name := "checkIndex", desc := "(I[B)V" } : Jvm.MethodName)), (Jvm.Cond.static ({ cls := "java/lang/StringUTF16", name := "checkIndex", desc := "(I[B)V" } : Jvm.MethodName)), (Jvm.Cond.code ({ cls := "java/lang/StringUTF16", name := "checkIndex", desc := "(I[B)V" } : Jvm.MethodName) prog_22_method_91_code (2 : Nat) (Option.none : Option Jvm.ClassFile.FieldType)), (Jvm.Cond.methodLink "java/lang/StringUTF16" (48 : Nat) ({ cls := "java/lang/StringUTF16", name := "length", desc := "([B)I" } : Jvm.MethodName)), (Jvm.Cond.static ({ cls := "java/lang/StringUTF16", name := "length", desc := "([B)I" } : Jvm.MethodName)), (Jvm.Cond.code ({ cls := "java/lang/StringUTF16", name := "length", desc := "([B)I" } : Jvm.MethodName) prog_22_method_6_code (1 : Nat) (Option.some Jvm.ClassFile.FieldType.int)), (Jvm.Cond.methodLink "java/lang/StringUTF16" (414 : Nat) ({ cls := "java/lang/String", name := "checkIndex", desc := "(II)V" } : Jvm.MethodName)), (Jvm.Cond.methodLink "java/lang/StringUTF16" (71 : Nat) ({ cls := "java/lang/StringUTF16", name := "getChar", desc := "([BI)C" } : Jvm.MethodName)), (Jvm.Cond.static ({ cls := "java/lang/StringUTF16", name := "getChar", desc := "([BI)C" } : Jvm.MethodName)), (Jvm.Cond.code ({ cls := "java/lang/StringUTF16", name := "getChar", desc := "([BI)C" } : Jvm.MethodName) prog_22_method_5_code (2 : Nat) (Option.some Jvm.ClassFile.FieldType.char)), (Jvm.Cond.fieldLink "java/lang/StringUTF16" (44 : Nat) "java/lang/StringUTF16" "$assertionsDisabled" "Z"), (Jvm.Cond.laysStatic "java/lang/StringUTF16" "$assertionsDisabled" "Z"), (Jvm.Cond.fieldLink "java/lang/StringUTF16" (59 : Nat) "java/lang/StringUTF16" "HI_BYTE_SHIFT" "I"), (Jvm.Cond.laysStatic "java/lang/StringUTF16" "HI_BYTE_SHIFT" "I"), (Jvm.Cond.fieldLink "java/lang/StringUTF16" (63 : Nat) "java/lang/StringUTF16" "LO_BYTE_SHIFT" "I"), (Jvm.Cond.laysStatic "java/lang/StringUTF16" "LO_BYTE_SHIFT" "I"), (Jvm.Cond.methodLink "FigureCaller$Figure" (32 : Nat) ({ cls := "java/lang/Math", name := "max", desc := "(II)I" } : Jvm.MethodName)), (Jvm.Cond.classLink "FigureCaller" (90 : Nat) "java/lang/IllegalArgumentException"), (Jvm.Cond.instantiable "java/lang/IllegalArgumentException" (6 : Nat))]
theorem zjo_4 : ∀ w ∈ zjl_4, w ∈ lw_tbl := List.forall_mem_cons.mpr ⟨zit_3 (List.mem_of_getElem? (i := 70) rfl), List.forall_mem_cons.mpr ⟨zit_3 (List.mem_of_getElem? (i := 71) rfl), List.forall_mem_cons.mpr ⟨zit_3 (List.mem_of_getElem? (i := 72) rfl), List.forall_mem_cons.mpr ⟨zit_3 (List.mem_of_getElem? (i := 73) rfl), List.forall_mem_cons.mpr ⟨zit_3 (List.mem_of_getElem? (i := 74) rfl), List.forall_mem_cons.mpr ⟨zit_3 (List.mem_of_getElem? (i := 75) rfl), List.forall_mem_cons.mpr ⟨zit_3 (List.mem_of_getElem? (i := 76) rfl), List.forall_mem_cons.mpr ⟨zit_3 (List.mem_of_getElem? (i := 77) rfl), List.forall_mem_cons.mpr ⟨zit_3 (List.mem_of_getElem? (i := 78) rfl), List.forall_mem_cons.mpr ⟨zit_3 (List.mem_of_getElem? (i := 79) rfl), List.forall_mem_cons.mpr ⟨zit_3 (List.mem_of_getElem? (i := 80) rfl), List.forall_mem_cons.mpr ⟨zit_3 (List.mem_of_getElem? (i := 81) rfl), List.forall_mem_cons.mpr ⟨zit_3 (List.mem_of_getElem? (i := 82) rfl), List.forall_mem_cons.mpr ⟨zit_3 (List.mem_of_getElem? (i := 83) rfl), List.forall_mem_cons.mpr ⟨zit_3 (List.mem_of_getElem? (i := 84) rfl), List.forall_mem_cons.mpr ⟨zit_3 (List.mem_of_getElem? (i := 85) rfl), List.forall_mem_cons.mpr ⟨zit_3 (List.mem_of_getElem? (i := 86) rfl), List.forall_mem_cons.mpr ⟨zit_3 (List.mem_of_getElem? (i := 120) rfl), List.forall_mem_cons.mpr ⟨zit_3 (List.mem_of_getElem? (i := 161) rfl), List.forall_mem_cons.mpr ⟨zit_3 (List.mem_of_getElem? (i := 162) rfl), fun _ h => absurd h List.not_mem_nil⟩⟩⟩⟩⟩⟩⟩⟩⟩⟩⟩⟩⟩⟩⟩⟩⟩⟩⟩⟩
def zjl_5 : List Jvm.Cond := [(Jvm.Cond.castable "java/lang/IllegalArgumentException" "java/lang/IllegalArgumentException"), (Jvm.Cond.declares ({ cls := "java/lang/RuntimeException", name := "<init>", desc := "()V" } : Jvm.MethodName)), (Jvm.Cond.declares ({ cls := "java/lang/RuntimeException", name := "<init>", desc := "(Ljava/lang/String;)V" } : Jvm.MethodName)), (Jvm.Cond.declares ({ cls := "java/lang/Exception", name := "<init>", desc := "()V" } : Jvm.MethodName)), (Jvm.Cond.declares ({ cls := "java/lang/Exception", name := "<init>", desc := "(Ljava/lang/String;)V" } : Jvm.MethodName)), (Jvm.Cond.declares ({ cls := "java/lang/Throwable", name := "<init>", desc := "()V" } : Jvm.MethodName)), (Jvm.Cond.declares ({ cls := "java/lang/Throwable", name := "<init>", desc := "(Ljava/lang/String;)V" } : Jvm.MethodName)), (Jvm.Cond.selects "java/lang/IllegalArgumentException" ({ cls := "java/lang/Throwable", name := "fillInStackTrace", desc := "(I)Ljava/lang/Throwable;" } : Jvm.MethodName) ({ cls := "java/lang/Throwable", name := "fillInStackTrace", desc := "(I)Ljava/lang/Throwable;" } : Jvm.MethodName)), (Jvm.Cond.selects "java/lang/IllegalArgumentException" ({ cls := "java/lang/Throwable", name := "fillInStackTrace", desc := "()Ljava/lang/Throwable;" } : Jvm.MethodName) ({ cls := "java/lang/Throwable", name := "fillInStackTrace", desc := "()Ljava/lang/Throwable;" } : Jvm.MethodName)), (Jvm.Cond.lays "java/lang/IllegalArgumentException" "java/lang/Throwable" "cause" "Ljava/lang/Throwable;"), (Jvm.Cond.lays "java/lang/Throwable" "java/lang/Throwable" "cause" "Ljava/lang/Throwable;"), (Jvm.Cond.lays "java/lang/IllegalArgumentException" "java/lang/Throwable" "stackTrace" "[Ljava/lang/StackTraceElement;"), (Jvm.Cond.lays "java/lang/Throwable" "java/lang/Throwable" "stackTrace" "[Ljava/lang/StackTraceElement;"), (Jvm.Cond.lays "java/lang/IllegalArgumentException" "java/lang/Throwable" "suppressedExceptions" "Ljava/util/List;"), (Jvm.Cond.lays "java/lang/Throwable" "java/lang/Throwable" "suppressedExceptions" "Ljava/util/List;"), (Jvm.Cond.lays "java/lang/IllegalArgumentException" "java/lang/Throwable" "detailMessage" "Ljava/lang/String;"), (Jvm.Cond.lays "java/lang/Throwable" "java/lang/Throwable" "detailMessage" "Ljava/lang/String;"), (Jvm.Cond.lays "java/lang/IllegalArgumentException" "java/lang/Throwable" "backtrace" "Ljava/lang/Object;"), (Jvm.Cond.lays "java/lang/Throwable" "java/lang/Throwable" "backtrace" "Ljava/lang/Object;"), (Jvm.Cond.fieldLink "java/lang/Throwable" (198 : Nat) "java/lang/Throwable" "backtrace" "Ljava/lang/Object;")]
theorem zjo_5 : ∀ w ∈ zjl_5, w ∈ lw_tbl := List.forall_mem_cons.mpr ⟨zit_3 (List.mem_of_getElem? (i := 163) rfl), List.forall_mem_cons.mpr ⟨zit_3 (List.mem_of_getElem? (i := 164) rfl), List.forall_mem_cons.mpr ⟨zit_3 (List.mem_of_getElem? (i := 165) rfl), List.forall_mem_cons.mpr ⟨zit_3 (List.mem_of_getElem? (i := 166) rfl), List.forall_mem_cons.mpr ⟨zit_3 (List.mem_of_getElem? (i := 167) rfl), List.forall_mem_cons.mpr ⟨zit_3 (List.mem_of_getElem? (i := 168) rfl), List.forall_mem_cons.mpr ⟨zit_3 (List.mem_of_getElem? (i := 169) rfl), List.forall_mem_cons.mpr ⟨zit_3 (List.mem_of_getElem? (i := 170) rfl), List.forall_mem_cons.mpr ⟨zit_3 (List.mem_of_getElem? (i := 171) rfl), List.forall_mem_cons.mpr ⟨zit_3 (List.mem_of_getElem? (i := 172) rfl), List.forall_mem_cons.mpr ⟨zit_3 (List.mem_of_getElem? (i := 173) rfl), List.forall_mem_cons.mpr ⟨zit_3 (List.mem_of_getElem? (i := 174) rfl), List.forall_mem_cons.mpr ⟨zit_3 (List.mem_of_getElem? (i := 175) rfl), List.forall_mem_cons.mpr ⟨zit_3 (List.mem_of_getElem? (i := 176) rfl), List.forall_mem_cons.mpr ⟨zit_3 (List.mem_of_getElem? (i := 177) rfl), List.forall_mem_cons.mpr ⟨zit_3 (List.mem_of_getElem? (i := 178) rfl), List.forall_mem_cons.mpr ⟨zit_3 (List.mem_of_getElem? (i := 179) rfl), List.forall_mem_cons.mpr ⟨zit_3 (List.mem_of_getElem? (i := 180) rfl), List.forall_mem_cons.mpr ⟨zit_3 (List.mem_of_getElem? (i := 181) rfl), List.forall_mem_cons.mpr ⟨zit_3 (List.mem_of_getElem? (i := 182) rfl), fun _ h => absurd h List.not_mem_nil⟩⟩⟩⟩⟩⟩⟩⟩⟩⟩⟩⟩⟩⟩⟩⟩⟩⟩⟩⟩
def zjl_6 : List Jvm.Cond := [(Jvm.Cond.superclass "java/lang/Throwable" "java/lang/Object"), (Jvm.Cond.instanceMethod ({ cls := "java/lang/Throwable", name := "<init>", desc := "()V" } : Jvm.MethodName)), (Jvm.Cond.code ({ cls := "java/lang/Throwable", name := "<init>", desc := "()V" } : Jvm.MethodName) prog_24_method_1_code (1 : Nat) (Option.none : Option Jvm.ClassFile.FieldType)), (Jvm.Cond.methodLink "java/lang/Throwable" (1 : Nat) ({ cls := "java/lang/Object", name := "<init>", desc := "()V" } : Jvm.MethodName)), (Jvm.Cond.fieldLink "java/lang/Throwable" (13 : Nat) "java/lang/Throwable" "UNASSIGNED_STACK" "[Ljava/lang/StackTraceElement;"), (Jvm.Cond.laysStatic "java/lang/Throwable" "UNASSIGNED_STACK" "[Ljava/lang/StackTraceElement;"), (Jvm.Cond.fieldLink "java/lang/Throwable" (20 : Nat) "java/lang/Throwable" "SUPPRESSED_SENTINEL" "Ljava/util/List;"), (Jvm.Cond.laysStatic "java/lang/Throwable" "SUPPRESSED_SENTINEL" "Ljava/util/List;"), (Jvm.Cond.methodLink "java/lang/Throwable" (27 : Nat) ({ cls := "java/lang/Throwable", name := "fillInStackTrace", desc := "()Ljava/lang/Throwable;" } : Jvm.MethodName)), (Jvm.Cond.instanceMethod ({ cls := "java/lang/Throwable", name := "fillInStackTrace", desc := "()Ljava/lang/Throwable;" } : Jvm.MethodName)), (Jvm.Cond.sameMethod "java/lang/Throwable" "java/lang/Throwable" "fillInStackTrace" "()Ljava/lang/Throwable;"), (Jvm.Cond.selects "java/lang/IllegalStateException" ({ cls := "java/lang/Throwable", name := "fillInStackTrace", desc := "()Ljava/lang/Throwable;" } : Jvm.MethodName) ({ cls := "java/lang/Throwable", name := "fillInStackTrace", desc := "()Ljava/lang/Throwable;" } : Jvm.MethodName)), (Jvm.Cond.selects "java/lang/IndexOutOfBoundsException" ({ cls := "java/lang/Throwable", name := "fillInStackTrace", desc := "()Ljava/lang/Throwable;" } : Jvm.MethodName) ({ cls := "java/lang/Throwable", name := "fillInStackTrace", desc := "()Ljava/lang/Throwable;" } : Jvm.MethodName)), (Jvm.Cond.codeSync ({ cls := "java/lang/Throwable", name := "fillInStackTrace", desc := "()Ljava/lang/Throwable;" } : Jvm.MethodName) prog_24_method_18_code (1 : Nat) (Option.some (Jvm.ClassFile.FieldType.object "java/lang/Throwable"))), (Jvm.Cond.methodLink "java/lang/Throwable" (202 : Nat) ({ cls := "java/lang/Throwable", name := "fillInStackTrace", desc := "(I)Ljava/lang/Throwable;" } : Jvm.MethodName)), (Jvm.Cond.privateMethod ({ cls := "java/lang/Throwable", name := "fillInStackTrace", desc := "(I)Ljava/lang/Throwable;" } : Jvm.MethodName)), (Jvm.Cond.instanceMethod ({ cls := "java/lang/Throwable", name := "fillInStackTrace", desc := "(I)Ljava/lang/Throwable;" } : Jvm.MethodName)), (Jvm.Cond.instantiable "java/lang/Throwable" (6 : Nat)), (Jvm.Cond.native ({ cls := "java/lang/Throwable", name := "fillInStackTrace", desc := "(I)Ljava/lang/Throwable;" } : Jvm.MethodName)), (Jvm.Cond.methodLink "FigureCaller" (94 : Nat) ({ cls := "java/lang/IllegalArgumentException", name := "<init>", desc := "(Ljava/lang/String;)V" } : Jvm.MethodName))]
theorem zjo_6 : ∀ w ∈ zjl_6, w ∈ lw_tbl := List.forall_mem_cons.mpr ⟨zit_3 (List.mem_of_getElem? (i := 183) rfl), List.forall_mem_cons.mpr ⟨zit_3 (List.mem_of_getElem? (i := 184) rfl), List.forall_mem_cons.mpr ⟨zit_3 (List.mem_of_getElem? (i := 185) rfl), List.forall_mem_cons.mpr ⟨zit_3 (List.mem_of_getElem? (i := 186) rfl), List.forall_mem_cons.mpr ⟨zit_3 (List.mem_of_getElem? (i := 187) rfl), List.forall_mem_cons.mpr ⟨zit_3 (List.mem_of_getElem? (i := 188) rfl), List.forall_mem_cons.mpr ⟨zit_3 (List.mem_of_getElem? (i := 189) rfl), List.forall_mem_cons.mpr ⟨zit_3 (List.mem_of_getElem? (i := 190) rfl), List.forall_mem_cons.mpr ⟨zit_3 (List.mem_of_getElem? (i := 191) rfl), List.forall_mem_cons.mpr ⟨zit_3 (List.mem_of_getElem? (i := 192) rfl), List.forall_mem_cons.mpr ⟨zit_3 (List.mem_of_getElem? (i := 193) rfl), List.forall_mem_cons.mpr ⟨zit_3 (List.mem_of_getElem? (i := 194) rfl), List.forall_mem_cons.mpr ⟨zit_3 (List.mem_of_getElem? (i := 195) rfl), List.forall_mem_cons.mpr ⟨zit_3 (List.mem_of_getElem? (i := 196) rfl), List.forall_mem_cons.mpr ⟨zit_3 (List.mem_of_getElem? (i := 197) rfl), List.forall_mem_cons.mpr ⟨zit_3 (List.mem_of_getElem? (i := 198) rfl), List.forall_mem_cons.mpr ⟨zit_3 (List.mem_of_getElem? (i := 199) rfl), List.forall_mem_cons.mpr ⟨zit_3 (List.mem_of_getElem? (i := 200) rfl), List.forall_mem_cons.mpr ⟨zit_3 (List.mem_of_getElem? (i := 201) rfl), List.forall_mem_cons.mpr ⟨zit_3 (List.mem_of_getElem? (i := 203) rfl), fun _ h => absurd h List.not_mem_nil⟩⟩⟩⟩⟩⟩⟩⟩⟩⟩⟩⟩⟩⟩⟩⟩⟩⟩⟩⟩
def zjl_7 : List Jvm.Cond := [(Jvm.Cond.instanceMethod ({ cls := "java/lang/IllegalArgumentException", name := "<init>", desc := "(Ljava/lang/String;)V" } : Jvm.MethodName)), (Jvm.Cond.code ({ cls := "java/lang/IllegalArgumentException", name := "<init>", desc := "(Ljava/lang/String;)V" } : Jvm.MethodName) prog_15_method_2_code (2 : Nat) (Option.none : Option Jvm.ClassFile.FieldType)), (Jvm.Cond.methodLink "java/lang/IllegalArgumentException" (7 : Nat) ({ cls := "java/lang/RuntimeException", name := "<init>", desc := "(Ljava/lang/String;)V" } : Jvm.MethodName)), (Jvm.Cond.instanceMethod ({ cls := "java/lang/RuntimeException", name := "<init>", desc := "(Ljava/lang/String;)V" } : Jvm.MethodName)), (Jvm.Cond.code ({ cls := "java/lang/RuntimeException", name := "<init>", desc := "(Ljava/lang/String;)V" } : Jvm.MethodName) prog_19_method_2_code (2 : Nat) (Option.none : Option Jvm.ClassFile.FieldType)), (Jvm.Cond.methodLink "java/lang/RuntimeException" (7 : Nat) ({ cls := "java/lang/Exception", name := "<init>", desc := "(Ljava/lang/String;)V" } : Jvm.MethodName)), (Jvm.Cond.instanceMethod ({ cls := "java/lang/Exception", name := "<init>", desc := "(Ljava/lang/String;)V" } : Jvm.MethodName)), (Jvm.Cond.code ({ cls := "java/lang/Exception", name := "<init>", desc := "(Ljava/lang/String;)V" } : Jvm.MethodName) prog_14_method_2_code (2 : Nat) (Option.none : Option Jvm.ClassFile.FieldType)), (Jvm.Cond.methodLink "java/lang/Exception" (7 : Nat) ({ cls := "java/lang/Throwable", name := "<init>", desc := "(Ljava/lang/String;)V" } : Jvm.MethodName)), (Jvm.Cond.instanceMethod ({ cls := "java/lang/Throwable", name := "<init>", desc := "(Ljava/lang/String;)V" } : Jvm.MethodName)), (Jvm.Cond.code ({ cls := "java/lang/Throwable", name := "<init>", desc := "(Ljava/lang/String;)V" } : Jvm.MethodName) prog_24_method_2_code (2 : Nat) (Option.none : Option Jvm.ClassFile.FieldType)), (Jvm.Cond.fieldLink "java/lang/Throwable" (198 : Nat) "java/lang/Throwable" "backtrace" "Ljava/lang/Object;"), (Jvm.Cond.fieldLink "java/lang/Throwable" (31 : Nat) "java/lang/Throwable" "detailMessage" "Ljava/lang/String;"), (Jvm.Cond.fieldLink "java/lang/Throwable" (7 : Nat) "java/lang/Throwable" "cause" "Ljava/lang/Throwable;"), (Jvm.Cond.fieldLink "java/lang/Throwable" (17 : Nat) "java/lang/Throwable" "stackTrace" "[Ljava/lang/StackTraceElement;"), (Jvm.Cond.fieldLink "java/lang/Throwable" (24 : Nat) "java/lang/Throwable" "suppressedExceptions" "Ljava/util/List;"), (Jvm.Cond.soleField "java/lang/Throwable" "backtrace"), (Jvm.Cond.soleField "java/lang/Throwable" "detailMessage"), (Jvm.Cond.soleField "java/lang/Throwable" "cause"), (Jvm.Cond.soleField "java/lang/Throwable" "stackTrace")]
theorem zjo_7 : ∀ w ∈ zjl_7, w ∈ lw_tbl := List.forall_mem_cons.mpr ⟨zit_3 (List.mem_of_getElem? (i := 204) rfl), List.forall_mem_cons.mpr ⟨zit_3 (List.mem_of_getElem? (i := 205) rfl), List.forall_mem_cons.mpr ⟨zit_3 (List.mem_of_getElem? (i := 206) rfl), List.forall_mem_cons.mpr ⟨zit_3 (List.mem_of_getElem? (i := 207) rfl), List.forall_mem_cons.mpr ⟨zit_3 (List.mem_of_getElem? (i := 208) rfl), List.forall_mem_cons.mpr ⟨zit_3 (List.mem_of_getElem? (i := 209) rfl), List.forall_mem_cons.mpr ⟨zit_3 (List.mem_of_getElem? (i := 210) rfl), List.forall_mem_cons.mpr ⟨zit_3 (List.mem_of_getElem? (i := 211) rfl), List.forall_mem_cons.mpr ⟨zit_3 (List.mem_of_getElem? (i := 212) rfl), List.forall_mem_cons.mpr ⟨zit_3 (List.mem_of_getElem? (i := 213) rfl), List.forall_mem_cons.mpr ⟨zit_3 (List.mem_of_getElem? (i := 214) rfl), List.forall_mem_cons.mpr ⟨zit_3 (List.mem_of_getElem? (i := 215) rfl), List.forall_mem_cons.mpr ⟨zit_3 (List.mem_of_getElem? (i := 216) rfl), List.forall_mem_cons.mpr ⟨zit_3 (List.mem_of_getElem? (i := 217) rfl), List.forall_mem_cons.mpr ⟨zit_3 (List.mem_of_getElem? (i := 218) rfl), List.forall_mem_cons.mpr ⟨zit_3 (List.mem_of_getElem? (i := 219) rfl), List.forall_mem_cons.mpr ⟨zit_3 (List.mem_of_getElem? (i := 220) rfl), List.forall_mem_cons.mpr ⟨zit_3 (List.mem_of_getElem? (i := 221) rfl), List.forall_mem_cons.mpr ⟨zit_3 (List.mem_of_getElem? (i := 222) rfl), List.forall_mem_cons.mpr ⟨zit_3 (List.mem_of_getElem? (i := 223) rfl), fun _ h => absurd h List.not_mem_nil⟩⟩⟩⟩⟩⟩⟩⟩⟩⟩⟩⟩⟩⟩⟩⟩⟩⟩⟩⟩
def zjl_8 : List Jvm.Cond := [(Jvm.Cond.lays "java/lang/IllegalArgumentException" "java/lang/Throwable" "depth" "I"), (Jvm.Cond.soleField "java/lang/Throwable" "depth"), (Jvm.Cond.soleField "java/lang/Throwable" "suppressedExceptions"), (Jvm.Cond.superclass "java/lang/IllegalArgumentException" "java/lang/RuntimeException"), (Jvm.Cond.classLink "FigureCaller" (101 : Nat) "java/lang/IllegalStateException"), (Jvm.Cond.instantiable "java/lang/IllegalStateException" (6 : Nat)), (Jvm.Cond.castable "java/lang/IllegalStateException" "java/lang/IllegalStateException"), (Jvm.Cond.selects "java/lang/IllegalStateException" ({ cls := "java/lang/Throwable", name := "fillInStackTrace", desc := "(I)Ljava/lang/Throwable;" } : Jvm.MethodName) ({ cls := "java/lang/Throwable", name := "fillInStackTrace", desc := "(I)Ljava/lang/Throwable;" } : Jvm.MethodName)), (Jvm.Cond.lays "java/lang/IllegalStateException" "java/lang/Throwable" "cause" "Ljava/lang/Throwable;"), (Jvm.Cond.lays "java/lang/IllegalStateException" "java/lang/Throwable" "stackTrace" "[Ljava/lang/StackTraceElement;"), (Jvm.Cond.lays "java/lang/IllegalStateException" "java/lang/Throwable" "suppressedExceptions" "Ljava/util/List;"), (Jvm.Cond.lays "java/lang/IllegalStateException" "java/lang/Throwable" "detailMessage" "Ljava/lang/String;"), (Jvm.Cond.lays "java/lang/IllegalStateException" "java/lang/Throwable" "backtrace" "Ljava/lang/Object;"), (Jvm.Cond.methodLink "FigureCaller" (105 : Nat) ({ cls := "java/lang/IllegalStateException", name := "<init>", desc := "(Ljava/lang/String;)V" } : Jvm.MethodName)), (Jvm.Cond.instanceMethod ({ cls := "java/lang/IllegalStateException", name := "<init>", desc := "(Ljava/lang/String;)V" } : Jvm.MethodName)), (Jvm.Cond.code ({ cls := "java/lang/IllegalStateException", name := "<init>", desc := "(Ljava/lang/String;)V" } : Jvm.MethodName) prog_16_method_2_code (2 : Nat) (Option.none : Option Jvm.ClassFile.FieldType)), (Jvm.Cond.methodLink "java/lang/IllegalStateException" (7 : Nat) ({ cls := "java/lang/RuntimeException", name := "<init>", desc := "(Ljava/lang/String;)V" } : Jvm.MethodName)), (Jvm.Cond.lays "java/lang/IllegalStateException" "java/lang/Throwable" "depth" "I"), (Jvm.Cond.superclass "java/lang/IllegalStateException" "java/lang/RuntimeException"), (Jvm.Cond.classLink "FigureCallerLaw" (37 : Nat) "java/lang/IndexOutOfBoundsException")]
theorem zjo_8 : ∀ w ∈ zjl_8, w ∈ lw_tbl := List.forall_mem_cons.mpr ⟨zit_3 (List.mem_of_getElem? (i := 224) rfl), List.forall_mem_cons.mpr ⟨zit_3 (List.mem_of_getElem? (i := 225) rfl), List.forall_mem_cons.mpr ⟨zit_3 (List.mem_of_getElem? (i := 226) rfl), List.forall_mem_cons.mpr ⟨zit_3 (List.mem_of_getElem? (i := 227) rfl), List.forall_mem_cons.mpr ⟨zit_3 (List.mem_of_getElem? (i := 233) rfl), List.forall_mem_cons.mpr ⟨zit_3 (List.mem_of_getElem? (i := 234) rfl), List.forall_mem_cons.mpr ⟨zit_3 (List.mem_of_getElem? (i := 235) rfl), List.forall_mem_cons.mpr ⟨zit_3 (List.mem_of_getElem? (i := 236) rfl), List.forall_mem_cons.mpr ⟨zit_3 (List.mem_of_getElem? (i := 237) rfl), List.forall_mem_cons.mpr ⟨zit_3 (List.mem_of_getElem? (i := 238) rfl), List.forall_mem_cons.mpr ⟨zit_3 (List.mem_of_getElem? (i := 239) rfl), List.forall_mem_cons.mpr ⟨zit_4 (List.mem_of_getElem? (i := 0) rfl), List.forall_mem_cons.mpr ⟨zit_4 (List.mem_of_getElem? (i := 1) rfl), List.forall_mem_cons.mpr ⟨zit_4 (List.mem_of_getElem? (i := 3) rfl), List.forall_mem_cons.mpr ⟨zit_4 (List.mem_of_getElem? (i := 4) rfl), List.forall_mem_cons.mpr ⟨zit_4 (List.mem_of_getElem? (i := 5) rfl), List.forall_mem_cons.mpr ⟨zit_4 (List.mem_of_getElem? (i := 6) rfl), List.forall_mem_cons.mpr ⟨zit_4 (List.mem_of_getElem? (i := 7) rfl), List.forall_mem_cons.mpr ⟨zit_4 (List.mem_of_getElem? (i := 8) rfl), List.forall_mem_cons.mpr ⟨zit_4 (List.mem_of_getElem? (i := 80) rfl), fun _ h => absurd h List.not_mem_nil⟩⟩⟩⟩⟩⟩⟩⟩⟩⟩⟩⟩⟩⟩⟩⟩⟩⟩⟩⟩
def zjl_9 : List Jvm.Cond := [(Jvm.Cond.classLink "FigureCaller" (144 : Nat) "java/lang/IndexOutOfBoundsException"), (Jvm.Cond.instantiable "java/lang/IndexOutOfBoundsException" (6 : Nat)), (Jvm.Cond.castable "java/lang/IndexOutOfBoundsException" "java/lang/IndexOutOfBoundsException"), (Jvm.Cond.selects "java/lang/IndexOutOfBoundsException" ({ cls := "java/lang/Throwable", name := "fillInStackTrace", desc := "(I)Ljava/lang/Throwable;" } : Jvm.MethodName) ({ cls := "java/lang/Throwable", name := "fillInStackTrace", desc := "(I)Ljava/lang/Throwable;" } : Jvm.MethodName)), (Jvm.Cond.lays "java/lang/IndexOutOfBoundsException" "java/lang/Throwable" "cause" "Ljava/lang/Throwable;"), (Jvm.Cond.lays "java/lang/IndexOutOfBoundsException" "java/lang/Throwable" "stackTrace" "[Ljava/lang/StackTraceElement;"), (Jvm.Cond.lays "java/lang/IndexOutOfBoundsException" "java/lang/Throwable" "suppressedExceptions" "Ljava/util/List;"), (Jvm.Cond.lays "java/lang/IndexOutOfBoundsException" "java/lang/Throwable" "detailMessage" "Ljava/lang/String;"), (Jvm.Cond.lays "java/lang/IndexOutOfBoundsException" "java/lang/Throwable" "backtrace" "Ljava/lang/Object;"), (Jvm.Cond.methodLink "FigureCaller" (146 : Nat) ({ cls := "java/lang/IndexOutOfBoundsException", name := "<init>", desc := "(Ljava/lang/String;)V" } : Jvm.MethodName)), (Jvm.Cond.instanceMethod ({ cls := "java/lang/IndexOutOfBoundsException", name := "<init>", desc := "(Ljava/lang/String;)V" } : Jvm.MethodName)), (Jvm.Cond.code ({ cls := "java/lang/IndexOutOfBoundsException", name := "<init>", desc := "(Ljava/lang/String;)V" } : Jvm.MethodName) prog_17_method_2_code (2 : Nat) (Option.none : Option Jvm.ClassFile.FieldType)), (Jvm.Cond.methodLink "java/lang/IndexOutOfBoundsException" (7 : Nat) ({ cls := "java/lang/RuntimeException", name := "<init>", desc := "(Ljava/lang/String;)V" } : Jvm.MethodName)), (Jvm.Cond.lays "java/lang/IndexOutOfBoundsException" "java/lang/Throwable" "depth" "I"), (Jvm.Cond.superclass "java/lang/IndexOutOfBoundsException" "java/lang/RuntimeException"), (Jvm.Cond.methodLink "FigureCallerModel" (1 : Nat) ({ cls := "java/lang/Object", name := "<init>", desc := "()V" } : Jvm.MethodName)), (Jvm.Cond.superclass "FigureCallerModel" "java/lang/Object"), (Jvm.Cond.sameMethod "java/lang/Throwable" "java/lang/Throwable" "fillInStackTrace" "(I)Ljava/lang/Throwable;"), (Jvm.Cond.fieldLink "java/lang/String" (9 : Nat) "java/lang/String" "value" "[B"), (Jvm.Cond.fieldLink "java/lang/String" (15 : Nat) "java/lang/String" "coder" "B")]
theorem zjo_9 : ∀ w ∈ zjl_9, w ∈ lw_tbl := List.forall_mem_cons.mpr ⟨zit_4 (List.mem_of_getElem? (i := 85) rfl), List.forall_mem_cons.mpr ⟨zit_4 (List.mem_of_getElem? (i := 86) rfl), List.forall_mem_cons.mpr ⟨zit_4 (List.mem_of_getElem? (i := 87) rfl), List.forall_mem_cons.mpr ⟨zit_4 (List.mem_of_getElem? (i := 88) rfl), List.forall_mem_cons.mpr ⟨zit_4 (List.mem_of_getElem? (i := 89) rfl), List.forall_mem_cons.mpr ⟨zit_4 (List.mem_of_getElem? (i := 90) rfl), List.forall_mem_cons.mpr ⟨zit_4 (List.mem_of_getElem? (i := 91) rfl), List.forall_mem_cons.mpr ⟨zit_4 (List.mem_of_getElem? (i := 92) rfl), List.forall_mem_cons.mpr ⟨zit_4 (List.mem_of_getElem? (i := 93) rfl), List.forall_mem_cons.mpr ⟨zit_4 (List.mem_of_getElem? (i := 94) rfl), List.forall_mem_cons.mpr ⟨zit_4 (List.mem_of_getElem? (i := 95) rfl), List.forall_mem_cons.mpr ⟨zit_4 (List.mem_of_getElem? (i := 96) rfl), List.forall_mem_cons.mpr ⟨zit_4 (List.mem_of_getElem? (i := 97) rfl), List.forall_mem_cons.mpr ⟨zit_4 (List.mem_of_getElem? (i := 98) rfl), List.forall_mem_cons.mpr ⟨zit_4 (List.mem_of_getElem? (i := 99) rfl), List.forall_mem_cons.mpr ⟨zit_4 (List.mem_of_getElem? (i := 151) rfl), List.forall_mem_cons.mpr ⟨zit_5 (List.mem_of_getElem? (i := 44) rfl), List.forall_mem_cons.mpr ⟨zit_6 (List.mem_of_getElem? (i := 55) rfl), List.forall_mem_cons.mpr ⟨zit_6 (List.mem_of_getElem? (i := 56) rfl), List.forall_mem_cons.mpr ⟨zit_6 (List.mem_of_getElem? (i := 57) rfl), fun _ h => absurd h List.not_mem_nil⟩⟩⟩⟩⟩⟩⟩⟩⟩⟩⟩⟩⟩⟩⟩⟩⟩⟩⟩⟩
def zjl : List Jvm.Cond := zjl_0 ++ (zjl_1 ++ (zjl_2 ++ (zjl_3 ++ (zjl_4 ++ (zjl_5 ++ (zjl_6 ++ (zjl_7 ++ (zjl_8 ++ (zjl_9)))))))))
theorem zjl_ok : ∀ w ∈ zjl, w ∈ lw_tbl := fun w h => (List.mem_append.mp h).elim (zjo_0 w) (fun h => (List.mem_append.mp h).elim (zjo_1 w) (fun h => (List.mem_append.mp h).elim (zjo_2 w) (fun h => (List.mem_append.mp h).elim (zjo_3 w) (fun h => (List.mem_append.mp h).elim (zjo_4 w) (fun h => (List.mem_append.mp h).elim (zjo_5 w) (fun h => (List.mem_append.mp h).elim (zjo_6 w) (fun h => (List.mem_append.mp h).elim (zjo_7 w) (fun h => (List.mem_append.mp h).elim (zjo_8 w) (fun h => zjo_9 w h)))))))))
theorem zat_100_94 : ∀ w ∈ Bundle.ownAtoms "FigureCaller" 94 "java/lang/IllegalArgumentException" zxs, w ∈ zWSL ∨ w = .laysStatic Bundle.tN "UNASSIGNED_STACK" Bundle.steD ∨ w = .laysStatic Bundle.tN "SUPPRESSED_SENTINEL" Bundle.listD ∨ w = .isRef (.static Bundle.tN "UNASSIGNED_STACK" Bundle.steD) ∨ w = .isRef (.static Bundle.tN "SUPPRESSED_SENTINEL" Bundle.listD) := by
  have h : (Bundle.ownAtoms "FigureCaller" 94 "java/lang/IllegalArgumentException" zxs).all (fun w => (decide (w ∈ zjl) && zgb w) || (decide (w = .laysStatic Bundle.tN "UNASSIGNED_STACK" Bundle.steD) || (decide (w = .laysStatic Bundle.tN "SUPPRESSED_SENTINEL" Bundle.listD) || (decide (w = .isRef (.static Bundle.tN "UNASSIGNED_STACK" Bundle.steD)) || decide (w = .isRef (.static Bundle.tN "SUPPRESSED_SENTINEL" Bundle.listD)))))) = true := by decide +kernel
  intro w hw
  have h1 := List.all_eq_true.mp h w hw
  simp only [Bool.or_eq_true, Bool.and_eq_true, decide_eq_true_eq] at h1
  rcases h1 with h1 | h1
  · exact Or.inl (List.mem_filter.mpr ⟨zjl_ok w h1.1, h1.2⟩)
  · exact Or.inr h1
theorem zat_101_105 : ∀ w ∈ Bundle.ownAtoms "FigureCaller" 105 "java/lang/IllegalStateException" zxs, w ∈ zWSL ∨ w = .laysStatic Bundle.tN "UNASSIGNED_STACK" Bundle.steD ∨ w = .laysStatic Bundle.tN "SUPPRESSED_SENTINEL" Bundle.listD ∨ w = .isRef (.static Bundle.tN "UNASSIGNED_STACK" Bundle.steD) ∨ w = .isRef (.static Bundle.tN "SUPPRESSED_SENTINEL" Bundle.listD) := by
  have h : (Bundle.ownAtoms "FigureCaller" 105 "java/lang/IllegalStateException" zxs).all (fun w => (decide (w ∈ zjl) && zgb w) || (decide (w = .laysStatic Bundle.tN "UNASSIGNED_STACK" Bundle.steD) || (decide (w = .laysStatic Bundle.tN "SUPPRESSED_SENTINEL" Bundle.listD) || (decide (w = .isRef (.static Bundle.tN "UNASSIGNED_STACK" Bundle.steD)) || decide (w = .isRef (.static Bundle.tN "SUPPRESSED_SENTINEL" Bundle.listD)))))) = true := by decide +kernel
  intro w hw
  have h1 := List.all_eq_true.mp h w hw
  simp only [Bool.or_eq_true, Bool.and_eq_true, decide_eq_true_eq] at h1
  rcases h1 with h1 | h1
  · exact Or.inl (List.mem_filter.mpr ⟨zjl_ok w h1.1, h1.2⟩)
  · exact Or.inr h1
theorem zat_102_146 : ∀ w ∈ Bundle.ownAtoms "FigureCaller" 146 "java/lang/IndexOutOfBoundsException" zxs, w ∈ zWSL ∨ w = .laysStatic Bundle.tN "UNASSIGNED_STACK" Bundle.steD ∨ w = .laysStatic Bundle.tN "SUPPRESSED_SENTINEL" Bundle.listD ∨ w = .isRef (.static Bundle.tN "UNASSIGNED_STACK" Bundle.steD) ∨ w = .isRef (.static Bundle.tN "SUPPRESSED_SENTINEL" Bundle.listD) := by
  have h : (Bundle.ownAtoms "FigureCaller" 146 "java/lang/IndexOutOfBoundsException" zxs).all (fun w => (decide (w ∈ zjl) && zgb w) || (decide (w = .laysStatic Bundle.tN "UNASSIGNED_STACK" Bundle.steD) || (decide (w = .laysStatic Bundle.tN "SUPPRESSED_SENTINEL" Bundle.listD) || (decide (w = .isRef (.static Bundle.tN "UNASSIGNED_STACK" Bundle.steD)) || decide (w = .isRef (.static Bundle.tN "SUPPRESSED_SENTINEL" Bundle.listD)))))) = true := by decide +kernel
  intro w hw
  have h1 := List.all_eq_true.mp h w hw
  simp only [Bool.or_eq_true, Bool.and_eq_true, decide_eq_true_eq] at h1
  rcases h1 with h1 | h1
  · exact Or.inl (List.mem_filter.mpr ⟨zjl_ok w h1.1, h1.2⟩)
  · exact Or.inr h1
theorem zth_64_19 (v0 : Value) : zokT (zt v0) 64 19 100 (.new 90) := ⟨90, 94, rfl, ⟨_, rfl⟩, zw_700, zw_701, zw_79, (by decide +kernel : Bundle.fit "java/lang/IllegalArgumentException" = true), zat_100_94, rfl, (by decide : 6 ≤ 9), (by decide : 90 ≤ 191)⟩
theorem zth_64_39 (v0 : Value) : zokT (zt v0) 64 39 101 (.new 101) := ⟨101, 105, rfl, ⟨_, rfl⟩, zw_772, zw_773, zw_80, (by decide +kernel : Bundle.fit "java/lang/IllegalStateException" = true), zat_101_105, rfl, (by decide : 6 ≤ 9), (by decide : 90 ≤ 191)⟩
theorem zth_86_11 (v0 : Value) : zokT (zt v0) 86 11 100 (.new 90) := ⟨90, 94, rfl, ⟨_, rfl⟩, zw_700, zw_701, zw_79, (by decide +kernel : Bundle.fit "java/lang/IllegalArgumentException" = true), zat_100_94, rfl, (by decide : 6 ≤ 6), (by decide : 90 ≤ 90)⟩
theorem zth_107_14 (v0 : Value) : zokT (zt v0) 107 14 101 (.new 101) := ⟨101, 105, rfl, ⟨_, rfl⟩, zw_772, zw_773, zw_80, (by decide +kernel : Bundle.fit "java/lang/IllegalStateException" = true), zat_101_105, rfl, (by decide : 6 ≤ 7), (by decide : 90 ≤ 130)⟩
theorem zth_107_71 (v0 : Value) : zokT (zt v0) 107 71 101 (.new 101) := ⟨101, 105, rfl, ⟨_, rfl⟩, zw_772, zw_773, zw_80, (by decide +kernel : Bundle.fit "java/lang/IllegalStateException" = true), zat_101_105, rfl, (by decide : 6 ≤ 7), (by decide : 90 ≤ 130)⟩
theorem zth_131_7 (v0 : Value) : zokT (zt v0) 131 7 101 (.new 101) := ⟨101, 105, rfl, ⟨_, rfl⟩, zw_772, zw_773, zw_80, (by decide +kernel : Bundle.fit "java/lang/IllegalStateException" = true), zat_101_105, rfl, (by decide : 6 ≤ 6), (by decide : 90 ≤ 90)⟩
theorem zth_137_10 (v0 : Value) : zokT (zt v0) 137 10 100 (.new 90) := ⟨90, 94, rfl, ⟨_, rfl⟩, zw_700, zw_701, zw_79, (by decide +kernel : Bundle.fit "java/lang/IllegalArgumentException" = true), zat_100_94, rfl, (by decide : 6 ≤ 6), (by decide : 90 ≤ 90)⟩
theorem zth_138_58 (v0 : Value) : zokT (zt v0) 138 58 100 (.new 90) := ⟨90, 94, rfl, ⟨_, rfl⟩, zw_700, zw_701, zw_79, (by decide +kernel : Bundle.fit "java/lang/IllegalArgumentException" = true), zat_100_94, rfl, (by decide : 6 ≤ 7), (by decide : 90 ≤ 110)⟩
theorem zth_143_11 (v0 : Value) : zokT (zt v0) 143 11 102 (.new 144) := ⟨144, 146, rfl, ⟨_, rfl⟩, zw_864, zw_865, zw_82, (by decide +kernel : Bundle.fit "java/lang/IndexOutOfBoundsException" = true), zat_102_146, rfl, (by decide : 6 ≤ 7), (by decide : 90 ≤ 110)⟩
theorem zth_143_45 (v0 : Value) : zokT (zt v0) 143 45 102 (.new 144) := ⟨144, 146, rfl, ⟨_, rfl⟩, zw_864, zw_865, zw_82, (by decide +kernel : Bundle.fit "java/lang/IndexOutOfBoundsException" = true), zat_102_146, rfl, (by decide : 6 ≤ 7), (by decide : 90 ≤ 110)⟩
theorem zth_146_10 (v0 : Value) : zokT (zt v0) 146 10 100 (.new 90) := ⟨90, 94, rfl, ⟨_, rfl⟩, zw_700, zw_701, zw_79, (by decide +kernel : Bundle.fit "java/lang/IllegalArgumentException" = true), zat_100_94, rfl, (by decide : 6 ≤ 7), (by decide : 90 ≤ 110)⟩
theorem zth_154_17 (v0 : Value) : zokT (zt v0) 154 17 101 (.new 101) := ⟨101, 105, rfl, ⟨_, rfl⟩, zw_772, zw_773, zw_80, (by decide +kernel : Bundle.fit "java/lang/IllegalStateException" = true), zat_101_105, rfl, (by decide : 6 ≤ 7), (by decide : 90 ≤ 111)⟩
theorem zth_169_15 (v0 : Value) : zokT (zt v0) 169 15 102 (.new 144) := ⟨144, 146, rfl, ⟨_, rfl⟩, zw_864, zw_865, zw_82, (by decide +kernel : Bundle.fit "java/lang/IndexOutOfBoundsException" = true), zat_102_146, rfl, (by decide : 6 ≤ 6), (by decide : 90 ≤ 90)⟩
def zTS : List (Nat × Nat × Nat × Nat) := [(64, 19, 100, 90), (64, 39, 101, 101), (86, 11, 100, 90), (107, 14, 101, 101), (107, 71, 101, 101), (131, 7, 101, 101), (137, 10, 100, 90), (138, 58, 100, 90), (143, 11, 102, 144), (143, 45, 102, 144), (146, 10, 100, 90), (154, 17, 101, 101), (169, 15, 102, 144)]
theorem zts_ok (v0 : Value) : ∀ q ∈ zTS, zokT (zt v0) q.1 q.2.1 q.2.2.1 (.new q.2.2.2) := List.forall_mem_cons.mpr ⟨zth_64_19 v0, List.forall_mem_cons.mpr ⟨zth_64_39 v0, List.forall_mem_cons.mpr ⟨zth_86_11 v0, List.forall_mem_cons.mpr ⟨zth_107_14 v0, List.forall_mem_cons.mpr ⟨zth_107_71 v0, List.forall_mem_cons.mpr ⟨zth_131_7 v0, List.forall_mem_cons.mpr ⟨zth_137_10 v0, List.forall_mem_cons.mpr ⟨zth_138_58 v0, List.forall_mem_cons.mpr ⟨zth_143_11 v0, List.forall_mem_cons.mpr ⟨zth_143_45 v0, List.forall_mem_cons.mpr ⟨zth_146_10 v0, List.forall_mem_cons.mpr ⟨zth_154_17 v0, List.forall_mem_cons.mpr ⟨zth_169_15 v0, fun _ h => absurd h List.not_mem_nil⟩⟩⟩⟩⟩⟩⟩⟩⟩⟩⟩⟩⟩
end
section
def zthc (mi : Nat) (l : List (Nat × zI)) : Bool := l.all fun q => match q.2.1 with
  | .new k => decide (q.2.2.1 < 100) || zTS.elem (mi, q.1, q.2.2.1, k)
  | _ => true
theorem zthc_all : ((zKS .null).zipIdx.all fun q => zthc q.2 q.1) = true := by decide +kernel
set_option maxRecDepth 100000 in
theorem zks_set (v0 : Value) : zKS v0 = (zKS .null).set 36 (zk_36 v0) := rfl
theorem zget0 {v0 : Value} {mi pc : Nat} {i : Instr} {a b c : Nat} {v : Value} (h : zcd (zt v0) mi pc = some (i, a, b, c, v)) : ∃ l0 v', (zKS .null)[mi]? = some l0 ∧ (pc, (i, a, b, c, v')) ∈ l0 := by
  obtain ⟨l, hl, hm⟩ := zget h
  by_cases hmi : mi = 36
  · subst hmi
    have h1 : l = zk_36 v0 := by
      rw [zks_set, List.getElem?_set_self (by rw [zlen_ok]; decide)] at hl
      exact (Option.some.inj hl).symm
    subst h1
    simp only [zk_36, List.mem_cons, Prod.mk.injEq, List.not_mem_nil, or_false] at hm
    refine ⟨zk_36 .null, ?_⟩
    rcases hm with ⟨rfl, rfl, rfl, rfl, rfl, rfl⟩ | ⟨rfl, rfl, rfl, rfl, rfl, rfl⟩ | ⟨rfl, rfl, rfl, rfl, rfl, rfl⟩ | ⟨rfl, rfl, rfl, rfl, rfl, rfl⟩ | ⟨rfl, rfl, rfl, rfl, rfl, rfl⟩ | ⟨rfl, rfl, rfl, rfl, rfl, rfl⟩ <;> exact ⟨.null, rfl, by simp [zk_36]⟩
  · rw [zks_set, List.getElem?_set_ne (fun h => hmi h.symm)] at hl
    exact ⟨l, v, hl, hm⟩
theorem zT_ok (v0 : Value) (mi pc : Nat) (i : Instr) (a b c : Nat) (v : Value) (h : zcd (zt v0) mi pc = some (i, a, b, c, v)) (hk : zki i = 1) (ha : 100 ≤ a) : zokT (zt v0) mi pc a i := by
  obtain ⟨l, v', hl, hm⟩ := zget0 h
  have hp := List.all_eq_true.mp zthc_all (l, mi) (List.mk_mem_zipIdx_iff_getElem?.mpr hl)
  have h1 := List.all_eq_true.mp hp _ hm
  cases i <;> simp [zki] at hk
  rename_i k
  simp only [Bool.or_eq_true, decide_eq_true_eq] at h1
  rcases h1 with h1 | h1
  · omega
  · exact zts_ok v0 (mi, pc, a, k) (List.elem_iff.mp h1)
theorem zca_65_100 (v0 : Value) : zokC (zt v0) 65 3 100 11 := Or.inl ⟨0, 8, 13, _, "java/lang/IllegalArgumentException", rfl, by decide, by decide, by decide, zw_527, zw_702⟩
theorem zca_65_101 (v0 : Value) : zokC (zt v0) 65 3 101 14 := Or.inr ⟨0, 8, 11, 13, "java/lang/IllegalArgumentException", 0, 8, 15, _, "java/lang/IllegalStateException", rfl, by decide, by decide, by decide, by decide, by decide, by decide, zw_527, (by decide +kernel : ("java/lang/IllegalStateException", "java/lang/IllegalArgumentException") ∈ znc), zw_528, zw_774⟩
theorem zca_88_100 (v0 : Value) : zokC (zt v0) 88 4 100 12 := Or.inl ⟨0, 9, 13, _, "java/lang/IllegalArgumentException", rfl, by decide, by decide, by decide, zw_527, zw_702⟩
theorem zca_109_100 (v0 : Value) : zokC (zt v0) 109 4 100 12 := Or.inl ⟨0, 9, 13, _, "java/lang/IllegalArgumentException", rfl, by decide, by decide, by decide, zw_527, zw_702⟩
theorem zca_109_101 (v0 : Value) : zokC (zt v0) 109 4 101 15 := Or.inr ⟨0, 9, 12, 13, "java/lang/IllegalArgumentException", 0, 9, 15, _, "java/lang/IllegalStateException", rfl, by decide, by decide, by decide, by decide, by decide, by decide, zw_527, (by decide +kernel : ("java/lang/IllegalStateException", "java/lang/IllegalArgumentException") ∈ znc), zw_528, zw_774⟩
theorem zca_127_100 (v0 : Value) : zokC (zt v0) 127 4 100 12 := Or.inl ⟨0, 9, 13, _, "java/lang/IllegalArgumentException", rfl, by decide, by decide, by decide, zw_527, zw_702⟩
theorem zca_127_101 (v0 : Value) : zokC (zt v0) 127 4 101 15 := Or.inr ⟨0, 9, 12, 13, "java/lang/IllegalArgumentException", 0, 9, 15, _, "java/lang/IllegalStateException", rfl, by decide, by decide, by decide, by decide, by decide, by decide, zw_527, (by decide +kernel : ("java/lang/IllegalStateException", "java/lang/IllegalArgumentException") ∈ znc), zw_528, zw_774⟩
theorem zca_132_101 (v0 : Value) : zokC (zt v0) 132 3 101 11 := Or.inl ⟨0, 8, 15, _, "java/lang/IllegalStateException", rfl, by decide, by decide, by decide, zw_528, zw_774⟩
theorem zca_139_100 (v0 : Value) : zokC (zt v0) 139 5 100 13 := Or.inl ⟨0, 10, 13, _, "java/lang/IllegalArgumentException", rfl, by decide, by decide, by decide, zw_527, zw_702⟩
theorem zca_144_100 (v0 : Value) : zokC (zt v0) 144 5 100 13 := Or.inl ⟨0, 10, 13, _, "java/lang/IllegalArgumentException", rfl, by decide, by decide, by decide, zw_527, zw_702⟩
theorem zca_144_102 (v0 : Value) : zokC (zt v0) 144 5 102 17 := Or.inr ⟨0, 10, 13, 13, "java/lang/IllegalArgumentException", 0, 10, 37, _, "java/lang/IndexOutOfBoundsException", rfl, by decide, by decide, by decide, by decide, by decide, by decide, zw_527, (by decide +kernel : ("java/lang/IndexOutOfBoundsException", "java/lang/IllegalArgumentException") ∈ znc), zw_859, zw_866⟩
theorem zca_147_100 (v0 : Value) : zokC (zt v0) 147 5 100 20 := Or.inl ⟨0, 17, 13, _, "java/lang/IllegalArgumentException", rfl, by decide, by decide, by decide, zw_527, zw_702⟩
theorem zca_155_100 (v0 : Value) : zokC (zt v0) 155 3 100 9 := Or.inl ⟨0, 6, 13, _, "java/lang/IllegalArgumentException", rfl, by decide, by decide, by decide, zw_527, zw_702⟩
theorem zca_155_101 (v0 : Value) : zokC (zt v0) 155 3 101 12 := Or.inr ⟨0, 6, 9, 13, "java/lang/IllegalArgumentException", 0, 6, 15, _, "java/lang/IllegalStateException", rfl, by decide, by decide, by decide, by decide, by decide, by decide, zw_527, (by decide +kernel : ("java/lang/IllegalStateException", "java/lang/IllegalArgumentException") ∈ znc), zw_528, zw_774⟩
theorem zca_170_102 (v0 : Value) : zokC (zt v0) 170 4 102 12 := Or.inl ⟨0, 9, 37, _, "java/lang/IndexOutOfBoundsException", rfl, by decide, by decide, by decide, zw_859, zw_866⟩
theorem zca_174_100 (v0 : Value) : zokC (zt v0) 174 5 100 20 := Or.inl ⟨0, 17, 13, _, "java/lang/IllegalArgumentException", rfl, by decide, by decide, by decide, zw_527, zw_702⟩
theorem zhl_ok (v0 : Value) : ∀ q ∈ zHL, ∀ r ∈ q.2.2, zokC (zt v0) q.1 q.2.1 r.1 r.2 := List.forall_mem_cons.mpr ⟨List.forall_mem_cons.mpr ⟨zca_65_100 v0, List.forall_mem_cons.mpr ⟨zca_65_101 v0, fun _ h => absurd h List.not_mem_nil⟩⟩, List.forall_mem_cons.mpr ⟨List.forall_mem_cons.mpr ⟨zca_88_100 v0, fun _ h => absurd h List.not_mem_nil⟩, List.forall_mem_cons.mpr ⟨List.forall_mem_cons.mpr ⟨zca_109_100 v0, List.forall_mem_cons.mpr ⟨zca_109_101 v0, fun _ h => absurd h List.not_mem_nil⟩⟩, List.forall_mem_cons.mpr ⟨List.forall_mem_cons.mpr ⟨zca_127_100 v0, List.forall_mem_cons.mpr ⟨zca_127_101 v0, fun _ h => absurd h List.not_mem_nil⟩⟩, List.forall_mem_cons.mpr ⟨List.forall_mem_cons.mpr ⟨zca_132_101 v0, fun _ h => absurd h List.not_mem_nil⟩, List.forall_mem_cons.mpr ⟨List.forall_mem_cons.mpr ⟨zca_139_100 v0, fun _ h => absurd h List.not_mem_nil⟩, List.forall_mem_cons.mpr ⟨List.forall_mem_cons.mpr ⟨zca_144_100 v0, List.forall_mem_cons.mpr ⟨zca_144_102 v0, fun _ h => absurd h List.not_mem_nil⟩⟩, List.forall_mem_cons.mpr ⟨List.forall_mem_cons.mpr ⟨zca_147_100 v0, fun _ h => absurd h List.not_mem_nil⟩, List.forall_mem_cons.mpr ⟨List.forall_mem_cons.mpr ⟨zca_155_100 v0, List.forall_mem_cons.mpr ⟨zca_155_101 v0, fun _ h => absurd h List.not_mem_nil⟩⟩, List.forall_mem_cons.mpr ⟨List.forall_mem_cons.mpr ⟨zca_170_102 v0, fun _ h => absurd h List.not_mem_nil⟩, List.forall_mem_cons.mpr ⟨List.forall_mem_cons.mpr ⟨zca_174_100 v0, fun _ h => absurd h List.not_mem_nil⟩, fun _ h => absurd h List.not_mem_nil⟩⟩⟩⟩⟩⟩⟩⟩⟩⟩⟩
theorem zC_ok (v0 : Value) (mi pc x h : Nat) (hh : zhn (zt v0) mi pc x = some h) (hq : ¬ zhd (zcd (zt v0)) (zhn (zt v0)) (znl (zt v0) mi) mi pc x = none) : zokC (zt v0) mi pc x h := by
  have h0 : zHN mi pc x = some h := hh
  obtain ⟨⟨g, k⟩, hq2⟩ := Option.ne_none_iff_exists'.mp hq
  obtain ⟨h1, e1, -, hcase⟩ := zhd_spec hq2
  cases hh.symm.trans e1
  have hc2 : ∃ (i : Instr) (r : Nat × Nat × Nat × Value), zcd (zt v0) mi h = some (i, r) := by
    rcases hcase with ⟨k4, r, hc, -, -⟩ | ⟨r, hc, -⟩
    · exact ⟨_, r, hc⟩
    · exact ⟨_, r, hc⟩
  obtain ⟨i4, r, hc⟩ := hc2
  have h9 : h ≠ 9999 := by
    intro e
    subst e
    obtain ⟨a4, b4, c4, v4⟩ := r
    obtain ⟨l, v', hl, hm⟩ := zget0 hc
    have hall : ((zKS .null).all fun l => l.all fun q => decide (q.1 < 9999)) = true := by decide +kernel
    have hp := List.all_eq_true.mp hall l (List.mem_of_getElem? hl)
    have h1 := List.all_eq_true.mp hp _ hm
    simp at h1
  unfold zHN at h0
  split at h0
  · cases h0
  · rename_i p0 m hm
    split at h0
    · rename_i hpc
      subst hpc
      cases hx : m.lookup x with
      | none =>
        rw [hx] at h0
        cases h0
        exact absurd rfl h9
      | some h2 =>
        rw [hx] at h0
        have e : h2 = h := Option.some.inj h0
        subst e
        exact zhl_ok v0 (mi, pc, m) (zlook hm) (x, h2) (zlook hx)
    · cases h0
      exact absurd rfl h9
end
section
/-! The claim out of one run of the interpreter. -/
def zg1 : List Int32 := [34, 35, 46, 56, 65, 64, 53, 43]
def zg2 : List Int32 := [0, 0, 3, 3, 2, 2, 1, 1]
def zg3 : List Int32 := [0, 2, 1, 4, 3, 6, 5]
def zg4 : List Int32 := [10, 1, -10, -1]
def zg5 : List Int32 := [97, 108, 108, 32, 108, 101, 97, 100, 115, 32, 102, 111, 108, 108, 111, 119, 115, 32, 104, 101, 97, 100, 115, 32, 115, 105, 100, 101, 115, 32, 110, 111, 114, 116, 104, 32, 101, 97, 115, 116, 32, 115, 111, 117, 116, 104, 32, 119, 101, 115, 116, 32, 99, 101, 110, 116, 114, 101, 115, 32, 101, 110, 100, 115, 32, 102, 114, 111, 110, 116, 32, 114, 101, 97, 114]
def zg6 : List Int32 := [115, 116, 97, 121, 32, 102, 119, 100, 32, 98, 97, 99, 107, 32, 108, 101, 102, 116, 32, 114, 105, 103, 104, 116, 32, 116, 108, 32, 116, 114]
/-- the given cells: the script, four tables, two texts and their bytes -/
def zG (xs : List Int32) : List zE := [.inr (.inl (0, xs)), .inr (.inl (0, zg1)), .inr (.inl (0, zg2)), .inr (.inl (0, zg3)), .inr (.inl (0, zg4)), .inl (99, [.ref 7, .int 0]), .inl (99, [.ref 8, .int 0]), .inr (.inl (3, zg5)), .inr (.inl (3, zg6))]
/-- what is left to show: no machine in it -/
def zGoal : Prop := ∀ (v0 : Value) (xs : List Int32), (v0 = .null ∨ v0 = .ref 49) → xs.length ≤ 1536 → zwp (zt v0) (zG xs) 177 0 [(0, .ref 0)] [] ([], 0, 0) (fun o X => o = .inl (some (.int 1)) ∧ X.2.1 ≤ 601024 ∧ X.2.2 ≤ 7293034)
abbrev zNA : Jvm.Cond := Jvm.Cond.and given_1 narrow_1
theorem zst_1 {b : Nat} {s : State} (hs : ∀ c ∈ flatC zNA, c.before #[Value.ref b] s = true) {A : Nat → Prop} (hA : ∀ a : Nat, a < s.heap.size → ¬ A a) : ∃ t : Nat, (Term.static "FigureCaller" "HOME_SPOTS" "[I").eval #[Value.ref b] s none [] s = some (.ref t) ∧ va_T .int t 8 (fun j => .int (zg1.getD j 0)) A s s.heap :=
  va_Tof (by decide) (hs _ (by decide +kernel)) (va_eqt (hs _ (by decide +kernel))) (fun j hj => va_eqt (hs _ ((by decide +kernel : ∀ j, j < 8 → Jvm.Cond.eq (.elem (.static "FigureCaller" "HOME_SPOTS" "[I") (.int (Int32.ofNat j))) (.int (zg1.getD j 0)) ∈ flatC zNA) j hj))) hA
theorem zst_2 {b : Nat} {s : State} (hs : ∀ c ∈ flatC zNA, c.before #[Value.ref b] s = true) {A : Nat → Prop} (hA : ∀ a : Nat, a < s.heap.size → ¬ A a) : ∃ t : Nat, (Term.static "FigureCaller" "HOME_FACINGS" "[I").eval #[Value.ref b] s none [] s = some (.ref t) ∧ va_T .int t 8 (fun j => .int (zg2.getD j 0)) A s s.heap :=
  va_Tof (by decide) (hs _ (by decide +kernel)) (va_eqt (hs _ (by decide +kernel))) (fun j hj => va_eqt (hs _ ((by decide +kernel : ∀ j, j < 8 → Jvm.Cond.eq (.elem (.static "FigureCaller" "HOME_FACINGS" "[I") (.int (Int32.ofNat j))) (.int (zg2.getD j 0)) ∈ flatC zNA) j hj))) hA
theorem zst_3 {b : Nat} {s : State} (hs : ∀ c ∈ flatC zNA, c.before #[Value.ref b] s = true) {A : Nat → Prop} (hA : ∀ a : Nat, a < s.heap.size → ¬ A a) : ∃ t : Nat, (Term.static "FigureCaller$Dancing" "EXCHANGED" "[I").eval #[Value.ref b] s none [] s = some (.ref t) ∧ va_T .int t 7 (fun j => .int (zg3.getD j 0)) A s s.heap :=
  va_Tof (by decide) (hs _ (by decide +kernel)) (va_eqt (hs _ (by decide +kernel))) (fun j hj => va_eqt (hs _ ((by decide +kernel : ∀ j, j < 7 → Jvm.Cond.eq (.elem (.static "FigureCaller$Dancing" "EXCHANGED" "[I") (.int (Int32.ofNat j))) (.int (zg3.getD j 0)) ∈ flatC zNA) j hj))) hA
theorem zst_4 {b : Nat} {s : State} (hs : ∀ c ∈ flatC zNA, c.before #[Value.ref b] s = true) {A : Nat → Prop} (hA : ∀ a : Nat, a < s.heap.size → ¬ A a) : ∃ t : Nat, (Term.static "FigureCaller$Dancing" "STRIDES" "[I").eval #[Value.ref b] s none [] s = some (.ref t) ∧ va_T .int t 4 (fun j => .int (zg4.getD j 0)) A s s.heap :=
  va_Tof (by decide) (hs _ (by decide +kernel)) (va_eqt (hs _ (by decide +kernel))) (fun j hj => va_eqt (hs _ ((by decide +kernel : ∀ j, j < 4 → Jvm.Cond.eq (.elem (.static "FigureCaller$Dancing" "STRIDES" "[I") (.int (Int32.ofNat j))) (.int (zg4.getD j 0)) ∈ flatC zNA) j hj))) hA
theorem zst_5 {b : Nat} {s : State} (hs : ∀ c ∈ flatC zNA, c.before #[Value.ref b] s = true) {A : Nat → Prop} (hA : ∀ a : Nat, a < s.heap.size → ¬ A a) : ∃ a t : Nat, (Term.string "FigureCaller$Reader" 118).eval #[Value.ref b] s none [] s = some (.ref a) ∧ va_O "java/lang/String" a A s s.heap ∧ va_OF "java/lang/String" "coder" "B" (.int 0) a A s s.heap ∧ va_OF "java/lang/String" "value" "[B" (.ref t) a A s s.heap ∧ va_T .byte t 75 (fun j => .int (zg5.getD j 0)) A s s.heap := by
  obtain ⟨a, c, cA, kA, q1, q2, q3, q4, q5, q6, -⟩ := Jvm.Cond.exactly_spec (hs (Jvm.Cond.exactly (Term.string "FigureCaller$Reader" 118) "java/lang/String") (by decide +kernel))
  obtain ⟨t, ht, hT⟩ := va_Tof (N := 75) (f := fun j => .int (zg5.getD j 0)) (A := A) (by decide) (hs (Jvm.Cond.arrayOf (Term.field (Term.string "FigureCaller$Reader" 118) "java/lang/String" "value" "[B") .byte) (by decide +kernel)) (va_eqt (hs _ (by decide +kernel))) (fun j hj => va_eqt (hs _ ((by decide +kernel : ∀ j, j < 75 → Jvm.Cond.eq (.elem (Term.field (Term.string "FigureCaller$Reader" 118) "java/lang/String" "value" "[B") (.int (Int32.ofNat j))) (.int (zg5.getD j 0)) ∈ flatC zNA) j hj))) hA
  exact ⟨a, t, q1, ⟨cA, q3, q5, by rw [q6]; exact q2, hA a (Array.getElem?_eq_some_iff.mp q3).1⟩, vk_OFof q1 (va_eqt (hs _ (by decide +kernel))) hA, vk_OFof q1 ht hA, hT⟩
theorem zst_6 {b : Nat} {s : State} (hs : ∀ c ∈ flatC zNA, c.before #[Value.ref b] s = true) {A : Nat → Prop} (hA : ∀ a : Nat, a < s.heap.size → ¬ A a) : ∃ a t : Nat, (Term.string "FigureCaller$Reader" 124).eval #[Value.ref b] s none [] s = some (.ref a) ∧ va_O "java/lang/String" a A s s.heap ∧ va_OF "java/lang/String" "coder" "B" (.int 0) a A s s.heap ∧ va_OF "java/lang/String" "value" "[B" (.ref t) a A s s.heap ∧ va_T .byte t 30 (fun j => .int (zg6.getD j 0)) A s s.heap := by
  obtain ⟨a, c, cA, kA, q1, q2, q3, q4, q5, q6, -⟩ := Jvm.Cond.exactly_spec (hs (Jvm.Cond.exactly (Term.string "FigureCaller$Reader" 124) "java/lang/String") (by decide +kernel))
  obtain ⟨t, ht, hT⟩ := va_Tof (N := 30) (f := fun j => .int (zg6.getD j 0)) (A := A) (by decide) (hs (Jvm.Cond.arrayOf (Term.field (Term.string "FigureCaller$Reader" 124) "java/lang/String" "value" "[B") .byte) (by decide +kernel)) (va_eqt (hs _ (by decide +kernel))) (fun j hj => va_eqt (hs _ ((by decide +kernel : ∀ j, j < 30 → Jvm.Cond.eq (.elem (Term.field (Term.string "FigureCaller$Reader" 124) "java/lang/String" "value" "[B") (.int (Int32.ofNat j))) (.int (zg6.getD j 0)) ∈ flatC zNA) j hj))) hA
  exact ⟨a, t, q1, ⟨cA, q3, q5, by rw [q6]; exact q2, hA a (Array.getElem?_eq_some_iff.mp q3).1⟩, vk_OFof q1 (va_eqt (hs _ (by decide +kernel))) hA, vk_OFof q1 ht hA, hT⟩
theorem zst_m {b : Nat} {s : State} (hs : ∀ c ∈ flatC zNA, c.before #[Value.ref b] s = true) {own : String} {k : Nat} (h : Jvm.Cond.exactly (.string own k) "java/lang/String" ∈ flatC zNA) : ∃ a : Nat, (Term.string own k).eval #[Value.ref b] s none [] s = some (.ref a) := by
  obtain ⟨a, c, cA, kA, q1, -⟩ := Jvm.Cond.exactly_spec (hs _ h)
  exact ⟨a, q1⟩
theorem zref {args : Array Value} {s : State} {t : Term} (h : (Jvm.Cond.isRef t).before args s = true) : ∃ v, t.eval args s none [] s = some v ∧ v.isRef = true := by
  cases hv : t.eval args s none [] s with
  | none => simp [Jvm.Cond.before, Jvm.Cond.holds, Jvm.Cond.value, hv] at h
  | some v =>
    refine ⟨v, rfl, ?_⟩
    simp only [Jvm.Cond.before, Jvm.Cond.holds, Jvm.Cond.value, hv] at h
    cases v <;> simp_all [Value.isRef]
theorem zTh_of {b : Nat} {s : State} (hs : ∀ c ∈ flatC zNA, c.before #[Value.ref b] s = true) (hts : ∀ w ∈ lw_tbl, w.before #[Value.ref b] s = true) : zTh s.heap.size s := by
  have key : ∀ n d : String, (Jvm.Cond.laysStatic Bundle.tN n d).before #[Value.ref b] s = true → (Jvm.Cond.isRef (.static Bundle.tN n d)).before #[Value.ref b] s = true → ∃ (c : ClassId) (k : Class) (i : Nat) (f : Field) (a : Nat) (cell : Cell) (v : Value),
      s.vm.findClass Bundle.tN = some c ∧ s.fieldFound? Bundle.tN n d = some (c, k, i, f) ∧ f.isStatic = true ∧ k.statics = some a ∧ s.heap[a]? = some cell ∧ cell.vm.isStatics = true ∧ cell.cls = c ∧ f.slot < cell.slots.size ∧ k.staticTypes[f.slot]? = some f.type ∧ cell.slots[f.slot]? = some v ∧ v.isRef = true ∧ a < s.heap.size := by
    intro n d h1 h2
    obtain ⟨c, k, i, f, a, cell, e1, e2, e3, e4, e5, e6, e7, e8, e9⟩ := Jvm.Cond.laysStatic_spec h1
    obtain ⟨v, hv, hr⟩ := zref h2
    obtain ⟨-, a', cell', e4', e5', -, e10⟩ := Term.static_spec e2 hv
    cases e4.symm.trans e4'
    cases e5.symm.trans e5'
    exact ⟨c, k, i, f, a, cell, v, e1, e2, e3, e4, e5, e6, e7, e8, e9, e10, hr, (Array.getElem?_eq_some_iff.mp e5).1⟩
  intro q hq
  rcases List.mem_cons.mp hq with rfl | hq
  · exact key _ _ (hts _ (List.mem_append_right _ (List.mem_of_getElem? (i := 668) (by decide +kernel)))) (hs _ (by decide +kernel))
  · rcases List.mem_cons.mp hq with rfl | hq
    · exact key _ _ (hts _ (List.mem_append_right _ (List.mem_of_getElem? (i := 670) (by decide +kernel)))) (hs _ (by decide +kernel))
    · cases hq
theorem znc_of {b : Nat} {s : State} (hs : ∀ c ∈ flatC zNA, c.before #[Value.ref b] s = true) : ∀ q ∈ znc, va_Nc q.1 q.2 s := by
  have key : ∀ C T : String, (Jvm.Cond.not (.castable C T)).before #[Value.ref b] s = true → va_Nc C T s := by
    intro C T h
    exact va_Nc.of h
  intro q hq
  rcases List.mem_cons.mp hq with rfl | hq
  · exact key _ _ (hs _ (by decide +kernel))
  · rcases List.mem_cons.mp hq with rfl | hq
    · exact key _ _ (hs _ (by decide +kernel))
    · cases hq
end
section
theorem zcl_in : ∀ r ∈ zCL, ∃ n, Jvm.Cond.instantiable r.1 n ∈ zWSL := List.forall_mem_cons.mpr ⟨⟨_, zw_85⟩, List.forall_mem_cons.mpr ⟨⟨_, zw_93⟩, List.forall_mem_cons.mpr ⟨⟨_, zw_110⟩, List.forall_mem_cons.mpr ⟨⟨_, zw_117⟩, List.forall_mem_cons.mpr ⟨⟨_, zw_179⟩, List.forall_mem_cons.mpr ⟨⟨_, zw_185⟩, List.forall_mem_cons.mpr ⟨⟨_, zw_256⟩, List.forall_mem_cons.mpr ⟨⟨_, zw_262⟩, List.forall_mem_cons.mpr ⟨⟨_, zw_283⟩, List.forall_mem_cons.mpr ⟨⟨_, zw_317⟩, List.forall_mem_cons.mpr ⟨⟨_, zw_926⟩, fun _ h => absurd h List.not_mem_nil⟩⟩⟩⟩⟩⟩⟩⟩⟩⟩⟩
/-- the law's frame at its entry: all that the interpreter's soundness asks -/
theorem zbegin {b : Nat} {s : State} {xs : List Int32} (hs : ∀ c ∈ flatC zNA, c.before #[Value.ref b] s = true) (hts : ∀ w ∈ lw_tbl, w.before #[Value.ref b] s = true) (hX : va_X b xs.length (fun j => xs.getD j 0) s s.heap) (hbl : b < s.heap.size) :
    ∃ (v0 : Value) (D : va_G) (aC : Nat → ClassId) (gad : Nat → Nat), (v0 = .null ∨ v0 = .ref 49) ∧ gad 0 = b ∧ zU (zt v0) D aC gad s.heap.size (zG xs) s := by
  have hA : ∀ a : Nat, a < s.heap.size → ¬ (fun q => s.heap.size ≤ q) a := fun a h1 h2 => Nat.not_lt.mpr h2 h1
  have hw : ∀ w ∈ zWSL, w.before #[Value.ref b] s = true := fun w h => hts w (List.mem_filter.mp h).1
  obtain ⟨t1, e1, T1⟩ := zst_1 hs hA
  obtain ⟨t2, e2, T2⟩ := zst_2 hs hA
  obtain ⟨t3, e3, T3⟩ := zst_3 hs hA
  obtain ⟨t4, e4, T4⟩ := zst_4 hs hA
  obtain ⟨k5, b5, e5, O5, C5, V5, B5⟩ := zst_5 hs hA
  obtain ⟨k6, b6, e6, O6, C6, V6, B6⟩ := zst_6 hs hA
  obtain ⟨m9, f9⟩ := zst_m hs (own := "FigureCaller") (k := 92) (by decide +kernel)
  obtain ⟨m10, f10⟩ := zst_m hs (own := "FigureCaller") (k := 103) (by decide +kernel)
  obtain ⟨m11, f11⟩ := zst_m hs (own := "FigureCaller") (k := 212) (by decide +kernel)
  obtain ⟨m12, f12⟩ := zst_m hs (own := "FigureCaller") (k := 204) (by decide +kernel)
  obtain ⟨m13, f13⟩ := zst_m hs (own := "FigureCaller") (k := 206) (by decide +kernel)
  obtain ⟨m14, f14⟩ := zst_m hs (own := "FigureCaller") (k := 132) (by decide +kernel)
  obtain ⟨m15, f15⟩ := zst_m hs (own := "FigureCaller") (k := 214) (by decide +kernel)
  obtain ⟨m16, f16⟩ := zst_m hs (own := "FigureCaller") (k := 142) (by decide +kernel)
  obtain ⟨m17, f17⟩ := zst_m hs (own := "FigureCaller") (k := 147) (by decide +kernel)
  obtain ⟨m18, f18⟩ := zst_m hs (own := "FigureCaller") (k := 153) (by decide +kernel)
  obtain ⟨m19, f19⟩ := zst_m hs (own := "FigureCaller") (k := 175) (by decide +kernel)
  obtain ⟨m20, f20⟩ := zst_m hs (own := "FigureCaller") (k := 188) (by decide +kernel)
  obtain ⟨vf, ef, rf⟩ := zref (hs (Jvm.Cond.isRef (.static "jdk/internal/util/Preconditions" "SIOOBE_FORMATTER" "Ljava/util/function/BiFunction;")) (by decide +kernel))
  have hcs := va_eqi (hs (Jvm.Cond.eq (.static "java/lang/String" "COMPACT_STRINGS" "Z") (.int 1)) (by decide +kernel))
  have hkn : ∀ c : Nat, ∃ q : ClassId × (Nat → Nat), ∀ r, zCL[c]? = some r → u_Kn s r.1 r.2.1 r.2.2 q.1 q.2 := by
    intro c
    cases hc : zCL[c]? with
    | none => exact ⟨(0, fun _ => 0), fun r h => by cases h⟩
    | some r =>
      have hin : ∃ n, Jvm.Cond.instantiable r.1 n ∈ zWSL := zcl_in r (List.mem_of_getElem? hc)
      obtain ⟨n, hn⟩ := hin
      obtain ⟨cC, iS, hk⟩ := u_known hw (zcl_ok r (List.mem_of_getElem? hc)).1 (hw _ hn)
      exact ⟨(cC, iS), fun r' h => by cases h; exact hk⟩
  obtain ⟨Df, hD⟩ := Classical.axiomOfChoice hkn
  have hpr : ∀ ty : FieldType, (Jvm.Cond.arrayClass ty).before #[Value.ref b] s = true → ∃ c : ClassId, ArrOfT s c ty ∧ s.vm.findClass ("[" ++ ty.toString) = some c := by
    intro ty h
    obtain ⟨c, k, comp, h1, h2, h3⟩ := Jvm.Cond.arrayClass_spec h
    exact ⟨c, fun n z => ⟨fun k h => (by cases h), k, h2, comp, h3⟩, h1⟩
  have hob : ∀ C : String, (Jvm.Cond.arrayOver (.object C)).before #[Value.ref b] s = true → ∃ c : ClassId, ArrOfT s c (.object C) ∧ va_RA s c (.object C) := by
    intro C h
    obtain ⟨comp, c, k, h1, -, h3, h4, h5⟩ := Jvm.Cond.arrayOver_spec h
    exact ⟨c, fun n z => ⟨fun k h => (by cases h), k, h3, comp, h4⟩, ⟨k, comp, h3, h4, h1, h5⟩⟩
  obtain ⟨ai, ai1, ai2⟩ := hpr .int (hw _ zw_153)
  obtain ⟨ac, ac1, ac2⟩ := hpr .char (hw _ zw_108)
  obtain ⟨az, az1, az2⟩ := hpr .boolean (hw _ zw_1065)
  obtain ⟨al, al1, al2⟩ := hpr .long (hw _ zw_1064)
  obtain ⟨aF, aF1, aF2⟩ := hob "FigureCaller$Figure" (hw _ zw_116)
  obtain ⟨aT, aT1, aT2⟩ := hob "FigureCaller$Track" (hw _ zw_316)
  have hv0 : ∃ (v0 : Value) (a49 : Nat), (v0 = .null ∨ v0 = .ref 49) ∧ ∀ ad : Nat → Nat, ad 49 = a49 → ztr ad v0 = vf := by
    cases vf with
    | null => exact ⟨.null, 0, Or.inl rfl, fun _ _ => rfl⟩
    | ref a => exact ⟨.ref 49, a, Or.inr rfl, fun ad h => by show Value.ref (ad 49) = _; rw [h]⟩
    | _ => simp [Value.isRef] at rf
  obtain ⟨v0, a49, hv, hvf⟩ := hv0
  refine ⟨v0, (fun c => (Df c).1, fun c => (Df c).2), fun k => match k with
    | 0 => ai
    | 1 => ac
    | 2 => az
    | 4 => al
    | 13 => aF
    | 19 => aT
    | _ => 0, fun g => match g with
    | 0 => b
    | 1 => t1
    | 2 => t2
    | 3 => t3
    | 4 => t4
    | 5 => k5
    | 6 => k6
    | 7 => b5
    | 8 => b6
    | 9 => m9
    | 10 => m10
    | 11 => m11
    | 12 => m12
    | 13 => m13
    | 14 => m14
    | 15 => m15
    | 16 => m16
    | 17 => m17
    | 18 => m18
    | 19 => m19
    | 20 => m20
    | 49 => a49
    | _ => 0, hv, rfl, ⟨fun c q hq => hD c q hq, fun k q hk => ?_⟩, fun g x hg => ?_, ?_, ?_, zTh_of hs hts, znc_of hs⟩
  · match k, hk with
    | 0, hk => cases hk; exact ⟨ai1, ai2⟩
    | 1, hk => cases hk; exact ⟨ac1, ac2⟩
    | 2, hk => cases hk; exact ⟨az1, az2⟩
    | 3, hk => cases hk; exact ⟨al1, al2⟩
    | 4, hk => cases hk; exact ⟨aF1, aF2⟩
    | 5, hk => cases hk; exact ⟨aT1, aT2⟩
    | n + 6, hk => exact absurd hk (by simp [ztys, zt, zel, zEL])
  · match g, hg with
    | 0, hg =>
      cases hg
      refine Or.inl ⟨rfl, ?_⟩
      obtain ⟨scr, h1, h2, h3, h4, h5⟩ := hX
      refine ⟨scr, h1, h2, h3, by rw [h4]; exact Nat.le_refl _, by rw [h4], h5, hA b hbl⟩
    | 1, hg => cases hg; exact Or.inl ⟨rfl, T1⟩
    | 2, hg => cases hg; exact Or.inl ⟨rfl, T2⟩
    | 3, hg => cases hg; exact Or.inl ⟨rfl, T3⟩
    | 4, hg => cases hg; exact Or.inl ⟨rfl, T4⟩
    | 5, hg => cases hg; exact ⟨rfl, O5, fun v h => by cases h; exact V5, fun v h => by cases h; exact C5⟩
    | 6, hg => cases hg; exact ⟨rfl, O6, fun v h => by cases h; exact V6, fun v h => by cases h; exact C6⟩
    | 7, hg => cases hg; exact Or.inr ⟨rfl, B5⟩
    | 8, hg => cases hg; exact Or.inr ⟨rfl, B6⟩
    | n + 9, hg => exact absurd hg (by simp [zG])
  · intro q hq
    simp only [zstt, zt, zSTT, List.mem_cons, List.not_mem_nil, or_false] at hq
    rcases hq with rfl | rfl | rfl | rfl | rfl | rfl
    · exact va_Zof (hts (Jvm.Cond.laysStatic "FigureCaller" "HOME_SPOTS" "[I") (List.mem_append_right _ (List.mem_of_getElem? (i := 278) (by decide +kernel)))) (hw _ zw_60) e1 hA
    · exact va_Zof (hts (Jvm.Cond.laysStatic "FigureCaller" "HOME_FACINGS" "[I") (List.mem_append_right _ (List.mem_of_getElem? (i := 280) (by decide +kernel)))) (hw _ zw_60) e2 hA
    · exact va_Zof (hts (Jvm.Cond.laysStatic "FigureCaller$Dancing" "EXCHANGED" "[I") (List.mem_append_right _ (List.mem_of_getElem? (i := 429) (by decide +kernel)))) (hw _ zw_66) e3 hA
    · exact va_Zof (hts (Jvm.Cond.laysStatic "FigureCaller$Dancing" "STRIDES" "[I") (List.mem_append_right _ (List.mem_of_getElem? (i := 441) (by decide +kernel)))) (hw _ zw_66) e4 hA
    · exact va_Zof (hts (Jvm.Cond.laysStatic "java/lang/String" "COMPACT_STRINGS" "Z") (List.mem_append_right _ (List.mem_of_getElem? (i := 528) (by decide +kernel)))) (hw _ zw_71) hcs hA
    · exact va_Zof (hts (Jvm.Cond.laysStatic "jdk/internal/util/Preconditions" "SIOOBE_FORMATTER" "Ljava/util/function/BiFunction;") (List.mem_append_right _ (List.mem_of_getElem? (i := 544) (by decide +kernel)))) (hw _ zw_73) (by rw [hvf _ rfl]; exact ef) hA
  · intro q hq
    simp only [zsrf, zt, zSRF, List.mem_cons, List.not_mem_nil, or_false] at hq
    rcases hq with rfl | rfl | rfl | rfl | rfl | rfl | rfl | rfl | rfl | rfl | rfl | rfl | rfl | rfl
    · exact vk_R.of (hts _ (List.mem_append_right _ (List.mem_of_getElem? (i := 514) (by decide +kernel)))) e5
    · exact vk_R.of (hts _ (List.mem_append_right _ (List.mem_of_getElem? (i := 567) (by decide +kernel)))) e6
    · exact vk_R.of (hts _ (List.mem_append_right _ (List.mem_of_getElem? (i := 682) (by decide +kernel)))) f9
    · exact vk_R.of (hts _ (List.mem_append_right _ (List.mem_of_getElem? (i := 722) (by decide +kernel)))) f10
    · exact vk_R.of (hts _ (List.mem_append_right _ (List.mem_of_getElem? (i := 752) (by decide +kernel)))) f11
    · exact vk_R.of (hts _ (List.mem_append_right _ (List.mem_of_getElem? (i := 765) (by decide +kernel)))) f12
    · exact vk_R.of (hts _ (List.mem_append_right _ (List.mem_of_getElem? (i := 768) (by decide +kernel)))) f13
    · exact vk_R.of (hts _ (List.mem_append_right _ (List.mem_of_getElem? (i := 784) (by decide +kernel)))) f14
    · exact vk_R.of (hts _ (List.mem_append_right _ (List.mem_of_getElem? (i := 795) (by decide +kernel)))) f15
    · exact vk_R.of (hts _ (List.mem_append_right _ (List.mem_of_getElem? (i := 796) (by decide +kernel)))) f16
    · exact vk_R.of (hts _ (List.mem_append_right _ (List.mem_of_getElem? (i := 820) (by decide +kernel)))) f17
    · exact vk_R.of (hts _ (List.mem_append_right _ (List.mem_of_getElem? (i := 832) (by decide +kernel)))) f18
    · exact vk_R.of (hts _ (List.mem_append_right _ (List.mem_of_getElem? (i := 845) (by decide +kernel)))) f19
    · exact vk_R.of (hts _ (List.mem_append_right _ (List.mem_of_getElem? (i := 853) (by decide +kernel)))) f20
end
section
/-! The claim, one pure statement open. -/
def lz_P (b : Addr) (xs : List Int32) (args : Array Value) (s : State) : Prop := args = #[.ref b] ∧ s.IntsAt b xs ∧ xs.length ≤ 1536 ∧ zNA.before args s = true
def lz_Q (_ : Array Value) (s : State) (o : Outcome) (t : State) : Prop := o = .returned (some (.int 1)) ∧ Framed s o t [] 601024 7293034
set_option maxHeartbeats 4000000 in
theorem lz_walk (hg : zGoal) (l : Launch) (hfl : l.flags = pinnedFlags ++ [noTraceFlag]) (b : Addr) (xs : List Int32) : MetFree l x (headSpec (Jvm.Cond.code x code maxLocals ret :: tables_1) room_1) (lz_P b xs) (fun _ _ _ _ _ => True) lz_Q := by
  refine MetFree.of_bodyS (code := code) (maxLocals := maxLocals) (ret := ret) (by decide) ?_ ?_
  · intro args s m h hn
    obtain ⟨meth, c, h1, h2, h3, h4, h5, h6, -, -⟩ := Jvm.Cond.code_spec hn (atoms_spec (ws := Jvm.Cond.code x code maxLocals ret :: tables_1) h _ List.mem_cons_self)
    exact ⟨meth, c, h1, h2, h3, h4, h5, h6⟩
  · intro p e s m args below meth c s₁ B hml0 hP _
    obtain ⟨rfl, hx, hbd, hgv⟩ := hP
    obtain ⟨scr, harrAt, hlist, hof, hsmall⟩ := hx
    obtain ⟨hcb, hkn, -, -⟩ := State.arrayAt?_spec harrAt
    have hts0 : ∀ c ∈ (Jvm.Cond.code x code maxLocals ret :: tables_1), c.before #[Value.ref b] s = true := atoms_spec (ws := Jvm.Cond.code x code maxLocals ret :: tables_1) B.pre
    have hts : ∀ w ∈ lw_tbl, w.before #[Value.ref b] s = true := k2_hts_sels lw_privs (fun w hw => hts0 w (List.mem_cons_of_mem _ hw)) lw_privs_ok
    have X₀ : Stand p l e room_1 s m #[Value.ref b] below meth c s₁ [] 0 0 := Stand.of_body B
    have hh0 : s₁.heap = s.heap := by rw [B.state]; rfl
    have hsz : scr.slots.size = xs.length := by rw [← Array.length_toList, hlist, List.length_map]
    have hval : ∀ j : Nat, j < xs.length → scr.slots[j]? = some (.int (xs.getD j 0)) := fun j hj => by
      rw [← Array.getElem?_toList, hlist]
      simp [hj]
    have hbl : b < s.heap.size := (Array.getElem?_eq_some_iff.mp hcb).1
    have hX : va_X b xs.length (fun j => xs.getD j 0) s s.heap := ⟨scr, hcb, hof, hkn, hsz, hval⟩
    obtain ⟨meth2, c2, y1, y2, y3, y4, y5, y6, y7, -⟩ := Jvm.Cond.code_spec B.named (hts0 _ List.mem_cons_self)
    cases B.method.symm.trans y1
    cases X₀.code.symm.trans y2
    obtain ⟨v0, D, aC, gad, hv0, hg0, hU⟩ := zbegin (xs := xs) (flat_of_before _ hgv) hts hX hbl
    obtain ⟨n, o, X, hev, ho, hx1, hx2⟩ := hg v0 xs hv0 hbd
    subst ho
    have htab0 : c.exceptionTable = #[] := by simpa using y7
    have F : zF (zt v0) D aC gad s.heap.size (zG xs) p room_1 s m #[Value.ref b] meth c 177 0 :=
      ⟨B.exec, y3, y4, y5, y6, findClass_of_methodNamed B.named, (name_of_methodNamed B.named B.method).1, by rw [htab0]; rfl, fun w hw => hts w (List.mem_filter.mp hw).1, (by decide : 11 ≤ 14), (by decide : 233 ≤ 508), hU, Nat.le_refl _, Nat.le_refl _⟩
    have hent := lg_entry_eq m ([Value.ref b] : List Value) maxLocals
    have hl0 := lv_entry ([Value.ref b] : List Value) (n := maxLocals) (by show 1 ≤ 7; decide)
    have hK := zsound (D := D) (aC := aC) (gad := gad) (base := s.heap.size) (G := zG xs) (zST_ok v0) (zhno v0) (zthrows_of hfl (zST_ok v0) (zT_ok v0)) (zcatches_of (zC_ok v0)) n 177 0 [(0, .ref 0)] [] ([], 0, 0) _ X hev p e room_1 s m #[Value.ref b] below meth c s.heap [] 0 0 _ 0 0 F
      (by
        have h1 : ztl (zad gad s.heap.size) [(0, .ref 0)] = lv_args 0 [Value.ref b] := by
          show [(0, Value.ref (zad gad s.heap.size 0))] = [(0, Value.ref b)]
          rw [zad_lo (by decide), hg0]
        rw [h1]
        exact hl0) (fun k q hk => by cases hk) va_S.rf rfl rfl hx1 hx2
    obtain ⟨t, a1, oc, L, mc, ms, b1, b2, b3, b4, b5, b6, b7, b8, b9, b10⟩ := hK s₁ hh0 X₀
    cases b3
    refine ⟨t, .returned (some (.int 1)), ?_, b1, b2, rfl, ⟨_, rfl⟩, b5, b6.weaken (fun y hy hlt => absurd hlt (Nat.not_lt.mpr (b7 y hy))) ?_ ?_⟩
    · have e1 : entryFrame m #[Value.ref b] maxLocals = F0 m 0 ((lg_sl [Value.ref b] ++ List.replicate (maxLocals - (lg_sl [Value.ref b]).length) Slot.unset).toArray) [] := hent
      rw [e1]
      exact a1
    · have : mc + 0 = X.2.1 := b8
      omega
    · have : ms + 0 = X.2.2 := b9
      omega
theorem lz_pre_spec {args : Array Value} {s : State} (h : zNA.before args s = true) (hr : rest_1_c.before args s = true) : ∃ (b : Addr) (xs : List Int32), lz_P b xs args s := by
  have hs := flat_of_before _ h
  have hq := flat_of_before _ hr
  have hc : (Jvm.Cond.count 1).before args s = true := hs _ (by decide +kernel)
  have harr : (Jvm.Cond.arrayOf (.arg 0) .int).before args s = true := hs _ (by decide +kernel)
  have hle : (Jvm.Cond.le (.length (.arg 0)) (.int 1536)).before args s = true := hs _ (by decide +kernel)
  have hlen : (Jvm.Cond.isInt (.length (.arg 0))).before args s = true := hq _ (by decide +kernel)
  have hall : (Jvm.Cond.all (.arg 0) (.isInt (.elem (.arg 0) (.index 0)))).before args s = true := hq _ (by decide +kernel)
  obtain ⟨b, xs, hb, hx⟩ := State.ints_of_pre rfl harr hlen hall
  have hsm : xs.length < 2 ^ 31 := hx.choose_spec.2.2.2
  have hev : (Term.length (.arg 0)).eval args s none [] s = some (.int xs.length.toInt32) := hx.length_eval hb
  have hv := Jvm.Cond.le_ints hev (show (Term.int 1536).eval args s none [] s = some (.int 1536) from rfl)
  have hd : xs.length.toInt32 ≤ 1536 := by
    simpa [Jvm.Cond.before, Jvm.Cond.holds, hv] using hle
  have hN : xs.length ≤ 1536 := (Int32.ofNat_le_ofNat hsm (by decide)).mp (show Int32.ofNat xs.length ≤ Int32.ofNat 1536 from hd)
  exact ⟨b, xs, Jvm.Cond.one_arg hc (show args[0]? = some (.ref b) from hb), hx, hN, h⟩
theorem lz_comes (hg : zGoal) (l : Launch) (hfl : l.flags = pinnedFlags ++ [noTraceFlag]) : Comes l x (Jvm.Cond.code x code maxLocals ret :: tables_1) room_1 (fun tb e args s => Calls_1 tb e args s ∧ rest_1 tb e args s ∧ Pre_1 tb e args s)
    (fun _ _ args s o t => lz_Q args s o t) := by
  intro p e ha hc hk s m args below hf hfit hheap happ hpre
  obtain ⟨b, xs, hP⟩ := lz_pre_spec hpre.2.2 hpre.2.1
  obtain ⟨k, o, h1, h2, h3, hQ⟩ := lz_walk hg l hfl b xs p e ha hc hk s m args below hf ((Spec.applies_iff_loose hf).mp happ).1 hP trivial
  exact ⟨k, o, h1, h2, h3, hQ⟩
theorem lz_frame {s t : State} {o : Outcome} {args : Array Value} (h : Framed s o t [] 601024 7293034) :
    Framed s o t (fieldLocs frame_1_writes args s ++ arrayLocs frame_1_arrays args s ++ staticLocs frame_1_statics s) 601024 7293034 := h
theorem lz_limb (hg : zGoal) (L : Jvm.Cond) (hL : ∀ (args : Array Value) (s t : State), L.after args s (.returned (some (.int 1))) t = true) :
    ArmFor flags0 classFile x code maxLocals ret World_1 tables_1 room_1 Calls_1 rest_1 Pre_1
      (fun tb e a s o t => postC L tb e a s o t ∧ Framed s o t (fieldLocs frame_1_writes a s ++ arrayLocs frame_1_arrays a s ++ staticLocs frame_1_statics s) 601024 7293034) := by
  intro l h1l h2l h3l p e ha hc hk s m args below hf hfit hheap happ hpre
  have hfl : l.flags = pinnedFlags ++ [noTraceFlag] := by first | exact h1l | exact h2l | exact h3l | exact h1l.2 | exact h2l.2 | exact h3l.2
  obtain ⟨k, o, h1, h2, h3, rfl, hF⟩ := lz_comes hg l hfl p e ha hc hk s m args below hf hfit hheap happ hpre
  exact ⟨k, _, h1, h2, h3, hL args s _, lz_frame hF⟩
theorem i_vc_open (hg : zGoal) : Claimed_1_1 ∧ Claimed_1_2 := ⟨lz_limb hg limb_1_1 (fun args s t => by simp [limb_1_1, Jvm.Cond.after, Jvm.Cond.holds, Jvm.Cond.value]), lz_limb hg limb_1_2 (fun args s t => Jvm.Cond.after_iff.mpr (by
  first | (rw [show limb_1_2 = Jvm.Cond.eq .result (.int 1) from rfl, Jvm.Cond.eq_ints (x := 1) (y := 1) rfl rfl]; simp; done) | (simp [limb_1_2, Jvm.Cond.value, Term.eval]; done)))⟩
end
section
/-! What the two constructors make. -/
def zH1 : List zE := [.inl (0, [.ref 51, .ref 53, .ref 109, .ref 113, .ref 117, .ref 122, .ref 171, .ref 173, .ref 175, .ref 176, .int 0, .int (-1), .int 0]),
  .inl (1, [.ref 52, .int 0]),
  .inr (.inl (1, List.replicate 100 0)),
  .inl (2, [.ref 54, .ref 55, .ref 56, .int 0, .int 0, .int 0]),
  .inr (.inr (.inr (3, [some 57, some 61, some 65, some 69, some 73, some 77, some 81, some 85, some 89, some 93, some 97, some 101, some 105]))),
  .inr (.inl (0, List.replicate 208 0)),
  .inr (.inl (0, List.replicate 208 0)),
  .inl (3, [.ref 58, .ref 59, .ref 60, .long 0, .int 0, .int 1, .int 0]),
  .inr (.inl (0, List.replicate 16 0)),
  .inr (.inl (0, List.replicate 16 0)),
  .inr (.inl (0, List.replicate 16 0)),
  .inl (3, [.ref 62, .ref 63, .ref 64, .long 0, .int 0, .int 0, .int 0]),
  .inr (.inl (0, List.replicate 16 0)),
  .inr (.inl (0, List.replicate 16 0)),
  .inr (.inl (0, List.replicate 16 0)),
  .inl (3, [.ref 66, .ref 67, .ref 68, .long 0, .int 0, .int 0, .int 0]),
  .inr (.inl (0, List.replicate 16 0)),
  .inr (.inl (0, List.replicate 16 0)),
  .inr (.inl (0, List.replicate 16 0)),
  .inl (3, [.ref 70, .ref 71, .ref 72, .long 0, .int 0, .int 0, .int 0]),
  .inr (.inl (0, List.replicate 16 0)),
  .inr (.inl (0, List.replicate 16 0)),
  .inr (.inl (0, List.replicate 16 0)),
  .inl (3, [.ref 74, .ref 75, .ref 76, .long 0, .int 0, .int 0, .int 0]),
  .inr (.inl (0, List.replicate 16 0)),
  .inr (.inl (0, List.replicate 16 0)),
  .inr (.inl (0, List.replicate 16 0)),
  .inl (3, [.ref 78, .ref 79, .ref 80, .long 0, .int 0, .int 0, .int 0]),
  .inr (.inl (0, List.replicate 16 0)),
  .inr (.inl (0, List.replicate 16 0)),
  .inr (.inl (0, List.replicate 16 0)),
  .inl (3, [.ref 82, .ref 83, .ref 84, .long 0, .int 0, .int 0, .int 0]),
  .inr (.inl (0, List.replicate 16 0)),
  .inr (.inl (0, List.replicate 16 0)),
  .inr (.inl (0, List.replicate 16 0)),
  .inl (3, [.ref 86, .ref 87, .ref 88, .long 0, .int 0, .int 0, .int 0]),
  .inr (.inl (0, List.replicate 16 0)),
  .inr (.inl (0, List.replicate 16 0)),
  .inr (.inl (0, List.replicate 16 0)),
  .inl (3, [.ref 90, .ref 91, .ref 92, .long 0, .int 0, .int 0, .int 0]),
  .inr (.inl (0, List.replicate 16 0)),
  .inr (.inl (0, List.replicate 16 0)),
  .inr (.inl (0, List.replicate 16 0)),
  .inl (3, [.ref 94, .ref 95, .ref 96, .long 0, .int 0, .int 0, .int 0]),
  .inr (.inl (0, List.replicate 16 0)),
  .inr (.inl (0, List.replicate 16 0)),
  .inr (.inl (0, List.replicate 16 0)),
  .inl (3, [.ref 98, .ref 99, .ref 100, .long 0, .int 0, .int 0, .int 0]),
  .inr (.inl (0, List.replicate 16 0)),
  .inr (.inl (0, List.replicate 16 0)),
  .inr (.inl (0, List.replicate 16 0)),
  .inl (3, [.ref 102, .ref 103, .ref 104, .long 0, .int 0, .int 0, .int 0]),
  .inr (.inl (0, List.replicate 16 0)),
  .inr (.inl (0, List.replicate 16 0)),
  .inr (.inl (0, List.replicate 16 0)),
  .inl (3, [.ref 106, .ref 107, .ref 108, .long 0, .int 0, .int 0, .int 0]),
  .inr (.inl (0, List.replicate 16 0)),
  .inr (.inl (0, List.replicate 16 0)),
  .inr (.inl (0, List.replicate 16 0)),
  .inl (4, [.ref 51, .ref 53, .ref 112, .ref 110, .ref 111, .ref 57, .int 0, .int 0, .int 0, .int 0]),
  .inr (.inl (0, List.replicate 3 0)),
  .inr (.inl (0, List.replicate 3 0)),
  .inl (5, [.ref 51, .int 0, .int 0, .int 0, .long 0, .int 0, .int 0]),
  .inl (6, [.ref 53, .ref 114, .ref 116]),
  .inl (7, [.ref 115]),
  .inr (.inl (0, List.replicate 8 0)),
  .inr (.inl (0, List.replicate 8 0)),
  .inl (8, [.ref 53, .ref 113, .ref 118, .ref 119, .ref 120, .ref 121, .int 0, .int 0]),
  .inr (.inl (0, List.replicate 1248 0)),
  .inr (.inl (0, List.replicate 156 0)),
  .inr (.inl (0, List.replicate 156 0)),
  .inr (.inl (0, List.replicate 4 0)),
  .inr (.inr (.inr (9, [some 123, some 125, some 127, some 129, some 131, some 133, some 135, some 137, some 139, some 141, some 143, some 145, some 147, some 149, some 151, some 153, some 155, some 157, some 159, some 161, some 163, some 165, some 167, some 169]))),
  .inl (9, [.ref 124, .int 0]),
  .inr (.inl (0, List.replicate 136 0)),
  .inl (9, [.ref 126, .int 0]),
  .inr (.inl (0, List.replicate 136 0)),
  .inl (9, [.ref 128, .int 0]),
  .inr (.inl (0, List.replicate 136 0)),
  .inl (9, [.ref 130, .int 0]),
  .inr (.inl (0, List.replicate 136 0)),
  .inl (9, [.ref 132, .int 0]),
  .inr (.inl (0, List.replicate 136 0)),
  .inl (9, [.ref 134, .int 0]),
  .inr (.inl (0, List.replicate 136 0)),
  .inl (9, [.ref 136, .int 0]),
  .inr (.inl (0, List.replicate 136 0)),
  .inl (9, [.ref 138, .int 0]),
  .inr (.inl (0, List.replicate 136 0)),
  .inl (9, [.ref 140, .int 0]),
  .inr (.inl (0, List.replicate 136 0)),
  .inl (9, [.ref 142, .int 0]),
  .inr (.inl (0, List.replicate 136 0)),
  .inl (9, [.ref 144, .int 0]),
  .inr (.inl (0, List.replicate 136 0)),
  .inl (9, [.ref 146, .int 0]),
  .inr (.inl (0, List.replicate 136 0)),
  .inl (9, [.ref 148, .int 0]),
  .inr (.inl (0, List.replicate 136 0)),
  .inl (9, [.ref 150, .int 0]),
  .inr (.inl (0, List.replicate 136 0)),
  .inl (9, [.ref 152, .int 0]),
  .inr (.inl (0, List.replicate 136 0)),
  .inl (9, [.ref 154, .int 0]),
  .inr (.inl (0, List.replicate 136 0)),
  .inl (9, [.ref 156, .int 0]),
  .inr (.inl (0, List.replicate 136 0)),
  .inl (9, [.ref 158, .int 0]),
  .inr (.inl (0, List.replicate 136 0)),
  .inl (9, [.ref 160, .int 0]),
  .inr (.inl (0, List.replicate 136 0)),
  .inl (9, [.ref 162, .int 0]),
  .inr (.inl (0, List.replicate 136 0)),
  .inl (9, [.ref 164, .int 0]),
  .inr (.inl (0, List.replicate 136 0)),
  .inl (9, [.ref 166, .int 0]),
  .inr (.inl (0, List.replicate 136 0)),
  .inl (9, [.ref 168, .int 0]),
  .inr (.inl (0, List.replicate 136 0)),
  .inl (9, [.ref 170, .int 0]),
  .inr (.inl (0, List.replicate 136 0)),
  .inl (9, [.ref 172, .int 0]),
  .inr (.inl (0, List.replicate 136 0)),
  .inl (9, [.ref 174, .int 0]),
  .inr (.inl (0, List.replicate 136 0)),
  .inr (.inl (0, [136, 140, 187, 227, 262, 258, 213, 173])),
  .inr (.inl (0, List.replicate 8 0))]
def zH2 : List zE := [.inl (0, [.ref 51, .ref 53, .ref 109, .ref 113, .ref 117, .ref 122, .ref 171, .ref 173, .ref 175, .ref 176, .int 0, .int (-1), .int 0]),
  .inl (1, [.ref 52, .int 0]),
  .inr (.inl (1, List.replicate 100 0)),
  .inl (2, [.ref 54, .ref 55, .ref 56, .int 0, .int 0, .int 0]),
  .inr (.inr (.inr (3, [some 57, some 61, some 65, some 69, some 73, some 77, some 81, some 85, some 89, some 93, some 97, some 101, some 105]))),
  .inr (.inl (0, List.replicate 208 0)),
  .inr (.inl (0, List.replicate 208 0)),
  .inl (3, [.ref 58, .ref 59, .ref 60, .long 0, .int 0, .int 1, .int 0]),
  .inr (.inl (0, List.replicate 16 0)),
  .inr (.inl (0, List.replicate 16 0)),
  .inr (.inl (0, List.replicate 16 0)),
  .inl (3, [.ref 62, .ref 63, .ref 64, .long 0, .int 0, .int 0, .int 0]),
  .inr (.inl (0, List.replicate 16 0)),
  .inr (.inl (0, List.replicate 16 0)),
  .inr (.inl (0, List.replicate 16 0)),
  .inl (3, [.ref 66, .ref 67, .ref 68, .long 0, .int 0, .int 0, .int 0]),
  .inr (.inl (0, List.replicate 16 0)),
  .inr (.inl (0, List.replicate 16 0)),
  .inr (.inl (0, List.replicate 16 0)),
  .inl (3, [.ref 70, .ref 71, .ref 72, .long 0, .int 0, .int 0, .int 0]),
  .inr (.inl (0, List.replicate 16 0)),
  .inr (.inl (0, List.replicate 16 0)),
  .inr (.inl (0, List.replicate 16 0)),
  .inl (3, [.ref 74, .ref 75, .ref 76, .long 0, .int 0, .int 0, .int 0]),
  .inr (.inl (0, List.replicate 16 0)),
  .inr (.inl (0, List.replicate 16 0)),
  .inr (.inl (0, List.replicate 16 0)),
  .inl (3, [.ref 78, .ref 79, .ref 80, .long 0, .int 0, .int 0, .int 0]),
  .inr (.inl (0, List.replicate 16 0)),
  .inr (.inl (0, List.replicate 16 0)),
  .inr (.inl (0, List.replicate 16 0)),
  .inl (3, [.ref 82, .ref 83, .ref 84, .long 0, .int 0, .int 0, .int 0]),
  .inr (.inl (0, List.replicate 16 0)),
  .inr (.inl (0, List.replicate 16 0)),
  .inr (.inl (0, List.replicate 16 0)),
  .inl (3, [.ref 86, .ref 87, .ref 88, .long 0, .int 0, .int 0, .int 0]),
  .inr (.inl (0, List.replicate 16 0)),
  .inr (.inl (0, List.replicate 16 0)),
  .inr (.inl (0, List.replicate 16 0)),
  .inl (3, [.ref 90, .ref 91, .ref 92, .long 0, .int 0, .int 0, .int 0]),
  .inr (.inl (0, List.replicate 16 0)),
  .inr (.inl (0, List.replicate 16 0)),
  .inr (.inl (0, List.replicate 16 0)),
  .inl (3, [.ref 94, .ref 95, .ref 96, .long 0, .int 0, .int 0, .int 0]),
  .inr (.inl (0, List.replicate 16 0)),
  .inr (.inl (0, List.replicate 16 0)),
  .inr (.inl (0, List.replicate 16 0)),
  .inl (3, [.ref 98, .ref 99, .ref 100, .long 0, .int 0, .int 0, .int 0]),
  .inr (.inl (0, List.replicate 16 0)),
  .inr (.inl (0, List.replicate 16 0)),
  .inr (.inl (0, List.replicate 16 0)),
  .inl (3, [.ref 102, .ref 103, .ref 104, .long 0, .int 0, .int 0, .int 0]),
  .inr (.inl (0, List.replicate 16 0)),
  .inr (.inl (0, List.replicate 16 0)),
  .inr (.inl (0, List.replicate 16 0)),
  .inl (3, [.ref 106, .ref 107, .ref 108, .long 0, .int 0, .int 0, .int 0]),
  .inr (.inl (0, List.replicate 16 0)),
  .inr (.inl (0, List.replicate 16 0)),
  .inr (.inl (0, List.replicate 16 0)),
  .inl (4, [.ref 51, .ref 53, .ref 112, .ref 110, .ref 111, .ref 57, .int 0, .int 0, .int 0, .int 0]),
  .inr (.inl (0, List.replicate 3 0)),
  .inr (.inl (0, List.replicate 3 0)),
  .inl (5, [.ref 51, .int 0, .int 0, .int 0, .long 0, .int 0, .int 0]),
  .inl (6, [.ref 53, .ref 114, .ref 116]),
  .inl (7, [.ref 115]),
  .inr (.inl (0, List.replicate 8 0)),
  .inr (.inl (0, List.replicate 8 0)),
  .inl (8, [.ref 53, .ref 113, .ref 118, .ref 119, .ref 120, .ref 121, .int 0, .int 0]),
  .inr (.inl (0, List.replicate 1248 0)),
  .inr (.inl (0, List.replicate 156 0)),
  .inr (.inl (0, List.replicate 156 0)),
  .inr (.inl (0, List.replicate 4 0)),
  .inr (.inr (.inr (9, [some 123, some 125, some 127, some 129, some 131, some 133, some 135, some 137, some 139, some 141, some 143, some 145, some 147, some 149, some 151, some 153, some 155, some 157, some 159, some 161, some 163, some 165, some 167, some 169]))),
  .inl (9, [.ref 124, .int 0]),
  .inr (.inl (0, List.replicate 136 0)),
  .inl (9, [.ref 126, .int 0]),
  .inr (.inl (0, List.replicate 136 0)),
  .inl (9, [.ref 128, .int 0]),
  .inr (.inl (0, List.replicate 136 0)),
  .inl (9, [.ref 130, .int 0]),
  .inr (.inl (0, List.replicate 136 0)),
  .inl (9, [.ref 132, .int 0]),
  .inr (.inl (0, List.replicate 136 0)),
  .inl (9, [.ref 134, .int 0]),
  .inr (.inl (0, List.replicate 136 0)),
  .inl (9, [.ref 136, .int 0]),
  .inr (.inl (0, List.replicate 136 0)),
  .inl (9, [.ref 138, .int 0]),
  .inr (.inl (0, List.replicate 136 0)),
  .inl (9, [.ref 140, .int 0]),
  .inr (.inl (0, List.replicate 136 0)),
  .inl (9, [.ref 142, .int 0]),
  .inr (.inl (0, List.replicate 136 0)),
  .inl (9, [.ref 144, .int 0]),
  .inr (.inl (0, List.replicate 136 0)),
  .inl (9, [.ref 146, .int 0]),
  .inr (.inl (0, List.replicate 136 0)),
  .inl (9, [.ref 148, .int 0]),
  .inr (.inl (0, List.replicate 136 0)),
  .inl (9, [.ref 150, .int 0]),
  .inr (.inl (0, List.replicate 136 0)),
  .inl (9, [.ref 152, .int 0]),
  .inr (.inl (0, List.replicate 136 0)),
  .inl (9, [.ref 154, .int 0]),
  .inr (.inl (0, List.replicate 136 0)),
  .inl (9, [.ref 156, .int 0]),
  .inr (.inl (0, List.replicate 136 0)),
  .inl (9, [.ref 158, .int 0]),
  .inr (.inl (0, List.replicate 136 0)),
  .inl (9, [.ref 160, .int 0]),
  .inr (.inl (0, List.replicate 136 0)),
  .inl (9, [.ref 162, .int 0]),
  .inr (.inl (0, List.replicate 136 0)),
  .inl (9, [.ref 164, .int 0]),
  .inr (.inl (0, List.replicate 136 0)),
  .inl (9, [.ref 166, .int 0]),
  .inr (.inl (0, List.replicate 136 0)),
  .inl (9, [.ref 168, .int 0]),
  .inr (.inl (0, List.replicate 136 0)),
  .inl (9, [.ref 170, .int 0]),
  .inr (.inl (0, List.replicate 136 0)),
  .inl (9, [.ref 172, .int 0]),
  .inr (.inl (0, List.replicate 136 0)),
  .inl (9, [.ref 174, .int 0]),
  .inr (.inl (0, List.replicate 136 0)),
  .inr (.inl (0, [136, 140, 187, 227, 262, 258, 213, 173])),
  .inr (.inl (0, List.replicate 8 0)),
  .inl (10, [.int 0, .int 0, .ref 178, .int (-1), .int 0, .int 0, .int 0, .long 0, .int 0, .int 0, .ref 179, .ref 180, .ref 181, .ref 182, .ref 183, .ref 184, .int 0, .ref 185, .ref 186, .int 0, .ref 187, .ref 188, .ref 189, .ref 190, .ref 191, .ref 192, .ref 193, .ref 194, .int 0, .int 0, .int 0, .int 0, .ref 195, .ref 196, .ref 197, .ref 198, .int (-1), .ref 199, .ref 200, .ref 201, .ref 202]),
  .inr (.inl (1, List.replicate 100 0)),
  .inr (.inr (.inl (List.replicate 13 0))),
  .inr (.inl (0, List.replicate 13 0)),
  .inr (.inl (0, List.replicate 13 0)),
  .inr (.inl (0, List.replicate 208 0)),
  .inr (.inl (0, List.replicate 208 0)),
  .inr (.inl (0, List.replicate 208 0)),
  .inr (.inl (0, List.replicate 224 0)),
  .inr (.inl (0, List.replicate 224 0)),
  .inr (.inl (0, List.replicate 3 0)),
  .inr (.inl (0, List.replicate 3 0)),
  .inr (.inl (0, [4, 5, 6, 6, 5, 4, 3, 3])),
  .inr (.inl (0, [3, 3, 4, 5, 6, 6, 5, 4])),
  .inr (.inl (0, [0, 0, 3, 3, 2, 2, 1, 1])),
  .inr (.inl (0, List.replicate 144 0)),
  .inr (.inl (0, List.replicate 144 0)),
  .inr (.inl (0, List.replicate 144 0)),
  .inr (.inl (0, List.replicate 24 0)),
  .inr (.inl (2, List.replicate 24 0)),
  .inr (.inl (0, List.replicate 192 0)),
  .inr (.inl (2, List.replicate 12 0)),
  .inr (.inl (0, List.replicate 4 0)),
  .inr (.inl (0, List.replicate 5 0)),
  .inr (.inl (0, List.replicate 40 0)),
  .inr (.inl (0, List.replicate 8 0))]
def zeqE (a b : zE) : Bool := match a, b with
  | .inl x, .inl y => decide (x = y)
  | .inr (.inl x), .inr (.inl y) => decide (x = y)
  | .inr (.inr (.inl x)), .inr (.inr (.inl y)) => decide (x = y)
  | .inr (.inr (.inr x)), .inr (.inr (.inr y)) => decide (x = y)
  | _, _ => false
theorem zeqE_spec {a b : zE} (h : zeqE a b = true) : a = b := by
  unfold zeqE at h
  split at h <;> first | (cases h; done) | (have := of_decide_eq_true h; subst this; rfl)
def zeqM : List zE → List zE → Bool
  | [], [] => true
  | a :: r, b :: s => zeqE a b && zeqM r s
  | _, _ => false
theorem zeqM_spec : ∀ {a b : List zE}, zeqM a b = true → a = b := by
  intro a
  induction a with
  | nil => intro b h; cases b with
    | nil => rfl
    | cons x r => cases h
  | cons y s ih => intro b h; cases b with
    | nil => cases h
    | cons x r =>
      simp only [zeqM, Bool.and_eq_true] at h
      rw [zeqE_spec h.1, ih h.2]
/-- the tables without the one entry that hangs on the launch; the given cells without the script -/
def zcd0 (mi pc : Nat) : Option zI := if mi = 36 then none else zcd (zt .null) mi pc
def zG0 : List zE := [.inr (.inr (.inl [])), .inr (.inl (0, zg1)), .inr (.inl (0, zg2)), .inr (.inl (0, zg3)), .inr (.inl (0, zg4)), .inl (99, [.ref 7, .int 0]), .inl (99, [.ref 8, .int 0]), .inr (.inl (3, zg5)), .inr (.inl (3, zg6))]
def zNLf (mi : Nat) : Nat := (zNL[mi]?).getD 0
def zend (r : Option (zO × zX)) (M : List zE) (a b : Nat) : Bool := match r with
  | some (.inl none, X) => zeqM X.1 M && decide (X.2.1 = a) && decide (X.2.2 = b)
  | _ => false
theorem zend_spec {r : Option (zO × zX)} {M : List zE} {a b : Nat} (h : zend r M a b = true) : r = some (.inl none, (M, a, b)) := by
  unfold zend at h
  split at h
  · rename_i X
    simp only [Bool.and_eq_true, decide_eq_true_eq] at h
    obtain ⟨⟨h1, h2⟩, h3⟩ := h
    have := zeqM_spec h1
    subst this; subst h2; subst h3
    rfl
  · cases h
set_option maxRecDepth 100000 in
theorem zct1 : zend (zev zcd0 zNLf zDF zHN zG0 20000 12 0 [(0, .ref 50)] [] ([.inl (0, dC0)], 1, 13)) zH1 127 6508 = true := by decide +kernel
set_option maxRecDepth 100000 in
theorem zct2 : zend (zev zcd0 zNLf zDF zHN zG0 20000 16 0 [(0, .ref 177)] [] (zH1 ++ [.inl (10, dC10)], 128, 6549)) zH2 153 8531 = true := by decide +kernel
end
section
/-! More tables, more given cells: the same runs. -/
theorem zb_kind {G : List zE} {df : Nat → List Value} {i : Instr} {a b c : Nat} {st : List Value} {X : zX} {q : Nat × List Value} (h : zb G i a b st X = some q) : zc df i a b c st X = none ∧ zret i a st = none ∧ zki i = 0 := by
  cases i <;> first | (simp [zb] at h; done) | exact ⟨rfl, rfl, rfl⟩
theorem zrd_sub {G1 G2 : List zE} (hG : ∀ (k : Nat) (c : zE), G1[k]? = some c → G2[k]? = some c ∨ c = .inr (.inr (.inl []))) {X : zX} {k : Nat} {c : zE} (h : zrd G1 X k = some c) : zrd G2 X k = some c ∨ c = .inr (.inr (.inl [])) := by
  unfold zrd at h ⊢
  split at h
  · rename_i hk
    rw [if_pos hk]
    exact hG _ _ h
  · rename_i hk
    rw [if_neg hk]
    exact Or.inl h
theorem zb_sub {G1 G2 : List zE} (hG : ∀ (k : Nat) (c : zE), G1[k]? = some c → G2[k]? = some c ∨ c = .inr (.inr (.inl []))) {i : Instr} {a b : Nat} {st : List Value} {X : zX} {q : Nat × List Value} (h : zb G1 i a b st X = some q) : zb G2 i a b st X = some q := by
  cases i <;> first | (simp [zb] at h; done) | skip
  all_goals
    simp only [zb] at h ⊢
    split at h
    · split at h
      all_goals first
        | (cases h; done)
        | (rename_i hz
           rcases zrd_sub hG hz with hz2 | hz2
           · simp only [hz2]
             exact h
           · first
             | (cases hz2; done)
             | (cases hz2; simp [zin] at h; done))
    · cases h
theorem zrcv_sub {G1 G2 : List zE} (hG : ∀ (k : Nat) (c : zE), G1[k]? = some c → G2[k]? = some c ∨ c = .inr (.inr (.inl []))) {X : zX} {v : Value} {as : List Value} (h : zrcv G1 X v as = true) : zrcv G2 X v as = true := by
  unfold zrcv at h ⊢
  split at h
  · split at h
    · split at h
      · rename_i hz
        rcases zrd_sub hG hz with hz2 | hz2
        · simp only [hz2]
          exact h
        · cases hz2
      · cases h
    · cases h
  · rfl
theorem zthr_sub {cd1 cd2 : Nat → Nat → Option zI} (hcd : ∀ mi pc q, cd1 mi pc = some q → cd2 mi pc = some q) {mi pc x : Nat} (h : zthr cd1 mi pc x = true) : zthr cd2 mi pc x = true := by
  unfold zthr at h ⊢
  split at h
  · rename_i h1 h2 h3 h4
    simp only [hcd _ _ _ h1, hcd _ _ _ h2, hcd _ _ _ h3, hcd _ _ _ h4]
    exact h
  · cases h
theorem zhd_sub {cd1 cd2 : Nat → Nat → Option zI} {hn : Nat → Nat → Nat → Option Nat} (hcd : ∀ mi pc q, cd1 mi pc = some q → cd2 mi pc = some q) {nL mi pc x : Nat} {q : Nat × Nat} (h : zhd cd1 hn nL mi pc x = some q) : zhd cd2 hn nL mi pc x = some q := by
  unfold zhd at h ⊢
  split at h
  · cases h
  · rename_i hh e1
    try simp only [e1]
    split at h
    · rename_i hc
      simp only [hcd _ _ _ hc]
      exact h
    · rename_i hc
      simp only [hcd _ _ _ hc]
      exact h
    · cases h
set_option maxHeartbeats 4000000 in
theorem zev_sub {cd1 cd2 : Nat → Nat → Option zI} {nl : Nat → Nat} {df : Nat → List Value} {hn : Nat → Nat → Nat → Option Nat} {G1 G2 : List zE} (hcd : ∀ mi pc q, cd1 mi pc = some q → cd2 mi pc = some q) (hG : ∀ (k : Nat) (c : zE), G1[k]? = some c → G2[k]? = some c ∨ c = .inr (.inr (.inl []))) :
    ∀ (n mi pc : Nat) (lv : zL) (st : List Value) (X : zX) (r : zO × zX), zev cd1 nl df hn G1 n mi pc lv st X = some r → zev cd2 nl df hn G2 n mi pc lv st X = some r := by
  intro n
  induction n with
  | zero => intro mi pc lv st X r h; simp [zev] at h
  | succ n ih =>
    intro mi pc lv st X r h
    rw [zev] at h ⊢
    cases hc : cd1 mi pc with
    | none => rw [hc] at h; cases h
    | some e =>
      obtain ⟨i, a, b, c, v⟩ := e
      rw [hc] at h
      rw [hcd _ _ _ hc]
      dsimp only at h ⊢
      cases ha : za i v (nl mi) pc lv st with
      | some q =>
        rw [ha] at h
        exact ih _ _ _ _ _ _ h
      | none =>
        rw [ha] at h
        dsimp only at h ⊢
        cases hb1 : zb G1 i a b st X with
        | some q =>
          rw [hb1] at h
          rw [zb_sub hG hb1]
          exact ih _ _ _ _ _ _ h
        | none =>
          rw [hb1] at h
          dsimp only at h
          cases hb2 : zb G2 i a b st X with
          | some q =>
            exfalso
            obtain ⟨k1, k2, k3⟩ := zb_kind (df := df) (c := c) hb2
            rw [k1, k2, k3] at h
            simp at h
          | none =>
            dsimp only
            cases hc2 : zc df i a b c st X with
            | some q =>
              rw [hc2] at h
              exact ih _ _ _ _ _ _ h
            | none =>
              rw [hc2] at h
              dsimp only at h ⊢
              cases hr : zret i a st with
              | some w =>
                rw [hr] at h
                exact h
              | none =>
                rw [hr] at h
                dsimp only at h ⊢
                split at h
                · rename_i hk
                  rw [if_pos hk]
                  split at h
                  · rename_i h5
                    rw [if_pos ⟨h5.1, zthr_sub hcd h5.2.1, h5.2.2⟩]
                    exact h
                  · cases h
                · rename_i hk
                  rw [if_neg hk]
                  split at h
                  · rename_i hk2
                    rw [if_pos hk2]
                    split at h
                    · rename_i ha1
                      rw [if_pos ha1]
                      cases hd : zd b st X with
                      | none => rw [hd] at h; cases h
                      | some q =>
                        rw [hd] at h
                        dsimp only at h ⊢
                        split at h
                        · rename_i h8
                          rw [if_pos h8]
                          exact ih _ _ _ _ _ _ h
                        · cases h
                    · rename_i ha1
                      rw [if_neg ha1]
                      split at h
                      · rename_i h5
                        rw [if_pos ⟨h5.1, h5.2.1, h5.2.2.1, h5.2.2.2.1, zrcv_sub hG h5.2.2.2.2⟩]
                        cases hcall : zev cd1 nl df hn G1 n b 0 (lv_args 0 (st.take c).reverse) [] X with
                        | none => rw [hcall] at h; cases h
                        | some w =>
                          rw [hcall] at h
                          rw [ih _ _ _ _ _ _ hcall]
                          obtain ⟨w1, w2⟩ := w
                          cases w1 with
                          | inl r1 =>
                            dsimp only at h ⊢
                            exact ih _ _ _ _ _ _ h
                          | inr x =>
                            dsimp only at h ⊢
                            cases hh : hn mi pc x with
                            | none =>
                              rw [hh] at h
                              exact h
                            | some y =>
                              rw [hh] at h
                              dsimp only at h ⊢
                              cases hz : zhd cd1 hn (nl mi) mi pc x with
                              | none => rw [hz] at h; cases h
                              | some q =>
                                rw [hz] at h
                                rw [zhd_sub hcd hz]
                                exact ih _ _ _ _ _ _ h
                      · cases h
                  · cases h
theorem zcd0_sub (v0 : Value) (mi pc : Nat) (q : zI) (h : zcd0 mi pc = some q) : zcd (zt v0) mi pc = some q := by
  unfold zcd0 at h
  split at h
  · cases h
  · rename_i hmi
    have h' : (((zKS .null)[mi]?).getD []).lookup pc = some q := h
    show (((zKS v0)[mi]?).getD []).lookup pc = some q
    rw [zks_set, List.getElem?_set_ne (fun h => hmi h.symm)]
    exact h'
theorem zG0_sub (xs : List Int32) (k : Nat) (c : zE) (h : zG0[k]? = some c) : (zG xs)[k]? = some c ∨ c = .inr (.inr (.inl [])) := by
  match k, h with
  | 0, h => cases h; exact Or.inr rfl
  | k + 1, h => exact Or.inl h
theorem zt_nl (v0 : Value) : znl (zt v0) = zNLf := rfl
theorem zt_df (v0 : Value) : zdf (zt v0) = zDF := rfl
theorem zt_hn (v0 : Value) : zhn (zt v0) = zHN := rfl
/-- a closed run is a run in every launch, on every script -/
theorem zwp_of0 {v0 : Value} {xs : List Int32} {n mi pc : Nat} {lv : zL} {st : List Value} {X X' : zX} {o : zO} {Q : zO → zX → Prop} (h : zev zcd0 zNLf zDF zHN zG0 n mi pc lv st X = some (o, X')) (hq : Q o X') : zwp (zt v0) (zG xs) mi pc lv st X Q := by
  unfold zwp
  rw [zt_nl, zt_df, zt_hn]
  exact ⟨n, o, X', zev_sub (zcd0_sub v0) (zG0_sub xs) _ _ _ _ _ _ _ h, hq⟩
end
