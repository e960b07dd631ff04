def zchk2 (bytes : ByteArray) (l : List (Nat × Instr)) : Bool := l.all fun q => match decode bytes q.1 with
  | .ok (j, n) => decide (j = q.2) && zlk j n
  | _ => false
theorem zchk_of {bytes : ByteArray} {l : List (Nat × zI)} (h : zchk2 bytes (l.map fun q => (q.1, q.2.1)) = true) : zchk bytes l = true := by
  unfold zchk2 at h
  rw [List.all_map] at h
  exact h
theorem zr_of {t : zT} {own : String} {ini : Bool} {ret : Option FieldType} {f l : Nat} {L : List (Nat × zI)} (h : ∀ q ∈ L.filter (fun q => !zsim q.2.1), zrq t own ini ret f l q) : ∀ q ∈ L, zrq t own ini ret f l q := fun q hq => by
  by_cases hs : zsim q.2.1 = true
  · exact zs hs
  · exact h q (List.mem_filter.mpr ⟨hq, by simp [hs]⟩)
set_option maxRecDepth 100000 in
theorem zr_0 (v0 : Value) : ∀ q ∈ zk_0 , zrq (zt v0) "FigureCaller$Text" true ((Option.none : Option Jvm.ClassFile.FieldType)) 1 20 q := zr_of (zcons (zx_0 v0 (by decide) (by decide)) (zcons (zx_1 v0) (zcons (zx_2 v0) (zcons (⟨trivial, trivial, trivial, rfl, trivial⟩) znil))))
theorem zd_0 (v0 : Value) : zchk prog_8_method_1_code (zk_0 ) = true := by decide +kernel
set_option maxRecDepth 100000 in
theorem zr_1 (v0 : Value) : ∀ q ∈ zk_1 , zrq (zt v0) "FigureCaller$Figure" true ((Option.none : Option Jvm.ClassFile.FieldType)) 1 20 q := zr_of (zcons (zx_3 v0 (by decide) (by decide)) (zcons (zx_4 v0) (zcons (zx_5 v0) (zcons (zx_4 v0) (zcons (zx_6 v0) (zcons (zx_4 v0) (zcons (zx_7 v0) (zcons (⟨trivial, trivial, trivial, rfl, trivial⟩) znil))))))))
theorem zd_1 (v0 : Value) : zchk prog_4_method_1_code (zk_1 ) = true := by decide +kernel
set_option maxRecDepth 100000 in
theorem zr_2 (v0 : Value) : ∀ q ∈ zk_2 , zrq (zt v0) "FigureCaller$Book" true ((Option.none : Option Jvm.ClassFile.FieldType)) 2 40 q := zr_of (zcons (zx_8 v0 (by decide) (by decide)) (zcons (zx_9 v0) (zcons (zx_10 v0) (zcons (zx_4 v0) (zcons (zx_11 v0) (zcons (zx_4 v0) (zcons (zx_12 v0) (zcons (zx_13 v0) (zcons (zx_14 v0) (zcons (zx_13 v0) (zcons (zx_15 v0) (zcons (zx_17 v0 (by decide) (by decide)) (zcons (zx_18 v0) (zcons (⟨trivial, trivial, trivial, rfl, trivial⟩) znil))))))))))))))
theorem zd_2 (v0 : Value) : zchk prog_2_method_1_code (zk_2 ) = true := by decide +kernel
set_option maxRecDepth 100000 in
theorem zr_3 (v0 : Value) : ∀ q ∈ zk_3 , zrq (zt v0) "FigureCaller$Tokens" true ((Option.none : Option Jvm.ClassFile.FieldType)) 1 20 q := zr_of (zcons (zx_19 v0 (by decide) (by decide)) (zcons (zx_20 v0) (zcons (⟨trivial, trivial, trivial, rfl, trivial⟩) znil)))
theorem zd_3 (v0 : Value) : zchk prog_9_method_1_code (zk_3 ) = true := by decide +kernel
set_option maxRecDepth 100000 in
theorem zr_4 (v0 : Value) : ∀ q ∈ zk_4 , zrq (zt v0) "FigureCaller$Figure" false ((Option.none : Option Jvm.ClassFile.FieldType)) 0 0 q := zr_of (zcons (zx_21 v0) (zcons (zx_22 v0) (zcons (⟨trivial, trivial, trivial, rfl, trivial⟩) znil)))
theorem zd_4 (v0 : Value) : zchk prog_4_method_2_code (zk_4 ) = true := by decide +kernel
set_option maxRecDepth 100000 in
theorem zr_5 (v0 : Value) : ∀ q ∈ zk_5 , zrq (zt v0) "FigureCaller$Book" false ((Option.some (Jvm.ClassFile.FieldType.object "FigureCaller$Figure"))) 1 20 q := zr_of (zcons (zx_23 v0) (zcons (zx_24 v0) (zcons (zx_13 v0) (zcons (zx_25 v0) (zcons (zx_26 v0) (zcons (zx_28 v0 (by decide) (by decide)) (zcons (zx_13 v0) (zcons (zx_25 v0) (zcons (zx_26 v0) (zcons (⟨trivial, trivial, trivial, ⟨_, rfl⟩, trivial⟩) znil))))))))))
theorem zd_5 (v0 : Value) : zchk prog_2_method_6_code (zk_5 ) = true := by decide +kernel
set_option maxRecDepth 100000 in
theorem zr_6 (v0 : Value) : ∀ q ∈ zk_6 , zrq (zt v0) "FigureCaller$Reader" true ((Option.none : Option Jvm.ClassFile.FieldType)) 2 41 q := zr_of (zcons (zx_29 v0 (by decide) (by decide)) (zcons (zx_4 v0) (zcons (zx_30 v0) (zcons (zx_4 v0) (zcons (zx_31 v0) (zcons (zx_32 v0) (zcons (zx_33 v0) (zcons (zx_34 v0) (zcons (zx_36 v0 (by decide) (by decide)) (zcons (zx_37 v0) (zcons (zx_39 v0 (by decide) (by decide)) (zcons (zx_40 v0) (zcons (⟨trivial, trivial, trivial, rfl, trivial⟩) znil)))))))))))))
theorem zd_6 (v0 : Value) : zchk prog_5_method_1_code (zk_6 ) = true := by decide +kernel
set_option maxRecDepth 100000 in
theorem zr_7 (v0 : Value) : ∀ q ∈ zk_7 , zrq (zt v0) "FigureCaller$Selection" true ((Option.none : Option Jvm.ClassFile.FieldType)) 1 20 q := zr_of (zcons (zx_41 v0 (by decide) (by decide)) (zcons (zx_4 v0) (zcons (zx_42 v0) (zcons (⟨trivial, trivial, trivial, rfl, trivial⟩) znil))))
theorem zd_7 (v0 : Value) : zchk prog_6_method_1_code (zk_7 ) = true := by decide +kernel
set_option maxRecDepth 100000 in
theorem zr_8 (v0 : Value) : ∀ q ∈ zk_8 , zrq (zt v0) "FigureCaller$Dancing" true ((Option.none : Option Jvm.ClassFile.FieldType)) 2 40 q := zr_of (zcons (zx_43 v0 (by decide) (by decide)) (zcons (zx_44 v0) (zcons (zx_46 v0 (by decide) (by decide)) (zcons (zx_47 v0) (zcons (zx_4 v0) (zcons (zx_48 v0) (zcons (zx_49 v0) (zcons (⟨trivial, trivial, trivial, rfl, trivial⟩) znil))))))))
theorem zd_8 (v0 : Value) : zchk prog_3_method_1_code (zk_8 ) = true := by decide +kernel
set_option maxRecDepth 100000 in
theorem zr_9 (v0 : Value) : ∀ q ∈ zk_9 , zrq (zt v0) "FigureCaller$WayHome" true ((Option.none : Option Jvm.ClassFile.FieldType)) 1 20 q := zr_of (zcons (zx_50 v0 (by decide) (by decide)) (zcons (zx_4 v0) (zcons (zx_51 v0) (zcons (zx_4 v0) (zcons (zx_52 v0) (zcons (zx_4 v0) (zcons (zx_53 v0) (zcons (zx_4 v0) (zcons (zx_54 v0) (zcons (zx_55 v0) (zcons (zx_56 v0) (zcons (⟨trivial, trivial, trivial, rfl, trivial⟩) znil))))))))))))
theorem zd_9 (v0 : Value) : zchk prog_11_method_1_code (zk_9 ) = true := by decide +kernel
set_option maxRecDepth 100000 in
theorem zr_10 (v0 : Value) : ∀ q ∈ zk_10 , zrq (zt v0) "FigureCaller$Track" true ((Option.none : Option Jvm.ClassFile.FieldType)) 1 20 q := zr_of (zcons (zx_57 v0 (by decide) (by decide)) (zcons (zx_4 v0) (zcons (zx_58 v0) (zcons (⟨trivial, trivial, trivial, rfl, trivial⟩) znil))))
theorem zd_10 (v0 : Value) : zchk prog_10_method_1_code (zk_10 ) = true := by decide +kernel
set_option maxRecDepth 100000 in
theorem zr_11 (v0 : Value) : ∀ q ∈ zk_11 , zrq (zt v0) "FigureCaller" false ((Option.none : Option Jvm.ClassFile.FieldType)) 0 0 q := zr_of (zcons (zx_59 v0) (zcons (zx_60 v0) (zcons (⟨trivial, trivial, trivial, rfl, trivial⟩) znil)))
theorem zd_11 (v0 : Value) : zchk prog_1_method_23_code (zk_11 ) = true := by decide +kernel
set_option maxRecDepth 100000 in
theorem zr_12 (v0 : Value) : ∀ q ∈ zk_12 , zrq (zt v0) "FigureCaller" true ((Option.none : Option Jvm.ClassFile.FieldType)) 3 63 q := zr_of (zcons (zx_61 v0 (by decide) (by decide)) (zcons (zx_62 v0) (zcons (zx_64 v0 (by decide) (by decide)) (zcons (zx_65 v0) (zcons (zx_66 v0) (zcons (zx_68 v0 (by decide) (by decide)) (zcons (zx_69 v0) (zcons (zx_70 v0) (zcons (zx_71 v0) (zcons (zx_72 v0) (zcons (zx_74 v0 (by decide) (by decide)) (zcons (zx_75 v0) (zcons (zx_76 v0) (zcons (zx_72 v0) (zcons (zx_78 v0 (by decide) (by decide)) (zcons (zx_79 v0) (zcons (zx_80 v0) (zcons (zx_72 v0) (zcons (zx_81 v0) (zcons (zx_83 v0 (by decide) (by decide)) (zcons (zx_84 v0) (zcons (zx_85 v0) (zcons (zx_86 v0) (zcons (zx_87 v0) (zcons (zx_88 v0) (zcons (zx_90 v0 (by decide) (by decide)) (zcons (zx_91 v0) (zcons (zx_88 v0) (zcons (zx_90 v0 (by decide) (by decide)) (zcons (zx_92 v0) (zcons (zx_88 v0) (zcons (zx_90 v0 (by decide) (by decide)) (zcons (zx_93 v0) (zcons (zx_4 v0) (zcons (zx_94 v0) (zcons (zx_4 v0) (zcons (zx_95 v0) (zcons (zx_96 v0) (zcons (zx_97 v0) (zcons (zx_99 v0 (by decide) (by decide)) (zcons (⟨trivial, trivial, trivial, rfl, trivial⟩) znil)))))))))))))))))))))))))))))))))))))))))
theorem zd_12 (v0 : Value) : zchk prog_1_method_1_code (zk_12 ) = true := by decide +kernel
set_option maxRecDepth 100000 in
theorem zr_13 (v0 : Value) : ∀ q ∈ zk_13 , zrq (zt v0) "FigureCallerModel" false ((Option.some Jvm.ClassFile.FieldType.int)) 0 0 q := zr_of (zcons (zx_100 v0) znil)
theorem zd_13 (v0 : Value) : zchk prog_13_method_3_code (zk_13 ) = true := by decide +kernel
set_option maxRecDepth 100000 in
theorem zr_14 (v0 : Value) : ∀ q ∈ zk_14 , zrq (zt v0) "FigureCallerModel" false ((Option.some Jvm.ClassFile.FieldType.int)) 0 0 q := zr_of (zcons (zx_100 v0) znil)
theorem zd_14 (v0 : Value) : zchk prog_13_method_4_code (zk_14 ) = true := by decide +kernel
set_option maxRecDepth 100000 in
theorem zr_15 (v0 : Value) : ∀ q ∈ zk_15 , zrq (zt v0) "FigureCallerModel" false ((Option.some Jvm.ClassFile.FieldType.int)) 0 0 q := zr_of (zcons (zx_100 v0) znil)
theorem zd_15 (v0 : Value) : zchk prog_13_method_5_code (zk_15 ) = true := by decide +kernel
set_option maxRecDepth 100000 in
theorem zr_16 (v0 : Value) : ∀ q ∈ zk_16 , zrq (zt v0) "FigureCallerModel" true ((Option.none : Option Jvm.ClassFile.FieldType)) 1 20 q := zr_of (zcons (zx_101 v0 (by decide) (by decide)) (zcons (zx_1 v0) (zcons (zx_102 v0) (zcons (zx_103 v0) (zcons (zx_104 v0) (zcons (zx_105 v0) (zcons (zx_4 v0) (zcons (zx_106 v0) (zcons (zx_4 v0) (zcons (zx_107 v0) (zcons (zx_4 v0) (zcons (zx_108 v0) (zcons (zx_4 v0) (zcons (zx_109 v0) (zcons (zx_4 v0) (zcons (zx_110 v0) (zcons (zx_4 v0) (zcons (zx_111 v0) (zcons (zx_4 v0) (zcons (zx_112 v0) (zcons (zx_4 v0) (zcons (zx_113 v0) (zcons (zx_4 v0) (zcons (zx_114 v0) (zcons (zx_4 v0) (zcons (zx_115 v0) (zcons (zx_4 v0) (zcons (zx_116 v0) (zcons (zx_4 v0) (zcons (zx_117 v0) (zcons (zx_4 v0) (zcons (zx_118 v0) (zcons (zx_4 v0) (zcons (zx_119 v0) (zcons (zx_4 v0) (zcons (zx_120 v0) (zcons (zx_4 v0) (zcons (zx_121 v0) (zcons (zx_122 v0) (zcons (zx_123 v0) (zcons (zx_4 v0) (zcons (zx_124 v0) (zcons (zx_122 v0) (zcons (zx_125 v0) (zcons (zx_126 v0) (zcons (zx_4 v0) (zcons (zx_127 v0) (zcons (zx_4 v0) (zcons (zx_128 v0) (zcons (zx_4 v0) (zcons (zx_129 v0) (zcons (zx_4 v0) (zcons (zx_130 v0) (zcons (zx_131 v0) (zcons (zx_133 v0 (by decide) (by decide)) (zcons (zx_134 v0) (zcons (zx_136 v0 (by decide) (by decide)) (zcons (zx_137 v0) (zcons (zx_139 v0 (by decide) (by decide)) (zcons (⟨trivial, trivial, trivial, rfl, trivial⟩) znil))))))))))))))))))))))))))))))))))))))))))))))))))))))))))))
theorem zd_16 (v0 : Value) : zchk prog_13_method_1_code (zk_16 ) = true := by decide +kernel
set_option maxRecDepth 100000 in
theorem zr_17 (v0 : Value) : ∀ q ∈ zk_17 , zrq (zt v0) "FigureCaller$Text" false ((Option.some Jvm.ClassFile.FieldType.int)) 0 0 q := zr_of (zcons (zx_100 v0) znil)
theorem zd_17 (v0 : Value) : zchk prog_8_method_5_code (zk_17 ) = true := by decide +kernel
set_option maxRecDepth 100000 in
theorem zr_18 (v0 : Value) : ∀ q ∈ zk_18 , zrq (zt v0) "FigureCaller$Text" false ((Option.some Jvm.ClassFile.FieldType.boolean)) 1 22 q := zr_of (zcons (zx_141 v0 (by decide) (by decide)) (zcons (zx_142 v0) (zcons (zx_143 v0) (zcons (zx_142 v0) znil))))
theorem zd_18 (v0 : Value) : zchk prog_8_method_4_code (zk_18 ) = true := by decide +kernel
set_option maxRecDepth 100000 in
theorem zr_19 (v0 : Value) : ∀ q ∈ zk_19 , zrq (zt v0) "FigureCaller$Text" false ((Option.some Jvm.ClassFile.FieldType.boolean)) 2 47 q := zr_of (zcons (zx_145 v0 (by decide) (by decide)) (zcons (zx_142 v0) (zcons (zx_141 v0 (by decide) (by decide)) (zcons (zx_143 v0) (zcons (zx_146 v0) (zcons (zx_143 v0) (zcons (zx_143 v0) (zcons (zx_147 v0) (zcons (zx_142 v0) znil)))))))))
theorem zd_19 (v0 : Value) : zchk prog_8_method_2_code (zk_19 ) = true := by decide +kernel
set_option maxRecDepth 100000 in
theorem zr_20 (v0 : Value) : ∀ q ∈ zk_20 , zrq (zt v0) "FigureCaller" false ((Option.some Jvm.ClassFile.FieldType.boolean)) 3 71 q := zr_of (zcons (zx_71 v0) (zcons (zx_149 v0 (by decide) (by decide)) (zcons (zx_142 v0) znil)))
theorem zd_20 (v0 : Value) : zchk prog_1_method_2_code (zk_20 ) = true := by decide +kernel
set_option maxRecDepth 100000 in
theorem zr_21 (v0 : Value) : ∀ q ∈ zk_21 , zrq (zt v0) "FigureCallerModel" false ((Option.some Jvm.ClassFile.FieldType.boolean)) 0 0 q := zr_of (zcons (zx_150 v0) (zcons (zx_151 v0) (zcons (zx_142 v0) (zcons (zx_152 v0) (zcons (zx_142 v0) (zcons (zx_151 v0) (zcons (zx_153 v0) (zcons (zx_152 v0) (zcons (zx_152 v0) (zcons (zx_154 v0) (zcons (zx_142 v0) znil)))))))))))
theorem zd_21 (v0 : Value) : zchk prog_13_method_6_code (zk_21 ) = true := by decide +kernel
set_option maxRecDepth 100000 in
theorem zr_22 (v0 : Value) : ∀ q ∈ zk_22 , zrq (zt v0) "FigureCaller$Text" false ((Option.some Jvm.ClassFile.FieldType.int)) 0 0 q := zr_of (zcons (zx_143 v0) (zcons (zx_147 v0) (zcons (zx_100 v0) znil)))
theorem zd_22 (v0 : Value) : zchk prog_8_method_3_code (zk_22 ) = true := by decide +kernel
set_option maxRecDepth 100000 in
theorem zr_23 (v0 : Value) : ∀ q ∈ zk_23 , zrq (zt v0) "FigureCaller" false ((Option.some Jvm.ClassFile.FieldType.int)) 1 21 q := zr_of (zcons (zx_71 v0) (zcons (zx_156 v0 (by decide) (by decide)) (zcons (zx_100 v0) znil)))
theorem zd_23 (v0 : Value) : zchk prog_1_method_3_code (zk_23 ) = true := by decide +kernel
set_option maxRecDepth 100000 in
theorem zr_24 (v0 : Value) : ∀ q ∈ zk_24 , zrq (zt v0) "FigureCallerModel" false ((Option.some Jvm.ClassFile.FieldType.int)) 0 0 q := zr_of (zcons (zx_150 v0) (zcons (zx_152 v0) (zcons (zx_154 v0) (zcons (zx_100 v0) znil))))
theorem zd_24 (v0 : Value) : zchk prog_13_method_7_code (zk_24 ) = true := by decide +kernel
set_option maxRecDepth 100000 in
theorem zr_25 (v0 : Value) : ∀ q ∈ zk_25 , zrq (zt v0) "FigureCaller$Tokens" false ((Option.none : Option Jvm.ClassFile.FieldType)) 0 0 q := zr_of (zcons (zx_157 v0) (zcons (⟨trivial, trivial, trivial, rfl, trivial⟩) znil))
theorem zd_25 (v0 : Value) : zchk prog_9_method_2_code (zk_25 ) = true := by decide +kernel
set_option maxRecDepth 100000 in
theorem zr_26 (v0 : Value) : ∀ q ∈ zk_26 , zrq (zt v0) "FigureCaller$Tokens" false ((Option.some Jvm.ClassFile.FieldType.boolean)) 0 0 q := zr_of (zcons (zx_158 v0) (zcons (zx_159 v0) (zcons (zx_160 v0) (zcons (zx_158 v0) (zcons (zx_159 v0) (zcons (zx_160 v0) (zcons (zx_142 v0) znil)))))))
theorem zd_26 (v0 : Value) : zchk prog_9_method_8_code (zk_26 ) = true := by decide +kernel
set_option maxRecDepth 100000 in
theorem zr_27 (v0 : Value) : ∀ q ∈ zk_27 , zrq (zt v0) "FigureCaller$Tokens" false ((Option.some Jvm.ClassFile.FieldType.long)) 0 0 q := zr_of (zcons (zx_161 v0) (zcons (⟨trivial, trivial, trivial, rfl, trivial⟩) znil))
theorem zd_27 (v0 : Value) : zchk prog_9_method_9_code (zk_27 ) = true := by decide +kernel
set_option maxRecDepth 100000 in
theorem zr_28 (v0 : Value) : ∀ q ∈ zk_28 , zrq (zt v0) "FigureCaller$Tokens" false ((Option.none : Option Jvm.ClassFile.FieldType)) 1 22 q := zr_of (zcons (zx_162 v0) (zcons (zx_163 v0) (zcons (zx_160 v0) (zcons (zx_158 v0) (zcons (zx_164 v0) (zcons (zx_166 v0 (by decide) (by decide)) (zcons (zx_160 v0) (zcons (zx_167 v0) (zcons (zx_168 v0) (zcons (zx_158 v0) (zcons (zx_159 v0) (zcons (zx_160 v0) (zcons (zx_170 v0 (by decide) (by decide)) (zcons (zx_163 v0) (zcons (zx_160 v0) (zcons (zx_157 v0) (zcons (zx_160 v0) (zcons (zx_167 v0) (zcons (zx_163 v0) (zcons (⟨trivial, trivial, trivial, rfl, trivial⟩) znil))))))))))))))))))))
theorem zd_28 (v0 : Value) : zchk prog_9_method_6_code (zk_28 ) = true := by decide +kernel
set_option maxRecDepth 100000 in
theorem zr_29 (v0 : Value) : ∀ q ∈ zk_29 , zrq (zt v0) "FigureCaller$Tokens" false ((Option.none : Option Jvm.ClassFile.FieldType)) 1 22 q := zr_of (zcons (zx_162 v0) (zcons (zx_158 v0) (zcons (zx_159 v0) (zcons (zx_167 v0) (zcons (zx_171 v0) (zcons (zx_160 v0) (zcons (zx_158 v0) (zcons (zx_164 v0) (zcons (zx_166 v0 (by decide) (by decide)) (zcons (zx_160 v0) (zcons (zx_157 v0) (zcons (zx_160 v0) (zcons (zx_167 v0) (zcons (zx_171 v0) (zcons (⟨trivial, trivial, trivial, rfl, trivial⟩) znil)))))))))))))))
theorem zd_29 (v0 : Value) : zchk prog_9_method_7_code (zk_29 ) = true := by decide +kernel
set_option maxRecDepth 100000 in
theorem zr_30 (v0 : Value) : ∀ q ∈ zk_30 , zrq (zt v0) "FigureCaller$Tokens" false ((Option.none : Option Jvm.ClassFile.FieldType)) 2 42 q := zr_of (zcons (zx_160 v0) (zcons (zx_172 v0) (zcons (zx_167 v0) (zcons (zx_158 v0) (zcons (zx_164 v0) (zcons (zx_158 v0) (zcons (zx_159 v0) (zcons (zx_167 v0) (zcons (zx_167 v0) (zcons (zx_172 v0) (zcons (zx_167 v0) (zcons (zx_157 v0) (zcons (zx_167 v0) (zcons (zx_158 v0) (zcons (zx_164 v0) (zcons (zx_162 v0) (zcons (zx_166 v0 (by decide) (by decide)) (zcons (zx_174 v0 (by decide) (by decide)) (zcons (zx_166 v0 (by decide) (by decide)) (zcons (zx_176 v0 (by decide) (by decide)) (zcons (zx_162 v0) (zcons (zx_158 v0) (zcons (zx_159 v0) (zcons (zx_167 v0) (zcons (zx_177 v0) (zcons (zx_160 v0) (zcons (zx_157 v0) (zcons (⟨trivial, trivial, trivial, rfl, trivial⟩) znil))))))))))))))))))))))))))))
theorem zd_30 (v0 : Value) : zchk prog_9_method_3_code (zk_30 ) = true := by decide +kernel
set_option maxRecDepth 100000 in
theorem zr_31 (v0 : Value) : ∀ q ∈ zk_31 , zrq (zt v0) "FigureCaller$Book" false ((Option.some Jvm.ClassFile.FieldType.int)) 0 0 q := zr_of (zcons (zx_25 v0) (zcons (zx_13 v0) (zcons (zx_26 v0) (zcons (zx_178 v0) (zcons (zx_100 v0) (zcons (zx_100 v0) znil))))))
theorem zd_31 (v0 : Value) : zchk prog_2_method_5_code (zk_31 ) = true := by decide +kernel
set_option maxRecDepth 100000 in
theorem zr_32 (v0 : Value) : ∀ q ∈ zk_32 , zrq (zt v0) "java/lang/String" false ((Option.some Jvm.ClassFile.FieldType.byte)) 0 0 q := zr_of (zcons (zx_179 v0) (zcons (zx_180 v0) (zcons (zx_181 v0) znil)))
theorem zd_32 (v0 : Value) : zchk prog_20_method_152_code (zk_32 ) = true := by decide +kernel
set_option maxRecDepth 100000 in
theorem zr_33 (v0 : Value) : ∀ q ∈ zk_33 , zrq (zt v0) "java/lang/String" false ((Option.some Jvm.ClassFile.FieldType.int)) 1 20 q := zr_of (zcons (zx_182 v0) (zcons (zx_183 v0) (zcons (zx_185 v0 (by decide) (by decide)) (zcons (zx_100 v0) znil))))
theorem zd_33 (v0 : Value) : zchk prog_20_method_54_code (zk_33 ) = true := by decide +kernel
set_option maxRecDepth 100000 in
theorem zr_34 (v0 : Value) : ∀ q ∈ zk_34 , zrq (zt v0) "java/lang/String" false ((Option.some Jvm.ClassFile.FieldType.boolean)) 0 0 q := zr_of (zcons (zx_179 v0) (zcons (zx_180 v0) (zcons (zx_142 v0) znil)))
theorem zd_34 (v0 : Value) : zchk prog_20_method_154_code (zk_34 ) = true := by decide +kernel
set_option maxRecDepth 100000 in
theorem zr_35 (v0 : Value) : ∀ q ∈ zk_35 , zrq (zt v0) "jdk/internal/util/Preconditions" false ((Option.some Jvm.ClassFile.FieldType.int)) 0 0 q := zr_of (zcons (zx_100 v0) znil)
theorem zd_35 (v0 : Value) : zchk prog_25_method_11_code (zk_35 ) = true := by decide +kernel
set_option maxRecDepth 100000 in
theorem zr_36 (v0 : Value) : ∀ q ∈ zk_36 v0, zrq (zt v0) "java/lang/String" false ((Option.none : Option Jvm.ClassFile.FieldType)) 1 22 q := zr_of (zcons (zx_186 v0) (zcons (zx_188 v0 (by decide) (by decide)) (zcons (⟨trivial, trivial, trivial, rfl, trivial⟩) znil)))
theorem zd_36 (v0 : Value) : zchk prog_20_method_155_code (zk_36 v0) = true := zchk_of (by show zchk2 prog_20_method_155_code [(0, .iload_n 0), (1, .iload_n 1), (2, .getstatic 1053), (5, .invokestatic 1059), (8, .pop), (9, .return_)] = true; decide +kernel)
set_option maxRecDepth 100000 in
theorem zr_37 (v0 : Value) : ∀ q ∈ zk_37 , zrq (zt v0) "java/lang/StringLatin1" false ((Option.some Jvm.ClassFile.FieldType.char)) 2 43 q := zr_of (zcons (zx_183 v0) (zcons (zx_190 v0 (by decide) (by decide)) (zcons (zx_191 v0) znil)))
theorem zd_37 (v0 : Value) : zchk prog_21_method_2_code (zk_37 ) = true := by decide +kernel
set_option maxRecDepth 100000 in
theorem zr_38 (v0 : Value) : ∀ q ∈ zk_38 , zrq (zt v0) "java/lang/String" false ((Option.some Jvm.ClassFile.FieldType.char)) 3 64 q := zr_of (zcons (zx_193 v0 (by decide) (by decide)) (zcons (zx_182 v0) (zcons (zx_195 v0 (by decide) (by decide)) (zcons (zx_191 v0) (zcons (zx_182 v0) (zcons (zx_191 v0) znil))))))
theorem zd_38 (v0 : Value) : zchk prog_20_method_56_code (zk_38 ) = true := by decide +kernel
set_option maxRecDepth 100000 in
theorem zr_39 (v0 : Value) : ∀ q ∈ zk_39 , zrq (zt v0) "FigureCaller$Tokens" false ((Option.some Jvm.ClassFile.FieldType.int)) 4 85 q := zr_of (zcons (zx_197 v0 (by decide) (by decide)) (zcons (zx_199 v0 (by decide) (by decide)) (zcons (zx_199 v0 (by decide) (by decide)) (zcons (zx_170 v0 (by decide) (by decide)) (zcons (zx_168 v0) (zcons (zx_100 v0) (zcons (zx_168 v0) (zcons (zx_100 v0) znil))))))))
theorem zd_39 (v0 : Value) : zchk prog_9_method_5_code (zk_39 ) = true := by decide +kernel
set_option maxRecDepth 100000 in
theorem zr_40 (v0 : Value) : ∀ q ∈ zk_40 , zrq (zt v0) "FigureCaller$Reader" false ((Option.some Jvm.ClassFile.FieldType.boolean)) 5 110 q := zr_of (zcons (zx_200 v0) (zcons (zx_201 v0) (zcons (zx_200 v0) (zcons (zx_202 v0) (zcons (zx_203 v0) (zcons (zx_200 v0) (zcons (zx_202 v0) (zcons (zx_205 v0 (by decide) (by decide)) (zcons (zx_200 v0) (zcons (zx_206 v0) (zcons (zx_208 v0 (by decide) (by decide)) (zcons (zx_200 v0) (zcons (zx_209 v0) (zcons (zx_208 v0 (by decide) (by decide)) (zcons (zx_142 v0) (zcons (zx_210 v0) (zcons (zx_200 v0) (zcons (zx_202 v0) (zcons (zx_211 v0) (zcons (zx_212 v0) (zcons (zx_142 v0) znil)))))))))))))))))))))
theorem zd_40 (v0 : Value) : zchk prog_5_method_5_code (zk_40 ) = true := by decide +kernel
set_option maxRecDepth 100000 in
theorem zr_41 (v0 : Value) : ∀ q ∈ zk_41 , zrq (zt v0) "FigureCaller$Tokens" false ((Option.some Jvm.ClassFile.FieldType.boolean)) 0 0 q := zr_of (zcons (zx_213 v0) (zcons (zx_214 v0) (zcons (zx_142 v0) znil)))
theorem zd_41 (v0 : Value) : zchk prog_9_method_4_code (zk_41 ) = true := by decide +kernel
set_option maxRecDepth 100000 in
theorem zr_42 (v0 : Value) : ∀ q ∈ zk_42 , zrq (zt v0) "FigureCaller$Reader" false ((Option.some Jvm.ClassFile.FieldType.boolean)) 1 21 q := zr_of (zcons (zx_200 v0) (zcons (zx_216 v0 (by decide) (by decide)) (zcons (zx_142 v0) (zcons (zx_212 v0) (zcons (zx_142 v0) znil)))))
theorem zd_42 (v0 : Value) : zchk prog_5_method_4_code (zk_42 ) = true := by decide +kernel
set_option maxRecDepth 100000 in
theorem zr_43 (v0 : Value) : ∀ q ∈ zk_43 , zrq (zt v0) "FigureCaller$Reader" false ((Option.some Jvm.ClassFile.FieldType.boolean)) 0 0 q := zr_of (zcons (zx_200 v0) (zcons (zx_201 v0) (zcons (zx_200 v0) (zcons (zx_217 v0) (zcons (zx_200 v0) (zcons (zx_217 v0) (zcons (zx_218 v0) (zcons (zx_142 v0) (zcons (zx_219 v0) (zcons (zx_218 v0) (zcons (zx_200 v0) (zcons (zx_217 v0) (zcons (zx_212 v0) (zcons (zx_142 v0) znil))))))))))))))
theorem zd_43 (v0 : Value) : zchk prog_5_method_7_code (zk_43 ) = true := by decide +kernel
set_option maxRecDepth 100000 in
theorem zr_44 (v0 : Value) : ∀ q ∈ zk_44 , zrq (zt v0) "FigureCaller$Book" false ((Option.some (Jvm.ClassFile.FieldType.object "FigureCaller$Figure"))) 0 0 q := zr_of (zcons (zx_13 v0) (zcons (zx_26 v0) (zcons (⟨trivial, trivial, trivial, ⟨_, rfl⟩, trivial⟩) znil)))
theorem zd_44 (v0 : Value) : zchk prog_2_method_4_code (zk_44 ) = true := by decide +kernel
set_option maxRecDepth 100000 in
theorem zr_45 (v0 : Value) : ∀ q ∈ zk_45 , zrq (zt v0) "FigureCaller$Figure" false ((Option.none : Option Jvm.ClassFile.FieldType)) 0 0 q := zr_of (zcons (zx_220 v0) (zcons (zx_221 v0) (zcons (zx_220 v0) (zcons (zx_222 v0) (zcons (zx_220 v0) (zcons (zx_223 v0) (zcons (zx_220 v0) (zcons (zx_220 v0) (zcons (zx_220 v0) (zcons (zx_21 v0) (zcons (⟨trivial, trivial, trivial, rfl, trivial⟩) znil)))))))))))
theorem zd_45 (v0 : Value) : zchk prog_4_method_8_code (zk_45 ) = true := by decide +kernel
set_option maxRecDepth 100000 in
theorem zr_46 (v0 : Value) : ∀ q ∈ zk_46 , zrq (zt v0) "FigureCaller$Figure" false ((Option.none : Option Jvm.ClassFile.FieldType)) 1 60 q := zr_of (zcons (zx_220 v0) (zcons (zx_220 v0) (zcons (zx_221 v0) (zcons (zx_222 v0) (zcons (zx_223 v0) (zcons (zx_225 v0 (by decide) (by decide)) (zcons (zx_226 v0) (zcons (zx_226 v0) (zcons (zx_227 v0 (by decide) (by decide)) (zcons (zx_22 v0) (zcons (⟨trivial, trivial, trivial, rfl, trivial⟩) znil)))))))))))
theorem zd_46 (v0 : Value) : zchk prog_4_method_4_code (zk_46 ) = true := by decide +kernel
set_option maxRecDepth 100000 in
theorem zr_47 (v0 : Value) : ∀ q ∈ zk_47 , zrq (zt v0) "FigureCaller$Reader" false ((Option.some Jvm.ClassFile.FieldType.boolean)) 2 83 q := zr_of (zcons (zx_200 v0) (zcons (zx_201 v0) (zcons (zx_203 v0) (zcons (zx_200 v0) (zcons (zx_202 v0) (zcons (zx_205 v0 (by decide) (by decide)) (zcons (zx_142 v0) (zcons (zx_210 v0) (zcons (zx_203 v0) (zcons (zx_229 v0 (by decide) (by decide)) (zcons (zx_231 v0 (by decide) (by decide)) (zcons (zx_212 v0) (zcons (zx_142 v0) znil)))))))))))))
theorem zd_47 (v0 : Value) : zchk prog_5_method_9_code (zk_47 ) = true := by decide +kernel
set_option maxRecDepth 100000 in
theorem zr_48 (v0 : Value) : ∀ q ∈ zk_48 , zrq (zt v0) "FigureCaller$Reader" false ((Option.some Jvm.ClassFile.FieldType.boolean)) 5 110 q := zr_of (zcons (zx_200 v0) (zcons (zx_201 v0) (zcons (zx_200 v0) (zcons (zx_206 v0) (zcons (zx_208 v0 (by decide) (by decide)) (zcons (zx_232 v0) (zcons (zx_212 v0) (zcons (zx_233 v0) (zcons (zx_142 v0) znil)))))))))
theorem zd_48 (v0 : Value) : zchk prog_5_method_10_code (zk_48 ) = true := by decide +kernel
set_option maxRecDepth 100000 in
theorem zr_49 (v0 : Value) : ∀ q ∈ zk_49 , zrq (zt v0) "FigureCaller$Reader" false ((Option.some Jvm.ClassFile.FieldType.boolean)) 6 130 q := zr_of (zcons (zx_203 v0) (zcons (zx_234 v0) (zcons (zx_235 v0) (zcons (zx_237 v0 (by decide) (by decide)) (zcons (zx_239 v0 (by decide) (by decide)) (zcons (zx_241 v0 (by decide) (by decide)) (zcons (zx_142 v0) znil)))))))
theorem zd_49 (v0 : Value) : zchk prog_5_method_6_code (zk_49 ) = true := by decide +kernel
set_option maxRecDepth 100000 in
theorem zr_50 (v0 : Value) : ∀ q ∈ zk_50 , zrq (zt v0) "FigureCaller$Reader" false ((Option.some Jvm.ClassFile.FieldType.boolean)) 2 43 q := zr_of (zcons (zx_243 v0 (by decide) (by decide)) (zcons (zx_218 v0) (zcons (zx_142 v0) (zcons (zx_244 v0) (zcons (zx_218 v0) (zcons (zx_210 v0) (zcons (zx_245 v0) (zcons (zx_218 v0) (zcons (zx_246 v0) (zcons (zx_142 v0) znil))))))))))
theorem zd_50 (v0 : Value) : zchk prog_5_method_8_code (zk_50 ) = true := by decide +kernel
set_option maxRecDepth 100000 in
theorem zr_51 (v0 : Value) : ∀ q ∈ zk_51 , zrq (zt v0) "FigureCaller$Book" false ((Option.none : Option Jvm.ClassFile.FieldType)) 0 0 q := zr_of (zcons (zx_247 v0) (zcons (zx_248 v0) (zcons (zx_183 v0) (zcons (zx_248 v0) (zcons (zx_247 v0) (zcons (zx_249 v0) (zcons (zx_247 v0) (zcons (zx_247 v0) (zcons (zx_24 v0) (zcons (⟨trivial, trivial, trivial, rfl, trivial⟩) znil))))))))))
theorem zd_51 (v0 : Value) : zchk prog_2_method_7_code (zk_51 ) = true := by decide +kernel
set_option maxRecDepth 100000 in
theorem zr_52 (v0 : Value) : ∀ q ∈ zk_52 , zrq (zt v0) "FigureCaller$Reader" false ((Option.some Jvm.ClassFile.FieldType.boolean)) 5 110 q := zr_of (zcons (zx_200 v0) (zcons (zx_201 v0) (zcons (zx_200 v0) (zcons (zx_209 v0) (zcons (zx_208 v0 (by decide) (by decide)) (zcons (zx_142 v0) (zcons (zx_203 v0) (zcons (zx_233 v0) (zcons (zx_251 v0 (by decide) (by decide)) (zcons (zx_212 v0) (zcons (zx_142 v0) znil)))))))))))
theorem zd_52 (v0 : Value) : zchk prog_5_method_11_code (zk_52 ) = true := by decide +kernel
set_option maxRecDepth 100000 in
theorem zr_53 (v0 : Value) : ∀ q ∈ zk_53 , zrq (zt v0) "FigureCaller$Figure" false ((Option.none : Option Jvm.ClassFile.FieldType)) 1 23 q := zr_of (zcons (zx_225 v0 (by decide) (by decide)) (zcons (⟨trivial, trivial, trivial, rfl, trivial⟩) znil))
theorem zd_53 (v0 : Value) : zchk prog_4_method_3_code (zk_53 ) = true := by decide +kernel
set_option maxRecDepth 100000 in
theorem zr_54 (v0 : Value) : ∀ q ∈ zk_54 , zrq (zt v0) "FigureCaller$Figure" false ((Option.none : Option Jvm.ClassFile.FieldType)) 1 23 q := zr_of (zcons (zx_220 v0) (zcons (zx_221 v0) (zcons (zx_222 v0) (zcons (zx_223 v0) (zcons (zx_223 v0) (zcons (zx_225 v0 (by decide) (by decide)) (zcons (⟨trivial, trivial, trivial, rfl, trivial⟩) znil)))))))
theorem zd_54 (v0 : Value) : zchk prog_4_method_5_code (zk_54 ) = true := by decide +kernel
set_option maxRecDepth 100000 in
theorem zr_55 (v0 : Value) : ∀ q ∈ zk_55 , zrq (zt v0) "FigureCaller$Reader" false ((Option.some Jvm.ClassFile.FieldType.boolean)) 2 49 q := zr_of (zcons (zx_243 v0 (by decide) (by decide)) (zcons (zx_142 v0) (zcons (zx_218 v0) (zcons (zx_243 v0 (by decide) (by decide)) (zcons (zx_142 v0) (zcons (zx_218 v0) (zcons (zx_246 v0) (zcons (zx_210 v0) (zcons (zx_244 v0) (zcons (zx_218 v0) (zcons (zx_219 v0) (zcons (zx_218 v0) (zcons (zx_253 v0 (by decide) (by decide)) (zcons (zx_142 v0) znil))))))))))))))
theorem zd_55 (v0 : Value) : zchk prog_5_method_13_code (zk_55 ) = true := by decide +kernel
set_option maxRecDepth 100000 in
theorem zr_56 (v0 : Value) : ∀ q ∈ zk_56 , zrq (zt v0) "FigureCaller$Reader" false ((Option.some Jvm.ClassFile.FieldType.boolean)) 3 69 q := zr_of (zcons (zx_210 v0) (zcons (zx_254 v0) (zcons (zx_203 v0) (zcons (zx_234 v0) (zcons (zx_256 v0 (by decide) (by decide)) (zcons (zx_258 v0 (by decide) (by decide)) (zcons (zx_142 v0) znil)))))))
theorem zd_56 (v0 : Value) : zchk prog_5_method_12_code (zk_56 ) = true := by decide +kernel
set_option maxRecDepth 100000 in
theorem zr_57 (v0 : Value) : ∀ q ∈ zk_57 , zrq (zt v0) "FigureCaller$Reader" false ((Option.some Jvm.ClassFile.FieldType.boolean)) 7 150 q := zr_of (zcons (zx_259 v0) (zcons (zx_261 v0 (by decide) (by decide)) (zcons (zx_142 v0) (zcons (zx_243 v0 (by decide) (by decide)) (zcons (zx_142 v0) (zcons (zx_263 v0 (by decide) (by decide)) (zcons (zx_142 v0) (zcons (zx_265 v0 (by decide) (by decide)) (zcons (zx_142 v0) (zcons (zx_241 v0 (by decide) (by decide)) (zcons (zx_142 v0) (zcons (zx_267 v0 (by decide) (by decide)) (zcons (zx_142 v0) (zcons (zx_243 v0 (by decide) (by decide)) (zcons (zx_269 v0 (by decide) (by decide)) (zcons (zx_142 v0) (zcons (zx_258 v0 (by decide) (by decide)) (zcons (zx_142 v0) znil))))))))))))))))))
theorem zd_57 (v0 : Value) : zchk prog_5_method_3_code (zk_57 ) = true := by decide +kernel
set_option maxRecDepth 100000 in
theorem zr_58 (v0 : Value) : ∀ q ∈ zk_58 , zrq (zt v0) "FigureCaller$Reader" false ((Option.some Jvm.ClassFile.FieldType.boolean)) 2 45 q := zr_of (zcons (zx_259 v0) (zcons (zx_210 v0) (zcons (zx_254 v0) (zcons (zx_203 v0) (zcons (zx_234 v0) (zcons (zx_256 v0 (by decide) (by decide)) (zcons (zx_212 v0) (zcons (zx_259 v0) (zcons (zx_218 v0) (zcons (zx_142 v0) znil))))))))))
theorem zd_58 (v0 : Value) : zchk prog_5_method_14_code (zk_58 ) = true := by decide +kernel
set_option maxRecDepth 100000 in
theorem zr_59 (v0 : Value) : ∀ q ∈ zk_59 , zrq (zt v0) "FigureCaller$Figure" false ((Option.some Jvm.ClassFile.FieldType.boolean)) 0 0 q := zr_of (zcons (zx_220 v0) (zcons (zx_226 v0) (zcons (zx_142 v0) znil)))
theorem zd_59 (v0 : Value) : zchk prog_4_method_6_code (zk_59 ) = true := by decide +kernel
set_option maxRecDepth 100000 in
theorem zr_60 (v0 : Value) : ∀ q ∈ zk_60 , zrq (zt v0) "FigureCaller$Reader" false ((Option.some Jvm.ClassFile.FieldType.int)) 8 170 q := zr_of (zcons (zx_203 v0) (zcons (zx_39 v0 (by decide) (by decide)) (zcons (zx_40 v0) (zcons (zx_200 v0) (zcons (zx_271 v0 (by decide) (by decide)) (zcons (zx_246 v0) (zcons (zx_212 v0) (zcons (zx_200 v0) (zcons (zx_273 v0 (by decide) (by decide)) (zcons (zx_200 v0) (zcons (zx_201 v0) (zcons (zx_275 v0 (by decide) (by decide)) (zcons (zx_200 v0) (zcons (zx_276 v0) (zcons (zx_100 v0) (zcons (zx_278 v0 (by decide) (by decide)) (zcons (zx_210 v0) (zcons (zx_280 v0 (by decide) (by decide)) (zcons (zx_281 v0) (zcons (zx_282 v0) (zcons (zx_100 v0) znil)))))))))))))))))))))
theorem zd_60 (v0 : Value) : zchk prog_5_method_2_code (zk_60 ) = true := by decide +kernel
set_option maxRecDepth 100000 in
theorem zr_61 (v0 : Value) : ∀ q ∈ zk_61 , zrq (zt v0) "FigureCaller$Book" false ((Option.some Jvm.ClassFile.FieldType.boolean)) 0 0 q := zr_of (zcons (zx_25 v0) (zcons (zx_142 v0) znil))
theorem zd_61 (v0 : Value) : zchk prog_2_method_3_code (zk_61 ) = true := by decide +kernel
set_option maxRecDepth 100000 in
theorem zr_62 (v0 : Value) : ∀ q ∈ zk_62 , zrq (zt v0) "FigureCaller$Figure" false ((Option.none : Option Jvm.ClassFile.FieldType)) 0 0 q := zr_of (zcons (zx_220 v0) (zcons (zx_223 v0) (zcons (zx_223 v0) (zcons (⟨trivial, trivial, trivial, rfl, trivial⟩) znil))))
theorem zd_62 (v0 : Value) : zchk prog_4_method_7_code (zk_62 ) = true := by decide +kernel
set_option maxRecDepth 100000 in
theorem zr_63 (v0 : Value) : ∀ q ∈ zk_63 , zrq (zt v0) "FigureCaller$Book" false ((Option.some Jvm.ClassFile.FieldType.int)) 1 21 q := zr_of (zcons (zx_13 v0) (zcons (zx_25 v0) (zcons (zx_26 v0) (zcons (zx_284 v0 (by decide) (by decide)) (zcons (zx_247 v0) (zcons (zx_285 v0) (zcons (zx_25 v0) (zcons (zx_286 v0) (zcons (zx_25 v0) (zcons (zx_100 v0) znil))))))))))
theorem zd_63 (v0 : Value) : zchk prog_2_method_8_code (zk_63 ) = true := by decide +kernel
set_option maxRecDepth 100000 in
theorem zr_64 (v0 : Value) : ∀ q ∈ zk_64 , zrq (zt v0) "FigureCaller" false ((Option.some Jvm.ClassFile.FieldType.int)) 9 191 q := zr_of (zcons (zx_287 v0) (zcons (zx_289 v0 (by decide) (by decide)) (zcons (zx_96 v0) (zcons (zx_290 v0) (zcons (⟨trivial, Or.inl (by decide), trivial, trivial, trivial⟩) (zcons (zx_291 v0) (zcons (⟨trivial, trivial, trivial, trivial, fun h => absurd h (by decide), fun h => absurd h (by decide)⟩) (zcons (zx_72 v0) (zcons (zx_293 v0 (by decide) (by decide)) (zcons (⟨trivial, Or.inl (by decide), trivial, trivial, trivial⟩) (zcons (zx_294 v0) (zcons (⟨trivial, trivial, trivial, trivial, fun h => absurd h (by decide), fun h => absurd h (by decide)⟩) (zcons (zx_71 v0) (zcons (zx_156 v0 (by decide) (by decide)) (zcons (zx_72 v0) (zcons (zx_296 v0 (by decide) (by decide)) (zcons (zx_100 v0) znil)))))))))))))))))
theorem zd_64 (v0 : Value) : zchk prog_1_method_4_code (zk_64 ) = true := by decide +kernel
set_option maxRecDepth 100000 in
theorem zr_65 (v0 : Value) : ∀ q ∈ zk_65 , zrq (zt v0) "FigureCallerLaw" false ((Option.some Jvm.ClassFile.FieldType.int)) 10 211 q := zr_of (zcons (zx_298 v0 (by decide) (by decide)) (zcons (zx_100 v0) (zcons (zx_100 v0) (zcons (zx_100 v0) znil))))
theorem zd_65 (v0 : Value) : zchk method_3_code (zk_65 ) = true := by decide +kernel
set_option maxRecDepth 100000 in
theorem zr_66 (v0 : Value) : ∀ q ∈ zk_66 , zrq (zt v0) "FigureCallerModel" false ((Option.some Jvm.ClassFile.FieldType.char)) 0 0 q := zr_of (zcons (zx_152 v0) (zcons (zx_153 v0) (zcons (zx_191 v0) znil)))
theorem zd_66 (v0 : Value) : zchk prog_13_method_8_code (zk_66 ) = true := by decide +kernel
set_option maxRecDepth 100000 in
theorem zr_67 (v0 : Value) : ∀ q ∈ zk_67 , zrq (zt v0) "FigureCallerModel" false ((Option.some Jvm.ClassFile.FieldType.boolean)) 0 0 q := zr_of (zcons (zx_142 v0) znil)
theorem zd_67 (v0 : Value) : zchk prog_13_method_9_code (zk_67 ) = true := by decide +kernel
set_option maxRecDepth 100000 in
theorem zr_68 (v0 : Value) : ∀ q ∈ zk_68 , zrq (zt v0) "FigureCallerModel" false ((Option.some Jvm.ClassFile.FieldType.boolean)) 0 0 q := zr_of (zcons (zx_142 v0) znil)
theorem zd_68 (v0 : Value) : zchk prog_13_method_10_code (zk_68 ) = true := by decide +kernel
set_option maxRecDepth 100000 in
theorem zr_69 (v0 : Value) : ∀ q ∈ zk_69 , zrq (zt v0) "FigureCallerModel" false ((Option.none : Option Jvm.ClassFile.FieldType)) 1 21 q := zr_of (zcons (zx_299 v0) (zcons (zx_300 v0) (zcons (zx_301 v0) (zcons (zx_303 v0 (by decide) (by decide)) (zcons (zx_301 v0) (zcons (zx_300 v0) (zcons (zx_301 v0) (zcons (zx_304 v0) (zcons (zx_301 v0) (zcons (zx_303 v0 (by decide) (by decide)) (zcons (zx_301 v0) (zcons (zx_152 v0) (zcons (zx_305 v0) (zcons (zx_307 v0 (by decide) (by decide)) (zcons (zx_305 v0) (zcons (zx_308 v0) (zcons (zx_299 v0) (zcons (zx_303 v0 (by decide) (by decide)) (zcons (zx_307 v0 (by decide) (by decide)) (zcons (zx_299 v0) (zcons (zx_301 v0) (zcons (zx_309 v0) (zcons (zx_309 v0) (zcons (zx_299 v0) (zcons (zx_303 v0 (by decide) (by decide)) (zcons (zx_299 v0) (zcons (zx_301 v0) (zcons (zx_310 v0) (zcons (zx_308 v0) (zcons (zx_299 v0) (zcons (zx_304 v0) (zcons (zx_312 v0 (by decide) (by decide)) (zcons (zx_305 v0) (zcons (zx_299 v0) (zcons (zx_303 v0 (by decide) (by decide)) (zcons (zx_312 v0 (by decide) (by decide)) (zcons (zx_299 v0) (zcons (zx_304 v0) (zcons (zx_299 v0) (zcons (zx_301 v0) (zcons (zx_313 v0) (zcons (zx_305 v0) (zcons (zx_299 v0) (zcons (zx_304 v0) (zcons (⟨trivial, trivial, trivial, rfl, trivial⟩) znil)))))))))))))))))))))))))))))))))))))))))))))
theorem zd_69 (v0 : Value) : zchk prog_13_method_11_code (zk_69 ) = true := by decide +kernel
set_option maxRecDepth 100000 in
theorem zr_70 (v0 : Value) : ∀ q ∈ zk_70 , zrq (zt v0) "FigureCallerModel" false ((Option.some Jvm.ClassFile.FieldType.long)) 0 0 q := zr_of (zcons (zx_314 v0) (zcons (⟨trivial, trivial, trivial, rfl, trivial⟩) (zcons (zx_315 v0) (zcons (⟨trivial, trivial, trivial, rfl, trivial⟩) (zcons (zx_316 v0) (zcons (⟨trivial, trivial, trivial, rfl, trivial⟩) (zcons (zx_317 v0) (zcons (⟨trivial, trivial, trivial, rfl, trivial⟩) (zcons (zx_318 v0) (zcons (⟨trivial, trivial, trivial, rfl, trivial⟩) (zcons (zx_319 v0) (zcons (⟨trivial, trivial, trivial, rfl, trivial⟩) (zcons (zx_320 v0) (zcons (⟨trivial, trivial, trivial, rfl, trivial⟩) (zcons (zx_321 v0) (zcons (⟨trivial, trivial, trivial, rfl, trivial⟩) (zcons (zx_322 v0) (zcons (⟨trivial, trivial, trivial, rfl, trivial⟩) (zcons (zx_323 v0) (zcons (⟨trivial, trivial, trivial, rfl, trivial⟩) (zcons (zx_324 v0) (zcons (⟨trivial, trivial, trivial, rfl, trivial⟩) (zcons (zx_325 v0) (zcons (⟨trivial, trivial, trivial, rfl, trivial⟩) (zcons (zx_326 v0) (zcons (⟨trivial, trivial, trivial, rfl, trivial⟩) (zcons (⟨trivial, trivial, trivial, rfl, trivial⟩) znil)))))))))))))))))))))))))))
theorem zd_70 (v0 : Value) : zchk prog_13_method_13_code (zk_70 ) = true := by decide +kernel
set_option maxRecDepth 100000 in
theorem zr_71 (v0 : Value) : ∀ q ∈ zk_71 , zrq (zt v0) "FigureCallerModel" false ((Option.some Jvm.ClassFile.FieldType.int)) 1 20 q := zr_of (zcons (zx_327 v0) (zcons (zx_309 v0) (zcons (zx_329 v0 (by decide) (by decide)) (zcons (zx_100 v0) znil))))
theorem zd_71 (v0 : Value) : zchk prog_13_method_15_code (zk_71 ) = true := by decide +kernel
set_option maxRecDepth 100000 in
theorem zr_72 (v0 : Value) : ∀ q ∈ zk_72 , zrq (zt v0) "FigureCallerModel" false ((Option.some Jvm.ClassFile.FieldType.long)) 0 0 q := zr_of (zcons (zx_330 v0) (zcons (⟨trivial, trivial, trivial, rfl, trivial⟩) (zcons (zx_331 v0) (zcons (⟨trivial, trivial, trivial, rfl, trivial⟩) (zcons (zx_332 v0) (zcons (⟨trivial, trivial, trivial, rfl, trivial⟩) (zcons (zx_333 v0) (zcons (⟨trivial, trivial, trivial, rfl, trivial⟩) (zcons (zx_334 v0) (zcons (⟨trivial, trivial, trivial, rfl, trivial⟩) (zcons (zx_335 v0) (zcons (⟨trivial, trivial, trivial, rfl, trivial⟩) (zcons (zx_336 v0) (zcons (⟨trivial, trivial, trivial, rfl, trivial⟩) (zcons (⟨trivial, trivial, trivial, rfl, trivial⟩) znil)))))))))))))))
theorem zd_72 (v0 : Value) : zchk prog_13_method_14_code (zk_72 ) = true := by decide +kernel
set_option maxRecDepth 100000 in
theorem zr_73 (v0 : Value) : ∀ q ∈ zk_73 , zrq (zt v0) "FigureCallerModel" false ((Option.some Jvm.ClassFile.FieldType.int)) 1 20 q := zr_of (zcons (zx_327 v0) (zcons (zx_309 v0) (zcons (zx_338 v0 (by decide) (by decide)) (zcons (zx_100 v0) znil))))
theorem zd_73 (v0 : Value) : zchk prog_13_method_16_code (zk_73 ) = true := by decide +kernel
set_option maxRecDepth 100000 in
theorem zr_74 (v0 : Value) : ∀ q ∈ zk_74 , zrq (zt v0) "FigureCallerModel" false ((Option.some Jvm.ClassFile.FieldType.int)) 0 0 q := zr_of (zcons (zx_339 v0) (zcons (zx_327 v0) (zcons (zx_309 v0) (zcons (zx_340 v0) (zcons (zx_100 v0) znil)))))
theorem zd_74 (v0 : Value) : zchk prog_13_method_17_code (zk_74 ) = true := by decide +kernel
set_option maxRecDepth 100000 in
theorem zr_75 (v0 : Value) : ∀ q ∈ zk_75 , zrq (zt v0) "FigureCallerModel" false ((Option.some Jvm.ClassFile.FieldType.boolean)) 2 42 q := zr_of (zcons (zx_327 v0) (zcons (zx_153 v0) (zcons (zx_301 v0) (zcons (zx_342 v0 (by decide) (by decide)) (zcons (zx_142 v0) znil)))))
theorem zd_75 (v0 : Value) : zchk prog_13_method_12_code (zk_75 ) = true := by decide +kernel
set_option maxRecDepth 100000 in
theorem zr_76 (v0 : Value) : ∀ q ∈ zk_76 , zrq (zt v0) "FigureCallerModel" false ((Option.none : Option Jvm.ClassFile.FieldType)) 0 0 q := zr_of (zcons (zx_343 v0) (zcons (zx_344 v0) (zcons (zx_343 v0) (zcons (zx_345 v0) (zcons (zx_343 v0) (zcons (zx_346 v0) (zcons (zx_343 v0) (zcons (zx_343 v0) (zcons (⟨trivial, trivial, trivial, rfl, trivial⟩) znil)))))))))
theorem zd_76 (v0 : Value) : zchk prog_13_method_18_code (zk_76 ) = true := by decide +kernel
set_option maxRecDepth 100000 in
theorem zr_77 (v0 : Value) : ∀ q ∈ zk_77 , zrq (zt v0) "FigureCallerModel" false ((Option.some Jvm.ClassFile.FieldType.boolean)) 3 64 q := zr_of (zcons (zx_347 v0) (zcons (zx_349 v0 (by decide) (by decide)) (zcons (zx_142 v0) (zcons (zx_342 v0 (by decide) (by decide)) (zcons (zx_351 v0 (by decide) (by decide)) (zcons (zx_142 v0) (zcons (zx_342 v0 (by decide) (by decide)) (zcons (zx_352 v0) (zcons (zx_347 v0) (zcons (zx_353 v0) (zcons (zx_347 v0) (zcons (zx_347 v0) (zcons (zx_354 v0) (zcons (zx_356 v0 (by decide) (by decide)) (zcons (zx_347 v0) (zcons (zx_358 v0 (by decide) (by decide)) (zcons (zx_142 v0) znil)))))))))))))))))
theorem zd_77 (v0 : Value) : zchk prog_13_method_19_code (zk_77 ) = true := by decide +kernel
set_option maxRecDepth 100000 in
theorem zr_78 (v0 : Value) : ∀ q ∈ zk_78 , zrq (zt v0) "FigureCallerModel" false ((Option.none : Option Jvm.ClassFile.FieldType)) 2 42 q := zr_of (zcons (zx_343 v0) (zcons (zx_343 v0) (zcons (zx_344 v0) (zcons (zx_345 v0) (zcons (zx_346 v0) (zcons (zx_358 v0 (by decide) (by decide)) (zcons (zx_359 v0) (zcons (zx_359 v0) (zcons (zx_359 v0) (zcons (zx_359 v0) (zcons (zx_359 v0) (zcons (zx_342 v0 (by decide) (by decide)) (zcons (⟨trivial, trivial, trivial, rfl, trivial⟩) znil)))))))))))))
theorem zd_78 (v0 : Value) : zchk prog_13_method_20_code (zk_78 ) = true := by decide +kernel
set_option maxRecDepth 100000 in
theorem zr_79 (v0 : Value) : ∀ q ∈ zk_79 , zrq (zt v0) "FigureCallerModel" false ((Option.some Jvm.ClassFile.FieldType.boolean)) 4 88 q := zr_of (zcons (zx_361 v0 (by decide) (by decide)) (zcons (zx_349 v0 (by decide) (by decide)) (zcons (zx_363 v0 (by decide) (by decide)) (zcons (zx_142 v0) (zcons (zx_365 v0 (by decide) (by decide)) (zcons (zx_142 v0) (zcons (zx_327 v0) (zcons (zx_366 v0) (zcons (zx_366 v0) (zcons (zx_367 v0) (zcons (zx_142 v0) (zcons (zx_368 v0) (zcons (zx_367 v0) (zcons (zx_366 v0) (zcons (zx_342 v0 (by decide) (by decide)) (zcons (zx_356 v0 (by decide) (by decide)) (zcons (zx_142 v0) (zcons (zx_369 v0) (zcons (zx_367 v0) (zcons (zx_343 v0) (zcons (zx_367 v0) (zcons (zx_370 v0) (zcons (zx_142 v0) znil)))))))))))))))))))))))
theorem zd_79 (v0 : Value) : zchk prog_13_method_21_code (zk_79 ) = true := by decide +kernel
set_option maxRecDepth 100000 in
theorem zr_80 (v0 : Value) : ∀ q ∈ zk_80 , zrq (zt v0) "FigureCallerModel" false ((Option.none : Option Jvm.ClassFile.FieldType)) 1 23 q := zr_of (zcons (zx_367 v0) (zcons (zx_370 v0) (zcons (zx_369 v0) (zcons (zx_367 v0) (zcons (zx_343 v0) (zcons (zx_368 v0) (zcons (zx_367 v0) (zcons (zx_344 v0) (zcons (zx_344 v0) (zcons (zx_345 v0) (zcons (zx_346 v0) (zcons (zx_358 v0 (by decide) (by decide)) (zcons (⟨trivial, trivial, trivial, rfl, trivial⟩) znil)))))))))))))
theorem zd_80 (v0 : Value) : zchk prog_13_method_22_code (zk_80 ) = true := by decide +kernel
set_option maxRecDepth 100000 in
theorem zr_81 (v0 : Value) : ∀ q ∈ zk_81 , zrq (zt v0) "FigureCallerModel" false ((Option.some Jvm.ClassFile.FieldType.int)) 5 109 q := zr_of (zcons (zx_304 v0) (zcons (zx_370 v0) (zcons (zx_343 v0) (zcons (zx_359 v0) (zcons (zx_342 v0 (by decide) (by decide)) (zcons (zx_327 v0) (zcons (zx_309 v0) (zcons (zx_349 v0 (by decide) (by decide)) (zcons (zx_351 v0 (by decide) (by decide)) (zcons (zx_361 v0 (by decide) (by decide)) (zcons (zx_340 v0) (zcons (zx_309 v0) (zcons (zx_327 v0) (zcons (zx_152 v0) (zcons (zx_301 v0) (zcons (zx_100 v0) (zcons (zx_342 v0 (by decide) (by decide)) (zcons (zx_356 v0 (by decide) (by decide)) (zcons (zx_327 v0) (zcons (zx_152 v0) (zcons (zx_301 v0) (zcons (zx_100 v0) (zcons (zx_367 v0) (zcons (zx_372 v0 (by decide) (by decide)) (zcons (zx_327 v0) (zcons (zx_152 v0) (zcons (zx_301 v0) (zcons (zx_100 v0) (zcons (zx_367 v0) (zcons (zx_367 v0) (zcons (zx_356 v0 (by decide) (by decide)) (zcons (zx_374 v0 (by decide) (by decide)) (zcons (zx_356 v0 (by decide) (by decide)) (zcons (zx_327 v0) (zcons (zx_367 v0) (zcons (zx_327 v0) (zcons (zx_152 v0) (zcons (zx_301 v0) (zcons (zx_100 v0) (zcons (zx_343 v0) (zcons (zx_359 v0) (zcons (zx_152 v0) (zcons (zx_100 v0) znil)))))))))))))))))))))))))))))))))))))))))))
theorem zd_81 (v0 : Value) : zchk prog_13_method_23_code (zk_81 ) = true := by decide +kernel
set_option maxRecDepth 100000 in
theorem zr_82 (v0 : Value) : ∀ q ∈ zk_82 , zrq (zt v0) "FigureCallerModel" false ((Option.some Jvm.ClassFile.FieldType.int)) 6 132 q := zr_of (zcons (zx_347 v0) (zcons (zx_376 v0 (by decide) (by decide)) (zcons (zx_103 v0) (zcons (zx_377 v0) (zcons (zx_339 v0) (zcons (zx_150 v0) (zcons (zx_378 v0) (zcons (zx_354 v0) (zcons (zx_100 v0) (zcons (zx_340 v0) (zcons (zx_339 v0) (zcons (zx_340 v0) (zcons (zx_343 v0) (zcons (zx_339 v0) (zcons (zx_343 v0) (zcons (zx_359 v0) (zcons (zx_339 v0) (zcons (zx_359 v0) (zcons (zx_343 v0) (zcons (zx_339 v0) (zcons (zx_344 v0) (zcons (zx_344 v0) (zcons (zx_344 v0) (zcons (zx_345 v0) (zcons (zx_345 v0) (zcons (zx_346 v0) (zcons (zx_346 v0) (zcons (zx_339 v0) (zcons (zx_379 v0) (zcons (zx_154 v0) (zcons (zx_339 v0) (zcons (zx_100 v0) znil))))))))))))))))))))))))))))))))
theorem zd_82 (v0 : Value) : zchk prog_13_method_24_code (zk_82 ) = true := by decide +kernel
set_option maxRecDepth 100000 in
theorem zr_83 (v0 : Value) : ∀ q ∈ zk_83 , zrq (zt v0) "FigureCaller" false ((Option.some Jvm.ClassFile.FieldType.int)) 0 0 q := zr_of (zcons (zx_290 v0) (zcons (zx_100 v0) znil))
theorem zd_83 (v0 : Value) : zchk prog_1_method_5_code (zk_83 ) = true := by decide +kernel
set_option maxRecDepth 100000 in
theorem zr_84 (v0 : Value) : ∀ q ∈ zk_84 , zrq (zt v0) "FigureCallerModel" false ((Option.some Jvm.ClassFile.FieldType.int)) 0 0 q := zr_of (zcons (zx_150 v0) (zcons (zx_377 v0) (zcons (zx_100 v0) znil)))
theorem zd_84 (v0 : Value) : zchk prog_13_method_25_code (zk_84 ) = true := by decide +kernel
set_option maxRecDepth 100000 in
theorem zr_85 (v0 : Value) : ∀ q ∈ zk_85 , zrq (zt v0) "FigureCaller$Book" false ((Option.some Jvm.ClassFile.FieldType.boolean)) 0 0 q := zr_of (zcons (zx_25 v0) (zcons (zx_142 v0) znil))
theorem zd_85 (v0 : Value) : zchk prog_2_method_2_code (zk_85 ) = true := by decide +kernel
set_option maxRecDepth 100000 in
theorem zr_86 (v0 : Value) : ∀ q ∈ zk_86 , zrq (zt v0) "FigureCaller" false ((Option.none : Option Jvm.ClassFile.FieldType)) 6 90 q := zr_of (zcons (zx_72 v0) (zcons (zx_381 v0 (by decide) (by decide)) (zcons (⟨trivial, Or.inl (by decide), trivial, trivial, trivial⟩) (zcons (zx_382 v0) (zcons (⟨trivial, trivial, trivial, trivial, fun h => absurd h (by decide), fun h => absurd h (by decide)⟩) (zcons (⟨trivial, trivial, trivial, rfl, trivial⟩) znil))))))
theorem zd_86 (v0 : Value) : zchk prog_1_method_21_code (zk_86 ) = true := by decide +kernel
set_option maxRecDepth 100000 in
theorem zr_87 (v0 : Value) : ∀ q ∈ zk_87 , zrq (zt v0) "FigureCaller" false ((Option.some Jvm.ClassFile.FieldType.int)) 7 111 q := zr_of (zcons (zx_384 v0 (by decide) (by decide)) (zcons (zx_72 v0) (zcons (zx_385 v0 (by decide) (by decide)) (zcons (zx_386 v0) (zcons (zx_100 v0) znil)))))
theorem zd_87 (v0 : Value) : zchk prog_1_method_6_code (zk_87 ) = true := by decide +kernel
set_option maxRecDepth 100000 in
theorem zr_88 (v0 : Value) : ∀ q ∈ zk_88 , zrq (zt v0) "FigureCallerLaw" false ((Option.some Jvm.ClassFile.FieldType.int)) 8 132 q := zr_of (zcons (zx_388 v0 (by decide) (by decide)) (zcons (zx_100 v0) (zcons (zx_100 v0) znil)))
theorem zd_88 (v0 : Value) : zchk method_4_code (zk_88 ) = true := by decide +kernel
set_option maxRecDepth 100000 in
theorem zr_89 (v0 : Value) : ∀ q ∈ zk_89 , zrq (zt v0) "FigureCallerModel" false ((Option.some Jvm.ClassFile.FieldType.boolean)) 0 0 q := zr_of (zcons (zx_339 v0) (zcons (zx_142 v0) znil))
theorem zd_89 (v0 : Value) : zchk prog_13_method_26_code (zk_89 ) = true := by decide +kernel
set_option maxRecDepth 100000 in
theorem zr_90 (v0 : Value) : ∀ q ∈ zk_90 , zrq (zt v0) "FigureCallerModel" false ((Option.some Jvm.ClassFile.FieldType.int)) 1 21 q := zr_of (zcons (zx_390 v0 (by decide) (by decide)) (zcons (zx_150 v0) (zcons (zx_378 v0) (zcons (zx_343 v0) (zcons (zx_100 v0) znil)))))
theorem zd_90 (v0 : Value) : zchk prog_13_method_27_code (zk_90 ) = true := by decide +kernel
set_option maxRecDepth 100000 in
theorem zr_91 (v0 : Value) : ∀ q ∈ zk_91 , zrq (zt v0) "FigureCaller$Track" false ((Option.none : Option Jvm.ClassFile.FieldType)) 1 60 q := zr_of (zcons (zx_391 v0) (zcons (zx_392 v0 (by decide) (by decide)) (zcons (zx_393 v0) (zcons (⟨trivial, trivial, trivial, rfl, trivial⟩) znil))))
theorem zd_91 (v0 : Value) : zchk prog_10_method_2_code (zk_91 ) = true := by decide +kernel
set_option maxRecDepth 100000 in
theorem zr_92 (v0 : Value) : ∀ q ∈ zk_92 , zrq (zt v0) "FigureCaller$Selection" false ((Option.none : Option Jvm.ClassFile.FieldType)) 0 0 q := zr_of (zcons (zx_394 v0) (zcons (⟨trivial, trivial, trivial, rfl, trivial⟩) znil))
theorem zd_92 (v0 : Value) : zchk prog_6_method_5_code (zk_92 ) = true := by decide +kernel
set_option maxRecDepth 100000 in
theorem zr_93 (v0 : Value) : ∀ q ∈ zk_93 , zrq (zt v0) "FigureCaller$Selection" false ((Option.some Jvm.ClassFile.FieldType.int)) 1 28 q := zr_of (zcons (zx_396 v0 (by decide) (by decide)) (zcons (zx_394 v0) (zcons (zx_394 v0) (zcons (zx_100 v0) znil))))
theorem zd_93 (v0 : Value) : zchk prog_6_method_4_code (zk_93 ) = true := by decide +kernel
set_option maxRecDepth 100000 in
theorem zr_94 (v0 : Value) : ∀ q ∈ zk_94 , zrq (zt v0) "FigureCaller$Selection" false ((Option.some Jvm.ClassFile.FieldType.boolean)) 0 0 q := zr_of (zcons (zx_142 v0) (zcons (zx_142 v0) (zcons (zx_142 v0) (zcons (zx_142 v0) znil))))
theorem zd_94 (v0 : Value) : zchk prog_6_method_7_code (zk_94 ) = true := by decide +kernel
set_option maxRecDepth 100000 in
theorem zr_95 (v0 : Value) : ∀ q ∈ zk_95 , zrq (zt v0) "FigureCaller$Selection" false ((Option.some Jvm.ClassFile.FieldType.int)) 1 24 q := zr_of (zcons (zx_398 v0 (by decide) (by decide)) (zcons (zx_100 v0) znil))
theorem zd_95 (v0 : Value) : zchk prog_6_method_6_code (zk_95 ) = true := by decide +kernel
set_option maxRecDepth 100000 in
theorem zr_96 (v0 : Value) : ∀ q ∈ zk_96 , zrq (zt v0) "FigureCaller$Selection" false ((Option.some Jvm.ClassFile.FieldType.int)) 0 0 q := zr_of (zcons (zx_100 v0) znil)
theorem zd_96 (v0 : Value) : zchk prog_6_method_3_code (zk_96 ) = true := by decide +kernel
set_option maxRecDepth 100000 in
theorem zr_97 (v0 : Value) : ∀ q ∈ zk_97 , zrq (zt v0) "FigureCaller$Selection" false ((Option.some Jvm.ClassFile.FieldType.int)) 2 54 q := zr_of (zcons (zx_100 v0) (zcons (zx_100 v0) (zcons (zx_100 v0) (zcons (zx_100 v0) (zcons (zx_100 v0) (zcons (zx_400 v0 (by decide) (by decide)) (zcons (zx_100 v0) (zcons (zx_400 v0 (by decide) (by decide)) (zcons (zx_100 v0) (zcons (zx_402 v0 (by decide) (by decide)) (zcons (zx_100 v0) (zcons (zx_402 v0 (by decide) (by decide)) (zcons (zx_100 v0) (zcons (zx_404 v0 (by decide) (by decide)) (zcons (zx_100 v0) znil)))))))))))))))
theorem zd_97 (v0 : Value) : zchk prog_6_method_2_code (zk_97 ) = true := by decide +kernel
set_option maxRecDepth 100000 in
theorem zr_98 (v0 : Value) : ∀ q ∈ zk_98 , zrq (zt v0) "FigureCaller$Dancing" false ((Option.none : Option Jvm.ClassFile.FieldType)) 3 77 q := zr_of (zcons (zx_405 v0) (zcons (zx_406 v0) (zcons (zx_407 v0) (zcons (zx_408 v0) (zcons (zx_409 v0) (zcons (zx_410 v0) (zcons (zx_411 v0) (zcons (zx_413 v0 (by decide) (by decide)) (zcons (zx_405 v0) (zcons (zx_409 v0) (zcons (zx_414 v0) (zcons (⟨trivial, trivial, trivial, rfl, trivial⟩) znil))))))))))))
theorem zd_98 (v0 : Value) : zchk prog_3_method_3_code (zk_98 ) = true := by decide +kernel
set_option maxRecDepth 100000 in
theorem zr_99 (v0 : Value) : ∀ q ∈ zk_99 , zrq (zt v0) "FigureCaller$Dancing" false ((Option.none : Option Jvm.ClassFile.FieldType)) 0 0 q := zr_of (zcons (zx_405 v0) (zcons (zx_415 v0) (zcons (zx_405 v0) (zcons (⟨trivial, trivial, trivial, rfl, trivial⟩) znil))))
theorem zd_99 (v0 : Value) : zchk prog_3_method_4_code (zk_99 ) = true := by decide +kernel
set_option maxRecDepth 100000 in
theorem zr_100 (v0 : Value) : ∀ q ∈ zk_100 , zrq (zt v0) "FigureCaller$Dancing" false ((Option.some Jvm.ClassFile.FieldType.int)) 0 0 q := zr_of (zcons (zx_416 v0) (zcons (zx_100 v0) znil))
theorem zd_100 (v0 : Value) : zchk prog_3_method_8_code (zk_100 ) = true := by decide +kernel
set_option maxRecDepth 100000 in
theorem zr_101 (v0 : Value) : ∀ q ∈ zk_101 , zrq (zt v0) "FigureCaller$Dancing" false ((Option.some Jvm.ClassFile.FieldType.int)) 0 0 q := zr_of (zcons (zx_100 v0) znil)
theorem zd_101 (v0 : Value) : zchk prog_3_method_7_code (zk_101 ) = true := by decide +kernel
set_option maxRecDepth 100000 in
theorem zr_102 (v0 : Value) : ∀ q ∈ zk_102 , zrq (zt v0) "FigureCaller$Dancing" false ((Option.some Jvm.ClassFile.FieldType.int)) 1 24 q := zr_of (zcons (zx_418 v0 (by decide) (by decide)) (zcons (zx_100 v0) (zcons (zx_418 v0 (by decide) (by decide)) (zcons (zx_100 v0) (zcons (zx_418 v0 (by decide) (by decide)) (zcons (zx_100 v0) (zcons (zx_418 v0 (by decide) (by decide)) (zcons (zx_100 v0) (zcons (zx_420 v0 (by decide) (by decide)) (zcons (zx_100 v0) (zcons (zx_420 v0 (by decide) (by decide)) (zcons (zx_100 v0) (zcons (zx_100 v0) znil)))))))))))))
theorem zd_102 (v0 : Value) : zchk prog_3_method_6_code (zk_102 ) = true := by decide +kernel
set_option maxRecDepth 100000 in
theorem zr_103 (v0 : Value) : ∀ q ∈ zk_103 , zrq (zt v0) "FigureCaller$Dancing" false ((Option.some Jvm.ClassFile.FieldType.boolean)) 0 0 q := zr_of (zcons (zx_142 v0) (zcons (zx_416 v0) (zcons (zx_416 v0) (zcons (zx_142 v0) znil))))
theorem zd_103 (v0 : Value) : zchk prog_3_method_9_code (zk_103 ) = true := by decide +kernel
set_option maxRecDepth 100000 in
theorem zr_104 (v0 : Value) : ∀ q ∈ zk_104 , zrq (zt v0) "FigureCaller$Dancing" false ((Option.some Jvm.ClassFile.FieldType.int)) 2 45 q := zr_of (zcons (zx_405 v0) (zcons (zx_422 v0 (by decide) (by decide)) (zcons (zx_100 v0) (zcons (zx_100 v0) (zcons (zx_424 v0 (by decide) (by decide)) (zcons (zx_100 v0) znil))))))
theorem zd_104 (v0 : Value) : zchk prog_3_method_5_code (zk_104 ) = true := by decide +kernel
set_option maxRecDepth 100000 in
theorem zr_105 (v0 : Value) : ∀ q ∈ zk_105 , zrq (zt v0) "FigureCaller$Dancing" false ((Option.some Jvm.ClassFile.FieldType.int)) 4 105 q := zr_of (zcons (zx_425 v0) (zcons (zx_425 v0) (zcons (zx_427 v0 (by decide) (by decide)) (zcons (zx_429 v0 (by decide) (by decide)) (zcons (zx_430 v0) (zcons (zx_427 v0 (by decide) (by decide)) (zcons (zx_411 v0) (zcons (zx_432 v0 (by decide) (by decide)) (zcons (zx_100 v0) (zcons (zx_433 v0) (zcons (zx_100 v0) znil)))))))))))
theorem zd_105 (v0 : Value) : zchk prog_3_method_2_code (zk_105 ) = true := by decide +kernel
set_option maxRecDepth 100000 in
theorem zr_106 (v0 : Value) : ∀ q ∈ zk_106 , zrq (zt v0) "FigureCaller$Track" false ((Option.none : Option Jvm.ClassFile.FieldType)) 1 60 q := zr_of (zcons (zx_391 v0) (zcons (zx_392 v0 (by decide) (by decide)) (zcons (⟨trivial, trivial, trivial, rfl, trivial⟩) znil)))
theorem zd_106 (v0 : Value) : zchk prog_10_method_4_code (zk_106 ) = true := by decide +kernel
set_option maxRecDepth 100000 in
theorem zr_107 (v0 : Value) : ∀ q ∈ zk_107 , zrq (zt v0) "FigureCaller" false ((Option.some Jvm.ClassFile.FieldType.int)) 7 130 q := zr_of (zcons (zx_384 v0 (by decide) (by decide)) (zcons (zx_434 v0) (zcons (⟨trivial, Or.inl (by decide), trivial, trivial, trivial⟩) (zcons (zx_435 v0) (zcons (⟨trivial, trivial, trivial, trivial, fun h => absurd h (by decide), fun h => absurd h (by decide)⟩) (zcons (zx_87 v0) (zcons (zx_434 v0) (zcons (zx_436 v0) (zcons (zx_97 v0) (zcons (zx_438 v0 (by decide) (by decide)) (zcons (zx_81 v0) (zcons (zx_72 v0) (zcons (zx_385 v0 (by decide) (by decide)) (zcons (zx_440 v0 (by decide) (by decide)) (zcons (zx_441 v0) (zcons (zx_442 v0) (zcons (⟨trivial, Or.inl (by decide), trivial, trivial, trivial⟩) (zcons (zx_443 v0) (zcons (⟨trivial, trivial, trivial, trivial, fun h => absurd h (by decide), fun h => absurd h (by decide)⟩) (zcons (zx_434 v0) (zcons (zx_444 v0) (zcons (zx_445 v0) (zcons (zx_97 v0) (zcons (zx_447 v0 (by decide) (by decide)) (zcons (zx_445 v0) (zcons (zx_100 v0) znil))))))))))))))))))))))))))
theorem zd_107 (v0 : Value) : zchk prog_1_method_20_code (zk_107 ) = true := by decide +kernel
set_option maxRecDepth 100000 in
theorem zr_108 (v0 : Value) : ∀ q ∈ zk_108 , zrq (zt v0) "FigureCaller" false ((Option.some Jvm.ClassFile.FieldType.int)) 8 153 q := zr_of (zcons (zx_449 v0 (by decide) (by decide)) (zcons (zx_100 v0) znil))
theorem zd_108 (v0 : Value) : zchk prog_1_method_7_code (zk_108 ) = true := by decide +kernel
set_option maxRecDepth 100000 in
theorem zr_109 (v0 : Value) : ∀ q ∈ zk_109 , zrq (zt v0) "FigureCallerLaw" false ((Option.some Jvm.ClassFile.FieldType.int)) 9 174 q := zr_of (zcons (zx_451 v0 (by decide) (by decide)) (zcons (zx_100 v0) (zcons (zx_100 v0) (zcons (zx_100 v0) znil))))
theorem zd_109 (v0 : Value) : zchk method_5_code (zk_109 ) = true := by decide +kernel
set_option maxRecDepth 100000 in
theorem zr_110 (v0 : Value) : ∀ q ∈ zk_110 , zrq (zt v0) "FigureCallerModel" false ((Option.none : Option Jvm.ClassFile.FieldType)) 0 0 q := zr_of (zcons (zx_452 v0) (zcons (zx_131 v0) (zcons (zx_453 v0) (zcons (zx_134 v0) (zcons (zx_454 v0) (zcons (zx_137 v0) (zcons (⟨trivial, trivial, trivial, rfl, trivial⟩) znil)))))))
theorem zd_110 (v0 : Value) : zchk prog_13_method_34_code (zk_110 ) = true := by decide +kernel
set_option maxRecDepth 100000 in
theorem zr_111 (v0 : Value) : ∀ q ∈ zk_111 , zrq (zt v0) "FigureCallerModel" false ((Option.some Jvm.ClassFile.FieldType.int)) 0 0 q := zr_of (zcons (zx_100 v0) znil)
theorem zd_111 (v0 : Value) : zchk prog_13_method_28_code (zk_111 ) = true := by decide +kernel
set_option maxRecDepth 100000 in
theorem zr_112 (v0 : Value) : ∀ q ∈ zk_112 , zrq (zt v0) "FigureCallerModel" false ((Option.some Jvm.ClassFile.FieldType.int)) 0 0 q := zr_of (zcons (zx_100 v0) znil)
theorem zd_112 (v0 : Value) : zchk prog_13_method_29_code (zk_112 ) = true := by decide +kernel
set_option maxRecDepth 100000 in
theorem zr_113 (v0 : Value) : ∀ q ∈ zk_113 , zrq (zt v0) "FigureCallerModel" false ((Option.none : Option Jvm.ClassFile.FieldType)) 1 20 q := zr_of (zcons (zx_454 v0) (zcons (zx_452 v0) (zcons (zx_452 v0) (zcons (zx_456 v0 (by decide) (by decide)) (zcons (zx_453 v0) (zcons (zx_453 v0) (zcons (zx_458 v0 (by decide) (by decide)) (zcons (zx_454 v0) (zcons (⟨trivial, trivial, trivial, rfl, trivial⟩) znil)))))))))
theorem zd_113 (v0 : Value) : zchk prog_13_method_36_code (zk_113 ) = true := by decide +kernel
set_option maxRecDepth 100000 in
theorem zr_114 (v0 : Value) : ∀ q ∈ zk_114 , zrq (zt v0) "FigureCallerModel" false ((Option.some Jvm.ClassFile.FieldType.long)) 0 0 q := zr_of (zcons (zx_452 v0) (zcons (zx_453 v0) (zcons (zx_452 v0) (zcons (zx_453 v0) (zcons (zx_459 v0) (zcons (zx_453 v0) (zcons (zx_452 v0) (zcons (⟨trivial, trivial, trivial, rfl, trivial⟩) znil))))))))
theorem zd_114 (v0 : Value) : zchk prog_13_method_30_code (zk_114 ) = true := by decide +kernel
set_option maxRecDepth 100000 in
theorem zr_115 (v0 : Value) : ∀ q ∈ zk_115 , zrq (zt v0) "FigureCallerModel" false ((Option.some Jvm.ClassFile.FieldType.int)) 1 28 q := zr_of (zcons (zx_461 v0 (by decide) (by decide)) (zcons (zx_461 v0 (by decide) (by decide)) (zcons (zx_100 v0) znil)))
theorem zd_115 (v0 : Value) : zchk prog_13_method_31_code (zk_115 ) = true := by decide +kernel
set_option maxRecDepth 100000 in
theorem zr_116 (v0 : Value) : ∀ q ∈ zk_116 , zrq (zt v0) "FigureCallerModel" false ((Option.some Jvm.ClassFile.FieldType.int)) 1 20 q := zr_of (zcons (zx_454 v0) (zcons (zx_452 v0) (zcons (zx_452 v0) (zcons (zx_453 v0) (zcons (zx_453 v0) (zcons (zx_458 v0 (by decide) (by decide)) (zcons (zx_456 v0 (by decide) (by decide)) (zcons (zx_456 v0 (by decide) (by decide)) (zcons (zx_458 v0 (by decide) (by decide)) (zcons (zx_100 v0) znil))))))))))
theorem zd_116 (v0 : Value) : zchk prog_13_method_32_code (zk_116 ) = true := by decide +kernel
set_option maxRecDepth 100000 in
theorem zr_117 (v0 : Value) : ∀ q ∈ zk_117 , zrq (zt v0) "FigureCallerModel" false ((Option.some Jvm.ClassFile.FieldType.int)) 2 53 q := zr_of (zcons (zx_100 v0) (zcons (zx_100 v0) (zcons (zx_100 v0) (zcons (zx_100 v0) (zcons (zx_100 v0) (zcons (zx_463 v0 (by decide) (by decide)) (zcons (zx_100 v0) (zcons (zx_463 v0 (by decide) (by decide)) (zcons (zx_100 v0) (zcons (zx_465 v0 (by decide) (by decide)) (zcons (zx_100 v0) (zcons (zx_465 v0 (by decide) (by decide)) (zcons (zx_100 v0) (zcons (zx_454 v0) (zcons (zx_100 v0) znil)))))))))))))))
theorem zd_117 (v0 : Value) : zchk prog_13_method_33_code (zk_117 ) = true := by decide +kernel
set_option maxRecDepth 100000 in
theorem zr_118 (v0 : Value) : ∀ q ∈ zk_118 , zrq (zt v0) "FigureCallerModel" false ((Option.some Jvm.ClassFile.FieldType.int)) 0 0 q := zr_of (zcons (zx_100 v0) znil)
theorem zd_118 (v0 : Value) : zchk prog_13_method_35_code (zk_118 ) = true := by decide +kernel
set_option maxRecDepth 100000 in
theorem zr_119 (v0 : Value) : ∀ q ∈ zk_119 , zrq (zt v0) "FigureCallerModel" false ((Option.some Jvm.ClassFile.FieldType.boolean)) 0 0 q := zr_of (zcons (zx_452 v0) (zcons (zx_452 v0) (zcons (zx_453 v0) (zcons (zx_453 v0) (zcons (zx_142 v0) znil)))))
theorem zd_119 (v0 : Value) : zchk prog_13_method_37_code (zk_119 ) = true := by decide +kernel
set_option maxRecDepth 100000 in
theorem zr_120 (v0 : Value) : ∀ q ∈ zk_120 , zrq (zt v0) "FigureCallerModel" false ((Option.some Jvm.ClassFile.FieldType.boolean)) 1 20 q := zr_of (zcons (zx_454 v0) (zcons (zx_452 v0) (zcons (zx_456 v0 (by decide) (by decide)) (zcons (zx_452 v0) (zcons (zx_453 v0) (zcons (zx_458 v0 (by decide) (by decide)) (zcons (zx_453 v0) (zcons (zx_142 v0) znil))))))))
theorem zd_120 (v0 : Value) : zchk prog_13_method_38_code (zk_120 ) = true := by decide +kernel
set_option maxRecDepth 100000 in
theorem zr_121 (v0 : Value) : ∀ q ∈ zk_121 , zrq (zt v0) "FigureCallerModel" false ((Option.some Jvm.ClassFile.FieldType.int)) 2 44 q := zr_of (zcons (zx_452 v0) (zcons (zx_452 v0) (zcons (zx_453 v0) (zcons (zx_453 v0) (zcons (zx_467 v0 (by decide) (by decide)) (zcons (zx_467 v0 (by decide) (by decide)) (zcons (zx_467 v0 (by decide) (by decide)) (zcons (zx_469 v0 (by decide) (by decide)) (zcons (zx_469 v0 (by decide) (by decide)) (zcons (zx_469 v0 (by decide) (by decide)) (zcons (zx_469 v0 (by decide) (by decide)) (zcons (zx_100 v0) znil))))))))))))
theorem zd_121 (v0 : Value) : zchk prog_13_method_39_code (zk_121 ) = true := by decide +kernel
set_option maxRecDepth 100000 in
theorem zr_122 (v0 : Value) : ∀ q ∈ zk_122 , zrq (zt v0) "FigureCallerModel" false ((Option.some Jvm.ClassFile.FieldType.boolean)) 3 77 q := zr_of (zcons (zx_343 v0) (zcons (zx_343 v0) (zcons (zx_344 v0) (zcons (zx_471 v0 (by decide) (by decide)) (zcons (zx_345 v0) (zcons (zx_346 v0) (zcons (zx_352 v0) (zcons (zx_473 v0 (by decide) (by decide)) (zcons (zx_353 v0) (zcons (zx_475 v0 (by decide) (by decide)) (zcons (zx_353 v0) (zcons (zx_471 v0 (by decide) (by decide)) (zcons (zx_477 v0 (by decide) (by decide)) (zcons (zx_478 v0) (zcons (zx_479 v0) (zcons (zx_480 v0) (zcons (zx_142 v0) (zcons (zx_142 v0) znil))))))))))))))))))
theorem zd_122 (v0 : Value) : zchk prog_13_method_40_code (zk_122 ) = true := by decide +kernel
set_option maxRecDepth 100000 in
theorem zr_123 (v0 : Value) : ∀ q ∈ zk_123 , zrq (zt v0) "FigureCallerModel" false ((Option.none : Option Jvm.ClassFile.FieldType)) 0 0 q := zr_of (zcons (zx_131 v0) (zcons (zx_452 v0) (zcons (zx_134 v0) (zcons (zx_453 v0) (zcons (zx_137 v0) (zcons (zx_454 v0) (zcons (⟨trivial, trivial, trivial, rfl, trivial⟩) znil)))))))
theorem zd_123 (v0 : Value) : zchk prog_13_method_41_code (zk_123 ) = true := by decide +kernel
set_option maxRecDepth 100000 in
theorem zr_124 (v0 : Value) : ∀ q ∈ zk_124 , zrq (zt v0) "FigureCallerModel" false ((Option.some Jvm.ClassFile.FieldType.int)) 4 106 q := zr_of (zcons (zx_390 v0 (by decide) (by decide)) (zcons (zx_481 v0) (zcons (zx_150 v0) (zcons (zx_378 v0) (zcons (zx_100 v0) (zcons (zx_483 v0 (by decide) (by decide)) (zcons (zx_485 v0 (by decide) (by decide)) (zcons (zx_486 v0) (zcons (zx_480 v0) (zcons (zx_487 v0) (zcons (zx_150 v0) (zcons (zx_100 v0) (zcons (zx_487 v0) (zcons (zx_488 v0) (zcons (zx_481 v0) (zcons (zx_134 v0) (zcons (zx_131 v0) (zcons (zx_137 v0) (zcons (zx_489 v0) (zcons (zx_481 v0) (zcons (zx_490 v0) (zcons (zx_481 v0) (zcons (zx_481 v0) (zcons (zx_491 v0) (zcons (zx_343 v0) (zcons (zx_493 v0 (by decide) (by decide)) (zcons (zx_343 v0) (zcons (zx_100 v0) znil))))))))))))))))))))))))))))
theorem zd_124 (v0 : Value) : zchk prog_13_method_42_code (zk_124 ) = true := by decide +kernel
set_option maxRecDepth 100000 in
theorem zr_125 (v0 : Value) : ∀ q ∈ zk_125 , zrq (zt v0) "FigureCallerModel" false ((Option.some Jvm.ClassFile.FieldType.int)) 5 129 q := zr_of (zcons (zx_495 v0 (by decide) (by decide)) (zcons (zx_100 v0) znil))
theorem zd_125 (v0 : Value) : zchk prog_13_method_43_code (zk_125 ) = true := by decide +kernel
set_option maxRecDepth 100000 in
theorem zr_126 (v0 : Value) : ∀ q ∈ zk_126 , zrq (zt v0) "FigureCaller" false ((Option.some Jvm.ClassFile.FieldType.int)) 8 153 q := zr_of (zcons (zx_449 v0 (by decide) (by decide)) (zcons (zx_100 v0) znil))
theorem zd_126 (v0 : Value) : zchk prog_1_method_8_code (zk_126 ) = true := by decide +kernel
set_option maxRecDepth 100000 in
theorem zr_127 (v0 : Value) : ∀ q ∈ zk_127 , zrq (zt v0) "FigureCallerLaw" false ((Option.some Jvm.ClassFile.FieldType.int)) 9 174 q := zr_of (zcons (zx_497 v0 (by decide) (by decide)) (zcons (zx_100 v0) (zcons (zx_100 v0) (zcons (zx_100 v0) znil))))
theorem zd_127 (v0 : Value) : zchk method_6_code (zk_127 ) = true := by decide +kernel
set_option maxRecDepth 100000 in
theorem zr_128 (v0 : Value) : ∀ q ∈ zk_128 , zrq (zt v0) "FigureCallerModel" false ((Option.some Jvm.ClassFile.FieldType.int)) 5 129 q := zr_of (zcons (zx_495 v0 (by decide) (by decide)) (zcons (zx_100 v0) znil))
theorem zd_128 (v0 : Value) : zchk prog_13_method_44_code (zk_128 ) = true := by decide +kernel
set_option maxRecDepth 100000 in
theorem zr_129 (v0 : Value) : ∀ q ∈ zk_129 , zrq (zt v0) "FigureCaller" false ((Option.some Jvm.ClassFile.FieldType.int)) 0 0 q := zr_of (zcons (zx_442 v0) (zcons (zx_100 v0) znil))
theorem zd_129 (v0 : Value) : zchk prog_1_method_9_code (zk_129 ) = true := by decide +kernel
set_option maxRecDepth 100000 in
theorem zr_130 (v0 : Value) : ∀ q ∈ zk_130 , zrq (zt v0) "FigureCallerModel" false ((Option.some Jvm.ClassFile.FieldType.int)) 0 0 q := zr_of (zcons (zx_150 v0) (zcons (zx_498 v0) (zcons (zx_100 v0) znil)))
theorem zd_130 (v0 : Value) : zchk prog_13_method_45_code (zk_130 ) = true := by decide +kernel
set_option maxRecDepth 100000 in
theorem zr_131 (v0 : Value) : ∀ q ∈ zk_131 , zrq (zt v0) "FigureCaller" false ((Option.some Jvm.ClassFile.FieldType.int)) 6 90 q := zr_of (zcons (zx_434 v0) (zcons (⟨trivial, Or.inl (by decide), trivial, trivial, trivial⟩) (zcons (zx_499 v0) (zcons (⟨trivial, trivial, trivial, trivial, fun h => absurd h (by decide), fun h => absurd h (by decide)⟩) (zcons (zx_434 v0) (zcons (zx_444 v0) (zcons (zx_87 v0) (zcons (zx_434 v0) (zcons (zx_436 v0) (zcons (zx_97 v0) (zcons (zx_447 v0 (by decide) (by decide)) (zcons (zx_445 v0) (zcons (zx_100 v0) znil)))))))))))))
theorem zd_131 (v0 : Value) : zchk prog_1_method_10_code (zk_131 ) = true := by decide +kernel
set_option maxRecDepth 100000 in
theorem zr_132 (v0 : Value) : ∀ q ∈ zk_132 , zrq (zt v0) "FigureCallerLaw" false ((Option.some Jvm.ClassFile.FieldType.int)) 7 111 q := zr_of (zcons (zx_501 v0 (by decide) (by decide)) (zcons (zx_100 v0) (zcons (zx_100 v0) znil)))
theorem zd_132 (v0 : Value) : zchk method_7_code (zk_132 ) = true := by decide +kernel
set_option maxRecDepth 100000 in
theorem zr_133 (v0 : Value) : ∀ q ∈ zk_133 , zrq (zt v0) "FigureCallerModel" false ((Option.none : Option Jvm.ClassFile.FieldType)) 0 0 q := zr_of (zcons (zx_454 v0) (zcons (zx_452 v0) (zcons (zx_453 v0) (zcons (⟨trivial, trivial, trivial, rfl, trivial⟩) znil))))
theorem zd_133 (v0 : Value) : zchk prog_13_method_46_code (zk_133 ) = true := by decide +kernel
set_option maxRecDepth 100000 in
theorem zr_134 (v0 : Value) : ∀ q ∈ zk_134 , zrq (zt v0) "FigureCallerModel" false ((Option.some Jvm.ClassFile.FieldType.int)) 1 22 q := zr_of (zcons (zx_481 v0) (zcons (zx_150 v0) (zcons (zx_378 v0) (zcons (zx_100 v0) (zcons (zx_481 v0) (zcons (zx_491 v0) (zcons (zx_488 v0) (zcons (zx_481 v0) (zcons (zx_503 v0 (by decide) (by decide)) (zcons (zx_493 v0 (by decide) (by decide)) (zcons (zx_343 v0) (zcons (zx_489 v0) (zcons (zx_481 v0) (zcons (zx_100 v0) znil))))))))))))))
theorem zd_134 (v0 : Value) : zchk prog_13_method_47_code (zk_134 ) = true := by decide +kernel
set_option maxRecDepth 100000 in
theorem zr_135 (v0 : Value) : ∀ q ∈ zk_135 , zrq (zt v0) "FigureCaller" false ((Option.some Jvm.ClassFile.FieldType.int)) 1 22 q := zr_of (zcons (zx_434 v0) (zcons (zx_444 v0) (zcons (zx_97 v0) (zcons (zx_99 v0 (by decide) (by decide)) (zcons (zx_100 v0) znil)))))
theorem zd_135 (v0 : Value) : zchk prog_1_method_11_code (zk_135 ) = true := by decide +kernel
set_option maxRecDepth 100000 in
theorem zr_136 (v0 : Value) : ∀ q ∈ zk_136 , zrq (zt v0) "FigureCallerModel" false ((Option.some Jvm.ClassFile.FieldType.int)) 1 20 q := zr_of (zcons (zx_150 v0) (zcons (zx_481 v0) (zcons (zx_491 v0) (zcons (zx_131 v0) (zcons (zx_133 v0 (by decide) (by decide)) (zcons (zx_134 v0) (zcons (zx_136 v0 (by decide) (by decide)) (zcons (zx_137 v0) (zcons (zx_139 v0 (by decide) (by decide)) (zcons (zx_100 v0) znil))))))))))
theorem zd_136 (v0 : Value) : zchk prog_13_method_48_code (zk_136 ) = true := by decide +kernel
set_option maxRecDepth 100000 in
theorem zr_137 (v0 : Value) : ∀ q ∈ zk_137 , zrq (zt v0) "FigureCaller" false ((Option.none : Option Jvm.ClassFile.FieldType)) 6 90 q := zr_of (zcons (⟨trivial, Or.inl (by decide), trivial, trivial, trivial⟩) (zcons (zx_504 v0) (zcons (⟨trivial, trivial, trivial, trivial, fun h => absurd h (by decide), fun h => absurd h (by decide)⟩) (zcons (⟨trivial, trivial, trivial, rfl, trivial⟩) znil))))
theorem zd_137 (v0 : Value) : zchk prog_1_method_22_code (zk_137 ) = true := by decide +kernel
set_option maxRecDepth 100000 in
theorem zr_138 (v0 : Value) : ∀ q ∈ zk_138 , zrq (zt v0) "FigureCaller" false ((Option.some Jvm.ClassFile.FieldType.int)) 7 110 q := zr_of (zcons (zx_506 v0 (by decide) (by decide)) (zcons (zx_97 v0) (zcons (zx_100 v0) (zcons (zx_100 v0) (zcons (zx_100 v0) (zcons (⟨trivial, Or.inl (by decide), trivial, trivial, trivial⟩) (zcons (zx_507 v0) (zcons (⟨trivial, trivial, trivial, trivial, fun h => absurd h (by decide), fun h => absurd h (by decide)⟩) znil))))))))
theorem zd_138 (v0 : Value) : zchk prog_1_method_12_code (zk_138 ) = true := by decide +kernel
set_option maxRecDepth 100000 in
theorem zr_139 (v0 : Value) : ∀ q ∈ zk_139 , zrq (zt v0) "FigureCallerLaw" false ((Option.some Jvm.ClassFile.FieldType.int)) 8 133 q := zr_of (zcons (zx_509 v0 (by decide) (by decide)) (zcons (zx_100 v0) (zcons (zx_100 v0) znil)))
theorem zd_139 (v0 : Value) : zchk method_8_code (zk_139 ) = true := by decide +kernel
set_option maxRecDepth 100000 in
theorem zr_140 (v0 : Value) : ∀ q ∈ zk_140 , zrq (zt v0) "FigureCallerModel" false ((Option.some Jvm.ClassFile.FieldType.boolean)) 0 0 q := zr_of (zcons (zx_142 v0) znil)
theorem zd_140 (v0 : Value) : zchk prog_13_method_49_code (zk_140 ) = true := by decide +kernel
set_option maxRecDepth 100000 in
theorem zr_141 (v0 : Value) : ∀ q ∈ zk_141 , zrq (zt v0) "FigureCallerModel" false ((Option.some Jvm.ClassFile.FieldType.int)) 1 20 q := zr_of (zcons (zx_511 v0 (by decide) (by decide)) (zcons (zx_150 v0) (zcons (zx_378 v0) (zcons (zx_131 v0) (zcons (zx_134 v0) (zcons (zx_137 v0) (zcons (zx_100 v0) znil)))))))
theorem zd_141 (v0 : Value) : zchk prog_13_method_50_code (zk_141 ) = true := by decide +kernel
set_option maxRecDepth 100000 in
theorem zr_142 (v0 : Value) : ∀ q ∈ zk_142 , zrq (zt v0) "FigureCaller$Track" false ((Option.some Jvm.ClassFile.FieldType.int)) 0 0 q := zr_of (zcons (zx_391 v0) (zcons (zx_100 v0) znil))
theorem zd_142 (v0 : Value) : zchk prog_10_method_3_code (zk_142 ) = true := by decide +kernel
set_option maxRecDepth 100000 in
theorem zr_143 (v0 : Value) : ∀ q ∈ zk_143 , zrq (zt v0) "FigureCaller" false ((Option.some Jvm.ClassFile.FieldType.int)) 7 110 q := zr_of (zcons (zx_506 v0 (by decide) (by decide)) (zcons (zx_434 v0) (zcons (⟨trivial, Or.inl (by decide), trivial, trivial, trivial⟩) (zcons (zx_499 v0) (zcons (⟨trivial, trivial, trivial, trivial, fun h => absurd h (by decide), fun h => absurd h (by decide)⟩) (zcons (zx_87 v0) (zcons (zx_434 v0) (zcons (zx_436 v0) (zcons (zx_445 v0) (zcons (⟨trivial, Or.inl (by decide), trivial, trivial, trivial⟩) (zcons (zx_512 v0) (zcons (⟨trivial, trivial, trivial, trivial, fun h => absurd h (by decide), fun h => absurd h (by decide)⟩) (zcons (zx_514 v0 (by decide) (by decide)) (zcons (zx_100 v0) znil))))))))))))))
theorem zd_143 (v0 : Value) : zchk prog_1_method_13_code (zk_143 ) = true := by decide +kernel
set_option maxRecDepth 100000 in
theorem zr_144 (v0 : Value) : ∀ q ∈ zk_144 , zrq (zt v0) "FigureCallerLaw" false ((Option.some Jvm.ClassFile.FieldType.int)) 8 133 q := zr_of (zcons (zx_516 v0 (by decide) (by decide)) (zcons (zx_100 v0) (zcons (zx_100 v0) (zcons (zx_100 v0) znil))))
theorem zd_144 (v0 : Value) : zchk method_9_code (zk_144 ) = true := by decide +kernel
set_option maxRecDepth 100000 in
theorem zr_145 (v0 : Value) : ∀ q ∈ zk_145 , zrq (zt v0) "FigureCallerModel" false ((Option.some Jvm.ClassFile.FieldType.int)) 4 106 q := zr_of (zcons (zx_511 v0 (by decide) (by decide)) (zcons (zx_150 v0) (zcons (zx_378 v0) (zcons (zx_100 v0) (zcons (zx_481 v0) (zcons (zx_343 v0) (zcons (zx_489 v0) (zcons (zx_481 v0) (zcons (zx_481 v0) (zcons (zx_150 v0) (zcons (zx_378 v0) (zcons (zx_100 v0) (zcons (zx_488 v0) (zcons (zx_481 v0) (zcons (zx_503 v0 (by decide) (by decide)) (zcons (zx_489 v0) (zcons (zx_481 v0) (zcons (zx_490 v0) (zcons (zx_481 v0) (zcons (zx_485 v0 (by decide) (by decide)) (zcons (zx_453 v0) (zcons (zx_452 v0) (zcons (zx_100 v0) znil)))))))))))))))))))))))
theorem zd_145 (v0 : Value) : zchk prog_13_method_51_code (zk_145 ) = true := by decide +kernel
set_option maxRecDepth 100000 in
theorem zr_146 (v0 : Value) : ∀ q ∈ zk_146 , zrq (zt v0) "FigureCaller" false ((Option.some Jvm.ClassFile.FieldType.boolean)) 7 110 q := zr_of (zcons (⟨trivial, Or.inl (by decide), trivial, trivial, trivial⟩) (zcons (zx_517 v0) (zcons (⟨trivial, trivial, trivial, trivial, fun h => absurd h (by decide), fun h => absurd h (by decide)⟩) (zcons (zx_506 v0 (by decide) (by decide)) (zcons (zx_81 v0) (zcons (zx_518 v0) (zcons (zx_97 v0) (zcons (zx_519 v0 (by decide) (by decide)) (zcons (zx_142 v0) znil)))))))))
theorem zd_146 (v0 : Value) : zchk prog_1_method_14_code (zk_146 ) = true := by decide +kernel
set_option maxRecDepth 100000 in
theorem zr_147 (v0 : Value) : ∀ q ∈ zk_147 , zrq (zt v0) "FigureCallerLaw" false ((Option.some Jvm.ClassFile.FieldType.int)) 8 132 q := zr_of (zcons (zx_521 v0 (by decide) (by decide)) (zcons (zx_100 v0) (zcons (zx_100 v0) znil)))
theorem zd_147 (v0 : Value) : zchk method_10_code (zk_147 ) = true := by decide +kernel
set_option maxRecDepth 100000 in
theorem zr_148 (v0 : Value) : ∀ q ∈ zk_148 , zrq (zt v0) "FigureCallerModel" false ((Option.some Jvm.ClassFile.FieldType.boolean)) 3 77 q := zr_of (zcons (zx_511 v0 (by decide) (by decide)) (zcons (zx_150 v0) (zcons (zx_378 v0) (zcons (zx_142 v0) (zcons (zx_483 v0 (by decide) (by decide)) (zcons (zx_473 v0 (by decide) (by decide)) (zcons (zx_142 v0) znil)))))))
theorem zd_148 (v0 : Value) : zchk prog_13_method_52_code (zk_148 ) = true := by decide +kernel
set_option maxRecDepth 100000 in
theorem zr_149 (v0 : Value) : ∀ q ∈ zk_149 , zrq (zt v0) "FigureCaller$Shape" false ((Option.some Jvm.ClassFile.FieldType.int)) 0 0 q := zr_of (zcons (zx_100 v0) znil)
theorem zd_149 (v0 : Value) : zchk prog_7_method_3_code (zk_149 ) = true := by decide +kernel
set_option maxRecDepth 100000 in
theorem zr_150 (v0 : Value) : ∀ q ∈ zk_150 , zrq (zt v0) "FigureCaller$Shape" false ((Option.some Jvm.ClassFile.FieldType.int)) 1 60 q := zr_of (zcons (zx_522 v0 (by decide) (by decide)) (zcons (zx_523 v0 (by decide) (by decide)) (zcons (zx_522 v0 (by decide) (by decide)) (zcons (zx_523 v0 (by decide) (by decide)) (zcons (zx_523 v0 (by decide) (by decide)) (zcons (zx_522 v0 (by decide) (by decide)) (zcons (zx_100 v0) (zcons (zx_100 v0) (zcons (zx_525 v0 (by decide) (by decide)) (zcons (zx_100 v0) (zcons (zx_525 v0 (by decide) (by decide)) (zcons (zx_100 v0) (zcons (zx_100 v0) znil)))))))))))))
theorem zd_150 (v0 : Value) : zchk prog_7_method_2_code (zk_150 ) = true := by decide +kernel
set_option maxRecDepth 100000 in
theorem zr_151 (v0 : Value) : ∀ q ∈ zk_151 , zrq (zt v0) "FigureCaller" false ((Option.some Jvm.ClassFile.FieldType.int)) 2 86 q := zr_of (zcons (zx_97 v0) (zcons (zx_527 v0 (by decide) (by decide)) (zcons (zx_100 v0) znil)))
theorem zd_151 (v0 : Value) : zchk prog_1_method_15_code (zk_151 ) = true := by decide +kernel
set_option maxRecDepth 100000 in
theorem zr_152 (v0 : Value) : ∀ q ∈ zk_152 , zrq (zt v0) "FigureCallerModel" false ((Option.some Jvm.ClassFile.FieldType.int)) 0 0 q := zr_of (zcons (zx_150 v0) (zcons (zx_131 v0) (zcons (zx_131 v0) (zcons (zx_131 v0) (zcons (zx_131 v0) (zcons (zx_134 v0) (zcons (zx_134 v0) (zcons (zx_134 v0) (zcons (zx_134 v0) (zcons (zx_100 v0) (zcons (zx_131 v0) (zcons (zx_131 v0) (zcons (zx_134 v0) (zcons (zx_134 v0) (zcons (zx_100 v0) znil)))))))))))))))
theorem zd_152 (v0 : Value) : zchk prog_13_method_53_code (zk_152 ) = true := by decide +kernel
set_option maxRecDepth 100000 in
theorem zr_153 (v0 : Value) : ∀ q ∈ zk_153 , zrq (zt v0) "FigureCaller$Book" false ((Option.some Jvm.ClassFile.FieldType.int)) 0 0 q := zr_of (zcons (zx_25 v0) (zcons (zx_13 v0) (zcons (zx_26 v0) (zcons (zx_528 v0) (zcons (zx_100 v0) znil)))))
theorem zd_153 (v0 : Value) : zchk prog_2_method_9_code (zk_153 ) = true := by decide +kernel
set_option maxRecDepth 100000 in
theorem zr_154 (v0 : Value) : ∀ q ∈ zk_154 , zrq (zt v0) "FigureCaller" false ((Option.none : Option Jvm.ClassFile.FieldType)) 7 111 q := zr_of (zcons (zx_384 v0 (by decide) (by decide)) (zcons (zx_72 v0) (zcons (zx_530 v0 (by decide) (by decide)) (zcons (⟨trivial, Or.inl (by decide), trivial, trivial, trivial⟩) (zcons (zx_531 v0) (zcons (⟨trivial, trivial, trivial, trivial, fun h => absurd h (by decide), fun h => absurd h (by decide)⟩) (zcons (zx_72 v0) (zcons (zx_385 v0 (by decide) (by decide)) (zcons (zx_532 v0) (zcons (⟨trivial, trivial, trivial, rfl, trivial⟩) znil))))))))))
theorem zd_154 (v0 : Value) : zchk prog_1_method_16_code (zk_154 ) = true := by decide +kernel
set_option maxRecDepth 100000 in
theorem zr_155 (v0 : Value) : ∀ q ∈ zk_155 , zrq (zt v0) "FigureCallerLaw" false ((Option.some Jvm.ClassFile.FieldType.int)) 8 133 q := zr_of (zcons (zx_534 v0 (by decide) (by decide)) (zcons (zx_100 v0) (zcons (zx_100 v0) (zcons (zx_100 v0) znil))))
theorem zd_155 (v0 : Value) : zchk method_11_code (zk_155 ) = true := by decide +kernel
set_option maxRecDepth 100000 in
theorem zr_156 (v0 : Value) : ∀ q ∈ zk_156 , zrq (zt v0) "FigureCallerModel" false ((Option.none : Option Jvm.ClassFile.FieldType)) 1 21 q := zr_of (zcons (zx_390 v0 (by decide) (by decide)) (zcons (zx_150 v0) (zcons (zx_378 v0) (zcons (zx_535 v0) (zcons (zx_378 v0) (zcons (zx_378 v0) (zcons (zx_150 v0) (zcons (zx_378 v0) (zcons (zx_535 v0) (zcons (⟨trivial, trivial, trivial, rfl, trivial⟩) znil))))))))))
theorem zd_156 (v0 : Value) : zchk prog_13_method_54_code (zk_156 ) = true := by decide +kernel
set_option maxRecDepth 100000 in
theorem zr_157 (v0 : Value) : ∀ q ∈ zk_157 , zrq (zt v0) "FigureCaller" false ((Option.some Jvm.ClassFile.FieldType.boolean)) 0 0 q := zr_of (zcons (zx_59 v0) (zcons (zx_60 v0) (zcons (zx_142 v0) (zcons (zx_142 v0) znil))))
theorem zd_157 (v0 : Value) : zchk prog_1_method_24_code (zk_157 ) = true := by decide +kernel
set_option maxRecDepth 100000 in
theorem zr_158 (v0 : Value) : ∀ q ∈ zk_158 , zrq (zt v0) "FigureCaller$Track" false ((Option.some Jvm.ClassFile.FieldType.boolean)) 1 22 q := zr_of (zcons (zx_391 v0) (zcons (zx_536 v0) (zcons (zx_538 v0 (by decide) (by decide)) (zcons (zx_142 v0) znil))))
theorem zd_158 (v0 : Value) : zchk prog_10_method_5_code (zk_158 ) = true := by decide +kernel
set_option maxRecDepth 100000 in
theorem zr_159 (v0 : Value) : ∀ q ∈ zk_159 , zrq (zt v0) "FigureCaller$WayHome" false ((Option.none : Option Jvm.ClassFile.FieldType)) 0 0 q := zr_of (zcons (zx_539 v0) (zcons (zx_540 v0) (zcons (zx_540 v0) (zcons (zx_541 v0) (zcons (zx_542 v0) (zcons (⟨trivial, trivial, trivial, rfl, trivial⟩) znil))))))
theorem zd_159 (v0 : Value) : zchk prog_11_method_5_code (zk_159 ) = true := by decide +kernel
set_option maxRecDepth 100000 in
theorem zr_160 (v0 : Value) : ∀ q ∈ zk_160 , zrq (zt v0) "FigureCaller$WayHome" false ((Option.none : Option Jvm.ClassFile.FieldType)) 2 83 q := zr_of (zcons (zx_543 v0) (zcons (zx_544 v0) (zcons (zx_545 v0) (zcons (zx_543 v0) (zcons (zx_546 v0 (by decide) (by decide)) (zcons (zx_542 v0) (zcons (zx_543 v0) (zcons (zx_541 v0) (zcons (zx_543 v0) (zcons (zx_543 v0) (zcons (zx_547 v0) (zcons (⟨trivial, trivial, trivial, rfl, trivial⟩) znil))))))))))))
theorem zd_160 (v0 : Value) : zchk prog_11_method_4_code (zk_160 ) = true := by decide +kernel
set_option maxRecDepth 100000 in
theorem zr_161 (v0 : Value) : ∀ q ∈ zk_161 , zrq (zt v0) "FigureCaller$WayHome" false ((Option.some Jvm.ClassFile.FieldType.boolean)) 5 130 q := zr_of (zcons (zx_548 v0) (zcons (zx_549 v0) (zcons (zx_548 v0) (zcons (zx_550 v0) (zcons (zx_26 v0) (zcons (zx_551 v0) (zcons (zx_545 v0) (zcons (zx_552 v0 (by decide) (by decide)) (zcons (zx_553 v0) (zcons (zx_548 v0) (zcons (zx_550 v0) (zcons (zx_26 v0) (zcons (zx_554 v0 (by decide) (by decide)) (zcons (zx_556 v0 (by decide) (by decide)) (zcons (zx_558 v0 (by decide) (by decide)) (zcons (zx_142 v0) (zcons (zx_560 v0 (by decide) (by decide)) (zcons (zx_142 v0) znil))))))))))))))))))
theorem zd_161 (v0 : Value) : zchk prog_11_method_3_code (zk_161 ) = true := by decide +kernel
set_option maxRecDepth 100000 in
theorem zr_162 (v0 : Value) : ∀ q ∈ zk_162 , zrq (zt v0) "FigureCaller$WayHome" false ((Option.some Jvm.ClassFile.FieldType.int)) 6 154 q := zr_of (zcons (zx_539 v0) (zcons (zx_561 v0 (by decide) (by decide)) (zcons (zx_100 v0) (zcons (zx_545 v0) (zcons (zx_562 v0 (by decide) (by decide)) (zcons (zx_547 v0) (zcons (zx_543 v0) (zcons (zx_564 v0 (by decide) (by decide)) (zcons (zx_100 v0) (zcons (zx_100 v0) znil))))))))))
theorem zd_162 (v0 : Value) : zchk prog_11_method_2_code (zk_162 ) = true := by decide +kernel
set_option maxRecDepth 100000 in
theorem zr_163 (v0 : Value) : ∀ q ∈ zk_163 , zrq (zt v0) "FigureCaller" false ((Option.some Jvm.ClassFile.FieldType.int)) 7 180 q := zr_of (zcons (zx_565 v0) (zcons (zx_97 v0) (zcons (zx_566 v0) (zcons (zx_568 v0 (by decide) (by decide)) (zcons (zx_100 v0) znil)))))
theorem zd_163 (v0 : Value) : zchk prog_1_method_17_code (zk_163 ) = true := by decide +kernel
set_option maxRecDepth 100000 in
theorem zr_164 (v0 : Value) : ∀ q ∈ zk_164 , zrq (zt v0) "FigureCallerModel" false ((Option.some Jvm.ClassFile.FieldType.boolean)) 1 20 q := zr_of (zcons (zx_569 v0) (zcons (zx_136 v0 (by decide) (by decide)) (zcons (zx_133 v0 (by decide) (by decide)) (zcons (zx_139 v0 (by decide) (by decide)) (zcons (zx_142 v0) znil)))))
theorem zd_164 (v0 : Value) : zchk prog_13_method_56_code (zk_164 ) = true := by decide +kernel
set_option maxRecDepth 100000 in
theorem zr_165 (v0 : Value) : ∀ q ∈ zk_165 , zrq (zt v0) "FigureCallerModel" false ((Option.some Jvm.ClassFile.FieldType.int)) 0 0 q := zr_of (zcons (zx_339 v0) (zcons (zx_535 v0) (zcons (zx_100 v0) znil)))
theorem zd_165 (v0 : Value) : zchk prog_13_method_55_code (zk_165 ) = true := by decide +kernel
set_option maxRecDepth 100000 in
theorem zr_166 (v0 : Value) : ∀ q ∈ zk_166 , zrq (zt v0) "FigureCallerModel" false ((Option.some Jvm.ClassFile.FieldType.boolean)) 4 106 q := zr_of (zcons (zx_569 v0) (zcons (zx_503 v0 (by decide) (by decide)) (zcons (zx_570 v0) (zcons (zx_485 v0 (by decide) (by decide)) (zcons (zx_142 v0) (zcons (zx_343 v0) (zcons (zx_569 v0) (zcons (zx_453 v0) (zcons (zx_452 v0) (zcons (zx_454 v0) (zcons (zx_142 v0) znil)))))))))))
theorem zd_166 (v0 : Value) : zchk prog_13_method_57_code (zk_166 ) = true := by decide +kernel
set_option maxRecDepth 100000 in
theorem zr_167 (v0 : Value) : ∀ q ∈ zk_167 , zrq (zt v0) "FigureCallerModel" false ((Option.some Jvm.ClassFile.FieldType.boolean)) 5 130 q := zr_of (zcons (zx_570 v0) (zcons (zx_572 v0 (by decide) (by decide)) (zcons (zx_574 v0 (by decide) (by decide)) (zcons (zx_142 v0) (zcons (zx_570 v0) (zcons (zx_570 v0) (zcons (zx_572 v0 (by decide) (by decide)) (zcons (zx_570 v0) (zcons (zx_570 v0) (zcons (zx_570 v0) (zcons (zx_572 v0 (by decide) (by decide)) (zcons (zx_576 v0 (by decide) (by decide)) (zcons (zx_570 v0) (zcons (zx_572 v0 (by decide) (by decide)) (zcons (zx_570 v0) (zcons (zx_570 v0) (zcons (zx_572 v0 (by decide) (by decide)) (zcons (zx_142 v0) znil))))))))))))))))))
theorem zd_167 (v0 : Value) : zchk prog_13_method_58_code (zk_167 ) = true := by decide +kernel
set_option maxRecDepth 100000 in
theorem zr_168 (v0 : Value) : ∀ q ∈ zk_168 , zrq (zt v0) "FigureCallerModel" false ((Option.some Jvm.ClassFile.FieldType.int)) 6 152 q := zr_of (zcons (zx_150 v0) (zcons (zx_126 v0) (zcons (zx_569 v0) (zcons (zx_134 v0) (zcons (zx_131 v0) (zcons (zx_137 v0) (zcons (zx_574 v0 (by decide) (by decide)) (zcons (zx_126 v0) (zcons (zx_577 v0) (zcons (zx_579 v0 (by decide) (by decide)) (zcons (zx_126 v0) (zcons (zx_577 v0) (zcons (zx_580 v0) (zcons (zx_570 v0) (zcons (zx_577 v0) (zcons (zx_100 v0) znil))))))))))))))))
theorem zd_168 (v0 : Value) : zchk prog_13_method_59_code (zk_168 ) = true := by decide +kernel
set_option maxRecDepth 100000 in
theorem zr_169 (v0 : Value) : ∀ q ∈ zk_169 , zrq (zt v0) "FigureCaller" false ((Option.some Jvm.ClassFile.FieldType.int)) 6 90 q := zr_of (zcons (zx_565 v0) (zcons (zx_581 v0) (zcons (⟨trivial, Or.inl (by decide), trivial, trivial, trivial⟩) (zcons (zx_582 v0) (zcons (⟨trivial, trivial, trivial, trivial, fun h => absurd h (by decide), fun h => absurd h (by decide)⟩) (zcons (zx_565 v0) (zcons (zx_583 v0) (zcons (zx_100 v0) znil))))))))
theorem zd_169 (v0 : Value) : zchk prog_1_method_18_code (zk_169 ) = true := by decide +kernel
set_option maxRecDepth 100000 in
theorem zr_170 (v0 : Value) : ∀ q ∈ zk_170 , zrq (zt v0) "FigureCallerLaw" false ((Option.some Jvm.ClassFile.FieldType.int)) 7 111 q := zr_of (zcons (zx_585 v0 (by decide) (by decide)) (zcons (zx_100 v0) (zcons (zx_100 v0) znil)))
theorem zd_170 (v0 : Value) : zchk method_12_code (zk_170 ) = true := by decide +kernel
set_option maxRecDepth 100000 in
theorem zr_171 (v0 : Value) : ∀ q ∈ zk_171 , zrq (zt v0) "FigureCallerModel" false ((Option.some Jvm.ClassFile.FieldType.int)) 0 0 q := zr_of (zcons (zx_577 v0) (zcons (zx_150 v0) (zcons (zx_378 v0) (zcons (zx_580 v0) (zcons (zx_100 v0) znil)))))
theorem zd_171 (v0 : Value) : zchk prog_13_method_60_code (zk_171 ) = true := by decide +kernel
set_option maxRecDepth 100000 in
theorem zr_172 (v0 : Value) : ∀ q ∈ zk_172 , zrq (zt v0) "FigureCaller$Track" false ((Option.some Jvm.ClassFile.FieldType.boolean)) 1 22 q := zr_of (zcons (zx_536 v0) (zcons (zx_586 v0 (by decide) (by decide)) (zcons (zx_536 v0) (zcons (zx_586 v0 (by decide) (by decide)) (zcons (zx_142 v0) (zcons (zx_142 v0) znil))))))
theorem zd_172 (v0 : Value) : zchk prog_10_method_6_code (zk_172 ) = true := by decide +kernel
set_option maxRecDepth 100000 in
theorem zr_173 (v0 : Value) : ∀ q ∈ zk_173 , zrq (zt v0) "FigureCaller" false ((Option.some Jvm.ClassFile.FieldType.boolean)) 7 130 q := zr_of (zcons (zx_384 v0 (by decide) (by decide)) (zcons (zx_384 v0 (by decide) (by decide)) (zcons (zx_587 v0) (zcons (zx_99 v0 (by decide) (by decide)) (zcons (zx_566 v0) (zcons (zx_587 v0) (zcons (zx_438 v0 (by decide) (by decide)) (zcons (zx_588 v0) (zcons (zx_587 v0) (zcons (zx_438 v0 (by decide) (by decide)) (zcons (zx_81 v0) (zcons (zx_566 v0) (zcons (zx_72 v0) (zcons (zx_385 v0 (by decide) (by decide)) (zcons (zx_440 v0 (by decide) (by decide)) (zcons (zx_81 v0) (zcons (zx_588 v0) (zcons (zx_72 v0) (zcons (zx_385 v0 (by decide) (by decide)) (zcons (zx_440 v0 (by decide) (by decide)) (zcons (zx_566 v0) (zcons (zx_588 v0) (zcons (zx_590 v0 (by decide) (by decide)) (zcons (zx_142 v0) (zcons (zx_142 v0) znil)))))))))))))))))))))))))
theorem zd_173 (v0 : Value) : zchk prog_1_method_19_code (zk_173 ) = true := by decide +kernel
set_option maxRecDepth 100000 in
theorem zr_174 (v0 : Value) : ∀ q ∈ zk_174 , zrq (zt v0) "FigureCallerLaw" false ((Option.some Jvm.ClassFile.FieldType.int)) 8 155 q := zr_of (zcons (zx_592 v0 (by decide) (by decide)) (zcons (zx_100 v0) (zcons (zx_100 v0) znil)))
theorem zd_174 (v0 : Value) : zchk method_13_code (zk_174 ) = true := by decide +kernel
set_option maxRecDepth 100000 in
theorem zr_175 (v0 : Value) : ∀ q ∈ zk_175 , zrq (zt v0) "FigureCallerModel" false ((Option.none : Option Jvm.ClassFile.FieldType)) 1 20 q := zr_of (zcons (zx_452 v0) (zcons (zx_133 v0 (by decide) (by decide)) (zcons (zx_453 v0) (zcons (zx_136 v0 (by decide) (by decide)) (zcons (zx_454 v0) (zcons (zx_139 v0 (by decide) (by decide)) (zcons (⟨trivial, trivial, trivial, rfl, trivial⟩) znil)))))))
theorem zd_175 (v0 : Value) : zchk prog_13_method_61_code (zk_175 ) = true := by decide +kernel
set_option maxRecDepth 100000 in
theorem zr_176 (v0 : Value) : ∀ q ∈ zk_176 , zrq (zt v0) "FigureCallerModel" false ((Option.some Jvm.ClassFile.FieldType.boolean)) 4 106 q := zr_of (zcons (zx_390 v0 (by decide) (by decide)) (zcons (zx_390 v0 (by decide) (by decide)) (zcons (zx_150 v0) (zcons (zx_378 v0) (zcons (zx_594 v0 (by decide) (by decide)) (zcons (zx_485 v0 (by decide) (by decide)) (zcons (zx_343 v0) (zcons (zx_595 v0) (zcons (zx_453 v0) (zcons (zx_452 v0) (zcons (zx_454 v0) (zcons (zx_594 v0 (by decide) (by decide)) (zcons (zx_485 v0 (by decide) (by decide)) (zcons (zx_343 v0) (zcons (zx_595 v0) (zcons (zx_453 v0) (zcons (zx_452 v0) (zcons (zx_454 v0) (zcons (zx_142 v0) znil)))))))))))))))))))
theorem zd_176 (v0 : Value) : zchk prog_13_method_62_code (zk_176 ) = true := by decide +kernel
set_option maxRecDepth 100000 in
theorem zr_177 (v0 : Value) : ∀ q ∈ zk_177 , zrq (zt v0) "FigureCallerLaw" false (ret) 11 233 q := zr_of (zcons (zx_596 v0) (zcons (zx_598 v0 (by decide) (by decide)) (zcons (zx_599 v0) (zcons (zx_601 v0 (by decide) (by decide)) (zcons (zx_104 v0) (zcons (zx_183 v0) (zcons (zx_602 v0) (zcons (zx_604 v0 (by decide) (by decide)) (zcons (zx_602 v0) (zcons (zx_606 v0 (by decide) (by decide)) (zcons (zx_608 v0 (by decide) (by decide)) (zcons (zx_610 v0 (by decide) (by decide)) (zcons (zx_612 v0 (by decide) (by decide)) (zcons (zx_614 v0 (by decide) (by decide)) (zcons (zx_616 v0 (by decide) (by decide)) (zcons (zx_618 v0 (by decide) (by decide)) (zcons (zx_620 v0 (by decide) (by decide)) (zcons (zx_622 v0 (by decide) (by decide)) (zcons (zx_624 v0 (by decide) (by decide)) (zcons (zx_626 v0 (by decide) (by decide)) (zcons (zx_628 v0 (by decide) (by decide)) (zcons (zx_630 v0 (by decide) (by decide)) (zcons (zx_632 v0 (by decide) (by decide)) (zcons (zx_634 v0 (by decide) (by decide)) (zcons (zx_636 v0 (by decide) (by decide)) (zcons (zx_638 v0 (by decide) (by decide)) (zcons (zx_640 v0 (by decide) (by decide)) (zcons (zx_642 v0 (by decide) (by decide)) (zcons (zx_644 v0 (by decide) (by decide)) (zcons (zx_646 v0 (by decide) (by decide)) (zcons (zx_648 v0 (by decide) (by decide)) (zcons (zx_650 v0 (by decide) (by decide)) (zcons (zx_652 v0 (by decide) (by decide)) (zcons (zx_654 v0 (by decide) (by decide)) (zcons (zx_656 v0 (by decide) (by decide)) (zcons (zx_658 v0 (by decide) (by decide)) (zcons (zx_660 v0 (by decide) (by decide)) (zcons (zx_662 v0 (by decide) (by decide)) (zcons (zx_664 v0 (by decide) (by decide)) (zcons (zx_666 v0 (by decide) (by decide)) (zcons (zx_668 v0 (by decide) (by decide)) (zcons (zx_670 v0 (by decide) (by decide)) (zcons (zx_672 v0 (by decide) (by decide)) (zcons (zx_674 v0 (by decide) (by decide)) (zcons (zx_676 v0 (by decide) (by decide)) (zcons (zx_142 v0) (zcons (zx_142 v0) (zcons (zx_142 v0) znil))))))))))))))))))))))))))))))))))))))))))))))))
theorem zd_177 (v0 : Value) : zchk code (zk_177 ) = true := by decide +kernel
set_option maxRecDepth 100000 in
theorem zr_178 (v0 : Value) : ∀ q ∈ zk_178 , zrq (zt v0) "FigureCallerModel" false ((Option.some Jvm.ClassFile.FieldType.int)) 0 0 q := zr_of (zcons (zx_378 v0) (zcons (zx_100 v0) znil))
theorem zd_178 (v0 : Value) : zchk prog_13_method_2_code (zk_178 ) = true := by decide +kernel
