theorem zcl_in : ∀ r ∈ zCL, ∃ n, Jvm.Cond.instantiable r.1 n ∈ zWSL := List.forall_mem_cons.mpr ⟨⟨_, zw_85⟩, List.forall_mem_cons.mpr ⟨⟨_, zw_93⟩, List.forall_mem_cons.mpr ⟨⟨_, zw_110⟩, List.forall_mem_cons.mpr ⟨⟨_, zw_117⟩, List.forall_mem_cons.mpr ⟨⟨_, zw_179⟩, List.forall_mem_cons.mpr ⟨⟨_, zw_185⟩, List.forall_mem_cons.mpr ⟨⟨_, zw_256⟩, List.forall_mem_cons.mpr ⟨⟨_, zw_262⟩, List.forall_mem_cons.mpr ⟨⟨_, zw_283⟩, List.forall_mem_cons.mpr ⟨⟨_, zw_317⟩, List.forall_mem_cons.mpr ⟨⟨_, zw_926⟩, fun _ h => absurd h List.not_mem_nil⟩⟩⟩⟩⟩⟩⟩⟩⟩⟩⟩
/-- the law's frame at its entry: all that the interpreter's soundness asks -/
theorem zbegin {b : Nat} {s : State} {xs : List Int32} (hs : ∀ c ∈ flatC zNA, c.before #[Value.ref b] s = true) (hts : ∀ w ∈ lw_tbl, w.before #[Value.ref b] s = true) (hX : va_X b xs.length (fun j => xs.getD j 0) s s.heap) (hbl : b < s.heap.size) :
    ∃ (v0 : Value) (D : va_G) (aC : Nat → ClassId) (gad : Nat → Nat), (v0 = .null ∨ v0 = .ref 49) ∧ gad 0 = b ∧ zU (zt v0) D aC gad s.heap.size (zG xs) s := by
  have hA : ∀ a : Nat, a < s.heap.size → ¬ (fun q => s.heap.size ≤ q) a := fun a h1 h2 => Nat.not_lt.mpr h2 h1
  have hw : ∀ w ∈ zWSL, w.before #[Value.ref b] s = true := fun w h => hts w (List.mem_filter.mp h).1
  obtain ⟨t1, e1, T1⟩ := zst_1 hs hA
  obtain ⟨t2, e2, T2⟩ := zst_2 hs hA
  obtain ⟨t3, e3, T3⟩ := zst_3 hs hA
  obtain ⟨t4, e4, T4⟩ := zst_4 hs hA
  obtain ⟨k5, b5, e5, O5, C5, V5, B5⟩ := zst_5 hs hA
  obtain ⟨k6, b6, e6, O6, C6, V6, B6⟩ := zst_6 hs hA
  obtain ⟨m9, f9⟩ := zst_m hs (own := "FigureCaller") (k := 92) (by decide +kernel)
  obtain ⟨m10, f10⟩ := zst_m hs (own := "FigureCaller") (k := 103) (by decide +kernel)
  obtain ⟨m11, f11⟩ := zst_m hs (own := "FigureCaller") (k := 212) (by decide +kernel)
  obtain ⟨m12, f12⟩ := zst_m hs (own := "FigureCaller") (k := 204) (by decide +kernel)
  obtain ⟨m13, f13⟩ := zst_m hs (own := "FigureCaller") (k := 206) (by decide +kernel)
  obtain ⟨m14, f14⟩ := zst_m hs (own := "FigureCaller") (k := 132) (by decide +kernel)
  obtain ⟨m15, f15⟩ := zst_m hs (own := "FigureCaller") (k := 214) (by decide +kernel)
  obtain ⟨m16, f16⟩ := zst_m hs (own := "FigureCaller") (k := 142) (by decide +kernel)
  obtain ⟨m17, f17⟩ := zst_m hs (own := "FigureCaller") (k := 147) (by decide +kernel)
  obtain ⟨m18, f18⟩ := zst_m hs (own := "FigureCaller") (k := 153) (by decide +kernel)
  obtain ⟨m19, f19⟩ := zst_m hs (own := "FigureCaller") (k := 175) (by decide +kernel)
  obtain ⟨m20, f20⟩ := zst_m hs (own := "FigureCaller") (k := 188) (by decide +kernel)
  obtain ⟨vf, ef, rf⟩ := zref (hs (Jvm.Cond.isRef (.static "jdk/internal/util/Preconditions" "SIOOBE_FORMATTER" "Ljava/util/function/BiFunction;")) (by decide +kernel))
  have hcs := va_eqi (hs (Jvm.Cond.eq (.static "java/lang/String" "COMPACT_STRINGS" "Z") (.int 1)) (by decide +kernel))
  have hkn : ∀ c : Nat, ∃ q : ClassId × (Nat → Nat), ∀ r, zCL[c]? = some r → u_Kn s r.1 r.2.1 r.2.2 q.1 q.2 := by
    intro c
    cases hc : zCL[c]? with
    | none => exact ⟨(0, fun _ => 0), fun r h => by cases h⟩
    | some r =>
      have hin : ∃ n, Jvm.Cond.instantiable r.1 n ∈ zWSL := zcl_in r (List.mem_of_getElem? hc)
      obtain ⟨n, hn⟩ := hin
      obtain ⟨cC, iS, hk⟩ := u_known hw (zcl_ok r (List.mem_of_getElem? hc)).1 (hw _ hn)
      exact ⟨(cC, iS), fun r' h => by cases h; exact hk⟩
  obtain ⟨Df, hD⟩ := Classical.axiomOfChoice hkn
  have hpr : ∀ ty : FieldType, (Jvm.Cond.arrayClass ty).before #[Value.ref b] s = true → ∃ c : ClassId, ArrOfT s c ty ∧ s.vm.findClass ("[" ++ ty.toString) = some c := by
    intro ty h
    obtain ⟨c, k, comp, h1, h2, h3⟩ := Jvm.Cond.arrayClass_spec h
    exact ⟨c, fun n z => ⟨fun k h => (by cases h), k, h2, comp, h3⟩, h1⟩
  have hob : ∀ C : String, (Jvm.Cond.arrayOver (.object C)).before #[Value.ref b] s = true → ∃ c : ClassId, ArrOfT s c (.object C) ∧ va_RA s c (.object C) := by
    intro C h
    obtain ⟨comp, c, k, h1, -, h3, h4, h5⟩ := Jvm.Cond.arrayOver_spec h
    exact ⟨c, fun n z => ⟨fun k h => (by cases h), k, h3, comp, h4⟩, ⟨k, comp, h3, h4, h1, h5⟩⟩
  obtain ⟨ai, ai1, ai2⟩ := hpr .int (hw _ zw_153)
  obtain ⟨ac, ac1, ac2⟩ := hpr .char (hw _ zw_108)
  obtain ⟨az, az1, az2⟩ := hpr .boolean (hw _ zw_1065)
  obtain ⟨al, al1, al2⟩ := hpr .long (hw _ zw_1064)
  obtain ⟨aF, aF1, aF2⟩ := hob "FigureCaller$Figure" (hw _ zw_116)
  obtain ⟨aT, aT1, aT2⟩ := hob "FigureCaller$Track" (hw _ zw_316)
  have hv0 : ∃ (v0 : Value) (a49 : Nat), (v0 = .null ∨ v0 = .ref 49) ∧ ∀ ad : Nat → Nat, ad 49 = a49 → ztr ad v0 = vf := by
    cases vf with
    | null => exact ⟨.null, 0, Or.inl rfl, fun _ _ => rfl⟩
    | ref a => exact ⟨.ref 49, a, Or.inr rfl, fun ad h => by show Value.ref (ad 49) = _; rw [h]⟩
    | _ => simp [Value.isRef] at rf
  obtain ⟨v0, a49, hv, hvf⟩ := hv0
  refine ⟨v0, (fun c => (Df c).1, fun c => (Df c).2), fun k => match k with
    | 0 => ai
    | 1 => ac
    | 2 => az
    | 4 => al
    | 13 => aF
    | 19 => aT
    | _ => 0, fun g => match g with
    | 0 => b
    | 1 => t1
    | 2 => t2
    | 3 => t3
    | 4 => t4
    | 5 => k5
    | 6 => k6
    | 7 => b5
    | 8 => b6
    | 9 => m9
    | 10 => m10
    | 11 => m11
    | 12 => m12
    | 13 => m13
    | 14 => m14
    | 15 => m15
    | 16 => m16
    | 17 => m17
    | 18 => m18
    | 19 => m19
    | 20 => m20
    | 49 => a49
    | _ => 0, hv, rfl, ⟨fun c q hq => hD c q hq, fun k q hk => ?_⟩, fun g x hg => ?_, ?_, ?_, zTh_of hs hts, znc_of hs⟩
  · match k, hk with
    | 0, hk => cases hk; exact ⟨ai1, ai2⟩
    | 1, hk => cases hk; exact ⟨ac1, ac2⟩
    | 2, hk => cases hk; exact ⟨az1, az2⟩
    | 3, hk => cases hk; exact ⟨al1, al2⟩
    | 4, hk => cases hk; exact ⟨aF1, aF2⟩
    | 5, hk => cases hk; exact ⟨aT1, aT2⟩
    | n + 6, hk => exact absurd hk (by simp [ztys, zt, zel, zEL])
  · match g, hg with
    | 0, hg =>
      cases hg
      refine Or.inl ⟨rfl, ?_⟩
      obtain ⟨scr, h1, h2, h3, h4, h5⟩ := hX
      refine ⟨scr, h1, h2, h3, by rw [h4]; exact Nat.le_refl _, by rw [h4], h5, hA b hbl⟩
    | 1, hg => cases hg; exact Or.inl ⟨rfl, T1⟩
    | 2, hg => cases hg; exact Or.inl ⟨rfl, T2⟩
    | 3, hg => cases hg; exact Or.inl ⟨rfl, T3⟩
    | 4, hg => cases hg; exact Or.inl ⟨rfl, T4⟩
    | 5, hg => cases hg; exact ⟨rfl, O5, fun v h => by cases h; exact V5, fun v h => by cases h; exact C5⟩
    | 6, hg => cases hg; exact ⟨rfl, O6, fun v h => by cases h; exact V6, fun v h => by cases h; exact C6⟩
    | 7, hg => cases hg; exact Or.inr ⟨rfl, B5⟩
    | 8, hg => cases hg; exact Or.inr ⟨rfl, B6⟩
    | n + 9, hg => exact absurd hg (by simp [zG])
  · intro q hq
    simp only [zstt, zt, zSTT, List.mem_cons, List.not_mem_nil, or_false] at hq
    rcases hq with rfl | rfl | rfl | rfl | rfl | rfl
    · exact va_Zof (hts (Jvm.Cond.laysStatic "FigureCaller" "HOME_SPOTS" "[I") (List.mem_append_right _ (List.mem_of_getElem? (i := 278) (by decide +kernel)))) (hw _ zw_60) e1 hA
    · exact va_Zof (hts (Jvm.Cond.laysStatic "FigureCaller" "HOME_FACINGS" "[I") (List.mem_append_right _ (List.mem_of_getElem? (i := 280) (by decide +kernel)))) (hw _ zw_60) e2 hA
    · exact va_Zof (hts (Jvm.Cond.laysStatic "FigureCaller$Dancing" "EXCHANGED" "[I") (List.mem_append_right _ (List.mem_of_getElem? (i := 429) (by decide +kernel)))) (hw _ zw_66) e3 hA
    · exact va_Zof (hts (Jvm.Cond.laysStatic "FigureCaller$Dancing" "STRIDES" "[I") (List.mem_append_right _ (List.mem_of_getElem? (i := 441) (by decide +kernel)))) (hw _ zw_66) e4 hA
    · exact va_Zof (hts (Jvm.Cond.laysStatic "java/lang/String" "COMPACT_STRINGS" "Z") (List.mem_append_right _ (List.mem_of_getElem? (i := 528) (by decide +kernel)))) (hw _ zw_71) hcs hA
    · exact va_Zof (hts (Jvm.Cond.laysStatic "jdk/internal/util/Preconditions" "SIOOBE_FORMATTER" "Ljava/util/function/BiFunction;") (List.mem_append_right _ (List.mem_of_getElem? (i := 544) (by decide +kernel)))) (hw _ zw_73) (by rw [hvf _ rfl]; exact ef) hA
  · intro q hq
    simp only [zsrf, zt, zSRF, List.mem_cons, List.not_mem_nil, or_false] at hq
    rcases hq with rfl | rfl | rfl | rfl | rfl | rfl | rfl | rfl | rfl | rfl | rfl | rfl | rfl | rfl
    · exact vk_R.of (hts _ (List.mem_append_right _ (List.mem_of_getElem? (i := 514) (by decide +kernel)))) e5
    · exact vk_R.of (hts _ (List.mem_append_right _ (List.mem_of_getElem? (i := 567) (by decide +kernel)))) e6
    · exact vk_R.of (hts _ (List.mem_append_right _ (List.mem_of_getElem? (i := 682) (by decide +kernel)))) f9
    · exact vk_R.of (hts _ (List.mem_append_right _ (List.mem_of_getElem? (i := 722) (by decide +kernel)))) f10
    · exact vk_R.of (hts _ (List.mem_append_right _ (List.mem_of_getElem? (i := 752) (by decide +kernel)))) f11
    · exact vk_R.of (hts _ (List.mem_append_right _ (List.mem_of_getElem? (i := 765) (by decide +kernel)))) f12
    · exact vk_R.of (hts _ (List.mem_append_right _ (List.mem_of_getElem? (i := 768) (by decide +kernel)))) f13
    · exact vk_R.of (hts _ (List.mem_append_right _ (List.mem_of_getElem? (i := 784) (by decide +kernel)))) f14
    · exact vk_R.of (hts _ (List.mem_append_right _ (List.mem_of_getElem? (i := 795) (by decide +kernel)))) f15
    · exact vk_R.of (hts _ (List.mem_append_right _ (List.mem_of_getElem? (i := 796) (by decide +kernel)))) f16
    · exact vk_R.of (hts _ (List.mem_append_right _ (List.mem_of_getElem? (i := 820) (by decide +kernel)))) f17
    · exact vk_R.of (hts _ (List.mem_append_right _ (List.mem_of_getElem? (i := 832) (by decide +kernel)))) f18
    · exact vk_R.of (hts _ (List.mem_append_right _ (List.mem_of_getElem? (i := 845) (by decide +kernel)))) f19
    · exact vk_R.of (hts _ (List.mem_append_right _ (List.mem_of_getElem? (i := 853) (by decide +kernel)))) f20
