def zthc (mi : Nat) (l : List (Nat × zI)) : Bool := l.all fun q => match q.2.1 with
  | .new k => decide (q.2.2.1 < 100) || zTS.elem (mi, q.1, q.2.2.1, k)
  | _ => true
theorem zthc_all : ((zKS .null).zipIdx.all fun q => zthc q.2 q.1) = true := by decide +kernel
set_option maxRecDepth 100000 in
theorem zks_set (v0 : Value) : zKS v0 = (zKS .null).set 36 (zk_36 v0) := rfl
theorem zget0 {v0 : Value} {mi pc : Nat} {i : Instr} {a b c : Nat} {v : Value} (h : zcd (zt v0) mi pc = some (i, a, b, c, v)) : ∃ l0 v', (zKS .null)[mi]? = some l0 ∧ (pc, (i, a, b, c, v')) ∈ l0 := by
  obtain ⟨l, hl, hm⟩ := zget h
  by_cases hmi : mi = 36
  · subst hmi
    have h1 : l = zk_36 v0 := by
      rw [zks_set, List.getElem?_set_self (by rw [zlen_ok]; decide)] at hl
      exact (Option.some.inj hl).symm
    subst h1
    simp only [zk_36, List.mem_cons, Prod.mk.injEq, List.not_mem_nil, or_false] at hm
    refine ⟨zk_36 .null, ?_⟩
    rcases hm with ⟨rfl, rfl, rfl, rfl, rfl, rfl⟩ | ⟨rfl, rfl, rfl, rfl, rfl, rfl⟩ | ⟨rfl, rfl, rfl, rfl, rfl, rfl⟩ | ⟨rfl, rfl, rfl, rfl, rfl, rfl⟩ | ⟨rfl, rfl, rfl, rfl, rfl, rfl⟩ | ⟨rfl, rfl, rfl, rfl, rfl, rfl⟩ <;> exact ⟨.null, rfl, by simp [zk_36]⟩
  · rw [zks_set, List.getElem?_set_ne (fun h => hmi h.symm)] at hl
    exact ⟨l, v, hl, hm⟩
theorem zT_ok (v0 : Value) (mi pc : Nat) (i : Instr) (a b c : Nat) (v : Value) (h : zcd (zt v0) mi pc = some (i, a, b, c, v)) (hk : zki i = 1) (ha : 100 ≤ a) : zokT (zt v0) mi pc a i := by
  obtain ⟨l, v', hl, hm⟩ := zget0 h
  have hp := List.all_eq_true.mp zthc_all (l, mi) (List.mk_mem_zipIdx_iff_getElem?.mpr hl)
  have h1 := List.all_eq_true.mp hp _ hm
  cases i <;> simp [zki] at hk
  rename_i k
  simp only [Bool.or_eq_true, decide_eq_true_eq] at h1
  rcases h1 with h1 | h1
  · omega
  · exact zts_ok v0 (mi, pc, a, k) (List.elem_iff.mp h1)
theorem zca_65_100 (v0 : Value) : zokC (zt v0) 65 3 100 11 := Or.inl ⟨0, 8, 13, _, "java/lang/IllegalArgumentException", rfl, by decide, by decide, by decide, zw_527, zw_702⟩
theorem zca_65_101 (v0 : Value) : zokC (zt v0) 65 3 101 14 := Or.inr ⟨0, 8, 11, 13, "java/lang/IllegalArgumentException", 0, 8, 15, _, "java/lang/IllegalStateException", rfl, by decide, by decide, by decide, by decide, by decide, by decide, zw_527, (by decide +kernel : ("java/lang/IllegalStateException", "java/lang/IllegalArgumentException") ∈ znc), zw_528, zw_774⟩
theorem zca_88_100 (v0 : Value) : zokC (zt v0) 88 4 100 12 := Or.inl ⟨0, 9, 13, _, "java/lang/IllegalArgumentException", rfl, by decide, by decide, by decide, zw_527, zw_702⟩
theorem zca_109_100 (v0 : Value) : zokC (zt v0) 109 4 100 12 := Or.inl ⟨0, 9, 13, _, "java/lang/IllegalArgumentException", rfl, by decide, by decide, by decide, zw_527, zw_702⟩
theorem zca_109_101 (v0 : Value) : zokC (zt v0) 109 4 101 15 := Or.inr ⟨0, 9, 12, 13, "java/lang/IllegalArgumentException", 0, 9, 15, _, "java/lang/IllegalStateException", rfl, by decide, by decide, by decide, by decide, by decide, by decide, zw_527, (by decide +kernel : ("java/lang/IllegalStateException", "java/lang/IllegalArgumentException") ∈ znc), zw_528, zw_774⟩
theorem zca_127_100 (v0 : Value) : zokC (zt v0) 127 4 100 12 := Or.inl ⟨0, 9, 13, _, "java/lang/IllegalArgumentException", rfl, by decide, by decide, by decide, zw_527, zw_702⟩
theorem zca_127_101 (v0 : Value) : zokC (zt v0) 127 4 101 15 := Or.inr ⟨0, 9, 12, 13, "java/lang/IllegalArgumentException", 0, 9, 15, _, "java/lang/IllegalStateException", rfl, by decide, by decide, by decide, by decide, by decide, by decide, zw_527, (by decide +kernel : ("java/lang/IllegalStateException", "java/lang/IllegalArgumentException") ∈ znc), zw_528, zw_774⟩
theorem zca_132_101 (v0 : Value) : zokC (zt v0) 132 3 101 11 := Or.inl ⟨0, 8, 15, _, "java/lang/IllegalStateException", rfl, by decide, by decide, by decide, zw_528, zw_774⟩
theorem zca_139_100 (v0 : Value) : zokC (zt v0) 139 5 100 13 := Or.inl ⟨0, 10, 13, _, "java/lang/IllegalArgumentException", rfl, by decide, by decide, by decide, zw_527, zw_702⟩
theorem zca_144_100 (v0 : Value) : zokC (zt v0) 144 5 100 13 := Or.inl ⟨0, 10, 13, _, "java/lang/IllegalArgumentException", rfl, by decide, by decide, by decide, zw_527, zw_702⟩
theorem zca_144_102 (v0 : Value) : zokC (zt v0) 144 5 102 17 := Or.inr ⟨0, 10, 13, 13, "java/lang/IllegalArgumentException", 0, 10, 37, _, "java/lang/IndexOutOfBoundsException", rfl, by decide, by decide, by decide, by decide, by decide, by decide, zw_527, (by decide +kernel : ("java/lang/IndexOutOfBoundsException", "java/lang/IllegalArgumentException") ∈ znc), zw_859, zw_866⟩
theorem zca_147_100 (v0 : Value) : zokC (zt v0) 147 5 100 20 := Or.inl ⟨0, 17, 13, _, "java/lang/IllegalArgumentException", rfl, by decide, by decide, by decide, zw_527, zw_702⟩
theorem zca_155_100 (v0 : Value) : zokC (zt v0) 155 3 100 9 := Or.inl ⟨0, 6, 13, _, "java/lang/IllegalArgumentException", rfl, by decide, by decide, by decide, zw_527, zw_702⟩
theorem zca_155_101 (v0 : Value) : zokC (zt v0) 155 3 101 12 := Or.inr ⟨0, 6, 9, 13, "java/lang/IllegalArgumentException", 0, 6, 15, _, "java/lang/IllegalStateException", rfl, by decide, by decide, by decide, by decide, by decide, by decide, zw_527, (by decide +kernel : ("java/lang/IllegalStateException", "java/lang/IllegalArgumentException") ∈ znc), zw_528, zw_774⟩
theorem zca_170_102 (v0 : Value) : zokC (zt v0) 170 4 102 12 := Or.inl ⟨0, 9, 37, _, "java/lang/IndexOutOfBoundsException", rfl, by decide, by decide, by decide, zw_859, zw_866⟩
theorem zca_174_100 (v0 : Value) : zokC (zt v0) 174 5 100 20 := Or.inl ⟨0, 17, 13, _, "java/lang/IllegalArgumentException", rfl, by decide, by decide, by decide, zw_527, zw_702⟩
theorem zhl_ok (v0 : Value) : ∀ q ∈ zHL, ∀ r ∈ q.2.2, zokC (zt v0) q.1 q.2.1 r.1 r.2 := List.forall_mem_cons.mpr ⟨List.forall_mem_cons.mpr ⟨zca_65_100 v0, List.forall_mem_cons.mpr ⟨zca_65_101 v0, fun _ h => absurd h List.not_mem_nil⟩⟩, List.forall_mem_cons.mpr ⟨List.forall_mem_cons.mpr ⟨zca_88_100 v0, fun _ h => absurd h List.not_mem_nil⟩, List.forall_mem_cons.mpr ⟨List.forall_mem_cons.mpr ⟨zca_109_100 v0, List.forall_mem_cons.mpr ⟨zca_109_101 v0, fun _ h => absurd h List.not_mem_nil⟩⟩, List.forall_mem_cons.mpr ⟨List.forall_mem_cons.mpr ⟨zca_127_100 v0, List.forall_mem_cons.mpr ⟨zca_127_101 v0, fun _ h => absurd h List.not_mem_nil⟩⟩, List.forall_mem_cons.mpr ⟨List.forall_mem_cons.mpr ⟨zca_132_101 v0, fun _ h => absurd h List.not_mem_nil⟩, List.forall_mem_cons.mpr ⟨List.forall_mem_cons.mpr ⟨zca_139_100 v0, fun _ h => absurd h List.not_mem_nil⟩, List.forall_mem_cons.mpr ⟨List.forall_mem_cons.mpr ⟨zca_144_100 v0, List.forall_mem_cons.mpr ⟨zca_144_102 v0, fun _ h => absurd h List.not_mem_nil⟩⟩, List.forall_mem_cons.mpr ⟨List.forall_mem_cons.mpr ⟨zca_147_100 v0, fun _ h => absurd h List.not_mem_nil⟩, List.forall_mem_cons.mpr ⟨List.forall_mem_cons.mpr ⟨zca_155_100 v0, List.forall_mem_cons.mpr ⟨zca_155_101 v0, fun _ h => absurd h List.not_mem_nil⟩⟩, List.forall_mem_cons.mpr ⟨List.forall_mem_cons.mpr ⟨zca_170_102 v0, fun _ h => absurd h List.not_mem_nil⟩, List.forall_mem_cons.mpr ⟨List.forall_mem_cons.mpr ⟨zca_174_100 v0, fun _ h => absurd h List.not_mem_nil⟩, fun _ h => absurd h List.not_mem_nil⟩⟩⟩⟩⟩⟩⟩⟩⟩⟩⟩
theorem zC_ok (v0 : Value) (mi pc x h : Nat) (hh : zhn (zt v0) mi pc x = some h) (hq : ¬ zhd (zcd (zt v0)) (zhn (zt v0)) (znl (zt v0) mi) mi pc x = none) : zokC (zt v0) mi pc x h := by
  have h0 : zHN mi pc x = some h := hh
  obtain ⟨⟨g, k⟩, hq2⟩ := Option.ne_none_iff_exists'.mp hq
  obtain ⟨h1, e1, -, hcase⟩ := zhd_spec hq2
  cases hh.symm.trans e1
  have hc2 : ∃ (i : Instr) (r : Nat × Nat × Nat × Value), zcd (zt v0) mi h = some (i, r) := by
    rcases hcase with ⟨k4, r, hc, -, -⟩ | ⟨r, hc, -⟩
    · exact ⟨_, r, hc⟩
    · exact ⟨_, r, hc⟩
  obtain ⟨i4, r, hc⟩ := hc2
  have h9 : h ≠ 9999 := by
    intro e
    subst e
    obtain ⟨a4, b4, c4, v4⟩ := r
    obtain ⟨l, v', hl, hm⟩ := zget0 hc
    have hall : ((zKS .null).all fun l => l.all fun q => decide (q.1 < 9999)) = true := by decide +kernel
    have hp := List.all_eq_true.mp hall l (List.mem_of_getElem? hl)
    have h1 := List.all_eq_true.mp hp _ hm
    simp at h1
  unfold zHN at h0
  split at h0
  · cases h0
  · rename_i p0 m hm
    split at h0
    · rename_i hpc
      subst hpc
      cases hx : m.lookup x with
      | none =>
        rw [hx] at h0
        cases h0
        exact absurd rfl h9
      | some h2 =>
        rw [hx] at h0
        have e : h2 = h := Option.some.inj h0
        subst e
        exact zhl_ok v0 (mi, pc, m) (zlook hm) (x, h2) (zlook hx)
    · cases h0
      exact absurd rfl h9
