/-! The interpreter's frame instructions are the machine's. -/
def zad (gad : Nat → Nat) (base k : Nat) : Nat := if k < 50 then gad k else base + (k - 50)
def ztr (ad : Nat → Nat) (v : Value) : Value := match v with
  | .ref k => .ref (ad k)
  | .int x => .int x
  | .long x => .long x
  | .float x => .float x
  | .double x => .double x
  | .null => .null
  | .retAddr x => .retAddr x
def ztl (ad : Nat → Nat) (lv : zL) : zL := lv.map fun q => (q.1, ztr ad q.2)
theorem ztr_cat (ad : Nat → Nat) (v : Value) : (ztr ad v).category = v.category := by cases v <;> rfl
theorem zcat_tr (ad : Nat → Nat) (st : List Value) : ((st.map (ztr ad)).map fun v => v.category).sum = zcat st := by
  unfold zcat
  rw [List.map_map]
  congr 1
  exact List.map_congr_left fun v _ => ztr_cat ad v
theorem zlv_mem {lv : zL} {i : Nat} {v : Value} (h : zlv lv i = some v) : (i, v) ∈ lv := by
  induction lv with
  | nil => cases h
  | cons q r ih =>
    simp only [zlv] at h
    split at h
    · rename_i hq
      cases h
      subst hq
      exact List.mem_cons_self
    · exact List.mem_cons_of_mem _ (ih h)
theorem zl_at {ad : Nat → Nat} {ls : Array Slot} {nL : Nat} {lv : zL} {i : Nat} {v : Value} (hl : lv_has ls nL (ztl ad lv)) (h : zlv lv i = some v) : ls[i]? = some (.val (ztr ad v)) :=
  hl.2.2 (i, ztr ad v) (List.mem_map.mpr ⟨(i, v), zlv_mem h, rfl⟩)
theorem zl_pos {ad : Nat → Nat} {lv : zL} {i : Nat} {v : Value} (h : zlv lv i = some v) : ∃ k : Nat, (ztl ad lv)[k]? = some (i, ztr ad v) :=
  List.getElem?_of_mem (List.mem_map.mpr ⟨(i, v), zlv_mem h, rfl⟩)
theorem zf1_tr (ad : Nat → Nat) (i : Nat) (lv : zL) : (ztl ad lv).filter (fun q => !(q.1 == i) && !(q.1 + 1 == i && q.2.category == 2)) = ztl ad (zf1 i lv) := by
  unfold ztl zf1
  rw [List.filter_map]
  congr 1
  apply List.filter_congr
  intro q _
  simp [Function.comp, ztr_cat]
theorem zf2_tr (ad : Nat → Nat) (i : Nat) (lv : zL) : (ztl ad lv).filter (fun q => !(q.1 == i) && (!(q.1 == i + 1) && !(q.1 + 1 == i && q.2.category == 2))) = ztl ad (zf2 i lv) := by
  unfold ztl zf2
  rw [List.filter_map]
  congr 1
  apply List.filter_congr
  intro q _
  simp [Function.comp, ztr_cat]
theorem ztgt_spec {pc t : Nat} {o : Int} (h : ztgt pc o = some t) : (pc : Int) + o = (t : Int) := by
  unfold ztgt at h
  split at h
  · cases h
    omega
  · cases h
/-- how long an instruction is -/
def zlk (i : Instr) (n : Nat) : Bool := match i with
  | .tableswitch .. => true
  | .bipush _ | .iload _ | .lload _ | .aload _ | .istore _ | .lstore _ | .astore _ | .ldc _ | .newarray _ => n == 2
  | .sipush _ | .iinc .. | .ldc2_w _ | .goto _ | .ifCond .. | .if_icmp .. | .getstatic _ | .getfield _ | .putfield _ | .new _ | .anewarray _ | .invokevirtual _ | .invokespecial _ | .invokestatic _ => n == 3
  | _ => n == 1
section zA
variable {p : Program} {l : Launch} {e : Env} {R : Room} {s : State} {m : MethodId} {args : Array Value} {below : List Frame} {meth : Method} {c : Code} {H : Heap} {locs : List Loc} {cells slots : Nat} {Q : State → Prop}
variable {cc : ByteArray} {pc : Nat} {ls : Array Slot} {own : String} {ad : Nat → Nat}
/-- what the tables say of a constant that an instruction takes from outside the frame -/
def zcst (own : String) (ad : Nat → Nat) (args : Array Value) (s : State) (A : Nat → Prop) (i : Instr) (v : Value) : Prop := match i with
  | .ldc k => match v with
    | .int x => (Jvm.Cond.constant own k x).before args s = true
    | .ref g => ∃ tx, vk_R own k tx (ad g) s
    | _ => True
  | .ldc2_w k => match v with
    | .long x => (Jvm.Cond.constantLong own k x).before args s = true
    | _ => True
  | .getstatic k => ∃ C n d, va_Z C n d (ztr ad v) A s s.heap ∧ ((Jvm.Cond.fieldLink own k C n d).before args s = true ∨ ∃ host, (Jvm.Cond.fieldLinkNest own k C n d host).before args s = true)
  | _ => True
theorem zif (hexec : p.tables.exec = Jvm.exec) (hb : c.code = cc) {k : Jvm.ClassFile.Cond} {x : Int32} {off : Int} {tgt : Nat} {rest : List Value} (hdg : decode cc pc = .ok (.ifCond k off, 3)) (ht : (pc : Int) + off = (tgt : Int))
    (kk : W p l e R s m args below meth c H locs cells slots Q (F0 m (if zc1 k x then tgt else pc + 3) ls rest)) : W p l e R s m args below meth c H locs cells slots Q (F0 m pc ls (.int x :: rest)) := by
  cases k with
  | eq => exact lv_if_eq hexec hb hdg ht (fun h => by simpa [zc1, h] using kk) (fun h => by simpa [zc1, h] using kk)
  | ne => exact lv_if_ne hexec hb hdg ht (fun h => by simpa [zc1, h] using kk) (fun h => by simpa [zc1, h] using kk)
  | lt => exact lv_if_lt hexec hb hdg ht (fun h => by simpa [zc1, h] using kk) (fun h => by simpa [zc1, h] using kk)
  | ge => exact lv_if_ge hexec hb hdg ht (fun h => by simpa [zc1, h] using kk) (fun h => by simpa [zc1, h] using kk)
  | gt => exact lv_if_gt hexec hb hdg ht (fun h => by simpa [zc1, h] using kk) (fun h => by simpa [zc1, h] using kk)
  | le => exact lv_if_le hexec hb hdg ht (fun h => by simpa [zc1, h] using kk) (fun h => by simpa [zc1, h] using kk)
theorem zicmp (hexec : p.tables.exec = Jvm.exec) (hb : c.code = cc) {k : Jvm.ClassFile.Cond} {x y : Int32} {off : Int} {tgt : Nat} {rest : List Value} (hdg : decode cc pc = .ok (.if_icmp k off, 3)) (ht : (pc : Int) + off = (tgt : Int))
    (kk : W p l e R s m args below meth c H locs cells slots Q (F0 m (if zc2 k x y then tgt else pc + 3) ls rest)) : W p l e R s m args below meth c H locs cells slots Q (F0 m pc ls (.int y :: .int x :: rest)) := by
  cases k with
  | eq => exact lv_icmp_eq hexec hb hdg ht (fun h => by simpa [zc2, h] using kk) (fun h => by simpa [zc2, h] using kk)
  | ne => exact lv_icmp_ne hexec hb hdg ht (fun h => by simpa [zc2, h] using kk) (fun h => by simpa [zc2, h] using kk)
  | lt => exact lv_icmp_lt hexec hb hdg ht (fun h => by simpa [zc2, h] using kk) (fun h => by simpa [zc2, h] using kk)
  | ge => exact lv_icmp_ge hexec hb hdg ht (fun h => by simpa [zc2, h] using kk) (fun h => by simpa [zc2, h] using kk)
  | gt => exact lv_icmp_gt hexec hb hdg ht (fun h => by simpa [zc2, h] using kk) (fun h => by simpa [zc2, h] using kk)
  | le => exact lv_icmp_le hexec hb hdg ht (fun h => by simpa [zc2, h] using kk) (fun h => by simpa [zc2, h] using kk)
set_option maxHeartbeats 4000000 in
theorem za_sound (hexec : p.tables.exec = Jvm.exec) (hb : c.code = cc) {A : Nat → Prop} {i : Instr} {v : Value} {nL n : Nat} {lv : zL} {st : List Value} {q : Nat × zL × List Value} (hown : s.vm.findClass own = some m.cls) (hS : va_S A s.heap H locs)
    (hd : decode cc pc = .ok (i, n)) (hn : zlk i n = true) (h : za i v nL pc lv st = some q) (hl : lv_has ls nL (ztl ad lv)) (hv : zcst own ad args s A i v)
    (k : ∀ ls' : Array Slot, lv_has ls' nL (ztl ad q.2.1) → W p l e R s m args below meth c H locs cells slots Q (F0 m q.1 ls' (q.2.2.map (ztr ad)))) :
    W p l e R s m args below meth c H locs cells slots Q (F0 m pc ls (st.map (ztr ad))) := by
  cases i with
  | iconst z =>
    have e1 : n = 1 := by simpa [zlk] using hn
    subst e1
    simp only [za, Option.some.injEq] at h
    subst h
    exact lv_iconst hexec hb hd rfl (k ls hl)
  | bipush z =>
    have e1 : n = 2 := by simpa [zlk] using hn
    subst e1
    simp only [za, Option.some.injEq] at h
    subst h
    exact lv_bipush hexec hb hd rfl (k ls hl)
  | sipush z =>
    have e1 : n = 3 := by simpa [zlk] using hn
    subst e1
    simp only [za, Option.some.injEq] at h
    subst h
    exact lv_sipush hexec hb hd rfl (k ls hl)
  | lconst z =>
    have e1 : n = 1 := by simpa [zlk] using hn
    subst e1
    simp only [za, Option.some.injEq] at h
    subst h
    exact lv_lconst hexec hb hd rfl (k ls hl)
  | iload_n z =>
    have e1 : n = 1 := by simpa [zlk] using hn
    subst e1
    simp only [za] at h
    split at h
    · rename_i x hx
      cases h
      exact lv_iload_n hexec hb hd rfl (zl_at hl hx) (k ls hl)
    · cases h
  | iload z =>
    have e1 : n = 2 := by simpa [zlk] using hn
    subst e1
    simp only [za] at h
    split at h
    · rename_i x hx
      cases h
      exact lv_iload hexec hb hd (zl_at hl hx) (k ls hl)
    · cases h
  | lload_n z =>
    have e1 : n = 1 := by simpa [zlk] using hn
    subst e1
    simp only [za] at h
    split at h
    · rename_i x hx
      cases h
      exact lv_lload_n hexec hb hd rfl (zl_at hl hx) (k ls hl)
    · cases h
  | lload z =>
    have e1 : n = 2 := by simpa [zlk] using hn
    subst e1
    simp only [za] at h
    split at h
    · rename_i x hx
      cases h
      exact lv_lload hexec hb hd (zl_at hl hx) (k ls hl)
    · cases h
  | aload_n z =>
    have e1 : n = 1 := by simpa [zlk] using hn
    subst e1
    simp only [za] at h
    split at h
    · rename_i x hx
      cases h
      exact lv_aload_n hexec hb hd rfl (zl_at hl hx) (k ls hl)
    · cases h
  | aload z =>
    have e1 : n = 2 := by simpa [zlk] using hn
    subst e1
    simp only [za] at h
    split at h
    · rename_i x hx
      cases h
      exact lv_aload hexec hb hd (zl_at hl hx) (k ls hl)
    · cases h
  | istore_n z =>
    have e1 : n = 1 := by simpa [zlk] using hn
    subst e1
    simp only [za] at h
    split at h
    · rename_i x r
      split at h
      · rename_i hz
        cases h
        exact lv_istore_n hexec hb hd rfl hl hz (by rw [zf1_tr]; rfl) k
      · cases h
    · cases h
  | istore z =>
    have e1 : n = 2 := by simpa [zlk] using hn
    subst e1
    simp only [za] at h
    split at h
    · rename_i x r
      split at h
      · rename_i hz
        cases h
        exact lv_istore hexec hb hd hl hz (by rw [zf1_tr]; rfl) k
      · cases h
    · cases h
  | lstore_n z =>
    have e1 : n = 1 := by simpa [zlk] using hn
    subst e1
    simp only [za] at h
    split at h
    · rename_i x r
      split at h
      · rename_i hz
        cases h
        exact lv_lstore_n hexec hb hd rfl hl hz (by rw [zf2_tr]; rfl) k
      · cases h
    · cases h
  | lstore z =>
    have e1 : n = 2 := by simpa [zlk] using hn
    subst e1
    simp only [za] at h
    split at h
    · rename_i x r
      split at h
      · rename_i hz
        cases h
        exact lv_lstore hexec hb hd hl hz (by rw [zf2_tr]; rfl) k
      · cases h
    · cases h
  | astore_n z =>
    have e1 : n = 1 := by simpa [zlk] using hn
    subst e1
    simp only [za] at h
    split at h
    · rename_i x r
      split at h
      · rename_i hz
        cases h
        exact lv_astore_n hexec hb hd rfl hl hz (by rw [zf1_tr]; rfl) k
      · cases h
    · cases h
  | astore z =>
    have e1 : n = 2 := by simpa [zlk] using hn
    subst e1
    simp only [za] at h
    split at h
    · rename_i x r
      split at h
      · rename_i hz
        cases h
        exact lv_astore hexec hb hd hl hz (by rw [zf1_tr]; rfl) k
      · cases h
    · cases h
  | iinc z w =>
    have e1 : n = 3 := by simpa [zlk] using hn
    subst e1
    simp only [za] at h
    split at h
    · rename_i x hx
      split at h
      · rename_i hz
        cases h
        obtain ⟨j, hj⟩ := zl_pos (ad := ad) hx
        exact lv_iinc hexec hb hd hl hj rfl hz (by rw [zf1_tr]; rfl) k
      · cases h
    · cases h
  | ldc z =>
    have e1 : n = 2 := by simpa [zlk] using hn
    subst e1
    simp only [za] at h
    split at h
    · cases h
      exact lv_ldc hexec hb hown hv hd (k ls hl)
    · cases h
      obtain ⟨tx, ht⟩ := hv
      exact va_ldcS hexec hb hown ht hd (k ls hl)
    · cases h
  | ldc2_w z =>
    have e1 : n = 3 := by simpa [zlk] using hn
    subst e1
    simp only [za] at h
    split at h
    · cases h
      exact lv_ldc2 hexec hb hown hv hd (k ls hl)
    · cases h
  | i2l =>
    have e1 : n = 1 := by simpa [zlk] using hn
    subst e1
    simp only [za] at h
    split at h
    · cases h
      exact lv_i2l hexec hb hd rfl (k ls hl)
    · cases h
  | l2i =>
    have e1 : n = 1 := by simpa [zlk] using hn
    subst e1
    simp only [za] at h
    split at h
    · cases h
      exact lv_l2i hexec hb hd rfl (k ls hl)
    · cases h
  | i2c =>
    have e1 : n = 1 := by simpa [zlk] using hn
    subst e1
    simp only [za] at h
    split at h
    · cases h
      exact lv_i2c hexec hb hd rfl (k ls hl)
    · cases h
  | lushr =>
    have e1 : n = 1 := by simpa [zlk] using hn
    subst e1
    simp only [za] at h
    split at h
    · cases h
      exact lv_lushr hexec hb hd rfl (k ls hl)
    · cases h
  | lshl =>
    have e1 : n = 1 := by simpa [zlk] using hn
    subst e1
    simp only [za] at h
    split at h
    · cases h
      exact lv_lshl hexec hb hd rfl (k ls hl)
    · cases h
  | lcmp =>
    have e1 : n = 1 := by simpa [zlk] using hn
    subst e1
    simp only [za] at h
    split at h
    · cases h
      exact W.lcmp hexec hb hd (k ls hl)
    · cases h
  | dup =>
    have e1 : n = 1 := by simpa [zlk] using hn
    subst e1
    simp only [za] at h
    split at h
    · cases h
      exact lv_dup hexec hb hd rfl (k ls hl)
    · cases h
      exact lv_dup hexec hb hd rfl (k ls hl)
    · cases h
  | dup2 =>
    have e1 : n = 1 := by simpa [zlk] using hn
    subst e1
    simp only [za] at h
    split at h
    · cases h
      exact lv_dup2_11 hexec hb hd rfl rfl (k ls hl)
    · cases h
      exact lv_dup2_11 hexec hb hd rfl rfl (k ls hl)
    · cases h
  | pop =>
    have e1 : n = 1 := by simpa [zlk] using hn
    subst e1
    simp only [za] at h
    split at h
    · cases h
      exact lv_pop hexec hb hd rfl (k ls hl)
    · cases h
      exact lv_pop hexec hb hd rfl (k ls hl)
    · cases h
  | goto z =>
    have e1 : n = 3 := by simpa [zlk] using hn
    subst e1
    simp only [za] at h
    split at h
    · rename_i t ht
      cases h
      exact lv_goto hexec hb hd (ztgt_spec ht) (k ls hl)
    · cases h
  | ifCond z w =>
    have e1 : n = 3 := by simpa [zlk] using hn
    subst e1
    simp only [za] at h
    split at h
    · split at h
      · rename_i t ht
        cases h
        exact zif hexec hb hd (ztgt_spec ht) (k ls hl)
      · cases h
    · cases h
  | if_icmp z w =>
    have e1 : n = 3 := by simpa [zlk] using hn
    subst e1
    simp only [za] at h
    split at h
    · split at h
      · rename_i t ht
        cases h
        exact zicmp hexec hb hd (ztgt_spec ht) (k ls hl)
      · cases h
    · cases h
  | tableswitch z lo hi os =>
    simp only [za] at h
    split at h
    · rename_i x r
      split at h
      · rename_i o ho
        split at h
        · rename_i t ht
          cases h
          split at ho
          · rename_i hx
            cases ho
            exact lv_tableOut hexec hb hd hx (ztgt_spec ht) (k ls hl)
          · rename_i hx
            exact lv_tableIn hexec hb hd (fun z => hx (Or.inl z)) (fun z => hx (Or.inr z)) ho (ztgt_spec ht) (k ls hl)
        · cases h
      · cases h
    · cases h
  | getstatic z =>
    have e1 : n = 3 := by simpa [zlk] using hn
    subst e1
    obtain ⟨C, nm, ds, hZ, hlk⟩ := hv
    simp only [za] at h
    split at h
    · cases h
      rcases hlk with hlk | ⟨host, hlk⟩
      · exact va_gets hexec hb hZ hS hown hlk (fun _ h => h) hd (k ls hl)
      · exact va_getsN hexec hb hZ hS hown hlk (fun _ h => h) hd (k ls hl)
    · cases h
      rcases hlk with hlk | ⟨host, hlk⟩
      · exact va_gets hexec hb hZ hS hown hlk (fun _ h => h) hd (k ls hl)
      · exact va_getsN hexec hb hZ hS hown hlk (fun _ h => h) hd (k ls hl)
    · cases h
      rcases hlk with hlk | ⟨host, hlk⟩
      · exact va_gets hexec hb hZ hS hown hlk (fun _ h => h) hd (k ls hl)
      · exact va_getsN hexec hb hZ hS hown hlk (fun _ h => h) hd (k ls hl)
    · cases h
  | iadd =>
    have e1 : n = 1 := by simpa [zlk] using hn
    subst e1
    simp only [za, zo2] at h
    split at h
    · cases h
      exact lv_iadd hexec hb hd (k ls hl)
    · cases h
  | isub =>
    have e1 : n = 1 := by simpa [zlk] using hn
    subst e1
    simp only [za, zo2] at h
    split at h
    · cases h
      exact lv_isub hexec hb hd (k ls hl)
    · cases h
  | imul =>
    have e1 : n = 1 := by simpa [zlk] using hn
    subst e1
    simp only [za, zo2] at h
    split at h
    · cases h
      exact lv_imul hexec hb hd (k ls hl)
    · cases h
  | iand =>
    have e1 : n = 1 := by simpa [zlk] using hn
    subst e1
    simp only [za, zo2] at h
    split at h
    · cases h
      exact lv_iand hexec hb hd (k ls hl)
    · cases h
  | ior =>
    have e1 : n = 1 := by simpa [zlk] using hn
    subst e1
    simp only [za, zo2] at h
    split at h
    · cases h
      exact lv_ior hexec hb hd (k ls hl)
    · cases h
  | ixor =>
    have e1 : n = 1 := by simpa [zlk] using hn
    subst e1
    simp only [za, zo2] at h
    split at h
    · cases h
      exact lv_ixor hexec hb hd (k ls hl)
    · cases h
  | ishl =>
    have e1 : n = 1 := by simpa [zlk] using hn
    subst e1
    simp only [za, zo2] at h
    split at h
    · cases h
      exact lv_ishl hexec hb hd (k ls hl)
    · cases h
  | ishr =>
    have e1 : n = 1 := by simpa [zlk] using hn
    subst e1
    simp only [za, zo2] at h
    split at h
    · cases h
      exact lv_ishr hexec hb hd (k ls hl)
    · cases h
  | idiv =>
    have e1 : n = 1 := by simpa [zlk] using hn
    subst e1
    simp only [za, zo2] at h
    split at h
    · rename_i y x r
      by_cases hy : y = 0
      · simp [hy] at h
      · simp only [hy, if_false, Option.some.injEq] at h
        subst h
        exact lv_idiv hexec hb hd hy (k ls hl)
    · cases h
  | irem =>
    have e1 : n = 1 := by simpa [zlk] using hn
    subst e1
    simp only [za, zo2] at h
    split at h
    · rename_i y x r
      by_cases hy : y = 0
      · simp [hy] at h
      · simp only [hy, if_false, Option.some.injEq] at h
        subst h
        exact lv_irem hexec hb hd hy (k ls hl)
    · cases h
  | ladd =>
    have e1 : n = 1 := by simpa [zlk] using hn
    subst e1
    simp only [za, zo3] at h
    split at h
    · cases h
      exact lv_ladd hexec hb hd (k ls hl)
    · cases h
  | lmul =>
    have e1 : n = 1 := by simpa [zlk] using hn
    subst e1
    simp only [za, zo3] at h
    split at h
    · cases h
      exact lv_lmul hexec hb hd (k ls hl)
    · cases h
  | land =>
    have e1 : n = 1 := by simpa [zlk] using hn
    subst e1
    simp only [za, zo3] at h
    split at h
    · cases h
      exact lv_land hexec hb hd (k ls hl)
    · cases h
  | lor =>
    have e1 : n = 1 := by simpa [zlk] using hn
    subst e1
    simp only [za, zo3] at h
    split at h
    · cases h
      exact lv_lor hexec hb hd (k ls hl)
    · cases h
  | _ => simp [za] at h
end zA
