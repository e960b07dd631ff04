/-! What a branch tells, and the frame instructions. -/
abbrev yN : Type := Nat × yL × yS
def yneg (k : Jvm.ClassFile.Cond) : Jvm.ClassFile.Cond := match k with
  | .eq => .ne
  | .ne => .eq
  | .lt => .ge
  | .ge => .lt
  | .gt => .le
  | .le => .gt
def ymax (a b : Int) : Int := if a ≤ b then b else a
def ymin (a b : Int) : Int := if a ≤ b then a else b
def yne (x y : Int × Int) : Int × Int := if y.1 = y.2 ∧ x.1 = y.1 then (x.1 + 1, x.2) else if y.1 = y.2 ∧ x.2 = y.1 then (x.1, x.2 - 1) else x
def yr2 (k : Jvm.ClassFile.Cond) (x y : Int × Int) : (Int × Int) × (Int × Int) := match k with
  | .eq => ((ymax x.1 y.1, ymin x.2 y.2), (ymax x.1 y.1, ymin x.2 y.2))
  | .ne => (yne x y, yne y x)
  | .lt => ((x.1, ymin x.2 (y.2 - 1)), (ymax y.1 (x.1 + 1), y.2))
  | .ge => ((ymax x.1 y.1, x.2), (y.1, ymin y.2 x.2))
  | .gt => ((ymax x.1 (y.1 + 1), x.2), (y.1, ymin y.2 (x.2 - 1)))
  | .le => ((x.1, ymin x.2 y.2), (ymax y.1 x.1, y.2))
theorem zc2_neg {k : Jvm.ClassFile.Cond} {x y : Int32} (h : zc2 k x y = false) : zc2 (yneg k) x y = true := by
  cases k <;> simp only [zc2, yneg, decide_eq_false_iff_not, decide_eq_true_eq, y_lt, y_le, y_eq] at h ⊢ <;> omega
theorem zc1_zc2 (k : Jvm.ClassFile.Cond) (x : Int32) : zc1 k x = zc2 k x 0 := by
  cases k <;> rfl
theorem yr2_sound {k : Jvm.ClassFile.Cond} {x y : Int32} {qx qy : Int × Int} (h : zc2 k x y = true) (hx : yin qx x) (hy : yin qy y) : yin (yr2 k qx qy).1 x ∧ yin (yr2 k qx qy).2 y := by
  obtain ⟨x1, x2⟩ := hx
  obtain ⟨y1, y2⟩ := hy
  cases k <;> simp only [zc2, decide_eq_true_eq, y_lt, y_le, y_eq] at h <;> simp only [yr2, yin, yne, ymax, ymin] <;> (refine ⟨⟨?_, ?_⟩, ⟨?_, ?_⟩⟩ <;> (repeat' split) <;> (try dsimp only) <;> omega)
def yfe (a : (Int × Int) × (Int × Int)) : Bool := decide (a.1.1 ≤ a.1.2) && decide (a.2.1 ≤ a.2.2)
def ybr (k : Jvm.ClassFile.Cond) (t f : Nat) (L : yL) (qx : Int × Int) (px : Nat) (qy : Int × Int) (py : Nat) (r : yS) : List yN :=
  (if yfe (yr2 k qx qy) then [(t, yset px (.inl (yr2 k qx qy).1) (yset py (.inl (yr2 k qx qy).2) L), r)] else []) ++
  (if yfe (yr2 (yneg k) qx qy) then [(f, yset px (.inl (yr2 (yneg k) qx qy).1) (yset py (.inl (yr2 (yneg k) qx qy).2) L), r)] else [])
theorem yfe_of {a : (Int × Int) × (Int × Int)} {x y : Int32} (h : yin a.1 x ∧ yin a.2 y) : yfe a = true := by
  obtain ⟨⟨h1, h2⟩, h3, h4⟩ := h
  simp only [yfe, Bool.and_eq_true, decide_eq_true_eq]
  omega
theorem yg_int {q : Int × Int} {x : Int32} (h : yin q x) : yg (.inl q) (.int x) := ⟨x, rfl, h.1, h.2⟩
theorem ybr_sound {k : Jvm.ClassFile.Cond} {t f : Nat} {L : yL} {lv : zL} {qx qy : Int × Int} {px py : Nat} {x y : Int32} {r : yS} (hl : yl L lv) (hx : yin qx x) (hy : yin qy y) (hpx : ∀ j, px = j + 1 → zlv lv j = some (.int x) ∧ Value.category (.int x) = 1) (hpy : ∀ j, py = j + 1 → zlv lv j = some (.int y) ∧ Value.category (.int y) = 1) :
    ∃ s ∈ ybr k t f L qx px qy py r, s.1 = (if zc2 k x y then t else f) ∧ yl s.2.1 lv ∧ s.2.2 = r := by
  cases hc : zc2 k x y with
  | true =>
    have h := yr2_sound hc hx hy
    refine ⟨(t, yset px (.inl (yr2 k qx qy).1) (yset py (.inl (yr2 k qx qy).2) L), r), ?_, rfl, yl_set (yl_set hl hpy (yg_int h.2)) hpx (yg_int h.1), rfl⟩
    unfold ybr
    rw [if_pos (yfe_of h)]
    exact List.mem_append_left _ List.mem_cons_self
  | false =>
    have h := yr2_sound (zc2_neg hc) hx hy
    refine ⟨(f, yset px (.inl (yr2 (yneg k) qx qy).1) (yset py (.inl (yr2 (yneg k) qx qy).2) L), r), ?_, rfl, yl_set (yl_set hl hpy (yg_int h.2)) hpx (yg_int h.1), rfl⟩
    unfold ybr
    rw [if_pos (yfe_of h)]
    exact List.mem_append_right _ List.mem_cons_self
def yc32 (x : Int32) : yA := .inl (x.toInt, x.toInt)
theorem yg_c (x : Int32) : yg (yc32 x) (.int x) := ⟨x, rfl, Int.le_refl _, Int.le_refl _⟩
def ylong : yA := .inr (.inl true)
def ya (i : Instr) (v : Value) (nL pc : Nat) (L : yL) (S : yS) : Option (List yN) := match i with
  | .iconst n => some [(pc + 1, L, (yc32 (Int32.ofInt n), 0) :: S)]
  | .bipush n => some [(pc + 2, L, (yc32 (Int8.ofInt n).toInt32, 0) :: S)]
  | .sipush n => some [(pc + 3, L, (yc32 (Int16.ofInt n).toInt32, 0) :: S)]
  | .lconst _ => some [(pc + 1, L, (ylong, 0) :: S)]
  | .iload_n k => match ylk L k with
    | some (.inl q) => some [(pc + 1, L, (.inl q, (k : Nat) + 1) :: S)]
    | _ => none
  | .iload k => match ylk L k with
    | some (.inl q) => some [(pc + 2, L, (.inl q, k + 1) :: S)]
    | _ => none
  | .lload_n k => match ylk L k with
    | some (.inr (.inl _)) => some [(pc + 1, L, (ylong, 0) :: S)]
    | _ => none
  | .lload k => match ylk L k with
    | some (.inr (.inl _)) => some [(pc + 2, L, (ylong, 0) :: S)]
    | _ => none
  | .aload_n k => match ylk L k with
    | some (.inr (.inr os)) => some [(pc + 1, L, (.inr (.inr os), 0) :: S)]
    | _ => none
  | .aload k => match ylk L k with
    | some (.inr (.inr os)) => some [(pc + 2, L, (.inr (.inr os), 0) :: S)]
    | _ => none
  | .istore_n k => match S with
    | (.inl q, _) :: r => if (k : Nat) < nL then some [(pc + 1, ((k : Nat), .inl q) :: ydrop k L, yinv k r)] else none
    | _ => none
  | .istore k => match S with
    | (.inl q, _) :: r => if k < nL then some [(pc + 2, (k, .inl q) :: ydrop k L, yinv k r)] else none
    | _ => none
  | .lstore_n k => match S with
    | (.inr (.inl _), _) :: r => if (k : Nat) + 1 < nL then some [(pc + 1, ((k : Nat), ylong) :: ydrop2 k L, yinv2 k r)] else none
    | _ => none
  | .lstore k => match S with
    | (.inr (.inl _), _) :: r => if k + 1 < nL then some [(pc + 2, (k, ylong) :: ydrop2 k L, yinv2 k r)] else none
    | _ => none
  | .astore_n k => match S with
    | (.inr (.inr os), _) :: r => if (k : Nat) < nL then some [(pc + 1, ((k : Nat), .inr (.inr os)) :: ydrop k L, yinv k r)] else none
    | _ => none
  | .astore k => match S with
    | (.inr (.inr os), _) :: r => if k < nL then some [(pc + 2, (k, .inr (.inr os)) :: ydrop k L, yinv k r)] else none
    | _ => none
  | .iinc k n => match ylk L k with
    | some (.inl q) => if k < nL then some [(pc + 3, (k, .inl (yfit (q.1 + (Int32.ofInt n).toInt, q.2 + (Int32.ofInt n).toInt))) :: ydrop k L, yinv k S)] else none
    | _ => none
  | .ldc _ => match v with
    | .ref x => some [(pc + 2, L, (.inr (.inr [x]), 0) :: S)]
    | _ => none
  | .ldc2_w _ => match v with
    | .long _ => some [(pc + 3, L, (ylong, 0) :: S)]
    | _ => none
  | .i2l => match S with
    | (.inl _, _) :: r => some [(pc + 1, L, (ylong, 0) :: r)]
    | _ => none
  | .l2i => match S with
    | (.inr (.inl _), _) :: r => some [(pc + 1, L, (.inl ytop, 0) :: r)]
    | _ => none
  | .i2c => match S with
    | (.inl _, _) :: r => some [(pc + 1, L, (.inl ytop, 0) :: r)]
    | _ => none
  | .lushr | .lshl => match S with
    | (.inl _, _) :: (.inr (.inl _), _) :: r => some [(pc + 1, L, (ylong, 0) :: r)]
    | _ => none
  | .lcmp => match S with
    | (.inr (.inl _), _) :: (.inr (.inl _), _) :: r => some [(pc + 1, L, (.inl ytop, 0) :: r)]
    | _ => none
  | .dup => match S with
    | (.inl q, p) :: r => some [(pc + 1, L, (.inl q, p) :: (.inl q, p) :: r)]
    | (.inr (.inr os), p) :: r => some [(pc + 1, L, (.inr (.inr os), p) :: (.inr (.inr os), p) :: r)]
    | _ => none
  | .dup2 => match S with
    | (.inl q, p) :: (.inr (.inr os), p2) :: r => some [(pc + 1, L, (.inl q, p) :: (.inr (.inr os), p2) :: (.inl q, p) :: (.inr (.inr os), p2) :: r)]
    | _ => none
  | .pop => match S with
    | (.inl _, _) :: r => some [(pc + 1, L, r)]
    | (.inr (.inr _), _) :: r => some [(pc + 1, L, r)]
    | _ => none
  | .goto o => match ztgt pc o with
    | some t => some [(t, L, S)]
    | none => none
  | .ifCond k o => match S with
    | (.inl q, p) :: r => match ztgt pc o with
      | some t => some (ybr k t (pc + 3) L q p (0, 0) 0 r)
      | none => none
    | _ => none
  | .if_icmp k o => match S with
    | (.inl qy, py) :: (.inl qx, px) :: r => match ztgt pc o with
      | some t => some (ybr k t (pc + 3) L qx px qy py r)
      | none => none
    | _ => none
  | .getstatic _ => match v with
    | .int x => some [(pc + 3, L, (yc32 x, 0) :: S)]
    | .ref x => some [(pc + 3, L, (.inr (.inr [x]), 0) :: S)]
    | _ => none
  | .iadd | .isub | .imul | .iand | .ior | .ixor | .ishl | .ishr | .idiv | .irem => match S with
    | (.inl qy, _) :: (.inl qx, _) :: r => match yop i qx qy with
      | some q => some [(pc + 1, L, (.inl q, 0) :: r)]
      | none => none
    | _ => none
  | .ladd | .lmul | .land | .lor => match S with
    | (.inr (.inl _), _) :: (.inr (.inl _), _) :: r => some [(pc + 1, L, (ylong, 0) :: r)]
    | _ => none
  | _ => none
