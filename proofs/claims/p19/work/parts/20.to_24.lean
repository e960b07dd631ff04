section
/-! My own interpreter. A reference is a place: below 50 a given cell (read only), from 50 on a cell that the run has made, in the order of making. -/
abbrev zE : Type := (Nat × List Value) ⊕ ((Nat × List Int32) ⊕ (List Int64 ⊕ (Nat × List (Option Nat))))
abbrev zX : Type := List zE × Nat × Nat
abbrev zL : Type := List (Nat × Value)
abbrev zI : Type := Instr × Nat × Nat × Nat × Value
def zrd (G : List zE) (X : zX) (k : Nat) : Option zE := if k < 50 then G[k]? else X.1[k - 50]?
def zlv : zL → Nat → Option Value
  | [], _ => none
  | q :: r, i => if q.1 = i then some q.2 else zlv r i
def zf1 (i : Nat) (lv : zL) : zL := lv.filter (fun q => !(q.1 == i) && !(q.1 + 1 == i && q.2.category == 2))
def zf2 (i : Nat) (lv : zL) : zL := lv.filter (fun q => !(q.1 == i) && (!(q.1 == i + 1) && !(q.1 + 1 == i && q.2.category == 2)))
def zin (i : Int32) (n : Nat) : Bool := !decide (i < 0) && decide (i.toNatClampNeg < n)
def ztgt (pc : Nat) (off : Int) : Option Nat := if 0 ≤ (pc : Int) + off then some ((pc : Int) + off).toNat else none
def zc1 (k : Jvm.ClassFile.Cond) (x : Int32) : Bool := match k with
  | .eq => decide (x = 0)
  | .ne => decide (¬ x = 0)
  | .lt => decide (x < 0)
  | .ge => decide (0 ≤ x)
  | .gt => decide (0 < x)
  | .le => decide (x ≤ 0)
def zc2 (k : Jvm.ClassFile.Cond) (x y : Int32) : Bool := match k with
  | .eq => decide (x = y)
  | .ne => decide (¬ x = y)
  | .lt => decide (x < y)
  | .ge => decide (y ≤ x)
  | .gt => decide (y < x)
  | .le => decide (x ≤ y)
/-- the operations of two ints -/
def zo2 (i : Instr) (x y : Int32) : Option Int32 := match i with
  | .iadd => some (x + y)
  | .isub => some (x - y)
  | .imul => some (x * y)
  | .iand => some (x &&& y)
  | .ior => some (x ||| y)
  | .ixor => some (x ^^^ y)
  | .ishl => some (x <<< (y &&& 31))
  | .ishr => some (x >>> (y &&& 31))
  | .idiv => if y = 0 then none else some (x / y)
  | .irem => if y = 0 then none else some (x - x / y * y)
  | _ => none
/-- the operations of two longs -/
def zo3 (i : Instr) (x y : Int64) : Option Int64 := match i with
  | .ladd => some (x + y)
  | .lmul => some (x * y)
  | .land => some (x &&& y)
  | .lor => some (x ||| y)
  | _ => none
/-- what a field of type c takes -/
def zfit (c : Nat) (v : Value) : Bool := match c, v with
  | 0, .int _ => true
  | 1, .int x => decide (x = 0) || decide (x = 1)
  | 2, .int x => decide ((x.toUInt32 % 65536).toInt32 = x)
  | 3, .long _ => true
  | 4, .ref _ => true
  | 4, .null => true
  | _, _ => false
def zak (t : ArrayType) : Nat := match t with
  | .int => 0
  | .char => 1
  | .boolean => 2
  | _ => 9
def zput (X : zX) (k : Nat) (c : zE) : zX := (X.1.set (k - 50) c, X.2)
/-- instructions of the frame alone -/
def za (i : Instr) (v : Value) (nL pc : Nat) (lv : zL) (st : List Value) : Option (Nat × zL × List Value) := match i with
  | .iconst n => some (pc + 1, lv, .int (Int32.ofInt n) :: st)
  | .bipush n => some (pc + 2, lv, .int (Int8.ofInt n).toInt32 :: st)
  | .sipush n => some (pc + 3, lv, .int (Int16.ofInt n).toInt32 :: st)
  | .lconst n => some (pc + 1, lv, .long (Int64.ofNat (n : Nat)) :: st)
  | .iload_n k => match zlv lv k with
    | some (.int x) => some (pc + 1, lv, .int x :: st)
    | _ => none
  | .iload k => match zlv lv k with
    | some (.int x) => some (pc + 2, lv, .int x :: st)
    | _ => none
  | .lload_n k => match zlv lv k with
    | some (.long x) => some (pc + 1, lv, .long x :: st)
    | _ => none
  | .lload k => match zlv lv k with
    | some (.long x) => some (pc + 2, lv, .long x :: st)
    | _ => none
  | .aload_n k => match zlv lv k with
    | some (.ref x) => some (pc + 1, lv, .ref x :: st)
    | _ => none
  | .aload k => match zlv lv k with
    | some (.ref x) => some (pc + 2, lv, .ref x :: st)
    | _ => none
  | .istore_n k => match st with
    | .int x :: r => if (k : Nat) < nL then some (pc + 1, ((k : Nat), .int x) :: zf1 k lv, r) else none
    | _ => none
  | .istore k => match st with
    | .int x :: r => if k < nL then some (pc + 2, (k, .int x) :: zf1 k lv, r) else none
    | _ => none
  | .lstore_n k => match st with
    | .long x :: r => if (k : Nat) + 1 < nL then some (pc + 1, ((k : Nat), .long x) :: zf2 k lv, r) else none
    | _ => none
  | .lstore k => match st with
    | .long x :: r => if k + 1 < nL then some (pc + 2, (k, .long x) :: zf2 k lv, r) else none
    | _ => none
  | .astore_n k => match st with
    | .ref x :: r => if (k : Nat) < nL then some (pc + 1, ((k : Nat), .ref x) :: zf1 k lv, r) else none
    | _ => none
  | .astore k => match st with
    | .ref x :: r => if k < nL then some (pc + 2, (k, .ref x) :: zf1 k lv, r) else none
    | _ => none
  | .iinc k n => match zlv lv k with
    | some (.int x) => if k < nL then some (pc + 3, (k, .int (x + Int32.ofInt n)) :: zf1 k lv, st) else none
    | _ => none
  | .ldc _ => match v with
    | .int x => some (pc + 2, lv, .int x :: st)
    | .ref x => some (pc + 2, lv, .ref x :: st)
    | _ => none
  | .ldc2_w _ => match v with
    | .long x => some (pc + 3, lv, .long x :: st)
    | _ => none
  | .i2l => match st with
    | .int x :: r => some (pc + 1, lv, .long x.toInt64 :: r)
    | _ => none
  | .l2i => match st with
    | .long x :: r => some (pc + 1, lv, .int x.toInt32 :: r)
    | _ => none
  | .i2c => match st with
    | .int x :: r => some (pc + 1, lv, .int (x.toUInt32 % 65536).toInt32 :: r)
    | _ => none
  | .lushr => match st with
    | .int y :: .long x :: r => some (pc + 1, lv, .long (x.toUInt64 >>> (y.toInt64.toUInt64 &&& Int64.toUInt64 63)).toInt64 :: r)
    | _ => none
  | .lshl => match st with
    | .int y :: .long x :: r => some (pc + 1, lv, .long (x <<< (y.toInt64 &&& 63)) :: r)
    | _ => none
  | .lcmp => match st with
    | .long y :: .long x :: r => some (pc + 1, lv, .int (lg_cmp x y) :: r)
    | _ => none
  | .dup => match st with
    | .int x :: r => some (pc + 1, lv, .int x :: .int x :: r)
    | .ref x :: r => some (pc + 1, lv, .ref x :: .ref x :: r)
    | _ => none
  | .dup2 => match st with
    | .int x :: .int y :: r => some (pc + 1, lv, .int x :: .int y :: .int x :: .int y :: r)
    | .int x :: .ref y :: r => some (pc + 1, lv, .int x :: .ref y :: .int x :: .ref y :: r)
    | _ => none
  | .pop => match st with
    | .int _ :: r => some (pc + 1, lv, r)
    | .ref _ :: r => some (pc + 1, lv, r)
    | _ => none
  | .goto o => match ztgt pc o with
    | some t => some (t, lv, st)
    | none => none
  | .ifCond k o => match st with
    | .int x :: r => match ztgt pc o with
      | some t => some (if zc1 k x then t else pc + 3, lv, r)
      | none => none
    | _ => none
  | .if_icmp k o => match st with
    | .int y :: .int x :: r => match ztgt pc o with
      | some t => some (if zc2 k x y then t else pc + 3, lv, r)
      | none => none
    | _ => none
  | .tableswitch d lo hi os => match st with
    | .int x :: r => match (if x.toInt < lo ∨ hi < x.toInt then some d else os[(x.toInt - lo).toNat]?) with
      | some o => match ztgt pc o with
        | some t => some (t, lv, r)
        | none => none
      | none => none
    | _ => none
  | .getstatic _ => match v with
    | .int x => some (pc + 3, lv, .int x :: st)
    | .ref x => some (pc + 3, lv, .ref x :: st)
    | .null => some (pc + 3, lv, .null :: st)
    | _ => none
  | .iadd | .isub | .imul | .iand | .ior | .ixor | .ishl | .ishr | .idiv | .irem => match st with
    | .int y :: .int x :: r => match zo2 i x y with
      | some z => some (pc + 1, lv, .int z :: r)
      | none => none
    | _ => none
  | .ladd | .lmul | .land | .lor => match st with
    | .long y :: .long x :: r => match zo3 i x y with
      | some z => some (pc + 1, lv, .long z :: r)
      | none => none
    | _ => none
  | _ => none
/-- instructions that read cells -/
def zb (G : List zE) (i : Instr) (a b : Nat) (st : List Value) (X : zX) : Option (Nat × List Value) := match i with
  | .getfield _ => match st with
    | .ref o :: r => match zrd G X o with
      | some (.inl (ci, fs)) => if ci = a then match fs[b]? with
        | some v => some (3, v :: r)
        | none => none
        else none
      | _ => none
    | _ => none
  | .arraylength => match st with
    | .ref o :: r => match zrd G X o with
      | some (.inr (.inl (kd, xs))) => if o < 50 ∨ kd = 0 then some (1, .int (Int32.ofNat xs.length) :: r) else none
      | some (.inr (.inr (.inr (kd, xs)))) => if kd = a ∧ a ≠ 98 then some (1, .int (Int32.ofNat xs.length) :: r) else none
      | _ => none
    | _ => none
  | .iaload => match st with
    | .int j :: .ref o :: r => match zrd G X o with
      | some (.inr (.inl (0, xs))) => if zin j xs.length then some (1, .int (xs.getD j.toNatClampNeg 0) :: r) else none
      | _ => none
    | _ => none
  | .caload => match st with
    | .int j :: .ref o :: r => match zrd G X o with
      | some (.inr (.inl (1, xs))) => if zin j xs.length then some (1, .int (xs.getD j.toNatClampNeg 0) :: r) else none
      | _ => none
    | _ => none
  | .baload => match st with
    | .int j :: .ref o :: r => match zrd G X o with
      | some (.inr (.inl (2, xs))) => if zin j xs.length then some (1, .int (xs.getD j.toNatClampNeg 0) :: r) else none
      | some (.inr (.inl (3, xs))) => if o < 50 ∧ zin j xs.length = true then some (1, .int (xs.getD j.toNatClampNeg 0) :: r) else none
      | _ => none
    | _ => none
  | .laload => match st with
    | .int j :: .ref o :: r => match zrd G X o with
      | some (.inr (.inr (.inl xs))) => if zin j xs.length then some (1, .long (xs.getD j.toNatClampNeg 0) :: r) else none
      | _ => none
    | _ => none
  | .aaload => match st with
    | .int j :: .ref o :: r => match zrd G X o with
      | some (.inr (.inr (.inr (kd, xs)))) => if kd = a ∧ zin j xs.length = true then match xs.getD j.toNatClampNeg none with
        | some q => some (1, .ref q :: r)
        | none => none
        else none
      | _ => none
    | _ => none
  | _ => none
/-- instructions that write cells or make them -/
def zc (df : Nat → List Value) (i : Instr) (a b c : Nat) (st : List Value) (X : zX) : Option (Nat × List Value × zX) := match i with
  | .putfield _ => match st with
    | v :: .ref o :: r => if o < 50 then none else match X.1[o - 50]? with
      | some (.inl (ci, fs)) => if ci = a ∧ b < fs.length ∧ zfit c v = true then some (3, r, zput X o (.inl (ci, fs.set b v))) else none
      | _ => none
    | _ => none
  | .iastore => match st with
    | .int x :: .int j :: .ref o :: r => if o < 50 then none else match X.1[o - 50]? with
      | some (.inr (.inl (0, xs))) => if zin j xs.length then some (1, r, zput X o (.inr (.inl (0, xs.set j.toNatClampNeg x)))) else none
      | _ => none
    | _ => none
  | .castore => match st with
    | .int x :: .int j :: .ref o :: r => if o < 50 then none else match X.1[o - 50]? with
      | some (.inr (.inl (1, xs))) => if zin j xs.length then some (1, r, zput X o (.inr (.inl (1, xs.set j.toNatClampNeg (vp_nar .char x))))) else none
      | _ => none
    | _ => none
  | .bastore => match st with
    | .int x :: .int j :: .ref o :: r => if o < 50 then none else match X.1[o - 50]? with
      | some (.inr (.inl (2, xs))) => if zin j xs.length then some (1, r, zput X o (.inr (.inl (2, xs.set j.toNatClampNeg (vp_nar .boolean x))))) else none
      | _ => none
    | _ => none
  | .lastore => match st with
    | .long x :: .int j :: .ref o :: r => if o < 50 then none else match X.1[o - 50]? with
      | some (.inr (.inr (.inl xs))) => if zin j xs.length then some (1, r, zput X o (.inr (.inr (.inl (xs.set j.toNatClampNeg x))))) else none
      | _ => none
    | _ => none
  | .aastore => match st with
    | .ref q :: .int j :: .ref o :: r => if o < 50 ∨ q < 50 then none else match X.1[o - 50]?, X.1[q - 50]? with
      | some (.inr (.inr (.inr (kd, xs)))), some (.inl (ci, _)) => if kd = a ∧ kd = ci ∧ zin j xs.length = true then some (1, r, zput X o (.inr (.inr (.inr (kd, xs.set j.toNatClampNeg (some q)))))) else none
      | _, _ => none
    | _ => none
  | .newarray t => match st with
    | .int n :: r => if X.1.length = X.2.1 ∧ ¬ n < 0 ∧ n.toNatClampNeg ≤ 65536 then
        match t with
        | .int => some (2, .ref (50 + X.1.length) :: r, (X.1 ++ [.inr (.inl (0, List.replicate n.toNatClampNeg 0))], X.2.1 + 1, X.2.2 + n.toNatClampNeg))
        | .char => some (2, .ref (50 + X.1.length) :: r, (X.1 ++ [.inr (.inl (1, List.replicate n.toNatClampNeg 0))], X.2.1 + 1, X.2.2 + n.toNatClampNeg))
        | .boolean => some (2, .ref (50 + X.1.length) :: r, (X.1 ++ [.inr (.inl (2, List.replicate n.toNatClampNeg 0))], X.2.1 + 1, X.2.2 + n.toNatClampNeg))
        | .long => some (2, .ref (50 + X.1.length) :: r, (X.1 ++ [.inr (.inr (.inl (List.replicate n.toNatClampNeg 0)))], X.2.1 + 1, X.2.2 + n.toNatClampNeg))
        | _ => none
      else none
    | _ => none
  | .anewarray _ => match st with
    | .int n :: r => if X.1.length = X.2.1 ∧ ¬ n < 0 ∧ n.toNatClampNeg ≤ 65536 then
        some (3, .ref (50 + X.1.length) :: r, (X.1 ++ [.inr (.inr (.inr (a, List.replicate n.toNatClampNeg none)))], X.2.1 + 1, X.2.2 + n.toNatClampNeg))
      else none
    | _ => none
  | .new _ => if X.1.length = X.2.1 ∧ a < 100 then some (3, .ref (50 + X.1.length) :: st, (X.1 ++ [.inl (a, df a)], X.2.1 + 1, X.2.2 + (df a).length)) else none
  | _ => none
/-- the JDK's own methods that are taken as one step: b tells which -/
def zd (b : Nat) (st : List Value) (X : zX) : Option (List Value × zX) := match b with
  | 0 => match st with
    | .ref _ :: r => some (r, X)
    | _ => none
  | 1 => match st with
    | .int y :: .int x :: r => some (.int (if x < y then y else x) :: r, X)
    | _ => none
  | 2 => match st with
    | .int y :: .int x :: r => some (.int (if y < x then y else x) :: r, X)
    | _ => none
  | 3 => match st with
    | .int n :: .int dp :: .ref d :: .int sp :: .ref q :: r => if d < 50 ∨ q < 50 ∨ d = q then none else match X.1[q - 50]?, X.1[d - 50]? with
      | some (.inr (.inl (0, xs))), some (.inr (.inl (0, ys))) =>
        if ¬ n < 0 ∧ ¬ sp < 0 ∧ ¬ dp < 0 ∧ sp.toNatClampNeg + n.toNatClampNeg ≤ xs.length ∧ dp.toNatClampNeg + n.toNatClampNeg ≤ ys.length then
          some (r, zput X d (.inr (.inl (0, ys.take dp.toNatClampNeg ++ (xs.drop sp.toNatClampNeg).take n.toNatClampNeg ++ ys.drop (dp.toNatClampNeg + n.toNatClampNeg)))))
        else none
      | _, _ => none
    | _ => none
  | _ => none
def zcat (st : List Value) : Nat := (st.map fun v => v.category).sum
/-- an end: returned, or threw an exception of that class -/
abbrev zO : Type := Option Value ⊕ Nat
def zret (i : Instr) (a : Nat) (st : List Value) : Option (Option Value) := match i with
  | .ireturn => match st with
    | [.int x] => if a = 0 ∨ (a = 1 ∧ (x = 0 ∨ x = 1)) ∨ (a = 2 ∧ (x.toUInt32 % 65536).toInt32 = x) ∨ (a = 3 ∧ x.toInt8.toInt32 = x) then some (some (.int x)) else none
    | _ => none
  | .lreturn => match st with
    | [.long x] => some (some (.long x))
    | _ => none
  | .areturn => match st with
    | [.ref x] => some (some (.ref x))
    | _ => none
  | .return_ => match st with
    | [] => some none
    | _ => none
  | _ => none
/-- what the instructions behind a 'new' of an exception must be -/
def zthr (cd : Nat → Nat → Option zI) (mi pc x : Nat) : Bool := match cd mi (pc + 3), cd mi (pc + 4), cd mi (pc + 6), cd mi (pc + 9) with
  | some (.dup, _), some (.ldc _, _, _, _, .ref _), some (.invokespecial _, 2, b, _), some (.athrow, _) => decide (b = x)
  | _, _, _, _ => false
def zki (i : Instr) : Nat := match i with
  | .new _ => 1
  | .invokevirtual _ | .invokespecial _ | .invokestatic _ => 2
  | _ => 0
def zrcv (G : List zE) (X : zX) (v : Value) (as : List Value) : Bool := match v with
  | .ref ci => (match as with
    | .ref o :: _ => (match zrd G X o with
      | some (.inl (cj, _)) => decide (cj = ci)
      | _ => false)
    | _ => false)
  | _ => true
/-- the place behind a caught exception's store -/
def zhd (cd : Nat → Nat → Option zI) (hn : Nat → Nat → Nat → Option Nat) (nL mi pc x : Nat) : Option (Nat × Nat) := match hn mi pc x with
  | none => none
  | some h => match cd mi h with
    | some (.astore_n k, _) => if (k : Nat) < nL then some (h, (k : Nat)) else none
    | some (.astore k, _) => if k < nL then some (h + 1, k) else none
    | _ => none
section zEv
variable (cd : Nat → Nat → Option zI) (nl : Nat → Nat) (df : Nat → List Value) (hn : Nat → Nat → Nat → Option Nat) (G : List zE)
def zev : Nat → Nat → Nat → zL → List Value → zX → Option (zO × zX)
  | 0, _, _, _, _, _ => none
  | n + 1, mi, pc, lv, st, X => match cd mi pc with
    | none => none
    | some (i, a, b, c, v) => match za i v (nl mi) pc lv st with
      | some q => zev n mi q.1 q.2.1 q.2.2 X
      | none => match zb G i a b st X with
        | some q => zev n mi (pc + q.1) lv q.2 X
        | none => match zc df i a b c st X with
          | some q => zev n mi (pc + q.1) lv q.2.1 q.2.2
          | none => match zret i a st with
            | some r => some (.inl r, X)
            | none => if zki i = 1 then (if 100 ≤ a ∧ zthr cd mi pc a = true ∧ zcat st ≤ 4 then some (.inr a, (X.1, X.2.1 + 1, X.2.2 + 6)) else none)
              else if zki i = 2 then
                (if a = 1 then match zd b st X with
                  | some q => if zcat q.1 ≤ 8 then zev n mi (pc + 3) lv q.1 q.2 else none
                  | none => none
                else if a = 0 ∧ c ≤ st.length ∧ zcat (st.drop c) ≤ 8 ∧ zcat (st.take c) ≤ nl b ∧ zrcv G X v (st.take c).reverse = true then
                  match zev n b 0 (lv_args 0 (st.take c).reverse) [] X with
                  | some (.inl r, X') => zev n mi (pc + 3) lv (r.toList ++ st.drop c) X'
                  | some (.inr x, X') => match hn mi pc x with
                    | none => some (.inr x, X')
                    | some _ => match zhd cd hn (nl mi) mi pc x with
                      | some q => zev n mi (q.1 + 1) (zf1 q.2 lv) [] X'
                      | none => none
                  | none => none
                else none)
              else none
end zEv
end
section
/-! The interpreter's frame instructions are the machine's. -/
def zad (gad : Nat → Nat) (base k : Nat) : Nat := if k < 50 then gad k else base + (k - 50)
def ztr (ad : Nat → Nat) (v : Value) : Value := match v with
  | .ref k => .ref (ad k)
  | .int x => .int x
  | .long x => .long x
  | .float x => .float x
  | .double x => .double x
  | .null => .null
  | .retAddr x => .retAddr x
def ztl (ad : Nat → Nat) (lv : zL) : zL := lv.map fun q => (q.1, ztr ad q.2)
theorem ztr_cat (ad : Nat → Nat) (v : Value) : (ztr ad v).category = v.category := by cases v <;> rfl
theorem zcat_tr (ad : Nat → Nat) (st : List Value) : ((st.map (ztr ad)).map fun v => v.category).sum = zcat st := by
  unfold zcat
  rw [List.map_map]
  congr 1
  exact List.map_congr_left fun v _ => ztr_cat ad v
theorem zlv_mem {lv : zL} {i : Nat} {v : Value} (h : zlv lv i = some v) : (i, v) ∈ lv := by
  induction lv with
  | nil => cases h
  | cons q r ih =>
    simp only [zlv] at h
    split at h
    · rename_i hq
      cases h
      subst hq
      exact List.mem_cons_self
    · exact List.mem_cons_of_mem _ (ih h)
theorem zl_at {ad : Nat → Nat} {ls : Array Slot} {nL : Nat} {lv : zL} {i : Nat} {v : Value} (hl : lv_has ls nL (ztl ad lv)) (h : zlv lv i = some v) : ls[i]? = some (.val (ztr ad v)) :=
  hl.2.2 (i, ztr ad v) (List.mem_map.mpr ⟨(i, v), zlv_mem h, rfl⟩)
theorem zl_pos {ad : Nat → Nat} {lv : zL} {i : Nat} {v : Value} (h : zlv lv i = some v) : ∃ k : Nat, (ztl ad lv)[k]? = some (i, ztr ad v) :=
  List.getElem?_of_mem (List.mem_map.mpr ⟨(i, v), zlv_mem h, rfl⟩)
theorem zf1_tr (ad : Nat → Nat) (i : Nat) (lv : zL) : (ztl ad lv).filter (fun q => !(q.1 == i) && !(q.1 + 1 == i && q.2.category == 2)) = ztl ad (zf1 i lv) := by
  unfold ztl zf1
  rw [List.filter_map]
  congr 1
  apply List.filter_congr
  intro q _
  simp [Function.comp, ztr_cat]
theorem zf2_tr (ad : Nat → Nat) (i : Nat) (lv : zL) : (ztl ad lv).filter (fun q => !(q.1 == i) && (!(q.1 == i + 1) && !(q.1 + 1 == i && q.2.category == 2))) = ztl ad (zf2 i lv) := by
  unfold ztl zf2
  rw [List.filter_map]
  congr 1
  apply List.filter_congr
  intro q _
  simp [Function.comp, ztr_cat]
theorem ztgt_spec {pc t : Nat} {o : Int} (h : ztgt pc o = some t) : (pc : Int) + o = (t : Int) := by
  unfold ztgt at h
  split at h
  · cases h
    omega
  · cases h
/-- how long an instruction is -/
def zlk (i : Instr) (n : Nat) : Bool := match i with
  | .tableswitch .. => true
  | .bipush _ | .iload _ | .lload _ | .aload _ | .istore _ | .lstore _ | .astore _ | .ldc _ | .newarray _ => n == 2
  | .sipush _ | .iinc .. | .ldc2_w _ | .goto _ | .ifCond .. | .if_icmp .. | .getstatic _ | .getfield _ | .putfield _ | .new _ | .anewarray _ | .invokevirtual _ | .invokespecial _ | .invokestatic _ => n == 3
  | _ => n == 1
section zA
variable {p : Program} {l : Launch} {e : Env} {R : Room} {s : State} {m : MethodId} {args : Array Value} {below : List Frame} {meth : Method} {c : Code} {H : Heap} {locs : List Loc} {cells slots : Nat} {Q : State → Prop}
variable {cc : ByteArray} {pc : Nat} {ls : Array Slot} {own : String} {ad : Nat → Nat}
/-- what the tables say of a constant that an instruction takes from outside the frame -/
def zcst (own : String) (ad : Nat → Nat) (args : Array Value) (s : State) (A : Nat → Prop) (i : Instr) (v : Value) : Prop := match i with
  | .ldc k => match v with
    | .int x => (Jvm.Cond.constant own k x).before args s = true
    | .ref g => ∃ tx, vk_R own k tx (ad g) s
    | _ => True
  | .ldc2_w k => match v with
    | .long x => (Jvm.Cond.constantLong own k x).before args s = true
    | _ => True
  | .getstatic k => ∃ C n d, va_Z C n d (ztr ad v) A s s.heap ∧ ((Jvm.Cond.fieldLink own k C n d).before args s = true ∨ ∃ host, (Jvm.Cond.fieldLinkNest own k C n d host).before args s = true)
  | _ => True
theorem zif (hexec : p.tables.exec = Jvm.exec) (hb : c.code = cc) {k : Jvm.ClassFile.Cond} {x : Int32} {off : Int} {tgt : Nat} {rest : List Value} (hdg : decode cc pc = .ok (.ifCond k off, 3)) (ht : (pc : Int) + off = (tgt : Int))
    (kk : W p l e R s m args below meth c H locs cells slots Q (F0 m (if zc1 k x then tgt else pc + 3) ls rest)) : W p l e R s m args below meth c H locs cells slots Q (F0 m pc ls (.int x :: rest)) := by
  cases k with
  | eq => exact lv_if_eq hexec hb hdg ht (fun h => by simpa [zc1, h] using kk) (fun h => by simpa [zc1, h] using kk)
  | ne => exact lv_if_ne hexec hb hdg ht (fun h => by simpa [zc1, h] using kk) (fun h => by simpa [zc1, h] using kk)
  | lt => exact lv_if_lt hexec hb hdg ht (fun h => by simpa [zc1, h] using kk) (fun h => by simpa [zc1, h] using kk)
  | ge => exact lv_if_ge hexec hb hdg ht (fun h => by simpa [zc1, h] using kk) (fun h => by simpa [zc1, h] using kk)
  | gt => exact lv_if_gt hexec hb hdg ht (fun h => by simpa [zc1, h] using kk) (fun h => by simpa [zc1, h] using kk)
  | le => exact lv_if_le hexec hb hdg ht (fun h => by simpa [zc1, h] using kk) (fun h => by simpa [zc1, h] using kk)
theorem zicmp (hexec : p.tables.exec = Jvm.exec) (hb : c.code = cc) {k : Jvm.ClassFile.Cond} {x y : Int32} {off : Int} {tgt : Nat} {rest : List Value} (hdg : decode cc pc = .ok (.if_icmp k off, 3)) (ht : (pc : Int) + off = (tgt : Int))
    (kk : W p l e R s m args below meth c H locs cells slots Q (F0 m (if zc2 k x y then tgt else pc + 3) ls rest)) : W p l e R s m args below meth c H locs cells slots Q (F0 m pc ls (.int y :: .int x :: rest)) := by
  cases k with
  | eq => exact lv_icmp_eq hexec hb hdg ht (fun h => by simpa [zc2, h] using kk) (fun h => by simpa [zc2, h] using kk)
  | ne => exact lv_icmp_ne hexec hb hdg ht (fun h => by simpa [zc2, h] using kk) (fun h => by simpa [zc2, h] using kk)
  | lt => exact lv_icmp_lt hexec hb hdg ht (fun h => by simpa [zc2, h] using kk) (fun h => by simpa [zc2, h] using kk)
  | ge => exact lv_icmp_ge hexec hb hdg ht (fun h => by simpa [zc2, h] using kk) (fun h => by simpa [zc2, h] using kk)
  | gt => exact lv_icmp_gt hexec hb hdg ht (fun h => by simpa [zc2, h] using kk) (fun h => by simpa [zc2, h] using kk)
  | le => exact lv_icmp_le hexec hb hdg ht (fun h => by simpa [zc2, h] using kk) (fun h => by simpa [zc2, h] using kk)
set_option maxHeartbeats 4000000 in
theorem za_sound (hexec : p.tables.exec = Jvm.exec) (hb : c.code = cc) {A : Nat → Prop} {i : Instr} {v : Value} {nL n : Nat} {lv : zL} {st : List Value} {q : Nat × zL × List Value} (hown : s.vm.findClass own = some m.cls) (hS : va_S A s.heap H locs)
    (hd : decode cc pc = .ok (i, n)) (hn : zlk i n = true) (h : za i v nL pc lv st = some q) (hl : lv_has ls nL (ztl ad lv)) (hv : zcst own ad args s A i v)
    (k : ∀ ls' : Array Slot, lv_has ls' nL (ztl ad q.2.1) → W p l e R s m args below meth c H locs cells slots Q (F0 m q.1 ls' (q.2.2.map (ztr ad)))) :
    W p l e R s m args below meth c H locs cells slots Q (F0 m pc ls (st.map (ztr ad))) := by
  cases i with
  | iconst z =>
    have e1 : n = 1 := by simpa [zlk] using hn
    subst e1
    simp only [za, Option.some.injEq] at h
    subst h
    exact lv_iconst hexec hb hd rfl (k ls hl)
  | bipush z =>
    have e1 : n = 2 := by simpa [zlk] using hn
    subst e1
    simp only [za, Option.some.injEq] at h
    subst h
    exact lv_bipush hexec hb hd rfl (k ls hl)
  | sipush z =>
    have e1 : n = 3 := by simpa [zlk] using hn
    subst e1
    simp only [za, Option.some.injEq] at h
    subst h
    exact lv_sipush hexec hb hd rfl (k ls hl)
  | lconst z =>
    have e1 : n = 1 := by simpa [zlk] using hn
    subst e1
    simp only [za, Option.some.injEq] at h
    subst h
    exact lv_lconst hexec hb hd rfl (k ls hl)
  | iload_n z =>
    have e1 : n = 1 := by simpa [zlk] using hn
    subst e1
    simp only [za] at h
    split at h
    · rename_i x hx
      cases h
      exact lv_iload_n hexec hb hd rfl (zl_at hl hx) (k ls hl)
    · cases h
  | iload z =>
    have e1 : n = 2 := by simpa [zlk] using hn
    subst e1
    simp only [za] at h
    split at h
    · rename_i x hx
      cases h
      exact lv_iload hexec hb hd (zl_at hl hx) (k ls hl)
    · cases h
  | lload_n z =>
    have e1 : n = 1 := by simpa [zlk] using hn
    subst e1
    simp only [za] at h
    split at h
    · rename_i x hx
      cases h
      exact lv_lload_n hexec hb hd rfl (zl_at hl hx) (k ls hl)
    · cases h
  | lload z =>
    have e1 : n = 2 := by simpa [zlk] using hn
    subst e1
    simp only [za] at h
    split at h
    · rename_i x hx
      cases h
      exact lv_lload hexec hb hd (zl_at hl hx) (k ls hl)
    · cases h
  | aload_n z =>
    have e1 : n = 1 := by simpa [zlk] using hn
    subst e1
    simp only [za] at h
    split at h
    · rename_i x hx
      cases h
      exact lv_aload_n hexec hb hd rfl (zl_at hl hx) (k ls hl)
    · cases h
  | aload z =>
    have e1 : n = 2 := by simpa [zlk] using hn
    subst e1
    simp only [za] at h
    split at h
    · rename_i x hx
      cases h
      exact lv_aload hexec hb hd (zl_at hl hx) (k ls hl)
    · cases h
  | istore_n z =>
    have e1 : n = 1 := by simpa [zlk] using hn
    subst e1
    simp only [za] at h
    split at h
    · rename_i x r
      split at h
      · rename_i hz
        cases h
        exact lv_istore_n hexec hb hd rfl hl hz (by rw [zf1_tr]; rfl) k
      · cases h
    · cases h
  | istore z =>
    have e1 : n = 2 := by simpa [zlk] using hn
    subst e1
    simp only [za] at h
    split at h
    · rename_i x r
      split at h
      · rename_i hz
        cases h
        exact lv_istore hexec hb hd hl hz (by rw [zf1_tr]; rfl) k
      · cases h
    · cases h
  | lstore_n z =>
    have e1 : n = 1 := by simpa [zlk] using hn
    subst e1
    simp only [za] at h
    split at h
    · rename_i x r
      split at h
      · rename_i hz
        cases h
        exact lv_lstore_n hexec hb hd rfl hl hz (by rw [zf2_tr]; rfl) k
      · cases h
    · cases h
  | lstore z =>
    have e1 : n = 2 := by simpa [zlk] using hn
    subst e1
    simp only [za] at h
    split at h
    · rename_i x r
      split at h
      · rename_i hz
        cases h
        exact lv_lstore hexec hb hd hl hz (by rw [zf2_tr]; rfl) k
      · cases h
    · cases h
  | astore_n z =>
    have e1 : n = 1 := by simpa [zlk] using hn
    subst e1
    simp only [za] at h
    split at h
    · rename_i x r
      split at h
      · rename_i hz
        cases h
        exact lv_astore_n hexec hb hd rfl hl hz (by rw [zf1_tr]; rfl) k
      · cases h
    · cases h
  | astore z =>
    have e1 : n = 2 := by simpa [zlk] using hn
    subst e1
    simp only [za] at h
    split at h
    · rename_i x r
      split at h
      · rename_i hz
        cases h
        exact lv_astore hexec hb hd hl hz (by rw [zf1_tr]; rfl) k
      · cases h
    · cases h
  | iinc z w =>
    have e1 : n = 3 := by simpa [zlk] using hn
    subst e1
    simp only [za] at h
    split at h
    · rename_i x hx
      split at h
      · rename_i hz
        cases h
        obtain ⟨j, hj⟩ := zl_pos (ad := ad) hx
        exact lv_iinc hexec hb hd hl hj rfl hz (by rw [zf1_tr]; rfl) k
      · cases h
    · cases h
  | ldc z =>
    have e1 : n = 2 := by simpa [zlk] using hn
    subst e1
    simp only [za] at h
    split at h
    · cases h
      exact lv_ldc hexec hb hown hv hd (k ls hl)
    · cases h
      obtain ⟨tx, ht⟩ := hv
      exact va_ldcS hexec hb hown ht hd (k ls hl)
    · cases h
  | ldc2_w z =>
    have e1 : n = 3 := by simpa [zlk] using hn
    subst e1
    simp only [za] at h
    split at h
    · cases h
      exact lv_ldc2 hexec hb hown hv hd (k ls hl)
    · cases h
  | i2l =>
    have e1 : n = 1 := by simpa [zlk] using hn
    subst e1
    simp only [za] at h
    split at h
    · cases h
      exact lv_i2l hexec hb hd rfl (k ls hl)
    · cases h
  | l2i =>
    have e1 : n = 1 := by simpa [zlk] using hn
    subst e1
    simp only [za] at h
    split at h
    · cases h
      exact lv_l2i hexec hb hd rfl (k ls hl)
    · cases h
  | i2c =>
    have e1 : n = 1 := by simpa [zlk] using hn
    subst e1
    simp only [za] at h
    split at h
    · cases h
      exact lv_i2c hexec hb hd rfl (k ls hl)
    · cases h
  | lushr =>
    have e1 : n = 1 := by simpa [zlk] using hn
    subst e1
    simp only [za] at h
    split at h
    · cases h
      exact lv_lushr hexec hb hd rfl (k ls hl)
    · cases h
  | lshl =>
    have e1 : n = 1 := by simpa [zlk] using hn
    subst e1
    simp only [za] at h
    split at h
    · cases h
      exact lv_lshl hexec hb hd rfl (k ls hl)
    · cases h
  | lcmp =>
    have e1 : n = 1 := by simpa [zlk] using hn
    subst e1
    simp only [za] at h
    split at h
    · cases h
      exact W.lcmp hexec hb hd (k ls hl)
    · cases h
  | dup =>
    have e1 : n = 1 := by simpa [zlk] using hn
    subst e1
    simp only [za] at h
    split at h
    · cases h
      exact lv_dup hexec hb hd rfl (k ls hl)
    · cases h
      exact lv_dup hexec hb hd rfl (k ls hl)
    · cases h
  | dup2 =>
    have e1 : n = 1 := by simpa [zlk] using hn
    subst e1
    simp only [za] at h
    split at h
    · cases h
      exact lv_dup2_11 hexec hb hd rfl rfl (k ls hl)
    · cases h
      exact lv_dup2_11 hexec hb hd rfl rfl (k ls hl)
    · cases h
  | pop =>
    have e1 : n = 1 := by simpa [zlk] using hn
    subst e1
    simp only [za] at h
    split at h
    · cases h
      exact lv_pop hexec hb hd rfl (k ls hl)
    · cases h
      exact lv_pop hexec hb hd rfl (k ls hl)
    · cases h
  | goto z =>
    have e1 : n = 3 := by simpa [zlk] using hn
    subst e1
    simp only [za] at h
    split at h
    · rename_i t ht
      cases h
      exact lv_goto hexec hb hd (ztgt_spec ht) (k ls hl)
    · cases h
  | ifCond z w =>
    have e1 : n = 3 := by simpa [zlk] using hn
    subst e1
    simp only [za] at h
    split at h
    · split at h
      · rename_i t ht
        cases h
        exact zif hexec hb hd (ztgt_spec ht) (k ls hl)
      · cases h
    · cases h
  | if_icmp z w =>
    have e1 : n = 3 := by simpa [zlk] using hn
    subst e1
    simp only [za] at h
    split at h
    · split at h
      · rename_i t ht
        cases h
        exact zicmp hexec hb hd (ztgt_spec ht) (k ls hl)
      · cases h
    · cases h
  | tableswitch z lo hi os =>
    simp only [za] at h
    split at h
    · rename_i x r
      split at h
      · rename_i o ho
        split at h
        · rename_i t ht
          cases h
          split at ho
          · rename_i hx
            cases ho
            exact lv_tableOut hexec hb hd hx (ztgt_spec ht) (k ls hl)
          · rename_i hx
            exact lv_tableIn hexec hb hd (fun z => hx (Or.inl z)) (fun z => hx (Or.inr z)) ho (ztgt_spec ht) (k ls hl)
        · cases h
      · cases h
    · cases h
  | getstatic z =>
    have e1 : n = 3 := by simpa [zlk] using hn
    subst e1
    obtain ⟨C, nm, ds, hZ, hlk⟩ := hv
    simp only [za] at h
    split at h
    · cases h
      rcases hlk with hlk | ⟨host, hlk⟩
      · exact va_gets hexec hb hZ hS hown hlk (fun _ h => h) hd (k ls hl)
      · exact va_getsN hexec hb hZ hS hown hlk (fun _ h => h) hd (k ls hl)
    · cases h
      rcases hlk with hlk | ⟨host, hlk⟩
      · exact va_gets hexec hb hZ hS hown hlk (fun _ h => h) hd (k ls hl)
      · exact va_getsN hexec hb hZ hS hown hlk (fun _ h => h) hd (k ls hl)
    · cases h
      rcases hlk with hlk | ⟨host, hlk⟩
      · exact va_gets hexec hb hZ hS hown hlk (fun _ h => h) hd (k ls hl)
      · exact va_getsN hexec hb hZ hS hown hlk (fun _ h => h) hd (k ls hl)
    · cases h
  | iadd =>
    have e1 : n = 1 := by simpa [zlk] using hn
    subst e1
    simp only [za, zo2] at h
    split at h
    · cases h
      exact lv_iadd hexec hb hd (k ls hl)
    · cases h
  | isub =>
    have e1 : n = 1 := by simpa [zlk] using hn
    subst e1
    simp only [za, zo2] at h
    split at h
    · cases h
      exact lv_isub hexec hb hd (k ls hl)
    · cases h
  | imul =>
    have e1 : n = 1 := by simpa [zlk] using hn
    subst e1
    simp only [za, zo2] at h
    split at h
    · cases h
      exact lv_imul hexec hb hd (k ls hl)
    · cases h
  | iand =>
    have e1 : n = 1 := by simpa [zlk] using hn
    subst e1
    simp only [za, zo2] at h
    split at h
    · cases h
      exact lv_iand hexec hb hd (k ls hl)
    · cases h
  | ior =>
    have e1 : n = 1 := by simpa [zlk] using hn
    subst e1
    simp only [za, zo2] at h
    split at h
    · cases h
      exact lv_ior hexec hb hd (k ls hl)
    · cases h
  | ixor =>
    have e1 : n = 1 := by simpa [zlk] using hn
    subst e1
    simp only [za, zo2] at h
    split at h
    · cases h
      exact lv_ixor hexec hb hd (k ls hl)
    · cases h
  | ishl =>
    have e1 : n = 1 := by simpa [zlk] using hn
    subst e1
    simp only [za, zo2] at h
    split at h
    · cases h
      exact lv_ishl hexec hb hd (k ls hl)
    · cases h
  | ishr =>
    have e1 : n = 1 := by simpa [zlk] using hn
    subst e1
    simp only [za, zo2] at h
    split at h
    · cases h
      exact lv_ishr hexec hb hd (k ls hl)
    · cases h
  | idiv =>
    have e1 : n = 1 := by simpa [zlk] using hn
    subst e1
    simp only [za, zo2] at h
    split at h
    · rename_i y x r
      by_cases hy : y = 0
      · simp [hy] at h
      · simp only [hy, if_false, Option.some.injEq] at h
        subst h
        exact lv_idiv hexec hb hd hy (k ls hl)
    · cases h
  | irem =>
    have e1 : n = 1 := by simpa [zlk] using hn
    subst e1
    simp only [za, zo2] at h
    split at h
    · rename_i y x r
      by_cases hy : y = 0
      · simp [hy] at h
      · simp only [hy, if_false, Option.some.injEq] at h
        subst h
        exact lv_irem hexec hb hd hy (k ls hl)
    · cases h
  | ladd =>
    have e1 : n = 1 := by simpa [zlk] using hn
    subst e1
    simp only [za, zo3] at h
    split at h
    · cases h
      exact lv_ladd hexec hb hd (k ls hl)
    · cases h
  | lmul =>
    have e1 : n = 1 := by simpa [zlk] using hn
    subst e1
    simp only [za, zo3] at h
    split at h
    · cases h
      exact lv_lmul hexec hb hd (k ls hl)
    · cases h
  | land =>
    have e1 : n = 1 := by simpa [zlk] using hn
    subst e1
    simp only [za, zo3] at h
    split at h
    · cases h
      exact lv_land hexec hb hd (k ls hl)
    · cases h
  | lor =>
    have e1 : n = 1 := by simpa [zlk] using hn
    subst e1
    simp only [za, zo3] at h
    split at h
    · cases h
      exact lv_lor hexec hb hd (k ls hl)
    · cases h
  | _ => simp [za] at h
end zA
end
section
/-! The cells: how the interpreter's are laid in the machine's heap. -/
def zen (ad : Nat → Nat) (aC : Nat → ClassId) (c : zE) : va_E := match c with
  | .inl o => .inr (o.1, o.2.map (ztr ad))
  | .inr (.inl x) => .inl (aC x.1, x.2.length, .inl fun j => x.2.getD j 0)
  | .inr (.inr (.inl xs)) => .inl (aC 4, xs.length, .inr (.inl fun j => xs.getD j 0))
  | .inr (.inr (.inr x)) => .inl (aC (10 + x.1), x.2.length, .inr (.inr (.inr (.inr fun j => (x.2.getD j none).map ad))))
def zw (base : Nat) (ad : Nat → Nat) (aC : Nat → ClassId) (M : List zE) : va_W := M.mapIdx fun j c => (base + j, zen ad aC c)
theorem zw_get {base : Nat} {ad : Nat → Nat} {aC : Nat → ClassId} {M : List zE} {j : Nat} {c : zE} (h : M[j]? = some c) : (zw base ad aC M)[j]? = some (base + j, zen ad aC c) := by
  simp [zw, List.getElem?_mapIdx, h]
theorem zw_of {base : Nat} {ad : Nat → Nat} {aC : Nat → ClassId} {M : List zE} {j : Nat} {q : Nat × va_E} (h : (zw base ad aC M)[j]? = some q) : ∃ c, M[j]? = some c ∧ q = (base + j, zen ad aC c) := by
  simp only [zw, List.getElem?_mapIdx] at h
  cases hc : M[j]? with
  | none => rw [hc] at h; cases h
  | some c =>
    rw [hc] at h
    exact ⟨c, rfl, (Option.some.inj h).symm⟩
theorem zw_set {base : Nat} {ad : Nat → Nat} {aC : Nat → ClassId} {M : List zE} {j : Nat} {c : zE} : (zw base ad aC M).set j (base + j, zen ad aC c) = zw base ad aC (M.set j c) := by
  apply List.ext_getElem?
  intro n
  simp only [zw, List.getElem?_set, List.getElem?_mapIdx, List.length_mapIdx]
  by_cases h : j = n
  · subst h
    by_cases hj : j < M.length <;> simp [hj]
  · simp [h]
theorem zw_push {base : Nat} {ad : Nat → Nat} {aC : Nat → ClassId} {M : List zE} {c : zE} : zw base ad aC (M ++ [c]) = zw base ad aC M ++ [(base + M.length, zen ad aC c)] := by
  simp [zw, List.mapIdx_append]
theorem zw_D {base : Nat} {ad : Nat → Nat} {aC : Nat → ClassId} {M : List zE} : va_D (fun q => base ≤ q) (zw base ad aC M) := by
  refine ⟨fun i j p q hi hj he => ?_, fun k q hk => ?_⟩
  · obtain ⟨c1, -, e1⟩ := zw_of hi
    obtain ⟨c2, -, e2⟩ := zw_of hj
    rw [e1, e2] at he
    have : base + i = base + j := he
    omega
  · obtain ⟨c1, -, e1⟩ := zw_of hk
    rw [e1]
    exact Nat.le_add_right _ _
theorem zad_hi {gad : Nat → Nat} {base o : Nat} (h : ¬ o < 50) : zad gad base o = base + (o - 50) := if_neg h
theorem zad_lo {gad : Nat → Nat} {base o : Nat} (h : o < 50) : zad gad base o = gad o := if_pos h
theorem zin_spec {i : Int32} {n : Nat} (h : zin i n = true) : vp_in i n := by
  simp only [zin, Bool.and_eq_true, Bool.not_eq_true', decide_eq_false_iff_not, decide_eq_true_eq] at h
  rintro (h1 | h1)
  · exact h.1 h1
  · omega
/-- what is known of a given cell -/
def zgv (ad : Nat → Nat) (A : Nat → Prop) (U : State) (g : Nat) (c : zE) : Prop := match c with
  | .inl o => o.1 = 99 ∧ va_O "java/lang/String" (ad g) A U U.heap ∧ (∀ v, o.2[0]? = some v → va_OF "java/lang/String" "value" "[B" (ztr ad v) (ad g) A U U.heap) ∧ ∀ v, o.2[1]? = some v → va_OF "java/lang/String" "coder" "B" (ztr ad v) (ad g) A U U.heap
  | .inr (.inl x) => (x.1 = 0 ∧ va_T .int (ad g) x.2.length (fun j => .int (x.2.getD j 0)) A U U.heap) ∨ (x.1 = 3 ∧ va_T .byte (ad g) x.2.length (fun j => .int (x.2.getD j 0)) A U U.heap)
  | _ => False
/-- the array classes -/
def ztys (aC : Nat → ClassId) (el : List (Nat × String)) : List (ClassId × FieldType) := [(aC 0, .int), (aC 1, .char), (aC 2, .boolean), (aC 4, .long)] ++ el.map fun q => (aC (10 + q.1), .object q.2)
/-- what the tables must say of an instruction that reads or writes cells: f: its method may write finals -/
def zfl (WS : List Jvm.Cond) (own host C n d : String) (k : Nat) : Prop := Jvm.Cond.fieldLink own k C n d ∈ WS ∨ Jvm.Cond.fieldLinkNest own k C n d host ∈ WS
def zok (WS : List Jvm.Cond) (cl : List vw_C) (el : List (Nat × String)) (own host : String) (i : Instr) (a b : Nat) : Prop := match i with
  | .getfield k => (a = 99 ∧ b = 0 ∧ Jvm.Cond.fieldLink own k "java/lang/String" "value" "[B" ∈ WS) ∨ (a = 99 ∧ b = 1 ∧ Jvm.Cond.fieldLink own k "java/lang/String" "coder" "B" ∈ WS) ∨
      (a ≠ 99 ∧ ∃ q, cl[a]? = some q ∧ b < q.2.2 ∧ (q.2.1 b).1 = q.1 ∧ zfl WS own host q.1 (q.2.1 b).2.1 (q.2.1 b).2.2.1 k)
  | .aaload => ∃ (j : Nat) (C : String), el[j]? = some (a, C)
  | .arraylength => a = 98 ∨ ∃ (j : Nat) (C : String), el[j]? = some (a, C)
  | _ => True
theorem zty_el {aC : Nat → ClassId} {el : List (Nat × String)} {j a : Nat} {C : String} (h : el[j]? = some (a, C)) : (ztys aC el)[4 + j]? = some (aC (10 + a), .object C) := by
  unfold ztys
  rw [List.getElem?_append_right (by simp)]
  simp [h]
section zB
variable {p : Program} {l : Launch} {e : Env} {R : Room} {s : State} {m : MethodId} {args : Array Value} {below : List Frame} {meth : Method} {c : Code} {H : Heap} {locs : List Loc} {cells slots : Nat} {Q : State → Prop}
variable {cc : ByteArray} {pc : Nat} {ls : Array Slot} {own host : String} {gad : Nat → Nat} {base : Nat} {aC : Nat → ClassId} {D : va_G} {cl : List vw_C} {el : List (Nat × String)} {WS : List Jvm.Cond} {G : List zE}
set_option maxHeartbeats 4000000 in
theorem zb_sound (hexec : p.tables.exec = Jvm.exec) (hb : c.code = cc) {i : Instr} {a b n : Nat} {st : List Value} {X : zX} {q : Nat × List Value} (hown : s.vm.findClass own = some m.cls)
    (hts : ∀ w ∈ WS, w.before args s = true) (hin : ∀ q ∈ cl, ∀ w ∈ u_ws q.1 q.2.1 q.2.2, w ∈ WS) (hcl : cl.length ≤ 99)
    (hK : va_K D cl (ztys aC el) s) (hG : ∀ g x, G[g]? = some x → zgv (zad gad base) (fun q => base ≤ q) s g x) (hS : va_S (fun q => base ≤ q) s.heap H locs)
    (hP : va_P D cl (zw base (zad gad base) aC X.1) H)
    (hd : decode cc pc = .ok (i, n)) (hn : zlk i n = true) (h : zb G i a b st X = some q) (ok : zok WS cl el own host i a b)
    (k : W p l e R s m args below meth c H locs cells slots Q (F0 m (pc + q.1) ls (q.2.map (ztr (zad gad base))))) :
    W p l e R s m args below meth c H locs cells slots Q (F0 m pc ls (st.map (ztr (zad gad base)))) := by
  cases i with
  | getfield z =>
    have e1 : n = 3 := by simpa [zlk] using hn
    subst e1
    simp only [zb] at h
    split at h
    · rename_i o r
      split at h
      · rename_i ci fs hz
        split at h
        · rename_i hci
          subst hci
          split at h
          · rename_i v hv
            cases h
            by_cases ho : o < 50
            · have hg : G[o]? = some (.inl (ci, fs)) := by simpa [zrd, ho] using hz
              obtain ⟨g1, -, g2, g3⟩ := hG _ _ hg
              rcases ok with ⟨-, rfl, hk⟩ | ⟨-, rfl, hk⟩ | ⟨hk, -⟩
              · exact vk_getf hexec hb (g2 v hv) hS hown (hts _ hk) (fun _ h => h) hd k
              · exact vk_getf hexec hb (g3 v hv) hS hown (hts _ hk) (fun _ h => h) hd k
              · exact absurd g1 hk
            · have hg : X.1[o - 50]? = some (.inl (ci, fs)) := by simpa [zrd, ho] using hz
              have hw := zw_get (base := base) (ad := zad gad base) (aC := aC) hg
              have hv2 : (fs.map (ztr (zad gad base)))[b]? = some (ztr (zad gad base) v) := by simp [hv]
              obtain ⟨r2, h2, -⟩ := hP _ _ hw
              have hlt : ci < cl.length := (List.getElem?_eq_some_iff.mp h2).1
              rcases ok with ⟨h1, -⟩ | ⟨h1, -⟩ | ⟨-, q, hq, hbq, hre, hlk⟩
              · omega
              · omega
              · have hqm : q ∈ cl := List.mem_of_getElem? hq
                show W p l e R s m args below meth c H locs cells slots Q (F0 m pc ls (.ref (zad gad base o) :: r.map (ztr (zad gad base))))
                rw [zad_hi ho]
                rcases hlk with hlk | hlk
                · exact va_get hexec hb hts (hin q hqm) hown hK hP (o - 50) hw hq b hbq (hts _ hlk) (fun x hx => by rw [hre] at hx; exact hx) hv2 hd k
                · exact va_getN hexec hb hts (hin q hqm) hown hK hP (o - 50) hw hq b hbq (hts _ hlk) (fun x hx => by rw [hre] at hx; exact hx) hv2 hd k
          · cases h
        · cases h
      · cases h
    · cases h
  | arraylength =>
    have e1 : n = 1 := by simpa [zlk] using hn
    subst e1
    simp only [zb] at h
    split at h
    · rename_i o r
      split at h
      · rename_i kd xs hz
        split at h
        · rename_i hc
          cases h
          by_cases ho : o < 50
          · have hg : G[o]? = some (.inr (.inl (kd, xs))) := by simpa [zrd, ho] using hz
            rcases hG _ _ hg with ⟨-, g1⟩ | ⟨-, g1⟩
            · exact va_tlen hexec hb g1 hS rfl hd k
            · exact va_tlen hexec hb g1 hS rfl hd k
          · have hg : X.1[o - 50]? = some (.inr (.inl (kd, xs))) := by simpa [zrd, ho] using hz
            have hk0 : kd = 0 := hc.resolve_left ho
            subst hk0
            have hw := zw_get (base := base) (ad := zad gad base) (aC := aC) hg
            show W p l e R s m args below meth c H locs cells slots Q (F0 m pc ls (.ref (zad gad base o) :: r.map (ztr (zad gad base))))
            rw [zad_hi ho]
            exact va_alen hexec hb hK hP (o - 50) 0 hw (by rfl) rfl hd k
        · cases h
      · rename_i kd xs hz
        split at h
        · rename_i hc
          cases h
          obtain ⟨hc, hc2⟩ := hc
          subst hc
          by_cases ho : o < 50
          · have hg : G[o]? = some (.inr (.inr (.inr (kd, xs)))) := by simpa [zrd, ho] using hz
            exact absurd (hG _ _ hg) (fun h => h)
          · have hg : X.1[o - 50]? = some (.inr (.inr (.inr (kd, xs)))) := by simpa [zrd, ho] using hz
            have hw := zw_get (base := base) (ad := zad gad base) (aC := aC) hg
            show W p l e R s m args below meth c H locs cells slots Q (F0 m pc ls (.ref (zad gad base o) :: r.map (ztr (zad gad base))))
            rw [zad_hi ho]
            rcases ok with h98 | ⟨j, C, hj⟩
            · exact absurd h98 hc2
            · exact va_alen hexec hb hK hP (o - 50) (4 + j) hw (zty_el hj) rfl hd k
        · cases h
      · cases h
    · cases h
  | iaload =>
    have e1 : n = 1 := by simpa [zlk] using hn
    subst e1
    simp only [zb] at h
    split at h
    · rename_i j o r
      split at h
      · rename_i xs hz
        split at h
        · rename_i hi
          cases h
          by_cases ho : o < 50
          · have hg : G[o]? = some (.inr (.inl (0, xs))) := by simpa [zrd, ho] using hz
            rcases hG _ _ hg with ⟨g0, g1⟩ | ⟨g0, g1⟩
            · exact va_ti hexec hb g1 hS (zin_spec hi) rfl hd k
            · cases g0
          · have hg : X.1[o - 50]? = some (.inr (.inl (0, xs))) := by simpa [zrd, ho] using hz
            have hw := zw_get (base := base) (ad := zad gad base) (aC := aC) hg
            show W p l e R s m args below meth c H locs cells slots Q (F0 m pc ls (.int j :: .ref (zad gad base o) :: r.map (ztr (zad gad base))))
            rw [zad_hi ho]
            exact va_iald hexec hb hK hP (o - 50) 0 hw (by rfl) (zin_spec hi) hd k
        · cases h
      · cases h
    · cases h
  | caload =>
    have e1 : n = 1 := by simpa [zlk] using hn
    subst e1
    simp only [zb] at h
    split at h
    · rename_i j o r
      split at h
      · rename_i xs hz
        split at h
        · rename_i hi
          cases h
          by_cases ho : o < 50
          · have hg : G[o]? = some (.inr (.inl (1, xs))) := by simpa [zrd, ho] using hz
            rcases hG _ _ hg with ⟨g0, g1⟩ | ⟨g0, g1⟩
            · cases g0
            · cases g0
          · have hg : X.1[o - 50]? = some (.inr (.inl (1, xs))) := by simpa [zrd, ho] using hz
            have hw := zw_get (base := base) (ad := zad gad base) (aC := aC) hg
            show W p l e R s m args below meth c H locs cells slots Q (F0 m pc ls (.int j :: .ref (zad gad base o) :: r.map (ztr (zad gad base))))
            rw [zad_hi ho]
            exact va_cald hexec hb hK hP (o - 50) 1 hw (by rfl) (zin_spec hi) hd k
        · cases h
      · cases h
    · cases h
  | baload =>
    have e1 : n = 1 := by simpa [zlk] using hn
    subst e1
    simp only [zb] at h
    split at h
    · rename_i j o r
      split at h
      · rename_i xs hz
        split at h
        · rename_i hi
          cases h
          by_cases ho : o < 50
          · have hg : G[o]? = some (.inr (.inl (2, xs))) := by simpa [zrd, ho] using hz
            rcases hG _ _ hg with ⟨g0, g1⟩ | ⟨g0, g1⟩
            · cases g0
            · cases g0
          · have hg : X.1[o - 50]? = some (.inr (.inl (2, xs))) := by simpa [zrd, ho] using hz
            have hw := zw_get (base := base) (ad := zad gad base) (aC := aC) hg
            show W p l e R s m args below meth c H locs cells slots Q (F0 m pc ls (.int j :: .ref (zad gad base o) :: r.map (ztr (zad gad base))))
            rw [zad_hi ho]
            exact va_zald hexec hb hK hP (o - 50) 2 hw (by rfl) (zin_spec hi) hd k
        · cases h
      · rename_i xs hz
        split at h
        · rename_i hi
          cases h
          have hg : G[o]? = some (.inr (.inl (3, xs))) := by simpa [zrd, hi.1] using hz
          rcases hG _ _ hg with ⟨g0, g1⟩ | ⟨g0, g1⟩
          · cases g0
          · exact va_tb hexec hb g1 hS (zin_spec hi.2) rfl hd k
        · cases h
      · cases h
    · cases h
  | laload =>
    have e1 : n = 1 := by simpa [zlk] using hn
    subst e1
    simp only [zb] at h
    split at h
    · rename_i j o r
      split at h
      · rename_i xs hz
        split at h
        · rename_i hi
          cases h
          by_cases ho : o < 50
          · have hg : G[o]? = some (.inr (.inr (.inl xs))) := by simpa [zrd, ho] using hz
            exact absurd (hG _ _ hg) (fun h => h)
          · have hg : X.1[o - 50]? = some (.inr (.inr (.inl xs))) := by simpa [zrd, ho] using hz
            have hw := zw_get (base := base) (ad := zad gad base) (aC := aC) hg
            show W p l e R s m args below meth c H locs cells slots Q (F0 m pc ls (.int j :: .ref (zad gad base o) :: r.map (ztr (zad gad base))))
            rw [zad_hi ho]
            exact va_lald hexec hb hK hP (o - 50) 3 hw (by rfl) (zin_spec hi) hd k
        · cases h
      · cases h
    · cases h
  | aaload =>
    have e1 : n = 1 := by simpa [zlk] using hn
    subst e1
    simp only [zb] at h
    split at h
    · rename_i j o r
      split at h
      · rename_i kd xs hz
        split at h
        · rename_i hi
          split at h
          · rename_i q hq
            cases h
            obtain ⟨hi1, hi2⟩ := hi
            subst hi1
            by_cases ho : o < 50
            · have hg : G[o]? = some (.inr (.inr (.inr (kd, xs)))) := by simpa [zrd, ho] using hz
              exact absurd (hG _ _ hg) (fun h => h)
            · have hg : X.1[o - 50]? = some (.inr (.inr (.inr (kd, xs)))) := by simpa [zrd, ho] using hz
              have hw := zw_get (base := base) (ad := zad gad base) (aC := aC) hg
              show W p l e R s m args below meth c H locs cells slots Q (F0 m pc ls (.int j :: .ref (zad gad base o) :: r.map (ztr (zad gad base))))
              rw [zad_hi ho]
              obtain ⟨t, C, ht⟩ := ok
              refine va_aldq hexec hb hK hP (o - 50) (4 + t) hw (zty_el ht) (zin_spec hi2) hd ?_
              rw [hq]
              exact k
          · cases h
        · cases h
      · cases h
    · cases h
  | _ => simp [zb] at h
end zB
end
section
/-! The writing and making instructions. -/
def ztyk (c : Nat) (ty : FieldType) : Prop := match c with
  | 0 => ty = .int
  | 1 => ty = .boolean
  | 2 => ty = .char
  | 3 => ty = .long
  | _ => (∃ n, ty = .object n) ∨ ∃ t, ty = .array t
theorem zfit_spec {ad : Nat → Nat} {c : Nat} {v : Value} {ty : FieldType} (h : zfit c v = true) (ht : ztyk c ty) : narrow ty (ztr ad v) = ztr ad v ∧ fits ty (ztr ad v) = true := by
  unfold zfit at h
  split at h
  · cases ht
    exact ⟨rfl, rfl⟩
  · cases ht
    simp only [Bool.or_eq_true, decide_eq_true_eq] at h
    rcases h with rfl | rfl
    · exact ⟨rfl, rfl⟩
    · exact ⟨rfl, rfl⟩
  · rename_i x
    cases ht
    have hx : (x.toUInt32 % 65536).toInt32 = x := by simpa using h
    have h1 := pk_nc x
    have h2 := pk_fc x
    rw [hx] at h1 h2
    exact ⟨h1, h2⟩
  · cases ht
    exact ⟨rfl, rfl⟩
  · rcases ht with ⟨n, rfl⟩ | ⟨t, rfl⟩ <;> exact ⟨rfl, rfl⟩
  · rcases ht with ⟨n, rfl⟩ | ⟨t, rfl⟩ <;> exact ⟨rfl, rfl⟩
  · cases h
/-- what the tables say of a class of ours -/
def zcq (WS : List Jvm.Cond) (q : vw_C) : Prop := (∀ w ∈ u_ws q.1 q.2.1 q.2.2, w ∈ WS) ∧ (∀ a, a < q.2.2 → ∀ b, b < q.2.2 → a ≠ b → (q.2.1 a).2.1 ≠ (q.2.1 b).2.1) ∧ ∃ ty : Nat → FieldType, ∀ k, k < q.2.2 → parseFieldDescriptor (q.2.1 k).2.2.1 = some (ty k)
/-- and of an instruction that writes or makes; f tells that the method is a constructor -/
def zokc (WS : List Jvm.Cond) (cl : List vw_C) (el : List (Nat × String)) (df : Nat → List Value) (own host : String) (f : Bool) (i : Instr) (a b c : Nat) : Prop := match i with
  | .putfield k => ∃ q, cl[a]? = some q ∧ b < q.2.2 ∧ (q.2.1 b).1 = q.1 ∧ (∃ ty, parseFieldDescriptor (q.2.1 b).2.2.1 = some ty ∧ ztyk c ty) ∧
      (((q.2.1 b).2.2.2 = false ∧ zfl WS own host q.1 (q.2.1 b).2.1 (q.2.1 b).2.2.1 k) ∨ ((q.2.1 b).2.2.2 = true ∧ f = true ∧ q.1 = own ∧ Jvm.Cond.fieldLink own k q.1 (q.2.1 b).2.1 (q.2.1 b).2.2.1 ∈ WS))
  | .aastore => ∃ (j : Nat) (q : vw_C), el[j]? = some (a, q.1) ∧ cl[a]? = some q
  | .newarray t => Jvm.Cond.arrayClass (newarray.typeOf t) ∈ WS
  | .anewarray k => ∃ (j : Nat) (C : String), el[j]? = some (a, C) ∧ Jvm.Cond.classLink own k C ∈ WS ∧ Jvm.Cond.arrayOver (.object C) ∈ WS
  | .new k => 100 ≤ a ∨ ∃ q, cl[a]? = some q ∧ Jvm.Cond.classLink own k q.1 ∈ WS ∧ Jvm.Cond.instantiable q.1 q.2.2 ∈ WS ∧ Jvm.Cond.initialized q.1 ∈ WS ∧ (df a).length = q.2.2 ∧
      ∀ j, j < q.2.2 → ∃ ty, parseFieldDescriptor (q.2.1 j).2.2.1 = some ty ∧ (df a)[j]? = some (defaultValue ty)
  | _ => True
theorem zupd {xs : List Int32} {j : Nat} {x : Int32} (h : j < xs.length) : upd (fun i => xs.getD i 0) j x = fun i => (xs.set j x).getD i 0 := by
  funext i
  rw [set_getD x h]
  rfl
theorem zupdL {xs : List Int64} {j : Nat} {x : Int64} (h : j < xs.length) : vp_updL (fun i => xs.getD i 0) j x = fun i => (xs.set j x).getD i 0 := by
  funext i
  simp only [vp_updL, List.getD_eq_getElem?_getD, List.getElem?_set]
  by_cases hi : i = j
  · subst hi
    simp [h]
  · rw [if_neg hi, if_neg (fun q => hi (Eq.symm q))]
theorem zupdQ {ad : Nat → Nat} {xs : List (Option Nat)} {j q : Nat} (h : j < xs.length) : va_up (fun i => (xs.getD i none).map ad) j (some (ad q)) = fun i => ((xs.set j (some q)).getD i none).map ad := by
  funext i
  simp only [va_up, List.getD_eq_getElem?_getD, List.getElem?_set]
  by_cases hi : i = j
  · subst hi
    simp [h]
  · rw [if_neg hi, if_neg (fun q => hi (Eq.symm q))]
theorem ztr_def {ad : Nat → Nat} {ty : FieldType} : ztr ad (defaultValue ty) = defaultValue ty := by cases ty <;> rfl
section zC
variable {p : Program} {l : Launch} {e : Env} {R : Room} {s : State} {m : MethodId} {args : Array Value} {below : List Frame} {meth : Method} {c : Code} {H : Heap} {locs : List Loc} {cells slots : Nat} {Q : State → Prop}
variable {cc : ByteArray} {pc : Nat} {ls : Array Slot} {own host : String} {gad : Nat → Nat} {base : Nat} {aC : Nat → ClassId} {D : va_G} {cl : List vw_C} {el : List (Nat × String)} {WS : List Jvm.Cond} {df : Nat → List Value}
/-- a new cell lies where the interpreter says -/
theorem znew {M : List zE} {q nc0 : Nat} {x : va_E} {H1 : Heap} {T : State} (hP : va_P D cl (zw base (zad gad base) aC M ++ [(q, x)]) H1) (hD : va_D (fun q => base ≤ q) (zw base (zad gad base) aC M ++ [(q, x)])) (hT : T.heap = H1)
    (X : Stand p l e R s m args below meth c T locs cells slots) (h0 : s.heap.size ≤ base + nc0) (hc : cells + nc0 = M.length + 1) : q = base + M.length := by
  have hl : (zw base (zad gad base) aC M).length = M.length := by simp [zw]
  have hq : (zw base (zad gad base) aC M ++ [(q, x)])[M.length]? = some (q, x) := by
    rw [List.getElem?_append_right (by omega)]
    simp [hl]
  have h1 : q < H1.size := (hP _ _ hq).lt
  have h2 := X.heapSize
  rw [hT] at h2
  have h3 : base ≤ q := hD.2 _ _ hq
  rcases Nat.lt_or_ge q (base + M.length) with hlt | hge
  · exfalso
    have hj : q - base < M.length := by omega
    have hx : M[q - base]? = some M[q - base] := List.getElem?_eq_getElem hj
    have hw := zw_get (base := base) (ad := zad gad base) (aC := aC) hx
    have hw2 : (zw base (zad gad base) aC M ++ [(q, x)])[q - base]? = some (base + (q - base), zen (zad gad base) aC M[q - base]) := by
      rw [List.getElem?_append_left (by omega)]
      exact hw
    have := hD.1 _ _ _ _ hw2 hq (by show base + (q - base) = q; omega)
    omega
  · omega
set_option maxHeartbeats 8000000 in
theorem zc_sound (hexec : p.tables.exec = Jvm.exec) (hb : c.code = cc) {f : Bool} {i : Instr} {a b c0 n nc0 ns0 : Nat} {st : List Value} {X : zX} {q : Nat × List Value × zX} (hown : s.vm.findClass own = some m.cls) (hinit : f = true → meth.name = "<init>")
    (hts : ∀ w ∈ WS, w.before args s = true) (hcq : ∀ q ∈ cl, zcq WS q)
    (hK : va_K D cl (ztys aC el) s) (hS : va_S (fun q => base ≤ q) s.heap H locs) (hbs : base ≤ s.heap.size) (hsz : s.heap.size ≤ base + nc0)
    (hP : va_P D cl (zw base (zad gad base) aC X.1) H) (hcc : cells + nc0 = X.2.1) (hss : slots + ns0 = X.2.2)
    (hd : decode cc pc = .ok (i, n)) (hn : zlk i n = true) (h : zc df i a b c0 st X = some q) (ok : zokc WS cl el df own host f i a b c0) (hR1 : q.2.2.2.1 ≤ R.cells + nc0) (hR2 : q.2.2.2.2 ≤ R.slots + ns0)
    (k : ∀ (H1 : Heap) (locs1 : List Loc) (cells1 slots1 : Nat), va_P D cl (zw base (zad gad base) aC q.2.2.1) H1 → va_S (fun q => base ≤ q) s.heap H1 locs1 → cells1 + nc0 = q.2.2.2.1 → slots1 + ns0 = q.2.2.2.2 →
      W p l e R s m args below meth c H1 locs1 cells1 slots1 Q (F0 m (pc + q.1) ls (q.2.1.map (ztr (zad gad base))))) :
    W p l e R s m args below meth c H locs cells slots Q (F0 m pc ls (st.map (ztr (zad gad base)))) := by
  have hA : ∀ q, s.heap.size ≤ q → base ≤ q := fun q h => Nat.le_trans hbs h
  cases i with
  | putfield z =>
    have e1 : n = 3 := by simpa [zlk] using hn
    subst e1
    simp only [zc] at h
    split at h
    · rename_i v o r
      split at h
      · cases h
      · rename_i ho
        split at h
        · rename_i ci fs hg
          split at h
          · rename_i hc
            cases h
            obtain ⟨h1, h2, h3⟩ := hc
            subst h1
            obtain ⟨q, hq, hbq, hre, ⟨ty, hty, htk⟩, hlk⟩ := ok
            obtain ⟨q1, q2, ty0, q3⟩ := hcq q (List.mem_of_getElem? hq)
            have hw := zw_get (base := base) (ad := zad gad base) (aC := aC) hg
            obtain ⟨f1, f2⟩ := zfit_spec (ad := zad gad base) h3 htk
            have hk2 : ∀ (H1 : Heap) (locs1 : List Loc), va_P D cl ((zw base (zad gad base) aC X.1).set (o - 50) (base + (o - 50), .inr (ci, (fs.map (ztr (zad gad base))).set b (ztr (zad gad base) v)))) H1 → va_D (fun q => base ≤ q) ((zw base (zad gad base) aC X.1).set (o - 50) (base + (o - 50), .inr (ci, (fs.map (ztr (zad gad base))).set b (ztr (zad gad base) v)))) → va_S (fun q => base ≤ q) s.heap H1 locs1 → W p l e R s m args below meth c H1 locs1 cells slots Q (F0 m (pc + 3) ls (r.map (ztr (zad gad base)))) := by
              intro H1 locs1 g1 _ g3
              refine k H1 locs1 cells slots ?_ g3 hcc hss
              show va_P D cl (zw base (zad gad base) aC (X.1.set (o - 50) (.inl (ci, fs.set b v)))) H1
              rw [← zw_set]
              simpa [zen, List.map_set] using g1
            show W p l e R s m args below meth c H locs cells slots Q (F0 m pc ls (ztr (zad gad base) v :: .ref (zad gad base o) :: r.map (ztr (zad gad base))))
            rw [zad_hi ho]
            rcases hlk with ⟨hf, hlk | hlk⟩ | ⟨hf, hf2, hf3, hlk⟩
            · exact va_put hexec hb hts q1 ty0 q3 q2 hown hK hP zw_D hS (o - 50) hw hq b hbq (hts _ hlk) (fun x hx => by rw [hre] at hx; exact hx) hf hty f1 f2 (by simpa using h2) hd hk2
            · exact va_putN hexec hb hts q1 ty0 q3 q2 hown hK hP zw_D hS (o - 50) hw hq b hbq (hts _ hlk) (fun x hx => by rw [hre] at hx; exact hx) hf hty f1 f2 (by simpa using h2) hd hk2
            · exact va_putF hexec hb hts q1 ty0 q3 q2 hown hK hP zw_D hS (o - 50) hw hq b hbq (hts _ hlk) (fun x hx => by rw [hre] at hx; exact hx) hf (hinit hf2) (hre.trans hf3) hty f1 f2 (by simpa using h2) hd hk2
          · cases h
        · cases h
    · cases h
  | iastore =>
    have e1 : n = 1 := by simpa [zlk] using hn
    subst e1
    simp only [zc] at h
    split at h
    · rename_i x j o r
      split at h
      · cases h
      · rename_i ho
        split at h
        · rename_i xs hg
          split at h
          · rename_i hi
            cases h
            have hlt : j.toNatClampNeg < xs.length := Nat.not_le.mp fun q => (zin_spec hi) (Or.inr q)
            have hw := zw_get (base := base) (ad := zad gad base) (aC := aC) hg
            show W p l e R s m args below meth c H locs cells slots Q (F0 m pc ls (.int x :: .int j :: .ref (zad gad base o) :: r.map (ztr (zad gad base))))
            rw [zad_hi ho]
            refine va_iast hexec hb hK hP zw_D hS (o - 50) 0 hw (by rfl) (zin_spec hi) hd fun H1 locs1 g1 _ g3 => ?_
            refine k H1 locs1 cells slots ?_ g3 hcc hss
            show va_P D cl (zw base (zad gad base) aC (X.1.set (o - 50) (.inr (.inl (0, xs.set j.toNatClampNeg x))))) H1
            rw [← zw_set]
            rw [zupd hlt] at g1
            simpa [zen] using g1
          · cases h
        · cases h
    · cases h
  | castore =>
    have e1 : n = 1 := by simpa [zlk] using hn
    subst e1
    simp only [zc] at h
    split at h
    · rename_i x j o r
      split at h
      · cases h
      · rename_i ho
        split at h
        · rename_i xs hg
          split at h
          · rename_i hi
            cases h
            have hlt : j.toNatClampNeg < xs.length := Nat.not_le.mp fun q => (zin_spec hi) (Or.inr q)
            have hw := zw_get (base := base) (ad := zad gad base) (aC := aC) hg
            show W p l e R s m args below meth c H locs cells slots Q (F0 m pc ls (.int x :: .int j :: .ref (zad gad base o) :: r.map (ztr (zad gad base))))
            rw [zad_hi ho]
            refine va_cast hexec hb hK hP zw_D hS (o - 50) 1 hw (by rfl) (zin_spec hi) hd fun H1 locs1 g1 _ g3 => ?_
            refine k H1 locs1 cells slots ?_ g3 hcc hss
            show va_P D cl (zw base (zad gad base) aC (X.1.set (o - 50) (.inr (.inl (1, xs.set j.toNatClampNeg (vp_nar .char x)))))) H1
            rw [← zw_set]
            rw [zupd hlt] at g1
            simpa [zen] using g1
          · cases h
        · cases h
    · cases h
  | bastore =>
    have e1 : n = 1 := by simpa [zlk] using hn
    subst e1
    simp only [zc] at h
    split at h
    · rename_i x j o r
      split at h
      · cases h
      · rename_i ho
        split at h
        · rename_i xs hg
          split at h
          · rename_i hi
            cases h
            have hlt : j.toNatClampNeg < xs.length := Nat.not_le.mp fun q => (zin_spec hi) (Or.inr q)
            have hw := zw_get (base := base) (ad := zad gad base) (aC := aC) hg
            show W p l e R s m args below meth c H locs cells slots Q (F0 m pc ls (.int x :: .int j :: .ref (zad gad base o) :: r.map (ztr (zad gad base))))
            rw [zad_hi ho]
            refine va_zast hexec hb hK hP zw_D hS (o - 50) 2 hw (by rfl) (zin_spec hi) hd fun H1 locs1 g1 _ g3 => ?_
            refine k H1 locs1 cells slots ?_ g3 hcc hss
            show va_P D cl (zw base (zad gad base) aC (X.1.set (o - 50) (.inr (.inl (2, xs.set j.toNatClampNeg (vp_nar .boolean x)))))) H1
            rw [← zw_set]
            rw [zupd hlt] at g1
            simpa [zen] using g1
          · cases h
        · cases h
    · cases h
  | lastore =>
    have e1 : n = 1 := by simpa [zlk] using hn
    subst e1
    simp only [zc] at h
    split at h
    · rename_i x j o r
      split at h
      · cases h
      · rename_i ho
        split at h
        · rename_i xs hg
          split at h
          · rename_i hi
            cases h
            have hlt : j.toNatClampNeg < xs.length := Nat.not_le.mp fun q => (zin_spec hi) (Or.inr q)
            have hw := zw_get (base := base) (ad := zad gad base) (aC := aC) hg
            show W p l e R s m args below meth c H locs cells slots Q (F0 m pc ls (.long x :: .int j :: .ref (zad gad base o) :: r.map (ztr (zad gad base))))
            rw [zad_hi ho]
            refine va_last hexec hb hK hP zw_D hS (o - 50) 3 hw (by rfl) (zin_spec hi) hd fun H1 locs1 g1 _ g3 => ?_
            refine k H1 locs1 cells slots ?_ g3 hcc hss
            show va_P D cl (zw base (zad gad base) aC (X.1.set (o - 50) (.inr (.inr (.inl (xs.set j.toNatClampNeg x)))))) H1
            rw [← zw_set]
            rw [zupdL hlt] at g1
            simpa [zen] using g1
          · cases h
        · cases h
    · cases h
  | aastore =>
    have e1 : n = 1 := by simpa [zlk] using hn
    subst e1
    simp only [zc] at h
    split at h
    · rename_i v j o r
      split at h
      · cases h
      · rename_i ho
        split at h
        · rename_i kd xs ci vs hg hg2
          split at h
          · rename_i hi
            cases h
            obtain ⟨h1, h2, hi⟩ := hi
            subst h1
            subst h2
            obtain ⟨t, q, ht, hq⟩ := ok
            have ho1 : ¬ o < 50 := fun z => ho (Or.inl z)
            have ho2 : ¬ v < 50 := fun z => ho (Or.inr z)
            have hlt : j.toNatClampNeg < xs.length := Nat.not_le.mp fun q => (zin_spec hi) (Or.inr q)
            have hw := zw_get (base := base) (ad := zad gad base) (aC := aC) hg
            have hw2 := zw_get (base := base) (ad := zad gad base) (aC := aC) hg2
            have hu := zupdQ (ad := zad gad base) (q := v) hlt
            rw [zad_hi ho2] at hu
            show W p l e R s m args below meth c H locs cells slots Q (F0 m pc ls (.ref (zad gad base v) :: .int j :: .ref (zad gad base o) :: r.map (ztr (zad gad base))))
            rw [zad_hi ho1, zad_hi ho2]
            refine va_astq hexec hb hK hP zw_D hS (o - 50) (4 + t) (v - 50) kd hw (zty_el ht) hw2 hq (zin_spec hi) hd fun H1 locs1 g1 _ g3 => ?_
            refine k H1 locs1 cells slots ?_ g3 hcc hss
            show va_P D cl (zw base (zad gad base) aC (X.1.set (o - 50) (.inr (.inr (.inr (kd, xs.set j.toNatClampNeg (some v))))))) H1
            rw [← zw_set]
            rw [hu] at g1
            simpa [zen] using g1
          · cases h
        · cases h
    · cases h
  | newarray t =>
    have e1 : n = 2 := by simpa [zlk] using hn
    subst e1
    simp only [zc] at h
    split at h
    · rename_i z r
      split at h
      · rename_i hz
        obtain ⟨hm, hz0, hz1⟩ := hz
        cases t with
        | int =>
          cases h
          have hr : ∀ i, (List.replicate z.toNatClampNeg (0 : Int32)).getD i 0 = 0 := fun i => by simp [List.getD_eq_getElem?_getD, List.getElem?_replicate]; split <;> rfl
          refine va_newa hexec hb (hts _ ok) (ty := .int) rfl hK hP zw_D hS hA (a0 := ((List.replicate z.toNatClampNeg (0 : Int32)).length, .inl fun i => (List.replicate z.toNatClampNeg (0 : Int32)).getD i 0)) (N' := z.toNatClampNeg)
            (fun cA => by simp only [vp_cell, hr, List.length_replicate, defaultValue]) hz0 rfl (by simp [componentBytes]; omega) (by have := hR1; simp at this; omega) (by have := hR2; simp at this; omega) hd fun q cA H1 g0 g1 g2 g3 => ?_
          have hcA : cA = aC 0 := by
            have w1 := (hK.2 0 _ rfl).2
            have w2 := (g0.2 (ztys aC el).length (cA, .int) (by simp)).2
            exact Option.some.inj (w2.symm.trans w1)
          subst hcA
          intro T hT Y
          have hq := znew g1 g2 hT Y hsz (by omega)
          subst hq
          have g1' : va_P D cl (zw base (zad gad base) aC (X.1 ++ [.inr (.inl (0, List.replicate z.toNatClampNeg 0))])) H1 := by
              rw [zw_push]
              exact g1
          have e9 : ztr (zad gad base) (.ref (50 + X.1.length)) = .ref (base + X.1.length) := by
            show Value.ref (zad gad base (50 + X.1.length)) = _
            rw [zad_hi (by omega)]
            congr 2
            omega
          have e10 : List.map (ztr (zad gad base)) (Value.ref (50 + X.1.length) :: r) = .ref (base + X.1.length) :: r.map (ztr (zad gad base)) := by rw [List.map_cons, e9]
          have w : W p l e R s m args below meth c H1 locs (cells + 1) (slots + z.toNatClampNeg) Q (F0 m (pc + 2) ls (List.map (ztr (zad gad base)) (Value.ref (50 + X.1.length) :: r))) := k H1 locs (cells + 1) (slots + z.toNatClampNeg) g1' g3 (by show cells + 1 + nc0 = X.2.1 + 1; omega) (by show slots + z.toNatClampNeg + ns0 = X.2.2 + z.toNatClampNeg; omega)
          rw [e10] at w
          exact w T hT Y
        | char =>
          cases h
          have hr : ∀ i, (List.replicate z.toNatClampNeg (0 : Int32)).getD i 0 = 0 := fun i => by simp [List.getD_eq_getElem?_getD, List.getElem?_replicate]; split <;> rfl
          refine va_newa hexec hb (hts _ ok) (ty := .char) rfl hK hP zw_D hS hA (a0 := ((List.replicate z.toNatClampNeg (0 : Int32)).length, .inl fun i => (List.replicate z.toNatClampNeg (0 : Int32)).getD i 0)) (N' := z.toNatClampNeg)
            (fun cA => by simp only [vp_cell, hr, List.length_replicate, defaultValue]) hz0 rfl (by simp [componentBytes]; omega) (by have := hR1; simp at this; omega) (by have := hR2; simp at this; omega) hd fun q cA H1 g0 g1 g2 g3 => ?_
          have hcA : cA = aC 1 := by
            have w1 := (hK.2 1 _ rfl).2
            have w2 := (g0.2 (ztys aC el).length (cA, .char) (by simp)).2
            exact Option.some.inj (w2.symm.trans w1)
          subst hcA
          intro T hT Y
          have hq := znew g1 g2 hT Y hsz (by omega)
          subst hq
          have g1' : va_P D cl (zw base (zad gad base) aC (X.1 ++ [.inr (.inl (1, List.replicate z.toNatClampNeg 0))])) H1 := by
              rw [zw_push]
              exact g1
          have e9 : ztr (zad gad base) (.ref (50 + X.1.length)) = .ref (base + X.1.length) := by
            show Value.ref (zad gad base (50 + X.1.length)) = _
            rw [zad_hi (by omega)]
            congr 2
            omega
          have e10 : List.map (ztr (zad gad base)) (Value.ref (50 + X.1.length) :: r) = .ref (base + X.1.length) :: r.map (ztr (zad gad base)) := by rw [List.map_cons, e9]
          have w : W p l e R s m args below meth c H1 locs (cells + 1) (slots + z.toNatClampNeg) Q (F0 m (pc + 2) ls (List.map (ztr (zad gad base)) (Value.ref (50 + X.1.length) :: r))) := k H1 locs (cells + 1) (slots + z.toNatClampNeg) g1' g3 (by show cells + 1 + nc0 = X.2.1 + 1; omega) (by show slots + z.toNatClampNeg + ns0 = X.2.2 + z.toNatClampNeg; omega)
          rw [e10] at w
          exact w T hT Y
        | boolean =>
          cases h
          have hr : ∀ i, (List.replicate z.toNatClampNeg (0 : Int32)).getD i 0 = 0 := fun i => by simp [List.getD_eq_getElem?_getD, List.getElem?_replicate]; split <;> rfl
          refine va_newa hexec hb (hts _ ok) (ty := .boolean) rfl hK hP zw_D hS hA (a0 := ((List.replicate z.toNatClampNeg (0 : Int32)).length, .inl fun i => (List.replicate z.toNatClampNeg (0 : Int32)).getD i 0)) (N' := z.toNatClampNeg)
            (fun cA => by simp only [vp_cell, hr, List.length_replicate, defaultValue]) hz0 rfl (by simp [componentBytes]; omega) (by have := hR1; simp at this; omega) (by have := hR2; simp at this; omega) hd fun q cA H1 g0 g1 g2 g3 => ?_
          have hcA : cA = aC 2 := by
            have w1 := (hK.2 2 _ rfl).2
            have w2 := (g0.2 (ztys aC el).length (cA, .boolean) (by simp)).2
            exact Option.some.inj (w2.symm.trans w1)
          subst hcA
          intro T hT Y
          have hq := znew g1 g2 hT Y hsz (by omega)
          subst hq
          have g1' : va_P D cl (zw base (zad gad base) aC (X.1 ++ [.inr (.inl (2, List.replicate z.toNatClampNeg 0))])) H1 := by
              rw [zw_push]
              exact g1
          have e9 : ztr (zad gad base) (.ref (50 + X.1.length)) = .ref (base + X.1.length) := by
            show Value.ref (zad gad base (50 + X.1.length)) = _
            rw [zad_hi (by omega)]
            congr 2
            omega
          have e10 : List.map (ztr (zad gad base)) (Value.ref (50 + X.1.length) :: r) = .ref (base + X.1.length) :: r.map (ztr (zad gad base)) := by rw [List.map_cons, e9]
          have w : W p l e R s m args below meth c H1 locs (cells + 1) (slots + z.toNatClampNeg) Q (F0 m (pc + 2) ls (List.map (ztr (zad gad base)) (Value.ref (50 + X.1.length) :: r))) := k H1 locs (cells + 1) (slots + z.toNatClampNeg) g1' g3 (by show cells + 1 + nc0 = X.2.1 + 1; omega) (by show slots + z.toNatClampNeg + ns0 = X.2.2 + z.toNatClampNeg; omega)
          rw [e10] at w
          exact w T hT Y
        | long =>
          cases h
          have hr : ∀ i, (List.replicate z.toNatClampNeg (0 : Int64)).getD i 0 = 0 := fun i => by simp [List.getD_eq_getElem?_getD, List.getElem?_replicate]; split <;> rfl
          refine va_newa hexec hb (hts _ ok) (ty := .long) rfl hK hP zw_D hS hA (a0 := ((List.replicate z.toNatClampNeg (0 : Int64)).length, .inr (.inl fun i => (List.replicate z.toNatClampNeg (0 : Int64)).getD i 0))) (N' := z.toNatClampNeg)
            (fun cA => by simp only [vp_cell, hr, List.length_replicate, defaultValue]) hz0 rfl (by simp [componentBytes]; omega) (by have := hR1; simp at this; omega) (by have := hR2; simp at this; omega) hd fun q cA H1 g0 g1 g2 g3 => ?_
          have hcA : cA = aC 4 := by
            have w1 := (hK.2 3 _ rfl).2
            have w2 := (g0.2 (ztys aC el).length (cA, .long) (by simp)).2
            exact Option.some.inj (w2.symm.trans w1)
          subst hcA
          intro T hT Y
          have hq := znew g1 g2 hT Y hsz (by omega)
          subst hq
          have g1' : va_P D cl (zw base (zad gad base) aC (X.1 ++ [.inr (.inr (.inl (List.replicate z.toNatClampNeg 0)))])) H1 := by
              rw [zw_push]
              exact g1
          have e9 : ztr (zad gad base) (.ref (50 + X.1.length)) = .ref (base + X.1.length) := by
            show Value.ref (zad gad base (50 + X.1.length)) = _
            rw [zad_hi (by omega)]
            congr 2
            omega
          have e10 : List.map (ztr (zad gad base)) (Value.ref (50 + X.1.length) :: r) = .ref (base + X.1.length) :: r.map (ztr (zad gad base)) := by rw [List.map_cons, e9]
          have w : W p l e R s m args below meth c H1 locs (cells + 1) (slots + z.toNatClampNeg) Q (F0 m (pc + 2) ls (List.map (ztr (zad gad base)) (Value.ref (50 + X.1.length) :: r))) := k H1 locs (cells + 1) (slots + z.toNatClampNeg) g1' g3 (by show cells + 1 + nc0 = X.2.1 + 1; omega) (by show slots + z.toNatClampNeg + ns0 = X.2.2 + z.toNatClampNeg; omega)
          rw [e10] at w
          exact w T hT Y
        | _ => cases h
      · cases h
    · cases h
  | anewarray t =>
    have e1 : n = 3 := by simpa [zlk] using hn
    subst e1
    simp only [zc] at h
    split at h
    · rename_i z r
      split at h
      · rename_i hz
        obtain ⟨hm, hz0, hz1⟩ := hz
        cases h
        obtain ⟨j, C, hj, hk1, hk2⟩ := ok
        have hr : ∀ i, ((List.replicate z.toNatClampNeg (none : Option Nat)).getD i none).map (zad gad base) = none := fun i => by simp [List.getD_eq_getElem?_getD, List.getElem?_replicate]; split <;> rfl
        refine va_newq hexec hb hown (hts _ hk1) (show va_AO C s from hts _ hk2) hK hP zw_D hS hA (N' := z.toNatClampNeg)
          hz0 rfl (by omega) (by have := hR1; simp at this; omega) (by have := hR2; simp at this; omega) hd fun q cA H1 g0 g1 g2 g3 => ?_
        have hcA : cA = aC (10 + a) := by
          obtain ⟨_, _, _, _, _, w1⟩ := (hK.2 (4 + j) _ (zty_el hj)).2
          obtain ⟨_, _, _, _, _, w2⟩ := (g0.2 (ztys aC el).length (cA, .object C) (by simp)).2
          exact Option.some.inj (w2.symm.trans w1)
        subst hcA
        intro T hT Y
        have hq := znew g1 g2 hT Y hsz (by omega)
        subst hq
        have g1' : va_P D cl (zw base (zad gad base) aC (X.1 ++ [.inr (.inr (.inr (a, List.replicate z.toNatClampNeg none)))])) H1 := by
            rw [zw_push]
            simp only [zen, hr, List.length_replicate]
            exact g1
        have e9 : ztr (zad gad base) (.ref (50 + X.1.length)) = .ref (base + X.1.length) := by
          show Value.ref (zad gad base (50 + X.1.length)) = _
          rw [zad_hi (by omega)]
          congr 2
          omega
        have e10 : List.map (ztr (zad gad base)) (Value.ref (50 + X.1.length) :: r) = .ref (base + X.1.length) :: r.map (ztr (zad gad base)) := by rw [List.map_cons, e9]
        have w : W p l e R s m args below meth c H1 locs (cells + 1) (slots + z.toNatClampNeg) Q (F0 m (pc + 3) ls (List.map (ztr (zad gad base)) (Value.ref (50 + X.1.length) :: r))) := k H1 locs (cells + 1) (slots + z.toNatClampNeg) g1' g3 (by show cells + 1 + nc0 = X.2.1 + 1; omega) (by show slots + z.toNatClampNeg + ns0 = X.2.2 + z.toNatClampNeg; omega)
        rw [e10] at w
        exact w T hT Y
      · cases h
    · cases h
  | new t =>
    have e1 : n = 3 := by simpa [zlk] using hn
    subst e1
    simp only [zc] at h
    split at h
    · rename_i hz
      obtain ⟨hm, hz0⟩ := hz
      cases h
      rcases ok with hbig | ⟨q, hq, hk1, hk2, hk3, hk4, hk5⟩
      · omega
      obtain ⟨q1, q2, ty0, q3⟩ := hcq q (List.mem_of_getElem? hq)
      refine va_new hexec hb hts q1 ty0 q3 hown (hts _ hk1) (hts _ hk2) (hts _ hk3) hK hP zw_D hS hA hq (fs := (df a).map (ztr (zad gad base))) (fun j hj => ?_) (by have := hR1; simp at this; omega) (by have := hR2; simp at this; omega) hd fun q' H1 g1 g2 g3 => ?_
      · obtain ⟨ty, w1, w2⟩ := hk5 j hj
        have : ty0 j = ty := Option.some.inj ((q3 j hj).symm.trans w1)
        rw [this]
        simp [vp_V, List.getD_eq_getElem?_getD, w2, ztr_def]
      intro T hT Y
      have hq' := znew g1 g2 hT Y hsz (by omega)
      subst hq'
      have g1' : va_P D cl (zw base (zad gad base) aC (X.1 ++ [.inl (a, df a)])) H1 := by
          rw [zw_push]
          exact g1
      have e9 : ztr (zad gad base) (.ref (50 + X.1.length)) = .ref (base + X.1.length) := by
        show Value.ref (zad gad base (50 + X.1.length)) = _
        rw [zad_hi (by omega)]
        congr 2
        omega
      have e10 : List.map (ztr (zad gad base)) (Value.ref (50 + X.1.length) :: st) = .ref (base + X.1.length) :: st.map (ztr (zad gad base)) := by rw [List.map_cons, e9]
      have w : W p l e R s m args below meth c H1 locs (cells + 1) (slots + q.2.2) Q (F0 m (pc + 3) ls (List.map (ztr (zad gad base)) (Value.ref (50 + X.1.length) :: st))) := k H1 locs (cells + 1) (slots + q.2.2) g1' g3 (by show cells + 1 + nc0 = X.2.1 + 1; omega) (by show slots + q.2.2 + ns0 = X.2.2 + (df a).length; omega)
      rw [e10] at w
      exact w T hT Y
    · cases h
  | _ => simp [zc] at h
end zC
end
section
/-! All that stands fixed: the program's tables. -/
abbrev zT : Type := (Nat → Nat → Option zI) × (Nat → Nat) × (Nat → List Value) × (Nat → Nat → Nat → Option Nat) × (Nat → MethodName) × (Nat → ByteArray) × (Nat → Option FieldType) × (Nat → Nat) × (Nat → Nat) × (Nat → List (Nat × Nat × Nat × Nat)) × List Jvm.Cond × List vw_C × List (Nat × String) × List (String × String × String × Value) × List (String × Nat × String × Nat) × String × (Nat → String)
def zcd (t : zT) : Nat → Nat → Option zI := t.1
def znl (t : zT) : Nat → Nat := t.2.1
def zdf (t : zT) : Nat → List Value := t.2.2.1
def zhn (t : zT) : Nat → Nat → Nat → Option Nat := t.2.2.2.1
def zmt (t : zT) : Nat → MethodName := t.2.2.2.2.1
def zmb (t : zT) : Nat → ByteArray := t.2.2.2.2.2.1
def zmr (t : zT) : Nat → Option FieldType := t.2.2.2.2.2.2.1
def zfr (t : zT) : Nat → Nat := t.2.2.2.2.2.2.2.1
def zlo (t : zT) : Nat → Nat := t.2.2.2.2.2.2.2.2.1
def zhs (t : zT) : Nat → List (Nat × Nat × Nat × Nat) := t.2.2.2.2.2.2.2.2.2.1
def zWS (t : zT) : List Jvm.Cond := t.2.2.2.2.2.2.2.2.2.2.1
def zcl (t : zT) : List vw_C := t.2.2.2.2.2.2.2.2.2.2.2.1
def zel (t : zT) : List (Nat × String) := t.2.2.2.2.2.2.2.2.2.2.2.2.1
def zstt (t : zT) : List (String × String × String × Value) := t.2.2.2.2.2.2.2.2.2.2.2.2.2.1
def zsrf (t : zT) : List (String × Nat × String × Nat) := t.2.2.2.2.2.2.2.2.2.2.2.2.2.2.1
def zho (t : zT) : String := t.2.2.2.2.2.2.2.2.2.2.2.2.2.2.2.1
def zxn (t : zT) : Nat → String := t.2.2.2.2.2.2.2.2.2.2.2.2.2.2.2.2
/-- constants -/
def zokv (t : zT) (own : String) (i : Instr) (v : Value) : Prop := match i with
  | .ldc k => match v with
    | .int x => Jvm.Cond.constant own k x ∈ zWS t
    | .ref g => ∃ tx, (own, k, tx, g) ∈ zsrf t
    | _ => True
  | .ldc2_w k => match v with
    | .long x => Jvm.Cond.constantLong own k x ∈ zWS t
    | _ => True
  | .getstatic k => ∃ C n d, (C, n, d, v) ∈ zstt t ∧ zfl (zWS t) own (zho t) C n d k
  | _ => True
/-- returns -/
def zokrX (ret : Option FieldType) (i : Instr) (a : Nat) : Prop := match i with
  | .ireturn => (a = 0 ∧ ret = some .int) ∨ (a = 1 ∧ ret = some .boolean) ∨ (a = 2 ∧ ret = some .char) ∨ (a = 3 ∧ ret = some .byte)
  | .lreturn => ret = some .long
  | .areturn => ∃ n, ret = some (.object n)
  | .return_ => ret = none
  | _ => True
def zokr (t : zT) (mi : Nat) (i : Instr) (a : Nat) : Prop := zokrX (zmr t mi) i a
def zlnk (t : zT) (own : String) (k b : Nat) : Prop := Jvm.Cond.methodLink own k (zmt t b) ∈ zWS t ∨ Jvm.Cond.methodLinkNest own k (zmt t b) (zho t) ∈ zWS t
/-- what the tables say of a method that is called -/
def zokmX (t : zT) (f l b : Nat) : Prop := Jvm.Cond.initialized (zmt t b).cls ∈ zWS t ∧ (zmt t b).cls ≠ "java/lang/invoke/MethodHandle" ∧ (zmt t b).cls ≠ "java/lang/invoke/VarHandle" ∧ plainFor (zmt t b) = true ∧
  ((zhs t b = [] ∧ Jvm.Cond.code (zmt t b) (zmb t b) (znl t b) (zmr t b) ∈ zWS t) ∨ Jvm.Cond.codeWith (zmt t b) (zmb t b) (znl t b) (zmr t b) (zhs t b) ∈ zWS t) ∧ zfr t b + 1 ≤ f ∧ 8 + (znl t b + 11) + zlo t b ≤ l
def zokm (t : zT) (mi b : Nat) : Prop := zokmX t (zfr t mi) (zlo t mi) b
def zcn (t : zT) (ci : Nat) : Option String := if ci = 99 then some "java/lang/String" else ((zcl t)[ci]?).map (·.1)
/-- calls -/
def zokkX (t : zT) (own : String) (f l : Nat) (i : Instr) (a b c : Nat) (v : Value) : Prop := match i with
  | .invokevirtual k => a = 0 ∧ zokmX t f l b ∧ zlnk t own k b ∧ Jvm.Cond.instanceMethod (zmt t b) ∈ zWS t ∧ (parseMethodDescriptor (zmt t b).desc).map (fun d => d.parameters.length + 1) = some c ∧
      ∃ ci C, v = .ref ci ∧ zcn t ci = some C ∧ Jvm.Cond.selects C (zmt t b) (zmt t b) ∈ zWS t
  | .invokespecial k => (a = 0 → zokmX t f l b ∧ zlnk t own k b ∧ Jvm.Cond.instanceMethod (zmt t b) ∈ zWS t ∧ (parseMethodDescriptor (zmt t b).desc).map (fun d => d.parameters.length + 1) = some c ∧ (zmt t b).name = "<init>" ∧ Jvm.Cond.code (zmt t b) (zmb t b) (znl t b) none ∈ zWS t ∧ ∃ ci, v = .ref ci) ∧
      (a = 1 → b = 0 ∧ Jvm.Cond.methodLink own k Lib.objectInit ∈ zWS t ∧ Jvm.Cond.instanceMethod Lib.objectInit ∈ zWS t ∧ Jvm.Cond.code Lib.objectInit ⟨#[0xb1]⟩ 1 none ∈ zWS t ∧ 1 ≤ f ∧ 20 ≤ l)
  | .invokestatic k => (a = 0 → zokmX t f l b ∧ zlnk t own k b ∧ Jvm.Cond.static (zmt t b) ∈ zWS t ∧ (parseMethodDescriptor (zmt t b).desc).map (fun d => d.parameters.length) = some c ∧ v = .null) ∧
      (a = 1 → 1 ≤ f ∧ 60 ≤ l ∧ ((b = 1 ∧ Jvm.Cond.methodLink own k Lib.Math.max.name ∈ zWS t ∧ Jvm.Cond.static Lib.Math.max.name ∈ zWS t ∧ Jvm.Cond.initialized "java/lang/Math" ∈ zWS t ∧ Jvm.Cond.code Lib.Math.max.name Lib.Math.max.code 2 (some .int) ∈ zWS t) ∨
        (b = 2 ∧ Jvm.Cond.methodLink own k Lib.Math.min.name ∈ zWS t ∧ Jvm.Cond.static Lib.Math.min.name ∈ zWS t ∧ Jvm.Cond.initialized "java/lang/Math" ∈ zWS t ∧ Jvm.Cond.code Lib.Math.min.name Lib.Math.min.code 2 (some .int) ∈ zWS t) ∨
        (b = 3 ∧ Jvm.Cond.methodLink own k arraycopyName ∈ zWS t ∧ Jvm.Cond.native arraycopyName ∈ zWS t ∧ Jvm.Cond.static arraycopyName ∈ zWS t ∧ Jvm.Cond.initialized "java/lang/System" ∈ zWS t)))
  | _ => True
def zokk (t : zT) (mi : Nat) (i : Instr) (a b c : Nat) (v : Value) : Prop := zokkX t (zmt t mi).cls (zfr t mi) (zlo t mi) i a b c v
/-- one instruction stands in the tables as it must -/
def zokI (t : zT) (mi pc : Nat) (i : Instr) (a b c : Nat) (v : Value) : Prop :=
  (∃ n, decode (zmb t mi) pc = .ok (i, n) ∧ zlk i n = true) ∧ zok (zWS t) (zcl t) (zel t) (zmt t mi).cls (zho t) i a b ∧ zokc (zWS t) (zcl t) (zel t) (zdf t) (zmt t mi).cls (zho t) ((zmt t mi).name == "<init>") i a b c ∧
  zokv t (zmt t mi).cls i v ∧ zokr t mi i a ∧ zokk t mi i a b c v
/-- a word that stays true while the tables warm -/
def zgw (w : Jvm.Cond) : Prop := ∀ (a a' : Array Value) (s U : State), s.WarmedH U.vm → w.before a s = true → w.before a' U = true
def zST (t : zT) : Prop := (∀ w ∈ zWS t, zgw w) ∧ (∀ q ∈ zcl t, zcq (zWS t) q) ∧ (zcl t).length ≤ 99 ∧
  ∀ mi pc i a b c v, zcd t mi pc = some (i, a, b, c, v) → zokI t mi pc i a b c v
/-- what an exception's own constructor reads -/
def zTh (base : Nat) (U : State) : Prop := ∀ q ∈ ([("UNASSIGNED_STACK", Bundle.steD), ("SUPPRESSED_SENTINEL", Bundle.listD)] : List (String × String)), ∃ (c : ClassId) (k : Class) (i : Nat) (f : Field) (a : Nat) (cell : Cell) (v : Value),
  U.vm.findClass Bundle.tN = some c ∧ U.fieldFound? Bundle.tN q.1 q.2 = some (c, k, i, f) ∧ f.isStatic = true ∧ k.statics = some a ∧ U.heap[a]? = some cell ∧ cell.vm.isStatics = true ∧ cell.cls = c ∧ f.slot < cell.slots.size ∧ k.staticTypes[f.slot]? = some f.type ∧ cell.slots[f.slot]? = some v ∧ v.isRef = true ∧ a < base
def znc : List (String × String) := [("java/lang/IllegalStateException", "java/lang/IllegalArgumentException"), ("java/lang/IndexOutOfBoundsException", "java/lang/IllegalArgumentException")]
theorem zTh_move {base : Nat} {s U : State} (h : zTh base s) (hvm : s.vm.Alike U.vm) (hq : ∀ a : Nat, a < s.heap.size → ¬ base ≤ a → U.heap[a]? = s.heap[a]?) : zTh base U := by
  intro q hm
  obtain ⟨c, k, i, f, a, cell, v, h1, h2, h3, h4, h5, h6, h7, h8, h9, h10, h11, h12⟩ := h q hm
  obtain ⟨k', hi', he⟩ := State.fieldFound?_setVm hvm h2
  exact ⟨c, k', i, f, a, cell, v, by rw [hvm.findClass]; exact h1, hi', h3, by rw [he]; exact h4, by rw [hq a (Array.getElem?_eq_some_iff.mp h5).1 (by omega)]; exact h5, h6, h7, h8, by rw [he]; exact h9, h10, h11, h12⟩
/-- what a state of the machine holds beside the cells made -/
def zU (t : zT) (D : va_G) (aC : Nat → ClassId) (gad : Nat → Nat) (base : Nat) (G : List zE) (U : State) : Prop :=
  va_K D (zcl t) (ztys aC (zel t)) U ∧ (∀ g x, G[g]? = some x → zgv (zad gad base) (fun q => base ≤ q) U g x) ∧ (∀ q ∈ zstt t, va_Z q.1 q.2.1 q.2.2.1 (ztr (zad gad base) q.2.2.2) (fun q => base ≤ q) U U.heap) ∧
  (∀ q ∈ zsrf t, vk_R q.1 q.2.1 q.2.2.1 (zad gad base q.2.2.2) U) ∧ zTh base U ∧ ∀ q ∈ znc, va_Nc q.1 q.2 U
theorem zgv_move {ad : Nat → Nat} {A : Nat → Prop} {s U : State} {g : Nat} {x : zE} (h : zgv ad A s g x) (hvm : s.vm.Alike U.vm) (hq : ∀ a : Nat, a < s.heap.size → ¬ A a → U.heap[a]? = s.heap[a]?) : zgv ad A U g x := by
  unfold zgv at h ⊢
  split at h
  · exact ⟨h.1, (h.2.1.moved hvm).kept hq, fun v hv => ((h.2.2.1 v hv).moved hvm).kept hq, fun v hv => ((h.2.2.2 v hv).moved hvm).kept hq⟩
  · rcases h with ⟨h1, h2⟩ | ⟨h1, h2⟩
    · exact Or.inl ⟨h1, (h2.moved hvm).kept hq⟩
    · exact Or.inr ⟨h1, (h2.moved hvm).kept hq⟩
  · exact h.elim
theorem zU_move {t : zT} {D : va_G} {aC : Nat → ClassId} {gad : Nat → Nat} {base : Nat} {G : List zE} {s U : State} (h : zU t D aC gad base G s) (hW : s.WarmedH U.vm) (hq : ∀ a : Nat, a < s.heap.size → ¬ base ≤ a → U.heap[a]? = s.heap[a]?) : zU t D aC gad base G U :=
  ⟨h.1.moved hW.alike, fun g x hx => zgv_move (h.2.1 g x hx) hW.alike hq, fun q hm => ((h.2.2.1 q hm).moved hW.alike).kept hq, fun q hm => (h.2.2.2.1 q hm).warm hW, zTh_move h.2.2.2.2.1 hW.alike hq, fun q hm => by
    obtain ⟨c, d, h1, h2, h3⟩ := h.2.2.2.2.2 q hm
    exact ⟨c, d, by rw [hW.alike.findClass]; exact h1, by rw [hW.alike.findClass]; exact h2, by rw [hW.alike.assignable]; exact h3⟩⟩
/-- the world at a state -/
def zIs (t : zT) (D : va_G) (aC : Nat → ClassId) (gad : Nat → Nat) (base : Nat) (G : List zE) (X : zX) (U : State) : Prop :=
  zU t D aC gad base G U ∧ va_P D (zcl t) (zw base (zad gad base) aC X.1) U.heap ∧ base ≤ U.heap.size ∧ U.heap.size ≤ base + X.2.1
def zout (t : zT) (ad : Nat → Nat) (o : zO) (oc : Outcome) (U : State) : Prop := match o with
  | .inl v => oc = .returned (v.map (ztr ad))
  | .inr x => ∃ (a : Addr) (cell : Cell), oc = .threw a ∧ U.heap[a]? = some cell ∧ cell.vm = .none ∧ U.vm.findClass (zxn t x) = some cell.cls
def zQ (t : zT) (D : va_G) (aC : Nat → ClassId) (gad : Nat → Nat) (base : Nat) (G : List zE) (below : List Frame) (s : State) (nc0 ns0 : Nat) (o : zO) (X : zX) (U : State) : Prop :=
  ∃ (oc : Outcome) (L : List Loc) (mc ms : Nat), U.status = .running ∧ Ended U below oc ∧ zout t (zad gad base) o oc U ∧ zIs t D aC gad base G X U ∧ s.WarmedH U.vm ∧ s.sameButNew ({ U with vm := s.vm } : State) L mc ms ∧ (∀ q ∈ L, base ≤ q.base) ∧ mc + nc0 = X.2.1 ∧ ms + ns0 = X.2.2 ∧ va_F (fun q => base ≤ q) s U
/-- a frame of a method of ours -/
def zF (t : zT) (D : va_G) (aC : Nat → ClassId) (gad : Nat → Nat) (base : Nat) (G : List zE) (p : Program) (R : Room) (s : State) (m : MethodId) (args : Array Value) (meth : Method) (c : Code) (mi nc0 : Nat) : Prop :=
  p.tables.exec = Jvm.exec ∧ c.code = zmb t mi ∧ c.maxLocals = znl t mi ∧ meth.sig.returnType = zmr t mi ∧ meth.locks = false ∧ s.vm.findClass (zmt t mi).cls = some m.cls ∧ meth.name = (zmt t mi).name ∧
  c.exceptionTable.toList.map (fun h => (h.startPc, h.endPc, h.handlerPc, h.catchType)) = zhs t mi ∧ (∀ w ∈ zWS t, w.before args s = true) ∧ zfr t mi ≤ R.frames ∧ zlo t mi ≤ R.locals ∧ zU t D aC gad base G s ∧ base ≤ s.heap.size ∧ s.heap.size ≤ base + nc0
theorem zweaken {tb : Tables} {e : Env} {g : Frame} {below : List Frame} {a b : State} (h : Steps tb e (g :: below) a b) : Steps tb e below a b := by
  obtain ⟨n, h1, h2⟩ := h
  exact ⟨n, h1, fun k hk => Within.weaken (mid := [g]) (h2 k hk)⟩
section zCall
variable {p : Program} {l : Launch} {e : Env} {R : Room} {s : State} {m : MethodId} {args : Array Value} {below : List Frame} {meth : Method} {c : Code} {T : State} {locs : List Loc} {cells slots : Nat}
/-- into a callee, and its whole run -/
theorem zenter (X : Stand p l e R s m args below meth c T locs cells slots) {g : JFrame} (hg : g.method = m) (hsize : g.locals.size = c.maxLocals) {ig : Instr} (hdg : decode c.code g.pc = .ok (ig, 3))
    {mk : MethodId} {methk : Method} {ck : Code} (a : Array Value) {R' : Room} {Q : State → Prop} (hmk : T.vm.method? mk = some methk) (hck : methk.code = some ck) (hlk : methk.locks = false) (hpk : T.plainMethod mk)
    (hframes : R'.frames + 1 ≤ R.frames) (hlocals : 2 * g.monitorRoom + (g.stack.map fun v => v.category).sum + (ck.maxLocals + 11) + R'.locals ≤ R.locals) (hcells : cells + R'.cells ≤ R.cells) (hslots : slots + R'.slots ≤ R.slots)
    (hW : W p l e R' (T.calling g mk a) mk a (.java g :: below) methk ck T.heap [] 0 0 Q (entryFrame mk a ck.maxLocals)) :
    ∃ t, (∀ acts, Steps p.tables e below (doInvoke e (T.setTop g) acts mk a).1 t) ∧ Q t := by
  obtain ⟨Y, hd⟩ := X.into hg hsize hdg a hmk hck hlk hpk hframes hlocals hcells hslots
  obtain ⟨t, st, q⟩ := hW _ (by simp [State.pushFrame, State.setFrames, State.setTop, State.modifyTopJava]) Y
  exact ⟨t, fun acts => by rw [hd acts]; exact zweaken st, q⟩
end zCall
end
