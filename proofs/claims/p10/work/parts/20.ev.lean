/-! My own interpreter. A reference is a place: below 50 a given cell (read only), from 50 on a cell that the run has made, in the order of making. -/
abbrev zE : Type := (Nat × List Value) ⊕ ((Nat × List Int32) ⊕ (List Int64 ⊕ (Nat × List (Option Nat))))
abbrev zX : Type := List zE × Nat × Nat
abbrev zL : Type := List (Nat × Value)
abbrev zI : Type := Instr × Nat × Nat × Nat × Value
def zrd (G : List zE) (X : zX) (k : Nat) : Option zE := if k < 50 then G[k]? else X.1[k - 50]?
def zlv : zL → Nat → Option Value
  | [], _ => none
  | q :: r, i => if q.1 = i then some q.2 else zlv r i
def zf1 (i : Nat) (lv : zL) : zL := lv.filter (fun q => !(q.1 == i) && !(q.1 + 1 == i && q.2.category == 2))
def zf2 (i : Nat) (lv : zL) : zL := lv.filter (fun q => !(q.1 == i) && (!(q.1 == i + 1) && !(q.1 + 1 == i && q.2.category == 2)))
def zin (i : Int32) (n : Nat) : Bool := !decide (i < 0) && decide (i.toNatClampNeg < n)
def ztgt (pc : Nat) (off : Int) : Option Nat := if 0 ≤ (pc : Int) + off then some ((pc : Int) + off).toNat else none
def zc1 (k : Jvm.ClassFile.Cond) (x : Int32) : Bool := match k with
  | .eq => decide (x = 0)
  | .ne => decide (¬ x = 0)
  | .lt => decide (x < 0)
  | .ge => decide (0 ≤ x)
  | .gt => decide (0 < x)
  | .le => decide (x ≤ 0)
def zc2 (k : Jvm.ClassFile.Cond) (x y : Int32) : Bool := match k with
  | .eq => decide (x = y)
  | .ne => decide (¬ x = y)
  | .lt => decide (x < y)
  | .ge => decide (y ≤ x)
  | .gt => decide (y < x)
  | .le => decide (x ≤ y)
/-- the operations of two ints -/
def zo2 (i : Instr) (x y : Int32) : Option Int32 := match i with
  | .iadd => some (x + y)
  | .isub => some (x - y)
  | .imul => some (x * y)
  | .iand => some (x &&& y)
  | .ior => some (x ||| y)
  | .ixor => some (x ^^^ y)
  | .ishl => some (x <<< (y &&& 31))
  | .ishr => some (x >>> (y &&& 31))
  | .idiv => if y = 0 then none else some (x / y)
  | .irem => if y = 0 then none else some (x - x / y * y)
  | _ => none
/-- the operations of two longs -/
def zo3 (i : Instr) (x y : Int64) : Option Int64 := match i with
  | .ladd => some (x + y)
  | .lmul => some (x * y)
  | .land => some (x &&& y)
  | .lor => some (x ||| y)
  | _ => none
/-- what a field of type c takes -/
def zfit (c : Nat) (v : Value) : Bool := match c, v with
  | 0, .int _ => true
  | 1, .int x => decide (x = 0) || decide (x = 1)
  | 2, .int x => decide ((x.toUInt32 % 65536).toInt32 = x)
  | 3, .long _ => true
  | 4, .ref _ => true
  | 4, .null => true
  | _, _ => false
def zak (t : ArrayType) : Nat := match t with
  | .int => 0
  | .char => 1
  | .boolean => 2
  | _ => 9
def zput (X : zX) (k : Nat) (c : zE) : zX := (X.1.set (k - 50) c, X.2)
/-- instructions of the frame alone -/
def za (i : Instr) (v : Value) (nL pc : Nat) (lv : zL) (st : List Value) : Option (Nat × zL × List Value) := match i with
  | .iconst n => some (pc + 1, lv, .int (Int32.ofInt n) :: st)
  | .bipush n => some (pc + 2, lv, .int (Int8.ofInt n).toInt32 :: st)
  | .sipush n => some (pc + 3, lv, .int (Int16.ofInt n).toInt32 :: st)
  | .lconst n => some (pc + 1, lv, .long (Int64.ofNat (n : Nat)) :: st)
  | .iload_n k => match zlv lv k with
    | some (.int x) => some (pc + 1, lv, .int x :: st)
    | _ => none
  | .iload k => match zlv lv k with
    | some (.int x) => some (pc + 2, lv, .int x :: st)
    | _ => none
  | .lload_n k => match zlv lv k with
    | some (.long x) => some (pc + 1, lv, .long x :: st)
    | _ => none
  | .lload k => match zlv lv k with
    | some (.long x) => some (pc + 2, lv, .long x :: st)
    | _ => none
  | .aload_n k => match zlv lv k with
    | some (.ref x) => some (pc + 1, lv, .ref x :: st)
    | _ => none
  | .aload k => match zlv lv k with
    | some (.ref x) => some (pc + 2, lv, .ref x :: st)
    | _ => none
  | .istore_n k => match st with
    | .int x :: r => if (k : Nat) < nL then some (pc + 1, ((k : Nat), .int x) :: zf1 k lv, r) else none
    | _ => none
  | .istore k => match st with
    | .int x :: r => if k < nL then some (pc + 2, (k, .int x) :: zf1 k lv, r) else none
    | _ => none
  | .lstore_n k => match st with
    | .long x :: r => if (k : Nat) + 1 < nL then some (pc + 1, ((k : Nat), .long x) :: zf2 k lv, r) else none
    | _ => none
  | .lstore k => match st with
    | .long x :: r => if k + 1 < nL then some (pc + 2, (k, .long x) :: zf2 k lv, r) else none
    | _ => none
  | .astore_n k => match st with
    | .ref x :: r => if (k : Nat) < nL then some (pc + 1, ((k : Nat), .ref x) :: zf1 k lv, r) else none
    | _ => none
  | .astore k => match st with
    | .ref x :: r => if k < nL then some (pc + 2, (k, .ref x) :: zf1 k lv, r) else none
    | _ => none
  | .iinc k n => match zlv lv k with
    | some (.int x) => if k < nL then some (pc + 3, (k, .int (x + Int32.ofInt n)) :: zf1 k lv, st) else none
    | _ => none
  | .ldc _ => match v with
    | .int x => some (pc + 2, lv, .int x :: st)
    | .ref x => some (pc + 2, lv, .ref x :: st)
    | _ => none
  | .ldc2_w _ => match v with
    | .long x => some (pc + 3, lv, .long x :: st)
    | _ => none
  | .i2l => match st with
    | .int x :: r => some (pc + 1, lv, .long x.toInt64 :: r)
    | _ => none
  | .l2i => match st with
    | .long x :: r => some (pc + 1, lv, .int x.toInt32 :: r)
    | _ => none
  | .i2c => match st with
    | .int x :: r => some (pc + 1, lv, .int (x.toUInt32 % 65536).toInt32 :: r)
    | _ => none
  | .lushr => match st with
    | .int y :: .long x :: r => some (pc + 1, lv, .long (x.toUInt64 >>> (y.toInt64.toUInt64 &&& Int64.toUInt64 63)).toInt64 :: r)
    | _ => none
  | .lshl => match st with
    | .int y :: .long x :: r => some (pc + 1, lv, .long (x <<< (y.toInt64 &&& 63)) :: r)
    | _ => none
  | .lcmp => match st with
    | .long y :: .long x :: r => some (pc + 1, lv, .int (lg_cmp x y) :: r)
    | _ => none
  | .dup => match st with
    | .int x :: r => some (pc + 1, lv, .int x :: .int x :: r)
    | .ref x :: r => some (pc + 1, lv, .ref x :: .ref x :: r)
    | _ => none
  | .dup2 => match st with
    | .int x :: .int y :: r => some (pc + 1, lv, .int x :: .int y :: .int x :: .int y :: r)
    | .int x :: .ref y :: r => some (pc + 1, lv, .int x :: .ref y :: .int x :: .ref y :: r)
    | _ => none
  | .pop => match st with
    | .int _ :: r => some (pc + 1, lv, r)
    | .ref _ :: r => some (pc + 1, lv, r)
    | _ => none
  | .goto o => match ztgt pc o with
    | some t => some (t, lv, st)
    | none => none
  | .ifCond k o => match st with
    | .int x :: r => match ztgt pc o with
      | some t => some (if zc1 k x then t else pc + 3, lv, r)
      | none => none
    | _ => none
  | .if_icmp k o => match st with
    | .int y :: .int x :: r => match ztgt pc o with
      | some t => some (if zc2 k x y then t else pc + 3, lv, r)
      | none => none
    | _ => none
  | .tableswitch d lo hi os => match st with
    | .int x :: r => match (if x.toInt < lo ∨ hi < x.toInt then some d else os[(x.toInt - lo).toNat]?) with
      | some o => match ztgt pc o with
        | some t => some (t, lv, r)
        | none => none
      | none => none
    | _ => none
  | .getstatic _ => match v with
    | .int x => some (pc + 3, lv, .int x :: st)
    | .ref x => some (pc + 3, lv, .ref x :: st)
    | .null => some (pc + 3, lv, .null :: st)
    | _ => none
  | .iadd | .isub | .imul | .iand | .ior | .ixor | .ishl | .ishr | .idiv | .irem => match st with
    | .int y :: .int x :: r => match zo2 i x y with
      | some z => some (pc + 1, lv, .int z :: r)
      | none => none
    | _ => none
  | .ladd | .lmul | .land | .lor => match st with
    | .long y :: .long x :: r => match zo3 i x y with
      | some z => some (pc + 1, lv, .long z :: r)
      | none => none
    | _ => none
  | _ => none
/-- instructions that read cells -/
def zb (G : List zE) (i : Instr) (a b : Nat) (st : List Value) (X : zX) : Option (Nat × List Value) := match i with
  | .getfield _ => match st with
    | .ref o :: r => match zrd G X o with
      | some (.inl (ci, fs)) => if ci = a then match fs[b]? with
        | some v => some (3, v :: r)
        | none => none
        else none
      | _ => none
    | _ => none
  | .arraylength => match st with
    | .ref o :: r => match zrd G X o with
      | some (.inr (.inl (kd, xs))) => if o < 50 ∨ kd = 0 then some (1, .int (Int32.ofNat xs.length) :: r) else none
      | some (.inr (.inr (.inr (kd, xs)))) => if kd = a ∧ a ≠ 98 then some (1, .int (Int32.ofNat xs.length) :: r) else none
      | _ => none
    | _ => none
  | .iaload => match st with
    | .int j :: .ref o :: r => match zrd G X o with
      | some (.inr (.inl (0, xs))) => if zin j xs.length then some (1, .int (xs.getD j.toNatClampNeg 0) :: r) else none
      | _ => none
    | _ => none
  | .caload => match st with
    | .int j :: .ref o :: r => match zrd G X o with
      | some (.inr (.inl (1, xs))) => if zin j xs.length then some (1, .int (xs.getD j.toNatClampNeg 0) :: r) else none
      | _ => none
    | _ => none
  | .baload => match st with
    | .int j :: .ref o :: r => match zrd G X o with
      | some (.inr (.inl (2, xs))) => if zin j xs.length then some (1, .int (xs.getD j.toNatClampNeg 0) :: r) else none
      | some (.inr (.inl (3, xs))) => if o < 50 ∧ zin j xs.length = true then some (1, .int (xs.getD j.toNatClampNeg 0) :: r) else none
      | _ => none
    | _ => none
  | .laload => match st with
    | .int j :: .ref o :: r => match zrd G X o with
      | some (.inr (.inr (.inl xs))) => if zin j xs.length then some (1, .long (xs.getD j.toNatClampNeg 0) :: r) else none
      | _ => none
    | _ => none
  | .aaload => match st with
    | .int j :: .ref o :: r => match zrd G X o with
      | some (.inr (.inr (.inr (kd, xs)))) => if kd = a ∧ zin j xs.length = true then match xs.getD j.toNatClampNeg none with
        | some q => some (1, .ref q :: r)
        | none => none
        else none
      | _ => none
    | _ => none
  | _ => none
/-- instructions that write cells or make them -/
def zc (df : Nat → List Value) (i : Instr) (a b c : Nat) (st : List Value) (X : zX) : Option (Nat × List Value × zX) := match i with
  | .putfield _ => match st with
    | v :: .ref o :: r => if o < 50 then none else match X.1[o - 50]? with
      | some (.inl (ci, fs)) => if ci = a ∧ b < fs.length ∧ zfit c v = true then some (3, r, zput X o (.inl (ci, fs.set b v))) else none
      | _ => none
    | _ => none
  | .iastore => match st with
    | .int x :: .int j :: .ref o :: r => if o < 50 then none else match X.1[o - 50]? with
      | some (.inr (.inl (0, xs))) => if zin j xs.length then some (1, r, zput X o (.inr (.inl (0, xs.set j.toNatClampNeg x)))) else none
      | _ => none
    | _ => none
  | .castore => match st with
    | .int x :: .int j :: .ref o :: r => if o < 50 then none else match X.1[o - 50]? with
      | some (.inr (.inl (1, xs))) => if zin j xs.length then some (1, r, zput X o (.inr (.inl (1, xs.set j.toNatClampNeg (vp_nar .char x))))) else none
      | _ => none
    | _ => none
  | .bastore => match st with
    | .int x :: .int j :: .ref o :: r => if o < 50 then none else match X.1[o - 50]? with
      | some (.inr (.inl (2, xs))) => if zin j xs.length then some (1, r, zput X o (.inr (.inl (2, xs.set j.toNatClampNeg (vp_nar .boolean x))))) else none
      | _ => none
    | _ => none
  | .lastore => match st with
    | .long x :: .int j :: .ref o :: r => if o < 50 then none else match X.1[o - 50]? with
      | some (.inr (.inr (.inl xs))) => if zin j xs.length then some (1, r, zput X o (.inr (.inr (.inl (xs.set j.toNatClampNeg x))))) else none
      | _ => none
    | _ => none
  | .aastore => match st with
    | .ref q :: .int j :: .ref o :: r => if o < 50 ∨ q < 50 then none else match X.1[o - 50]?, X.1[q - 50]? with
      | some (.inr (.inr (.inr (kd, xs)))), some (.inl (ci, _)) => if kd = a ∧ kd = ci ∧ zin j xs.length = true then some (1, r, zput X o (.inr (.inr (.inr (kd, xs.set j.toNatClampNeg (some q)))))) else none
      | _, _ => none
    | _ => none
  | .newarray t => match st with
    | .int n :: r => if X.1.length = X.2.1 ∧ ¬ n < 0 ∧ n.toNatClampNeg ≤ 65536 then
        match t with
        | .int => some (2, .ref (50 + X.1.length) :: r, (X.1 ++ [.inr (.inl (0, List.replicate n.toNatClampNeg 0))], X.2.1 + 1, X.2.2 + n.toNatClampNeg))
        | .char => some (2, .ref (50 + X.1.length) :: r, (X.1 ++ [.inr (.inl (1, List.replicate n.toNatClampNeg 0))], X.2.1 + 1, X.2.2 + n.toNatClampNeg))
        | .boolean => some (2, .ref (50 + X.1.length) :: r, (X.1 ++ [.inr (.inl (2, List.replicate n.toNatClampNeg 0))], X.2.1 + 1, X.2.2 + n.toNatClampNeg))
        | .long => some (2, .ref (50 + X.1.length) :: r, (X.1 ++ [.inr (.inr (.inl (List.replicate n.toNatClampNeg 0)))], X.2.1 + 1, X.2.2 + n.toNatClampNeg))
        | _ => none
      else none
    | _ => none
  | .anewarray _ => match st with
    | .int n :: r => if X.1.length = X.2.1 ∧ ¬ n < 0 ∧ n.toNatClampNeg ≤ 65536 then
        some (3, .ref (50 + X.1.length) :: r, (X.1 ++ [.inr (.inr (.inr (a, List.replicate n.toNatClampNeg none)))], X.2.1 + 1, X.2.2 + n.toNatClampNeg))
      else none
    | _ => none
  | .new _ => if X.1.length = X.2.1 ∧ a < 100 then some (3, .ref (50 + X.1.length) :: st, (X.1 ++ [.inl (a, df a)], X.2.1 + 1, X.2.2 + (df a).length)) else none
  | _ => none
/-- the JDK's own methods that are taken as one step: b tells which -/
def zd (b : Nat) (st : List Value) (X : zX) : Option (List Value × zX) := match b with
  | 0 => match st with
    | .ref _ :: r => some (r, X)
    | _ => none
  | 1 => match st with
    | .int y :: .int x :: r => some (.int (if x < y then y else x) :: r, X)
    | _ => none
  | 2 => match st with
    | .int y :: .int x :: r => some (.int (if y < x then y else x) :: r, X)
    | _ => none
  | 3 => match st with
    | .int n :: .int dp :: .ref d :: .int sp :: .ref q :: r => if d < 50 ∨ q < 50 ∨ d = q then none else match X.1[q - 50]?, X.1[d - 50]? with
      | some (.inr (.inl (0, xs))), some (.inr (.inl (0, ys))) =>
        if ¬ n < 0 ∧ ¬ sp < 0 ∧ ¬ dp < 0 ∧ sp.toNatClampNeg + n.toNatClampNeg ≤ xs.length ∧ dp.toNatClampNeg + n.toNatClampNeg ≤ ys.length then
          some (r, zput X d (.inr (.inl (0, ys.take dp.toNatClampNeg ++ (xs.drop sp.toNatClampNeg).take n.toNatClampNeg ++ ys.drop (dp.toNatClampNeg + n.toNatClampNeg)))))
        else none
      | _, _ => none
    | _ => none
  | _ => none
def zcat (st : List Value) : Nat := (st.map fun v => v.category).sum
/-- an end: returned, or threw an exception of that class -/
abbrev zO : Type := Option Value ⊕ Nat
def zret (i : Instr) (a : Nat) (st : List Value) : Option (Option Value) := match i with
  | .ireturn => match st with
    | [.int x] => if a = 0 ∨ (a = 1 ∧ (x = 0 ∨ x = 1)) ∨ (a = 2 ∧ (x.toUInt32 % 65536).toInt32 = x) ∨ (a = 3 ∧ x.toInt8.toInt32 = x) then some (some (.int x)) else none
    | _ => none
  | .lreturn => match st with
    | [.long x] => some (some (.long x))
    | _ => none
  | .areturn => match st with
    | [.ref x] => some (some (.ref x))
    | _ => none
  | .return_ => match st with
    | [] => some none
    | _ => none
  | _ => none
/-- what the instructions behind a 'new' of an exception must be -/
def zthr (cd : Nat → Nat → Option zI) (mi pc x : Nat) : Bool := match cd mi (pc + 3), cd mi (pc + 4), cd mi (pc + 6), cd mi (pc + 9) with
  | some (.dup, _), some (.ldc _, _, _, _, .ref _), some (.invokespecial _, 2, b, _), some (.athrow, _) => decide (b = x)
  | _, _, _, _ => false
def zki (i : Instr) : Nat := match i with
  | .new _ => 1
  | .invokevirtual _ | .invokespecial _ | .invokestatic _ => 2
  | _ => 0
def zrcv (G : List zE) (X : zX) (v : Value) (as : List Value) : Bool := match v with
  | .ref ci => (match as with
    | .ref o :: _ => (match zrd G X o with
      | some (.inl (cj, _)) => decide (cj = ci)
      | _ => false)
    | _ => false)
  | _ => true
/-- the place behind a caught exception's store -/
def zhd (cd : Nat → Nat → Option zI) (hn : Nat → Nat → Nat → Option Nat) (nL mi pc x : Nat) : Option (Nat × Nat) := match hn mi pc x with
  | none => none
  | some h => match cd mi h with
    | some (.astore_n k, _) => if (k : Nat) < nL then some (h, (k : Nat)) else none
    | some (.astore k, _) => if k < nL then some (h + 1, k) else none
    | _ => none
section zEv
variable (cd : Nat → Nat → Option zI) (nl : Nat → Nat) (df : Nat → List Value) (hn : Nat → Nat → Nat → Option Nat) (G : List zE)
def zev : Nat → Nat → Nat → zL → List Value → zX → Option (zO × zX)
  | 0, _, _, _, _, _ => none
  | n + 1, mi, pc, lv, st, X => match cd mi pc with
    | none => none
    | some (i, a, b, c, v) => match za i v (nl mi) pc lv st with
      | some q => zev n mi q.1 q.2.1 q.2.2 X
      | none => match zb G i a b st X with
        | some q => zev n mi (pc + q.1) lv q.2 X
        | none => match zc df i a b c st X with
          | some q => zev n mi (pc + q.1) lv q.2.1 q.2.2
          | none => match zret i a st with
            | some r => some (.inl r, X)
            | none => if zki i = 1 then (if 100 ≤ a ∧ zthr cd mi pc a = true ∧ zcat st ≤ 4 then some (.inr a, (X.1, X.2.1 + 1, X.2.2 + 6)) else none)
              else if zki i = 2 then
                (if a = 1 then match zd b st X with
                  | some q => if zcat q.1 ≤ 8 then zev n mi (pc + 3) lv q.1 q.2 else none
                  | none => none
                else if a = 0 ∧ c ≤ st.length ∧ zcat (st.drop c) ≤ 8 ∧ zcat (st.take c) ≤ nl b ∧ zrcv G X v (st.take c).reverse = true then
                  match zev n b 0 (lv_args 0 (st.take c).reverse) [] X with
                  | some (.inl r, X') => zev n mi (pc + 3) lv (r.toList ++ st.drop c) X'
                  | some (.inr x, X') => match hn mi pc x with
                    | none => some (.inr x, X')
                    | some _ => match zhd cd hn (nl mi) mi pc x with
                      | some q => zev n mi (q.1 + 1) (zf1 q.2 lv) [] X'
                      | none => none
                  | none => none
                else none)
              else none
end zEv
