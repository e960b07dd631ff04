/-! All that stands fixed: the program's tables. -/
abbrev zT : Type := (Nat → Nat → Option zI) × (Nat → Nat) × (Nat → List Value) × (Nat → Nat → Nat → Option Nat) × (Nat → MethodName) × (Nat → ByteArray) × (Nat → Option FieldType) × (Nat → Nat) × (Nat → Nat) × (Nat → List (Nat × Nat × Nat × Nat)) × List Jvm.Cond × List vw_C × List (Nat × String) × List (String × String × String × Value) × List (String × Nat × String × Nat) × String × (Nat → String)
def zcd (t : zT) : Nat → Nat → Option zI := t.1
def znl (t : zT) : Nat → Nat := t.2.1
def zdf (t : zT) : Nat → List Value := t.2.2.1
def zhn (t : zT) : Nat → Nat → Nat → Option Nat := t.2.2.2.1
def zmt (t : zT) : Nat → MethodName := t.2.2.2.2.1
def zmb (t : zT) : Nat → ByteArray := t.2.2.2.2.2.1
def zmr (t : zT) : Nat → Option FieldType := t.2.2.2.2.2.2.1
def zfr (t : zT) : Nat → Nat := t.2.2.2.2.2.2.2.1
def zlo (t : zT) : Nat → Nat := t.2.2.2.2.2.2.2.2.1
def zhs (t : zT) : Nat → List (Nat × Nat × Nat × Nat) := t.2.2.2.2.2.2.2.2.2.1
def zWS (t : zT) : List Jvm.Cond := t.2.2.2.2.2.2.2.2.2.2.1
def zcl (t : zT) : List vw_C := t.2.2.2.2.2.2.2.2.2.2.2.1
def zel (t : zT) : List (Nat × String) := t.2.2.2.2.2.2.2.2.2.2.2.2.1
def zstt (t : zT) : List (String × String × String × Value) := t.2.2.2.2.2.2.2.2.2.2.2.2.2.1
def zsrf (t : zT) : List (String × Nat × String × Nat) := t.2.2.2.2.2.2.2.2.2.2.2.2.2.2.1
def zho (t : zT) : String := t.2.2.2.2.2.2.2.2.2.2.2.2.2.2.2.1
def zxn (t : zT) : Nat → String := t.2.2.2.2.2.2.2.2.2.2.2.2.2.2.2.2
/-- constants -/
def zokv (t : zT) (own : String) (i : Instr) (v : Value) : Prop := match i with
  | .ldc k => match v with
    | .int x => Jvm.Cond.constant own k x ∈ zWS t
    | .ref g => ∃ tx, (own, k, tx, g) ∈ zsrf t
    | _ => True
  | .ldc2_w k => match v with
    | .long x => Jvm.Cond.constantLong own k x ∈ zWS t
    | _ => True
  | .getstatic k => ∃ C n d, (C, n, d, v) ∈ zstt t ∧ zfl (zWS t) own (zho t) C n d k
  | _ => True
/-- returns -/
def zokrX (ret : Option FieldType) (i : Instr) (a : Nat) : Prop := match i with
  | .ireturn => (a = 0 ∧ ret = some .int) ∨ (a = 1 ∧ ret = some .boolean) ∨ (a = 2 ∧ ret = some .char) ∨ (a = 3 ∧ ret = some .byte)
  | .lreturn => ret = some .long
  | .areturn => ∃ n, ret = some (.object n)
  | .return_ => ret = none
  | _ => True
def zokr (t : zT) (mi : Nat) (i : Instr) (a : Nat) : Prop := zokrX (zmr t mi) i a
def zlnk (t : zT) (own : String) (k b : Nat) : Prop := Jvm.Cond.methodLink own k (zmt t b) ∈ zWS t ∨ Jvm.Cond.methodLinkNest own k (zmt t b) (zho t) ∈ zWS t
/-- what the tables say of a method that is called -/
def zokmX (t : zT) (f l b : Nat) : Prop := Jvm.Cond.initialized (zmt t b).cls ∈ zWS t ∧ (zmt t b).cls ≠ "java/lang/invoke/MethodHandle" ∧ (zmt t b).cls ≠ "java/lang/invoke/VarHandle" ∧ plainFor (zmt t b) = true ∧
  ((zhs t b = [] ∧ Jvm.Cond.code (zmt t b) (zmb t b) (znl t b) (zmr t b) ∈ zWS t) ∨ Jvm.Cond.codeWith (zmt t b) (zmb t b) (znl t b) (zmr t b) (zhs t b) ∈ zWS t) ∧ zfr t b + 1 ≤ f ∧ 8 + (znl t b + 11) + zlo t b ≤ l
def zokm (t : zT) (mi b : Nat) : Prop := zokmX t (zfr t mi) (zlo t mi) b
def zcn (t : zT) (ci : Nat) : Option String := if ci = 99 then some "java/lang/String" else ((zcl t)[ci]?).map (·.1)
/-- calls -/
def zokkX (t : zT) (own : String) (f l : Nat) (i : Instr) (a b c : Nat) (v : Value) : Prop := match i with
  | .invokevirtual k => a = 0 ∧ zokmX t f l b ∧ zlnk t own k b ∧ Jvm.Cond.instanceMethod (zmt t b) ∈ zWS t ∧ (parseMethodDescriptor (zmt t b).desc).map (fun d => d.parameters.length + 1) = some c ∧
      ∃ ci C, v = .ref ci ∧ zcn t ci = some C ∧ Jvm.Cond.selects C (zmt t b) (zmt t b) ∈ zWS t
  | .invokespecial k => (a = 0 → zokmX t f l b ∧ zlnk t own k b ∧ Jvm.Cond.instanceMethod (zmt t b) ∈ zWS t ∧ (parseMethodDescriptor (zmt t b).desc).map (fun d => d.parameters.length + 1) = some c ∧ (zmt t b).name = "<init>" ∧ Jvm.Cond.code (zmt t b) (zmb t b) (znl t b) none ∈ zWS t ∧ ∃ ci, v = .ref ci) ∧
      (a = 1 → b = 0 ∧ Jvm.Cond.methodLink own k Lib.objectInit ∈ zWS t ∧ Jvm.Cond.instanceMethod Lib.objectInit ∈ zWS t ∧ Jvm.Cond.code Lib.objectInit ⟨#[0xb1]⟩ 1 none ∈ zWS t ∧ 1 ≤ f ∧ 20 ≤ l)
  | .invokestatic k => (a = 0 → zokmX t f l b ∧ zlnk t own k b ∧ Jvm.Cond.static (zmt t b) ∈ zWS t ∧ (parseMethodDescriptor (zmt t b).desc).map (fun d => d.parameters.length) = some c ∧ v = .null) ∧
      (a = 1 → 1 ≤ f ∧ 60 ≤ l ∧ ((b = 1 ∧ Jvm.Cond.methodLink own k Lib.Math.max.name ∈ zWS t ∧ Jvm.Cond.static Lib.Math.max.name ∈ zWS t ∧ Jvm.Cond.initialized "java/lang/Math" ∈ zWS t ∧ Jvm.Cond.code Lib.Math.max.name Lib.Math.max.code 2 (some .int) ∈ zWS t) ∨
        (b = 2 ∧ Jvm.Cond.methodLink own k Lib.Math.min.name ∈ zWS t ∧ Jvm.Cond.static Lib.Math.min.name ∈ zWS t ∧ Jvm.Cond.initialized "java/lang/Math" ∈ zWS t ∧ Jvm.Cond.code Lib.Math.min.name Lib.Math.min.code 2 (some .int) ∈ zWS t) ∨
        (b = 3 ∧ Jvm.Cond.methodLink own k arraycopyName ∈ zWS t ∧ Jvm.Cond.native arraycopyName ∈ zWS t ∧ Jvm.Cond.static arraycopyName ∈ zWS t ∧ Jvm.Cond.initialized "java/lang/System" ∈ zWS t)))
  | _ => True
def zokk (t : zT) (mi : Nat) (i : Instr) (a b c : Nat) (v : Value) : Prop := zokkX t (zmt t mi).cls (zfr t mi) (zlo t mi) i a b c v
/-- one instruction stands in the tables as it must -/
def zokI (t : zT) (mi pc : Nat) (i : Instr) (a b c : Nat) (v : Value) : Prop :=
  (∃ n, decode (zmb t mi) pc = .ok (i, n) ∧ zlk i n = true) ∧ zok (zWS t) (zcl t) (zel t) (zmt t mi).cls (zho t) i a b ∧ zokc (zWS t) (zcl t) (zel t) (zdf t) (zmt t mi).cls (zho t) ((zmt t mi).name == "<init>") i a b c ∧
  zokv t (zmt t mi).cls i v ∧ zokr t mi i a ∧ zokk t mi i a b c v
/-- a word that stays true while the tables warm -/
def zgw (w : Jvm.Cond) : Prop := ∀ (a a' : Array Value) (s U : State), s.WarmedH U.vm → w.before a s = true → w.before a' U = true
def zST (t : zT) : Prop := (∀ w ∈ zWS t, zgw w) ∧ (∀ q ∈ zcl t, zcq (zWS t) q) ∧ (zcl t).length ≤ 99 ∧
  ∀ mi pc i a b c v, zcd t mi pc = some (i, a, b, c, v) → zokI t mi pc i a b c v
/-- what an exception's own constructor reads -/
def zTh (base : Nat) (U : State) : Prop := ∀ q ∈ ([("UNASSIGNED_STACK", Bundle.steD), ("SUPPRESSED_SENTINEL", Bundle.listD)] : List (String × String)), ∃ (c : ClassId) (k : Class) (i : Nat) (f : Field) (a : Nat) (cell : Cell) (v : Value),
  U.vm.findClass Bundle.tN = some c ∧ U.fieldFound? Bundle.tN q.1 q.2 = some (c, k, i, f) ∧ f.isStatic = true ∧ k.statics = some a ∧ U.heap[a]? = some cell ∧ cell.vm.isStatics = true ∧ cell.cls = c ∧ f.slot < cell.slots.size ∧ k.staticTypes[f.slot]? = some f.type ∧ cell.slots[f.slot]? = some v ∧ v.isRef = true ∧ a < base
def znc : List (String × String) := [("java/lang/IllegalStateException", "java/lang/IllegalArgumentException"), ("java/lang/IndexOutOfBoundsException", "java/lang/IllegalArgumentException")]
theorem zTh_move {base : Nat} {s U : State} (h : zTh base s) (hvm : s.vm.Alike U.vm) (hq : ∀ a : Nat, a < s.heap.size → ¬ base ≤ a → U.heap[a]? = s.heap[a]?) : zTh base U := by
  intro q hm
  obtain ⟨c, k, i, f, a, cell, v, h1, h2, h3, h4, h5, h6, h7, h8, h9, h10, h11, h12⟩ := h q hm
  obtain ⟨k', hi', he⟩ := State.fieldFound?_setVm hvm h2
  exact ⟨c, k', i, f, a, cell, v, by rw [hvm.findClass]; exact h1, hi', h3, by rw [he]; exact h4, by rw [hq a (Array.getElem?_eq_some_iff.mp h5).1 (by omega)]; exact h5, h6, h7, h8, by rw [he]; exact h9, h10, h11, h12⟩
/-- what a state of the machine holds beside the cells made -/
def zU (t : zT) (D : va_G) (aC : Nat → ClassId) (gad : Nat → Nat) (base : Nat) (G : List zE) (U : State) : Prop :=
  va_K D (zcl t) (ztys aC (zel t)) U ∧ (∀ g x, G[g]? = some x → zgv (zad gad base) (fun q => base ≤ q) U g x) ∧ (∀ q ∈ zstt t, va_Z q.1 q.2.1 q.2.2.1 (ztr (zad gad base) q.2.2.2) (fun q => base ≤ q) U U.heap) ∧
  (∀ q ∈ zsrf t, vk_R q.1 q.2.1 q.2.2.1 (zad gad base q.2.2.2) U) ∧ zTh base U ∧ ∀ q ∈ znc, va_Nc q.1 q.2 U
theorem zgv_move {ad : Nat → Nat} {A : Nat → Prop} {s U : State} {g : Nat} {x : zE} (h : zgv ad A s g x) (hvm : s.vm.Alike U.vm) (hq : ∀ a : Nat, a < s.heap.size → ¬ A a → U.heap[a]? = s.heap[a]?) : zgv ad A U g x := by
  unfold zgv at h ⊢
  split at h
  · exact ⟨h.1, (h.2.1.moved hvm).kept hq, fun v hv => ((h.2.2.1 v hv).moved hvm).kept hq, fun v hv => ((h.2.2.2 v hv).moved hvm).kept hq⟩
  · rcases h with ⟨h1, h2⟩ | ⟨h1, h2⟩
    · exact Or.inl ⟨h1, (h2.moved hvm).kept hq⟩
    · exact Or.inr ⟨h1, (h2.moved hvm).kept hq⟩
  · exact h.elim
theorem zU_move {t : zT} {D : va_G} {aC : Nat → ClassId} {gad : Nat → Nat} {base : Nat} {G : List zE} {s U : State} (h : zU t D aC gad base G s) (hW : s.WarmedH U.vm) (hq : ∀ a : Nat, a < s.heap.size → ¬ base ≤ a → U.heap[a]? = s.heap[a]?) : zU t D aC gad base G U :=
  ⟨h.1.moved hW.alike, fun g x hx => zgv_move (h.2.1 g x hx) hW.alike hq, fun q hm => ((h.2.2.1 q hm).moved hW.alike).kept hq, fun q hm => (h.2.2.2.1 q hm).warm hW, zTh_move h.2.2.2.2.1 hW.alike hq, fun q hm => by
    obtain ⟨c, d, h1, h2, h3⟩ := h.2.2.2.2.2 q hm
    exact ⟨c, d, by rw [hW.alike.findClass]; exact h1, by rw [hW.alike.findClass]; exact h2, by rw [hW.alike.assignable]; exact h3⟩⟩
/-- the world at a state -/
def zIs (t : zT) (D : va_G) (aC : Nat → ClassId) (gad : Nat → Nat) (base : Nat) (G : List zE) (X : zX) (U : State) : Prop :=
  zU t D aC gad base G U ∧ va_P D (zcl t) (zw base (zad gad base) aC X.1) U.heap ∧ base ≤ U.heap.size ∧ U.heap.size ≤ base + X.2.1
def zout (t : zT) (ad : Nat → Nat) (o : zO) (oc : Outcome) (U : State) : Prop := match o with
  | .inl v => oc = .returned (v.map (ztr ad))
  | .inr x => ∃ (a : Addr) (cell : Cell), oc = .threw a ∧ U.heap[a]? = some cell ∧ cell.vm = .none ∧ U.vm.findClass (zxn t x) = some cell.cls
def zQ (t : zT) (D : va_G) (aC : Nat → ClassId) (gad : Nat → Nat) (base : Nat) (G : List zE) (below : List Frame) (s : State) (nc0 ns0 : Nat) (o : zO) (X : zX) (U : State) : Prop :=
  ∃ (oc : Outcome) (L : List Loc) (mc ms : Nat), U.status = .running ∧ Ended U below oc ∧ zout t (zad gad base) o oc U ∧ zIs t D aC gad base G X U ∧ s.WarmedH U.vm ∧ s.sameButNew ({ U with vm := s.vm } : State) L mc ms ∧ (∀ q ∈ L, base ≤ q.base) ∧ mc + nc0 = X.2.1 ∧ ms + ns0 = X.2.2 ∧ va_F (fun q => base ≤ q) s U
/-- a frame of a method of ours -/
def zF (t : zT) (D : va_G) (aC : Nat → ClassId) (gad : Nat → Nat) (base : Nat) (G : List zE) (p : Program) (R : Room) (s : State) (m : MethodId) (args : Array Value) (meth : Method) (c : Code) (mi nc0 : Nat) : Prop :=
  p.tables.exec = Jvm.exec ∧ c.code = zmb t mi ∧ c.maxLocals = znl t mi ∧ meth.sig.returnType = zmr t mi ∧ meth.locks = false ∧ s.vm.findClass (zmt t mi).cls = some m.cls ∧ meth.name = (zmt t mi).name ∧
  c.exceptionTable.toList.map (fun h => (h.startPc, h.endPc, h.handlerPc, h.catchType)) = zhs t mi ∧ (∀ w ∈ zWS t, w.before args s = true) ∧ zfr t mi ≤ R.frames ∧ zlo t mi ≤ R.locals ∧ zU t D aC gad base G s ∧ base ≤ s.heap.size ∧ s.heap.size ≤ base + nc0
theorem zweaken {tb : Tables} {e : Env} {g : Frame} {below : List Frame} {a b : State} (h : Steps tb e (g :: below) a b) : Steps tb e below a b := by
  obtain ⟨n, h1, h2⟩ := h
  exact ⟨n, h1, fun k hk => Within.weaken (mid := [g]) (h2 k hk)⟩
section zCall
variable {p : Program} {l : Launch} {e : Env} {R : Room} {s : State} {m : MethodId} {args : Array Value} {below : List Frame} {meth : Method} {c : Code} {T : State} {locs : List Loc} {cells slots : Nat}
/-- into a callee, and its whole run -/
theorem zenter (X : Stand p l e R s m args below meth c T locs cells slots) {g : JFrame} (hg : g.method = m) (hsize : g.locals.size = c.maxLocals) {ig : Instr} (hdg : decode c.code g.pc = .ok (ig, 3))
    {mk : MethodId} {methk : Method} {ck : Code} (a : Array Value) {R' : Room} {Q : State → Prop} (hmk : T.vm.method? mk = some methk) (hck : methk.code = some ck) (hlk : methk.locks = false) (hpk : T.plainMethod mk)
    (hframes : R'.frames + 1 ≤ R.frames) (hlocals : 2 * g.monitorRoom + (g.stack.map fun v => v.category).sum + (ck.maxLocals + 11) + R'.locals ≤ R.locals) (hcells : cells + R'.cells ≤ R.cells) (hslots : slots + R'.slots ≤ R.slots)
    (hW : W p l e R' (T.calling g mk a) mk a (.java g :: below) methk ck T.heap [] 0 0 Q (entryFrame mk a ck.maxLocals)) :
    ∃ t, (∀ acts, Steps p.tables e below (doInvoke e (T.setTop g) acts mk a).1 t) ∧ Q t := by
  obtain ⟨Y, hd⟩ := X.into hg hsize hdg a hmk hck hlk hpk hframes hlocals hcells hslots
  obtain ⟨t, st, q⟩ := hW _ (by simp [State.pushFrame, State.setFrames, State.setTop, State.modifyTopJava]) Y
  exact ⟨t, fun acts => by rw [hd acts]; exact zweaken st, q⟩
end zCall
