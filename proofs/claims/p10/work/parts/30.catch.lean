/-! Catches, the catch type resolved or not. -/
section zK1
variable {Q : Handler → Pre} {E : CtlPost} {e : Env} {d : Bool} {acts : List Action} {s : State} {f : JFrame} {a : Addr}
theorem zgoY {x : ExceptionTableEntry} {t : List ExceptionTableEntry} {c : ClassId} {cell : Cell} (hx : covers x f.pc = true) (h0 : x.catchType ≠ 0) (hl : s.vm.ClassLinks e.platform f.method.cls x.catchType c) (hcell : s.heap[a]? = some cell) (hobj : ∀ k, cell.vm ≠ .statics k)
    (hk : ∃ k, s.vm.classes[cell.cls]? = some k) (hc : ∃ k, s.vm.classes[c]? = some k) (hfit : s.vm.assignable cell.cls c = true) :
    wp (findHandler.go f a (x :: t)) Q E e d acts s ↔ Q (.found x.handlerPc) d acts (s.setVm (s.vm.noted f.method.cls x.catchType (.cls c))) := by
  simp only [covers] at hx
  obtain ⟨ha, ht⟩ := (resolveClass_links e.toSetting hl).op (op := VmOp.resolveClass f.method.cls x.catchType) rfl
  have hal : s.vm.Alike (s.vm.noted f.method.cls x.catchType (.cls c)) := (Vm.Alike.refl s.vm).noted _ _ _
  obtain ⟨k1, hk1⟩ := hk
  obtain ⟨k2, hk2⟩ := hc
  obtain ⟨k1', hk1', -⟩ := hal.2.2 _ _ hk1
  obtain ⟨k2', hk2', -⟩ := hal.2.2 _ _ hk2
  have hfit' : (s.vm.noted f.method.cls x.catchType (.cls c)).assignable cell.cls c = true := by rw [hal.assignable]; exact hfit
  simp [findHandler.go, hx, h0, ha, ht, hcell, hobj, hk1', hk2', hfit', VmOp.dirties, VmOp.acts]
theorem zgoN {x : ExceptionTableEntry} {t : List ExceptionTableEntry} {c : ClassId} {cell : Cell} (hx : covers x f.pc = true) (h0 : x.catchType ≠ 0) (hl : s.vm.ClassLinks e.platform f.method.cls x.catchType c) (hcell : s.heap[a]? = some cell) (hobj : ∀ k, cell.vm ≠ .statics k)
    (hk : ∃ k, s.vm.classes[cell.cls]? = some k) (hc : ∃ k, s.vm.classes[c]? = some k) (hfit : s.vm.assignable cell.cls c = false) :
    wp (findHandler.go f a (x :: t)) Q E e d acts s ↔ wp (findHandler.go f a t) Q E e d acts (s.setVm (s.vm.noted f.method.cls x.catchType (.cls c))) := by
  simp only [covers] at hx
  obtain ⟨ha, ht⟩ := (resolveClass_links e.toSetting hl).op (op := VmOp.resolveClass f.method.cls x.catchType) rfl
  have hal : s.vm.Alike (s.vm.noted f.method.cls x.catchType (.cls c)) := (Vm.Alike.refl s.vm).noted _ _ _
  obtain ⟨k1, hk1⟩ := hk
  obtain ⟨k2, hk2⟩ := hc
  obtain ⟨k1', hk1', -⟩ := hal.2.2 _ _ hk1
  obtain ⟨k2', hk2', -⟩ := hal.2.2 _ _ hk2
  have hfit' : (s.vm.noted f.method.cls x.catchType (.cls c)).assignable cell.cls c = false := by rw [hal.assignable]; exact hfit
  simp [findHandler.go, hx, h0, ha, ht, hcell, hobj, hk1', hk2', hfit', VmOp.dirties, VmOp.acts]
end zK1
theorem zcaught {tb : Tables} {e : Env} {s target : State} {g : JFrame} {c : Code} {below : List Frame} {a : Addr} (h : At s g.method c below) {pc : Nat} {vm' : Vm}
    (hfind : ∀ (Q : Handler → Pre) (E : CtlPost) (d : Bool) (acts : List Action), wp (findHandler g a) Q E e d acts ((s.setTop g).pushFrame (.throwing a)) ↔ Q (.found pc) d acts (((s.setTop g).pushFrame (.throwing a)).setVm vm'))
    (hrest : Steps tb e below ((s.setVm vm').setTop { g with pc := pc, stack := [.ref a] }) target) :
    Steps tb e below ((s.setTop g).pushFrame (.throwing a)) target := by
  have hstep : (stepThrowing e ((s.setTop g).pushFrame (.throwing a)) a (.java g :: s.frames.tail)).Is ((((s.setTop g).pushFrame (.throwing a)).setVm vm').setFrames (.java { g with pc := pc, stack := [.ref a] } :: s.frames.tail)) [] := by
    simp only [stepThrowing, searchFrame, vmDo]
    generalize hr : Sem.go _ e false [] ((s.setTop g).pushFrame (.throwing a)) = res
    obtain ⟨as, rfl, ha⟩ := Sem.eq_ok_of hr (a := Handler.found pc) (s' := ((s.setTop g).pushFrame (.throwing a)).setVm vm') (acts' := []) (by simp [hfind _ _ _ _])
    exact ⟨rfl, ha⟩
  obtain ⟨hgo, hw⟩ := h.throwing a
  refine Steps.head hgo hw ?_
  rw [stepThread_throwing (frames_entered h.top _), hstep.1]
  obtain ⟨g₀, hg⟩ := Option.isSome_iff_exists.mp h.top
  obtain ⟨r, hr⟩ := State.topJava?_eq_some.mp hg
  have hr' : (s.setVm vm').frames = .java g₀ :: r := hr
  rw [State.setTop_of_frames _ hr'] at hrest
  have hf : ∀ (u : State) (F K : List Frame), ((u.setFrames F).setVm vm').setFrames K = (u.setVm vm').setFrames K := by
    intro u F K
    have h1 : (u.setFrames F).setVm vm' = (u.setVm vm').setFrames F := rfl
    rw [h1, State.setFrames_setFrames]
  rw [hr, List.tail_cons, State.pushFrame, hf, State.setTop_of_frames _ hr, hf]
  exact hrest
/-- what the tables must say where an exception is caught -/
def zokC (t : zT) (mi pc x h : Nat) : Prop :=
  (∃ s0 e0 ct rest C, zhs t mi = (s0, e0, h, ct) :: rest ∧ s0 ≤ pc ∧ pc < e0 ∧ ct ≠ 0 ∧ Jvm.Cond.classLink (zmt t mi).cls ct C ∈ zWS t ∧ Jvm.Cond.castable (zxn t x) C ∈ zWS t) ∨
  (∃ s0 e0 h0 ct0 C0 s1 e1 ct1 rest C1, zhs t mi = (s0, e0, h0, ct0) :: (s1, e1, h, ct1) :: rest ∧ s0 ≤ pc ∧ pc < e0 ∧ s1 ≤ pc ∧ pc < e1 ∧ ct0 ≠ 0 ∧ ct1 ≠ 0 ∧ Jvm.Cond.classLink (zmt t mi).cls ct0 C0 ∈ zWS t ∧ (zxn t x, C0) ∈ znc ∧
    Jvm.Cond.classLink (zmt t mi).cls ct1 C1 ∈ zWS t ∧ Jvm.Cond.castable (zxn t x) C1 ∈ zWS t)
section zK2
variable {t : zT} {D : va_G} {aC : Nat → ClassId} {gad : Nat → Nat} {base : Nat} {G : List zE}
set_option maxHeartbeats 4000000 in
theorem zcatches_of {l : Launch} (hC : ∀ mi pc x h, zhn t mi pc x = some h → ¬ zhd (zcd t) (zhn t) (znl t mi) mi pc x = none → zokC t mi pc x h) : zCatches t D aC gad base G l := by
  intro p e R s m args below meth c T locs cells slots ls nc0 mi pc x h st a cell F Y hcell hvm hcls hh0 hq
  obtain ⟨hexec, hcode, hnl, hret, hlocks, hown, hname, htab, hts, hfr, hlo, hU, hbs, hsz⟩ := F
  have hpl : e.platform.magicAccessors = ({} : Platform).magicAccessors := by rw [Y.admits.platform]
  have hal := Y.warmed.alike
  have hclsS : s.vm.findClass (zxn t x) = some cell.cls := by rw [← hal.findClass]; exact hcls
  have hobj : ∀ k, cell.vm ≠ .statics k := fun k hk => by rw [hvm] at hk; cases hk
  rcases hC mi pc x h hh0 hq with ⟨s0, e0, ct, rest, C, hz, c1, c2, c3, c4, c5⟩ | ⟨s0, e0, h0, ct0, C0, s1, e1, ct1, rest, C1, hz, c1, c2, c3, c4, c5, c6, c7, c8, c9, c10⟩
  · rw [hz] at htab
    obtain ⟨y, ys, hy, hy1, hy2⟩ := List.map_eq_cons_iff.mp htab
    cases hy1
    obtain ⟨cT, hcT, hcl⟩ := Jvm.Cond.classLink_spec hown (hts _ c4) e.platform hpl
    obtain ⟨cA, cB, hcA, hcB, hasg⟩ := Jvm.Cond.castable_spec (hts _ c5)
    cases hclsS.symm.trans hcA
    cases hcT.symm.trans hcB
    obtain ⟨dk, _, _, kt, hd, _, _, _, _, hkt, _, hopen⟩ := hcl.here
    have hcl₀ := Y.warmed.classLinks hcl
    have hW' : s.WarmedH (T.vm.noted m.cls y.catchType (.cls cT)) := Y.warmed.noted hd hopen (State.rightAt_cls hcl)
    obtain ⟨kt', hkt', -⟩ := hal.2.2 _ _ hkt
    have hfit' : T.vm.assignable cell.cls cT = true := by rw [hal.assignable]; exact hasg
    refine ⟨_, Y.noted hW', fun target hrest => ?_⟩
    refine zcaught (g := F0 m pc ls st) Y.here (pc := y.handlerPc) (vm' := T.vm.noted m.cls y.catchType (.cls cT)) ?_ hrest
    intro Q E d acts
    rw [W.findHandler_eq (s := (T.setTop (F0 m pc ls st)).pushFrame (.throwing a)) (f := F0 m pc ls st) Y.method' Y.code, hy]
    exact zgoY (s := (T.setTop (F0 m pc ls st)).pushFrame (.throwing a)) (f := F0 m pc ls st) (by simp [covers, c1, c2]) c3 hcl₀ hcell hobj (Vm.classAt_of_assignable hfit' ⟨kt', hkt'⟩) ⟨kt', hkt'⟩ hfit'
  · rw [hz] at htab
    obtain ⟨y0, ys0, hy0, hy1, hy2⟩ := List.map_eq_cons_iff.mp htab
    cases hy1
    obtain ⟨y1, ys1, hy3, hy4, hy5⟩ := List.map_eq_cons_iff.mp hy2
    cases hy4
    subst hy3
    obtain ⟨cT0, hcT0, hcl0⟩ := Jvm.Cond.classLink_spec hown (hts _ c7) e.platform hpl
    obtain ⟨cT1, hcT1, hcl1⟩ := Jvm.Cond.classLink_spec hown (hts _ c9) e.platform hpl
    obtain ⟨cA, cB, hcA, hcB, hasg⟩ := Jvm.Cond.castable_spec (hts _ c10)
    cases hclsS.symm.trans hcA
    cases hcT1.symm.trans hcB
    obtain ⟨cN, cM, hcN, hcM, hno⟩ := hU.2.2.2.2.2 _ c8
    cases hclsS.symm.trans hcN
    cases hcT0.symm.trans hcM
    obtain ⟨dk0, _, _, kt0, hd0, _, _, _, _, hkt0, _, hopen0⟩ := hcl0.here
    obtain ⟨dk1, _, _, kt1, hd1, _, _, _, _, hkt1, _, hopen1⟩ := hcl1.here
    have hclA := Y.warmed.classLinks hcl0
    have hW1 : s.WarmedH (T.vm.noted m.cls y0.catchType (.cls cT0)) := Y.warmed.noted hd0 hopen0 (State.rightAt_cls hcl0)
    have Y1 := Y.noted hW1
    have hclB := Y1.warmed.classLinks hcl1
    have hW2 : s.WarmedH ((T.vm.noted m.cls y0.catchType (.cls cT0)).noted m.cls y1.catchType (.cls cT1)) := Y1.warmed.noted hd1 hopen1 (State.rightAt_cls hcl1)
    obtain ⟨kt0', hkt0', -⟩ := hal.2.2 _ _ hkt0
    obtain ⟨kt1', hkt1', -⟩ := hal.2.2 _ _ hkt1
    obtain ⟨kt1'', hkt1'', -⟩ := hW1.alike.2.2 _ _ hkt1
    have hfitT : T.vm.assignable cell.cls cT1 = true := by rw [hal.assignable]; exact hasg
    have hfit1 : (T.vm.noted m.cls y0.catchType (.cls cT0)).assignable cell.cls cT1 = true := by rw [hW1.alike.assignable]; exact hasg
    have hnoT : T.vm.assignable cell.cls cT0 = false := by rw [hal.assignable]; exact hno
    refine ⟨_, Y.noted hW2, fun target hrest => ?_⟩
    refine zcaught (g := F0 m pc ls st) Y.here (pc := y1.handlerPc) (vm' := (T.vm.noted m.cls y0.catchType (.cls cT0)).noted m.cls y1.catchType (.cls cT1)) ?_ hrest
    intro Q E d acts
    rw [W.findHandler_eq (s := (T.setTop (F0 m pc ls st)).pushFrame (.throwing a)) (f := F0 m pc ls st) Y.method' Y.code, hy0]
    rw [zgoN (s := (T.setTop (F0 m pc ls st)).pushFrame (.throwing a)) (f := F0 m pc ls st) (by simp [covers, c1, c2]) c5 hclA hcell hobj (Vm.classAt_of_assignable hfitT ⟨kt1', hkt1'⟩) ⟨kt0', hkt0'⟩ hnoT]
    exact zgoY (s := ((T.setTop (F0 m pc ls st)).pushFrame (.throwing a)).setVm (T.vm.noted m.cls y0.catchType (.cls cT0))) (f := F0 m pc ls st) (by simp [covers, c3, c4]) c6 hclB hcell hobj (Vm.classAt_of_assignable hfit1 ⟨kt1'', hkt1''⟩) ⟨kt1'', hkt1''⟩ hfit1
end zK2
