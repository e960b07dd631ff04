/-! The claim, one pure statement open. -/
def lz_P (b : Addr) (xs : List Int32) (args : Array Value) (s : State) : Prop := args = #[.ref b] ∧ s.IntsAt b xs ∧ xs.length ≤ 1536 ∧ zNA.before args s = true
def lz_Q (_ : Array Value) (s : State) (o : Outcome) (t : State) : Prop := o = .returned (some (.int 1)) ∧ Framed s o t [] 601024 7293034
set_option maxHeartbeats 4000000 in
theorem lz_walk (hg : zGoal) (l : Launch) (hfl : l.flags = pinnedFlags ++ [noTraceFlag]) (b : Addr) (xs : List Int32) : MetFree l x (headSpec (Jvm.Cond.code x code maxLocals ret :: tables_1) room_1) (lz_P b xs) (fun _ _ _ _ _ => True) lz_Q := by
  refine MetFree.of_bodyS (code := code) (maxLocals := maxLocals) (ret := ret) (by decide) ?_ ?_
  · intro args s m h hn
    obtain ⟨meth, c, h1, h2, h3, h4, h5, h6, -, -⟩ := Jvm.Cond.code_spec hn (atoms_spec (ws := Jvm.Cond.code x code maxLocals ret :: tables_1) h _ List.mem_cons_self)
    exact ⟨meth, c, h1, h2, h3, h4, h5, h6⟩
  · intro p e s m args below meth c s₁ B hml0 hP _
    obtain ⟨rfl, hx, hbd, hgv⟩ := hP
    obtain ⟨scr, harrAt, hlist, hof, hsmall⟩ := hx
    obtain ⟨hcb, hkn, -, -⟩ := State.arrayAt?_spec harrAt
    have hts0 : ∀ c ∈ (Jvm.Cond.code x code maxLocals ret :: tables_1), c.before #[Value.ref b] s = true := atoms_spec (ws := Jvm.Cond.code x code maxLocals ret :: tables_1) B.pre
    have hts : ∀ w ∈ lw_tbl, w.before #[Value.ref b] s = true := k2_hts_sels lw_privs (fun w hw => hts0 w (List.mem_cons_of_mem _ hw)) lw_privs_ok
    have X₀ : Stand p l e room_1 s m #[Value.ref b] below meth c s₁ [] 0 0 := Stand.of_body B
    have hh0 : s₁.heap = s.heap := by rw [B.state]; rfl
    have hsz : scr.slots.size = xs.length := by rw [← Array.length_toList, hlist, List.length_map]
    have hval : ∀ j : Nat, j < xs.length → scr.slots[j]? = some (.int (xs.getD j 0)) := fun j hj => by
      rw [← Array.getElem?_toList, hlist]
      simp [hj]
    have hbl : b < s.heap.size := (Array.getElem?_eq_some_iff.mp hcb).1
    have hX : va_X b xs.length (fun j => xs.getD j 0) s s.heap := ⟨scr, hcb, hof, hkn, hsz, hval⟩
    obtain ⟨meth2, c2, y1, y2, y3, y4, y5, y6, y7, -⟩ := Jvm.Cond.code_spec B.named (hts0 _ List.mem_cons_self)
    cases B.method.symm.trans y1
    cases X₀.code.symm.trans y2
    obtain ⟨v0, D, aC, gad, hv0, hg0, hU⟩ := zbegin (xs := xs) (flat_of_before _ hgv) hts hX hbl
    obtain ⟨n, o, X, hev, ho, hx1, hx2⟩ := hg v0 xs hv0 hbd
    subst ho
    have htab0 : c.exceptionTable = #[] := by simpa using y7
    have F : zF (zt v0) D aC gad s.heap.size (zG xs) p room_1 s m #[Value.ref b] meth c 177 0 :=
      ⟨B.exec, y3, y4, y5, y6, findClass_of_methodNamed B.named, (name_of_methodNamed B.named B.method).1, by rw [htab0]; rfl, fun w hw => hts w (List.mem_filter.mp hw).1, (by decide : 11 ≤ 14), (by decide : 233 ≤ 508), hU, Nat.le_refl _, Nat.le_refl _⟩
    have hent := lg_entry_eq m ([Value.ref b] : List Value) maxLocals
    have hl0 := lv_entry ([Value.ref b] : List Value) (n := maxLocals) (by show 1 ≤ 7; decide)
    have hK := zsound (D := D) (aC := aC) (gad := gad) (base := s.heap.size) (G := zG xs) (zST_ok v0) (zhno v0) (zthrows_of hfl (zST_ok v0) (zT_ok v0)) (zcatches_of (zC_ok v0)) n 177 0 [(0, .ref 0)] [] ([], 0, 0) _ X hev p e room_1 s m #[Value.ref b] below meth c s.heap [] 0 0 _ 0 0 F
      (by
        have h1 : ztl (zad gad s.heap.size) [(0, .ref 0)] = lv_args 0 [Value.ref b] := by
          show [(0, Value.ref (zad gad s.heap.size 0))] = [(0, Value.ref b)]
          rw [zad_lo (by decide), hg0]
        rw [h1]
        exact hl0) (fun k q hk => by cases hk) va_S.rf rfl rfl hx1 hx2
    obtain ⟨t, a1, oc, L, mc, ms, b1, b2, b3, b4, b5, b6, b7, b8, b9, b10⟩ := hK s₁ hh0 X₀
    cases b3
    refine ⟨t, .returned (some (.int 1)), ?_, b1, b2, rfl, ⟨_, rfl⟩, b5, b6.weaken (fun y hy hlt => absurd hlt (Nat.not_lt.mpr (b7 y hy))) ?_ ?_⟩
    · have e1 : entryFrame m #[Value.ref b] maxLocals = F0 m 0 ((lg_sl [Value.ref b] ++ List.replicate (maxLocals - (lg_sl [Value.ref b]).length) Slot.unset).toArray) [] := hent
      rw [e1]
      exact a1
    · have : mc + 0 = X.2.1 := b8
      omega
    · have : ms + 0 = X.2.2 := b9
      omega
theorem lz_pre_spec {args : Array Value} {s : State} (h : zNA.before args s = true) (hr : rest_1_c.before args s = true) : ∃ (b : Addr) (xs : List Int32), lz_P b xs args s := by
  have hs := flat_of_before _ h
  have hq := flat_of_before _ hr
  have hc : (Jvm.Cond.count 1).before args s = true := hs _ (by decide +kernel)
  have harr : (Jvm.Cond.arrayOf (.arg 0) .int).before args s = true := hs _ (by decide +kernel)
  have hle : (Jvm.Cond.le (.length (.arg 0)) (.int 1536)).before args s = true := hs _ (by decide +kernel)
  have hlen : (Jvm.Cond.isInt (.length (.arg 0))).before args s = true := hq _ (by decide +kernel)
  have hall : (Jvm.Cond.all (.arg 0) (.isInt (.elem (.arg 0) (.index 0)))).before args s = true := hq _ (by decide +kernel)
  obtain ⟨b, xs, hb, hx⟩ := State.ints_of_pre rfl harr hlen hall
  have hsm : xs.length < 2 ^ 31 := hx.choose_spec.2.2.2
  have hev : (Term.length (.arg 0)).eval args s none [] s = some (.int xs.length.toInt32) := hx.length_eval hb
  have hv := Jvm.Cond.le_ints hev (show (Term.int 1536).eval args s none [] s = some (.int 1536) from rfl)
  have hd : xs.length.toInt32 ≤ 1536 := by
    simpa [Jvm.Cond.before, Jvm.Cond.holds, hv] using hle
  have hN : xs.length ≤ 1536 := (Int32.ofNat_le_ofNat hsm (by decide)).mp (show Int32.ofNat xs.length ≤ Int32.ofNat 1536 from hd)
  exact ⟨b, xs, Jvm.Cond.one_arg hc (show args[0]? = some (.ref b) from hb), hx, hN, h⟩
theorem lz_comes (hg : zGoal) (l : Launch) (hfl : l.flags = pinnedFlags ++ [noTraceFlag]) : Comes l x (Jvm.Cond.code x code maxLocals ret :: tables_1) room_1 (fun tb e args s => Calls_1 tb e args s ∧ rest_1 tb e args s ∧ Pre_1 tb e args s)
    (fun _ _ args s o t => lz_Q args s o t) := by
  intro p e ha hc hk s m args below hf hfit hheap happ hpre
  obtain ⟨b, xs, hP⟩ := lz_pre_spec hpre.2.2 hpre.2.1
  obtain ⟨k, o, h1, h2, h3, hQ⟩ := lz_walk hg l hfl b xs p e ha hc hk s m args below hf ((Spec.applies_iff_loose hf).mp happ).1 hP trivial
  exact ⟨k, o, h1, h2, h3, hQ⟩
theorem lz_frame {s t : State} {o : Outcome} {args : Array Value} (h : Framed s o t [] 601024 7293034) :
    Framed s o t (fieldLocs frame_1_writes args s ++ arrayLocs frame_1_arrays args s ++ staticLocs frame_1_statics s) 601024 7293034 := h
theorem lz_limb (hg : zGoal) (L : Jvm.Cond) (hL : ∀ (args : Array Value) (s t : State), L.after args s (.returned (some (.int 1))) t = true) :
    ArmFor flags0 classFile x code maxLocals ret World_1 tables_1 room_1 Calls_1 rest_1 Pre_1
      (fun tb e a s o t => postC L tb e a s o t ∧ Framed s o t (fieldLocs frame_1_writes a s ++ arrayLocs frame_1_arrays a s ++ staticLocs frame_1_statics s) 601024 7293034) := by
  intro l h1l h2l h3l p e ha hc hk s m args below hf hfit hheap happ hpre
  have hfl : l.flags = pinnedFlags ++ [noTraceFlag] := by first | exact h1l | exact h2l | exact h3l | exact h1l.2 | exact h2l.2 | exact h3l.2
  obtain ⟨k, o, h1, h2, h3, rfl, hF⟩ := lz_comes hg l hfl p e ha hc hk s m args below hf hfit hheap happ hpre
  exact ⟨k, _, h1, h2, h3, hL args s _, lz_frame hF⟩
theorem i_vc_open (hg : zGoal) : Claimed_1_1 ∧ Claimed_1_2 := ⟨lz_limb hg limb_1_1 (fun args s t => by simp [limb_1_1, Jvm.Cond.after, Jvm.Cond.holds, Jvm.Cond.value]), lz_limb hg limb_1_2 (fun args s t => Jvm.Cond.after_iff.mpr (by
  first | (rw [show limb_1_2 = Jvm.Cond.eq .result (.int 1) from rfl, Jvm.Cond.eq_ints (x := 1) (y := 1) rfl rfl]; simp; done) | (simp [limb_1_2, Jvm.Cond.value, Term.eval]; done)))⟩
