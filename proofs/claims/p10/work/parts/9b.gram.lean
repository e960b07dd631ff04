/-! Words as rows of letters, and the grammar as one step a token. -/
def xpr : List Int → Int
  | [] => 0
  | d :: r => d + 32 * xpr r
/-- letters as 1 .. 26 -/
def xlw (l : List Int) : Prop := ∀ d ∈ l, 1 ≤ d ∧ d ≤ 26
theorem xpr_rg : ∀ {l : List Int}, xlw l → 0 ≤ xpr l ∧ xpr l < 32 ^ l.length := by
  intro l
  induction l with
  | nil => intro _; exact ⟨by decide, by decide⟩
  | cons d r ih =>
    intro h
    have h1 := h d (by simp)
    have h2 := ih (fun e he => h e (by simp [he]))
    simp only [xpr, List.length_cons, Int.pow_succ]
    omega
theorem xpr_pos {l : List Int} (h : xlw l) (hn : l ≠ []) : 1 ≤ xpr l := by
  cases l with
  | nil => exact absurd rfl hn
  | cons d r =>
    have h1 := h d (by simp)
    have h2 := xpr_rg (l := r) (fun e he => h e (by simp [he]))
    simp only [xpr]
    omega
theorem xpr_inj : ∀ {a b : List Int}, xlw a → xlw b → xpr a = xpr b → a = b := by
  intro a
  induction a with
  | nil =>
    intro b _ hb e
    cases b with
    | nil => rfl
    | cons d r =>
      have := xpr_pos hb (by simp)
      simp only [xpr] at e this
      omega
  | cons x r ih =>
    intro b ha hb e
    cases b with
    | nil =>
      have := xpr_pos ha (by simp)
      simp only [xpr] at e this
      omega
    | cons y s =>
      have h1 := ha x (by simp)
      have h2 := hb y (by simp)
      simp only [xpr] at e
      have e1 : x = y := by omega
      have e2 : xpr r = xpr s := by omega
      rw [e1, ih (fun d hd => ha d (by simp [hd])) (fun d hd => hb d (by simp [hd])) e2]
theorem xlw_rev {l : List Int} (h : xlw l) : xlw l.reverse := fun d hd => h d (List.mem_reverse.mp hd)
def xds (cs : List Int) (s L : Nat) : List Int := (List.range L).map fun i => cs.getD (s + i) 0 - 96
theorem xpk_xpr (cs : List Int) (s : Nat) : ∀ L, xpk cs s L = xpr (xds cs s L).reverse := by
  intro L
  induction L with
  | zero => rfl
  | succ L ih =>
    have e : xds cs s (L + 1) = xds cs s L ++ [cs.getD (s + L) 0 - 96] := by
      unfold xds
      rw [List.range_succ, List.map_append]
      rfl
    rw [e, List.reverse_append]
    simp only [List.reverse_cons, List.reverse_nil, List.nil_append, List.cons_append, xpr, xpk, ih]
    omega
/-- a word: none if it is longer than eight letters -/
def xwd (cs : List Int) (s e : Nat) : Option (List Int) := if e - s > 8 then none else some (xds cs s (e - s))
def xwL (wd : Option (List Int)) : Int := match wd with
  | none => 0
  | some l => xpr l.reverse
def xwR (wd : Option (List Int)) : Int := match wd with
  | none => -1
  | some l => xpr l
def xwf (w : List Int) : Prop := w ≠ [] ∧ w.length ≤ 8 ∧ xlw w
theorem xpr_8 {l : List Int} (h : xlw l) (hl : l.length ≤ 8) : 0 ≤ xpr l ∧ xpr l < 1099511627776 := by
  have h1 := xpr_rg h
  have h2 : (32 : Int) ^ l.length ≤ 32 ^ 8 := by
    have : (32 : Nat) ^ l.length ≤ 32 ^ 8 := Nat.pow_le_pow_right (by decide) hl
    exact_mod_cast this
  have h3 : (32 : Int) ^ 8 = 1099511627776 := by decide
  omega
theorem x64 {a b : Int} (ha : -1 ≤ a ∧ a < 1099511627776) (hb : -1 ≤ b ∧ b < 1099511627776) : Int64.ofInt a = Int64.ofInt b ↔ a = b := by
  constructor
  · intro e
    have h1 : (Int64.ofInt a).toInt = a := Int64.toInt_ofInt_of_le (by omega) (by omega)
    have h2 : (Int64.ofInt b).toInt = b := Int64.toInt_ofInt_of_le (by omega) (by omega)
    rw [← h1, ← h2, e]
  · intro e; rw [e]
def xwo (wd : Option (List Int)) : Prop := ∀ l, wd = some l → l.length ≤ 8 ∧ xlw l
theorem xw_L {wd : Option (List Int)} {w : List Int} (hwd : xwo wd) (hw : xwf w) : Int64.ofInt (xpr w.reverse) = Int64.ofInt (xwL wd) ↔ wd = some w := by
  have h1 := xpr_8 (xlw_rev hw.2.2) (by rw [List.length_reverse]; exact hw.2.1)
  have h2 := xpr_pos (xlw_rev hw.2.2) (by simpa using hw.1)
  cases wd with
  | none =>
    rw [x64 (by omega) (by simp [xwL])]
    simp only [xwL]
    constructor
    · intro e; omega
    · intro e; cases e
  | some l =>
    obtain ⟨k1, k2⟩ := hwd l rfl
    have h3 := xpr_8 (xlw_rev k2) (by rw [List.length_reverse]; exact k1)
    simp only [xwL]
    rw [x64 (by omega) (by omega)]
    constructor
    · intro e
      have := xpr_inj (xlw_rev hw.2.2) (xlw_rev k2) e
      rw [List.reverse_inj.mp this]
    · intro e; cases e; rfl
theorem xw_R {wd : Option (List Int)} {w : List Int} (hwd : xwo wd) (hw : xwf w) : Int64.ofInt (xwR wd) = Int64.ofInt (xpr w) ↔ wd = some w := by
  have h1 := xpr_8 hw.2.2 hw.2.1
  cases wd with
  | none =>
    rw [x64 (by simp [xwR]) (by omega)]
    simp only [xwR]
    constructor
    · intro e; omega
    · intro e; cases e
  | some l =>
    obtain ⟨k1, k2⟩ := hwd l rfl
    have h3 := xpr_8 k2 k1
    simp only [xwR]
    rw [x64 (by omega) (by omega)]
    constructor
    · intro e
      rw [xpr_inj k2 hw.2.2 e]
    · intro e; cases e; rfl
theorem xw_0 {wd : Option (List Int)} (hwd : xwo wd) (hn : wd ≠ some []) : Int64.ofInt (xwL wd) = 0 ↔ wd = none := by
  show Int64.ofInt (xwL wd) = Int64.ofInt 0 ↔ _
  cases wd with
  | none => simp [xwL]
  | some l =>
    obtain ⟨k1, k2⟩ := hwd l rfl
    have h3 := xpr_8 (xlw_rev k2) (by rw [List.length_reverse]; exact k1)
    have h4 := xpr_pos (xlw_rev k2) (by intro e; apply hn; rw [List.reverse_eq_nil_iff.mp e])
    simp only [xwL]
    rw [x64 (by omega) (by omega)]
    constructor
    · intro e; omega
    · intro e; cases e
/-- which of the words a word is, or -1 -/
def xfi (wd : Option (List Int)) : List (List Int) → Int → Int
  | [], _ => -1
  | w :: r, i => if wd = some w then i else xfi wd r (i + 1)
theorem xfi_rg {wd : Option (List Int)} : ∀ (l : List (List Int)) (i : Int), 0 ≤ i → xfi wd l i = -1 ∨ (i ≤ xfi wd l i ∧ xfi wd l i < i + l.length) := by
  intro l
  induction l with
  | nil => intro i _; exact Or.inl rfl
  | cons w r ih =>
    intro i hi
    simp only [xfi, List.length_cons]
    split
    · omega
    · have := ih (i + 1) (by omega)
      omega
def selW : List (List Int) := [[1, 12, 12], [12, 5, 1, 4, 19], [6, 15, 12, 12, 15, 23, 19], [8, 5, 1, 4, 19], [19, 9, 4, 5, 19], [14, 15, 18, 20, 8], [5, 1, 19, 20], [19, 15, 21, 20, 8], [23, 5, 19, 20], [3, 5, 14, 20, 18, 5, 19], [5, 14, 4, 19], [6, 18, 15, 14, 20], [18, 5, 1, 18]]
def atW : List (List Int) := [[19, 20, 1, 25], [6, 23, 4], [2, 1, 3, 11], [12, 5, 6, 20], [18, 9, 7, 8, 20], [20, 12], [20, 18]]
def xfL (W : Int64) : List Int → Int → Int
  | [], _ => -1
  | P :: r, i => if Int64.ofInt P = W then i else xfL W r (i + 1)
theorem xfL_xfi {wd : Option (List Int)} (hwd : xwo wd) : ∀ (l : List (List Int)) (i : Int), (∀ w ∈ l, xwf w) → xfL (Int64.ofInt (xwL wd)) (l.map fun w => xpr w.reverse) i = xfi wd l i := by
  intro l
  induction l with
  | nil => intro i _; rfl
  | cons w r ih =>
    intro i h
    simp only [List.map_cons, xfL, xfi, xw_L hwd (h w (by simp)), ih (i + 1) (fun v hv => h v (by simp [hv]))]
def xwfB (w : List Int) : Bool := !w.isEmpty && (decide (w.length ≤ 8) && w.all fun d => decide (1 ≤ d) && decide (d ≤ 26))
theorem xwfB_spec {w : List Int} (h : xwfB w = true) : xwf w := by
  simp only [xwfB, Bool.and_eq_true, decide_eq_true_eq, List.all_eq_true] at h
  exact ⟨by intro e; rw [e] at h; simp at h, h.2.1, fun d hd => h.2.2 d hd⟩
theorem selW_wf : ∀ w ∈ selW, xwf w := fun w hw => xwfB_spec (List.all_eq_true.mp (by decide +kernel : (selW.all xwfB) = true) w hw)
theorem atW_wf : ∀ w ∈ atW, xwf w := fun w hw => xwfB_spec (List.all_eq_true.mp (by decide +kernel : (atW.all xwfB) = true) w hw)
set_option maxRecDepth 20000 in
theorem xix5 (W : Int64) : xix (xgt 5).2 W (xgt 5).2.length 0 0 0 = xfL W (selW.map fun w => xpr w.reverse) 0 := rfl
theorem xix6 (W : Int64) : xix (xgt 6).2 W (xgt 6).2.length 0 0 0 = xfL W (atW.map fun w => xpr w.reverse) 0 := rfl
theorem xS_eq {wd : Option (List Int)} (hwd : xwo wd) : xS (Int64.ofInt (xwL wd)) = xfi wd selW 0 := by
  unfold xS
  rw [xix5, xfL_xfi hwd _ _ selW_wf]
theorem xAt_eq {wd : Option (List Int)} (hwd : xwo wd) : xAt (Int64.ofInt (xwL wd)) = xfi wd atW 0 := by
  unfold xAt
  rw [xix6, xfL_xfi hwd _ _ atW_wf]
theorem xfn_eq {wd : Option (List Int)} (hwd : xwo wd) {nms : List (List Int)} {nm : Nat → Int64} (hw : ∀ w ∈ nms, xwf w) (hnm : ∀ i (h : i < nms.length), nm i = Int64.ofInt (xpr (nms[i]).reverse)) : ∀ (d i : Nat), d + i = nms.length → xfn nm (Int64.ofInt (xwL wd)) d i = xfi wd (nms.drop i) i := by
  intro d
  induction d with
  | zero =>
    intro i h
    rw [List.drop_eq_nil_of_le (by omega)]
    rfl
  | succ d ih =>
    intro i h
    have hi : i < nms.length := by omega
    rw [List.drop_eq_getElem_cons hi]
    simp only [xfn, xfi, hnm i hi, xw_L hwd (hw _ (List.getElem_mem hi))]
    rw [ih (i + 1) (by omega)]
    rfl
/-! The grammar. A state: what is expected, how many brackets are open, their numbers and where they begin, beats (17: too many), depth. -/
abbrev xA : Type := Nat × Int × List Int × List Int × Int × Int
def xeos (op : Int) (tm oa : List Int) (m d ki sg : Int) : Option xA := if ki = 3 ∧ sg = 59 then some (2, op, tm, oa, m, d) else if op = 0 then none else if ki = 3 ∧ sg = 41 then some (7, op - 1, tm, oa, min (m + (tm.getD (op - 1).toNat 0 - 1) * (m - oa.getD (op - 1).toNat 0)) 17, d) else none
def xstep (bc dp : Nat → Int) (ki di sg sl at' ol : Int) (lg : Bool) (q : xA) : Option xA := match q with
  | (0, op, tm, oa, m, d) => if ki = 1 ∧ lg = false ∧ ol = -1 ∧ sl = -1 ∧ at' = -1 then some (1, op, tm, oa, m, d) else none
  | (1, op, tm, oa, m, d) => if ki = 3 ∧ sg = 61 then some (2, op, tm, oa, m, d) else none
  | (2, op, tm, oa, m, d) => if ki = 2 ∧ 2 ≤ di ∧ di ≤ 4 ∧ op < 3 then some (3, op, tm.set op.toNat di, oa, m, d) else if ki = 1 ∧ ol ≠ -1 then some (7, op, tm, oa, min (m + bc ol.toNat) 17, max d (dp ol.toNat + 1)) else if ki = 1 ∧ sl ≠ -1 then some (5, op, tm, oa, m, d) else none
  | (3, op, tm, oa, m, d) => if ki = 3 ∧ sg = 40 then some (2, op + 1, tm, oa.set op.toNat m, m, d) else none
  | (4, op, tm, oa, m, d) => if ki = 1 ∧ sl ≠ -1 then some (5, op, tm, oa, m, d) else none
  | (5, op, tm, oa, m, d) => if ki = 1 ∧ at' ≠ -1 then some (6, op, tm, oa, m, d) else none
  | (6, op, tm, oa, m, d) => if ki = 3 ∧ sg = 44 then some (4, op, tm, oa, m, d) else xeos op tm oa (min (m + 1) 17) d ki sg
  | (_, op, tm, oa, m, d) => xeos op tm oa m d ki sg
/-- what the text is worth behind its last token: beats and depth, if it is a call -/
def xfin (q : xA) : Option (Int × Int) := if (q.1 = 6 ∨ q.1 = 7) ∧ q.2.1 = 0 then (if (if q.1 = 6 then min (q.2.2.2.2.1 + 1) 17 else q.2.2.2.2.1) ≤ 16 ∧ q.2.2.2.2.2 ≤ 6 then some ((if q.1 = 6 then min (q.2.2.2.2.1 + 1) 17 else q.2.2.2.2.1), q.2.2.2.2.2) else none) else none
/-! The content: where the beat's parts begin, the selector that waits for its atom, the new parts, the beats. -/
abbrev xC : Type := Int × Int × List (Int × Int) × List xBt
/-- a beat of the call itself is complete -/
def xcap (K : List (Int × Int)) (C : xC) : xC := (C.1, C.2.1, C.2.2.1, C.2.2.2 ++ [(C.1, (((K ++ C.2.2.1).length : Nat) : Int), -1)])
def xcrp (op : Int) (tm oa : List Int) (C : xC) : xC := (C.1, C.2.1, C.2.2.1, C.2.2.2 ++ xrd0 C.2.2.2 (oa.getD (op - 1).toNat 0).toNat ((C.2.2.2.length : Nat) - oa.getD (op - 1).toNat 0) (tm.getD (op - 1).toNat 0 - 1).toNat)
def xceos (op : Int) (tm oa : List Int) (ki sg : Int) (C : xC) : xC := if ki = 3 ∧ sg = 59 then C else xcrp op tm oa C
def xcst (K : List (Int × Int)) (G : Nat → List xBt) (ki di sg sl at' ol : Int) (q : xA) (C : xC) : xC := match q with
  | (0, _) => C
  | (1, _) => C
  | (2, op, _) => if ki = 2 ∧ 2 ≤ di ∧ di ≤ 4 ∧ op < 3 then C else if ki = 1 ∧ ol ≠ -1 then (C.1, C.2.1, C.2.2.1, C.2.2.2 ++ (G ol.toNat).map (xsh (C.2.2.2.length : Nat))) else if ki = 1 then ((((K ++ C.2.2.1).length : Nat) : Int), sl, C.2.2.1, C.2.2.2) else C
  | (3, _) => C
  | (4, _) => if ki = 1 then (C.1, sl, C.2.2.1, C.2.2.2) else C
  | (5, _) => if ki = 1 then (C.1, C.2.1, C.2.2.1 ++ [(C.2.1, at')], C.2.2.2) else C
  | (6, op, tm, oa, _) => if ki = 3 ∧ sg = 44 then C else xceos op tm oa ki sg (xcap K C)
  | (_, op, tm, oa, _) => xceos op tm oa ki sg C
