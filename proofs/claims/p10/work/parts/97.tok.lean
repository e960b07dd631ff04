/-! Tokens: what both take from the text, and the class's way to it. -/
def xsk (P : Int → Bool) (cs : List Int) (n : Nat) : Nat → Nat → Nat
  | 0, p => p
  | d + 1, p => if p < n ∧ P (cs.getD p 0) = true then xsk P cs n d (p + 1) else p
/-- the first place from p on that is not of P, or the end -/
def xskip (P : Int → Bool) (cs : List Int) (n p : Nat) : Nat := xsk P cs n (n - p) p
theorem xskip_s {P : Int → Bool} {cs : List Int} {n p : Nat} (h : p < n) (hp : P (cs.getD p 0) = true) : xskip P cs n p = xskip P cs n (p + 1) := by
  unfold xskip
  obtain ⟨d, hd⟩ : ∃ d, n - p = d + 1 := ⟨n - p - 1, by omega⟩
  have hd2 : n - (p + 1) = d := by omega
  rw [hd, hd2, xsk, if_pos ⟨h, hp⟩]
theorem xskip_e {P : Int → Bool} {cs : List Int} {n p : Nat} (h : ¬ (p < n ∧ P (cs.getD p 0) = true)) : xskip P cs n p = p := by
  unfold xskip
  cases hd : n - p with
  | zero => rfl
  | succ d => rw [xsk, if_neg h]
theorem xsk_rg {P : Int → Bool} {cs : List Int} {n : Nat} : ∀ (d p : Nat), p ≤ xsk P cs n d p ∧ (p ≤ n → xsk P cs n d p ≤ n) ∧ (∀ j, p ≤ j → j < xsk P cs n d p → P (cs.getD j 0) = true) ∧ (n ≤ p + d → xsk P cs n d p < n → P (cs.getD (xsk P cs n d p) 0) = false) := by
  intro d
  induction d with
  | zero => intro p; exact ⟨Nat.le_refl _, fun h => h, fun j h1 h2 => by simp only [xsk] at h2; omega, fun h1 h2 => by simp only [xsk] at h2; omega⟩
  | succ d ih =>
    intro p
    simp only [xsk]
    split
    · rename_i h
      obtain ⟨h1, h2, h3, h4⟩ := ih (p + 1)
      refine ⟨by omega, fun _ => h2 (by omega), fun j j1 j2 => ?_, fun k1 k2 => h4 (by omega) k2⟩
      by_cases e : j = p
      · subst e; exact h.2
      · exact h3 j (by omega) j2
    · rename_i h
      refine ⟨Nat.le_refl _, fun h => h, fun j h1 h2 => by omega, fun _ h2 => ?_⟩
      cases hb : P (cs.getD p 0) with
      | false => rfl
      | true => exact absurd ⟨h2, hb⟩ h
theorem xskip_ge {P : Int → Bool} {cs : List Int} {n p : Nat} : p ≤ xskip P cs n p := (xsk_rg _ _).1
theorem xskip_le {P : Int → Bool} {cs : List Int} {n p : Nat} (h : p ≤ n) : xskip P cs n p ≤ n := (xsk_rg _ _).2.1 h
theorem xskip_in {P : Int → Bool} {cs : List Int} {n p j : Nat} (h1 : p ≤ j) (h2 : j < xskip P cs n p) : P (cs.getD j 0) = true := (xsk_rg _ _).2.2.1 j h1 h2
theorem xskip_stop {P : Int → Bool} {cs : List Int} {n p : Nat} (h2 : xskip P cs n p < n) : P (cs.getD (xskip P cs n p) 0) = false := (xsk_rg _ _).2.2.2 (by omega) h2
def xbl (c : Int) : Bool := decide (c = 32)
def xlt (c : Int) : Bool := decide (97 ≤ c ∧ c ≤ 122)
def xdg (c : Int) : Bool := decide (48 ≤ c ∧ c ≤ 57)
theorem xlt_iff {c : Int} : xlt c = true ↔ 97 ≤ c ∧ c ≤ 122 := by simp [xlt]
theorem xdg_iff {c : Int} : xdg c = true ↔ 48 ≤ c ∧ c ≤ 57 := by simp [xdg]
theorem xbl_iff {c : Int} : xbl c = true ↔ c = 32 := by simp [xbl]
/-- letters packed as the class packs them -/
def xpk (cs : List Int) (s : Nat) : Nat → Int
  | 0 => 0
  | k + 1 => 32 * xpk cs s k + (cs.getD (s + k) 0 - 96)
def xTK (cs : List Int) (n p : Nat) (ki : Int) (s e : Nat) : Prop := s = xskip xbl cs n p ∧ ((s = n ∧ ki = 0 ∧ e = n) ∨ (s < n ∧ xlt (cs.getD s 0) = true ∧ ki = 1 ∧ e = xskip xlt cs n s) ∨ (s < n ∧ xlt (cs.getD s 0) = false ∧ xdg (cs.getD s 0) = true ∧ ki = 2 ∧ e = xskip xdg cs n s) ∨ (s < n ∧ xlt (cs.getD s 0) = false ∧ xdg (cs.getD s 0) = false ∧ ki = 3 ∧ e = s + 1))
/-- what the class knows of a token -/
def xTC (cs : List Int) (ki : Int) (s e : Nat) (wo : Int64) (di sg : Int) : Prop := (ki = 1 → wo = Int64.ofInt (if e - s > 8 then 0 else xpk cs s (e - s))) ∧ (ki = 2 → di = (if e - s > 1 then -1 else cs.getD s 0 - 48)) ∧ (ki = 3 → sg = cs.getD s 0)
abbrev xtk (ki st en : Int) (wo : Int64) (di sg : Int) : zE := .inl (5, [.ref 51, xi ki, xi st, xi en, .long wo, xi di, xi sg])
theorem xi_l {x : Int} (h1 : -2147483648 ≤ x) (h2 : x ≤ 2147483647) : (Int32.ofInt x).toInt64 = Int64.ofInt x := by
  apply Int64.toInt_inj.mp
  rw [Int32.toInt_toInt64, xi_toInt h1 h2, Int64.toInt_ofInt_of_le (by omega) (by omega)]
theorem xs_25 {v0 : Value} {xs : List Int32} {u : Nat × Nat} {f : Nat → zE} {ki st en : Int} {wo : Int64} {di sg : Int} (h112 : f 112 = xtk ki st en wo di sg) : xq v0 xs u 25 [(0, .ref 112)] f (fun r f' => r = none ∧ f' = xu f 112 (xtk ki st 0 wo di sg)) := by
  unfold xq
  refine x_aload_n rfl rfl ?_
  refine x_iconst rfl ?_
  refine x_putfield rfl (by decide) h112 (show (3 : Nat) < 7 from by decide) rfl ?_
  refine x_return rfl ⟨_, _, rfl, rfl, ?_⟩
  exact ⟨rfl, rfl⟩
theorem xs_26 {v0 : Value} {xs : List Int32} {u : Nat × Nat} {f : Nat → zE} {n : Nat} {cs : List Int} {p : Nat} {lo hi : Int} {ki st : Int} {wo : Int64} {di sg : Int} (h51 : f 51 = .inl (1, [.ref 52, xi (n : Nat)])) (h52 : f 52 = xr 1 cs) (hn : n ≤ 100) (hl : cs.length = 100) (hcs : ∀ j : Nat, 0 ≤ cs.getD j 0 ∧ cs.getD j 0 ≤ 126) (hp : p < 100) (hlo : 0 ≤ lo ∧ lo ≤ 1000) (hhi : 0 ≤ hi ∧ hi ≤ 1000) (h112 : f 112 = xtk ki st (p : Nat) wo di sg) : xq v0 xs u 26 [(0, .ref 112), (1, xi lo), (2, xi hi)] f (fun r f' => r = some (xi (if lo ≤ cs.getD p 0 ∧ cs.getD p 0 ≤ hi then 1 else 0)) ∧ f' = f) := by
  unfold xq
  have hc := hcs p
  refine x_aload_n rfl rfl ?_
  refine x_getfield rfl (by decide) h112 rfl ?_
  refine x_getfield rfl (by decide) h51 rfl ?_
  refine x_aload_n rfl rfl ?_
  refine x_getfield rfl (by decide) h112 rfl ?_
  refine x_caload rfl (by decide) h52 ⟨by omega, by rw [hl]; omega⟩ (by omega) ?_
  rw [Int.toNat_natCast]
  refine x_iload_n rfl rfl ?_
  refine x_clt (t := 36) rfl rfl ⟨by omega, by omega⟩ ⟨by omega, by omega⟩ (fun hb13 => ?_) (fun hb13 => ?_)
  · refine x_iconst rfl ?_
    refine x_ireturn rfl (Or.inr (Or.inl ⟨rfl, by decide⟩)) ⟨_, _, rfl, rfl, ?_⟩
    exact ⟨by rw [if_neg (by omega)], rfl⟩
  · refine x_aload_n rfl rfl ?_
    refine x_getfield rfl (by decide) h112 rfl ?_
    refine x_getfield rfl (by decide) h51 rfl ?_
    refine x_aload_n rfl rfl ?_
    refine x_getfield rfl (by decide) h112 rfl ?_
    refine x_caload rfl (by decide) h52 ⟨by omega, by rw [hl]; omega⟩ (by omega) ?_
    rw [Int.toNat_natCast]
    refine x_iload_n rfl rfl ?_
    refine x_cgt (t := 36) rfl rfl ⟨by omega, by omega⟩ ⟨by omega, by omega⟩ (fun hb29 => ?_) (fun hb29 => ?_)
    · refine x_iconst rfl ?_
      refine x_ireturn rfl (Or.inr (Or.inl ⟨rfl, by decide⟩)) ⟨_, _, rfl, rfl, ?_⟩
      exact ⟨by rw [if_neg (by omega)], rfl⟩
    · refine x_iconst rfl ?_
      refine x_goto (t := 37) rfl rfl ?_
      refine x_ireturn rfl (Or.inr (Or.inl ⟨rfl, by decide⟩)) ⟨_, _, rfl, rfl, ?_⟩
      exact ⟨by rw [if_pos (by omega)], rfl⟩
theorem xs_27 {v0 : Value} {xs : List Int32} {u : Nat × Nat} {f : Nat → zE} {z c : Int} (hc : 0 ≤ c ∧ c ≤ 1000) : xq v0 xs u 27 [(0, .long (Int64.ofInt z)), (2, xi c)] f (fun r f' => r = some (.long (Int64.ofInt (32 * z + (c - 96)))) ∧ f' = f) := by
  unfold xq
  refine x_ldc2 rfl ?_
  refine x_lload_n rfl rfl ?_
  refine x_lmul rfl ?_
  refine x_iload_n rfl rfl ?_
  refine x_bipush rfl (by decide) ?_
  refine x_isub rfl ?_
  refine x_iconst rfl ?_
  refine x_iadd rfl ?_
  refine x_i2l rfl ?_
  refine x_ladd rfl ?_
  refine x_lreturn rfl ⟨_, _, rfl, rfl, ?_⟩
  refine ⟨?_, rfl⟩
  rw [xi_l (by omega) (by omega), show c - 96 = c - 97 + 1 by omega, Int64.ofInt_add (32 * z) (c - 97 + 1), Int64.ofInt_mul]
  rfl
theorem xs_28l {v0 : Value} {xs : List Int32} {u : Nat × Nat} {f0 : Nat → zE} {s n : Nat} {cs : List Int} {di sg : Int} (hn : n ≤ 100) (hl : cs.length = 100) (hcs : ∀ j : Nat, 0 ≤ cs.getD j 0 ∧ cs.getD j 0 ≤ 126) {lv : zL} (h0 : zlv lv 0 = some (.ref 112)) : ∀ (d j : Nat) (f : Nat → zE), d + j = n → s ≤ j → j ≤ n → f 51 = .inl (1, [.ref 52, xi (n : Nat)]) → f 52 = xr 1 cs → f 112 = xtk 1 (s : Nat) (j : Nat) (Int64.ofInt (xpk cs s (min (j - s) 8))) di sg → xskip xlt cs n j = xskip xlt cs n s → (∀ p, p ≠ 112 → f p = f0 p) → xz v0 xs u (fun o X => ∃ r f', o = .inl r ∧ X = (xh f', u) ∧ (fun r f' => r = none ∧ f' 112 = xtk 1 (s : Nat) (xskip xlt cs n s : Nat) (Int64.ofInt (if xskip xlt cs n s - s > 8 then 0 else xpk cs s (xskip xlt cs n s - s))) di sg ∧ ∀ p, p ≠ 112 → f' p = f0 p) r f') 28 10 lv [] f := by
  intro d
  induction d with
  | zero =>
    intro j f hd hj hjn h51 h52 h112 hsk hfr
    refine x_aload_n rfl h0 ?_
    refine x_getfield rfl (by decide) h112 rfl ?_
    refine x_aload_n rfl h0 ?_
    refine x_getfield rfl (by decide) h112 rfl ?_
    refine x_getfield rfl (by decide) h51 rfl ?_
    refine x_cge (t := 85) rfl rfl ⟨by omega, by omega⟩ ⟨by omega, by omega⟩ (fun hb21 => ?_) (fun hb21 => ?_)
    · refine x_aload_n rfl h0 ?_
      refine x_getfield rfl (by decide) h112 rfl ?_
      refine x_aload_n rfl h0 ?_
      refine x_getfield rfl (by decide) h112 rfl ?_
      refine x_isub rfl ?_
      refine x_bipush rfl (by decide) ?_
      refine x_cle (t := 104) rfl rfl ⟨by omega, by omega⟩ ⟨by omega, by omega⟩ (fun hb96 => ?_) (fun hb96 => ?_)
      · refine x_return rfl ⟨_, _, rfl, rfl, ?_⟩
        have hse : xskip xlt cs n s = j := by rw [← hsk]; exact xskip_e (fun h => by have h1 := xlt_iff.mp h.2; omega)
        rw [hse]
        refine ⟨rfl, ?_, ?_⟩
        · rw [if_neg (by omega), show j - s = min (j - s) 8 by omega]; exact h112
        · exact hfr
      · refine x_aload_n rfl h0 ?_
        refine x_lconst rfl ?_
        refine x_putfield rfl (by decide) h112 (show (4 : Nat) < 7 from by decide) rfl ?_
        refine x_return rfl ⟨_, _, rfl, rfl, ?_⟩
        have hse : xskip xlt cs n s = j := by rw [← hsk]; exact xskip_e (fun h => by have h1 := xlt_iff.mp h.2; omega)
        rw [hse]
        refine ⟨rfl, ?_, ?_⟩
        · rw [if_pos (by omega)]; exact xu_eq
        · intro p hp; exact xu_ne hp (hfr p hp)
    · exfalso; omega
  | succ d ih =>
    intro j f hd hj hjn h51 h52 h112 hsk hfr
    refine x_aload_n rfl h0 ?_
    refine x_getfield rfl (by decide) h112 rfl ?_
    refine x_aload_n rfl h0 ?_
    refine x_getfield rfl (by decide) h112 rfl ?_
    refine x_getfield rfl (by decide) h51 rfl ?_
    refine x_cge (t := 85) rfl rfl ⟨by omega, by omega⟩ ⟨by omega, by omega⟩ (fun hb21 => ?_) (fun hb21 => ?_)
    · refine x_aload_n rfl h0 ?_
      refine x_getfield rfl (by decide) h112 rfl ?_
      refine x_aload_n rfl h0 ?_
      refine x_getfield rfl (by decide) h112 rfl ?_
      refine x_isub rfl ?_
      refine x_bipush rfl (by decide) ?_
      refine x_cle (t := 104) rfl rfl ⟨by omega, by omega⟩ ⟨by omega, by omega⟩ (fun hb96 => ?_) (fun hb96 => ?_)
      · refine x_return rfl ⟨_, _, rfl, rfl, ?_⟩
        have hse : xskip xlt cs n s = j := by rw [← hsk]; exact xskip_e (fun h => by have h1 := xlt_iff.mp h.2; omega)
        rw [hse]
        refine ⟨rfl, ?_, ?_⟩
        · rw [if_neg (by omega), show j - s = min (j - s) 8 by omega]; exact h112
        · exact hfr
      · refine x_aload_n rfl h0 ?_
        refine x_lconst rfl ?_
        refine x_putfield rfl (by decide) h112 (show (4 : Nat) < 7 from by decide) rfl ?_
        refine x_return rfl ⟨_, _, rfl, rfl, ?_⟩
        have hse : xskip xlt cs n s = j := by rw [← hsk]; exact xskip_e (fun h => by have h1 := xlt_iff.mp h.2; omega)
        rw [hse]
        refine ⟨rfl, ?_, ?_⟩
        · rw [if_pos (by omega)]; exact xu_eq
        · intro p hp; exact xu_ne hp (hfr p hp)
    · refine x_aload_n rfl h0 ?_
      refine x_bipush rfl (by decide) ?_
      refine x_bipush rfl (by decide) ?_
      refine x_call [_, _, _] rfl rfl (show (0 : Nat) ≤ 8 from by decide) (show (3 : Nat) ≤ 3 from by decide) (x_rcv (by decide) h112) (xs_26 h51 h52 hn hl hcs (p := j) (by omega) (by decide) (by decide) h112) (fun r' f' hP => ?_)
      obtain ⟨rfl, rfl⟩ := hP
      have hc := hcs j
      refine x_ifeq (t := 85) rfl rfl (by split <;> decide) (fun hb32 => ?_) (fun hb32 => ?_)
      · refine x_aload_n rfl h0 ?_
        refine x_getfield rfl (by decide) h112 rfl ?_
        refine x_aload_n rfl h0 ?_
        refine x_getfield rfl (by decide) h112 rfl ?_
        refine x_isub rfl ?_
        refine x_bipush rfl (by decide) ?_
        refine x_cle (t := 104) rfl rfl ⟨by omega, by omega⟩ ⟨by omega, by omega⟩ (fun hb96 => ?_) (fun hb96 => ?_)
        · refine x_return rfl ⟨_, _, rfl, rfl, ?_⟩
          have hse : xskip xlt cs n s = j := by rw [← hsk]; exact xskip_e (fun h => by have h1 := xlt_iff.mp h.2; rw [if_pos ⟨h1.1, h1.2⟩] at hb32; omega)
          rw [hse]
          refine ⟨rfl, ?_, ?_⟩
          · rw [if_neg (by omega), show j - s = min (j - s) 8 by omega]; exact h112
          · exact hfr
        · refine x_aload_n rfl h0 ?_
          refine x_lconst rfl ?_
          refine x_putfield rfl (by decide) h112 (show (4 : Nat) < 7 from by decide) rfl ?_
          refine x_return rfl ⟨_, _, rfl, rfl, ?_⟩
          have hse : xskip xlt cs n s = j := by rw [← hsk]; exact xskip_e (fun h => by have h1 := xlt_iff.mp h.2; rw [if_pos ⟨h1.1, h1.2⟩] at hb32; omega)
          rw [hse]
          refine ⟨rfl, ?_, ?_⟩
          · rw [if_pos (by omega)]; exact xu_eq
          · intro p hp; exact xu_ne hp (hfr p hp)
      · have hlt : 97 ≤ cs.getD j 0 ∧ cs.getD j 0 ≤ 122 := by
          by_cases hx : 97 ≤ cs.getD j 0 ∧ cs.getD j 0 ≤ 122
          · exact hx
          · rw [if_neg hx] at hb32; exact absurd rfl hb32
        refine x_aload_n rfl h0 ?_
        refine x_getfield rfl (by decide) h112 rfl ?_
        refine x_aload_n rfl h0 ?_
        refine x_getfield rfl (by decide) h112 rfl ?_
        refine x_isub rfl ?_
        refine x_bipush rfl (by decide) ?_
        refine x_cge (t := 72) rfl rfl ⟨by omega, by omega⟩ ⟨by omega, by omega⟩ (fun hb46 => ?_) (fun hb46 => ?_)
        · refine x_aload_n rfl h0 ?_
          refine x_dup rfl ?_
          refine x_getfield rfl (by decide) h112 rfl ?_
          refine x_iconst rfl ?_
          refine x_iadd rfl ?_
          refine x_putfield rfl (by decide) h112 (show (3 : Nat) < 7 from by decide) rfl ?_
          refine x_goto (t := 10) rfl rfl ?_
          refine ih (j + 1) _ (by omega) (by omega) (by omega) ?_ ?_ ?_ ?_ ?_
          · exact (xu_ne (by decide) h51)
          · exact (xu_ne (by decide) h52)
          · rw [show min (j + 1 - s) 8 = min (j - s) 8 by omega]; exact xu_eq
          · rw [← xskip_s (by omega) (xlt_iff.mpr (by omega))]; exact hsk
          · intro p hp; exact xu_ne hp (hfr p hp)
        · refine x_aload_n rfl h0 ?_
          refine x_aload_n rfl h0 ?_
          refine x_getfield rfl (by decide) h112 rfl ?_
          refine x_aload_n rfl h0 ?_
          refine x_getfield rfl (by decide) h112 rfl ?_
          refine x_getfield rfl (by decide) h51 rfl ?_
          refine x_aload_n rfl h0 ?_
          refine x_getfield rfl (by decide) h112 rfl ?_
          refine x_caload rfl (by decide) h52 ⟨by omega, by rw [hl]; omega⟩ (by omega) ?_
          rw [Int.toNat_natCast]
          refine x_call [_, _] rfl rfl (show (1 : Nat) ≤ 8 from by decide) (show (3 : Nat) ≤ 3 from by decide) rfl (xs_27 (by omega)) (fun r' f' hP => ?_)
          obtain ⟨rfl, rfl⟩ := hP
          refine x_putfield rfl (by decide) h112 (show (4 : Nat) < 7 from by decide) rfl ?_
          refine x_aload_n rfl h0 ?_
          refine x_dup rfl ?_
          refine x_getfield rfl (by decide) xu_eq rfl ?_
          refine x_iconst rfl ?_
          refine x_iadd rfl ?_
          refine x_putfield rfl (by decide) xu_eq (show (3 : Nat) < 7 from by decide) rfl ?_
          refine x_goto (t := 10) rfl rfl ?_
          refine ih (j + 1) _ (by omega) (by omega) (by omega) ?_ ?_ ?_ ?_ ?_
          · exact (xu_ne (by decide) (xu_ne (by decide) h51))
          · exact (xu_ne (by decide) (xu_ne (by decide) h52))
          · rw [show min (j + 1 - s) 8 = min (j - s) 8 + 1 by omega, xpk, show s + min (j - s) 8 = j by omega]; exact xu_eq
          · rw [← xskip_s (by omega) (xlt_iff.mpr (by omega))]; exact hsk
          · intro p hp; exact xu_ne hp (xu_ne hp (hfr p hp))
theorem xs_28 {v0 : Value} {xs : List Int32} {u : Nat × Nat} {f : Nat → zE} {n : Nat} {cs : List Int} {s : Nat} {ki : Int} {wo : Int64} {di sg : Int} (h51 : f 51 = .inl (1, [.ref 52, xi (n : Nat)])) (h52 : f 52 = xr 1 cs) (hn : n ≤ 100) (hl : cs.length = 100) (hcs : ∀ j : Nat, 0 ≤ cs.getD j 0 ∧ cs.getD j 0 ≤ 126) (hs : s ≤ n) (h112 : f 112 = xtk ki (s : Nat) (s : Nat) wo di sg) : xq v0 xs u 28 [(0, .ref 112)] f (fun r f' => r = none ∧ f' 112 = xtk 1 (s : Nat) (xskip xlt cs n s : Nat) (Int64.ofInt (if xskip xlt cs n s - s > 8 then 0 else xpk cs s (xskip xlt cs n s - s))) di sg ∧ ∀ p, p ≠ 112 → f' p = f p) := by
  unfold xq
  refine x_aload_n rfl rfl ?_
  refine x_iconst rfl ?_
  refine x_putfield rfl (by decide) h112 (show (1 : Nat) < 7 from by decide) rfl ?_
  refine x_aload_n rfl rfl ?_
  refine x_lconst rfl ?_
  refine x_putfield rfl (by decide) xu_eq (show (4 : Nat) < 7 from by decide) rfl ?_
  exact xs_28l hn hl hcs rfl (n - s) s _ (by omega) (Nat.le_refl _) hs (xu_ne (by decide) (xu_ne (by decide) h51)) (xu_ne (by decide) (xu_ne (by decide) h52)) (by rw [Nat.sub_self]; exact xu_eq) rfl (fun p hp => xu_ne hp (xu_ne hp rfl))
theorem xs_29l {v0 : Value} {xs : List Int32} {u : Nat × Nat} {f0 : Nat → zE} {s n : Nat} {cs : List Int} {wo : Int64} {sg : Int} (hn : n ≤ 100) (hl : cs.length = 100) (hcs : ∀ j : Nat, 0 ≤ cs.getD j 0 ∧ cs.getD j 0 ≤ 126) {lv : zL} (h0 : zlv lv 0 = some (.ref 112)) : ∀ (d j : Nat) (f : Nat → zE), d + j = n → s ≤ j → j ≤ n → f 51 = .inl (1, [.ref 52, xi (n : Nat)]) → f 52 = xr 1 cs → f 112 = xtk 2 (s : Nat) (j : Nat) wo (cs.getD s 0 - 48) sg → xskip xdg cs n j = xskip xdg cs n s → (∀ p, p ≠ 112 → f p = f0 p) → xz v0 xs u (fun o X => ∃ r f', o = .inl r ∧ X = (xh f', u) ∧ (fun r f' => r = none ∧ f' 112 = xtk 2 (s : Nat) (xskip xdg cs n s : Nat) wo (if xskip xdg cs n s - s > 1 then -1 else cs.getD s 0 - 48) sg ∧ ∀ p, p ≠ 112 → f' p = f0 p) r f') 29 24 lv [] f := by
  intro d
  induction d with
  | zero =>
    intro j f hd hj hjn h51 h52 h112 hsk hfr
    refine x_aload_n rfl h0 ?_
    refine x_getfield rfl (by decide) h112 rfl ?_
    refine x_aload_n rfl h0 ?_
    refine x_getfield rfl (by decide) h112 rfl ?_
    refine x_getfield rfl (by decide) h51 rfl ?_
    refine x_cge (t := 62) rfl rfl ⟨by omega, by omega⟩ ⟨by omega, by omega⟩ (fun hb35 => ?_) (fun hb35 => ?_)
    · refine x_aload_n rfl h0 ?_
      refine x_getfield rfl (by decide) h112 rfl ?_
      refine x_aload_n rfl h0 ?_
      refine x_getfield rfl (by decide) h112 rfl ?_
      refine x_isub rfl ?_
      refine x_iconst rfl ?_
      refine x_cle (t := 80) rfl rfl ⟨by omega, by omega⟩ ⟨by omega, by omega⟩ (fun hb72 => ?_) (fun hb72 => ?_)
      · refine x_return rfl ⟨_, _, rfl, rfl, ?_⟩
        have hse : xskip xdg cs n s = j := by rw [← hsk]; exact xskip_e (fun h => by have h1 := xdg_iff.mp h.2; omega)
        rw [hse]
        refine ⟨rfl, ?_, ?_⟩
        · rw [if_neg (by omega)]; exact h112
        · exact hfr
      · refine x_aload_n rfl h0 ?_
        refine x_iconst rfl ?_
        refine x_putfield rfl (by decide) h112 (show (5 : Nat) < 7 from by decide) rfl ?_
        refine x_return rfl ⟨_, _, rfl, rfl, ?_⟩
        have hse : xskip xdg cs n s = j := by rw [← hsk]; exact xskip_e (fun h => by have h1 := xdg_iff.mp h.2; omega)
        rw [hse]
        refine ⟨rfl, ?_, ?_⟩
        · rw [if_pos (by omega)]; exact xu_eq
        · intro p hp; exact xu_ne hp (hfr p hp)
    · exfalso; omega
  | succ d ih =>
    intro j f hd hj hjn h51 h52 h112 hsk hfr
    refine x_aload_n rfl h0 ?_
    refine x_getfield rfl (by decide) h112 rfl ?_
    refine x_aload_n rfl h0 ?_
    refine x_getfield rfl (by decide) h112 rfl ?_
    refine x_getfield rfl (by decide) h51 rfl ?_
    refine x_cge (t := 62) rfl rfl ⟨by omega, by omega⟩ ⟨by omega, by omega⟩ (fun hb35 => ?_) (fun hb35 => ?_)
    · refine x_aload_n rfl h0 ?_
      refine x_getfield rfl (by decide) h112 rfl ?_
      refine x_aload_n rfl h0 ?_
      refine x_getfield rfl (by decide) h112 rfl ?_
      refine x_isub rfl ?_
      refine x_iconst rfl ?_
      refine x_cle (t := 80) rfl rfl ⟨by omega, by omega⟩ ⟨by omega, by omega⟩ (fun hb72 => ?_) (fun hb72 => ?_)
      · refine x_return rfl ⟨_, _, rfl, rfl, ?_⟩
        have hse : xskip xdg cs n s = j := by rw [← hsk]; exact xskip_e (fun h => by have h1 := xdg_iff.mp h.2; omega)
        rw [hse]
        refine ⟨rfl, ?_, ?_⟩
        · rw [if_neg (by omega)]; exact h112
        · exact hfr
      · refine x_aload_n rfl h0 ?_
        refine x_iconst rfl ?_
        refine x_putfield rfl (by decide) h112 (show (5 : Nat) < 7 from by decide) rfl ?_
        refine x_return rfl ⟨_, _, rfl, rfl, ?_⟩
        have hse : xskip xdg cs n s = j := by rw [← hsk]; exact xskip_e (fun h => by have h1 := xdg_iff.mp h.2; omega)
        rw [hse]
        refine ⟨rfl, ?_, ?_⟩
        · rw [if_pos (by omega)]; exact xu_eq
        · intro p hp; exact xu_ne hp (hfr p hp)
    · refine x_aload_n rfl h0 ?_
      refine x_bipush rfl (by decide) ?_
      refine x_bipush rfl (by decide) ?_
      refine x_call [_, _, _] rfl rfl (show (0 : Nat) ≤ 8 from by decide) (show (3 : Nat) ≤ 3 from by decide) (x_rcv (by decide) h112) (xs_26 h51 h52 hn hl hcs (p := j) (by omega) (by decide) (by decide) h112) (fun r' f' hP => ?_)
      obtain ⟨rfl, rfl⟩ := hP
      have hc := hcs j
      refine x_ifeq (t := 62) rfl rfl (by split <;> decide) (fun hb46 => ?_) (fun hb46 => ?_)
      · refine x_aload_n rfl h0 ?_
        refine x_getfield rfl (by decide) h112 rfl ?_
        refine x_aload_n rfl h0 ?_
        refine x_getfield rfl (by decide) h112 rfl ?_
        refine x_isub rfl ?_
        refine x_iconst rfl ?_
        refine x_cle (t := 80) rfl rfl ⟨by omega, by omega⟩ ⟨by omega, by omega⟩ (fun hb72 => ?_) (fun hb72 => ?_)
        · refine x_return rfl ⟨_, _, rfl, rfl, ?_⟩
          have hse : xskip xdg cs n s = j := by rw [← hsk]; exact xskip_e (fun h => by have h1 := xdg_iff.mp h.2; rw [if_pos ⟨h1.1, h1.2⟩] at hb46; omega)
          rw [hse]
          refine ⟨rfl, ?_, ?_⟩
          · rw [if_neg (by omega)]; exact h112
          · exact hfr
        · refine x_aload_n rfl h0 ?_
          refine x_iconst rfl ?_
          refine x_putfield rfl (by decide) h112 (show (5 : Nat) < 7 from by decide) rfl ?_
          refine x_return rfl ⟨_, _, rfl, rfl, ?_⟩
          have hse : xskip xdg cs n s = j := by rw [← hsk]; exact xskip_e (fun h => by have h1 := xdg_iff.mp h.2; rw [if_pos ⟨h1.1, h1.2⟩] at hb46; omega)
          rw [hse]
          refine ⟨rfl, ?_, ?_⟩
          · rw [if_pos (by omega)]; exact xu_eq
          · intro p hp; exact xu_ne hp (hfr p hp)
      · have hlt : 48 ≤ cs.getD j 0 ∧ cs.getD j 0 ≤ 57 := by
          by_cases hx : 48 ≤ cs.getD j 0 ∧ cs.getD j 0 ≤ 57
          · exact hx
          · rw [if_neg hx] at hb46; exact absurd rfl hb46
        refine x_aload_n rfl h0 ?_
        refine x_dup rfl ?_
        refine x_getfield rfl (by decide) h112 rfl ?_
        refine x_iconst rfl ?_
        refine x_iadd rfl ?_
        refine x_putfield rfl (by decide) h112 (show (3 : Nat) < 7 from by decide) rfl ?_
        refine x_goto (t := 24) rfl rfl ?_
        refine ih (j + 1) _ (by omega) (by omega) (by omega) ?_ ?_ ?_ ?_ ?_
        · exact (xu_ne (by decide) h51)
        · exact (xu_ne (by decide) h52)
        · exact xu_eq
        · rw [← xskip_s (by omega) (xdg_iff.mpr (by omega))]; exact hsk
        · intro p hp; exact xu_ne hp (hfr p hp)
theorem xs_29 {v0 : Value} {xs : List Int32} {u : Nat × Nat} {f : Nat → zE} {n : Nat} {cs : List Int} {s : Nat} {ki : Int} {wo : Int64} {di sg : Int} (h51 : f 51 = .inl (1, [.ref 52, xi (n : Nat)])) (h52 : f 52 = xr 1 cs) (hn : n ≤ 100) (hl : cs.length = 100) (hcs : ∀ j : Nat, 0 ≤ cs.getD j 0 ∧ cs.getD j 0 ≤ 126) (hs : s < n) (h112 : f 112 = xtk ki (s : Nat) (s : Nat) wo di sg) : xq v0 xs u 29 [(0, .ref 112)] f (fun r f' => r = none ∧ f' 112 = xtk 2 (s : Nat) (xskip xdg cs n s : Nat) wo (if xskip xdg cs n s - s > 1 then -1 else cs.getD s 0 - 48) sg ∧ ∀ p, p ≠ 112 → f' p = f p) := by
  unfold xq
  have hc := hcs s
  refine x_aload_n rfl rfl ?_
  refine x_iconst rfl ?_
  refine x_putfield rfl (by decide) h112 (show (1 : Nat) < 7 from by decide) rfl ?_
  refine x_aload_n rfl rfl ?_
  refine x_aload_n rfl rfl ?_
  refine x_getfield rfl (by decide) xu_eq rfl ?_
  refine x_getfield rfl (by decide) (xu_ne (by decide) h51) rfl ?_
  refine x_aload_n rfl rfl ?_
  refine x_getfield rfl (by decide) xu_eq rfl ?_
  refine x_caload rfl (by decide) (xu_ne (by decide) h52) ⟨by omega, by rw [hl]; omega⟩ (by omega) ?_
  rw [Int.toNat_natCast]
  refine x_bipush rfl (by decide) ?_
  refine x_isub rfl ?_
  refine x_putfield rfl (by decide) xu_eq (show (5 : Nat) < 7 from by decide) rfl ?_
  exact xs_29l hn hl hcs rfl (n - s) s _ (by omega) (Nat.le_refl _) (by omega) (xu_ne (by decide) (xu_ne (by decide) h51)) (xu_ne (by decide) (xu_ne (by decide) h52)) xu_eq rfl (fun p hp => xu_ne hp (xu_ne hp rfl))
theorem xs_30l {v0 : Value} {xs : List Int32} {u : Nat × Nat} {f0 : Nat → zE} {p0 n : Nat} {cs : List Int} {ki en di sg : Int} {wo : Int64} (hn : n ≤ 100) (hl : cs.length = 100) (hcs : ∀ j : Nat, 0 ≤ cs.getD j 0 ∧ cs.getD j 0 ≤ 126) {lv : zL} (h0 : zlv lv 0 = some (.ref 112)) : ∀ (d j : Nat) (f : Nat → zE), d + j = n → j ≤ n → f 51 = .inl (1, [.ref 52, xi (n : Nat)]) → f 52 = xr 1 cs → f 112 = xtk ki (j : Nat) en wo di sg → xskip xbl cs n j = xskip xbl cs n p0 → (∀ p, p ≠ 112 → f p = f0 p) → xz v0 xs u (fun o X => ∃ r f', o = .inl r ∧ X = (xh f', u) ∧ (fun r f' => r = none ∧ (∃ (ki : Int) (s e : Nat) (wo : Int64) (di sg : Int), f' 112 = xtk ki (s : Nat) (e : Nat) wo di sg ∧ xTK cs n p0 ki s e ∧ xTC cs ki s e wo di sg) ∧ ∀ p, p ≠ 112 → f' p = f0 p) r f') 30 8 lv [] f := by
  intro d
  induction d with
  | zero =>
    intro j f hd hjn h51 h52 h112 hsk hfr
    refine x_aload_n rfl h0 ?_
    refine x_getfield rfl (by decide) h112 rfl ?_
    refine x_aload_n rfl h0 ?_
    refine x_getfield rfl (by decide) h112 rfl ?_
    refine x_getfield rfl (by decide) h51 rfl ?_
    refine x_cge (t := 52) rfl rfl ⟨by omega, by omega⟩ ⟨by omega, by omega⟩ (fun hb19 => ?_) (fun hb19 => ?_)
    · have hse : xskip xbl cs n p0 = j := by rw [← hsk]; exact xskip_e (fun h => by have h1 := xbl_iff.mp h.2; omega)
      refine x_aload_n rfl h0 ?_
      refine x_aload_n rfl h0 ?_
      refine x_getfield rfl (by decide) h112 rfl ?_
      refine x_putfield rfl (by decide) h112 (show (3 : Nat) < 7 from by decide) rfl ?_
      refine x_aload_n rfl h0 ?_
      refine x_getfield rfl (by decide) xu_eq rfl ?_
      refine x_aload_n rfl h0 ?_
      refine x_getfield rfl (by decide) xu_eq rfl ?_
      refine x_getfield rfl (by decide) (xu_ne (by decide) h51) rfl ?_
      refine x_cne (t := 82) rfl rfl ⟨by omega, by omega⟩ ⟨by omega, by omega⟩ (fun hb71 => ?_) (fun hb71 => ?_)
      · exfalso; omega
      · refine x_aload_n rfl h0 ?_
        refine x_iconst rfl ?_
        refine x_putfield rfl (by decide) xu_eq (show (1 : Nat) < 7 from by decide) rfl ?_
        refine x_goto (t := 149) rfl rfl ?_
        refine x_return rfl ⟨_, _, rfl, rfl, ?_⟩
        exact ⟨rfl, ⟨0, j, j, wo, di, sg, xu_eq, ⟨hse.symm, Or.inl ⟨by omega, rfl, by omega⟩⟩, ⟨fun h => absurd h (by decide), fun h => absurd h (by decide), fun h => absurd h (by decide)⟩⟩, fun p hp => xu_ne hp (xu_ne hp (hfr p hp))⟩
    · exfalso; omega
  | succ d ih =>
    intro j f hd hjn h51 h52 h112 hsk hfr
    refine x_aload_n rfl h0 ?_
    refine x_getfield rfl (by decide) h112 rfl ?_
    refine x_aload_n rfl h0 ?_
    refine x_getfield rfl (by decide) h112 rfl ?_
    refine x_getfield rfl (by decide) h51 rfl ?_
    refine x_cge (t := 52) rfl rfl ⟨by omega, by omega⟩ ⟨by omega, by omega⟩ (fun hb19 => ?_) (fun hb19 => ?_)
    · have hse : xskip xbl cs n p0 = j := by rw [← hsk]; exact xskip_e (fun h => by have h1 := xbl_iff.mp h.2; omega)
      refine x_aload_n rfl h0 ?_
      refine x_aload_n rfl h0 ?_
      refine x_getfield rfl (by decide) h112 rfl ?_
      refine x_putfield rfl (by decide) h112 (show (3 : Nat) < 7 from by decide) rfl ?_
      refine x_aload_n rfl h0 ?_
      refine x_getfield rfl (by decide) xu_eq rfl ?_
      refine x_aload_n rfl h0 ?_
      refine x_getfield rfl (by decide) xu_eq rfl ?_
      refine x_getfield rfl (by decide) (xu_ne (by decide) h51) rfl ?_
      refine x_cne (t := 82) rfl rfl ⟨by omega, by omega⟩ ⟨by omega, by omega⟩ (fun hb71 => ?_) (fun hb71 => ?_)
      · exfalso; omega
      · refine x_aload_n rfl h0 ?_
        refine x_iconst rfl ?_
        refine x_putfield rfl (by decide) xu_eq (show (1 : Nat) < 7 from by decide) rfl ?_
        refine x_goto (t := 149) rfl rfl ?_
        refine x_return rfl ⟨_, _, rfl, rfl, ?_⟩
        exact ⟨rfl, ⟨0, j, j, wo, di, sg, xu_eq, ⟨hse.symm, Or.inl ⟨by omega, rfl, by omega⟩⟩, ⟨fun h => absurd h (by decide), fun h => absurd h (by decide), fun h => absurd h (by decide)⟩⟩, fun p hp => xu_ne hp (xu_ne hp (hfr p hp))⟩
    · refine x_aload_n rfl h0 ?_
      refine x_getfield rfl (by decide) h112 rfl ?_
      refine x_getfield rfl (by decide) h51 rfl ?_
      refine x_aload_n rfl h0 ?_
      refine x_getfield rfl (by decide) h112 rfl ?_
      refine x_caload rfl (by decide) h52 ⟨by omega, by rw [hl]; omega⟩ (by omega) ?_
      rw [Int.toNat_natCast]
      have hc0 := hcs j
      refine x_bipush rfl (by decide) ?_
      refine x_cne (t := 52) rfl rfl ⟨by omega, by omega⟩ ⟨by omega, by omega⟩ (fun hb36 => ?_) (fun hb36 => ?_)
      · have hse : xskip xbl cs n p0 = j := by rw [← hsk]; exact xskip_e (fun h => by have h1 := xbl_iff.mp h.2; exact hb36 h1)
        refine x_aload_n rfl h0 ?_
        refine x_aload_n rfl h0 ?_
        refine x_getfield rfl (by decide) h112 rfl ?_
        refine x_putfield rfl (by decide) h112 (show (3 : Nat) < 7 from by decide) rfl ?_
        refine x_aload_n rfl h0 ?_
        refine x_getfield rfl (by decide) xu_eq rfl ?_
        refine x_aload_n rfl h0 ?_
        refine x_getfield rfl (by decide) xu_eq rfl ?_
        refine x_getfield rfl (by decide) (xu_ne (by decide) h51) rfl ?_
        refine x_cne (t := 82) rfl rfl ⟨by omega, by omega⟩ ⟨by omega, by omega⟩ (fun hb71 => ?_) (fun hb71 => ?_)
        · refine x_aload_n rfl h0 ?_
          refine x_bipush rfl (by decide) ?_
          refine x_bipush rfl (by decide) ?_
          refine x_call [_, _, _] rfl rfl (show (0 : Nat) ≤ 8 from by decide) (show (3 : Nat) ≤ 3 from by decide) (x_rcv (by decide) xu_eq) (xs_26 (xu_ne (by decide) h51) (xu_ne (by decide) h52) hn hl hcs (p := j) (by omega) (by decide) (by decide) xu_eq) (fun r' f' hP => ?_)
          obtain ⟨rfl, rfl⟩ := hP
          have hc := hcs j
          refine x_ifeq (t := 100) rfl rfl (by split <;> decide) (fun hb90 => ?_) (fun hb90 => ?_)
          · have hnl : xlt (cs.getD j 0) = false := by
              cases hx : xlt (cs.getD j 0) with
              | false => rfl
              | true => rw [if_pos (xlt_iff.mp hx)] at hb90; exact absurd hb90 (by decide)
            refine x_aload_n rfl h0 ?_
            refine x_bipush rfl (by decide) ?_
            refine x_bipush rfl (by decide) ?_
            refine x_call [_, _, _] rfl rfl (show (0 : Nat) ≤ 8 from by decide) (show (3 : Nat) ≤ 3 from by decide) (x_rcv (by decide) xu_eq) (xs_26 (xu_ne (by decide) h51) (xu_ne (by decide) h52) hn hl hcs (p := j) (by omega) (by decide) (by decide) xu_eq) (fun r' f' hP => ?_)
            obtain ⟨rfl, rfl⟩ := hP
            refine x_ifeq (t := 118) rfl rfl (by split <;> decide) (fun hb108 => ?_) (fun hb108 => ?_)
            · have hnd : xdg (cs.getD j 0) = false := by
                cases hx : xdg (cs.getD j 0) with
                | false => rfl
                | true => rw [if_pos (xdg_iff.mp hx)] at hb108; exact absurd hb108 (by decide)
              refine x_aload_n rfl h0 ?_
              refine x_iconst rfl ?_
              refine x_putfield rfl (by decide) xu_eq (show (1 : Nat) < 7 from by decide) rfl ?_
              refine x_aload_n rfl h0 ?_
              refine x_aload_n rfl h0 ?_
              refine x_getfield rfl (by decide) xu_eq rfl ?_
              refine x_getfield rfl (by decide) (xu_ne (by decide) (xu_ne (by decide) h51)) rfl ?_
              refine x_aload_n rfl h0 ?_
              refine x_getfield rfl (by decide) xu_eq rfl ?_
              refine x_caload rfl (by decide) (xu_ne (by decide) (xu_ne (by decide) h52)) ⟨by omega, by rw [hl]; omega⟩ (by omega) ?_
              rw [Int.toNat_natCast]
              refine x_putfield rfl (by decide) xu_eq (show (6 : Nat) < 7 from by decide) (by simp only [zfit, decide_eq_true_eq]; exact x_char (by omega) (by omega)) ?_
              refine x_aload_n rfl h0 ?_
              refine x_dup rfl ?_
              refine x_getfield rfl (by decide) xu_eq rfl ?_
              refine x_iconst rfl ?_
              refine x_iadd rfl ?_
              refine x_putfield rfl (by decide) xu_eq (show (3 : Nat) < 7 from by decide) rfl ?_
              refine x_return rfl ⟨_, _, rfl, rfl, ?_⟩
              exact ⟨rfl, ⟨3, j, j + 1, wo, di, cs.getD j 0, xu_eq, ⟨hse.symm, Or.inr (Or.inr (Or.inr ⟨by omega, hnl, hnd, rfl, rfl⟩))⟩, ⟨fun h => absurd h (by decide), fun h => absurd h (by decide), fun _ => rfl⟩⟩, fun p hp => xu_ne hp (xu_ne hp (xu_ne hp (xu_ne hp (hfr p hp))))⟩
            · have hdg : 48 ≤ cs.getD j 0 ∧ cs.getD j 0 ≤ 57 := by
                by_cases hx : 48 ≤ cs.getD j 0 ∧ cs.getD j 0 ≤ 57
                · exact hx
                · rw [if_neg hx] at hb108; exact absurd rfl hb108
              refine x_aload_n rfl h0 ?_
              refine x_call [_] rfl rfl (show (0 : Nat) ≤ 8 from by decide) (show (1 : Nat) ≤ 1 from by decide) (x_rcv (by decide) xu_eq) (xs_29 (xu_ne (by decide) h51) (xu_ne (by decide) h52) hn hl hcs (s := j) (by omega) xu_eq) (fun r' f' hP => ?_)
              obtain ⟨rfl, hw1, hw2⟩ := hP
              refine x_goto (t := 149) rfl rfl ?_
              refine x_return rfl ⟨_, _, rfl, rfl, ?_⟩
              exact ⟨rfl, ⟨2, j, _, wo, _, sg, hw1, ⟨hse.symm, Or.inr (Or.inr (Or.inl ⟨by omega, hnl, xdg_iff.mpr hdg, rfl, rfl⟩))⟩, ⟨fun h => absurd h (by decide), fun _ => rfl, fun h => absurd h (by decide)⟩⟩, fun p hp => (hw2 p hp).trans (xu_ne hp (hfr p hp))⟩
          · have hlt : 97 ≤ cs.getD j 0 ∧ cs.getD j 0 ≤ 122 := by
              by_cases hx : 97 ≤ cs.getD j 0 ∧ cs.getD j 0 ≤ 122
              · exact hx
              · rw [if_neg hx] at hb90; exact absurd rfl hb90
            refine x_aload_n rfl h0 ?_
            refine x_call [_] rfl rfl (show (0 : Nat) ≤ 8 from by decide) (show (1 : Nat) ≤ 1 from by decide) (x_rcv (by decide) xu_eq) (xs_28 (xu_ne (by decide) h51) (xu_ne (by decide) h52) hn hl hcs (s := j) (by omega) xu_eq) (fun r' f' hP => ?_)
            obtain ⟨rfl, hw1, hw2⟩ := hP
            refine x_goto (t := 149) rfl rfl ?_
            refine x_return rfl ⟨_, _, rfl, rfl, ?_⟩
            exact ⟨rfl, ⟨1, j, _, _, di, sg, hw1, ⟨hse.symm, Or.inr (Or.inl ⟨by omega, xlt_iff.mpr hlt, rfl, rfl⟩)⟩, ⟨fun _ => rfl, fun h => absurd h (by decide), fun h => absurd h (by decide)⟩⟩, fun p hp => (hw2 p hp).trans (xu_ne hp (hfr p hp))⟩
        · exfalso; omega
      · refine x_aload_n rfl h0 ?_
        refine x_dup rfl ?_
        refine x_getfield rfl (by decide) h112 rfl ?_
        refine x_iconst rfl ?_
        refine x_iadd rfl ?_
        refine x_putfield rfl (by decide) h112 (show (2 : Nat) < 7 from by decide) rfl ?_
        refine x_goto (t := 8) rfl rfl ?_
        refine ih (j + 1) _ (by omega) (by omega) ?_ ?_ ?_ ?_ ?_
        · exact (xu_ne (by decide) h51)
        · exact (xu_ne (by decide) h52)
        · exact xu_eq
        · rw [← xskip_s (by omega) (xbl_iff.mpr hb36)]; exact hsk
        · intro p hp; exact xu_ne hp (hfr p hp)
theorem xs_30 {v0 : Value} {xs : List Int32} {u : Nat × Nat} {f : Nat → zE} {n : Nat} {cs : List Int} {p0 : Nat} {ki st : Int} {wo : Int64} {di sg : Int} (h51 : f 51 = .inl (1, [.ref 52, xi (n : Nat)])) (h52 : f 52 = xr 1 cs) (hn : n ≤ 100) (hl : cs.length = 100) (hcs : ∀ j : Nat, 0 ≤ cs.getD j 0 ∧ cs.getD j 0 ≤ 126) (hp0 : p0 ≤ n) (h112 : f 112 = xtk ki st (p0 : Nat) wo di sg) : xq v0 xs u 30 [(0, .ref 112)] f (fun r f' => r = none ∧ (∃ (ki : Int) (s e : Nat) (wo : Int64) (di sg : Int), f' 112 = xtk ki (s : Nat) (e : Nat) wo di sg ∧ xTK cs n p0 ki s e ∧ xTC cs ki s e wo di sg) ∧ ∀ p, p ≠ 112 → f' p = f p) := by
  unfold xq
  refine x_aload_n rfl rfl ?_
  refine x_aload_n rfl rfl ?_
  refine x_getfield rfl (by decide) h112 rfl ?_
  refine x_putfield rfl (by decide) h112 (show (2 : Nat) < 7 from by decide) rfl ?_
  exact xs_30l hn hl hcs rfl (n - p0) p0 _ (by omega) hp0 (xu_ne (by decide) h51) (xu_ne (by decide) h52) xu_eq rfl (fun p hp => xu_ne hp rfl)
theorem xs_41 {v0 : Value} {xs : List Int32} {u : Nat × Nat} {f : Nat → zE} {ki st en : Int} {wo : Int64} {di sg w : Int} (hk : 0 ≤ ki ∧ ki ≤ 9) (hs : ki = 3 → 0 ≤ sg ∧ sg ≤ 65535) (hw : 0 ≤ w ∧ w ≤ 65535) (h112 : f 112 = xtk ki st en wo di sg) : xq v0 xs u 41 [(0, .ref 112), (1, xi w)] f (fun r f' => r = some (xi (if ki = 3 ∧ sg = w then 1 else 0)) ∧ f' = f) := by
  unfold xq
  refine x_aload_n rfl rfl ?_
  refine x_getfield rfl (by decide) h112 rfl ?_
  refine x_iconst rfl ?_
  refine x_cne (t := 20) rfl rfl ⟨by omega, by omega⟩ ⟨by omega, by omega⟩ (fun hb5 => ?_) (fun hb5 => ?_)
  · refine x_iconst rfl ?_
    refine x_ireturn rfl (Or.inr (Or.inl ⟨rfl, by decide⟩)) ⟨_, _, rfl, rfl, ?_⟩
    exact ⟨by rw [if_neg (by omega)], rfl⟩
  · refine x_aload_n rfl rfl ?_
    refine x_getfield rfl (by decide) h112 rfl ?_
    have hs := hs (by omega)
    refine x_iload_n rfl rfl ?_
    refine x_cne (t := 20) rfl rfl ⟨by omega, by omega⟩ ⟨by omega, by omega⟩ (fun hb13 => ?_) (fun hb13 => ?_)
    · refine x_iconst rfl ?_
      refine x_ireturn rfl (Or.inr (Or.inl ⟨rfl, by decide⟩)) ⟨_, _, rfl, rfl, ?_⟩
      exact ⟨by rw [if_neg (by omega)], rfl⟩
    · refine x_iconst rfl ?_
      refine x_goto (t := 21) rfl rfl ?_
      refine x_ireturn rfl (Or.inr (Or.inl ⟨rfl, by decide⟩)) ⟨_, _, rfl, rfl, ?_⟩
      exact ⟨by rw [if_pos (by omega)], rfl⟩
