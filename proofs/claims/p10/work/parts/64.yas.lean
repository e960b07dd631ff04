/-! The frame instructions' transfer is sound. -/
theorem ys_int {q : Int × Int} {p : Nat} {S : yS} {st : List Value} {lv : zL} (h : ys ((.inl q, p) :: S) st lv) : ∃ x r, st = .int x :: r ∧ yin q x ∧ (∀ k, p = k + 1 → zlv lv k = some (.int x) ∧ Value.category (.int x) = 1) ∧ ys S r lv := by
  cases st with
  | nil => exact h.elim
  | cons w r =>
    obtain ⟨⟨x, hx, h1, h2⟩, h3, h4⟩ := h
    have hx' : w = .int x := hx
    subst hx'
    exact ⟨x, r, rfl, ⟨h1, h2⟩, h3, h4⟩
theorem ys_long {b : Bool} {p : Nat} {S : yS} {st : List Value} {lv : zL} (h : ys ((.inr (.inl b), p) :: S) st lv) : ∃ x r, st = .long x :: r ∧ ys S r lv := by
  cases st with
  | nil => exact h.elim
  | cons w r =>
    obtain ⟨⟨x, hx⟩, h3, h4⟩ := h
    have hx' : w = .long x := hx
    subst hx'
    exact ⟨x, r, rfl, h4⟩
theorem ys_ref {os : List Nat} {p : Nat} {S : yS} {st : List Value} {lv : zL} (h : ys ((.inr (.inr os), p) :: S) st lv) : ∃ x r, st = .ref x :: r ∧ x ∈ os ∧ (∀ k, p = k + 1 → zlv lv k = some (.ref x) ∧ Value.category (.ref x) = 1) ∧ ys S r lv := by
  cases st with
  | nil => exact h.elim
  | cons w r =>
    obtain ⟨⟨x, hx, h1⟩, h3, h4⟩ := h
    have hx' : w = .ref x := hx
    subst hx'
    exact ⟨x, r, rfl, h1, h3, h4⟩
theorem ys_0 {a : yA} {v : Value} {S : yS} {st : List Value} {lv : zL} (h : yg a v) (hs : ys S st lv) : ys ((a, 0) :: S) (v :: st) lv := ⟨h, (fun k hk => by cases hk), hs⟩
theorem ys_p {a : yA} {v : Value} {S : yS} {st : List Value} {lv : zL} {j : Nat} (h : yg a v) (hp : zlv lv j = some v) (hc : v.category = 1) (hs : ys S st lv) : ys ((a, j + 1) :: S) (v :: st) lv := ⟨h, (fun k hk => by have e : j = k := Nat.succ.inj hk; subst e; exact ⟨hp, hc⟩), hs⟩
theorem yg_l (x : Int64) : yg ylong (.long x) := ⟨x, rfl⟩
theorem yg_r {x : Nat} {os : List Nat} (h : x ∈ os) : yg (.inr (.inr os)) (.ref x) := ⟨x, rfl, h⟩
theorem yg_t (x : Int32) : yg (.inl ytop) (.int x) := yg_int (yin_top x)
theorem yl_i {L : yL} {lv : zL} {k : Nat} {q : Int × Int} (hl : yl L lv) (h : ylk L k = some (.inl q)) : ∃ x, zlv lv k = some (.int x) ∧ yin q x := by
  obtain ⟨v, h1, x, h2, h3, h4⟩ := yl_at hl h
  subst h2
  exact ⟨x, h1, h3, h4⟩
theorem yl_j {L : yL} {lv : zL} {k : Nat} {b : Bool} (hl : yl L lv) (h : ylk L k = some (.inr (.inl b))) : ∃ x, zlv lv k = some (.long x) := by
  obtain ⟨v, h1, x, h2⟩ := yl_at hl h
  subst h2
  exact ⟨x, h1⟩
theorem yl_a {L : yL} {lv : zL} {k : Nat} {os : List Nat} (hl : yl L lv) (h : ylk L k = some (.inr (.inr os))) : ∃ x, zlv lv k = some (.ref x) ∧ x ∈ os := by
  obtain ⟨v, h1, x, h2, h3⟩ := yl_at hl h
  subst h2
  exact ⟨x, h1, h3⟩
set_option maxHeartbeats 4000000 in
theorem ya_sound {i : Instr} {v : Value} {nL pc : Nat} {L : yL} {S : yS} {ss : List yN} {lv : zL} {st : List Value} (h : ya i v nL pc L S = some ss) (hl : yl L lv) (hs : ys S st lv) :
    ∃ q, za i v nL pc lv st = some q ∧ ∃ s ∈ ss, s.1 = q.1 ∧ yl s.2.1 q.2.1 ∧ ys s.2.2 q.2.2 q.2.1 := by
  cases i with
  | iconst z =>
    cases h
    exact ⟨_, rfl, _, List.mem_cons_self, rfl, hl, ys_0 (yg_c _) hs⟩
  | bipush z =>
    cases h
    exact ⟨_, rfl, _, List.mem_cons_self, rfl, hl, ys_0 (yg_c _) hs⟩
  | sipush z =>
    cases h
    exact ⟨_, rfl, _, List.mem_cons_self, rfl, hl, ys_0 (yg_c _) hs⟩
  | lconst z =>
    cases h
    exact ⟨_, rfl, _, List.mem_cons_self, rfl, hl, ys_0 (yg_l _) hs⟩
  | iload_n z =>
    simp only [ya] at h
    split at h
    · rename_i q hq
      cases h
      obtain ⟨x, h1, h2⟩ := yl_i hl hq
      exact ⟨_, by simp only [za, h1]; rfl, _, List.mem_cons_self, rfl, hl, ys_p (yg_int h2) h1 rfl hs⟩
    · cases h
  | iload z =>
    simp only [ya] at h
    split at h
    · rename_i q hq
      cases h
      obtain ⟨x, h1, h2⟩ := yl_i hl hq
      exact ⟨_, by simp only [za, h1]; rfl, _, List.mem_cons_self, rfl, hl, ys_p (yg_int h2) h1 rfl hs⟩
    · cases h
  | lload_n z =>
    simp only [ya] at h
    split at h
    · rename_i q hq
      cases h
      obtain ⟨x, h1⟩ := yl_j hl hq
      exact ⟨_, by simp only [za, h1]; rfl, _, List.mem_cons_self, rfl, hl, ys_0 (yg_l x) hs⟩
    · cases h
  | lload z =>
    simp only [ya] at h
    split at h
    · rename_i q hq
      cases h
      obtain ⟨x, h1⟩ := yl_j hl hq
      exact ⟨_, by simp only [za, h1]; rfl, _, List.mem_cons_self, rfl, hl, ys_0 (yg_l x) hs⟩
    · cases h
  | aload_n z =>
    simp only [ya] at h
    split at h
    · rename_i q hq
      cases h
      obtain ⟨x, h1, h2⟩ := yl_a hl hq
      exact ⟨_, by simp only [za, h1]; rfl, _, List.mem_cons_self, rfl, hl, ys_0 (yg_r h2) hs⟩
    · cases h
  | aload z =>
    simp only [ya] at h
    split at h
    · rename_i q hq
      cases h
      obtain ⟨x, h1, h2⟩ := yl_a hl hq
      exact ⟨_, by simp only [za, h1]; rfl, _, List.mem_cons_self, rfl, hl, ys_0 (yg_r h2) hs⟩
    · cases h
  | istore_n z =>
    simp only [ya] at h
    split at h
    · split at h
      · rename_i hz
        cases h
        obtain ⟨x, r, rfl, hx, hp, hr⟩ := ys_int hs
        exact ⟨_, by simp only [za]; rw [if_pos hz], _, List.mem_cons_self, rfl, yl_put hl (yg_int hx), ys_inv hr⟩
      · cases h
    · cases h
  | istore z =>
    simp only [ya] at h
    split at h
    · split at h
      · rename_i hz
        cases h
        obtain ⟨x, r, rfl, hx, hp, hr⟩ := ys_int hs
        exact ⟨_, by simp only [za]; rw [if_pos hz], _, List.mem_cons_self, rfl, yl_put hl (yg_int hx), ys_inv hr⟩
      · cases h
    · cases h
  | lstore_n z =>
    simp only [ya] at h
    split at h
    · split at h
      · rename_i hz
        cases h
        obtain ⟨x, r, rfl, hr⟩ := ys_long hs
        exact ⟨_, by simp only [za]; rw [if_pos hz], _, List.mem_cons_self, rfl, yl_put2 hl (yg_l x), ys_inv2 hr⟩
      · cases h
    · cases h
  | lstore z =>
    simp only [ya] at h
    split at h
    · split at h
      · rename_i hz
        cases h
        obtain ⟨x, r, rfl, hr⟩ := ys_long hs
        exact ⟨_, by simp only [za]; rw [if_pos hz], _, List.mem_cons_self, rfl, yl_put2 hl (yg_l x), ys_inv2 hr⟩
      · cases h
    · cases h
  | astore_n z =>
    simp only [ya] at h
    split at h
    · split at h
      · rename_i hz
        cases h
        obtain ⟨x, r, rfl, hx, hp, hr⟩ := ys_ref hs
        exact ⟨_, by simp only [za]; rw [if_pos hz], _, List.mem_cons_self, rfl, yl_put hl (yg_r hx), ys_inv hr⟩
      · cases h
    · cases h
  | astore z =>
    simp only [ya] at h
    split at h
    · split at h
      · rename_i hz
        cases h
        obtain ⟨x, r, rfl, hx, hp, hr⟩ := ys_ref hs
        exact ⟨_, by simp only [za]; rw [if_pos hz], _, List.mem_cons_self, rfl, yl_put hl (yg_r hx), ys_inv hr⟩
      · cases h
    · cases h
  | iinc z w =>
    simp only [ya] at h
    split at h
    · rename_i q hq
      split at h
      · rename_i hz
        cases h
        obtain ⟨x, h1, h2, h3⟩ := yl_i hl hq
        have hy : yin (yfit (q.1 + (Int32.ofInt w).toInt, q.2 + (Int32.ofInt w).toInt)) (x + Int32.ofInt w) := yfit_in (e := x.toInt + (Int32.ofInt w).toInt) (by dsimp only; omega) (by dsimp only; omega) (fun a b => y_add a b)
        exact ⟨_, by simp only [za, h1]; rw [if_pos hz], _, List.mem_cons_self, rfl, yl_put hl (yg_int hy), ys_inv hs⟩
      · cases h
    · cases h
  | ldc z =>
    simp only [ya] at h
    split at h
    · cases h
      exact ⟨_, rfl, _, List.mem_cons_self, rfl, hl, ys_0 (yg_r List.mem_cons_self) hs⟩
    · cases h
  | ldc2_w z =>
    simp only [ya] at h
    split at h
    · cases h
      exact ⟨_, rfl, _, List.mem_cons_self, rfl, hl, ys_0 (yg_l _) hs⟩
    · cases h
  | i2l =>
    simp only [ya] at h
    split at h
    · cases h
      obtain ⟨x, r, rfl, hx, hp, hr⟩ := ys_int hs
      exact ⟨_, rfl, _, List.mem_cons_self, rfl, hl, ys_0 (yg_l _) hr⟩
    · cases h
  | l2i =>
    simp only [ya] at h
    split at h
    · cases h
      obtain ⟨x, r, rfl, hr⟩ := ys_long hs
      exact ⟨_, rfl, _, List.mem_cons_self, rfl, hl, ys_0 (yg_t _) hr⟩
    · cases h
  | i2c =>
    simp only [ya] at h
    split at h
    · cases h
      obtain ⟨x, r, rfl, hx, hp, hr⟩ := ys_int hs
      exact ⟨_, rfl, _, List.mem_cons_self, rfl, hl, ys_0 (yg_t _) hr⟩
    · cases h
  | lushr =>
    simp only [ya] at h
    split at h
    · cases h
      obtain ⟨y, r0, rfl, hy, hp, hr0⟩ := ys_int hs
      obtain ⟨x, r, rfl, hr⟩ := ys_long hr0
      exact ⟨_, rfl, _, List.mem_cons_self, rfl, hl, ys_0 (yg_l _) hr⟩
    · cases h
  | lshl =>
    simp only [ya] at h
    split at h
    · cases h
      obtain ⟨y, r0, rfl, hy, hp, hr0⟩ := ys_int hs
      obtain ⟨x, r, rfl, hr⟩ := ys_long hr0
      exact ⟨_, rfl, _, List.mem_cons_self, rfl, hl, ys_0 (yg_l _) hr⟩
    · cases h
  | lcmp =>
    simp only [ya] at h
    split at h
    · cases h
      obtain ⟨y, r0, rfl, hr0⟩ := ys_long hs
      obtain ⟨x, r, rfl, hr⟩ := ys_long hr0
      exact ⟨_, rfl, _, List.mem_cons_self, rfl, hl, ys_0 (yg_t _) hr⟩
    · cases h
  | dup =>
    simp only [ya] at h
    split at h
    · cases h
      obtain ⟨x, r, rfl, hx, hp, hr⟩ := ys_int hs
      exact ⟨_, rfl, _, List.mem_cons_self, rfl, hl, yg_int hx, hp, yg_int hx, hp, hr⟩
    · cases h
      obtain ⟨x, r, rfl, hx, hp, hr⟩ := ys_ref hs
      exact ⟨_, rfl, _, List.mem_cons_self, rfl, hl, yg_r hx, hp, yg_r hx, hp, hr⟩
    · cases h
  | dup2 =>
    simp only [ya] at h
    split at h
    · cases h
      obtain ⟨x, r0, rfl, hx, hp, hr0⟩ := ys_int hs
      obtain ⟨y, r, rfl, hy, hp2, hr⟩ := ys_ref hr0
      exact ⟨_, rfl, _, List.mem_cons_self, rfl, hl, yg_int hx, hp, yg_r hy, hp2, yg_int hx, hp, yg_r hy, hp2, hr⟩
    · cases h
  | pop =>
    simp only [ya] at h
    split at h
    · cases h
      obtain ⟨x, r, rfl, hx, hp, hr⟩ := ys_int hs
      exact ⟨_, rfl, _, List.mem_cons_self, rfl, hl, hr⟩
    · cases h
      obtain ⟨x, r, rfl, hx, hp, hr⟩ := ys_ref hs
      exact ⟨_, rfl, _, List.mem_cons_self, rfl, hl, hr⟩
    · cases h
  | goto z =>
    simp only [ya] at h
    split at h
    · rename_i t ht
      cases h
      exact ⟨_, by simp only [za, ht]; rfl, _, List.mem_cons_self, rfl, hl, hs⟩
    · cases h
  | ifCond z w =>
    simp only [ya] at h
    split at h
    · split at h
      · rename_i t ht
        cases h
        obtain ⟨x, r, rfl, hx, hp, hr⟩ := ys_int hs
        obtain ⟨s, h1, h2, h3, h4⟩ := ybr_sound (k := z) (t := t) (f := pc + 3) (r := _) (py := 0) (y := 0) hl hx (show yin (0, 0) 0 from ⟨Int.le_refl _, Int.le_refl _⟩) hp (fun j hj => by cases hj)
        refine ⟨_, by simp only [za, ht]; rfl, s, h1, ?_, h3, by rw [h4]; exact hr⟩
        rw [h2]
        dsimp only
        rw [zc1_zc2]
      · cases h
    · cases h
  | if_icmp z w =>
    simp only [ya] at h
    split at h
    · split at h
      · rename_i t ht
        cases h
        obtain ⟨y, r0, rfl, hy, hpy, hr0⟩ := ys_int hs
        obtain ⟨x, r, rfl, hx, hpx, hr⟩ := ys_int hr0
        obtain ⟨s, h1, h2, h3, h4⟩ := ybr_sound (k := z) (t := t) (f := pc + 3) (r := _) hl hx hy hpx hpy
        exact ⟨_, by simp only [za, ht]; rfl, s, h1, h2, h3, by rw [h4]; exact hr⟩
      · cases h
    · cases h
  | getstatic z =>
    simp only [ya] at h
    split at h
    · cases h
      exact ⟨_, rfl, _, List.mem_cons_self, rfl, hl, ys_0 (yg_c _) hs⟩
    · cases h
      exact ⟨_, rfl, _, List.mem_cons_self, rfl, hl, ys_0 (yg_r List.mem_cons_self) hs⟩
    · cases h
  | iadd =>
    simp only [ya] at h
    split at h
    · split at h
      · rename_i q hq
        cases h
        obtain ⟨y, r0, rfl, hy, hpy, hr0⟩ := ys_int hs
        obtain ⟨x, r, rfl, hx, hpx, hr⟩ := ys_int hr0
        obtain ⟨z, h1, h2⟩ := yop_sound hq hx hy
        exact ⟨_, by simp only [za, h1]; rfl, _, List.mem_cons_self, rfl, hl, ys_0 (yg_int h2) hr⟩
      · cases h
    · cases h
  | isub =>
    simp only [ya] at h
    split at h
    · split at h
      · rename_i q hq
        cases h
        obtain ⟨y, r0, rfl, hy, hpy, hr0⟩ := ys_int hs
        obtain ⟨x, r, rfl, hx, hpx, hr⟩ := ys_int hr0
        obtain ⟨z, h1, h2⟩ := yop_sound hq hx hy
        exact ⟨_, by simp only [za, h1]; rfl, _, List.mem_cons_self, rfl, hl, ys_0 (yg_int h2) hr⟩
      · cases h
    · cases h
  | imul =>
    simp only [ya] at h
    split at h
    · split at h
      · rename_i q hq
        cases h
        obtain ⟨y, r0, rfl, hy, hpy, hr0⟩ := ys_int hs
        obtain ⟨x, r, rfl, hx, hpx, hr⟩ := ys_int hr0
        obtain ⟨z, h1, h2⟩ := yop_sound hq hx hy
        exact ⟨_, by simp only [za, h1]; rfl, _, List.mem_cons_self, rfl, hl, ys_0 (yg_int h2) hr⟩
      · cases h
    · cases h
  | iand =>
    simp only [ya] at h
    split at h
    · split at h
      · rename_i q hq
        cases h
        obtain ⟨y, r0, rfl, hy, hpy, hr0⟩ := ys_int hs
        obtain ⟨x, r, rfl, hx, hpx, hr⟩ := ys_int hr0
        obtain ⟨z, h1, h2⟩ := yop_sound hq hx hy
        exact ⟨_, by simp only [za, h1]; rfl, _, List.mem_cons_self, rfl, hl, ys_0 (yg_int h2) hr⟩
      · cases h
    · cases h
  | ior =>
    simp only [ya] at h
    split at h
    · split at h
      · rename_i q hq
        cases h
        obtain ⟨y, r0, rfl, hy, hpy, hr0⟩ := ys_int hs
        obtain ⟨x, r, rfl, hx, hpx, hr⟩ := ys_int hr0
        obtain ⟨z, h1, h2⟩ := yop_sound hq hx hy
        exact ⟨_, by simp only [za, h1]; rfl, _, List.mem_cons_self, rfl, hl, ys_0 (yg_int h2) hr⟩
      · cases h
    · cases h
  | ixor =>
    simp only [ya] at h
    split at h
    · split at h
      · rename_i q hq
        cases h
        obtain ⟨y, r0, rfl, hy, hpy, hr0⟩ := ys_int hs
        obtain ⟨x, r, rfl, hx, hpx, hr⟩ := ys_int hr0
        obtain ⟨z, h1, h2⟩ := yop_sound hq hx hy
        exact ⟨_, by simp only [za, h1]; rfl, _, List.mem_cons_self, rfl, hl, ys_0 (yg_int h2) hr⟩
      · cases h
    · cases h
  | ishl =>
    simp only [ya] at h
    split at h
    · split at h
      · rename_i q hq
        cases h
        obtain ⟨y, r0, rfl, hy, hpy, hr0⟩ := ys_int hs
        obtain ⟨x, r, rfl, hx, hpx, hr⟩ := ys_int hr0
        obtain ⟨z, h1, h2⟩ := yop_sound hq hx hy
        exact ⟨_, by simp only [za, h1]; rfl, _, List.mem_cons_self, rfl, hl, ys_0 (yg_int h2) hr⟩
      · cases h
    · cases h
  | ishr =>
    simp only [ya] at h
    split at h
    · split at h
      · rename_i q hq
        cases h
        obtain ⟨y, r0, rfl, hy, hpy, hr0⟩ := ys_int hs
        obtain ⟨x, r, rfl, hx, hpx, hr⟩ := ys_int hr0
        obtain ⟨z, h1, h2⟩ := yop_sound hq hx hy
        exact ⟨_, by simp only [za, h1]; rfl, _, List.mem_cons_self, rfl, hl, ys_0 (yg_int h2) hr⟩
      · cases h
    · cases h
  | idiv =>
    simp only [ya] at h
    split at h
    · split at h
      · rename_i q hq
        cases h
        obtain ⟨y, r0, rfl, hy, hpy, hr0⟩ := ys_int hs
        obtain ⟨x, r, rfl, hx, hpx, hr⟩ := ys_int hr0
        obtain ⟨z, h1, h2⟩ := yop_sound hq hx hy
        exact ⟨_, by simp only [za, h1]; rfl, _, List.mem_cons_self, rfl, hl, ys_0 (yg_int h2) hr⟩
      · cases h
    · cases h
  | irem =>
    simp only [ya] at h
    split at h
    · split at h
      · rename_i q hq
        cases h
        obtain ⟨y, r0, rfl, hy, hpy, hr0⟩ := ys_int hs
        obtain ⟨x, r, rfl, hx, hpx, hr⟩ := ys_int hr0
        obtain ⟨z, h1, h2⟩ := yop_sound hq hx hy
        exact ⟨_, by simp only [za, h1]; rfl, _, List.mem_cons_self, rfl, hl, ys_0 (yg_int h2) hr⟩
      · cases h
    · cases h
  | ladd =>
    simp only [ya] at h
    split at h
    · cases h
      obtain ⟨y, r0, rfl, hr0⟩ := ys_long hs
      obtain ⟨x, r, rfl, hr⟩ := ys_long hr0
      exact ⟨_, rfl, _, List.mem_cons_self, rfl, hl, ys_0 (yg_l _) hr⟩
    · cases h
  | lmul =>
    simp only [ya] at h
    split at h
    · cases h
      obtain ⟨y, r0, rfl, hr0⟩ := ys_long hs
      obtain ⟨x, r, rfl, hr⟩ := ys_long hr0
      exact ⟨_, rfl, _, List.mem_cons_self, rfl, hl, ys_0 (yg_l _) hr⟩
    · cases h
  | land =>
    simp only [ya] at h
    split at h
    · cases h
      obtain ⟨y, r0, rfl, hr0⟩ := ys_long hs
      obtain ⟨x, r, rfl, hr⟩ := ys_long hr0
      exact ⟨_, rfl, _, List.mem_cons_self, rfl, hl, ys_0 (yg_l _) hr⟩
    · cases h
  | lor =>
    simp only [ya] at h
    split at h
    · cases h
      obtain ⟨y, r0, rfl, hr0⟩ := ys_long hs
      obtain ⟨x, r, rfl, hr⟩ := ys_long hr0
      exact ⟨_, rfl, _, List.mem_cons_self, rfl, hl, ys_0 (yg_l _) hr⟩
    · cases h
  | _ => simp [ya] at h
