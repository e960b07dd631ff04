/-! Home, where, stood, select: the model. -/
def shome (d : Nat) : Int := if d = 0 then 136 else if d = 1 then 140 else if d = 2 then 187 else if d = 3 then 227 else if d = 4 then 262 else if d = 5 then 258 else if d = 6 then 213 else 173
theorem shome_ok (d : Nat) : sok (shome d) := by
  unfold shome
  repeat' split
  all_goals (unfold sok; decide)
theorem xs_13 {v0 : Value} {xs : List Int32} {u : Nat × Nat} {f : Nat → zE} {d : Nat} (hd : d < 8) : xq v0 xs u 13 [(0, xi (d : Nat))] f (fun r' f' => r' = some (xi (sX (shome d))) ∧ f' = f) := by
  unfold xq
  rcases (show d = 0 ∨ d = 1 ∨ d = 2 ∨ d = 3 ∨ d = 4 ∨ d = 5 ∨ d = 6 ∨ d = 7 by omega) with rfl | rfl | rfl | rfl | rfl | rfl | rfl | rfl
  · refine x_iload_n rfl rfl ?_
    refine x_ifeq (t := 9) rfl rfl (by decide) (fun _ => ?_) (fun h => absurd h (by decide))
    refine x_iconst rfl ?_
    refine x_goto (t := 38) rfl rfl ?_
    exact x_ireturn rfl (Or.inl rfl) ⟨_, _, rfl, rfl, congrArg (fun z => some (xi z)) (by decide), rfl⟩
  · refine x_iload_n rfl rfl ?_
    refine x_ifeq (t := 9) rfl rfl (by decide) (fun h => absurd h (by decide)) (fun _ => ?_)
    refine x_iload_n rfl rfl ?_
    refine x_iconst rfl ?_
    refine x_cne (t := 13) rfl rfl (by decide) (by decide) (fun _ => ?_) (fun h => absurd h (by decide))
    refine x_iload_n rfl rfl ?_
    refine x_iconst rfl ?_
    refine x_ceq (t := 23) rfl rfl (by decide) (by decide) (fun _ => ?_) (fun h => absurd h (by decide))
    refine x_iconst rfl ?_
    refine x_goto (t := 38) rfl rfl ?_
    exact x_ireturn rfl (Or.inl rfl) ⟨_, _, rfl, rfl, congrArg (fun z => some (xi z)) (by decide), rfl⟩
  · refine x_iload_n rfl rfl ?_
    refine x_ifeq (t := 9) rfl rfl (by decide) (fun h => absurd h (by decide)) (fun _ => ?_)
    refine x_iload_n rfl rfl ?_
    refine x_iconst rfl ?_
    refine x_cne (t := 13) rfl rfl (by decide) (by decide) (fun _ => ?_) (fun h => absurd h (by decide))
    refine x_iload_n rfl rfl ?_
    refine x_iconst rfl ?_
    refine x_ceq (t := 23) rfl rfl (by decide) (by decide) (fun h => absurd h (by decide)) (fun _ => ?_)
    refine x_iload_n rfl rfl ?_
    refine x_iconst rfl ?_
    refine x_cne (t := 27) rfl rfl (by decide) (by decide) (fun _ => ?_) (fun h => absurd h (by decide))
    refine x_iload_n rfl rfl ?_
    refine x_iconst rfl ?_
    refine x_cge (t := 37) rfl rfl (by decide) (by decide) (fun h => absurd h (by decide)) (fun _ => ?_)
    refine x_bipush rfl (by decide) ?_
    refine x_goto (t := 38) rfl rfl ?_
    exact x_ireturn rfl (Or.inl rfl) ⟨_, _, rfl, rfl, congrArg (fun z => some (xi z)) (by decide), rfl⟩
  · refine x_iload_n rfl rfl ?_
    refine x_ifeq (t := 9) rfl rfl (by decide) (fun h => absurd h (by decide)) (fun _ => ?_)
    refine x_iload_n rfl rfl ?_
    refine x_iconst rfl ?_
    refine x_cne (t := 13) rfl rfl (by decide) (by decide) (fun _ => ?_) (fun h => absurd h (by decide))
    refine x_iload_n rfl rfl ?_
    refine x_iconst rfl ?_
    refine x_ceq (t := 23) rfl rfl (by decide) (by decide) (fun h => absurd h (by decide)) (fun _ => ?_)
    refine x_iload_n rfl rfl ?_
    refine x_iconst rfl ?_
    refine x_cne (t := 27) rfl rfl (by decide) (by decide) (fun _ => ?_) (fun h => absurd h (by decide))
    refine x_iload_n rfl rfl ?_
    refine x_iconst rfl ?_
    refine x_cge (t := 37) rfl rfl (by decide) (by decide) (fun h => absurd h (by decide)) (fun _ => ?_)
    refine x_bipush rfl (by decide) ?_
    refine x_goto (t := 38) rfl rfl ?_
    exact x_ireturn rfl (Or.inl rfl) ⟨_, _, rfl, rfl, congrArg (fun z => some (xi z)) (by decide), rfl⟩
  · refine x_iload_n rfl rfl ?_
    refine x_ifeq (t := 9) rfl rfl (by decide) (fun h => absurd h (by decide)) (fun _ => ?_)
    refine x_iload_n rfl rfl ?_
    refine x_iconst rfl ?_
    refine x_cne (t := 13) rfl rfl (by decide) (by decide) (fun _ => ?_) (fun h => absurd h (by decide))
    refine x_iload_n rfl rfl ?_
    refine x_iconst rfl ?_
    refine x_ceq (t := 23) rfl rfl (by decide) (by decide) (fun h => absurd h (by decide)) (fun _ => ?_)
    refine x_iload_n rfl rfl ?_
    refine x_iconst rfl ?_
    refine x_cne (t := 27) rfl rfl (by decide) (by decide) (fun h => absurd h (by decide)) (fun _ => ?_)
    refine x_iconst rfl ?_
    refine x_goto (t := 38) rfl rfl ?_
    exact x_ireturn rfl (Or.inl rfl) ⟨_, _, rfl, rfl, congrArg (fun z => some (xi z)) (by decide), rfl⟩
  · refine x_iload_n rfl rfl ?_
    refine x_ifeq (t := 9) rfl rfl (by decide) (fun h => absurd h (by decide)) (fun _ => ?_)
    refine x_iload_n rfl rfl ?_
    refine x_iconst rfl ?_
    refine x_cne (t := 13) rfl rfl (by decide) (by decide) (fun h => absurd h (by decide)) (fun _ => ?_)
    refine x_iconst rfl ?_
    refine x_goto (t := 38) rfl rfl ?_
    exact x_ireturn rfl (Or.inl rfl) ⟨_, _, rfl, rfl, congrArg (fun z => some (xi z)) (by decide), rfl⟩
  · refine x_iload_n rfl rfl ?_
    refine x_ifeq (t := 9) rfl rfl (by decide) (fun h => absurd h (by decide)) (fun _ => ?_)
    refine x_iload_n rfl rfl ?_
    refine x_iconst rfl ?_
    refine x_cne (t := 13) rfl rfl (by decide) (by decide) (fun _ => ?_) (fun h => absurd h (by decide))
    refine x_iload_n rfl rfl ?_
    refine x_iconst rfl ?_
    refine x_ceq (t := 23) rfl rfl (by decide) (by decide) (fun h => absurd h (by decide)) (fun _ => ?_)
    refine x_iload_n rfl rfl ?_
    refine x_iconst rfl ?_
    refine x_cne (t := 27) rfl rfl (by decide) (by decide) (fun _ => ?_) (fun h => absurd h (by decide))
    refine x_iload_n rfl rfl ?_
    refine x_iconst rfl ?_
    refine x_cge (t := 37) rfl rfl (by decide) (by decide) (fun _ => ?_) (fun h => absurd h (by decide))
    refine x_iconst rfl ?_
    exact x_ireturn rfl (Or.inl rfl) ⟨_, _, rfl, rfl, congrArg (fun z => some (xi z)) (by decide), rfl⟩
  · refine x_iload_n rfl rfl ?_
    refine x_ifeq (t := 9) rfl rfl (by decide) (fun h => absurd h (by decide)) (fun _ => ?_)
    refine x_iload_n rfl rfl ?_
    refine x_iconst rfl ?_
    refine x_cne (t := 13) rfl rfl (by decide) (by decide) (fun _ => ?_) (fun h => absurd h (by decide))
    refine x_iload_n rfl rfl ?_
    refine x_iconst rfl ?_
    refine x_ceq (t := 23) rfl rfl (by decide) (by decide) (fun h => absurd h (by decide)) (fun _ => ?_)
    refine x_iload_n rfl rfl ?_
    refine x_iconst rfl ?_
    refine x_cne (t := 27) rfl rfl (by decide) (by decide) (fun _ => ?_) (fun h => absurd h (by decide))
    refine x_iload_n rfl rfl ?_
    refine x_iconst rfl ?_
    refine x_cge (t := 37) rfl rfl (by decide) (by decide) (fun _ => ?_) (fun h => absurd h (by decide))
    refine x_iconst rfl ?_
    exact x_ireturn rfl (Or.inl rfl) ⟨_, _, rfl, rfl, congrArg (fun z => some (xi z)) (by decide), rfl⟩
theorem xs_14 {v0 : Value} {xs : List Int32} {u : Nat × Nat} {f : Nat → zE} {d : Nat} (hd : d < 8) : xq v0 xs u 14 [(0, xi (d : Nat))] f (fun r' f' => r' = some (xi (sY (shome d))) ∧ f' = f) := by
  unfold xq
  rcases (show d = 0 ∨ d = 1 ∨ d = 2 ∨ d = 3 ∨ d = 4 ∨ d = 5 ∨ d = 6 ∨ d = 7 by omega) with rfl | rfl | rfl | rfl | rfl | rfl | rfl | rfl
  · refine x_iload_n rfl rfl ?_
    refine x_iconst rfl ?_
    refine x_cge (t := 9) rfl rfl (by decide) (by decide) (fun h => absurd h (by decide)) (fun _ => ?_)
    refine x_iconst rfl ?_
    refine x_goto (t := 40) rfl rfl ?_
    exact x_ireturn rfl (Or.inl rfl) ⟨_, _, rfl, rfl, congrArg (fun z => some (xi z)) (by decide), rfl⟩
  · refine x_iload_n rfl rfl ?_
    refine x_iconst rfl ?_
    refine x_cge (t := 9) rfl rfl (by decide) (by decide) (fun h => absurd h (by decide)) (fun _ => ?_)
    refine x_iconst rfl ?_
    refine x_goto (t := 40) rfl rfl ?_
    exact x_ireturn rfl (Or.inl rfl) ⟨_, _, rfl, rfl, congrArg (fun z => some (xi z)) (by decide), rfl⟩
  · refine x_iload_n rfl rfl ?_
    refine x_iconst rfl ?_
    refine x_cge (t := 9) rfl rfl (by decide) (by decide) (fun _ => ?_) (fun h => absurd h (by decide))
    refine x_iload_n rfl rfl ?_
    refine x_iconst rfl ?_
    refine x_ceq (t := 19) rfl rfl (by decide) (by decide) (fun h => absurd h (by decide)) (fun _ => ?_)
    refine x_iload_n rfl rfl ?_
    refine x_iconst rfl ?_
    refine x_cne (t := 24) rfl rfl (by decide) (by decide) (fun _ => ?_) (fun h => absurd h (by decide))
    refine x_iload_n rfl rfl ?_
    refine x_iconst rfl ?_
    refine x_ceq (t := 35) rfl rfl (by decide) (by decide) (fun _ => ?_) (fun h => absurd h (by decide))
    refine x_iconst rfl ?_
    refine x_goto (t := 40) rfl rfl ?_
    exact x_ireturn rfl (Or.inl rfl) ⟨_, _, rfl, rfl, congrArg (fun z => some (xi z)) (by decide), rfl⟩
  · refine x_iload_n rfl rfl ?_
    refine x_iconst rfl ?_
    refine x_cge (t := 9) rfl rfl (by decide) (by decide) (fun _ => ?_) (fun h => absurd h (by decide))
    refine x_iload_n rfl rfl ?_
    refine x_iconst rfl ?_
    refine x_ceq (t := 19) rfl rfl (by decide) (by decide) (fun h => absurd h (by decide)) (fun _ => ?_)
    refine x_iload_n rfl rfl ?_
    refine x_iconst rfl ?_
    refine x_cne (t := 24) rfl rfl (by decide) (by decide) (fun _ => ?_) (fun h => absurd h (by decide))
    refine x_iload_n rfl rfl ?_
    refine x_iconst rfl ?_
    refine x_ceq (t := 35) rfl rfl (by decide) (by decide) (fun h => absurd h (by decide)) (fun _ => ?_)
    refine x_iload_n rfl rfl ?_
    refine x_bipush rfl (by decide) ?_
    refine x_cne (t := 39) rfl rfl (by decide) (by decide) (fun _ => ?_) (fun h => absurd h (by decide))
    refine x_iconst rfl ?_
    exact x_ireturn rfl (Or.inl rfl) ⟨_, _, rfl, rfl, congrArg (fun z => some (xi z)) (by decide), rfl⟩
  · refine x_iload_n rfl rfl ?_
    refine x_iconst rfl ?_
    refine x_cge (t := 9) rfl rfl (by decide) (by decide) (fun _ => ?_) (fun h => absurd h (by decide))
    refine x_iload_n rfl rfl ?_
    refine x_iconst rfl ?_
    refine x_ceq (t := 19) rfl rfl (by decide) (by decide) (fun _ => ?_) (fun h => absurd h (by decide))
    refine x_bipush rfl (by decide) ?_
    refine x_goto (t := 40) rfl rfl ?_
    exact x_ireturn rfl (Or.inl rfl) ⟨_, _, rfl, rfl, congrArg (fun z => some (xi z)) (by decide), rfl⟩
  · refine x_iload_n rfl rfl ?_
    refine x_iconst rfl ?_
    refine x_cge (t := 9) rfl rfl (by decide) (by decide) (fun _ => ?_) (fun h => absurd h (by decide))
    refine x_iload_n rfl rfl ?_
    refine x_iconst rfl ?_
    refine x_ceq (t := 19) rfl rfl (by decide) (by decide) (fun h => absurd h (by decide)) (fun _ => ?_)
    refine x_iload_n rfl rfl ?_
    refine x_iconst rfl ?_
    refine x_cne (t := 24) rfl rfl (by decide) (by decide) (fun h => absurd h (by decide)) (fun _ => ?_)
    refine x_bipush rfl (by decide) ?_
    refine x_goto (t := 40) rfl rfl ?_
    exact x_ireturn rfl (Or.inl rfl) ⟨_, _, rfl, rfl, congrArg (fun z => some (xi z)) (by decide), rfl⟩
  · refine x_iload_n rfl rfl ?_
    refine x_iconst rfl ?_
    refine x_cge (t := 9) rfl rfl (by decide) (by decide) (fun _ => ?_) (fun h => absurd h (by decide))
    refine x_iload_n rfl rfl ?_
    refine x_iconst rfl ?_
    refine x_ceq (t := 19) rfl rfl (by decide) (by decide) (fun h => absurd h (by decide)) (fun _ => ?_)
    refine x_iload_n rfl rfl ?_
    refine x_iconst rfl ?_
    refine x_cne (t := 24) rfl rfl (by decide) (by decide) (fun _ => ?_) (fun h => absurd h (by decide))
    refine x_iload_n rfl rfl ?_
    refine x_iconst rfl ?_
    refine x_ceq (t := 35) rfl rfl (by decide) (by decide) (fun h => absurd h (by decide)) (fun _ => ?_)
    refine x_iload_n rfl rfl ?_
    refine x_bipush rfl (by decide) ?_
    refine x_cne (t := 39) rfl rfl (by decide) (by decide) (fun _ => ?_) (fun h => absurd h (by decide))
    refine x_iconst rfl ?_
    exact x_ireturn rfl (Or.inl rfl) ⟨_, _, rfl, rfl, congrArg (fun z => some (xi z)) (by decide), rfl⟩
  · refine x_iload_n rfl rfl ?_
    refine x_iconst rfl ?_
    refine x_cge (t := 9) rfl rfl (by decide) (by decide) (fun _ => ?_) (fun h => absurd h (by decide))
    refine x_iload_n rfl rfl ?_
    refine x_iconst rfl ?_
    refine x_ceq (t := 19) rfl rfl (by decide) (by decide) (fun h => absurd h (by decide)) (fun _ => ?_)
    refine x_iload_n rfl rfl ?_
    refine x_iconst rfl ?_
    refine x_cne (t := 24) rfl rfl (by decide) (by decide) (fun _ => ?_) (fun h => absurd h (by decide))
    refine x_iload_n rfl rfl ?_
    refine x_iconst rfl ?_
    refine x_ceq (t := 35) rfl rfl (by decide) (by decide) (fun h => absurd h (by decide)) (fun _ => ?_)
    refine x_iload_n rfl rfl ?_
    refine x_bipush rfl (by decide) ?_
    refine x_cne (t := 39) rfl rfl (by decide) (by decide) (fun h => absurd h (by decide)) (fun _ => ?_)
    refine x_iconst rfl ?_
    refine x_goto (t := 40) rfl rfl ?_
    exact x_ireturn rfl (Or.inl rfl) ⟨_, _, rfl, rfl, congrArg (fun z => some (xi z)) (by decide), rfl⟩
theorem xs_15 {v0 : Value} {xs : List Int32} {u : Nat × Nat} {f : Nat → zE} {d : Nat} (hd : d < 8) : xq v0 xs u 15 [(0, xi (d : Nat))] f (fun r' f' => r' = some (xi (sF (shome d))) ∧ f' = f) := by
  unfold xq
  rcases (show d = 0 ∨ d = 1 ∨ d = 2 ∨ d = 3 ∨ d = 4 ∨ d = 5 ∨ d = 6 ∨ d = 7 by omega) with rfl | rfl | rfl | rfl | rfl | rfl | rfl | rfl
  · refine x_iload_n rfl rfl ?_
    refine x_iconst rfl ?_
    refine x_cge (t := 9) rfl rfl (by decide) (by decide) (fun h => absurd h (by decide)) (fun _ => ?_)
    refine x_iconst rfl ?_
    refine x_goto (t := 29) rfl rfl ?_
    exact x_ireturn rfl (Or.inl rfl) ⟨_, _, rfl, rfl, congrArg (fun z => some (xi z)) (by decide), rfl⟩
  · refine x_iload_n rfl rfl ?_
    refine x_iconst rfl ?_
    refine x_cge (t := 9) rfl rfl (by decide) (by decide) (fun h => absurd h (by decide)) (fun _ => ?_)
    refine x_iconst rfl ?_
    refine x_goto (t := 29) rfl rfl ?_
    exact x_ireturn rfl (Or.inl rfl) ⟨_, _, rfl, rfl, congrArg (fun z => some (xi z)) (by decide), rfl⟩
  · refine x_iload_n rfl rfl ?_
    refine x_iconst rfl ?_
    refine x_cge (t := 9) rfl rfl (by decide) (by decide) (fun _ => ?_) (fun h => absurd h (by decide))
    refine x_iload_n rfl rfl ?_
    refine x_iconst rfl ?_
    refine x_cge (t := 18) rfl rfl (by decide) (by decide) (fun h => absurd h (by decide)) (fun _ => ?_)
    refine x_iconst rfl ?_
    refine x_goto (t := 29) rfl rfl ?_
    exact x_ireturn rfl (Or.inl rfl) ⟨_, _, rfl, rfl, congrArg (fun z => some (xi z)) (by decide), rfl⟩
  · refine x_iload_n rfl rfl ?_
    refine x_iconst rfl ?_
    refine x_cge (t := 9) rfl rfl (by decide) (by decide) (fun _ => ?_) (fun h => absurd h (by decide))
    refine x_iload_n rfl rfl ?_
    refine x_iconst rfl ?_
    refine x_cge (t := 18) rfl rfl (by decide) (by decide) (fun h => absurd h (by decide)) (fun _ => ?_)
    refine x_iconst rfl ?_
    refine x_goto (t := 29) rfl rfl ?_
    exact x_ireturn rfl (Or.inl rfl) ⟨_, _, rfl, rfl, congrArg (fun z => some (xi z)) (by decide), rfl⟩
  · refine x_iload_n rfl rfl ?_
    refine x_iconst rfl ?_
    refine x_cge (t := 9) rfl rfl (by decide) (by decide) (fun _ => ?_) (fun h => absurd h (by decide))
    refine x_iload_n rfl rfl ?_
    refine x_iconst rfl ?_
    refine x_cge (t := 18) rfl rfl (by decide) (by decide) (fun _ => ?_) (fun h => absurd h (by decide))
    refine x_iload_n rfl rfl ?_
    refine x_bipush rfl (by decide) ?_
    refine x_cge (t := 28) rfl rfl (by decide) (by decide) (fun h => absurd h (by decide)) (fun _ => ?_)
    refine x_iconst rfl ?_
    refine x_goto (t := 29) rfl rfl ?_
    exact x_ireturn rfl (Or.inl rfl) ⟨_, _, rfl, rfl, congrArg (fun z => some (xi z)) (by decide), rfl⟩
  · refine x_iload_n rfl rfl ?_
    refine x_iconst rfl ?_
    refine x_cge (t := 9) rfl rfl (by decide) (by decide) (fun _ => ?_) (fun h => absurd h (by decide))
    refine x_iload_n rfl rfl ?_
    refine x_iconst rfl ?_
    refine x_cge (t := 18) rfl rfl (by decide) (by decide) (fun _ => ?_) (fun h => absurd h (by decide))
    refine x_iload_n rfl rfl ?_
    refine x_bipush rfl (by decide) ?_
    refine x_cge (t := 28) rfl rfl (by decide) (by decide) (fun h => absurd h (by decide)) (fun _ => ?_)
    refine x_iconst rfl ?_
    refine x_goto (t := 29) rfl rfl ?_
    exact x_ireturn rfl (Or.inl rfl) ⟨_, _, rfl, rfl, congrArg (fun z => some (xi z)) (by decide), rfl⟩
  · refine x_iload_n rfl rfl ?_
    refine x_iconst rfl ?_
    refine x_cge (t := 9) rfl rfl (by decide) (by decide) (fun _ => ?_) (fun h => absurd h (by decide))
    refine x_iload_n rfl rfl ?_
    refine x_iconst rfl ?_
    refine x_cge (t := 18) rfl rfl (by decide) (by decide) (fun _ => ?_) (fun h => absurd h (by decide))
    refine x_iload_n rfl rfl ?_
    refine x_bipush rfl (by decide) ?_
    refine x_cge (t := 28) rfl rfl (by decide) (by decide) (fun _ => ?_) (fun h => absurd h (by decide))
    refine x_iconst rfl ?_
    exact x_ireturn rfl (Or.inl rfl) ⟨_, _, rfl, rfl, congrArg (fun z => some (xi z)) (by decide), rfl⟩
  · refine x_iload_n rfl rfl ?_
    refine x_iconst rfl ?_
    refine x_cge (t := 9) rfl rfl (by decide) (by decide) (fun _ => ?_) (fun h => absurd h (by decide))
    refine x_iload_n rfl rfl ?_
    refine x_iconst rfl ?_
    refine x_cge (t := 18) rfl rfl (by decide) (by decide) (fun _ => ?_) (fun h => absurd h (by decide))
    refine x_iload_n rfl rfl ?_
    refine x_bipush rfl (by decide) ?_
    refine x_cge (t := 28) rfl rfl (by decide) (by decide) (fun _ => ?_) (fun h => absurd h (by decide))
    refine x_iconst rfl ?_
    exact x_ireturn rfl (Or.inl rfl) ⟨_, _, rfl, rfl, congrArg (fun z => some (xi z)) (by decide), rfl⟩
theorem xs_136l {v0 : Value} {xs : List Int32} {u : Nat × Nat} {f0 : Nat → zE} {fs : List Value} {ca dn cl y : Int} (hB : sMB f0 fs ca dn cl) : ∀ (w d : Nat) (lv : zL) (f : Nat → zE), w + d = 8 → zlv lv 0 = some (.ref 177) → zlv lv 1 = some (xi y) → zlv lv 2 = some (xi (d : Nat)) → (∃ mx my mf : List Int, f 189 = xr 0 mx ∧ f 190 = xr 0 my ∧ f 191 = xr 0 mf ∧ (mx.length = 8 ∧ my.length = 8 ∧ mf.length = 8) ∧ ∀ e, e < d → mx.getD e 0 = sX (shome e) ∧ my.getD e 0 = sY (shome e) ∧ mf.getD e 0 = sF (shome e)) → (∀ q, q ≠ 189 → q ≠ 190 → q ≠ 191 → f q = f0 q) → xz v0 xs u (fun o X => ∃ r' f', o = .inl r' ∧ X = (xh f', u) ∧ (fun r' f' => r' = some (xi y) ∧ sMX f' shome ∧ ∀ q, q ≠ 189 → q ≠ 190 → q ≠ 191 → f' q = f0 q) r' f') 136 17 lv [] f := by
  obtain ⟨⟨h177, hfl, ⟨f11, f13, f14, f15, f17, f18⟩, h25, h26, h27⟩, ⟨a1, a2, a3, a4, a5, a6⟩, h9, h31, h30⟩ := hB
  intro w
  induction w with
  | zero =>
    intro d lv f hw l0 l1 l2 hX hfr
    have e8 : d = 8 := by omega
    subst e8
    obtain ⟨mx, my, mf, x1, x2, x3, hl, hx⟩ := hX
    refine x_iload_n rfl l2 ?_
    refine x_bipush rfl (by decide) ?_
    refine x_cge (t := 59) rfl rfl (by decide) (by decide) (fun _ => ?_) (fun h => absurd h (by decide))
    refine x_iload_n rfl l1 ?_
    exact x_ireturn rfl (Or.inl rfl) ⟨_, _, rfl, rfl, rfl, ⟨mx, my, mf, x1, x2, x3, hl, fun d hd => ⟨hx d hd, shome_ok d⟩⟩, hfr⟩
  | succ w ih =>
    intro d lv f hw l0 l1 l2 hX hfr
    obtain ⟨mx, my, mf, x1, x2, x3, ⟨y1, y2, y3⟩, hx⟩ := hX
    have hd : d < 8 := by omega
    refine x_iload_n rfl l2 ?_
    refine x_bipush rfl (by decide) ?_
    refine x_cge (t := 59) rfl rfl ⟨by omega, by omega⟩ (by decide) (fun h => absurd h (by omega)) (fun _ => ?_)
    refine x_aload_n rfl l0 ?_
    refine x_getfield rfl (by decide) ((hfr 177 (by decide) (by decide) (by decide)).trans h177) a1 ?_
    refine x_iload_n rfl l2 ?_
    refine x_iload_n rfl l2 ?_
    refine x_call [_] rfl rfl (show (2 : Nat) ≤ 8 from by decide) (show (1 : Nat) ≤ 1 from by decide) rfl (xs_13 hd) ?_
    intro r' f9 hP
    obtain ⟨rfl, hPe⟩ := hP
    subst f9
    refine x_iastore rfl (by decide) x1 ⟨by omega, by omega⟩ (by omega) ?_
    refine x_aload_n rfl l0 ?_
    refine x_getfield rfl (by decide) (xu_ne (by decide) ((hfr 177 (by decide) (by decide) (by decide)).trans h177)) a2 ?_
    refine x_iload_n rfl l2 ?_
    refine x_iload_n rfl l2 ?_
    refine x_call [_] rfl rfl (show (2 : Nat) ≤ 8 from by decide) (show (1 : Nat) ≤ 1 from by decide) rfl (xs_14 hd) ?_
    intro r' f9 hP
    obtain ⟨rfl, hPe⟩ := hP
    subst f9
    refine x_iastore rfl (by decide) (xu_ne (by decide) x2) ⟨by omega, by omega⟩ (by omega) ?_
    refine x_aload_n rfl l0 ?_
    refine x_getfield rfl (by decide) (xu_ne (by decide) (xu_ne (by decide) ((hfr 177 (by decide) (by decide) (by decide)).trans h177))) a3 ?_
    refine x_iload_n rfl l2 ?_
    refine x_iload_n rfl l2 ?_
    refine x_call [_] rfl rfl (show (2 : Nat) ≤ 8 from by decide) (show (1 : Nat) ≤ 1 from by decide) rfl (xs_15 hd) ?_
    intro r' f9 hP
    obtain ⟨rfl, hPe⟩ := hP
    subst f9
    refine x_iastore rfl (by decide) (xu_ne (by decide) (xu_ne (by decide) x3)) ⟨by omega, by omega⟩ (by omega) ?_
    refine x_iinc rfl l2 (show (2 : Nat) < 3 from by decide) ?_
    refine x_goto (t := 17) rfl rfl ?_
    refine ih (d + 1) _ _ (by omega) (xst_ne (by decide) l0 (Or.inl rfl)) (xst_ne (by decide) l1 (Or.inl rfl)) xst_eq ⟨_, _, _, (xu_ne (by decide) (xu_ne (by decide) xu_eq)), (xu_ne (by decide) xu_eq), xu_eq, ⟨by rw [List.length_set]; exact y1, by rw [List.length_set]; exact y2, by rw [List.length_set]; exact y3⟩, fun e he => ?_⟩ (fun q b1 b2 b3 => xu_ne b3 (xu_ne b2 (xu_ne b1 (hfr q b1 b2 b3))))
    rw [Int.toNat_natCast, x_gset, x_gset, x_gset]
    by_cases h2 : d = e
    · subst h2
      rw [if_pos ⟨rfl, by omega⟩, if_pos ⟨rfl, by omega⟩, if_pos ⟨rfl, by omega⟩]
      exact ⟨rfl, rfl, rfl⟩
    · rw [if_neg (fun h => h2 h.1), if_neg (fun h => h2 h.1), if_neg (fun h => h2 h.1)]
      exact hx e (by omega)
theorem xs_136 {v0 : Value} {xs : List Int32} {u : Nat × Nat} {f : Nat → zE} {n : Nat} {S : sS} (hT : sMT f n S) : sMq v0 xs u 136 [(0, .ref 177)] f n (0, (S.2.1.length : Nat), (shome, [], S.2.2)) := by
  unfold sMq xq
  obtain ⟨⟨fs, hB⟩, hX, hJ, hC⟩ := hT
  have hB0 := hB
  obtain ⟨⟨h177, hfl, ⟨f11, f13, f14, f15, f17, f18⟩, h25, h26, h27⟩, ⟨a1, a2, a3, a4, a5, a6⟩, h9, h31, h30⟩ := hB
  refine x_aload_n rfl rfl ?_
  refine x_iconst rfl ?_
  refine x_putfield rfl (by decide) h177 (show (0 : Nat) < _ from by rw [hfl]; decide) rfl ?_
  refine x_aload_n rfl rfl ?_
  refine x_getfield rfl (by decide) xu_eq (sget_ne (by decide) h31) ?_
  refine x_istore_n rfl (show (1 : Nat) < 3 from by decide) ?_
  refine x_aload_n rfl (xst_ne (by decide) rfl (Or.inl rfl)) ?_
  refine x_iconst rfl ?_
  refine x_putfield rfl (by decide) xu_eq (show (31 : Nat) < _ from by rw [(slen hfl)]; decide) rfl ?_
  refine x_iconst rfl ?_
  refine x_istore_n rfl (show (2 : Nat) < 3 from by decide) ?_
  obtain ⟨ax0, ay0, af0, hmc⟩ := hC
  obtain ⟨mx, my, mf, x1, x2, x3, hl, -⟩ := hX
  generalize hf2 : xu (xu f 177 _) 177 _ = f2
  have g177 : f2 177 = .inl (10, (fs.set 0 (xi 0)).set 31 (xi 0)) := by rw [← hf2]; exact xu_eq
  have hfa : ∀ q, q ≠ 177 → f2 q = f q := fun q b => by rw [← hf2]; exact xu_ne b (xu_ne b rfl)
  have hB2 := sMB_31 (sMB_0 (f' := fun _ => .inl (10, fs.set 0 (xi 0))) hB0 rfl) g177
  refine zwp_mono (xs_136l hB2 8 0 _ _ rfl (xst_ne (by decide) (xst_ne (by decide) rfl (Or.inl rfl)) (Or.inl rfl)) (xst_ne (by decide) xst_eq (Or.inl rfl)) xst_eq ⟨mx, my, mf, (hfa _ (by decide)).trans x1, (hfa _ (by decide)).trans x2, (hfa _ (by decide)).trans x3, hl, fun e he => absurd he (Nat.not_lt_zero _)⟩ (fun _ _ _ _ => rfl)) ?_
  rintro o X' ⟨r9, f9, e1, e2, e3, e4, e5⟩
  have hfb : ∀ q, q ≠ 177 → ¬ (189 ≤ q ∧ q ≤ 191) → f9 q = f q := fun q b1 b2 => (e5 q (by omega) (by omega) (by omega)).trans (hfa q b1)
  obtain ⟨hj24, wl, bl, be, j195, j196, j197, hjl, hji⟩ := hJ
  exact ⟨r9, f9, e1, e2, e3, ⟨_, (e5 177 (by decide) (by decide) (by decide)).trans g177, sget_ne (by decide) (sget_eq (by rw [hfl]; decide))⟩, ⟨⟨_, sMB_f hB2 (e5 177 (by decide) (by decide) (by decide))⟩, e4, ⟨by simp, wl, bl, be, (hfb _ (by decide) (by decide)).trans j195, (hfb _ (by decide) (by decide)).trans j196, (hfb _ (by decide) (by decide)).trans j197, hjl, fun i hi => absurd hi (Nat.not_lt_zero _)⟩, ax0, ay0, af0, (hfb _ (by decide) (by decide)).trans hmc.1, (hfb _ (by decide) (by decide)).trans hmc.2.1, (hfb _ (by decide) (by decide)).trans hmc.2.2.1, hmc.2.2.2⟩, fun q b1 b2 => hfb q b1 (by omega)⟩
def sWH (S : sS) (d w : Int) : Int × Int × sS := if (0 ≤ d ∧ d < 8) ∧ 0 ≤ w ∧ w ≤ 2 then (0, if w = 0 then sX (S.1 d.toNat) else if w = 1 then sY (S.1 d.toNat) else sF (S.1 d.toNat), S) else (1, 0, S)
theorem xs_141 {v0 : Value} {xs : List Int32} {u : Nat × Nat} {f : Nat → zE} {n : Nat} {S : sS} (hT : sMT f n S) {d w : Int} (hd : -2147483648 ≤ d ∧ d ≤ 2147483647) (hw : -2147483648 ≤ w ∧ w ≤ 2147483647) : sMq v0 xs u 141 [(0, .ref 177), (1, xi d), (2, xi w)] f n (sWH S d w) := by
  unfold sMq xq
  obtain ⟨⟨fs, hB⟩, hX, hJ, hC⟩ := hT
  have hB0 := hB
  obtain ⟨⟨h177, hfl, ⟨f11, f13, f14, f15, f17, f18⟩, h25, h26, h27⟩, ⟨a1, a2, a3, a4, a5, a6⟩, h9, h31, h30⟩ := hB
  obtain ⟨mx, my, mf, x1, x2, x3, ⟨y1, y2, y3⟩, hx⟩ := id hX
  have bad : ¬ ((0 ≤ d ∧ d < 8) ∧ 0 ≤ w ∧ w ≤ 2) → xz v0 xs u (fun o X => ∃ r f', o = .inl r ∧ X = (xh f', u) ∧ (fun r' f' => r' = some (xi (sWH S d w).2.1) ∧ sCD f' (sWH S d w).1 ∧ sMT f' n (sWH S d w).2.2 ∧ ∀ q, q ≠ 177 → ¬ (189 ≤ q ∧ q ≤ 197) → f' q = f q) r f') 141 21 [(0, .ref 177), (1, xi d), (2, xi w)] [.ref 177] f := by
    intro hb
    refine x_iconst rfl ?_
    refine x_putfield rfl (by decide) h177 (show (0 : Nat) < _ from by rw [hfl]; decide) rfl ?_
    refine x_aload_n rfl rfl ?_
    refine x_getfield rfl (by decide) xu_eq (sget_eq (by rw [hfl]; decide)) ?_
    refine x_ifle (t := 36) rfl rfl (by decide) (fun h => absurd h (by decide)) (fun _ => ?_)
    refine x_iconst rfl ?_
    refine x_goto (t := 69) rfl rfl ?_
    have e : sWH S d w = (1, 0, S) := by unfold sWH; rw [if_neg hb]
    rw [e]
    exact x_ireturn rfl (Or.inl rfl) ⟨_, _, rfl, rfl, rfl, ⟨_, xu_eq, sget_eq (by rw [hfl]; decide)⟩, sMT_0 hB0 hX hJ hC, fun q b1 _ => xu_ne b1 rfl⟩
  refine x_aload_n rfl rfl ?_
  refine x_iload_n rfl rfl ?_
  refine x_call [_] rfl rfl (show (1 : Nat) ≤ 8 from by decide) (show (1 : Nat) ≤ 1 from by decide) rfl (xs_140 hd) ?_
  intro r' f1 hP
  obtain ⟨rfl, hPe⟩ := hP
  subst f1
  by_cases h8 : 0 ≤ d ∧ d < 8
  rotate_left
  · rw [if_neg h8]
    refine x_ifeq (t := 21) rfl rfl (by decide) (fun _ => ?_) (fun h => absurd rfl h)
    exact bad (fun h => h8 h.1)
  rw [if_pos h8]
  refine x_ifeq (t := 21) rfl rfl (by decide) (fun h => absurd h (by decide)) (fun _ => ?_)
  refine x_iload_n rfl rfl ?_
  refine x_iflt (t := 21) rfl rfl hw (fun h1 => ?_) (fun h1 => ?_)
  · exact bad (fun h => by omega)
  refine x_iload_n rfl rfl ?_
  refine x_iconst rfl ?_
  refine x_cgt (t := 21) rfl rfl hw (by decide) (fun h2 => ?_) (fun h2 => ?_)
  · exact bad (fun h => by omega)
  refine x_iconst rfl ?_
  refine x_goto (t := 22) rfl rfl ?_
  refine x_putfield rfl (by decide) h177 (show (0 : Nat) < _ from by rw [hfl]; decide) rfl ?_
  refine x_aload_n rfl rfl ?_
  refine x_getfield rfl (by decide) xu_eq (sget_eq (by rw [hfl]; decide)) ?_
  refine x_ifle (t := 36) rfl rfl (by decide) (fun _ => ?_) (fun h => absurd h (by decide))
  obtain ⟨k, rfl⟩ : ∃ k : Nat, d = (k : Int) := ⟨d.toNat, by omega⟩
  obtain ⟨⟨q1, q2, q3⟩, -⟩ := hx k (by omega)
  refine x_iload_n rfl rfl ?_
  refine x_ifne (t := 49) rfl rfl hw (fun h3 => ?_) (fun h3 => ?_)
  · refine x_iload_n rfl rfl ?_
    refine x_iconst rfl ?_
    refine x_cne (t := 63) rfl rfl hw (by decide) (fun h4 => ?_) (fun h4 => ?_)
    · refine x_aload_n rfl rfl ?_
      refine x_getfield rfl (by decide) xu_eq (sget_ne (by decide) a3) ?_
      refine x_iload_n rfl rfl ?_
      refine x_iaload rfl (by decide) (xu_ne (by decide) x3) ⟨by omega, by omega⟩ (by omega) ?_
      rw [Int.toNat_natCast, q3]
      have e : sWH S (k : Nat) w = (0, sF (S.1 k), S) := by unfold sWH; rw [if_pos ⟨h8, h1, h2⟩, Int.toNat_natCast, if_neg h3, if_neg h4]
      rw [e]
      exact x_ireturn rfl (Or.inl rfl) ⟨_, _, rfl, rfl, rfl, ⟨_, xu_eq, sget_eq (by rw [hfl]; decide)⟩, sMT_0 hB0 hX hJ hC, fun q b1 _ => xu_ne b1 rfl⟩
    · refine x_aload_n rfl rfl ?_
      refine x_getfield rfl (by decide) xu_eq (sget_ne (by decide) a2) ?_
      refine x_iload_n rfl rfl ?_
      refine x_iaload rfl (by decide) (xu_ne (by decide) x2) ⟨by omega, by omega⟩ (by omega) ?_
      rw [Int.toNat_natCast, q2]
      refine x_goto (t := 69) rfl rfl ?_
      have e : sWH S (k : Nat) w = (0, sY (S.1 k), S) := by unfold sWH; rw [if_pos ⟨h8, h1, h2⟩, Int.toNat_natCast, if_neg h3, if_pos h4]
      rw [e]
      exact x_ireturn rfl (Or.inl rfl) ⟨_, _, rfl, rfl, rfl, ⟨_, xu_eq, sget_eq (by rw [hfl]; decide)⟩, sMT_0 hB0 hX hJ hC, fun q b1 _ => xu_ne b1 rfl⟩
  · refine x_aload_n rfl rfl ?_
    refine x_getfield rfl (by decide) xu_eq (sget_ne (by decide) a1) ?_
    refine x_iload_n rfl rfl ?_
    refine x_iaload rfl (by decide) (xu_ne (by decide) x1) ⟨by omega, by omega⟩ (by omega) ?_
    rw [Int.toNat_natCast, q1]
    refine x_goto (t := 69) rfl rfl ?_
    have e : sWH S (k : Nat) w = (0, sX (S.1 k), S) := by unfold sWH; rw [if_pos ⟨h8, h1, h2⟩, Int.toNat_natCast, if_pos h3]
    rw [e]
    exact x_ireturn rfl (Or.inl rfl) ⟨_, _, rfl, rfl, rfl, ⟨_, xu_eq, sget_eq (by rw [hfl]; decide)⟩, sMT_0 hB0 hX hJ hC, fun q b1 _ => xu_ne b1 rfl⟩
def sSL (S : sS) (s d : Int) : Int × Int × sS := if (0 ≤ s ∧ s ≤ 12) ∧ 0 ≤ d ∧ d < 8 then (0, if shas s S.1 d.toNat = true then 1 else 0, S) else (1, 0, S)
theorem xs_148 {v0 : Value} {xs : List Int32} {u : Nat × Nat} {f : Nat → zE} {n : Nat} {S : sS} (hT : sMT f n S) {s d : Int} (hs : -2147483648 ≤ s ∧ s ≤ 2147483647) (hd : -2147483648 ≤ d ∧ d ≤ 2147483647) : sMq v0 xs u 148 [(0, .ref 177), (1, xi s), (2, xi d)] f n (sSL S s d) := by
  unfold sMq xq
  obtain ⟨⟨fs, hB⟩, hX, hJ, hC⟩ := hT
  have hB0 := hB
  obtain ⟨⟨h177, hfl, ⟨f11, f13, f14, f15, f17, f18⟩, h25, h26, h27⟩, ⟨a1, a2, a3, a4, a5, a6⟩, h9, h31, h30⟩ := hB
  have bad : ¬ ((0 ≤ s ∧ s ≤ 12) ∧ 0 ≤ d ∧ d < 8) → xz v0 xs u (fun o X => ∃ r f', o = .inl r ∧ X = (xh f', u) ∧ (fun r' f' => r' = some (xi (sSL S s d).2.1) ∧ sCD f' (sSL S s d).1 ∧ sMT f' n (sSL S s d).2.2 ∧ ∀ q, q ≠ 177 → ¬ (189 ≤ q ∧ q ≤ 197) → f' q = f q) r f') 148 22 [(0, .ref 177), (1, xi s), (2, xi d)] [.ref 177] f := by
    intro hb
    refine x_iconst rfl ?_
    refine x_putfield rfl (by decide) h177 (show (0 : Nat) < _ from by rw [hfl]; decide) rfl ?_
    refine x_aload_n rfl rfl ?_
    refine x_getfield rfl (by decide) xu_eq (sget_eq (by rw [hfl]; decide)) ?_
    refine x_ifle (t := 35) rfl rfl (by decide) (fun h => absurd h (by decide)) (fun _ => ?_)
    refine x_iconst rfl ?_
    have e : sSL S s d = (1, 0, S) := by unfold sSL; rw [if_neg hb]
    rw [e]
    exact x_ireturn rfl (Or.inr (Or.inl ⟨rfl, by decide⟩)) ⟨_, _, rfl, rfl, rfl, ⟨_, xu_eq, sget_eq (by rw [hfl]; decide)⟩, sMT_0 hB0 hX hJ hC, fun q b1 _ => xu_ne b1 rfl⟩
  refine x_aload_n rfl rfl ?_
  refine x_iload_n rfl rfl ?_
  refine x_iflt (t := 22) rfl rfl hs (fun h1 => ?_) (fun h1 => ?_)
  · exact bad (fun h => by omega)
  refine x_iload_n rfl rfl ?_
  refine x_bipush rfl (by decide) ?_
  refine x_cgt (t := 22) rfl rfl hs (by decide) (fun h2 => ?_) (fun h2 => ?_)
  · exact bad (fun h => by omega)
  refine x_iload_n rfl rfl ?_
  refine x_call [_] rfl rfl (show (1 : Nat) ≤ 8 from by decide) (show (1 : Nat) ≤ 1 from by decide) rfl (xs_140 hd) ?_
  intro r' f1 hP
  obtain ⟨rfl, hPe⟩ := hP
  subst f1
  by_cases h8 : 0 ≤ d ∧ d < 8
  rotate_left
  · rw [if_neg h8]
    refine x_ifeq (t := 22) rfl rfl (by decide) (fun _ => ?_) (fun h => absurd rfl h)
    exact bad (fun h => h8 h.2)
  rw [if_pos h8]
  refine x_ifeq (t := 22) rfl rfl (by decide) (fun h => absurd h (by decide)) (fun _ => ?_)
  refine x_iconst rfl ?_
  refine x_goto (t := 23) rfl rfl ?_
  refine x_putfield rfl (by decide) h177 (show (0 : Nat) < _ from by rw [hfl]; decide) rfl ?_
  refine x_aload_n rfl rfl ?_
  refine x_getfield rfl (by decide) xu_eq (sget_eq (by rw [hfl]; decide)) ?_
  refine x_ifle (t := 35) rfl rfl (by decide) (fun _ => ?_) (fun h => absurd h (by decide))
  obtain ⟨k, rfl⟩ : ∃ k : Nat, d = (k : Int) := ⟨d.toNat, by omega⟩
  have hk8 : k < 8 := by omega
  obtain ⟨ax0, ay0, af0, hmc⟩ := hC
  have hB1 := sMB_0 (f' := xu f 177 (.inl (10, fs.set 0 (xi 0)))) hB0 xu_eq
  have hX1 : sMX (xu f 177 (.inl (10, fs.set 0 (xi 0)))) S.1 := sMX_f hX (fun q _ _ => xu_ne (by omega) rfl)
  have hmc1 : sMC (xu f 177 (.inl (10, fs.set 0 (xi 0)))) ax0 ay0 af0 := ⟨xu_ne (by decide) hmc.1, xu_ne (by decide) hmc.2.1, xu_ne (by decide) hmc.2.2.1, hmc.2.2.2⟩
  refine x_aload_n rfl rfl ?_
  refine x_call [_] rfl rfl (show (0 : Nat) ≤ 8 from by decide) (show (1 : Nat) ≤ 2 from by decide) (x_rcv (by decide) xu_eq) (xs_110 hB1 hX1 hmc1) ?_
  intro r' f2 hP
  obtain ⟨rfl, ⟨ax, ay, af, hmc2, hml⟩, hfr2⟩ := hP
  have e177 : f2 177 = .inl (10, fs.set 0 (xi 0)) := (hfr2 177 (by decide) (by decide) (by decide)).trans xu_eq
  have hB2 := sMB_f hB1 (f' := f2) (hfr2 177 (by decide) (by decide) (by decide))
  refine x_aload_n rfl rfl ?_
  refine x_iload_n rfl rfl ?_
  refine x_iconst rfl ?_
  refine x_call [_, _, _] rfl rfl (show (0 : Nat) ≤ 8 from by decide) (show (3 : Nat) ≤ 5 from by decide) (x_rcv (by decide) e177) (xs_117 hB2.1 hmc2 hml ⟨h1, h2⟩) ?_
  intro r' f3 hP
  obtain ⟨rfl, hPe⟩ := hP
  subst f3
  refine x_iload_n rfl rfl ?_
  refine x_ishr rfl ?_
  refine x_iconst rfl ?_
  refine x_iandg2 rfl (sm_bit _ hk8) ?_
  refine x_iconst rfl ?_
  have hfa : ∀ q, q ≠ 177 → ¬ (192 ≤ q ∧ q ≤ 194) → f2 q = f q := fun q b1 b2 => (hfr2 q (by omega) (by omega) (by omega)).trans (xu_ne b1 rfl)
  have e : sSL S s (k : Nat) = (0, if shas s S.1 k = true then 1 else 0, S) := by unfold sSL; rw [if_pos ⟨⟨h1, h2⟩, h8⟩, Int.toNat_natCast]
  rw [e]
  by_cases hh : shas s S.1 k = true
  · rw [if_pos hh]
    refine x_cne (t := 57) rfl rfl (by decide) (by decide) (fun h => absurd rfl h) (fun _ => ?_)
    refine x_iconst rfl ?_
    refine x_goto (t := 58) rfl rfl ?_
    exact x_ireturn rfl (Or.inr (Or.inl ⟨rfl, by decide⟩)) ⟨_, _, rfl, rfl, by simp only [if_pos hh], ⟨_, e177, sget_eq (by rw [hfl]; decide)⟩, ⟨⟨_, hB2⟩, sMX_f hX (fun q _ _ => hfa q (by omega) (by omega)), sMJ_f hJ (fun q _ _ => hfa q (by omega) (by omega)), ax, ay, af, hmc2⟩, fun q b1 b2 => hfa q b1 (by omega)⟩
  · rw [if_neg hh]
    refine x_cne (t := 57) rfl rfl (by decide) (by decide) (fun _ => ?_) (fun h => absurd h (by decide))
    refine x_iconst rfl ?_
    exact x_ireturn rfl (Or.inr (Or.inl ⟨rfl, by decide⟩)) ⟨_, _, rfl, rfl, by simp only [if_neg hh], ⟨_, e177, sget_eq (by rw [hfl]; decide)⟩, ⟨⟨_, hB2⟩, sMX_f hX (fun q _ _ => hfa q (by omega) (by omega)), sMJ_f hJ (fun q _ _ => hfa q (by omega) (by omega)), ax, ay, af, hmc2⟩, fun q b1 b2 => hfa q b1 (by omega)⟩
def sSD (K : List (Int × Int)) (G : Nat → List xBt) (S : sS) (b d : Int) : Int × Int × sS := if 0 ≤ d ∧ d < 8 then (if S.2.1.length = 0 ∨ b < 0 ∨ ((G (S.2.1.getD (S.2.1.length - 1) sH0).1).length : Nat) < b then (2, 0, S) else (0, srow (sbt K (G (S.2.1.getD (S.2.1.length - 1) sH0).1)) (S.2.1.getD (S.2.1.length - 1) sH0).2.1 (S.2.1.getD (S.2.1.length - 1) sH0).2.2 b.toNat d.toNat / 4, S)) else (1, 0, S)
theorem xs_145l {v0 : Value} {xs : List Int32} {u : Nat × Nat} {Q : zO → zX → Prop} {f0 : Nat → zE} {fs : List Value} {ca dn cl b d2 : Int} {r : Nat → Int} {be : List Int} (hB : sMB f0 fs ca dn cl) (h197 : f0 197 = xr 0 be) (hbl : be.length = 192) (hdn : 0 ≤ dn - 1 ∧ dn - 1 < 24) (hr : ∀ d, d < 8 → be.getD (8 * (dn - 1) + (d : Nat)).toNat 0 = r d ∧ sok (r d))
    (hkk : ∀ (lv : zL) (f : Nat → zE), zlv lv 0 = some (.ref 177) → zlv lv 1 = some (xi b) → zlv lv 2 = some (xi d2) → (∃ ax ay af : List Int, sMC f ax ay af ∧ ∀ e, e < 8 → sMP ax ay af ((e : Nat) : Int) (r e)) → (∀ q, q ≠ 192 → q ≠ 193 → q ≠ 194 → f q = f0 q) → xz v0 xs u Q 145 120 lv [] f) : ∀ (w d : Nat) (lv : zL) (f : Nat → zE), w + d = 8 → zlv lv 0 = some (.ref 177) → zlv lv 1 = some (xi b) → zlv lv 2 = some (xi d2) → zlv lv 3 = some (xi (d : Nat)) → (∃ ax ay af : List Int, sMC f ax ay af ∧ ∀ e, e < d → sMP ax ay af ((e : Nat) : Int) (r e)) → (∀ q, q ≠ 192 → q ≠ 193 → q ≠ 194 → f q = f0 q) → xz v0 xs u Q 145 87 lv [] f := by
  have hB0 := hB
  obtain ⟨⟨h177, hfl, ⟨f11, f13, f14, f15, f17, f18⟩, h25, h26, h27⟩, ⟨a1, a2, a3, a4, a5, a6⟩, h9, h31, h30⟩ := hB
  intro w
  induction w with
  | zero =>
    intro d lv f hw l0 l1 l2 l3 hrow hfr
    have e8 : d = 8 := by omega
    subst e8
    refine x_iload_n rfl l3 ?_
    refine x_bipush rfl (by decide) ?_
    refine x_cge (t := 120) rfl rfl (by decide) (by decide) (fun _ => ?_) (fun h => absurd h (by decide))
    exact hkk lv f l0 l1 l2 hrow hfr
  | succ w ih =>
    intro d lv f hw l0 l1 l2 l3 hrow hfr
    obtain ⟨ax, ay, af, hmc, hrow⟩ := hrow
    have hd : d < 8 := by omega
    obtain ⟨r1, r2⟩ := hr d hd
    have hB2 := sMB_f hB0 (f' := f) (hfr 177 (by decide) (by decide) (by decide))
    refine x_iload_n rfl l3 ?_
    refine x_bipush rfl (by decide) ?_
    refine x_cge (t := 120) rfl rfl ⟨by omega, by omega⟩ (by decide) (fun h => absurd h (by omega)) (fun _ => ?_)
    refine x_aload_n rfl l0 ?_
    refine x_iload_n rfl l3 ?_
    refine x_aload_n rfl l0 ?_
    refine x_getfield rfl (by decide) ((hfr 177 (by decide) (by decide) (by decide)).trans h177) a6 ?_
    refine x_bipush rfl (by decide) ?_
    refine x_aload_n rfl l0 ?_
    refine x_getfield rfl (by decide) ((hfr 177 (by decide) (by decide) (by decide)).trans h177) h31 ?_
    refine x_iconst rfl ?_
    refine x_isub rfl ?_
    refine x_imul rfl ?_
    refine x_iload_n rfl l3 ?_
    refine x_iadd rfl ?_
    refine x_iaload rfl (by decide) ((hfr 197 (by decide) (by decide) (by decide)).trans h197) ⟨by omega, by omega⟩ (by omega) ?_
    rw [r1]
    refine x_call [_, _, _] rfl rfl (show (0 : Nat) ≤ 8 from by decide) (show (3 : Nat) ≤ 3 from by decide) (x_rcv (by decide) ((hfr 177 (by decide) (by decide) (by decide)).trans h177)) (xs_133 hB2 hmc hd r2) ?_
    intro r' f1 hP
    obtain ⟨rfl, hmc1, hfr1⟩ := hP
    refine x_iinc rfl l3 (show (3 : Nat) < 4 from by decide) ?_
    refine x_goto (t := 87) rfl rfl ?_
    refine ih (d + 1) _ _ (by omega) (xst_ne (by decide) l0 (Or.inl rfl)) (xst_ne (by decide) l1 (Or.inl rfl)) (xst_ne (by decide) l2 (Or.inl rfl)) xst_eq ⟨_, _, _, hmc1, sMP_set (n := 8) hmc.2.2.2 (by omega) hrow rfl rfl rfl⟩ (fun q b1 b2 b3 => (hfr1 q b1 b2 b3).trans (hfr q b1 b2 b3))
theorem xs_145 {v0 : Value} {xs : List Int32} {u : Nat × Nat} {f : Nat → zE} {n : Nat} {S : sS} (hT : sMT f n S) {K : List (Int × Int)} {G : Nat → List xBt} (hn : n ≤ 12) (hK : ∀ c, c < n → sKM f K c (G c)) (hG : ∀ c, c < n → sGok K (G c)) (hc : ∀ i, i < S.2.1.length → (S.2.1.getD i sH0).1 < n ∧ sres (sbt K (G (S.2.1.getD i sH0).1)) (S.2.1.getD i sH0).2.1 (S.2.1.getD i sH0).2.2 (G (S.2.1.getD i sH0).1).length = 0) {b d : Int} (hb : -2147483648 ≤ b ∧ b ≤ 2147483647) (hd : -2147483648 ≤ d ∧ d ≤ 2147483647) : sMq v0 xs u 145 [(0, .ref 177), (1, xi b), (2, xi d)] f n (sSD K G S b d) := by
  unfold sMq xq
  obtain ⟨⟨fs, hB⟩, hX, hJ, hC⟩ := hT
  have hB0 := hB
  obtain ⟨⟨h177, hfl, ⟨f11, f13, f14, f15, f17, f18⟩, h25, h26, h27⟩, ⟨a1, a2, a3, a4, a5, a6⟩, h9, h31, h30⟩ := hB
  have h24 := hJ.1
  refine x_aload_n rfl rfl ?_
  refine x_iload_n rfl rfl ?_
  refine x_call [_] rfl rfl (show (1 : Nat) ≤ 8 from by decide) (show (1 : Nat) ≤ 1 from by decide) rfl (xs_140 hd) ?_
  intro r' f1 hP
  obtain ⟨rfl, hPe⟩ := hP
  subst f1
  by_cases h8 : 0 ≤ d ∧ d < 8
  rotate_left
  · rw [if_neg h8]
    refine x_ifeq (t := 12) rfl rfl (by decide) (fun _ => ?_) (fun h => absurd rfl h)
    refine x_iconst rfl ?_
    refine x_putfield rfl (by decide) h177 (show (0 : Nat) < _ from by rw [hfl]; decide) rfl ?_
    refine x_aload_n rfl rfl ?_
    refine x_getfield rfl (by decide) xu_eq (sget_eq (by rw [hfl]; decide)) ?_
    refine x_ifle (t := 25) rfl rfl (by decide) (fun h => absurd h (by decide)) (fun _ => ?_)
    refine x_iconst rfl ?_
    have e : sSD K G S b d = (1, 0, S) := by unfold sSD; rw [if_neg h8]
    rw [e]
    exact x_ireturn rfl (Or.inl rfl) ⟨_, _, rfl, rfl, rfl, ⟨_, xu_eq, sget_eq (by rw [hfl]; decide)⟩, sMT_0 hB0 hX hJ hC, fun q b1 _ => xu_ne b1 rfl⟩
  rw [if_pos h8]
  refine x_ifeq (t := 12) rfl rfl (by decide) (fun h => absurd h (by decide)) (fun _ => ?_)
  refine x_iconst rfl ?_
  refine x_goto (t := 13) rfl rfl ?_
  refine x_putfield rfl (by decide) h177 (show (0 : Nat) < _ from by rw [hfl]; decide) rfl ?_
  refine x_aload_n rfl rfl ?_
  refine x_getfield rfl (by decide) xu_eq (sget_eq (by rw [hfl]; decide)) ?_
  refine x_ifle (t := 25) rfl rfl (by decide) (fun _ => ?_) (fun h => absurd h (by decide))
  refine x_aload_n rfl rfl ?_
  have hB1 := sMB_0 (f' := xu f 177 (.inl (10, fs.set 0 (xi 0)))) hB0 xu_eq
  have bad : (S.2.1.length = 0 ∨ b < 0 ∨ ((G (S.2.1.getD (S.2.1.length - 1) sH0).1).length : Nat) < b) → xz v0 xs u (fun o X => ∃ r f', o = .inl r ∧ X = (xh f', u) ∧ (fun r' f' => r' = some (xi (sSD K G S b d).2.1) ∧ sCD f' (sSD K G S b d).1 ∧ sMT f' n (sSD K G S b d).2.2 ∧ ∀ q, q ≠ 177 → ¬ (189 ≤ q ∧ q ≤ 197) → f' q = f q) r f') 145 68 [(0, .ref 177), (1, xi b), (2, xi d)] [.ref 177] (xu f 177 (.inl (10, fs.set 0 (xi 0)))) := by
    intro hbb
    refine x_iconst rfl ?_
    refine x_goto (t := 73) rfl rfl ?_
    refine x_putfield rfl (by decide) xu_eq (show (0 : Nat) < _ from by rw [(slen hfl)]; decide) rfl ?_
    refine x_aload_n rfl rfl ?_
    refine x_getfield rfl (by decide) xu_eq (sget_eq (by rw [(slen hfl)]; decide)) ?_
    refine x_ifle (t := 85) rfl rfl (by decide) (fun h => absurd h (by decide)) (fun _ => ?_)
    refine x_iconst rfl ?_
    have e : sSD K G S b d = (2, 0, S) := by unfold sSD; rw [if_pos h8, if_pos hbb]
    rw [e]
    obtain ⟨ax0, ay0, af0, hmc⟩ := hC
    exact x_ireturn rfl (Or.inl rfl) ⟨_, _, rfl, rfl, rfl, ⟨_, xu_eq, sget_eq (by rw [slen hfl]; decide)⟩, ⟨⟨_, sMB_0 hB1 xu_eq⟩, sMX_f hX (fun q _ _ => xu_ne (by omega) (xu_ne (by omega) rfl)), sMJ_f hJ (fun q _ _ => xu_ne (by omega) (xu_ne (by omega) rfl)), ax0, ay0, af0, xu_ne (by decide) (xu_ne (by decide) hmc.1), xu_ne (by decide) (xu_ne (by decide) hmc.2.1), xu_ne (by decide) (xu_ne (by decide) hmc.2.2.1), hmc.2.2.2⟩, fun q b1 _ => xu_ne b1 (xu_ne b1 rfl)⟩
  refine x_aload_n rfl rfl ?_
  refine x_getfield rfl (by decide) xu_eq (sget_ne (by decide) h31) ?_
  refine x_ifeq (t := 68) rfl rfl ⟨by omega, by omega⟩ (fun h1 => ?_) (fun h1 => ?_)
  · exact bad (Or.inl (by omega))
  refine x_iload_n rfl rfl ?_
  refine x_iflt (t := 68) rfl rfl hb (fun h2 => ?_) (fun h2 => ?_)
  · exact bad (Or.inr (Or.inl h2))
  obtain ⟨m, hm⟩ : ∃ m : Nat, S.2.1.length = m + 1 := ⟨S.2.1.length - 1, by omega⟩
  obtain ⟨hj24, wl, bl, be, j195, j196, j197, ⟨y1, y2, y3⟩, hji⟩ := id hJ
  obtain ⟨t1, t2, t3⟩ := hji m (by omega)
  obtain ⟨hcm, hcs⟩ := hc m (by omega)
  have hlast : S.2.1.getD (S.2.1.length - 1) sH0 = S.2.1.getD m sH0 := by rw [hm, Nat.add_sub_cancel]
  generalize hr : S.2.1.getD m sH0 = e at t1 t2 t3 hcm hcs hlast
  have hKe := hK e.1 hcm
  obtain ⟨-, cnl, tk, pf, pq, se, at', k180, -, -, -, -, -, ⟨kl, -⟩, hcnt, -⟩ := id hKe
  have hl16 := (hG e.1 hcm).1
  refine x_iload_n rfl rfl ?_
  refine x_aload_n rfl rfl ?_
  refine x_getfield rfl (by decide) xu_eq (sget_ne (by decide) f11) ?_
  refine x_aload_n rfl rfl ?_
  refine x_getfield rfl (by decide) xu_eq (sget_ne (by decide) a4) ?_
  refine x_aload_n rfl rfl ?_
  refine x_getfield rfl (by decide) xu_eq (sget_ne (by decide) h31) ?_
  refine x_ifle (t := 62) rfl rfl ⟨by omega, by omega⟩ (fun h => by omega) (fun _ => ?_)
  refine x_aload_n rfl rfl ?_
  refine x_getfield rfl (by decide) xu_eq (sget_ne (by decide) h31) ?_
  refine x_iconst rfl ?_
  refine x_isub rfl ?_
  rw [show ((S.2.1.length : Nat) : Int) - 1 = (m : Nat) from by omega]
  refine x_goto (t := 63) rfl rfl ?_
  refine x_iaload rfl (by decide) (xu_ne (by decide) j195) ⟨by omega, by omega⟩ (by omega) ?_
  rw [Int.toNat_natCast, t1]
  refine x_iaload rfl (by decide) (xu_ne (by decide) k180) ⟨by omega, by omega⟩ (by omega) ?_
  rw [Int.toNat_natCast, hcnt]
  refine x_cle (t := 72) rfl rfl hb ⟨by omega, by omega⟩ (fun h3 => ?_) (fun h3 => ?_)
  rotate_left
  · exact bad (Or.inr (Or.inr (by rw [hlast]; exact h3)))
  refine x_iconst rfl ?_
  refine x_putfield rfl (by decide) xu_eq (show (0 : Nat) < _ from by rw [(slen hfl)]; decide) rfl ?_
  refine x_aload_n rfl rfl ?_
  refine x_getfield rfl (by decide) xu_eq (sget_eq (by rw [(slen hfl)]; decide)) ?_
  refine x_ifle (t := 85) rfl rfl (by decide) (fun _ => ?_) (fun h => absurd h (by decide))
  refine x_iconst rfl ?_
  refine x_istore_n rfl (show (3 : Nat) < 4 from by decide) ?_
  obtain ⟨ax0, ay0, af0, hmc⟩ := hC
  generalize hf2 : xu (xu f 177 _) 177 _ = f2
  have g177 : f2 177 = .inl (10, (fs.set 0 (xi 0)).set 0 (xi 0)) := by rw [← hf2]; exact xu_eq
  have hfa : ∀ q, q ≠ 177 → f2 q = f q := fun q b => by rw [← hf2]; exact xu_ne b (xu_ne b rfl)
  have hB2 := sMB_0 hB1 g177
  have g197 := (hfa 197 (by decide)).trans j197
  refine xs_145l (b := b) (d2 := d) (r := e.2.2) hB2 g197 y3 ⟨by omega, by omega⟩ (fun d hd => by rw [show (8 * (((S.2.1.length : Nat) : Int) - 1) + (d : Nat)).toNat = 8 * m + d from by omega]; exact t3 d hd) (fun lv2 f3 m0 m1 m2 hrow hfr3 => ?_) 8 0 _ _ rfl (xst_ne (by decide) rfl (Or.inl rfl)) (xst_ne (by decide) rfl (Or.inl rfl)) (xst_ne (by decide) rfl (Or.inl rfl)) xst_eq ⟨ax0, ay0, af0, ⟨(hfa _ (by decide)).trans hmc.1, (hfa _ (by decide)).trans hmc.2.1, (hfa _ (by decide)).trans hmc.2.2.1, hmc.2.2.2⟩, fun e he => absurd he (Nat.not_lt_zero _)⟩ (fun _ _ _ _ => rfl)
  obtain ⟨ax, ay, af, hmc3, hrow3⟩ := hrow
  have g3 := (hfr3 177 (by decide) (by decide) (by decide)).trans g177
  have hB3 := sMB_f hB2 (f' := f3) (hfr3 177 (by decide) (by decide) (by decide))
  have hfb : ∀ q, q ≠ 177 → q ≠ 192 → q ≠ 193 → q ≠ 194 → f3 q = f q := fun q b0 b1 b2 b3 => (hfr3 q b1 b2 b3).trans (hfa q b0)
  have hml : sML ax ay af 0 e.2.2 := sML_of hrow3 fun d hd => (t3 d hd).2
  have hKM3 : sKM f3 K e.1 (G e.1) := sKM_f hKe (fun q _ _ => hfb q (by omega) (by omega) (by omega) (by omega))
  refine x_aload_n rfl m0 ?_
  refine x_aload_n rfl m0 ?_
  refine x_getfield rfl (by decide) g3 (sget_ne (by decide) (sget_ne (by decide) a4)) ?_
  refine x_aload_n rfl m0 ?_
  refine x_getfield rfl (by decide) g3 (sget_ne (by decide) (sget_ne (by decide) h31)) ?_
  refine x_iconst rfl ?_
  refine x_isub rfl ?_
  rw [show ((S.2.1.length : Nat) : Int) - 1 = (m : Nat) from by omega]
  refine x_iaload rfl (by decide) ((hfb 195 (by decide) (by decide) (by decide) (by decide)).trans j195) ⟨by omega, by omega⟩ (by omega) ?_
  rw [Int.toNat_natCast, t1]
  refine x_aload_n rfl m0 ?_
  refine x_getfield rfl (by decide) g3 (sget_ne (by decide) (sget_ne (by decide) a5)) ?_
  refine x_aload_n rfl m0 ?_
  refine x_getfield rfl (by decide) g3 (sget_ne (by decide) (sget_ne (by decide) h31)) ?_
  refine x_iconst rfl ?_
  refine x_isub rfl ?_
  rw [show ((S.2.1.length : Nat) : Int) - 1 = (m : Nat) from by omega]
  refine x_baload rfl (by decide) ((hfb 196 (by decide) (by decide) (by decide) (by decide)).trans j196) ⟨by omega, by omega⟩ (by omega) ?_
  rw [Int.toNat_natCast, t2]
  refine x_call [_, _, _] rfl rfl (show (0 : Nat) ≤ 8 from by decide) (show (3 : Nat) ≤ 10 from by decide) (x_rcv (by decide) g3) (xs_122 hKM3 (hG e.1 hcm) hB3.1 hmc3 hml) ?_
  intro r' f4 hP
  obtain ⟨rfl, ⟨fs4, hm4, hk4, -⟩, ⟨bx, bY, bf, hmc4, hgood⟩, hfr4⟩ := hP
  refine x_istore_n rfl (show (3 : Nat) < 4 from by decide) ?_
  have hB4 := sMB_k hB3 hm4 hk4
  have hrb := (hgood hcs) b.toNat (by omega)
  rw [show ((b.toNat : Nat) : Int) = b from by omega] at hrb
  obtain ⟨k, rfl⟩ : ∃ k : Nat, d = (k : Int) := ⟨d.toNat, by omega⟩
  obtain ⟨⟨z1, z2, -⟩, -⟩ := hrb.2.2 k (by omega)
  obtain ⟨-, -, -, w25, w26, -⟩ := id hB4.1
  have w177 := hB4.1.1
  obtain ⟨v1, v2, v3, v4, v5, v6⟩ := id hmc4
  have hfc : ∀ q, q ≠ 177 → q ≠ 192 → q ≠ 193 → q ≠ 194 → f4 q = f q := fun q b0 b1 b2 b3 => (hfr4 q b0 b1 b2 b3).trans (hfb q b0 b1 b2 b3)
  refine x_bipush rfl (by decide) ?_
  refine x_aload_n rfl (xst_ne (by decide) m0 (Or.inl rfl)) ?_
  refine x_getfield rfl (by decide) w177 w26 ?_
  refine x_bipush rfl (by decide) ?_
  refine x_iload_n rfl (xst_ne (by decide) m1 (Or.inl rfl)) ?_
  refine x_imul rfl ?_
  refine x_iload_n rfl (xst_ne (by decide) m2 (Or.inl rfl)) ?_
  refine x_iadd rfl ?_
  refine x_iaload rfl (by decide) v2 ⟨by omega, by omega⟩ (by omega) ?_
  rw [z2]
  refine x_imul rfl ?_
  refine x_aload_n rfl (xst_ne (by decide) m0 (Or.inl rfl)) ?_
  refine x_getfield rfl (by decide) w177 w25 ?_
  refine x_bipush rfl (by decide) ?_
  refine x_iload_n rfl (xst_ne (by decide) m1 (Or.inl rfl)) ?_
  refine x_imul rfl ?_
  refine x_iload_n rfl (xst_ne (by decide) m2 (Or.inl rfl)) ?_
  refine x_iadd rfl ?_
  refine x_iaload rfl (by decide) v1 ⟨by omega, by omega⟩ (by omega) ?_
  rw [z1]
  refine x_iadd rfl ?_
  have e9 : sSD K G S b (k : Nat) = (0, srow (sbt K (G e.1)) e.2.1 e.2.2 b.toNat k / 4, S) := by unfold sSD; rw [if_pos h8, hlast, if_neg (by omega), Int.toNat_natCast]
  rw [e9, s_spot]
  exact x_ireturn rfl (Or.inl rfl) ⟨_, _, rfl, rfl, rfl, ⟨_, w177, (hk4 0 (by decide) (by decide)).trans (sget_eq (by rw [slen hfl]; decide))⟩, ⟨⟨_, hB4⟩, sMX_f hX (fun q _ _ => hfc q (by omega) (by omega) (by omega) (by omega)), sMJ_f hJ (fun q _ _ => hfc q (by omega) (by omega) (by omega) (by omega)), bx, bY, bf, hmc4⟩, fun q b1 b2 => hfc q b1 (by omega) (by omega) (by omega)⟩
