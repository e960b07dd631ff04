/-! Which words stay true while the tables warm. -/
def zgb (w : Jvm.Cond) : Bool := goodWord w || (match w with
  | .fieldLinkNest .. => true
  | .methodLinkNest .. => true
  | .declares _ => true
  | .castable .. => true
  | .arrayOver (.object _) => true
  | _ => false)
theorem zgb_spec {w : Jvm.Cond} (h : zgb w = true) : zgw w := by
  intro a a' s U hW hb
  unfold zgb at h
  rw [Bool.or_eq_true] at h
  rcases h with h | h
  · exact word_at hW (good_of_word h) hb
  · split at h
    · exact va_Nw.use rfl (va_Nw.warmF hW (va_Nw.of rfl hb))
    · exact va_Nw.use rfl (va_Nw.warmM hW (va_Nw.of rfl hb))
    · exact va_Nw.use rfl (va_Nw.warmD hW (va_Nw.of rfl hb))
    · rename_i x y
      obtain ⟨c1, c2, h1, h2, h3⟩ := Jvm.Cond.castable_spec hb
      have e1 : U.vm.findClass x = some c1 := by rw [hW.alike.findClass]; exact h1
      have e2 : U.vm.findClass y = some c2 := by rw [hW.alike.findClass]; exact h2
      have e3 : U.vm.assignable c1 c2 = true := by rw [hW.alike.assignable]; exact h3
      simp [Jvm.Cond.before, Jvm.Cond.holds, Jvm.Cond.value, e1, e2, e3]
    · exact va_AO.use (va_AO.moved hW.alike (va_AO.of hb))
    · cases h
