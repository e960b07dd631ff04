/-! Masks of eight bits, as the machine has them. -/
theorem smk_all : ∀ m, m < 256 → smk (fun d => sbit ((m : Nat) : Int) d) 8 = ((m : Nat) : Int) := by decide +kernel
theorem smk_ext {m : Int} {P : Nat → Bool} (h : 0 ≤ m ∧ m < 256) (hb : ∀ d, d < 8 → sbit m d = P d) : m = smk P 8 := by
  obtain ⟨n, rfl⟩ := Int.eq_ofNat_of_zero_le h.1
  rw [← smk_all n (by omega)]
  exact smk_congr 8 hb
theorem sbit_nat (n d : Nat) : sbit (n : Nat) d = n.testBit d := by
  unfold sbit
  rw [Nat.testBit_eq_decide_div_mod_eq, Bool.eq_iff_iff]
  simp only [beq_iff_eq, decide_eq_true_eq]
  omega
theorem sm_and0 (a b : Nat) : (Int32.ofInt ((a : Nat) : Int) &&& Int32.ofInt ((b : Nat) : Int)) = Int32.ofInt ((a &&& b : Nat) : Int) := by
  apply Int32.toBitVec_inj.mp
  simp [Int32.toBitVec_and]
theorem sm_xor0 (a b : Nat) : (Int32.ofInt ((a : Nat) : Int) ^^^ Int32.ofInt ((b : Nat) : Int)) = Int32.ofInt ((a ^^^ b : Nat) : Int) := by
  apply Int32.toBitVec_inj.mp
  simp [Int32.toBitVec_xor]
theorem sm_or0 (a b : Nat) : (Int32.ofInt ((a : Nat) : Int) ||| Int32.ofInt ((b : Nat) : Int)) = Int32.ofInt ((a ||| b : Nat) : Int) := by
  apply Int32.toBitVec_inj.mp
  simp [Int32.toBitVec_or]
theorem sm_nat (P : Nat → Bool) : ∃ n : Nat, smk P 8 = (n : Int) ∧ n < 256 := by
  have := smk_rg P 8
  obtain ⟨n, hn⟩ := Int.eq_ofNat_of_zero_le this.1
  refine ⟨n, hn, ?_⟩
  rw [hn] at this
  have h2 : ((2 ^ 8 : Nat) : Int) = 256 := rfl
  omega
theorem sm_toInt {n : Nat} (h : n < 256) : (Int32.ofInt ((n : Nat) : Int)).toInt = ((n : Nat) : Int) := Int32.toInt_ofInt_of_le (by omega) (by omega)
theorem sm_and (P Q : Nat → Bool) : (Int32.ofInt (smk P 8) &&& Int32.ofInt (smk Q 8)) = Int32.ofInt (smk (fun d => P d && Q d) 8) := by
  obtain ⟨a, ha, ha2⟩ := sm_nat P
  obtain ⟨b, hb, hb2⟩ := sm_nat Q
  rw [ha, hb, sm_and0]
  congr 1
  refine smk_ext ⟨by omega, ?_⟩ (fun d hd => ?_)
  · have : a &&& b ≤ a := Nat.and_le_left
    omega
  · rw [sbit_nat, Nat.testBit_and, ← sbit_nat, ← sbit_nat, ← ha, ← hb, sbit_mk P 8 d hd, sbit_mk Q 8 d hd]
theorem sm_xor (P Q : Nat → Bool) : (Int32.ofInt (smk P 8) ^^^ Int32.ofInt (smk Q 8)) = Int32.ofInt (smk (fun d => P d != Q d) 8) := by
  obtain ⟨a, ha, ha2⟩ := sm_nat P
  obtain ⟨b, hb, hb2⟩ := sm_nat Q
  rw [ha, hb, sm_xor0]
  congr 1
  refine smk_ext ⟨by omega, ?_⟩ (fun d hd => ?_)
  · have : a ^^^ b < 2 ^ 8 := Nat.xor_lt_two_pow ha2 hb2
    have h2 : (2 ^ 8 : Nat) = 256 := rfl
    omega
  · rw [sbit_nat, Nat.testBit_xor, ← sbit_nat, ← sbit_nat, ← ha, ← hb, sbit_mk P 8 d hd, sbit_mk Q 8 d hd]
theorem sm_orbit0 : ∀ k, k < 8 → ∀ a, a < 2 ^ k → (Int32.ofInt ((a : Nat) : Int) ||| (Int32.ofInt 1 <<< (Int32.ofInt ((k : Nat) : Int) &&& 31))) = Int32.ofInt ((a + 2 ^ k : Nat) : Int) := by decide +kernel
/-- one bit more -/
theorem sm_orbit (P : Nat → Bool) {k : Nat} (hk : k < 8) : (Int32.ofInt (smk P k) ||| (Int32.ofInt 1 <<< (Int32.ofInt ((k : Nat) : Int) &&& 31))) = Int32.ofInt (smk P k + ((2 ^ k : Nat) : Int)) := by
  have hr := smk_rg P k
  obtain ⟨a, ha⟩ := Int.eq_ofNat_of_zero_le hr.1
  rw [ha] at hr ⊢
  rw [sm_orbit0 k hk a (by omega)]
  rfl
theorem sm_bit0 : ∀ m, m < 256 → ∀ d, d < 8 → ((Int32.ofInt ((m : Nat) : Int) >>> (Int32.ofInt ((d : Nat) : Int) &&& 31)) &&& Int32.ofInt 1) = Int32.ofInt (if sbit ((m : Nat) : Int) d = true then 1 else 0) := by decide +kernel
theorem sm_bit (P : Nat → Bool) {d : Nat} (hd : d < 8) : ((Int32.ofInt (smk P 8) >>> (Int32.ofInt ((d : Nat) : Int) &&& 31)) &&& Int32.ofInt 1) = Int32.ofInt (if P d = true then 1 else 0) := by
  obtain ⟨a, ha, ha2⟩ := sm_nat P
  have h := sm_bit0 a ha2 d hd
  rw [← ha, sbit_mk P 8 d hd] at h
  exact h
theorem sm_not0 : ∀ a, a < 256 → ∀ b, b < 256 → ((Int32.ofInt ((a : Nat) : Int)) &&& (Int32.ofInt ((b : Nat) : Int) ^^^ Int32.ofInt (-1))) = Int32.ofInt ((a ^^^ (a &&& b) : Nat) : Int) := by
  intro a ha b hb
  apply Int32.toBitVec_inj.mp
  apply BitVec.eq_of_getLsbD_eq
  intro i hi
  have e : (Int32.ofInt (-1)).toBitVec = BitVec.allOnes 32 := by decide
  rw [Int32.toBitVec_and, Int32.toBitVec_xor, e]
  simp only [BitVec.getLsbD_and, BitVec.getLsbD_xor, Int32.toBitVec_ofInt, BitVec.ofInt_natCast, BitVec.getLsbD_ofNat, BitVec.getLsbD_allOnes, Nat.testBit_xor, Nat.testBit_and, hi, decide_true, Bool.true_and]
  cases a.testBit i <;> cases b.testBit i <;> rfl
/-- the model's way to strike out -/
theorem sm_not (P Q : Nat → Bool) : (Int32.ofInt (smk P 8) &&& (Int32.ofInt (smk Q 8) ^^^ Int32.ofInt (-1))) = Int32.ofInt (smk (fun d => P d && !Q d) 8) := by
  obtain ⟨a, ha, ha2⟩ := sm_nat P
  obtain ⟨b, hb, hb2⟩ := sm_nat Q
  rw [ha, hb, sm_not0 a ha2 b hb2]
  congr 1
  refine smk_ext ⟨by omega, ?_⟩ (fun d hd => ?_)
  · have : a ^^^ (a &&& b) < 2 ^ 8 := Nat.xor_lt_two_pow ha2 (Nat.lt_of_le_of_lt Nat.and_le_left ha2)
    have h2 : (2 ^ 8 : Nat) = 256 := rfl
    omega
  · rw [sbit_nat, Nat.testBit_xor, Nat.testBit_and, ← sbit_nat, ← sbit_nat, ← ha, ← hb, sbit_mk P 8 d hd, sbit_mk Q 8 d hd]
    cases P d <;> cases Q d <;> rfl
/-- the model's alone: one dancer struck out of the mask -/
theorem sm_strike0 : ∀ a, a < 256 → ∀ k, k < 8 → (Int32.ofInt ((a : Nat) : Int) &&& ((Int32.ofInt 1 <<< (Int32.ofInt ((k : Nat) : Int) &&& 31)) ^^^ Int32.ofInt (-1))) = Int32.ofInt (smk (fun d => sbit ((a : Nat) : Int) d && !(d == k)) 8) := by decide +kernel
theorem sm_strike (P : Nat → Bool) {k : Nat} (hk : k < 8) : (Int32.ofInt (smk P 8) &&& ((Int32.ofInt 1 <<< (Int32.ofInt ((k : Nat) : Int) &&& 31)) ^^^ Int32.ofInt (-1))) = Int32.ofInt (smk (fun d => P d && !(d == k)) 8) := by
  obtain ⟨a, ha, ha2⟩ := sm_nat P
  have h := sm_strike0 a ha2 k hk
  rw [← ha] at h
  rw [h]
  congr 1
  exact smk_congr 8 fun d hd => by rw [sbit_mk P 8 d hd]
theorem sm_255 : smk (fun _ => true) 8 = 255 := rfl
theorem sm_consts : smk (fun d => d % 2 == 0) 8 = 85 ∧ smk (fun d => d % 2 == 1) 8 = 170 ∧ smk (fun d => decide (d % 4 < 2)) 8 = 51 ∧ smk (fun d => decide (2 ≤ d % 4)) 8 = 204 := by decide
