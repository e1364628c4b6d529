/-! Orders: the class -/
theorem andz (a b : Nat) : Int32.ofInt (a : Int) &&& Int32.ofInt (b : Int) = Int32.ofInt ((a &&& b : Nat) : Int) := by
  rw [zN, zN, zN]
  apply Int32.toBitVec_inj.1
  show BitVec.ofNat 32 a &&& BitVec.ofNat 32 b = BitVec.ofNat 32 (a &&& b)
  apply BitVec.eq_of_getLsbD_eq
  intro i hi
  simp [hi]
theorem sh1 : ∀ p : Nat, p < 7 → Int32.ofInt 1 <<< (Int32.ofInt (p : Int) &&& 31) = Int32.ofInt ((2 ^ p : Nat) : Int) := by decide +kernel
theorem andn : ∀ a : Nat, a < 128 → ∀ c : Nat, c < 128 → (Int32.ofInt (a : Int) &&& (Int32.ofInt (c : Int) ^^^ Int32.ofInt (-1))) = Int32.ofInt ((a &&& (127 - c) : Nat) : Int) := by decide +kernel
theorem and_le (a b : Nat) : a &&& b ≤ a := Nat.and_le_left
theorem pcn_le (c : Nat) : pcn c ≤ 7 := by
  unfold pcn
  omega
theorem or2 : ∀ c : Nat, c < 128 → ∀ p : Nat, p < 7 → c ||| 2 ^ p < 128 ∧ (bitk c p = false → c ||| 2 ^ p = c + 2 ^ p ∧ pcn (c ||| 2 ^ p) = pcn c + 1) := by decide +kernel
theorem or3 : ∀ n : Nat, n < 8 → ∀ c : Nat, c < 128 → ∀ p : Nat, p < n → c < 2 ^ n → c ||| 2 ^ p < 2 ^ n := by decide +kernel
theorem bitv7 : ∀ k : Nat, k < 128 → ∀ p : Nat, p < 8 → (Int32.ofInt (k : Int) >>> (Int32.ofInt (p : Int) &&& 31)) &&& Int32.ofInt 1 = Int32.ofInt (if bitk k p = true then 1 else 0) := by decide +kernel
