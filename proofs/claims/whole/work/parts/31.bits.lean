/-! rows of choices: digits of a row -/
def chc (L sh row : Nat) : Nat := row / 2 ^ sh % (L + 1)
def ins (L sh row c : Nat) : Nat := row - row / 2 ^ sh % (L + 1) * 2 ^ sh + c * 2 ^ sh
theorem insR0 : ∀ s : Nat, s < 6 → ∀ c : Nat, c < 4 → ∀ a : Nat, a < 64 → ∀ b : Nat, b < 64 → (Int32.ofInt ((64 * a + b : Nat) : Int) &&& ((Int32.ofInt 3 <<< (Int32.ofInt ((2 * s : Nat) : Int) &&& 31)) ^^^ Int32.ofInt (-1))) ||| (Int32.ofInt (c : Int) <<< (Int32.ofInt ((2 * s : Nat) : Int) &&& 31)) = Int32.ofInt (ins 3 (2 * s) (64 * a + b) c : Int) := by decide +kernel
