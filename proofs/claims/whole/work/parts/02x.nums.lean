/-! ints as whole numbers -/
theorem zadd (a b : Int) : Int32.ofInt a + Int32.ofInt b = Int32.ofInt (a + b) := (Int32.ofInt_add a b).symm
theorem zsub (a b : Int) : Int32.ofInt a - Int32.ofInt b = Int32.ofInt (a - b) := (Int32.ofInt_sub a b).symm
theorem zmul (a b : Int) : Int32.ofInt a * Int32.ofInt b = Int32.ofInt (a * b) := (Int32.ofInt_mul a b).symm
theorem zneg (a : Int) : -Int32.ofInt a = Int32.ofInt (-a) := (Int32.ofInt_neg a).symm
theorem z0 : (0 : Int32) = Int32.ofInt 0 := rfl
theorem z1 : (1 : Int32) = Int32.ofInt 1 := rfl
/-- in the ints' range -/
def zr (a : Int) : Prop := -2147483648 ≤ a ∧ a < 2147483648
theorem zI_to {a : Int} (h : zr a) : (Int32.ofInt a).toInt = a := Int32.toInt_ofInt_of_le h.1 h.2
theorem zlt {a b : Int} (ha : zr a) (hb : zr b) : Int32.ofInt a < Int32.ofInt b ↔ a < b := by rw [Int32.lt_iff_toInt_lt, zI_to ha, zI_to hb]
theorem zle {a b : Int} (ha : zr a) (hb : zr b) : Int32.ofInt a ≤ Int32.ofInt b ↔ a ≤ b := by rw [Int32.le_iff_toInt_le, zI_to ha, zI_to hb]
theorem zeq {a b : Int} (ha : zr a) (hb : zr b) : Int32.ofInt a = Int32.ofInt b ↔ a = b := by rw [← Int32.toInt_inj, zI_to ha, zI_to hb]
theorem zlt0 {a : Int} (ha : zr a) : Int32.ofInt a < 0 ↔ a < 0 := zlt (b := 0) ha (by unfold zr; omega)
theorem zle0 {a : Int} (ha : zr a) : Int32.ofInt a ≤ 0 ↔ a ≤ 0 := zle (b := 0) ha (by unfold zr; omega)
theorem z0lt {a : Int} (ha : zr a) : 0 < Int32.ofInt a ↔ 0 < a := zlt (a := 0) (by unfold zr; omega) ha
theorem z0le {a : Int} (ha : zr a) : 0 ≤ Int32.ofInt a ↔ 0 ≤ a := zle (a := 0) (by unfold zr; omega) ha
theorem zeq0 {a : Int} (ha : zr a) : Int32.ofInt a = 0 ↔ a = 0 := zeq (b := 0) ha (by unfold zr; omega)
theorem zcl {x : Int32} {k : Nat} (h : x = Int32.ofInt (k : Int)) (hk : k < 2147483648) : x.toNatClampNeg = k := by
  rw [h, Int32.toNatClampNeg_ofInt_of_le (by omega) (by omega)]
  omega
theorem zin {x : Int32} {k N : Nat} (h : x = Int32.ofInt (k : Int)) (hk : k < N) (hN : k < 2147483648 := by omega) : vp_in x N := by
  intro q
  rw [zcl h hN] at q
  rcases q with q | q
  · rw [h, zlt0 (by unfold zr; omega)] at q
    omega
  · omega
/-- of an int, the number -/
theorem zof (x : Int32) : x = Int32.ofInt x.toInt := (Int32.ofInt_toInt x).symm
theorem zrof (x : Int32) : zr x.toInt := ⟨Int32.le_toInt x, Int32.toInt_lt x⟩
theorem zofN {x : Int32} (h : 0 ≤ x.toInt) : x = Int32.ofInt (x.toInt.toNat : Int) := by
  rw [Int.toNat_of_nonneg h]
  exact zof x
/-- an index, its number, its bound -/
theorem ixi {i : Int32} {f : Nat → Prop} (k N : Nat) (h2 : k < N) (h : f k) (h1 : i = Int32.ofInt (k : Int) := by first | rfl | assumption | (simp only [zadd, zsub, zmul]; congr 1; omega)) (h3 : N ≤ 2147483648 := by first | decide | omega) : ∃ k : Nat, i = Int32.ofInt (k : Int) ∧ (k < N ∧ k < 2147483648) ∧ f k := ⟨k, h1, ⟨h2, Nat.lt_of_lt_of_le h2 h3⟩, h⟩
