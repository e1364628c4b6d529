/-! numbers by the library's own methods -/
theorem zabs {a : Int} (h1 : -2147483648 < a) (h2 : a < 2147483648) : (if 0 ≤ Int32.ofInt a then Int32.ofInt a else 0 - Int32.ofInt a) = Int32.ofInt (a.natAbs : Int) := by
  split
  · next c1 =>
    rw [z0le ⟨by omega, h2⟩] at c1
    rw [show ((a.natAbs : Nat) : Int) = a by omega]
  · next c1 =>
    rw [z0le ⟨by omega, h2⟩] at c1
    rw [z0, zsub, show ((a.natAbs : Nat) : Int) = 0 - a by omega]
theorem zmax {a b : Int} (ha : zr a) (hb : zr b) : (if Int32.ofInt a < Int32.ofInt b then Int32.ofInt b else Int32.ofInt a) = Int32.ofInt (max a b) := by
  split
  · next c1 =>
    rw [zlt ha hb] at c1
    rw [show max a b = b by omega]
  · next c1 =>
    rw [zlt ha hb] at c1
    rw [show max a b = a by omega]
theorem zmin {a b : Int} (ha : zr a) (hb : zr b) : (if Int32.ofInt b < Int32.ofInt a then Int32.ofInt b else Int32.ofInt a) = Int32.ofInt (min a b) := by
  split
  · next c1 =>
    rw [zlt hb ha] at c1
    rw [show min a b = b by omega]
  · next c1 =>
    rw [zlt hb ha] at c1
    rw [show min a b = a by omega]
/-- the bits of small numbers -/
def pcn (k : Nat) : Nat := k % 2 + k / 2 % 2 + k / 4 % 2 + k / 8 % 2 + k / 16 % 2 + k / 32 % 2 + k / 64 % 2
def bcx (x : Int32) : Int32 :=
  let x := x - ((x.toUInt32 >>> ((Int32.ofInt 1).toUInt32 &&& Int32.toUInt32 31)).toInt32 &&& Int32.ofInt 1431655765)
  let x := (x &&& Int32.ofInt 858993459) + ((x.toUInt32 >>> ((Int32.ofInt 2).toUInt32 &&& Int32.toUInt32 31)).toInt32 &&& Int32.ofInt 858993459)
  let x := (x + (x.toUInt32 >>> ((Int32.ofInt 4).toUInt32 &&& Int32.toUInt32 31)).toInt32) &&& Int32.ofInt 252645135
  let x := x + (x.toUInt32 >>> ((Int32.ofInt 8).toUInt32 &&& Int32.toUInt32 31)).toInt32
  let x := x + (x.toUInt32 >>> ((Int32.ofInt 16).toUInt32 &&& Int32.toUInt32 31)).toInt32
  x &&& Int32.ofInt 63
theorem bcx_eq : ∀ k : Nat, k < 128 → bcx (Int32.ofInt (k : Int)) = Int32.ofInt (pcn k : Int) := by decide +kernel
set_option maxRecDepth 100000 in
theorem s_bitCount (d : Nat) {k : Nat} (hk : k < 128) (M : am_M) (Q : am_Q) (h : Q (some (.int (Int32.ofInt (pcn k : Int)))) M) : am_d (d + 1) 195 [.int (Int32.ofInt (k : Int))] 0 0 M Q := by
  rw [← bcx_eq k hk] at h
  refine am_goT T_J6_bitCount_0f7a4 [.int (Int32.ofInt (k : Int))] rfl rfl (fun _ => false) 60 ?_
  exact h
/-! Rules -/
section RU
variable {n w3 : Nat} {g : Nat → Nat × Nat} {σ : Nat → Nat → Int32} {τ : Nat → Nat → Int64} {r1 r2 : Nat}
set_option maxRecDepth 100000 in
theorem s_seatWorth (d : Nat) (Q : am_Q) {seat wish care : Int} (hc : σ 12 3 = Int32.ofInt care) (h1 : -1000 ≤ seat - wish) (h2 : seat - wish ≤ 1000) (h : Q (some (.int (Int32.ofInt (20 - care * ((seat - wish).natAbs : Int))))) (lo_M n w3 g σ τ r1 r2)) : am_d (d + 1) 38 [.ref 11, .int (Int32.ofInt seat), .int (Int32.ofInt wish)] 0 0 (lo_M n w3 g σ τ r1 r2) Q := by
  rw [← zsub, ← zmul, ← hc, ← zabs (by omega) (by omega), ← zsub seat] at h
  refine am_goT T_X6_seatWorth [.ref 11, .int (Int32.ofInt seat), .int (Int32.ofInt wish)] rfl rfl (fun _ => false) 30 ?_
  refine ixi 3 6 (by omega) ?_
  exact h
set_option maxRecDepth 100000 in
theorem s_wide (d : Nat) (Q : am_Q) {wd : Int} (hc : σ 12 2 = Int32.ofInt wd) (h1 : 1 ≤ wd) (h2 : wd ≤ 4) (h : Q (some (.int (Int32.ofInt wd))) (lo_M n w3 g σ τ r1 r2)) : am_d (d + 1) 39 [.ref 11] 0 0 (lo_M n w3 g σ τ r1 r2) Q := by
  have e : (if Int32.ofInt 1 < σ 12 2 then σ 12 2 else Int32.ofInt 1) = Int32.ofInt wd := by rw [hc, zmax (by unfold zr; omega) (by unfold zr; omega), show max 1 wd = wd by omega]
  rw [← e] at h
  refine am_goT T_X6_wide [.ref 11] rfl rfl (fun _ => false) 30 ?_
  refine ixi 2 6 (by omega) ?_
  exact h
end RU
