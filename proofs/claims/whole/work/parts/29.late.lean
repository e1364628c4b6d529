/-! late, allLate, lot, fair, count: the class -/
def prd (f : Nat → Nat) : Nat → Nat
  | 0 => 1
  | k + 1 => prd f k * f k
theorem prd_le {f : Nat → Nat} {m : Nat} : ∀ k, (∀ p, p < k → f p ≤ m) → prd f k ≤ m ^ k
  | 0, _ => by simp [prd]
  | k + 1, h => by
    have ih := prd_le (f := f) (m := m) k (fun p hp => h p (by omega))
    unfold prd
    rw [Nat.pow_succ]
    exact Nat.mul_le_mul ih (h k (by omega))
theorem prd_pos {f : Nat → Nat} : ∀ k, (∀ p, p < k → 0 < f p) → 0 < prd f k
  | 0, _ => by simp [prd]
  | k + 1, h => by
    have ih := prd_pos (f := f) k (fun p hp => h p (by omega))
    unfold prd
    exact Nat.mul_pos ih (h k (by omega))
def f_part (a : Int) (b : Nat) (y : Int) : Int := if y = 0 then ltA a b else ltB a b
def f_late (A : aN) (z y : Int) : Int := if (0 ≤ z ∧ z ≤ 6) ∧ 0 ≤ y ∧ y ≤ 1 then f_part ((A 9 z.toNat + 1 : Nat) : Int) (A 8 z.toNat + 2) y else -9223372036854775806
def f_allLate (A : aN) (y : Int) : Int := if 0 ≤ y ∧ y ≤ 1 then f_part ((prd (fun p => A 9 p + 1) (cnt A) : Nat) : Int) (prd (fun p => A 8 p + 2) (cnt A)) y else -9223372036854775806
/-- seats by lot -/
def hi16 (x : Int32) : Nat := x.toUInt32.toNat / 65536
def fs (m : Nat) : Nat → Nat → Nat → Nat
  | 0, _, _ => 0
  | k + 1, l, s => if bitk m s = true then fs m k l (s + 1) else if l = 0 then s else fs m k (l - 1) (s + 1)
def lS (s : Int32) : Nat → Int32
  | 0 => s
  | k + 1 => Int32.ofInt 1103515245 * lS s k + Int32.ofInt 12345
def lD (N : Nat) (s : Int32) (k : Nat) (m : Nat) : Nat := fs m 7 (hi16 (lS s (k + 1)) % (N - k)) 0
def lT (N : Nat) (s : Int32) : Nat → Nat
  | 0 => 0
  | k + 1 => lT N s k ||| 2 ^ lD N s k (lT N s k)
def f_lot (A : aN) (s : Int32) (z : Int) : Int := if 0 ≤ z ∧ z < cnt A then (lD (cnt A) s z.toNat (lT (cnt A) s z.toNat) : Int) else -2
theorem bitv : ∀ k : Nat, k < 128 → ∀ p : Nat, p < 7 → (Int32.ofInt (k : Int) >>> (Int32.ofInt (p : Int) &&& 31)) &&& Int32.ofInt 1 = Int32.ofInt (if bitk k p = true then 1 else 0) := by decide +kernel
theorem orv : ∀ k : Nat, k < 128 → ∀ p : Nat, p < 7 → Int32.ofInt (k : Int) ||| (Int32.ofInt 1 <<< (Int32.ofInt (p : Int) &&& 31)) = Int32.ofInt ((k ||| 2 ^ p : Nat) : Int) ∧ k ||| 2 ^ p < 128 := by decide +kernel
theorem hi16_eq (x : Int32) : (x.toUInt32 >>> ((Int32.ofInt 16).toUInt32 &&& Int32.toUInt32 31)).toInt32 = Int32.ofInt (hi16 x : Int) ∧ hi16 x < 65536 := by
  have h1 : x.toUInt32.toNat < 2 ^ 32 := x.toUInt32.toNat_lt
  have h2 : ((Int32.ofInt 16).toUInt32 &&& Int32.toUInt32 31) = 16 := by decide
  refine ⟨?_, by unfold hi16; omega⟩
  rw [h2]
  have h3 : (x.toUInt32 >>> 16).toNat = hi16 x := by
    rw [UInt32.toNat_shiftRight]
    unfold hi16
    rw [show ((16 : UInt32).toNat % 32) = 16 by decide, Nat.shiftRight_eq_div_pow]
  rw [← h3, zN]
  show _ = Int32.ofNat _
  rw [← UInt32.toInt32_ofNat', UInt32.ofNat_toNat]
theorem fs_lt {m : Nat} : ∀ (k l s : Nat), s + k = 7 → fs m k l s < 7
  | 0, _, _, _ => by simp [fs]
  | k + 1, l, s, h => by
    unfold fs
    split
    · exact fs_lt k l (s + 1) (by omega)
    · split
      · omega
      · exact fs_lt k (l - 1) (s + 1) (by omega)
theorem lT_lt {N : Nat} {s : Int32} : ∀ k, lT N s k < 128
  | 0 => by simp [lT]
  | k + 1 => by
    have ih := lT_lt (N := N) (s := s) k
    unfold lT
    exact (orv _ ih _ (fs_lt 7 _ 0 rfl)).2
/-- fair: what all orders give together -/
def sbs (wd N s : Nat) : Int := ((min (N - (s - s % wd)) wd : Nat) : Int) - 1
def frA (A : aN) (p : Nat) : Int := (max 1 (cnt A - 1) : Nat) * sumr (fun s => 20 - (A 3 3 : Int) * (((s : Int) - (wsh A p : Int)).natAbs : Int)) 0 (cnt A) + sumr (sbs (A 3 2) (cnt A)) 0 (cnt A) * sumr (fun o => (A (20 + p) o : Int)) 0 (cnt A)
def frB (A : aN) : Nat := cnt A * max 1 (cnt A - 1)
def f_fair (A : aN) (z y : Int) : Int := if (0 ≤ z ∧ z < cnt A) ∧ 0 ≤ y ∧ y ≤ 1 then f_part (frA A z.toNat) (frB A) y else -9223372036854775806
def f_count (A : aN) (z : Int) : Int := if z = 0 then (cnt A : Int) else if z = 1 then (A 0 0 : Int) else if z = 2 then (cnt A : Int) - ((SL A (A 3 1) (fun _ => true) (A 4)).length : Int) else if z = 3 then (prz (A 2) 60 : Int) else if z = 4 then (A 0 1 : Int) else if z = 5 then (A 0 2 : Int) else if z = 6 then ((((SL A (A 3 1) (fun _ => true) (A 4)).length + A 3 2 - 1) / A 3 2 : Nat) : Int) else if z = 7 then (A 3 0 : Int) else if z = 8 then (A 0 3 : Int) else -2
section LA
variable {n w3 : Nat} {g : Nat → Nat × Nat} {σ : Nat → Nat → Int32} {τ : Nat → Nat → Int64} {r1 r2 : Nat} {A : aN} {B : aZ}
set_option maxRecDepth 100000 in
theorem s_chance (d : Nat) (Q : am_Q) {p a : Nat} (hp : p < 7) (ha : σ 46 p = Int32.ofInt (a : Int)) (h : Q (some (.int (Int32.ofInt ((a + 1 : Nat) : Int)))) (lo_M n w3 g σ τ r1 r2)) : am_d (d + 1) 49 [.ref 44, .int (Int32.ofInt (p : Int))] 0 0 (lo_M n w3 g σ τ r1 r2) Q := by
  have e : Int32.ofInt ((a + 1 : Nat) : Int) = σ 46 p + Int32.ofInt 1 := by
    rw [ha, zadd]
    congr 1
  rw [e] at h
  refine am_goT T_X8_chanceAbove [.ref 44, .int (Int32.ofInt (p : Int))] rfl rfl (fun _ => false) 30 ?_
  exact ixi p 7 hp h
set_option maxRecDepth 100000 in
theorem s_chanceB (d : Nat) (Q : am_Q) {p a : Nat} (hp : p < 7) (ha : σ 45 p = Int32.ofInt (a : Int)) (h : Q (some (.int (Int32.ofInt ((a + 2 : Nat) : Int)))) (lo_M n w3 g σ τ r1 r2)) : am_d (d + 1) 50 [.ref 44, .int (Int32.ofInt (p : Int))] 0 0 (lo_M n w3 g σ τ r1 r2) Q := by
  have e : Int32.ofInt ((a + 2 : Nat) : Int) = σ 45 p + Int32.ofInt 2 := by
    rw [ha, zadd]
    congr 1
  rw [e] at h
  refine am_goT T_X8_chanceBelow [.ref 44, .int (Int32.ofInt (p : Int))] rfl rfl (fun _ => false) 30 ?_
  exact ixi p 7 hp h
/-- the two parts by y -/
theorem s_lowestP (d : Nat) (Q : am_Q) {M : am_M} {a : Int} {b : Nat} {y : Int} (hy : zr y) (h1 : -9223372036854775808 < a) (h2 : a < 9223372036854775808) (hb : 0 < b) (hb2 : b < 2 ^ 49) (h : Q (some (.long (Int64.ofInt (f_part a b y)))) M) : am_d (d + 2) 106 [.long (Int64.ofInt a), .long (Int64.ofInt (b : Int)), .int (Int32.ofInt y)] 0 0 M Q := by
  unfold f_part at h
  refine s_lowest d Q h1 h2 hb hb2 (fun c => ?_) (fun c => ?_)
  · rw [zeq0 hy] at c
    rw [if_pos c] at h
    exact h
  · rw [zeq0 hy] at c
    rw [if_neg c] at h
    exact h
set_option maxRecDepth 100000 in
theorem c_late (d : Nat) (Q : am_Q) {z y : Int} (hz : zr z) (hy : zr y) (hx : IX A B σ) (hwf : WF A B) (h : Q (some (.long (Int64.ofInt (f_late A z y)))) (lo_M n w3 g σ τ r1 r2)) : am_d (d + 3) 77 [.ref 4, .int (Int32.ofInt z), .int (Int32.ofInt y)] 0 0 (lo_M n w3 g σ τ r1 r2) Q := by
  have hu := hx.2.2.2.2.2.2.1.2
  have hw := hwf.2.2.2.2.2.2.2.2.2.2.1
  have h60 := hwf.2.2.2.2.2.2.2.2.2.1
  unfold f_late at h
  have bad : ¬ ((0 ≤ z ∧ z ≤ 6) ∧ 0 ≤ y ∧ y ≤ 1) → Q (some (.long (Int64.ofInt (-9223372036854775806)))) (lo_M n w3 g σ τ r1 r2) := by
    intro c
    rw [if_neg c] at h
    exact h
  refine am_goT T_X9_late [.ref 4, .int (Int32.ofInt z), .int (Int32.ofInt y)] rfl rfl (fun _ => false) 60 ?_
  refine s_isNumber d _ _ hz ?_
  by_cases c : 0 ≤ z ∧ z ≤ 6
  · rw [if_pos c]
    refine And.intro (fun q => absurd q (by decide)) (fun _ => ?_)
    refine s_withinZ (d + 1) hy (by unfold zr; omega) (by unfold zr; omega) _ _ ?_
    by_cases cy : 0 ≤ y ∧ y ≤ 1
    · rw [if_pos cy]
      refine And.intro (fun q => absurd q (by decide)) (fun _ => ?_)
      rw [if_pos ⟨c, cy⟩] at h
      have hw := hw z.toNat
      show am_d (d + 2) 49 [.ref 44, .int (Int32.ofInt z)] 0 0 _ _
      rw [show Int32.ofInt z = Int32.ofInt (z.toNat : Int) by congr 1; omega]
      refine s_chance (d + 1) _ (by omega) (hu z.toNat (by omega)).2 ?_
      refine s_chanceB (d + 1) _ (p := z.toNat) (by omega) (hu z.toNat (by omega)).1 ?_
      show am_d (d + 2) 106 [.long (Int32.ofInt ((A 9 z.toNat + 1 : Nat) : Int)).toInt64, .long (Int32.ofInt ((A 8 z.toNat + 2 : Nat) : Int)).toInt64, .int (Int32.ofInt y)] 0 0 _ _
      rw [yofz (by unfold zr; omega), yofz (by unfold zr; omega)]
      exact s_lowestP d _ hy (by omega) (by omega) (by omega) (by omega) h
    · rw [if_neg cy]
      exact And.intro (fun _ => bad (fun q => cy q.2)) (fun q => absurd rfl q)
  · rw [if_neg c]
    exact And.intro (fun _ => bad (fun q => c q.1)) (fun q => absurd rfl q)
set_option maxRecDepth 100000 in
theorem s_allLate_loop (d : Nat) (Q : am_Q) {y : Int} (hy : zr y) (hx : IX A B σ) (hwf : WF A B) (h : Q (some (.long (Int64.ofInt (f_part ((prd (fun p => A 9 p + 1) (cnt A) : Nat) : Int) (prd (fun p => A 8 p + 2) (cnt A)) y)))) (lo_M n w3 g σ τ r1 r2)) : ∀ (k p : Nat), p + k = cnt A →
    am_wp (am_d (d + 2)) T_X9_allLate Q (21, [.ref 4, .int (Int32.ofInt y), .long (Int64.ofInt ((prd (fun p => A 9 p + 1) p : Nat) : Int)), .null, .long (Int64.ofInt ((prd (fun p => A 8 p + 2) p : Nat) : Int)), .null, .int (Int32.ofInt (p : Int))], [], 0, 0) (lo_M n w3 g σ τ r1 r2) := by
  have hc := cnt_le A
  have hu := hx.2.2.2.2.2.2.1.2
  have hw := hwf.2.2.2.2.2.2.2.2.2.2.1
  have h60 := hwf.2.2.2.2.2.2.2.2.2.1
  intro k
  induction k with
  | zero =>
    intro p hp
    have hpe : p = cnt A := by omega
    subst hpe
    refine am_wp_go (am_d_cm _) (fun pc => Nat.beq pc 21) 60 ?_
    have b1 : prd (fun p => A 9 p + 1) (cnt A) ≤ 62 ^ cnt A := prd_le _ (fun p _ => by have := hw p; omega)
    have b2 : prd (fun p => A 8 p + 2) (cnt A) ≤ 62 ^ cnt A := prd_le _ (fun p _ => by have := hw p; omega)
    have b3 : 62 ^ cnt A ≤ 62 ^ 7 := Nat.pow_le_pow_right (by omega) hc
    have b4 : 0 < prd (fun p => A 8 p + 2) (cnt A) := prd_pos _ (fun p _ => by omega)
    refine And.intro (fun c1 => ?_) (fun c1 => absurd ?_ c1)
    · exact s_lowestP d _ hy (by omega) (by omega) b4 (by omega) h
    · show σ 5 4 ≤ _
      rw [hx.1.2.2.1, zle (by unfold zr; omega) (by unfold zr; omega)]
      omega
  | succ k ih =>
    intro p hp
    refine am_wp_go (am_d_cm _) (fun pc => Nat.beq pc 21) 60 ?_
    refine And.intro (fun c1 => ?_) (fun c1 => ?_)
    · have c1 : σ 5 4 ≤ Int32.ofInt (p : Int) := c1
      rw [hx.1.2.2.1, zle (by unfold zr; omega) (by unfold zr; omega)] at c1
      omega
    · have hw := hw p
      refine s_chance (d + 1) _ (by omega) (hu p (by omega)).2 ?_
      refine s_chanceB (d + 1) _ (by omega) (hu p (by omega)).1 ?_
      have ih := ih (p + 1) (by omega)
      have e1 : Int64.ofInt ((prd (fun p => A 9 p + 1) (p + 1) : Nat) : Int) = Int64.ofInt ((prd (fun p => A 9 p + 1) p : Nat) : Int) * (Int32.ofInt ((A 9 p + 1 : Nat) : Int)).toInt64 := by
        rw [yofz (by unfold zr; omega), ymul]
        congr 1
      have e2 : Int64.ofInt ((prd (fun p => A 8 p + 2) (p + 1) : Nat) : Int) = Int64.ofInt ((prd (fun p => A 8 p + 2) p : Nat) : Int) * (Int32.ofInt ((A 8 p + 2 : Nat) : Int)).toInt64 := by
        rw [yofz (by unfold zr; omega), ymul]
        congr 1
      rw [e1, e2, show (((p + 1 : Nat) : Int)) = (p : Int) + 1 by omega, ← zadd (p : Int)] at ih
      exact ih
set_option maxRecDepth 100000 in
theorem c_allLate (d : Nat) (Q : am_Q) {y : Int} (hy : zr y) (hx : IX A B σ) (hwf : WF A B) (h : Q (some (.long (Int64.ofInt (f_allLate A y)))) (lo_M n w3 g σ τ r1 r2)) : am_d (d + 3) 78 [.ref 4, .int (Int32.ofInt y)] 0 0 (lo_M n w3 g σ τ r1 r2) Q := by
  unfold f_allLate at h
  refine am_goT T_X9_allLate [.ref 4, .int (Int32.ofInt y), .null, .null, .null, .null, .null] rfl rfl (fun pc => Nat.beq pc 21) 60 ?_
  refine s_withinZ (d + 1) hy (by unfold zr; omega) (by unfold zr; omega) _ _ ?_
  by_cases cy : 0 ≤ y ∧ y ≤ 1
  · rw [if_pos cy]
    rw [if_pos cy] at h
    refine And.intro (fun q => absurd q (by decide)) (fun _ => ?_)
    exact s_allLate_loop d Q hy hx hwf h (cnt A) 0 (by omega)
  · rw [if_neg cy]
    rw [if_neg cy] at h
    exact And.intro (fun _ => h) (fun q => absurd rfl q)
end LA
