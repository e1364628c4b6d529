/-! digits of a row, what follows -/
theorem shm : ∀ n : Nat, n < 32 → ((nI n &&& 31).toBitVec.smod 32).toNat = n := by decide +kernel
theorem chcI {row sh L k : Nat} (h : row < 2147483648) (hs : sh < 32) (hL : L + 1 = 2 ^ k) (hL2 : (Int32.ofInt (L : Int)).toBitVec.toNat = L) : (Int32.ofInt (row : Int) >>> (Int32.ofInt (sh : Int) &&& 31)) &&& Int32.ofInt (L : Int) = Int32.ofInt (chc L sh row : Int) := by
  rw [zN, zN, zN, pk_shrN h _ sh (shm sh hs)]
  rw [zN] at hL2
  have hd : row / 2 ^ sh ≤ row := Nat.div_le_self _ _
  rw [pk_andN (by omega) k (by rw [hL2]; omega)]
  unfold chc
  rw [hL, zN]
theorem insR {row s c : Nat} (h : row < 4096) (hs : s < 6) (hc : c < 4) : (Int32.ofInt (row : Int) &&& ((Int32.ofInt 3 <<< (Int32.ofInt ((2 * s : Nat) : Int) &&& 31)) ^^^ Int32.ofInt (-1))) ||| (Int32.ofInt (c : Int) <<< (Int32.ofInt ((2 * s : Nat) : Int) &&& 31)) = Int32.ofInt (ins 3 (2 * s) row c : Int) := by
  have := insR0 s hs c hc (row / 64) (by omega) (row % 64) (by omega)
  rw [show 64 * (row / 64) + row % 64 = row by omega] at this
  exact this
theorem insC : ∀ row : Nat, row < 128 → ∀ s : Nat, s < 7 → ∀ c : Nat, c < 2 → (Int32.ofInt (row : Int) &&& ((Int32.ofInt 1 <<< (Int32.ofInt (s : Int) &&& 31)) ^^^ Int32.ofInt (-1))) ||| (Int32.ofInt (c : Int) <<< (Int32.ofInt (s : Int) &&& 31)) = Int32.ofInt (ins 1 s row c : Int) := by decide +kernel
theorem ins_lt0 {P M K row c : Nat} (hP : 0 < P) (hM : 0 < M) (hc : c < M) (h : row < P * M * K) : row - row / P % M * P + c * P < P * M * K := by
  have q1 : row / P < M * K := Nat.div_lt_of_lt_mul (by rw [← Nat.mul_assoc]; exact h)
  have q2 : row / P / M < K := Nat.div_lt_of_lt_mul q1
  have e1 := Nat.div_add_mod (row / P) M
  have e2 := Nat.div_add_mod row P
  have l2 := Nat.mod_lt row hP
  have e3 : P * (row / P) = P * M * (row / P / M) + row / P % M * P := by
    conv => lhs; rw [← e1]
    rw [Nat.mul_add, Nat.mul_assoc, Nat.mul_comm P (row / P % M)]
  have l3 : P * M * (row / P / M) + P * M ≤ P * M * K := by
    rw [← Nat.mul_succ]
    exact Nat.mul_le_mul_left _ q2
  have l4 : c * P + P ≤ P * M := by
    rw [← Nat.succ_mul, Nat.mul_comm P M]
    exact Nat.mul_le_mul_right _ hc
  omega
theorem insR_lt {n s row c : Nat} (hs : s < n) (hc : c < 4) (h : row < 4 ^ n) : ins 3 (2 * s) row c < 4 ^ n := by
  have e : 4 ^ n = 2 ^ (2 * s) * 4 * 4 ^ (n - 1 - s) := by
    rw [Nat.pow_mul, show (2 : Nat) ^ 2 = 4 by decide, ← Nat.pow_succ, ← Nat.pow_add]
    congr 1
    omega
  rw [e] at h ⊢
  exact ins_lt0 (Nat.pow_pos (by omega)) (by omega) hc h
theorem insC_lt {n s row c : Nat} (hs : s < n) (hc : c < 2) (h : row < 2 ^ n) : ins 1 s row c < 2 ^ n := by
  have e : 2 ^ n = 2 ^ s * 2 * 2 ^ (n - 1 - s) := by
    rw [← Nat.pow_succ, ← Nat.pow_add]
    congr 1
    omega
  rw [e] at h ⊢
  exact ins_lt0 (Nat.pow_pos (by omega)) (by omega) hc h
theorem dig {row s t : Nat} (hs : s < t) (hn : chc 3 (2 * s) row ≠ 0) : chc 3 (2 * t) row = chc 3 (2 * t) (row - 1) := by
  have hP : 0 < 2 ^ (2 * t) := Nat.pow_pos (by omega)
  have hm : row % 2 ^ (2 * t) ≠ 0 := by
    intro e
    obtain ⟨q, hq⟩ := Nat.dvd_of_mod_eq_zero e
    apply hn
    have e2 : row = 2 ^ (2 * s) * (4 * (4 ^ (t - s - 1) * q)) := by
      rw [hq, show 2 * t = 2 * s + 2 * (t - s - 1) + 2 by omega, Nat.pow_add, Nat.pow_add, Nat.pow_mul 2 2 (t - s - 1), show (2 : Nat) ^ 2 = 4 by decide]
      rw [Nat.mul_assoc (2 ^ (2 * s)), Nat.mul_assoc (2 ^ (2 * s)), Nat.mul_comm (4 ^ (t - s - 1)) 4, Nat.mul_assoc 4]
    unfold chc
    rw [e2, Nat.mul_div_cancel_left _ (Nat.pow_pos (by omega))]
    exact Nat.mul_mod_right 4 _
  unfold chc
  congr 1
  have e1 := Nat.div_add_mod row (2 ^ (2 * t))
  have l1 := Nat.mod_lt row hP
  refine (Nat.div_eq_of_lt_le ?_ ?_).symm
  · rw [Nat.mul_comm]
    omega
  · rw [Nat.succ_mul, Nat.mul_comm]
    omega
/-! a row that is not made with the object: its kind and size are known by a premise -/
theorem wai {M : am_M} {r W : Nat} {i : Int32} {f : Nat → Prop} (hk : M.2.1 r = (0, W)) (k : Nat) (h2 : k < W) (h1 : i = Int32.ofInt (k : Int)) (h3 : W ≤ 2147483648) (h : f k) : am_on (am_ia M r) (am_ix i (M.2.1 r).2 f) := by
  have e : am_ia M r = true := by
    unfold am_ia
    rw [hk]
    rfl
  rw [e, hk]
  exact ⟨k, h1, ⟨h2, Nat.lt_of_lt_of_le h2 h3⟩, h⟩
theorem wao {M : am_M} {r W : Nat} {i : Int32} {f : Nat → Prop} (hk : M.2.1 r = (0, W)) (k : Nat) (h2 : k < W) (h1 : i = Int32.ofInt (k : Int)) (h3 : W ≤ 2147483648) (h : f k) : am_on (am_ob M r 0) (am_ix i (M.2.1 r).2 f) := by
  have e : am_ob M r 0 = true := by
    unfold am_ob
    rw [hk]
    rfl
  rw [e, hk]
  exact ⟨k, h1, ⟨h2, Nat.lt_of_lt_of_le h2 h3⟩, h⟩
theorem wal {M : am_M} {r W : Nat} {P : Prop} (hk : M.2.1 r = (0, W)) (h : P) : am_on (am_ia M r) P := by
  have e : am_ia M r = true := by
    unfold am_ia
    rw [hk]
    rfl
  rw [e]
  exact h
/-! which rows nobody would leave -/
def wlv (W : Nat → Nat → Int) (L sh row p : Nat) : Nat → Nat → Bool
  | 0, _ => false
  | k + 1, c => if W row p < W (ins L sh row c) p then true else wlv W L sh row p k (c + 1)
def ist (W : Nat → Nat → Int) (L : Nat) (sf : Nat → Nat) (row : Nat) : Nat → Nat → Bool
  | 0, _ => true
  | k + 1, p => if wlv W L (sf p) row p (L + 1) 0 = true then false else ist W L sf row k (p + 1)
def stl (s : Nat → Bool) : Nat → Nat → Nat × Int → Nat × Int
  | 0, _, x => x
  | k + 1, row, x => stl s k (row + 1) (if s row = true then (x.1 + 1, if x.1 = 0 then (row : Int) else x.2) else x)
theorem stl_le {s : Nat → Bool} : ∀ (k row : Nat) (x : Nat × Int), -1 ≤ x.2 ∧ x.2 ≤ row → x.1 ≤ row → (stl s k row x).1 ≤ row + k ∧ -1 ≤ (stl s k row x).2 ∧ (stl s k row x).2 ≤ row + k
  | 0, row, x, h, h2 => by
    unfold stl
    omega
  | k + 1, row, x, h, h2 => by
    unfold stl
    split
    · have := stl_le (s := s) k (row + 1) (x.1 + 1, if x.1 = 0 then (row : Int) else x.2) (by dsimp only; split <;> omega) (by dsimp only; omega)
      omega
    · have := stl_le (s := s) k (row + 1) x (by omega) (by omega)
      omega
theorem ixrow (row n p : Nat) : Int32.ofInt (row : Int) * Int32.ofInt (n : Int) + Int32.ofInt (p : Int) = Int32.ofInt ((row * n + p : Nat) : Int) := by
  rw [zmul, zadd, Int.natCast_add, Int.natCast_mul]
theorem ixlt {row n p R W : Nat} (h1 : row < R) (h2 : p < n) (h3 : R * n ≤ W) : row * n + p < W := by
  have : (row + 1) * n ≤ R * n := Nat.mul_le_mul_right _ h1
  rw [Nat.succ_mul] at this
  omega
