/-! a row is made: where things lie then -/
theorem lo_new {n w3 k : Nat} {g : Nat → Nat × Nat} (h : 77 ≤ n) : (fun c => if c = n then (0, k) else lo_sh w3 g c) = lo_sh w3 (fun c => if c = n then (0, k) else g c) := by
  funext c
  unfold lo_sh
  by_cases e : c = n
  · subst e
    have hb : Nat.blt c 77 = false := by
      cases q : Nat.blt c 77 with
      | false => rfl
      | true => have := Nat.le_of_ble_eq_true q; omega
    rw [if_pos rfl, hb]
    dsimp only
    rw [if_pos rfl]
  · rw [if_neg e]
    dsimp only
    rw [if_neg e]
theorem lo_rho1 : ∀ c, c ≠ 29 → ∀ (a b r2 i : Nat), lo_rho a r2 c i = lo_rho b r2 c i
  | 0, _, _, _, _, _ => rfl
  | 1, _, _, _, _, _ => rfl
  | 2, _, _, _, _, _ => rfl
  | 3, _, _, _, _, _ => rfl
  | 4, _, _, _, _, _ => rfl
  | 5, _, _, _, _, _ => rfl
  | 6, _, _, _, _, _ => rfl
  | 7, _, _, _, _, _ => rfl
  | 8, _, _, _, _, _ => rfl
  | 9, _, _, _, _, _ => rfl
  | 10, _, _, _, _, _ => rfl
  | 11, _, _, _, _, _ => rfl
  | 12, _, _, _, _, _ => rfl
  | 13, _, _, _, _, _ => rfl
  | 14, _, _, _, _, _ => rfl
  | 15, _, _, _, _, _ => rfl
  | 16, _, _, _, _, _ => rfl
  | 17, _, _, _, _, _ => rfl
  | 18, _, _, _, _, _ => rfl
  | 19, _, _, _, _, _ => rfl
  | 20, _, _, _, _, _ => rfl
  | 21, _, _, _, _, _ => rfl
  | 22, _, _, _, _, _ => rfl
  | 23, _, _, _, _, _ => rfl
  | 24, _, _, _, _, _ => rfl
  | 25, _, _, _, _, _ => rfl
  | 26, _, _, _, _, _ => rfl
  | 27, _, _, _, _, _ => rfl
  | 28, _, _, _, _, _ => rfl
  | 29, h, _, _, _, _ => absurd rfl h
  | 30, _, _, _, _, _ => rfl
  | 31, _, _, _, _, _ => rfl
  | 32, _, _, _, _, _ => rfl
  | 33, _, _, _, _, _ => rfl
  | 34, _, _, _, _, _ => rfl
  | 35, _, _, _, _, _ => rfl
  | 36, _, _, _, _, _ => rfl
  | 37, _, _, _, _, _ => rfl
  | 38, _, _, _, _, _ => rfl
  | 39, _, _, _, _, _ => rfl
  | 40, _, _, _, _, _ => rfl
  | 41, _, _, _, _, _ => rfl
  | 42, _, _, _, _, _ => rfl
  | 43, _, _, _, _, _ => rfl
  | 44, _, _, _, _, _ => rfl
  | 45, _, _, _, _, _ => rfl
  | 46, _, _, _, _, _ => rfl
  | 47, _, _, _, _, _ => rfl
  | 48, _, _, _, _, _ => rfl
  | 49, _, _, _, _, _ => rfl
  | 50, _, _, _, _, _ => rfl
  | 51, _, _, _, _, _ => rfl
  | 52, _, _, _, _, _ => rfl
  | 53, _, _, _, _, _ => rfl
  | 54, _, _, _, _, _ => rfl
  | 55, _, _, _, _, _ => rfl
  | 56, _, _, _, _, _ => rfl
  | 57, _, _, _, _, _ => rfl
  | 58, _, _, _, _, _ => rfl
  | 59, _, _, _, _, _ => rfl
  | 60, _, _, _, _, _ => rfl
  | 61, _, _, _, _, _ => rfl
  | 62, _, _, _, _, _ => rfl
  | 63, _, _, _, _, _ => rfl
  | 64, _, _, _, _, _ => rfl
  | 65, _, _, _, _, _ => rfl
  | 66, _, _, _, _, _ => rfl
  | 67, _, _, _, _, _ => rfl
  | 68, _, _, _, _, _ => rfl
  | 69, _, _, _, _, _ => rfl
  | 70, _, _, _, _, _ => rfl
  | 71, _, _, _, _, _ => rfl
  | 72, _, _, _, _, _ => rfl
  | 73, _, _, _, _, _ => rfl
  | 74, _, _, _, _, _ => rfl
  | 75, _, _, _, _, _ => rfl
  | 76, _, _, _, _, _ => rfl
  | _ + 77, _, _, _, _, _ => rfl
theorem lo_rho2 : ∀ c, c ≠ 32 → ∀ (r1 a b i : Nat), lo_rho r1 a c i = lo_rho r1 b c i
  | 0, _, _, _, _, _ => rfl
  | 1, _, _, _, _, _ => rfl
  | 2, _, _, _, _, _ => rfl
  | 3, _, _, _, _, _ => rfl
  | 4, _, _, _, _, _ => rfl
  | 5, _, _, _, _, _ => rfl
  | 6, _, _, _, _, _ => rfl
  | 7, _, _, _, _, _ => rfl
  | 8, _, _, _, _, _ => rfl
  | 9, _, _, _, _, _ => rfl
  | 10, _, _, _, _, _ => rfl
  | 11, _, _, _, _, _ => rfl
  | 12, _, _, _, _, _ => rfl
  | 13, _, _, _, _, _ => rfl
  | 14, _, _, _, _, _ => rfl
  | 15, _, _, _, _, _ => rfl
  | 16, _, _, _, _, _ => rfl
  | 17, _, _, _, _, _ => rfl
  | 18, _, _, _, _, _ => rfl
  | 19, _, _, _, _, _ => rfl
  | 20, _, _, _, _, _ => rfl
  | 21, _, _, _, _, _ => rfl
  | 22, _, _, _, _, _ => rfl
  | 23, _, _, _, _, _ => rfl
  | 24, _, _, _, _, _ => rfl
  | 25, _, _, _, _, _ => rfl
  | 26, _, _, _, _, _ => rfl
  | 27, _, _, _, _, _ => rfl
  | 28, _, _, _, _, _ => rfl
  | 29, _, _, _, _, _ => rfl
  | 30, _, _, _, _, _ => rfl
  | 31, _, _, _, _, _ => rfl
  | 32, h, _, _, _, _ => absurd rfl h
  | 33, _, _, _, _, _ => rfl
  | 34, _, _, _, _, _ => rfl
  | 35, _, _, _, _, _ => rfl
  | 36, _, _, _, _, _ => rfl
  | 37, _, _, _, _, _ => rfl
  | 38, _, _, _, _, _ => rfl
  | 39, _, _, _, _, _ => rfl
  | 40, _, _, _, _, _ => rfl
  | 41, _, _, _, _, _ => rfl
  | 42, _, _, _, _, _ => rfl
  | 43, _, _, _, _, _ => rfl
  | 44, _, _, _, _, _ => rfl
  | 45, _, _, _, _, _ => rfl
  | 46, _, _, _, _, _ => rfl
  | 47, _, _, _, _, _ => rfl
  | 48, _, _, _, _, _ => rfl
  | 49, _, _, _, _, _ => rfl
  | 50, _, _, _, _, _ => rfl
  | 51, _, _, _, _, _ => rfl
  | 52, _, _, _, _, _ => rfl
  | 53, _, _, _, _, _ => rfl
  | 54, _, _, _, _, _ => rfl
  | 55, _, _, _, _, _ => rfl
  | 56, _, _, _, _, _ => rfl
  | 57, _, _, _, _, _ => rfl
  | 58, _, _, _, _, _ => rfl
  | 59, _, _, _, _, _ => rfl
  | 60, _, _, _, _, _ => rfl
  | 61, _, _, _, _, _ => rfl
  | 62, _, _, _, _, _ => rfl
  | 63, _, _, _, _, _ => rfl
  | 64, _, _, _, _, _ => rfl
  | 65, _, _, _, _, _ => rfl
  | 66, _, _, _, _, _ => rfl
  | 67, _, _, _, _, _ => rfl
  | 68, _, _, _, _, _ => rfl
  | 69, _, _, _, _, _ => rfl
  | 70, _, _, _, _, _ => rfl
  | 71, _, _, _, _, _ => rfl
  | 72, _, _, _, _, _ => rfl
  | 73, _, _, _, _, _ => rfl
  | 74, _, _, _, _, _ => rfl
  | 75, _, _, _, _, _ => rfl
  | 76, _, _, _, _, _ => rfl
  | _ + 77, _, _, _, _, _ => rfl
theorem lo_rho_u1 (r1 r2 m : Nat) : am_u (lo_rho r1 r2) 29 4 (some m) = lo_rho m r2 := by
  funext c i
  unfold am_u
  by_cases e : c = 29
  · subst e
    rw [if_pos rfl]
    by_cases e2 : i = 4
    · subst e2
      rw [if_pos rfl]
      rfl
    · rw [if_neg e2]
      rcases (show i = 0 ∨ i = 1 ∨ i = 2 ∨ i = 3 ∨ 5 ≤ i by omega) with rfl | rfl | rfl | rfl | h
      · rfl
      · rfl
      · rfl
      · rfl
      · obtain ⟨j, rfl⟩ : ∃ j, i = j + 5 := ⟨i - 5, by omega⟩
        rfl
  · rw [if_neg e]
    exact lo_rho1 c e r1 m r2 i
theorem lo_rho_u2 (r1 r2 m : Nat) : am_u (lo_rho r1 r2) 32 4 (some m) = lo_rho r1 m := by
  funext c i
  unfold am_u
  by_cases e : c = 32
  · subst e
    rw [if_pos rfl]
    by_cases e2 : i = 4
    · subst e2
      rw [if_pos rfl]
      rfl
    · rw [if_neg e2]
      rcases (show i = 0 ∨ i = 1 ∨ i = 2 ∨ i = 3 ∨ 5 ≤ i by omega) with rfl | rfl | rfl | rfl | h
      · rfl
      · rfl
      · rfl
      · rfl
      · obtain ⟨j, rfl⟩ : ∃ j, i = j + 5 := ⟨i - 5, by omega⟩
        rfl
  · rw [if_neg e]
    exact lo_rho2 c e r1 r2 m i
/-- where the two rows of what each has lie, and how long they are -/
def LZ (n w3 : Nat) (g : Nat → Nat × Nat) (r1 r2 W1 W2 : Nat) : Prop := 77 ≤ n ∧ ((r1 = 31 ∨ 77 ≤ r1) ∧ r1 < n) ∧ ((r2 = 34 ∨ 77 ≤ r2) ∧ r2 < n) ∧ r1 ≠ r2 ∧ lo_sh w3 g r1 = (0, W1) ∧ lo_sh w3 g r2 = (0, W2) ∧ W1 ≤ 24576 ∧ W2 ≤ 896
theorem lo_shn {n w3 k : Nat} {g : Nat → Nat × Nat} (h : 77 ≤ n) : lo_sh w3 (fun c => if c = n then (0, k) else g c) n = (0, k) := by
  rw [← lo_new h]
  dsimp only
  rw [if_pos rfl]
theorem lo_sho {n w3 k c : Nat} {g : Nat → Nat × Nat} (h : 77 ≤ n) (hc : c ≠ n) : lo_sh w3 (fun c => if c = n then (0, k) else g c) c = lo_sh w3 g c := by
  rw [← lo_new h]
  dsimp only
  rw [if_neg hc]
theorem LZ_r1 {n w3 : Nat} {g : Nat → Nat × Nat} {r1 r2 W1 W2 : Nat} (h : LZ n w3 g r1 r2 W1 W2) : ∀ c, c < 77 → c ≠ 31 → c ≠ r1 := fun c h1 h2 e => by
  rcases h.2.1.1 with q | q <;> omega
theorem LZ_r2 {n w3 : Nat} {g : Nat → Nat × Nat} {r1 r2 W1 W2 : Nat} (h : LZ n w3 g r1 r2 W1 W2) : ∀ c, c < 77 → c ≠ 34 → c ≠ r2 := fun c h1 h2 e => by
  rcases h.2.2.1.1 with q | q <;> omega
theorem rowsR : ∀ N : Nat, N < 7 → Int32.ofInt 1 <<< ((Int32.ofInt 2 * Int32.ofInt (N : Int)) &&& 31) = Int32.ofInt ((4 ^ N : Nat) : Int) ∧ 4 ^ N * N ≤ 24576 ∧ 4 ^ N ≤ 4096 := by decide +kernel
theorem rowsC : ∀ N : Nat, N < 8 → Int32.ofInt 1 <<< ((Int32.ofInt 1 * Int32.ofInt (N : Int)) &&& 31) = Int32.ofInt ((2 ^ N : Nat) : Int) ∧ 2 ^ N * N ≤ 896 ∧ 2 ^ N ≤ 128 := by decide +kernel
/-! open, cell 29 -/
section OPR
variable {n w3 : Nat} {g : Nat → Nat × Nat} {τ : Nat → Nat → Int64} {r1 r2 : Nat}
set_option maxHeartbeats 1000000 in
set_option maxRecDepth 100000 in
theorem s_open_loopR (d : Nat) (Q : am_Q) {N W1 W2 bc bs : Nat} (hN : N < 7) (hz : LZ n w3 g r1 r2 W1 W2) (hbud : W1 < 4 ^ N * N → 1 ≤ bc ∧ 4 ^ N * N ≤ bs) : ∀ (k p : Nat) (σ : Nat → Nat → Int32), p + k = N → σ 29 0 = Int32.ofInt 2 → (∀ q, q < p → σ 30 q = Int32.ofInt ((2 * (N - 1 - q) : Nat) : Int)) →
    (∀ (n' : Nat) (g' : Nat → Nat × Nat) (r' : Nat) (σ' : Nat → Nat → Int32), LZ n' w3 g' r' r2 (max W1 (4 ^ N * N)) W2 → 4 ^ N * N ≤ max W1 (4 ^ N * N) → (∀ c, c < 77 → c ≠ 29 → c ≠ 30 → σ' c = σ c) → (∀ i, i ≠ 5 → σ' 29 i = σ 29 i) → σ' 29 5 = Int32.ofInt ((4 ^ N : Nat) : Int) → (∀ q, q < N → σ' 30 q = Int32.ofInt ((2 * (N - 1 - q) : Nat) : Int)) → Q none (lo_M n' w3 g' σ' τ r' r2)) →
    am_wp (am_d d) T_X2_open Q (7, [.ref 29, .int (Int32.ofInt (N : Int)), .int (Int32.ofInt 1), .int (Int32.ofInt (p : Int))], [], bc, bs) (lo_M n w3 g σ τ r1 r2) := by
  obtain ⟨h77, hr1, hr2, hne, hk1, hk2, hW1, hW2⟩ := id hz
  intro k
  induction k with
  | zero =>
    intro p σ hp hb hs h
    obtain ⟨e1, e2, e3⟩ := rowsR N (by omega)
    have hpN : p = N := by omega
    have eR : Int32.ofInt 1 <<< ((σ 29 0 * Int32.ofInt (N : Int)) &&& 31) = Int32.ofInt ((4 ^ N : Nat) : Int) := by rw [hb, e1]
    refine am_wp_go (am_d_cm _) (fun pc => Nat.beq pc 7) 60 ?_
    refine And.intro (fun c1 => ?_) (fun c1 => absurd ?_ c1)
    · refine wal (r := r1) (W := W1) hk1 ?_
      have eM : (Int32.ofInt 1 <<< ((σ 29 0 * Int32.ofInt (N : Int)) &&& 31)) * Int32.ofInt (N : Int) = Int32.ofInt ((4 ^ N * N : Nat) : Int) := by
        rw [eR, zmul, ← Int.natCast_mul]
      have eL : Int32.ofNat (lo_sh w3 g r1).2 = Int32.ofInt (W1 : Int) := by
        rw [hk1, zN]
        rfl
      have eC : (Int32.ofInt ((4 ^ N * N : Nat) : Int)).toNatClampNeg = 4 ^ N * N := zcl rfl (by omega)
      refine And.intro (fun c2 => ?_) (fun c2 => ?_)
      · have c2 : (Int32.ofInt 1 <<< ((σ 29 0 * Int32.ofInt (N : Int)) &&& 31)) * Int32.ofInt (N : Int) ≤ Int32.ofNat (lo_sh w3 g r1).2 := c2
        rw [eM, eL, zle (by unfold zr; omega) (by unfold zr; omega)] at c2
        have h := h n g r1 (am_u σ 29 5 (Int32.ofInt ((4 ^ N : Nat) : Int))) (by rw [show max W1 (4 ^ N * N) = W1 by omega]; exact hz) (by omega) (fun c _ e _ => am_u_ne e) (fun i e => by rw [am_u_at, if_neg e]) (by rw [am_u_at, if_pos rfl]) (fun q hq => by rw [am_u_ne (by decide)]; exact hs q (by omega))
        rw [← eR] at h
        exact h
      · have c2 : ¬ (Int32.ofInt 1 <<< ((σ 29 0 * Int32.ofInt (N : Int)) &&& 31)) * Int32.ofInt (N : Int) ≤ Int32.ofNat (lo_sh w3 g r1).2 := c2
        rw [eM, eL, zle (by unfold zr; omega) (by unfold zr; omega)] at c2
        obtain ⟨b1, b2⟩ := hbud (by omega)
        have h := h (n + 1) (fun c => if c = n then (0, 4 ^ N * N) else g c) n (am_ur (am_u σ 29 5 (Int32.ofInt ((4 ^ N : Nat) : Int))) n (fun _ => 0)) (by
          rw [show max W1 (4 ^ N * N) = 4 ^ N * N by omega]
          exact ⟨by omega, ⟨Or.inr (by omega), by omega⟩, ⟨hr2.1, by omega⟩, by omega, lo_shn h77, by rw [lo_sho h77 (by omega)]; exact hk2, by omega, hW2⟩) (by omega) (fun c e0 e _ => by rw [am_ur_ne (by omega), am_u_ne e]) (fun i e => by rw [am_ur_ne (by omega), am_u_at, if_neg e]) (by rw [am_ur_ne (by omega), am_u_at, if_pos rfl]) (fun q hq => by rw [am_ur_ne (by omega), am_u_ne (by decide)]; exact hs q (by omega))
        unfold lo_M at h
        rw [← lo_rho_u1 r1 r2 n, ← eC, ← eM, ← eR] at h
        refine And.intro b1 (And.intro ?_ (And.intro ?_ (And.intro ?_ ?_)))
        · show ¬ (Int32.ofInt 1 <<< ((σ 29 0 * Int32.ofInt (N : Int)) &&& 31)) * Int32.ofInt (N : Int) < 0
          rw [eM, zlt0 (by unfold zr; omega)]
          omega
        · show ((Int32.ofInt 1 <<< ((σ 29 0 * Int32.ofInt (N : Int)) &&& 31)) * Int32.ofInt (N : Int)).toNatClampNeg ≤ bs
          rw [eM, eC]
          exact b2
        · show ((Int32.ofInt 1 <<< ((σ 29 0 * Int32.ofInt (N : Int)) &&& 31)) * Int32.ofInt (N : Int)).toNatClampNeg ≤ 100000000
          rw [eM, eC]
          omega
        · show am_run _ _ _ _ _ _ (77, [.ref 29, .int (Int32.ofInt (N : Int)), .int (Int32.ofInt 1), .int (Int32.ofInt (p : Int))], [.ref n, .ref 29], _, _) (n + 1, (fun c => if c = n then (0, ((Int32.ofInt 1 <<< ((σ 29 0 * Int32.ofInt (N : Int)) &&& 31)) * Int32.ofInt (N : Int)).toNatClampNeg) else lo_sh w3 g c), am_ur (am_u σ 29 5 (Int32.ofInt 1 <<< ((σ 29 0 * Int32.ofInt (N : Int)) &&& 31))) n (fun _ => 0), τ, lo_rho r1 r2)
          rw [lo_new h77]
          exact h
    · rw [zle (by unfold zr; omega) (by unfold zr; omega)]
      omega
  | succ k ih =>
    intro p σ hp hb hs h
    refine am_wp_go (am_d_cm _) (fun pc => Nat.beq pc 7) 60 ?_
    refine And.intro (fun c1 => ?_) (fun c1 => ?_)
    · rw [zle (by unfold zr; omega) (by unfold zr; omega)] at c1
      omega
    · refine And.intro (fun q => absurd q (by decide)) (fun _ => ?_)
      refine ixi p 7 (by omega) ?_
      have e : σ 29 0 * (Int32.ofInt (N : Int) - Int32.ofInt 1 - Int32.ofInt (p : Int)) = Int32.ofInt ((2 * (N - 1 - p) : Nat) : Int) := by
        rw [hb, zsub, zsub, zmul]
        congr 1
        omega
      show am_wp _ _ _ (7, [.ref 29, .int (Int32.ofInt (N : Int)), .int (Int32.ofInt 1), .int (Int32.ofInt (p : Int) + Int32.ofInt 1)], [], bc, bs) (lo_M n w3 g (am_u σ 30 p (σ 29 0 * (Int32.ofInt (N : Int) - Int32.ofInt 1 - Int32.ofInt (p : Int)))) τ r1 r2)
      rw [e, zadd, show ((p : Int) + 1) = ((p + 1 : Nat) : Int) by omega]
      refine ih (p + 1) _ (by omega) hb (fun q hq => ?_) (fun n' g' r' σ' k1 k2 k3 k4 k5 k6 => h n' g' r' σ' k1 k2 (fun c e0 e1 e2 => by rw [k3 c e0 e1 e2, am_u_ne e2]) (fun i hi => by rw [k4 i hi, am_u_ne (by decide)]) k5 k6)
      rw [am_u_at]
      by_cases eq : q = p
      · subst eq
        rw [if_pos rfl]
      · rw [if_neg eq]
        exact hs q (by omega)
set_option maxRecDepth 100000 in
theorem s_openR (d : Nat) (Q : am_Q) {N W1 W2 bc bs : Nat} {σ : Nat → Nat → Int32} (hN : N < 7) (hz : LZ n w3 g r1 r2 W1 W2) (hbud : W1 < 4 ^ N * N → 1 ≤ bc ∧ 4 ^ N * N ≤ bs) (hb : σ 29 0 = Int32.ofInt 2)
    (h : ∀ (n' : Nat) (g' : Nat → Nat × Nat) (r' : Nat) (σ' : Nat → Nat → Int32), LZ n' w3 g' r' r2 (max W1 (4 ^ N * N)) W2 → 4 ^ N * N ≤ max W1 (4 ^ N * N) → (∀ c, c < 77 → c ≠ 29 → c ≠ 30 → σ' c = σ c) → (∀ i, i ≠ 5 → i ≠ 3 → σ' 29 i = σ 29 i) → σ' 29 3 = Int32.ofInt (N : Int) → σ' 29 5 = Int32.ofInt ((4 ^ N : Nat) : Int) → (∀ q, q < N → σ' 30 q = Int32.ofInt ((2 * (N - 1 - q) : Nat) : Int)) → Q none (lo_M n' w3 g' σ' τ r' r2)) :
    am_d (d + 1) 11 [.ref 29, .int (Int32.ofInt (N : Int)), .int (Int32.ofInt 1)] bc bs (lo_M n w3 g σ τ r1 r2) Q := by
  refine am_goT T_X2_open [.ref 29, .int (Int32.ofInt (N : Int)), .int (Int32.ofInt 1), .null] rfl rfl (fun pc => Nat.beq pc 7) 60 ?_
  exact s_open_loopR d Q hN hz hbud N 0 (am_u σ 29 3 (Int32.ofInt (N : Int))) (by omega) hb (fun q hq => by omega) (fun n' g' r' σ' k1 k2 k3 k4 k5 k6 => h n' g' r' σ' k1 k2 (fun c e0 e1 e2 => by rw [k3 c e0 e1 e2, am_u_ne e1]) (fun i e1 e2 => by rw [k4 i e1, am_u_at, if_neg e2]) (by rw [k4 3 (by decide), am_u_at, if_pos rfl]) k5 k6)
end OPR
/-! open, cell 32 -/
section OPC
variable {n w3 : Nat} {g : Nat → Nat × Nat} {τ : Nat → Nat → Int64} {r1 r2 : Nat}
set_option maxHeartbeats 1000000 in
set_option maxRecDepth 100000 in
theorem s_open_loopC (d : Nat) (Q : am_Q) {N W1 W2 bc bs : Nat} (hN : N < 8) (hz : LZ n w3 g r1 r2 W1 W2) (hbud : W2 < 2 ^ N * N → 1 ≤ bc ∧ 2 ^ N * N ≤ bs) : ∀ (k p : Nat) (σ : Nat → Nat → Int32), p + k = N → σ 32 0 = Int32.ofInt 1 → (∀ q, q < p → σ 33 q = Int32.ofInt ((q : Nat) : Int)) →
    (∀ (n' : Nat) (g' : Nat → Nat × Nat) (r' : Nat) (σ' : Nat → Nat → Int32), LZ n' w3 g' r1 r' W1 (max W2 (2 ^ N * N)) → 2 ^ N * N ≤ max W2 (2 ^ N * N) → (∀ c, c < 77 → c ≠ 32 → c ≠ 33 → σ' c = σ c) → (∀ i, i ≠ 5 → σ' 32 i = σ 32 i) → σ' 32 5 = Int32.ofInt ((2 ^ N : Nat) : Int) → (∀ q, q < N → σ' 33 q = Int32.ofInt ((q : Nat) : Int)) → Q none (lo_M n' w3 g' σ' τ r1 r')) →
    am_wp (am_d d) T_X2_open Q (7, [.ref 32, .int (Int32.ofInt (N : Int)), .int (Int32.ofInt 0), .int (Int32.ofInt (p : Int))], [], bc, bs) (lo_M n w3 g σ τ r1 r2) := by
  obtain ⟨h77, hr1, hr2, hne, hk1, hk2, hW1, hW2⟩ := id hz
  intro k
  induction k with
  | zero =>
    intro p σ hp hb hs h
    obtain ⟨e1, e2, e3⟩ := rowsC N (by omega)
    have hpN : p = N := by omega
    have eR : Int32.ofInt 1 <<< ((σ 32 0 * Int32.ofInt (N : Int)) &&& 31) = Int32.ofInt ((2 ^ N : Nat) : Int) := by rw [hb, e1]
    refine am_wp_go (am_d_cm _) (fun pc => Nat.beq pc 7) 60 ?_
    refine And.intro (fun c1 => ?_) (fun c1 => absurd ?_ c1)
    · refine wal (r := r2) (W := W2) hk2 ?_
      have eM : (Int32.ofInt 1 <<< ((σ 32 0 * Int32.ofInt (N : Int)) &&& 31)) * Int32.ofInt (N : Int) = Int32.ofInt ((2 ^ N * N : Nat) : Int) := by
        rw [eR, zmul, ← Int.natCast_mul]
      have eL : Int32.ofNat (lo_sh w3 g r2).2 = Int32.ofInt (W2 : Int) := by
        rw [hk2, zN]
        rfl
      have eC : (Int32.ofInt ((2 ^ N * N : Nat) : Int)).toNatClampNeg = 2 ^ N * N := zcl rfl (by omega)
      refine And.intro (fun c2 => ?_) (fun c2 => ?_)
      · have c2 : (Int32.ofInt 1 <<< ((σ 32 0 * Int32.ofInt (N : Int)) &&& 31)) * Int32.ofInt (N : Int) ≤ Int32.ofNat (lo_sh w3 g r2).2 := c2
        rw [eM, eL, zle (by unfold zr; omega) (by unfold zr; omega)] at c2
        have h := h n g r2 (am_u σ 32 5 (Int32.ofInt ((2 ^ N : Nat) : Int))) (by rw [show max W2 (2 ^ N * N) = W2 by omega]; exact hz) (by omega) (fun c _ e _ => am_u_ne e) (fun i e => by rw [am_u_at, if_neg e]) (by rw [am_u_at, if_pos rfl]) (fun q hq => by rw [am_u_ne (by decide)]; exact hs q (by omega))
        rw [← eR] at h
        exact h
      · have c2 : ¬ (Int32.ofInt 1 <<< ((σ 32 0 * Int32.ofInt (N : Int)) &&& 31)) * Int32.ofInt (N : Int) ≤ Int32.ofNat (lo_sh w3 g r2).2 := c2
        rw [eM, eL, zle (by unfold zr; omega) (by unfold zr; omega)] at c2
        obtain ⟨b1, b2⟩ := hbud (by omega)
        have h := h (n + 1) (fun c => if c = n then (0, 2 ^ N * N) else g c) n (am_ur (am_u σ 32 5 (Int32.ofInt ((2 ^ N : Nat) : Int))) n (fun _ => 0)) (by
          rw [show max W2 (2 ^ N * N) = 2 ^ N * N by omega]
          exact ⟨by omega, ⟨hr1.1, by omega⟩, ⟨Or.inr (by omega), by omega⟩, by omega, by rw [lo_sho h77 (by omega)]; exact hk1, lo_shn h77, hW1, by omega⟩) (by omega) (fun c e0 e _ => by rw [am_ur_ne (by omega), am_u_ne e]) (fun i e => by rw [am_ur_ne (by omega), am_u_at, if_neg e]) (by rw [am_ur_ne (by omega), am_u_at, if_pos rfl]) (fun q hq => by rw [am_ur_ne (by omega), am_u_ne (by decide)]; exact hs q (by omega))
        unfold lo_M at h
        rw [← lo_rho_u2 r1 r2 n, ← eC, ← eM, ← eR] at h
        refine And.intro b1 (And.intro ?_ (And.intro ?_ (And.intro ?_ ?_)))
        · show ¬ (Int32.ofInt 1 <<< ((σ 32 0 * Int32.ofInt (N : Int)) &&& 31)) * Int32.ofInt (N : Int) < 0
          rw [eM, zlt0 (by unfold zr; omega)]
          omega
        · show ((Int32.ofInt 1 <<< ((σ 32 0 * Int32.ofInt (N : Int)) &&& 31)) * Int32.ofInt (N : Int)).toNatClampNeg ≤ bs
          rw [eM, eC]
          exact b2
        · show ((Int32.ofInt 1 <<< ((σ 32 0 * Int32.ofInt (N : Int)) &&& 31)) * Int32.ofInt (N : Int)).toNatClampNeg ≤ 100000000
          rw [eM, eC]
          omega
        · show am_run _ _ _ _ _ _ (77, [.ref 32, .int (Int32.ofInt (N : Int)), .int (Int32.ofInt 0), .int (Int32.ofInt (p : Int))], [.ref n, .ref 32], _, _) (n + 1, (fun c => if c = n then (0, ((Int32.ofInt 1 <<< ((σ 32 0 * Int32.ofInt (N : Int)) &&& 31)) * Int32.ofInt (N : Int)).toNatClampNeg) else lo_sh w3 g c), am_ur (am_u σ 32 5 (Int32.ofInt 1 <<< ((σ 32 0 * Int32.ofInt (N : Int)) &&& 31))) n (fun _ => 0), τ, lo_rho r1 r2)
          rw [lo_new h77]
          exact h
    · rw [zle (by unfold zr; omega) (by unfold zr; omega)]
      omega
  | succ k ih =>
    intro p σ hp hb hs h
    refine am_wp_go (am_d_cm _) (fun pc => Nat.beq pc 7) 60 ?_
    refine And.intro (fun c1 => ?_) (fun c1 => ?_)
    · rw [zle (by unfold zr; omega) (by unfold zr; omega)] at c1
      omega
    · refine And.intro (fun _ => ?_) (fun q => absurd rfl q)
      refine ixi p 7 (by omega) ?_
      have e : σ 32 0 * Int32.ofInt (p : Int) = Int32.ofInt ((p : Nat) : Int) := by
        rw [hb, zmul]
        congr 1
        omega
      show am_wp _ _ _ (7, [.ref 32, .int (Int32.ofInt (N : Int)), .int (Int32.ofInt 0), .int (Int32.ofInt (p : Int) + Int32.ofInt 1)], [], bc, bs) (lo_M n w3 g (am_u σ 33 p (σ 32 0 * Int32.ofInt (p : Int))) τ r1 r2)
      rw [e, zadd, show ((p : Int) + 1) = ((p + 1 : Nat) : Int) by omega]
      refine ih (p + 1) _ (by omega) hb (fun q hq => ?_) (fun n' g' r' σ' k1 k2 k3 k4 k5 k6 => h n' g' r' σ' k1 k2 (fun c e0 e1 e2 => by rw [k3 c e0 e1 e2, am_u_ne e2]) (fun i hi => by rw [k4 i hi, am_u_ne (by decide)]) k5 k6)
      rw [am_u_at]
      by_cases eq : q = p
      · subst eq
        rw [if_pos rfl]
      · rw [if_neg eq]
        exact hs q (by omega)
set_option maxRecDepth 100000 in
theorem s_openC (d : Nat) (Q : am_Q) {N W1 W2 bc bs : Nat} {σ : Nat → Nat → Int32} (hN : N < 8) (hz : LZ n w3 g r1 r2 W1 W2) (hbud : W2 < 2 ^ N * N → 1 ≤ bc ∧ 2 ^ N * N ≤ bs) (hb : σ 32 0 = Int32.ofInt 1)
    (h : ∀ (n' : Nat) (g' : Nat → Nat × Nat) (r' : Nat) (σ' : Nat → Nat → Int32), LZ n' w3 g' r1 r' W1 (max W2 (2 ^ N * N)) → 2 ^ N * N ≤ max W2 (2 ^ N * N) → (∀ c, c < 77 → c ≠ 32 → c ≠ 33 → σ' c = σ c) → (∀ i, i ≠ 5 → i ≠ 3 → σ' 32 i = σ 32 i) → σ' 32 3 = Int32.ofInt (N : Int) → σ' 32 5 = Int32.ofInt ((2 ^ N : Nat) : Int) → (∀ q, q < N → σ' 33 q = Int32.ofInt ((q : Nat) : Int)) → Q none (lo_M n' w3 g' σ' τ r1 r')) :
    am_d (d + 1) 11 [.ref 32, .int (Int32.ofInt (N : Int)), .int (Int32.ofInt 0)] bc bs (lo_M n w3 g σ τ r1 r2) Q := by
  refine am_goT T_X2_open [.ref 32, .int (Int32.ofInt (N : Int)), .int (Int32.ofInt 0), .null] rfl rfl (fun pc => Nat.beq pc 7) 60 ?_
  exact s_open_loopC d Q hN hz hbud N 0 (am_u σ 32 3 (Int32.ofInt (N : Int))) (by omega) hb (fun q hq => by omega) (fun n' g' r' σ' k1 k2 k3 k4 k5 k6 => h n' g' r' σ' k1 k2 (fun c e0 e1 e2 => by rw [k3 c e0 e1 e2, am_u_ne e1]) (fun i e1 e2 => by rw [k4 i e1, am_u_at, if_neg e2]) (by rw [k4 3 (by decide), am_u_at, if_pos rfl]) k5 k6)
end OPC
