/-! the reference: fractions, late, lot -/
section RPA
variable {n w3 : Nat} {g : Nat → Nat × Nat} {σ : Nat → Nat → Int32} {τ : Nat → Nat → Int64} {r1 r2 : Nat} {A : aN} {B : aZ} {M : am_M}
set_option maxRecDepth 100000 in
theorem r_part_loop (d : Nat) (Q : am_Q) {a b : Int64} {w : Int32} : ∀ (m x y : Nat) (u : Value), y ≤ m → x < 9223372036854775808 → y < 9223372036854775808 →
    (∀ u : Value, am_wp (am_d d) T_X10_part Q (42, [.long a, .null, .long b, .null, .int w, .long (Int64.ofInt (Nat.gcd x y : Int)), .null, .long (Int64.ofInt 0), .null, u, .null], [], 0, 0) M) →
    am_wp (am_d d) T_X10_part Q (17, [.long a, .null, .long b, .null, .int w, .long (Int64.ofInt (x : Int)), .null, .long (Int64.ofInt (y : Int)), .null, u, .null], [], 0, 0) M := by
  intro m
  induction m with
  | zero =>
    intro x y u hm hx hy h
    have e : y = 0 := by omega
    subst e
    have h := h u
    rw [Nat.gcd_zero_right] at h
    refine am_wp_go (am_d_cm _) (fun pc => Nat.beq pc 17 || Nat.beq pc 42) 60 ?_
    refine And.intro (fun c2 => h) (fun c2 => absurd ?_ c2)
    rfl
  | succ m ih =>
    intro x y u hm hx hy h
    refine am_wp_go (am_d_cm _) (fun pc => Nat.beq pc 17 || Nat.beq pc 42) 60 ?_
    refine And.intro (fun c2 => ?_) (fun c2 => ?_)
    · have c2 : lg_cmp (Int64.ofInt (y : Int)) (Int64.ofInt 0) = 0 := c2
      rw [lgc0 (by unfold yr; omega)] at c2
      have e : y = 0 := by omega
      subst e
      have h := h u
      rw [Nat.gcd_zero_right] at h
      exact h
    · have c2 : ¬ lg_cmp (Int64.ofInt (y : Int)) (Int64.ofInt 0) = 0 := c2
      rw [lgc0 (by unfold yr; omega)] at c2
      refine And.intro (by rw [y0, yeq (by unfold yr; omega) (by unfold yr; omega)]; omega) ?_
      have hr := Nat.mod_lt x (show 0 < y by omega)
      show am_wp _ _ _ (17, [.long a, .null, .long b, .null, .int w, .long (Int64.ofInt (y : Int)), .null, .long (Int64.ofInt (x : Int) - Int64.ofInt (x : Int) / Int64.ofInt (y : Int) * Int64.ofInt (y : Int)), .null, .long (Int64.ofInt (x : Int) - Int64.ofInt (x : Int) / Int64.ofInt (y : Int) * Int64.ofInt (y : Int)), .null], [], 0, 0) M
      rw [yrem hx hy]
      refine ih y (x % y) _ (by omega) hy (by omega) (fun u => ?_)
      have h := h u
      rw [Nat.gcd_comm, Nat.gcd_rec, Nat.gcd_comm] at h
      exact h
set_option maxHeartbeats 1000000 in
set_option maxRecDepth 100000 in
theorem r_part (d : Nat) (Q : am_Q) {a : Int} {b : Nat} {y : Int} (hy : zr y) (h1 : -9223372036854775808 < a) (h2 : a < 9223372036854775808) (hb : 0 < b) (hb2 : b < 9223372036854775808) (h : Q (some (.long (Int64.ofInt (f_part a b y)))) M) : am_d (d + 1) 182 [.long (Int64.ofInt a), .long (Int64.ofInt (b : Int)), .int (Int32.ofInt y)] 0 0 M Q := by
  have hg1 : 0 < Nat.gcd a.natAbs b := Nat.gcd_pos_of_pos_right _ hb
  have hg2 : Nat.gcd a.natAbs b ≤ b := Nat.gcd_le_right _ hb
  have nz : ¬ Int64.ofInt (Nat.gcd a.natAbs b : Int) = 0 := by
    rw [y0, yeq (by unfold yr; omega) (by unfold yr; omega)]
    omega
  unfold f_part at h
  refine am_goT T_X10_part [.long (Int64.ofInt a), .null, .long (Int64.ofInt (b : Int)), .null, .int (Int32.ofInt y), .null, .null, .null, .null, .null, .null] rfl rfl (fun pc => Nat.beq pc 17) 60 ?_
  have key : am_wp (am_d d) T_X10_part Q (17, [.long (Int64.ofInt a), .null, .long (Int64.ofInt (b : Int)), .null, .int (Int32.ofInt y), .long (Int64.ofInt (a.natAbs : Int)), .null, .long (Int64.ofInt (b : Int)), .null, .null, .null], [], 0, 0) M := by
    refine r_part_loop d Q b a.natAbs b .null (Nat.le_refl _) (by omega) hb2 (fun u => ?_)
    refine am_wp_go (am_d_cm _) (fun pc => Nat.beq pc 17) 60 ?_
    refine And.intro (fun c1 => And.intro nz ?_) (fun c1 => And.intro nz ?_)
    · rw [zeq0 hy] at c1
      rw [if_pos c1] at h
      unfold ltA at h
      rw [← ytdiv (by unfold yr; omega) (by unfold yr; omega)] at h
      exact h
    · rw [zeq0 hy] at c1
      rw [if_neg c1] at h
      unfold ltB at h
      rw [Int.natCast_ediv, ← Int.tdiv_eq_ediv_of_nonneg (by omega), ← ytdiv (by unfold yr; omega) (by unfold yr; omega)] at h
      exact h
  refine And.intro (fun c1 => ?_) (fun c1 => ?_)
  · have c1 : 0 ≤ lg_cmp (Int64.ofInt a) (Int64.ofInt 0) := c1
    have c1 : ¬ lg_cmp (Int64.ofInt a) (Int64.ofInt 0) < 0 := Int32.not_lt.mpr c1
    rw [lg_cmp_lt, ylt (by unfold yr; omega) (by unfold yr; omega)] at c1
    rw [show (a.natAbs : Int) = a by omega] at key
    exact key
  · have c1 : ¬ 0 ≤ lg_cmp (Int64.ofInt a) (Int64.ofInt 0) := c1
    have c1 : lg_cmp (Int64.ofInt a) (Int64.ofInt 0) < 0 := Int32.not_le.mp c1
    rw [lg_cmp_lt, ylt (by unfold yr; omega) (by unfold yr; omega)] at c1
    rw [show (a.natAbs : Int) = -a by omega, ← yneg] at key
    exact key
set_option maxRecDepth 100000 in
theorem r_late (d : Nat) (Q : am_Q) {z y : Int} (hz : zr z) (hy : zr y) (hU : rU A σ) (hwf : WF A B) (h : Q (some (.long (Int64.ofInt (f_late A z y)))) (lo_M n w3 g σ τ r1 r2)) : am_d (d + 3) 188 [.ref 56, .int (Int32.ofInt z), .int (Int32.ofInt y)] 0 0 (lo_M n w3 g σ τ r1 r2) Q := by
  have hw := hwf.2.2.2.2.2.2.2.2.2.2.1
  have h60 := hwf.2.2.2.2.2.2.2.2.2.1
  unfold f_late at h
  refine am_goT T_X10_late [.ref 56, .int (Int32.ofInt z), .int (Int32.ofInt y)] rfl rfl (fun _ => false) 60 ?_
  refine r_isSeven d hz _ _ ?_
  by_cases c : 0 ≤ z ∧ z ≤ 6
  · rw [if_pos c]
    refine And.intro (fun q => absurd q (by decide)) (fun _ => ?_)
    refine r_isTwo d hy _ _ ?_
    by_cases c2 : 0 ≤ y ∧ y ≤ 1
    · rw [if_pos c2]
      rw [if_pos ⟨c, c2⟩] at h
      refine And.intro (fun q => absurd q (by decide)) (fun _ => ?_)
      obtain ⟨p, rfl⟩ := Int.eq_ofNat_of_zero_le c.1
      rw [Int.toNat_natCast] at h
      have hwp := hw p
      obtain ⟨u1, u2⟩ := hU.2 p (by omega)
      refine ixi p 7 (by omega) ?_
      refine ixi p 7 (by omega) ?_
      show am_d (d + 2) 182 [.long (Int64.ofInt 1 + (σ 76 p).toInt64), .long (Int64.ofInt 2 + (σ 75 p).toInt64), .int (Int32.ofInt y)] 0 0 _ _
      rw [u1, u2, yofz (by unfold zr; omega), yofz (by unfold zr; omega), yadd, yadd, show (1 : Int) + (A 9 p : Int) = ((A 9 p + 1 : Nat) : Int) by omega, show (2 : Int) + (A 8 p : Int) = ((A 8 p + 2 : Nat) : Int) by omega]
      exact r_part (d + 1) _ hy (by omega) (by omega) (by omega) (by omega) h
    · rw [if_neg c2]
      rw [if_neg (fun q => c2 q.2)] at h
      exact And.intro (fun _ => r_no (d + 1) _ _ h) (fun q => absurd rfl q)
  · rw [if_neg c]
    rw [if_neg (fun q => c q.1)] at h
    exact And.intro (fun _ => r_no (d + 1) _ _ h) (fun q => absurd rfl q)
set_option maxRecDepth 100000 in
theorem r_allLate_loop (d : Nat) (Q : am_Q) {y : Int} (hy : zr y) (hn : σ 56 8 = Int32.ofInt (cnt A : Int)) (hU : rU A σ) (hwf : WF A B) (h : Q (some (.long (Int64.ofInt (f_part ((prd (fun p => A 9 p + 1) (cnt A) : Nat) : Int) (prd (fun p => A 8 p + 2) (cnt A)) y)))) (lo_M n w3 g σ τ r1 r2)) : ∀ (k p : Nat), p + k = cnt A →
    am_wp (am_d (d + 1)) T_X10_allLateOf Q (8, [.ref 56, .int (Int32.ofInt y), .long (Int64.ofInt ((prd (fun p => A 9 p + 1) p : Nat) : Int)), .null, .long (Int64.ofInt ((prd (fun p => A 8 p + 2) p : Nat) : Int)), .null, .int (Int32.ofInt (p : Int))], [], 0, 0) (lo_M n w3 g σ τ r1 r2) := by
  have hc := cnt_le A
  have hw := hwf.2.2.2.2.2.2.2.2.2.2.1
  have h60 := hwf.2.2.2.2.2.2.2.2.2.1
  intro k
  induction k with
  | zero =>
    intro p hp
    have hpe : p = cnt A := by omega
    subst hpe
    refine am_wp_go (am_d_cm _) (fun pc => Nat.beq pc 8) 60 ?_
    have b1 : prd (fun p => A 9 p + 1) (cnt A) ≤ 62 ^ cnt A := prd_le _ (fun p _ => by have := hw p; omega)
    have b2 : prd (fun p => A 8 p + 2) (cnt A) ≤ 62 ^ cnt A := prd_le _ (fun p _ => by have := hw p; omega)
    have b3 : 62 ^ cnt A ≤ 62 ^ 7 := Nat.pow_le_pow_right (by omega) hc
    have b4 : 0 < prd (fun p => A 8 p + 2) (cnt A) := prd_pos _ (fun p _ => by omega)
    refine And.intro (fun c1 => ?_) (fun c1 => absurd ?_ c1)
    · exact r_part d _ hy (by omega) (by omega) b4 (by omega) h
    · show σ 56 8 ≤ _
      rw [hn, zle (by unfold zr; omega) (by unfold zr; omega)]
      omega
  | succ k ih =>
    intro p hp
    refine am_wp_go (am_d_cm _) (fun pc => Nat.beq pc 8) 60 ?_
    refine And.intro (fun c1 => ?_) (fun c1 => ?_)
    · have c1 : σ 56 8 ≤ Int32.ofInt (p : Int) := c1
      rw [hn, zle (by unfold zr; omega) (by unfold zr; omega)] at c1
      omega
    · have hwp := hw p
      obtain ⟨u1, u2⟩ := hU.2 p (by omega)
      refine ixi p 7 (by omega) ?_
      refine ixi p 7 (by omega) ?_
      have ih := ih (p + 1) (by omega)
      have e1 : Int64.ofInt ((prd (fun p => A 9 p + 1) (p + 1) : Nat) : Int) = Int64.ofInt ((prd (fun p => A 9 p + 1) p : Nat) : Int) * (Int64.ofInt 1 + (σ 76 p).toInt64) := by
        rw [u2, yofz (by unfold zr; omega), yadd, ymul, show (1 : Int) + (A 9 p : Int) = ((A 9 p + 1 : Nat) : Int) by omega]
        congr 1
      have e2 : Int64.ofInt ((prd (fun p => A 8 p + 2) (p + 1) : Nat) : Int) = Int64.ofInt ((prd (fun p => A 8 p + 2) p : Nat) : Int) * (Int64.ofInt 2 + (σ 75 p).toInt64) := by
        rw [u1, yofz (by unfold zr; omega), yadd, ymul, show (2 : Int) + (A 8 p : Int) = ((A 8 p + 2 : Nat) : Int) by omega]
        congr 1
      rw [e1, e2, show (((p + 1 : Nat) : Int)) = (p : Int) + 1 by omega, ← zadd (p : Int)] at ih
      exact ih
def f_aOf (A : aN) (y : Int) : Int := f_part ((prd (fun p => A 9 p + 1) (cnt A) : Nat) : Int) (prd (fun p => A 8 p + 2) (cnt A)) y
set_option maxRecDepth 100000 in
theorem r_allLateOf (d : Nat) (Q : am_Q) {y : Int} (hy : zr y) (hn : σ 56 8 = Int32.ofInt (cnt A : Int)) (hU : rU A σ) (hwf : WF A B) (h : Q (some (.long (Int64.ofInt (f_aOf A y)))) (lo_M n w3 g σ τ r1 r2)) : am_d (d + 2) 189 [.ref 56, .int (Int32.ofInt y)] 0 0 (lo_M n w3 g σ τ r1 r2) Q := by
  refine am_goT T_X10_allLateOf [.ref 56, .int (Int32.ofInt y), .null, .null, .null, .null, .null] rfl rfl (fun pc => Nat.beq pc 8) 60 ?_
  exact r_allLate_loop d Q hy hn hU hwf h (cnt A) 0 (by omega)
theorem rU_fr {σ' : Nat → Nat → Int32} (h : rU A σ) (h1 : σ' 56 27 = σ 56 27) (h2 : σ' 75 = σ 75) (h3 : σ' 76 = σ 76) : rU A σ' := by
  unfold rU
  rw [h1, h2, h3]
  exact h
set_option maxRecDepth 100000 in
theorem q_allLate (d : Nat) (Q : am_Q) {z : Int} (hz : zr z) (hm : IM A B σ) (hwf : WF A B) (h : ∀ σ', QF σ σ' → Q (some (.long (Int64.ofInt (f_allLate A z)))) (lo_M n w3 g σ' τ r1 r2)) : am_d (d + 5) 190 [.ref 56, .int (Int32.ofInt z)] 0 0 (lo_M n w3 g σ τ r1 r2) Q := by
  refine am_goT T_X10_allLate [.ref 56, .int (Int32.ofInt z)] rfl rfl (fun _ => false) 60 ?_
  refine r_reads d _ hwf hm.1 (fun σ1 k1 k2 k3 => ?_)
  refine r_isTwo (d + 2) hz _ _ ?_
  have h := h σ1 (QF_rd k1 k2)
  unfold f_allLate at h
  by_cases c : 0 ≤ z ∧ z ≤ 1
  · rw [if_pos c]
    rw [if_pos c] at h
    refine And.intro (fun q => absurd q (by decide)) (fun _ => ?_)
    exact r_allLateOf (d + 2) _ hz k3.1 (IM_QF hm (QF_rd k1 k2)).2.2.2.2.2.2.1 hwf h
  · rw [if_neg c]
    rw [if_neg c] at h
    exact And.intro (fun _ => r_no (d + 3) _ _ h) (fun q => absurd rfl q)
end RPA
/-! seats by lot -/
/-- how many of k seats from s on are free -/
def frs (m : Nat) : Nat → Nat → Nat
  | 0, _ => 0
  | k + 1, s => (if bitk m s = true then 0 else 1) + frs m k (s + 1)
theorem frs_or : ∀ N : Nat, N < 8 → ∀ m : Nat, m < 128 → ∀ r : Nat, r < N → bitk m r = false → frs (m ||| 2 ^ r) N 0 + 1 = frs m N 0 := by decide +kernel
theorem lft : ∀ N : Nat, N < 8 → ∀ m : Nat, m < 128 → m < 2 ^ N → ∀ r : Nat, r < N → bitk m r = false → (Int32.ofInt ((2 ^ N - 1 - m : Nat) : Int) &&& ((Int32.ofInt 1 <<< (Int32.ofInt (r : Int) &&& 31)) ^^^ Int32.ofInt (-1))) = Int32.ofInt ((2 ^ N - 1 - (m ||| 2 ^ r) : Nat) : Int) := by decide +kernel
theorem frs0 : ∀ N : Nat, N < 8 → frs 0 N 0 = N := by decide +kernel
theorem fs_free {m : Nat} : ∀ (k s l j : Nat), l < frs m k s → k ≤ j → s ≤ fs m j l s ∧ fs m j l s < s + k ∧ bitk m (fs m j l s) = false
  | 0, s, l, j, h, _ => by
    unfold frs at h
    omega
  | k + 1, s, l, 0, h, hj => by omega
  | k + 1, s, l, j + 1, h, hj => by
    unfold frs at h
    unfold fs
    by_cases c : bitk m s = true
    · rw [if_pos c]
      rw [if_pos c] at h
      have := fs_free (m := m) k (s + 1) l j (by omega) (by omega)
      exact ⟨by omega, by omega, this.2.2⟩
    · rw [if_neg c]
      rw [if_neg c] at h
      by_cases c2 : l = 0
      · rw [if_pos c2]
        refine ⟨by omega, by omega, ?_⟩
        cases e : bitk m s with
        | true => exact absurd e c
        | false => rfl
      · rw [if_neg c2]
        have := fs_free (m := m) k (s + 1) (l - 1) j (by omega) (by omega)
        exact ⟨by omega, by omega, this.2.2⟩
section RLO
variable {n w3 : Nat} {g : Nat → Nat × Nat} {σ : Nat → Nat → Int32} {τ : Nat → Nat → Int64} {r1 r2 : Nat} {A : aN} {B : aZ} {M : am_M}
set_option maxHeartbeats 1000000 in
set_option maxRecDepth 100000 in
theorem r_lot_in (d : Nat) (Q : am_Q) {N m : Nat} {x1 x2 x3 x6 : Int32} (hN : N ≤ 7) (hm : m < 2 ^ N) : ∀ (k s l : Nat), s + k = N → l < frs m k s → l < 65536 →
    (∀ l' : Int32, am_wp (am_d (d + 1)) T_X10_lotOf Q (88, [.ref 56, .int x1, .int x2, .int x3, .int (Int32.ofInt ((2 ^ N - 1 - m : Nat) : Int)), .int (Int32.ofInt (fs m (7 - s) l s : Int)), .int x6, .int l'], [], 0, 0) M) →
    am_wp (am_d (d + 1)) T_X10_lotOf Q (47, [.ref 56, .int x1, .int x2, .int x3, .int (Int32.ofInt ((2 ^ N - 1 - m : Nat) : Int)), .int (Int32.ofInt (s : Int)), .int x6, .int (Int32.ofInt (l : Int))], [], 0, 0) M := by
  have h128 := pow_le7 hN
  intro k
  induction k with
  | zero =>
    intro s l hs hl
    unfold frs at hl
    omega
  | succ k ih =>
    intro s l hs hl hl2 h
    have hl := hl
    unfold frs at hl
    have mm := memC N (by omega) m (by omega) s (by omega) hm
    have ef : fs m (7 - s) l s = if bitk m s = true then fs m (7 - (s + 1)) l (s + 1) else if l = 0 then s else fs m (7 - (s + 1)) (l - 1) (s + 1) := by
      rw [show 7 - s = (7 - (s + 1)) + 1 by omega]
      rfl
    refine am_wp_go (am_d_cm _) (fun pc => Nat.beq pc 47 || Nat.beq pc 88) 60 ?_
    refine r_isIn d (by omega) (by omega) _ _ ?_
    rw [mm]
    by_cases c : bitk m s = true
    · rw [c, if_neg (by decide)]
      rw [if_pos c] at hl ef
      rw [ef] at h
      refine And.intro (fun _ => ?_) (fun q => absurd rfl q)
      refine r_isIn d (by omega) (by omega) _ _ ?_
      rw [mm, c, if_neg (by decide)]
      refine And.intro (fun _ => ?_) (fun q => absurd rfl q)
      have key := ih (s + 1) l (by omega) (by omega) hl2 h
      rw [show (((s + 1 : Nat) : Int)) = (s : Int) + 1 by omega, ← zadd (s : Int), show (l : Int) = (l : Int) - 0 by omega, ← zsub (l : Int)] at key
      exact key
    · have c' : bitk m s = false := by
        cases e : bitk m s with
        | true => exact absurd e c
        | false => rfl
      rw [c', if_pos (by decide)]
      rw [if_neg c] at hl ef
      refine And.intro (fun q => absurd q (by decide)) (fun _ => ?_)
      by_cases c2 : l = 0
      · rw [if_pos c2] at ef
        rw [ef] at h
        refine And.intro (fun _ => h _) (fun q => absurd ?_ q)
        rw [zle0 (by unfold zr; omega)]
        omega
      · rw [if_neg c2] at ef
        rw [ef] at h
        refine And.intro (fun q => ?_) (fun _ => ?_)
        · rw [zle0 (by unfold zr; omega)] at q
          omega
        refine r_isIn d (by omega) (by omega) _ _ ?_
        rw [mm, c', if_pos (by decide)]
        refine And.intro (fun q => absurd q (by decide)) (fun _ => ?_)
        have key := ih (s + 1) (l - 1) (by omega) (by omega) (by omega) h
        rw [show (((s + 1 : Nat) : Int)) = (s : Int) + 1 by omega, ← zadd (s : Int), show ((l - 1 : Nat) : Int) = (l : Int) - 1 by omega, ← zsub (l : Int)] at key
        exact key
set_option maxHeartbeats 1000000 in
set_option maxRecDepth 100000 in
theorem r_lot_loop (d : Nat) (Q : am_Q) {sd : Int32} {N z : Nat} (hN : N ≤ 7) (hz : z < N) (hn : σ 56 8 = Int32.ofInt (N : Int)) (h : Q (some (.int (Int32.ofInt (lD N sd z (lT N sd z) : Int)))) (lo_M n w3 g σ τ r1 r2)) : ∀ (k p : Nat) (dr : Int32) (u : Value), p + k = z + 1 → (∀ q, p = q + 1 → dr = Int32.ofInt (lD N sd q (lT N sd q) : Int)) → lT N sd p < 2 ^ N → frs (lT N sd p) N 0 = N - p →
    am_wp (am_d (d + 1)) T_X10_lotOf Q (14, [.ref 56, .int sd, .int (Int32.ofInt (z : Int)), .int (lS sd p), .int (Int32.ofInt ((2 ^ N - 1 - lT N sd p : Nat) : Int)), .int dr, .int (Int32.ofInt (p : Int)), u], [], 0, 0) (lo_M n w3 g σ τ r1 r2) := by
  have h128 := pow_le7 hN
  intro k
  induction k with
  | zero =>
    intro p dr u hp hd _ _
    refine am_wp_go (am_d_cm _) (fun pc => Nat.beq pc 14 || Nat.beq pc 47) 60 ?_
    refine And.intro (fun c1 => ?_) (fun c1 => absurd ?_ c1)
    · rw [← hd z (by omega)] at h
      exact h
    · rw [zlt (by unfold zr; omega) (by unfold zr; omega)]
      omega
  | succ k ih =>
    intro p dr u hp hd hlt hfr
    refine am_wp_go (am_d_cm _) (fun pc => Nat.beq pc 14 || Nat.beq pc 47) 60 ?_
    refine And.intro (fun c1 => ?_) (fun c1 => ?_)
    · rw [zlt (by unfold zr; omega) (by unfold zr; omega)] at c1
      omega
    have e1 : σ 56 8 - Int32.ofInt (p : Int) = Int32.ofInt ((N - p : Nat) : Int) := by
      rw [hn, zsub]
      congr 1
      omega
    obtain ⟨e2, h16⟩ := hi16_eq (lS sd (p + 1))
    refine And.intro (fun q => ?_) ?_
    · have q : σ 56 8 - Int32.ofInt (p : Int) = 0 := q
      rw [e1, zeq0 (by unfold zr; omega)] at q
      omega
    have hmod := Nat.mod_lt (hi16 (lS sd (p + 1))) (show 0 < N - p by omega)
    show am_wp _ _ _ (47, [.ref 56, .int sd, .int (Int32.ofInt (z : Int)), .int (lS sd (p + 1)), .int (Int32.ofInt ((2 ^ N - 1 - lT N sd p : Nat) : Int)), .int (Int32.ofInt 0), .int (Int32.ofInt (p : Int)), .int (((lS sd (p + 1)).toUInt32 >>> ((Int32.ofInt 16).toUInt32 &&& Int32.toUInt32 31)).toInt32 - ((lS sd (p + 1)).toUInt32 >>> ((Int32.ofInt 16).toUInt32 &&& Int32.toUInt32 31)).toInt32 / (σ 56 8 - Int32.ofInt (p : Int)) * (σ 56 8 - Int32.ofInt (p : Int)))], [], 0, 0) (lo_M n w3 g σ τ r1 r2)
    rw [e1, e2, zrem (by omega) (by omega) (by omega)]
    have hfree := fs_free (m := lT N sd p) N 0 (hi16 (lS sd (p + 1)) % (N - p)) 7 (by omega) hN
    refine r_lot_in d Q hN hlt N 0 _ (by omega) (by omega) (by omega) (fun l' => ?_)
    have eD : fs (lT N sd p) (7 - 0) (hi16 (lS sd (p + 1)) % (N - p)) 0 = lD N sd p (lT N sd p) := rfl
    rw [eD]
    have hfree : 0 ≤ lD N sd p (lT N sd p) ∧ lD N sd p (lT N sd p) < 0 + N ∧ bitk (lT N sd p) (lD N sd p (lT N sd p)) = false := hfree
    refine am_wp_go (am_d_cm _) (fun pc => Nat.beq pc 14 || Nat.beq pc 47) 60 ?_
    show am_wp _ _ _ (14, [.ref 56, .int sd, .int (Int32.ofInt (z : Int)), .int (lS sd (p + 1)), .int (Int32.ofInt ((2 ^ N - 1 - lT N sd p : Nat) : Int) &&& ((Int32.ofInt 1 <<< (Int32.ofInt (lD N sd p (lT N sd p) : Int) &&& 31)) ^^^ Int32.ofInt (-1))), .int (Int32.ofInt (lD N sd p (lT N sd p) : Int)), .int (Int32.ofInt (p : Int) + Int32.ofInt 1), .int l'], [], 0, 0) (lo_M n w3 g σ τ r1 r2)
    rw [lft N (by omega) (lT N sd p) (by omega) hlt _ (by omega) hfree.2.2, zadd]
    have f1 := frs_or N (by omega) (lT N sd p) (by omega) (lD N sd p (lT N sd p)) (by omega) hfree.2.2
    have f2 := or3 N (by omega) (lT N sd p) (by omega) (lD N sd p (lT N sd p)) (by omega) hlt
    refine ih (p + 1) _ _ (by omega) (fun q hq => by rw [show q = p by omega]) f2 ?_
    show frs (lT N sd p ||| 2 ^ lD N sd p (lT N sd p)) N 0 = N - (p + 1)
    omega
set_option maxRecDepth 100000 in
theorem r_lotOf (d : Nat) (Q : am_Q) {sd : Int32} {z : Nat} (hz : z < cnt A) (hn : σ 56 8 = Int32.ofInt (cnt A : Int)) (h : Q (some (.int (Int32.ofInt (lD (cnt A) sd z (lT (cnt A) sd z) : Int)))) (lo_M n w3 g σ τ r1 r2)) : am_d (d + 2) 185 [.ref 56, .int sd, .int (Int32.ofInt (z : Int))] 0 0 (lo_M n w3 g σ τ r1 r2) Q := by
  have hc := cnt_le A
  refine am_goT T_X10_lotOf [.ref 56, .int sd, .int (Int32.ofInt (z : Int)), .null, .null, .null, .null, .null] rfl rfl (fun pc => Nat.beq pc 14) 60 ?_
  refine r_whole d _ hc hn ?_
  exact r_lot_loop d Q hc hz hn h (z + 1) 0 (Int32.ofInt (-1)) .null (by omega) (fun q hq => by omega) (Nat.pow_pos (by omega)) (frs0 (cnt A) (by omega))
set_option maxRecDepth 100000 in
theorem q_lot (d : Nat) (Q : am_Q) {sd : Int32} {z : Int} (hz : zr z) (hm : IM A B σ) (hwf : WF A B) (h : ∀ σ', QF σ σ' → Q (some (.int (Int32.ofInt (f_lot A sd z)))) (lo_M n w3 g σ' τ r1 r2)) : am_d (d + 6) 186 [.ref 56, .int sd, .int (Int32.ofInt z)] 0 0 (lo_M n w3 g σ τ r1 r2) Q := by
  refine am_goT T_X10_lot [.ref 56, .int sd, .int (Int32.ofInt z)] rfl rfl (fun _ => false) 60 ?_
  refine r_isPerson d _ hz hwf hm.1 (fun σ1 k1 k2 k3 => ?_)
  have h := h σ1 (QF_rd k1 k2)
  unfold f_lot at h
  by_cases c : 0 ≤ z ∧ z < cnt A
  · rw [if_pos c]
    rw [if_pos c] at h
    refine And.intro (fun q => absurd q (by decide)) (fun _ => ?_)
    obtain ⟨p, rfl⟩ := Int.eq_ofNat_of_zero_le c.1
    exact r_lotOf (d + 3) _ (by omega) k3.1 h
  · rw [if_neg c]
    rw [if_neg c] at h
    exact And.intro (fun _ => h) (fun q => absurd rfl q)
end RLO
