/-! lot, fair, count: the class -/
section LO
variable {n w3 : Nat} {g : Nat → Nat × Nat} {σ : Nat → Nat → Int32} {τ : Nat → Nat → Int64} {r1 r2 : Nat} {A : aN} {B : aZ}
set_option maxRecDepth 100000 in
theorem s_freeSeat_loop (d : Nat) (Q : am_Q) {M : am_M} {m : Nat} {x1 : Int32} (hm : m < 128) : ∀ (k l s : Nat), s + k = 7 → l < 65536 → Q (some (.int (Int32.ofInt (fs m k l s : Int)))) M →
    am_wp (am_d d) T_X9_freeSeat Q (4, [.int (Int32.ofInt (m : Int)), .int x1, .int (Int32.ofInt (l : Int)), .int (Int32.ofInt (s : Int))], [], 0, 0) M := by
  intro k
  induction k with
  | zero =>
    intro l s hs hl h
    refine am_wp_go (am_d_cm _) (fun pc => Nat.beq pc 4) 60 ?_
    refine And.intro (fun c1 => h) (fun c1 => absurd ?_ c1)
    rw [zle (by unfold zr; omega) (by unfold zr; omega)]
    omega
  | succ k ih =>
    intro l s hs hl h
    refine am_wp_go (am_d_cm _) (fun pc => Nat.beq pc 4) 60 ?_
    refine And.intro (fun c1 => ?_) (fun c1 => ?_)
    · rw [zle (by unfold zr; omega) (by unfold zr; omega)] at c1
      omega
    · have es : Int32.ofInt (s : Int) + Int32.ofInt 1 = Int32.ofInt ((s + 1 : Nat) : Int) := by
        rw [zadd]
        congr 1
      unfold fs at h
      refine And.intro (fun c2 => ?_) (fun c2 => ?_)
      · have c2 : (Int32.ofInt (m : Int) >>> (Int32.ofInt (s : Int) &&& 31)) &&& Int32.ofInt 1 = 0 := c2
        rw [bitv m hm s (by omega)] at c2
        have hb : ¬ bitk m s = true := fun q => by
          rw [if_pos q] at c2
          exact absurd c2 (by decide)
        rw [if_neg hb] at h
        refine And.intro (fun c3 => ?_) (fun c3 => ?_)
        · rw [zeq0 (by unfold zr; omega)] at c3
          rw [if_pos (by omega)] at h
          exact h
        · rw [zeq0 (by unfold zr; omega)] at c3
          rw [if_neg (by omega)] at h
          have key := ih (l - 1) (s + 1) (by omega) (by omega) h
          rw [← es, show ((l - 1 : Nat) : Int) = (l : Int) + (-1) by omega, ← zadd (l : Int)] at key
          exact key
      · have c2 : ¬ (Int32.ofInt (m : Int) >>> (Int32.ofInt (s : Int) &&& 31)) &&& Int32.ofInt 1 = 0 := c2
        rw [bitv m hm s (by omega)] at c2
        have hb : bitk m s = true := by
          cases e : bitk m s with
          | true => rfl
          | false =>
            rw [e] at c2
            exact absurd rfl c2
        rw [if_pos hb] at h
        have key := ih l (s + 1) (by omega) hl h
        rw [← es] at key
        exact key
set_option maxRecDepth 100000 in
theorem s_freeSeat (d : Nat) (Q : am_Q) {M : am_M} {m l : Nat} (hm : m < 128) (hl : l < 65536) (h : Q (some (.int (Int32.ofInt (fs m 7 l 0 : Int)))) M) : am_d (d + 1) 105 [.int (Int32.ofInt (m : Int)), .int (Int32.ofInt (l : Int))] 0 0 M Q := by
  refine am_goT T_X9_freeSeat [.int (Int32.ofInt (m : Int)), .int (Int32.ofInt (l : Int)), .null, .null] rfl rfl (fun pc => Nat.beq pc 4) 60 ?_
  exact s_freeSeat_loop d Q hm 7 l 0 rfl hl h
set_option maxRecDepth 100000 in
theorem s_lot_loop (d : Nat) (Q : am_Q) {sd : Int32} {N z : Nat} (hN : N ≤ 7) (hz : z < N) (hn : σ 5 4 = Int32.ofInt (N : Int)) (h : Q (some (.int (Int32.ofInt (lD N sd z (lT N sd z) : Int)))) (lo_M n w3 g σ τ r1 r2)) : ∀ (k p : Nat) (dr : Int32), p + k = z + 1 → (∀ q, p = q + 1 → dr = Int32.ofInt (lD N sd q (lT N sd q) : Int)) →
    am_wp (am_d (d + 1)) T_X9_lot Q (22, [.ref 4, .int sd, .int (Int32.ofInt (z : Int)), .int (lS sd p), .int (Int32.ofInt (lT N sd p : Int)), .int dr, .int (Int32.ofInt (p : Int))], [], 0, 0) (lo_M n w3 g σ τ r1 r2) := by
  intro k
  induction k with
  | zero =>
    intro p dr hp hd
    refine am_wp_go (am_d_cm _) (fun pc => Nat.beq pc 22) 60 ?_
    refine And.intro (fun c1 => ?_) (fun c1 => absurd ?_ c1)
    · rw [← hd z (by omega)] at h
      exact h
    · rw [zlt (by unfold zr; omega) (by unfold zr; omega)]
      omega
  | succ k ih =>
    intro p dr hp hd
    refine am_wp_go (am_d_cm _) (fun pc => Nat.beq pc 22) 60 ?_
    refine And.intro (fun c1 => ?_) (fun c1 => ?_)
    · rw [zlt (by unfold zr; omega) (by unfold zr; omega)] at c1
      omega
    · have e1 : (if Int32.ofInt 1 < σ 5 4 - Int32.ofInt (p : Int) then σ 5 4 - Int32.ofInt (p : Int) else Int32.ofInt 1) = Int32.ofInt ((N - p : Nat) : Int) := by
        rw [hn, zsub, zmax (by unfold zr; omega) (by unfold zr; omega)]
        congr 1
        omega
      obtain ⟨e2, h16⟩ := hi16_eq (lS sd (p + 1))
      refine And.intro (fun q => ?_) ?_
      · have q : (if Int32.ofInt 1 < σ 5 4 - Int32.ofInt (p : Int) then σ 5 4 - Int32.ofInt (p : Int) else Int32.ofInt 1) = 0 := q
        rw [e1, zeq0 (by unfold zr; omega)] at q
        omega
      · have hmod := Nat.mod_lt (hi16 (lS sd (p + 1))) (show 0 < N - p by omega)
        show am_d (d + 1) 105 [.int (Int32.ofInt (lT N sd p : Int)), .int (((lS sd (p + 1)).toUInt32 >>> ((Int32.ofInt 16).toUInt32 &&& Int32.toUInt32 31)).toInt32 - ((lS sd (p + 1)).toUInt32 >>> ((Int32.ofInt 16).toUInt32 &&& Int32.toUInt32 31)).toInt32 / (if Int32.ofInt 1 < σ 5 4 - Int32.ofInt (p : Int) then σ 5 4 - Int32.ofInt (p : Int) else Int32.ofInt 1) * (if Int32.ofInt 1 < σ 5 4 - Int32.ofInt (p : Int) then σ 5 4 - Int32.ofInt (p : Int) else Int32.ofInt 1))] 0 0 _ _
        rw [e1, e2, zrem (by omega) (by omega) (by omega)]
        refine s_freeSeat d _ (lT_lt p) (by omega) ?_
        have f7 : lD N sd p (lT N sd p) < 7 := fs_lt 7 _ 0 rfl
        show am_wp _ _ _ (22, [.ref 4, .int sd, .int (Int32.ofInt (z : Int)), .int (lS sd (p + 1)), .int (Int32.ofInt (lT N sd p : Int) ||| (Int32.ofInt 1 <<< (Int32.ofInt (lD N sd p (lT N sd p) : Int) &&& 31))), .int (Int32.ofInt (lD N sd p (lT N sd p) : Int)), .int (Int32.ofInt (p : Int) + Int32.ofInt 1)], [], 0, 0) (lo_M n w3 g σ τ r1 r2)
        rw [(orv _ (lT_lt p) _ f7).1, zadd, show ((p : Int) + 1) = ((p + 1 : Nat) : Int) by omega]
        exact ih (p + 1) _ (by omega) (fun q hq => by rw [show q = p by omega])
set_option maxRecDepth 100000 in
theorem c_lot (d : Nat) (Q : am_Q) {sd : Int32} {z : Int} (hz : zr z) (hx : IX A B σ) (h : Q (some (.int (Int32.ofInt (f_lot A sd z)))) (lo_M n w3 g σ τ r1 r2)) : am_d (d + 3) 75 [.ref 4, .int sd, .int (Int32.ofInt z)] 0 0 (lo_M n w3 g σ τ r1 r2) Q := by
  have hc := cnt_le A
  unfold f_lot at h
  refine am_goT T_X9_lot [.ref 4, .int sd, .int (Int32.ofInt z), .null, .null, .null, .null] rfl rfl (fun pc => Nat.beq pc 22) 60 ?_
  refine s_isThere d _ hz hc hx.1.2.2.1 ?_
  by_cases c : 0 ≤ z ∧ z < cnt A
  · rw [if_pos c]
    rw [if_pos c] at h
    refine And.intro (fun q => absurd q (by decide)) (fun _ => ?_)
    have key := s_lot_loop (n := n) (w3 := w3) (g := g) (τ := τ) (r1 := r1) (r2 := r2) (d + 1) Q (sd := sd) hc (z := z.toNat) (by omega) hx.1.2.2.1 h (z.toNat + 1) 0 (Int32.ofInt (-1)) (by omega) (fun q hq => by omega)
    rw [show ((z.toNat : Nat) : Int) = z by omega] at key
    exact key
  · rw [if_neg c]
    rw [if_neg c] at h
    exact And.intro (fun _ => h) (fun q => absurd rfl q)
/-! fair -/
theorem sumr_b {f : Nat → Int} {K : Nat} {N : Nat} (h : ∀ i, i < N → -(K : Int) ≤ f i ∧ f i ≤ K) : ∀ k i, i + k ≤ N → -((K : Int) * k) ≤ sumr f i k ∧ sumr f i k ≤ K * k
  | 0, i, _ => by simp [sumr]
  | k + 1, i, hk => by
    have ih := sumr_b h k (i + 1) (by omega)
    have := h i (by omega)
    have e : (K : Int) * ((k + 1 : Nat) : Int) = K * (k : Int) + K := by rw [show ((k + 1 : Nat) : Int) = (k : Int) + 1 by omega, Int.mul_add, Int.mul_one]
    unfold sumr
    omega
theorem sumr_b0 {f : Nat → Int} {K : Nat} {N : Nat} (h : ∀ i, i < N → 0 ≤ f i ∧ f i ≤ K) : ∀ k i, i + k ≤ N → 0 ≤ sumr f i k ∧ sumr f i k ≤ K * k
  | 0, i, _ => by simp [sumr]
  | k + 1, i, hk => by
    have ih := sumr_b0 h k (i + 1) (by omega)
    have := h i (by omega)
    have e : (K : Int) * ((k + 1 : Nat) : Int) = K * (k : Int) + K := by rw [show ((k + 1 : Nat) : Int) = (k : Int) + 1 by omega, Int.mul_add, Int.mul_one]
    unfold sumr
    omega
set_option maxRecDepth 100000 in
theorem s_seatsBeside (d : Nat) (Q : am_Q) {s N wd : Nat} (hs : s < N) (hN : N ≤ 7) (h1 : 1 ≤ wd) (h4 : wd ≤ 4) (hw : σ 12 2 = Int32.ofInt (wd : Int)) (h : Q (some (.int (Int32.ofInt (sbs wd N s)))) (lo_M n w3 g σ τ r1 r2)) : am_d (d + 2) 40 [.ref 11, .int (Int32.ofInt (s : Int)), .int (Int32.ofInt (N : Int))] 0 0 (lo_M n w3 g σ τ r1 r2) Q := by
  have hm : s % wd ≤ s := Nat.mod_le _ _
  have e1 : Int32.ofInt (s : Int) - (Int32.ofInt (s : Int) - Int32.ofInt (s : Int) / Int32.ofInt (wd : Int) * Int32.ofInt (wd : Int)) = Int32.ofInt ((s - s % wd : Nat) : Int) := by
    rw [zrem (by omega) (by omega) (by omega), zsub]
    congr 1
    omega
  have e2 : (if Int32.ofInt (wd : Int) < Int32.ofInt (N : Int) - Int32.ofInt ((s - s % wd : Nat) : Int) then Int32.ofInt (wd : Int) else Int32.ofInt (N : Int) - Int32.ofInt ((s - s % wd : Nat) : Int)) - Int32.ofInt 1 = Int32.ofInt (sbs wd N s) := by
    rw [zsub, zmin (by unfold zr; omega) (by unfold zr; omega), zsub]
    unfold sbs
    congr 1
    omega
  rw [← e2, ← e1] at h
  refine am_goT T_X6_seatsBeside [.ref 11, .int (Int32.ofInt (s : Int)), .int (Int32.ofInt (N : Int)), .null] rfl rfl (fun _ => false) 60 ?_
  refine s_wide d _ hw (by omega) (by omega) ?_
  refine And.intro (by rw [zeq0 (by unfold zr; omega)]; omega) ?_
  refine s_wide d _ hw (by omega) (by omega) ?_
  exact h
set_option maxRecDepth 100000 in
theorem s_fair1 (d : Nat) (Q : am_Q) {p N wd wp : Nat} {care : Int} {y oth : Int32} (hp : p < 7) (hN : N ≤ 7) (h1 : 1 ≤ wd) (h4 : wd ≤ 4) (hwp : wp ≤ 6) (hw : σ 12 2 = Int32.ofInt (wd : Int)) (hca : σ 12 3 = Int32.ofInt care) (hwi : σ 8 p = Int32.ofInt (wp : Int)) : ∀ (k s : Nat) (al pm : Int) (x8 : Value), s + k = N →
    (am_wp (am_d (d + 2)) T_X9_fair Q (103, [.ref 4, .int (Int32.ofInt (p : Int)), .int y, .int (Int32.ofInt (N : Int)), .int oth, .int (Int32.ofInt (al + sumr (fun s => 20 - care * (((s : Int) - (wp : Int)).natAbs : Int)) s k)), .int (Int32.ofInt (pm + sumr (sbs wd N) s k)), .int (Int32.ofInt 0), .int (Int32.ofInt 0)], [], 0, 0) (lo_M n w3 g σ τ r1 r2)) →
    am_wp (am_d (d + 2)) T_X9_fair Q (47, [.ref 4, .int (Int32.ofInt (p : Int)), .int y, .int (Int32.ofInt (N : Int)), .int oth, .int (Int32.ofInt al), .int (Int32.ofInt pm), .int (Int32.ofInt (s : Int)), x8], [], 0, 0) (lo_M n w3 g σ τ r1 r2) := by
  intro k
  induction k with
  | zero =>
    intro s al pm x8 hs h
    refine am_wp_go (am_d_cm _) (fun pc => Nat.beq pc 47 || Nat.beq pc 103) 60 ?_
    refine And.intro (fun c1 => ?_) (fun c1 => absurd ?_ c1)
    · unfold sumr at h
      rw [Int.add_zero, Int.add_zero] at h
      exact h
    · rw [zle (by unfold zr; omega) (by unfold zr; omega)]
      omega
  | succ k ih =>
    intro s al pm x8 hs h
    refine am_wp_go (am_d_cm _) (fun pc => Nat.beq pc 47 || Nat.beq pc 103) 60 ?_
    refine And.intro (fun c1 => ?_) (fun c1 => ?_)
    · rw [zle (by unfold zr; omega) (by unfold zr; omega)] at c1
      omega
    · refine ixi p 7 hp ?_
      show am_d (d + 2) 38 [.ref 11, .int (Int32.ofInt (s : Int)), .int (σ 8 p)] 0 0 _ _
      rw [hwi]
      refine s_seatWorth (d + 1) _ hca (by omega) (by omega) ?_
      refine s_seatsBeside d _ (s := s) (N := N) (by omega) hN h1 h4 hw ?_
      have key := ih (s + 1) (al + (20 - care * (((s : Int) - (wp : Int)).natAbs : Int))) (pm + sbs wd N s) x8 (by omega) (by
        unfold sumr at h
        rw [← Int.add_assoc, ← Int.add_assoc] at h
        exact h)
      rw [← zadd al, ← zadd pm, show (((s + 1 : Nat) : Int)) = (s : Int) + 1 by omega, ← zadd (s : Int)] at key
      exact key
set_option maxHeartbeats 1000000 in
set_option maxRecDepth 100000 in
theorem s_fair2 (d : Nat) (Q : am_Q) {p N : Nat} {y : Int} {oth : Nat} {al pm : Int} {lv : Nat → Int} (hy : zr y) (hp : p < 7) (hN : N ≤ 7) (hN1 : 1 ≤ N) (ho : 1 ≤ oth) (ho6 : oth ≤ 6) (hlv : ∀ o, o < N → σ (14 + p) o = Int32.ofInt (lv o))
    : ∀ (k o : Nat) (lo : Int), o + k = N → zr (oth * al + pm * (lo + sumr lv o k)) → Q (some (.long (Int64.ofInt (f_part (oth * al + pm * (lo + sumr lv o k)) (N * oth) y)))) (lo_M n w3 g σ τ r1 r2) →
    am_wp (am_d (d + 2)) T_X9_fair Q (103, [.ref 4, .int (Int32.ofInt (p : Int)), .int (Int32.ofInt y), .int (Int32.ofInt (N : Int)), .int (Int32.ofInt (oth : Int)), .int (Int32.ofInt al), .int (Int32.ofInt pm), .int (Int32.ofInt lo), .int (Int32.ofInt (o : Int))], [], 0, 0) (lo_M n w3 g σ τ r1 r2) := by
  intro k
  induction k with
  | zero =>
    intro o lo hs hr h
    refine am_wp_go (am_d_cm _) (fun pc => Nat.beq pc 103) 60 ?_
    refine And.intro (fun c1 => ?_) (fun c1 => absurd ?_ c1)
    · unfold sumr at h hr
      rw [Int.add_zero] at h hr
      have e1 : (Int32.ofInt (oth : Int) * Int32.ofInt al + Int32.ofInt pm * Int32.ofInt lo).toInt64 = Int64.ofInt (oth * al + pm * lo) := by
        rw [zmul, zmul, zadd, yofz hr]
      have b1 : N * oth ≤ 7 * 6 := Nat.mul_le_mul hN ho6
      have b2 : 0 < N * oth := Nat.mul_pos hN1 ho
      have e2 : (Int32.ofInt (N : Int) * Int32.ofInt (oth : Int)).toInt64 = Int64.ofInt ((N * oth : Nat) : Int) := by
        rw [zmul, yofz (by rw [← Int.natCast_mul]; unfold zr; omega), Int.natCast_mul]
      unfold zr at hr
      show am_d (d + 2) 106 [.long (Int32.ofInt (oth : Int) * Int32.ofInt al + Int32.ofInt pm * Int32.ofInt lo).toInt64, .long (Int32.ofInt (N : Int) * Int32.ofInt (oth : Int)).toInt64, .int (Int32.ofInt y)] 0 0 _ _
      rw [e1, e2]
      exact s_lowestP d _ hy (by omega) (by omega) b2 (by omega) h
    · rw [zle (by unfold zr; omega) (by unfold zr; omega)]
      omega
  | succ k ih =>
    intro o lo hs hr h
    refine am_wp_go (am_d_cm _) (fun pc => Nat.beq pc 103) 60 ?_
    refine And.intro (fun c1 => ?_) (fun c1 => ?_)
    · rw [zle (by unfold zr; omega) (by unfold zr; omega)] at c1
      omega
    · unfold sumr at h hr
      rw [← Int.add_assoc] at h hr
      have key := ih (o + 1) (lo + lv o) (by omega) hr h
      rw [← zadd lo, ← hlv o (by omega), show (((o + 1 : Nat) : Int)) = (o : Int) + 1 by omega, ← zadd (o : Int)] at key
      refine ixi p 7 hp ?_
      rcases (show p = 0 ∨ p = 1 ∨ p = 2 ∨ p = 3 ∨ p = 4 ∨ p = 5 ∨ p = 6 by omega) with rfl | rfl | rfl | rfl | rfl | rfl | rfl
      all_goals
        refine ixi o 7 (by omega) ?_
        exact key
theorem mulb {a b K L : Int} (h1 : 0 ≤ a) (h2 : a ≤ K) (h3 : 0 ≤ b) (h4 : b ≤ L) : 0 ≤ a * b ∧ a * b ≤ K * L := ⟨Int.mul_nonneg h1 h3, Int.mul_le_mul h2 h4 h3 (by omega)⟩
theorem frA_rng (hwf : WF A B) {p : Nat} (hp : p < cnt A) : -100000 ≤ frA A p ∧ frA A p ≤ 100000 := by
  have hc := cnt_le A
  obtain ⟨-, -, hr, ⟨-, -, ⟨w1, w4⟩, c9, s9, -⟩, -, hl, -⟩ := hwf
  have a4 := wsh_lt hp
  have b1 := sumr_b (f := fun s => 20 - (A 3 3 : Int) * (((s : Int) - (wsh A p : Int)).natAbs : Int)) (K := 200) (N := cnt A) (fun i hi => by
    have := mul9 (A 3 3) c9 (((i : Int) - (wsh A p : Int)).natAbs : Int) 10 (by omega) (by omega)
    omega) (cnt A) 0 (by omega)
  have b2 := sumr_b0 (f := sbs (A 3 2) (cnt A)) (K := 4) (N := cnt A) (fun i hi => by
    have := Nat.mod_le i (A 3 2)
    unfold sbs
    omega) (cnt A) 0 (by omega)
  have b3 := sumr_b0 (f := fun o => (A (20 + p) o : Int)) (K := 20) (N := cnt A) (fun i hi => by have := hl p i; omega) (cnt A) 0 (by omega)
  have b4 := mul9 (max 1 (cnt A - 1)) (by omega) (sumr (fun s => 20 - (A 3 3 : Int) * (((s : Int) - (wsh A p : Int)).natAbs : Int)) 0 (cnt A)) 1400 (by omega) (by omega)
  have b5 := mulb b2.1 (show _ ≤ (28 : Int) by omega) b3.1 (show _ ≤ (140 : Int) by omega)
  unfold frA
  omega
set_option maxRecDepth 100000 in
theorem c_fair (d : Nat) (Q : am_Q) {z y : Int} (hz : zr z) (hy : zr y) (hx : IX A B σ) (hwf : WF A B) (h : Q (some (.long (Int64.ofInt (f_fair A z y)))) (lo_M n w3 g σ τ r1 r2)) : am_d (d + 3) 74 [.ref 4, .int (Int32.ofInt z), .int (Int32.ofInt y)] 0 0 (lo_M n w3 g σ τ r1 r2) Q := by
  have hc := cnt_le A
  unfold f_fair at h
  have bad : ¬ ((0 ≤ z ∧ z < cnt A) ∧ 0 ≤ y ∧ y ≤ 1) → Q (some (.long (Int64.ofInt (-9223372036854775806)))) (lo_M n w3 g σ τ r1 r2) := by
    intro c
    rw [if_neg c] at h
    exact h
  refine am_goT T_X9_fair [.ref 4, .int (Int32.ofInt z), .int (Int32.ofInt y), .null, .null, .null, .null, .null, .null] rfl rfl (fun pc => Nat.beq pc 47) 60 ?_
  refine s_isThere d _ hz hc hx.1.2.2.1 ?_
  by_cases c : 0 ≤ z ∧ z < cnt A
  · rw [if_pos c]
    refine And.intro (fun q => absurd q (by decide)) (fun _ => ?_)
    refine s_withinZ (d + 1) hy (by unfold zr; omega) (by unfold zr; omega) _ _ ?_
    by_cases cy : 0 ≤ y ∧ y ≤ 1
    · rw [if_pos cy]
      refine And.intro (fun q => absurd q (by decide)) (fun _ => ?_)
      rw [if_pos ⟨c, cy⟩] at h
      have hp : z.toNat < cnt A := by omega
      have hw6 := wsh_lt hp
      have hrg := frA_rng hwf hp
      have w14 := hwf.2.2.2.1.2.2.1
      have e1 : (if Int32.ofInt 1 < σ 5 4 - Int32.ofInt 1 then σ 5 4 - Int32.ofInt 1 else Int32.ofInt 1) = Int32.ofInt ((max 1 (cnt A - 1) : Nat) : Int) := by
        rw [hx.1.2.2.1, zsub, zmax (by unfold zr; omega) (by unfold zr; omega)]
        congr 1
        omega
      have key := s_fair1 (n := n) (w3 := w3) (g := g) (τ := τ) (r1 := r1) (r2 := r2) d Q (p := z.toNat) (N := cnt A) (wd := A 3 2) (wp := wsh A z.toNat) (care := (A 3 3 : Int)) (y := Int32.ofInt y) (oth := Int32.ofInt ((max 1 (cnt A - 1) : Nat) : Int)) (σ := σ) (by omega) hc w14.1 w14.2 hw6 (hx.2.2.1 2 (by omega)) (hx.2.2.1 3 (by omega)) (hx.1.2.2.2.2 _ hp).2 (cnt A) 0 0 0 .null (by omega) ?_
      · rw [← e1, ← hx.1.2.2.1, show ((z.toNat : Nat) : Int) = z by omega] at key
        exact key
      · rw [Int.zero_add, Int.zero_add]
        have e2 : frA A z.toNat = ((max 1 (cnt A - 1) : Nat) : Int) * sumr (fun s => 20 - (A 3 3 : Int) * (((s : Int) - (wsh A z.toNat : Int)).natAbs : Int)) 0 (cnt A) + sumr (sbs (A 3 2) (cnt A)) 0 (cnt A) * (0 + sumr (fun o => (A (20 + z.toNat) o : Int)) 0 (cnt A)) := by
          rw [Int.zero_add]
          rfl
        refine s_fair2 d Q (lv := fun o => (A (20 + z.toNat) o : Int)) hy (by omega) hc (by omega) (by omega) (by omega) (fun o ho => hx.2.2.2.1 z.toNat (by omega) o (by omega)) (cnt A) 0 0 (by omega) ?_ ?_
        · rw [← e2]
          unfold zr
          omega
        · rw [← e2]
          exact h
    · rw [if_neg cy]
      exact And.intro (fun _ => bad (fun q => cy q.2)) (fun q => absurd rfl q)
  · rw [if_neg c]
    exact And.intro (fun _ => bad (fun q => c q.1)) (fun q => absurd rfl q)
set_option maxRecDepth 100000 in
theorem s_pewsTaken (d : Nat) (Q : am_Q) {N wd : Nat} (hN : N ≤ 7) (h1 : 1 ≤ wd) (h4 : wd ≤ 4) (hw : σ 12 2 = Int32.ofInt (wd : Int)) (ht : σ 23 5 = Int32.ofInt (N : Int)) (h : Q (some (.int (Int32.ofInt (((N + wd - 1) / wd : Nat) : Int)))) (lo_M n w3 g σ τ r1 r2)) : am_d (d + 2) 7 [.ref 23] 0 0 (lo_M n w3 g σ τ r1 r2) Q := by
  have e : (σ 23 5 + Int32.ofInt (wd : Int) - Int32.ofInt 1) / Int32.ofInt (wd : Int) = Int32.ofInt (((N + wd - 1) / wd : Nat) : Int) := by
    rw [ht, zadd, zsub, ← zdiv (by omega) (by omega) (by omega)]
    congr 2
    omega
  rw [← e] at h
  refine am_goT T_X0_pewsTaken [.ref 23] rfl rfl (fun _ => false) 60 ?_
  refine s_wide d _ hw (by omega) (by omega) ?_
  refine s_wide d _ hw (by omega) (by omega) ?_
  exact And.intro (by rw [zeq0 (by unfold zr; omega)]; omega) h
set_option maxRecDepth 100000 in
theorem c_count (d : Nat) (Q : am_Q) {z : Int} (hz : zr z) (hx : IX A B σ) (hwf : WF A B)
    (h : ∀ σ' : Nat → Nat → Int32, (∀ c, c ≠ 22 → c ≠ 23 → c ≠ 24 → c ≠ 25 → σ' c = σ c) → (∀ i, i ≠ 5 → σ' 23 i = σ 23 i) → Q (some (.int (Int32.ofInt (f_count A z)))) (lo_M n w3 g σ' τ r1 r2)) : am_d (d + 5) 85 [.ref 4, .int (Int32.ofInt z)] 0 0 (lo_M n w3 g σ τ r1 r2) Q := by
  have hc := cnt_le A
  have hlen := SL_len A (A 3 1) (fun _ => true) (A 4)
  have w14 := hwf.2.2.2.1.2.2.1
  have h0 := h σ (fun _ _ _ _ _ => rfl) (fun _ _ => rfl)
  unfold f_count at h h0
  have ty : (Int32.ofInt z).toInt = z := zI_to hz
  refine am_goT T_X9_count [.ref 4, .int (Int32.ofInt z)] rfl rfl (fun _ => false) 60 ?_
  refine And.intro (And.intro (fun c0 => ?_) (And.intro (fun c0 => ?_) (And.intro (fun c0 => ?_) (And.intro (fun c0 => ?_) (And.intro (fun c0 => ?_) (And.intro (fun c0 => ?_) (And.intro (fun c0 => ?_) (And.intro (fun c0 => ?_) (And.intro (fun c0 => ?_) trivial))))))))) (fun c0 => ?_)
  · rw [ty] at c0
    rw [if_pos (by omega), ← hx.1.2.2.1] at h0
    exact h0
  · rw [ty] at c0
    rw [if_neg (by omega), if_pos (by omega), ← hx.1.1] at h0
    exact h0
  · rw [ty] at c0
    refine s_seatAll d _ hx hwf (fun σ' k1 k2 k3 k4 k5 k6 => ?_)
    have h := h σ' k1 k2
    rw [if_neg (by omega), if_neg (by omega), if_pos (by omega), ← zsub, ← hx.1.2.2.1, ← k1 5 (by decide) (by decide) (by decide) (by decide), ← k4] at h
    exact h
  · rw [ty] at c0
    rw [if_neg (by omega), if_neg (by omega), if_neg (by omega), if_pos (by omega)] at h0
    refine s_between (d + 3) _ _ _ (i := 0) (j := 60) ⟨rfl, by omega⟩ ⟨rfl, by omega⟩ ?_
    have e : ((prz (A 2) 60 : Nat) : Int) - ((prz (A 2) 0 : Nat) : Int) = ((prz (A 2) 60 : Nat) : Int) := Int.sub_zero _
    rw [hx.2.1 60 (by omega), hx.2.1 0 (by omega), zsub, e]
    exact h0
  · rw [ty] at c0
    rw [if_neg (by omega), if_neg (by omega), if_neg (by omega), if_neg (by omega), if_pos (by omega), ← hx.2.2.2.2.2.1.1] at h0
    exact h0
  · rw [ty] at c0
    rw [if_neg (by omega), if_neg (by omega), if_neg (by omega), if_neg (by omega), if_neg (by omega), if_pos (by omega), ← hx.2.2.2.2.2.2.1.1] at h0
    exact h0
  · rw [ty] at c0
    refine s_seatAll d _ hx hwf (fun σ' k1 k2 k3 k4 k5 k6 => ?_)
    have h := h σ' k1 k2
    rw [if_neg (by omega), if_neg (by omega), if_neg (by omega), if_neg (by omega), if_neg (by omega), if_neg (by omega), if_pos (by omega)] at h
    exact s_pewsTaken (d + 2) _ hlen w14.1 w14.2 (by rw [k1 12 (by decide) (by decide) (by decide) (by decide)]; exact hx.2.2.1 2 (by omega)) k4 h
  · rw [ty] at c0
    rw [if_neg (by omega), if_neg (by omega), if_neg (by omega), if_neg (by omega), if_neg (by omega), if_neg (by omega), if_neg (by omega), if_pos (by omega), ← hx.2.2.1 0 (by omega)] at h0
    exact ixi 0 6 (by omega) h0
  · rw [ty] at c0
    rw [if_neg (by omega), if_neg (by omega), if_neg (by omega), if_neg (by omega), if_neg (by omega), if_neg (by omega), if_neg (by omega), if_neg (by omega), if_pos (by omega), ← hx.2.2.2.2.2.2.2.2] at h0
    exact h0
  · rw [ty] at c0
    rw [if_neg (by omega), if_neg (by omega), if_neg (by omega), if_neg (by omega), if_neg (by omega), if_neg (by omega), if_neg (by omega), if_neg (by omega), if_neg (by omega)] at h0
    exact h0
end LO
