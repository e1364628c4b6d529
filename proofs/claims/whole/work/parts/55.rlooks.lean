/-! the reference: it looks at each order -/
theorem WRn_rng {A : aN} {B : aZ} (hwf : WF A B) {st : Nat → Int} {mem : Nat → Bool} {p : Nat} (hp : p < cnt A) (h1 : -1 ≤ st p) (h2 : st p ≤ 6) : -1000 ≤ WRn A st mem p ∧ WRn A st mem p ≤ 1000 := by
  have hc := cnt_le A
  have hw := wsh_lt hp
  have c9 := hwf.2.2.2.1.2.2.2.1
  unfold WRn
  split
  · omega
  · have sr := sumr_rng (f := nrq A st mem p) (M := 20) (fun q => by
      unfold nrq
      have := hwf.2.2.2.2.2.1 p q
      split <;> omega) (cnt A) 0
    have e1 : (st p - (wsh A p : Int)).natAbs ≤ 7 := by omega
    have e2 : A 3 3 * (st p - (wsh A p : Int)).natAbs ≤ 9 * 7 := Nat.mul_le_mul c9 e1
    have e3 : (A 3 3 : Int) * ((st p - (wsh A p : Int)).natAbs : Int) = ((A 3 3 * (st p - (wsh A p : Int)).natAbs : Nat) : Int) := by rw [Int.natCast_mul]
    rw [e3]
    generalize A 3 3 * (st p - (wsh A p : Int)).natAbs = X at e2
    omega
theorem stP_rng {N lw k : Nat} (hN : N ≤ 7) (hk : k < N) : 0 ≤ stP N lw k ∧ stP N lw k ≤ 6 := by
  unfold stP
  split <;> omega
section RLK
variable {n w3 : Nat} {g : Nat → Nat × Nat} {σ : Nat → Nat → Int32} {τ : Nat → Nat → Int64} {r1 r2 : Nat} {A : aN} {B : aZ}
set_option maxHeartbeats 1000000 in
set_option maxRecDepth 100000 in
theorem r_lk_seat (d : Nat) (Q : am_Q) {N lw : Nat} {o ps : Nat → Nat} {u2 : Value} (hN : N ≤ 7) (hlw : lw ≤ 1) (hbj : bij N o ps) : ∀ (k' k : Nat) (σ : Nat → Nat → Int32), k + k' = N → hor σ N o → σ 56 8 = Int32.ofInt (N : Int) → σ 66 1 = Int32.ofInt (lw : Int) → (∀ j, j < k → σ 68 (o j) = Int32.ofInt (stP N lw j)) →
    (∀ σ' : Nat → Nat → Int32, (∀ c, c ≠ 68 → σ' c = σ c) → (∀ j, j < N → σ' 68 (o j) = Int32.ofInt (stP N lw j)) → am_wp (am_d d) T_X10_looks Q (48, [.ref 56, .int (Int32.ofInt (N : Int)), u2], [], 0, 0) (lo_M n w3 g σ' τ r1 r2)) →
    am_wp (am_d d) T_X10_looks Q (2, [.ref 56, .int (Int32.ofInt (k : Int)), u2], [], 0, 0) (lo_M n w3 g σ τ r1 r2) := by
  intro k'
  induction k' with
  | zero =>
    intro k σ hk ho hn h66 hs h
    have e : k = N := by omega
    subst e
    refine am_wp_go (am_d_cm _) (fun pc => Nat.beq pc 2 || Nat.beq pc 48) 60 ?_
    refine And.intro (fun c1 => h σ (fun _ _ => rfl) hs) (fun c1 => absurd ?_ c1)
    show σ 56 8 ≤ _
    rw [hn]
    exact Int32.le_refl _
  | succ k' ih =>
    intro k σ hk ho hn h66 hs h
    obtain ⟨o1, o2⟩ := ho k (by omega)
    obtain ⟨b1, b2⟩ := hbj.1 k (by omega)
    have next : ∀ v : Int32, v = Int32.ofInt (stP N lw k) → am_wp (am_d d) T_X10_looks Q (2, [.ref 56, .int (Int32.ofInt (k : Int) + Int32.ofInt 1), u2], [], 0, 0) (lo_M n w3 g (am_u σ 68 (o k) v) τ r1 r2) := by
      intro v hv
      rw [zadd, hv]
      refine ih (k + 1) _ (by omega) (fun j hj => by rw [am_u_ne (by decide)]; exact ho j hj) (by rw [am_u_ne (by decide)]; exact hn) (by rw [am_u_ne (by decide)]; exact h66) (fun j hj => ?_) (fun σ' k1 k2 => h σ' (fun c e => by rw [k1 c e, am_u_ne e]) k2)
      rw [am_u_at]
      by_cases e : j = k
      · rw [e, if_pos rfl]
      · have : o j ≠ o k := fun q => e (by rw [← (hbj.1 j (by omega)).2, q, b2])
        rw [if_neg this]
        exact hs j (by omega)
    refine am_wp_go (am_d_cm _) (fun pc => Nat.beq pc 2 || Nat.beq pc 48) 60 ?_
    refine And.intro (fun c1 => ?_) (fun c1 => ?_)
    · have c1 : σ 56 8 ≤ Int32.ofInt (k : Int) := c1
      rw [hn, zle (by unfold zr; omega) (by unfold zr; omega)] at c1
      omega
    refine ixi k 7 (by omega) ?_
    refine ixi 1 6 (by omega) ?_
    refine And.intro (fun c2 => ?_) (fun c2 => ?_)
    · have c2 : σ 66 1 = 0 := c2
      rw [h66, zeq0 (by unfold zr; omega)] at c2
      refine ixi (o k) 7 o2 ?_ o1
      exact next _ (by unfold stP; rw [if_pos (by omega)])
    · have c2 : ¬ σ 66 1 = 0 := c2
      rw [h66, zeq0 (by unfold zr; omega)] at c2
      refine ixi (o k) 7 o2 ?_ o1
      exact next (σ 56 8 - Int32.ofInt 1 - Int32.ofInt (k : Int)) (by unfold stP; rw [if_neg (by omega), hn, zsub, zsub])
set_option maxHeartbeats 1000000 in
set_option maxRecDepth 100000 in
theorem r_lk_sum (d : Nat) (Q : am_Q) {st : Nat → Int} {w : Nat → Nat} {u2 : Value} (hwf : WF A B) (hb : RB A w σ) (hst : ∀ q, q < cnt A → σ 68 q = Int32.ofInt (st q) ∧ -1 ≤ st q ∧ st q ≤ 6) : ∀ (k p : Nat) (τ : Nat → Nat → Int64), p + k = cnt A →
    (∀ τ' : Nat → Nat → Int64, (∀ q, p ≤ q → q < cnt A → τ' 74 q = τ 74 q + Int64.ofInt (WRn A st (fun _ => true) q)) → (∀ q, q < p → τ' 74 q = τ 74 q) → am_wp (am_d (d + 2)) T_X10_looks Q (93, [.ref 56, .int (Int32.ofInt (cnt A : Int)), u2], [], 0, 0) (lo_M n w3 g σ τ' r1 r2)) →
    am_wp (am_d (d + 2)) T_X10_looks Q (60, [.ref 56, .int (Int32.ofInt (p : Int)), u2], [], 0, 0) (lo_M n w3 g σ τ r1 r2) := by
  have hc := cnt_le A
  intro k
  induction k with
  | zero =>
    intro p τ hp h
    have e : p = cnt A := by omega
    subst e
    refine am_wp_go (am_d_cm _) (fun pc => Nat.beq pc 60 || Nat.beq pc 93) 60 ?_
    refine And.intro (fun c1 => h τ (fun q q1 q2 => by omega) (fun _ _ => rfl)) (fun c1 => absurd ?_ c1)
    show σ 56 8 ≤ _
    rw [hb.1.1]
    exact Int32.le_refl _
  | succ k ih =>
    intro p τ hp h
    have hpc : p < cnt A := by omega
    refine am_wp_go (am_d_cm _) (fun pc => Nat.beq pc 60 || Nat.beq pc 93) 60 ?_
    refine And.intro (fun c1 => ?_) (fun c1 => ?_)
    · have c1 : σ 56 8 ≤ Int32.ofInt (p : Int) := c1
      rw [hb.1.1, zle (by unfold zr; omega) (by unfold zr; omega)] at c1
      omega
    refine ixi p 7 (by omega) ?_
    refine r_whole (d + 1) _ hc hb.1.1 ?_
    refine r_worth d _ hwf hb (all_lt hc) hpc (bitk_all (cnt A) (by omega) p hpc) (fun q hq _ => hst q hq) ?_
    rw [WRn_all hpc]
    have wr := WRn_rng (A := A) (B := B) hwf (mem := fun _ => true) hpc (hst p hpc).2.1 (hst p hpc).2.2
    refine ixi p 7 (by omega) ?_
    show am_wp _ _ _ (60, [.ref 56, .int (Int32.ofInt (p : Int) + Int32.ofInt 1), u2], [], 0, 0) (lo_M n w3 g σ (am_u τ 74 p (τ 74 p + (Int32.ofInt (WRn A st (fun _ => true) p)).toInt64)) r1 r2)
    rw [zadd, yofz (by unfold zr; omega)]
    refine ih (p + 1) _ (by omega) (fun τ' k1 k2 => h τ' (fun q q1 q2 => ?_) (fun q hq => ?_))
    · by_cases e : q = p
      · subst e
        rw [k2 q (by omega), am_u_at, if_pos rfl]
      · rw [k1 q (by omega) q2, am_u_at, if_neg e]
    · rw [k2 q (by omega), am_u_at, if_neg (by omega)]
set_option maxHeartbeats 1000000 in
set_option maxRecDepth 100000 in
theorem r_lk_bf (d : Nat) (Q : am_Q) {N k : Nat} {o ps : Nat → Nat} (hN : N ≤ 7) (hk : k < N) (hbj : bij N o ps) : ∀ (k' j : Nat) (σ : Nat → Nat → Int32), j + k' = N → hor σ N o → σ 56 8 = Int32.ofInt (N : Int) →
    (∀ σ' : Nat → Nat → Int32, (∀ c, c ≠ 73 → σ' c = σ c) → (∀ a b, a < N → b < N → σ' 73 (7 * a + b) = if ps a = k ∧ j ≤ ps b then Int32.ofInt 1 else σ 73 (7 * a + b)) → am_wp (am_d d) T_X10_looks Q (177, [.ref 56, .int (Int32.ofInt (k : Int)), .int (Int32.ofInt (N : Int))], [], 0, 0) (lo_M n w3 g σ' τ r1 r2)) →
    am_wp (am_d d) T_X10_looks Q (141, [.ref 56, .int (Int32.ofInt (k : Int)), .int (Int32.ofInt (j : Int))], [], 0, 0) (lo_M n w3 g σ τ r1 r2) := by
  intro k'
  induction k' with
  | zero =>
    intro j σ hj ho hn h
    have e : j = N := by omega
    subst e
    refine am_wp_go (am_d_cm _) (fun pc => Nat.beq pc 141 || Nat.beq pc 177) 60 ?_
    refine And.intro (fun c1 => h σ (fun _ _ => rfl) (fun a b ha hb => ?_)) (fun c1 => absurd ?_ c1)
    · rw [if_neg (fun q => by have := (hbj.2 b hb).1; omega)]
    · show σ 56 8 ≤ _
      rw [hn]
      exact Int32.le_refl _
  | succ k' ih =>
    intro j σ hj ho hn h
    obtain ⟨o1, o2⟩ := ho k hk
    obtain ⟨o3, o4⟩ := ho j (by omega)
    obtain ⟨b1, b2⟩ := hbj.1 k hk
    obtain ⟨b3, b4⟩ := hbj.1 j (by omega)
    refine am_wp_go (am_d_cm _) (fun pc => Nat.beq pc 141 || Nat.beq pc 177) 60 ?_
    refine And.intro (fun c1 => ?_) (fun c1 => ?_)
    · have c1 : σ 56 8 ≤ Int32.ofInt (j : Int) := c1
      rw [hn, zle (by unfold zr; omega) (by unfold zr; omega)] at c1
      omega
    refine ixi k 7 (by omega) ?_
    refine ixi j 7 (by omega) ?_
    refine ixi (7 * o k + o j) 49 (by omega) ?_ (by
      show Int32.ofInt 7 * σ 71 k + σ 71 j = _
      rw [o1, o3, zmul, zadd]
      congr 1)
    show am_wp _ _ _ (141, [.ref 56, .int (Int32.ofInt (k : Int)), .int (Int32.ofInt (j : Int) + Int32.ofInt 1)], [], 0, 0) (lo_M n w3 g (am_u σ 73 (7 * o k + o j) (vp_nar .boolean (Int32.ofInt 1))) τ r1 r2)
    rw [zadd, show vp_nar .boolean (Int32.ofInt 1) = Int32.ofInt 1 by decide]
    refine ih (j + 1) _ (by omega) (fun j hj => by rw [am_u_ne (by decide)]; exact ho j hj) (by rw [am_u_ne (by decide)]; exact hn) (fun σ' k1 k2 => h σ' (fun c e => by rw [k1 c e, am_u_ne e]) (fun a b ha hb => ?_))
    rw [k2 a b ha hb, am_u_at]
    obtain ⟨a1, a2⟩ := hbj.2 a ha
    obtain ⟨a3, a4⟩ := hbj.2 b hb
    by_cases e : 7 * a + b = 7 * o k + o j
    · have ea : a = o k := by omega
      have eb : b = o j := by omega
      rw [if_pos e, if_pos (show ps a = k ∧ j ≤ ps b by rw [ea, eb, b2, b4]; omega)]
      split <;> rfl
    · rw [if_neg e]
      by_cases e2 : ps a = k ∧ j ≤ ps b
      · have hne : ps b ≠ j := by
          intro q
          apply e
          rw [← a2, ← a4, e2.1, q]
        rw [if_pos (by omega), if_pos e2]
      · rw [if_neg (by omega), if_neg e2]
set_option maxHeartbeats 2000000 in
set_option maxRecDepth 100000 in
theorem r_lk_so (d : Nat) (Q : am_Q) {N : Nat} {o ps cm : Nat → Nat} (hN : N ≤ 7) (hbj : bij N o ps) : ∀ (k' k : Nat) (σ : Nat → Nat → Int32) (u2 : Value), k + k' = N → hor σ N o → σ 56 8 = Int32.ofInt (N : Int) → (∀ q, q < N → k ≤ ps q → σ 72 q = Int32.ofInt (cm q : Int) ∧ cm q < 128) →
    (∀ σ' : Nat → Nat → Int32, (∀ c, c ≠ 72 → c ≠ 73 → σ' c = σ c) → (∀ q, q < N → σ' 72 q = if k ≤ ps q then Int32.ofInt ((cm q ||| 2 ^ ps q : Nat) : Int) else σ 72 q) → (∀ a b, a < N → b < N → σ' 73 (7 * a + b) = if k ≤ ps a ∧ ps a < ps b then Int32.ofInt 1 else σ 73 (7 * a + b)) → Q none (lo_M n w3 g σ' τ r1 r2)) →
    am_wp (am_d d) T_X10_looks Q (112, [.ref 56, .int (Int32.ofInt (k : Int)), u2], [], 0, 0) (lo_M n w3 g σ τ r1 r2) := by
  intro k'
  induction k' with
  | zero =>
    intro k σ u2 hk ho hn hcm h
    have e : k = N := by omega
    subst e
    refine am_wp_go (am_d_cm _) (fun pc => Nat.beq pc 112 || Nat.beq pc 141 || Nat.beq pc 177) 60 ?_
    refine And.intro (fun c1 => h σ (fun _ _ _ => rfl) (fun q hq => ?_) (fun a b ha hb => ?_)) (fun c1 => absurd ?_ c1)
    · rw [if_neg (by have := (hbj.2 q hq).1; omega)]
    · rw [if_neg (fun q => by have := (hbj.2 a ha).1; omega)]
    · show σ 56 8 ≤ _
      rw [hn]
      exact Int32.le_refl _
  | succ k' ih =>
    intro k σ u2 hk ho hn hcm h
    obtain ⟨o1, o2⟩ := ho k (by omega)
    obtain ⟨b1, b2⟩ := hbj.1 k (by omega)
    obtain ⟨m1, m2⟩ := hcm (o k) b1 (by omega)
    refine am_wp_go (am_d_cm _) (fun pc => Nat.beq pc 112 || Nat.beq pc 141 || Nat.beq pc 177) 60 ?_
    refine And.intro (fun c1 => ?_) (fun c1 => ?_)
    · have c1 : σ 56 8 ≤ Int32.ofInt (k : Int) := c1
      rw [hn, zle (by unfold zr; omega) (by unfold zr; omega)] at c1
      omega
    refine ixi k 7 (by omega) ?_
    refine ixi (o k) 7 o2 ?_ o1
    refine ixi (o k) 7 o2 ?_ o1
    show am_wp _ _ _ (141, [.ref 56, .int (Int32.ofInt (k : Int)), .int (Int32.ofInt (k : Int) + Int32.ofInt 1)], [], 0, 0) (lo_M n w3 g (am_u σ 72 (o k) (σ 72 (o k) ||| (Int32.ofInt 1 <<< (Int32.ofInt (k : Int) &&& 31)))) τ r1 r2)
    rw [m1, (orv (cm (o k)) m2 k (by omega)).1, zadd]
    refine r_lk_bf d Q hN (by omega) hbj k' (k + 1) _ (by omega) (fun j hj => by rw [am_u_ne (by decide)]; exact ho j hj) (by rw [am_u_ne (by decide)]; exact hn) (fun σ1 k1 k2 => ?_)
    refine am_wp_go (am_d_cm _) (fun pc => Nat.beq pc 112 || Nat.beq pc 141 || Nat.beq pc 177) 60 ?_
    show am_wp _ _ _ (112, [.ref 56, .int (Int32.ofInt (k : Int) + Int32.ofInt 1), .int (Int32.ofInt (N : Int))], [], 0, 0) (lo_M n w3 g σ1 τ r1 r2)
    rw [zadd]
    refine ih (k + 1) σ1 _ (by omega) (fun j hj => by rw [k1 71 (by decide), am_u_ne (by decide)]; exact ho j hj) (by rw [k1 56 (by decide), am_u_ne (by decide)]; exact hn) (fun q hq hq2 => ?_) (fun σ' j1 j2 j3 => h σ' (fun c e1 e2 => by rw [j1 c e1 e2, k1 c e2, am_u_ne e1]) (fun q hq => ?_) (fun a b ha hb => ?_))
    · rw [k1 72 (by decide), am_u_at, if_neg (fun e => by rw [e, b2] at hq2; omega)]
      exact hcm q hq (by omega)
    · rw [j2 q hq, k1 72 (by decide), am_u_at]
      by_cases e : q = o k
      · subst e
        rw [b2, if_neg (by omega), if_pos rfl, if_pos (by omega)]
      · have hne : ps q ≠ k := fun r => e (by rw [← (hbj.2 q hq).2, r])
        rw [if_neg e]
        by_cases e2 : k ≤ ps q
        · rw [if_pos (by omega), if_pos e2]
        · rw [if_neg (by omega), if_neg e2]
    · rw [j3 a b ha hb, k2 a b ha hb, am_u_ne (by decide)]
      by_cases e : k ≤ ps a ∧ ps a < ps b
      · rw [if_pos e]
        by_cases e2 : k + 1 ≤ ps a ∧ ps a < ps b
        · rw [if_pos e2]
        · rw [if_neg e2, if_pos (by omega)]
      · rw [if_neg e, if_neg (by omega), if_neg (by omega)]
set_option maxHeartbeats 2000000 in
set_option maxRecDepth 100000 in
theorem r_looks (d : Nat) (Q : am_Q) {o ps cm : Nat → Nat} {w : Nat → Nat} (hwf : WF A B) (hb : RB A w σ) (hF : rF A σ) (ho : hor σ (cnt A) o) (hbj : bij (cnt A) o ps) (hcm : ∀ q, q < cnt A → σ 72 q = Int32.ofInt (cm q : Int) ∧ cm q < 128)
    (h : ∀ (σ' : Nat → Nat → Int32) (τ' : Nat → Nat → Int64), (∀ c, c ≠ 56 → c ≠ 68 → c ≠ 72 → c ≠ 73 → σ' c = σ c) → (∀ i, i ≠ 25 → i ≠ 26 → σ' 56 i = σ 56 i) → σ' 56 26 = σ 56 26 + Int32.ofInt 1 → (∀ q, q < cnt A → τ' 74 q = τ 74 q + Int64.ofInt (WRn A (fun q => stP (cnt A) (A 3 1) (ps q)) (fun _ => true) q)) →
      σ' 56 25 = σ 56 25 + Int32.ofInt (if soA A (fun q => stP (cnt A) (A 3 1) (ps q)) (A 0 1) = true then 1 else 0) → (∀ q, q < cnt A → σ' 72 q = if soA A (fun q => stP (cnt A) (A 3 1) (ps q)) (A 0 1) = true then Int32.ofInt ((cm q ||| 2 ^ ps q : Nat) : Int) else σ 72 q) → (∀ a b, a < cnt A → b < cnt A → σ' 73 (7 * a + b) = if soA A (fun q => stP (cnt A) (A 3 1) (ps q)) (A 0 1) = true ∧ ps a < ps b then Int32.ofInt 1 else σ 73 (7 * a + b)) → Q none (lo_M n w3 g σ' τ' r1 r2)) :
    am_d (d + 3) 176 [.ref 56] 0 0 (lo_M n w3 g σ τ r1 r2) Q := by
  have hc := cnt_le A
  refine am_goT T_X10_looks [.ref 56, .null, .null] rfl rfl (fun pc => Nat.beq pc 2) 60 ?_
  refine r_lk_seat (d + 2) Q hc hwf.2.2.2.1.2.1 hbj (cnt A) 0 σ (by omega) ho hb.1.1 (hb.2.2.1 1 (by omega)) (fun j hj => by omega) (fun σ1 k1 k2 => ?_)
  refine am_wp_go (am_d_cm _) (fun pc => Nat.beq pc 60) 60 ?_
  show am_wp _ _ _ (60, [.ref 56, .int (Int32.ofInt 0), .null], [], 0, 0) (lo_M n w3 g (am_u σ1 56 26 (σ1 56 26 + Int32.ofInt 1)) τ r1 r2)
  have st2 : ∀ q, q < cnt A → am_u σ1 56 26 (σ1 56 26 + Int32.ofInt 1) 68 q = Int32.ofInt (stP (cnt A) (A 3 1) (ps q)) ∧ -1 ≤ stP (cnt A) (A 3 1) (ps q) ∧ stP (cnt A) (A 3 1) (ps q) ≤ 6 := by
    intro q hq
    obtain ⟨b1, b2⟩ := hbj.2 q hq
    have sr := stP_rng (lw := A 3 1) hc b1
    have := k2 (ps q) b1
    rw [b2] at this
    exact ⟨by rw [am_u_ne (by decide)]; exact this, by omega, by omega⟩
  have fr1 : ∀ c, c ≠ 56 → c ≠ 68 → am_u σ1 56 26 (σ1 56 26 + Int32.ofInt 1) c = σ c := fun c e1 e2 => by rw [am_u_ne e1, k1 c e2]
  have fr2 : ∀ i, i ≠ 26 → am_u σ1 56 26 (σ1 56 26 + Int32.ofInt 1) 56 i = σ 56 i := fun i e => by rw [am_u_at, if_neg e, k1 56 (by decide)]
  have fr3 : am_u σ1 56 26 (σ1 56 26 + Int32.ofInt 1) 56 26 = σ 56 26 + Int32.ofInt 1 := by rw [am_u_at, if_pos rfl, k1 56 (by decide)]
  generalize am_u σ1 56 26 (σ1 56 26 + Int32.ofInt 1) = σ2 at st2 fr1 fr2 fr3
  have hb2 : RB A w σ2 := RB_fr hb (fr2 8 (by decide)) (fun c e1 e2 => fr1 c (by omega) (by omega))
  refine r_lk_sum d Q hwf hb2 st2 (cnt A) 0 τ (by omega) (fun τ' t1 t2 => ?_)
  refine am_wp_go (am_d_cm _) (fun pc => Nat.beq pc 112) 60 ?_
  have hF2 : rF A σ2 := by
    unfold rF
    rw [fr2 19 (by decide), fr1 70 (by decide) (by decide)]
    exact hF
  refine r_isSo (d + 1) _ hwf hb2.1.1 hF2 (fun q hq => ⟨(st2 q hq).1, by have := st2 q hq; unfold zr; omega⟩) ?_
  by_cases c : soA A (fun q => stP (cnt A) (A 3 1) (ps q)) (A 0 1) = true
  · rw [if_pos c]
    refine And.intro (fun q => absurd q (by decide)) (fun _ => ?_)
    show am_wp _ _ _ (112, [.ref 56, .int (Int32.ofInt 0), .null], [], 0, 0) (lo_M n w3 g (am_u σ2 56 25 (σ2 56 25 + Int32.ofInt 1)) τ' r1 r2)
    refine r_lk_so (d + 2) Q (cm := cm) hc hbj (cnt A) 0 _ _ (by omega) (fun j hj => by rw [am_u_ne (by decide), fr1 71 (by decide) (by decide)]; exact ho j hj) (by rw [am_u_at, if_neg (by decide)]; exact hb2.1.1) (fun q hq _ => by rw [am_u_ne (by decide), fr1 72 (by decide) (by decide)]; exact hcm q hq) (fun σ' j1 j2 j3 => ?_)
    refine h σ' τ' (fun c e1 e2 e3 e4 => by rw [j1 c e3 e4, am_u_ne e1, fr1 c e1 e2]) (fun i e1 e2 => by rw [j1 56 (by decide) (by decide), am_u_at, if_neg e1, fr2 i e2]) (by rw [j1 56 (by decide) (by decide), am_u_at, if_neg (by decide), fr3]) (fun q hq => t1 q (by omega) hq) ?_ (fun q hq => ?_) (fun a b ha hb => ?_)
    · rw [j1 56 (by decide) (by decide), am_u_at, if_pos rfl, fr2 25 (by decide), if_pos c]
    · rw [j2 q hq, if_pos (by omega), if_pos c]
    · rw [j3 a b ha hb, am_u_ne (by decide), fr1 73 (by decide) (by decide)]
      by_cases e : ps a < ps b
      · rw [if_pos ⟨by omega, e⟩, if_pos ⟨c, e⟩]
      · rw [if_neg (fun q => e q.2), if_neg (fun q => e q.2)]
  · rw [if_neg c]
    refine And.intro (fun _ => ?_) (fun q => absurd rfl q)
    refine h σ2 τ' (fun c e1 e2 e3 e4 => fr1 c e1 e2) (fun i e1 e2 => fr2 i e2) fr3 (fun q hq => t1 q (by omega) hq) ?_ (fun q hq => ?_) (fun a b ha hb => ?_)
    · rw [fr2 25 (by decide), if_neg c]
      show _ = _ + (0 : Int32)
      rw [Int32.add_zero]
    · rw [if_neg c, fr1 72 (by decide) (by decide)]
    · rw [if_neg (fun q => c q.1), fr1 73 (by decide) (by decide)]
end RLK
