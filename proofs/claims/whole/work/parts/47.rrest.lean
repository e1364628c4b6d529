/-! the reference: rest -/
def morF (f : Nat → Int) (now : Int) : Nat → Nat → Bool
  | 0, _ => false
  | k + 1, c => if now < f c then true else morF f now k (c + 1)
def allN (b : Nat → Bool) : Nat → Nat → Bool
  | 0, _ => true
  | k + 1, p => if b p = true then false else allN b k (p + 1)
theorem ist_allN {W : Nat → Nat → Int} {L : Nat} {sf : Nat → Nat} {row : Nat} {b : Nat → Bool} : ∀ (k p : Nat), (∀ q, p ≤ q → q < p + k → wlv W L (sf q) row q (L + 1) 0 = b q) → ist W L sf row k p = allN b k p
  | 0, _, _ => rfl
  | k + 1, p, h => by
    unfold ist allN
    rw [h p (by omega) (by omega), ist_allN k (p + 1) (fun q q1 q2 => h q (by omega) (by omega))]
theorem wlv_morF {W : Nat → Nat → Int} {L sh row p : Nat} {f : Nat → Int} : ∀ (k c : Nat), (∀ j, c ≤ j → j < c + k → W (ins L sh row j) p = f j) → wlv W L sh row p k c = morF f (W row p) k c
  | 0, _, _ => rfl
  | k + 1, c, h => by
    unfold wlv morF
    rw [h c (by omega) (by omega), wlv_morF k (c + 1) (fun q q1 q2 => h q (by omega) (by omega))]
/-- the digits of a row in which one digit is another -/
theorem chc_ins0 {P Q M row c : Nat} (hP : 0 < P) (hM : 0 < M) (hc : c < M) : (row - row / P % M * P + c * P) / P % M = c ∧ (∀ R, Q = P * M * R → 0 < R → (row - row / P % M * P + c * P) / Q = row / Q) ∧ (∀ R, P = Q * M * R → 0 < R → 0 < Q → (row - row / P % M * P + c * P) / Q % M = row / Q % M) := by
  have e1 := Nat.div_add_mod (row / P) M
  have e2 := Nat.div_add_mod row P
  have l2 := Nat.mod_lt row hP
  have l1 := Nat.mod_lt (row / P) hM
  have e3 : P * (row / P) = P * M * (row / P / M) + row / P % M * P := by
    conv => lhs; rw [← e1]
    rw [Nat.mul_add, Nat.mul_assoc, Nat.mul_comm P (row / P % M)]
  have e4 : row - row / P % M * P + c * P = (row % P) + P * (c + M * (row / P / M)) := by
    rw [Nat.mul_add, ← Nat.mul_assoc, Nat.mul_comm P c]
    omega
  have e5 : row = (row % P) + P * (row / P % M + M * (row / P / M)) := by
    rw [Nat.mul_add, ← Nat.mul_assoc, Nat.mul_comm P (row / P % M)]
    omega
  refine ⟨?_, ?_, ?_⟩
  · rw [e4, Nat.add_mul_div_left _ _ hP, Nat.div_eq_of_lt l2, Nat.zero_add, Nat.add_mul_mod_self_left, Nat.mod_eq_of_lt hc]
  · intro R hQ hR
    rw [hQ, ← Nat.div_div_eq_div_mul, ← Nat.div_div_eq_div_mul, ← Nat.div_div_eq_div_mul, ← Nat.div_div_eq_div_mul]
    congr 1
    rw [e4, Nat.add_mul_div_left _ _ hP, Nat.div_eq_of_lt l2, Nat.zero_add, Nat.add_mul_div_left _ _ hM, Nat.div_eq_of_lt hc, Nat.zero_add]
  · intro R hQ hR hq
    have e6 : ∀ x, ((row % P) + P * x) / Q % M = row % P / Q % M := by
      intro x
      have : P * x = Q * (M * (R * x)) := by
        rw [hQ, Nat.mul_assoc, Nat.mul_assoc]
      rw [this, Nat.add_mul_div_left _ _ hq, Nat.add_mul_mod_self_left]
    rw [e4, e6]
    conv => rhs; rw [e5]
    rw [e6]
theorem chcR_ins {n s t row c : Nat} (hc : c < 4) : chc 3 (2 * t) (ins 3 (2 * s) row c) = if t = s then c else chc 3 (2 * t) row := by
  have hP : 0 < 2 ^ (2 * s) := Nat.pow_pos (by omega)
  have hT : 0 < 2 ^ (2 * t) := Nat.pow_pos (by omega)
  obtain ⟨h1, h2, h3⟩ := chc_ins0 (P := 2 ^ (2 * s)) (Q := 2 ^ (2 * t)) (M := 4) (row := row) (c := c) hP (by omega) hc
  unfold chc ins
  by_cases e : t = s
  · subst e
    rw [if_pos rfl]
    exact h1
  · rw [if_neg e]
    rcases Nat.lt_or_ge s t with q | q
    · have hR : 2 ^ (2 * t) = 2 ^ (2 * s) * 4 * 2 ^ (2 * (t - s - 1)) := by
        rw [show (4 : Nat) = 2 ^ 2 by decide, ← Nat.pow_add, ← Nat.pow_add]
        congr 1
        omega
      show _ % 4 = _ % 4
      rw [h2 _ hR (Nat.pow_pos (by omega))]
    · have hR : 2 ^ (2 * s) = 2 ^ (2 * t) * 4 * 2 ^ (2 * (s - t - 1)) := by
        rw [show (4 : Nat) = 2 ^ 2 by decide, ← Nat.pow_add, ← Nat.pow_add]
        congr 1
        omega
      exact h3 _ hR (Nat.pow_pos (by omega)) hT
theorem wr_ins {A : aN} {row p c q : Nat} (hp : p < cnt A) (hq : q < cnt A) (hc : c < 4) : wr A (ins 3 (rsf A p) row c) q = upw (wr A row) p (A 3 5 * c) q := by
  unfold wr rsf upw
  rw [chcR_ins (n := 0) hc]
  by_cases e : q = p
  · subst e
    rw [if_pos rfl, if_pos rfl]
  · rw [if_neg e, if_neg (by omega)]
theorem sh4 : ∀ n : Nat, n < 7 → Int32.ofInt 1 <<< (Int32.ofInt ((2 * n : Nat) : Int) &&& 31) = Int32.ofInt ((4 ^ n : Nat) : Int) := by decide +kernel
section RRE
variable {n w3 : Nat} {g : Nat → Nat × Nat} {σ : Nat → Nat → Int32} {τ : Nat → Nat → Int64} {r1 r2 : Nat} {A : aN} {B : aZ}
set_option maxHeartbeats 2000000 in
set_option maxRecDepth 100000 in
theorem r_rests_in (d : Nat) (Q : am_Q) {w : Nat → Nat} {p : Nat} {own : Int32} {now : Int} (hwf : WF A B) (hw : ∀ p, w p ≤ 59) (hp : p < cnt A) (hnow : zr now) : ∀ (k c x : Nat) (σ : Nat → Nat → Int32) (mo : Bool), c + k = 4 → RB A (upw w p x) σ →
    (∀ (σ' : Nat → Nat → Int32) (x' : Nat), (∀ c, c ≠ 64 → c ≠ 68 → σ' c = σ c) → (∀ q, q ≠ p → σ' 64 q = σ 64 q) → RB A (upw w p x') σ' → am_wp (am_d (d + 6)) T_X10_rests Q (77, [.ref 56, .int (Int32.ofInt (p : Int)), .int own, .int (Int32.ofInt now), .int (if (mo || morF (fun c => HZ A (A 3 1) (fun _ => true) (upw w p (A 3 5 * c)) p) now k c) = true then Int32.ofInt 1 else Int32.ofInt 0), .int (Int32.ofInt 4)], [], 0, 0) (lo_M n w3 g σ' τ r1 r2)) →
    am_wp (am_d (d + 6)) T_X10_rests Q (29, [.ref 56, .int (Int32.ofInt (p : Int)), .int own, .int (Int32.ofInt now), .int (if mo = true then Int32.ofInt 1 else Int32.ofInt 0), .int (Int32.ofInt (c : Int))], [], 0, 0) (lo_M n w3 g σ τ r1 r2) := by
  have hc7 := cnt_le A
  have hst := hwf.2.2.2.1.2.2.2.2.2
  intro k
  induction k with
  | zero =>
    intro c x σ mo hk hb h
    have e : c = 4 := by omega
    subst e
    have h := h σ x (fun _ _ _ => rfl) (fun _ _ => rfl) hb
    refine am_wp_go (am_d_cm _) (fun pc => Nat.beq pc 29 || Nat.beq pc 77) 60 ?_
    refine And.intro (fun c1 => ?_) (fun c1 => absurd (by decide) c1)
    rw [show (mo || morF (fun c => HZ A (A 3 1) (fun _ => true) (upw w p (A 3 5 * c)) p) now 0 4) = mo by cases mo <;> rfl] at h
    exact h
  | succ k ih =>
    intro c x σ mo hk hb h
    refine am_wp_go (am_d_cm _) (fun pc => Nat.beq pc 29 || Nat.beq pc 77) 60 ?_
    refine And.intro (fun c1 => ?_) (fun c1 => ?_)
    · rw [zle (by unfold zr; omega) (by unfold zr; omega)] at c1
      omega
    refine ixi 5 6 (by omega) ?_
    refine ixi p 7 (by omega) ?_
    have ev : Int32.ofInt (c : Int) * σ 66 5 = Int32.ofInt ((A 3 5 * c : Nat) : Int) := by
      rw [hb.2.2.1 5 (by omega), zmul, Int.natCast_mul, Int.mul_comm]
    have hlt : A 3 5 * c ≤ 59 := by
      have : A 3 5 * c ≤ 15 * 3 := Nat.mul_le_mul hst.2 (by omega)
      omega
    have hb1 := RB_up (v := A 3 5 * c) hb
    have fin : ∀ (mo' : Bool) (σ1 : Nat → Nat → Int32), (∀ c, c ≠ 64 → c ≠ 68 → σ1 c = σ c) → (∀ q, q ≠ p → σ1 64 q = σ 64 q) → RB A (upw w p (A 3 5 * c)) σ1 → (mo' || morF (fun c => HZ A (A 3 1) (fun _ => true) (upw w p (A 3 5 * c)) p) now k (c + 1)) = (mo || morF (fun c => HZ A (A 3 1) (fun _ => true) (upw w p (A 3 5 * c)) p) now (k + 1) c) → am_wp (am_d (d + 6)) T_X10_rests Q (29, [.ref 56, .int (Int32.ofInt (p : Int)), .int own, .int (Int32.ofInt now), .int (if mo' = true then Int32.ofInt 1 else Int32.ofInt 0), .int (Int32.ofInt (c : Int) + Int32.ofInt 1)], [], 0, 0) (lo_M n w3 g σ1 τ r1 r2) := by
      intro mo' σ1 j1 j2 j3 j4
      rw [zadd]
      refine ih (c + 1) (A 3 5 * c) σ1 mo' (by omega) j3 (fun σ' x' m1 m2 m3 => ?_)
      rw [j4]
      exact h σ' x' (fun c e1 e2 => by rw [m1 c e1 e2, j1 c e1 e2]) (fun q hq => by rw [m2 q hq, j2 q hq]) m3
    cases mo with
    | true =>
      refine And.intro (fun q => absurd q (by decide)) (fun _ => ?_)
      show am_wp _ _ _ (29, [.ref 56, .int (Int32.ofInt (p : Int)), .int own, .int (Int32.ofInt now), .int (Int32.ofInt 1), .int (Int32.ofInt (c : Int) + Int32.ofInt 1)], [], 0, 0) (lo_M n w3 g (am_u σ 64 p (Int32.ofInt (c : Int) * σ 66 5)) τ r1 r2)
      rw [ev]
      exact fin true _ (fun c e1 e2 => am_u_ne e1) (fun q hq => by rw [am_u_at, if_neg hq]) hb1 rfl
    | false =>
      refine And.intro (fun _ => ?_) (fun q => absurd rfl q)
      show am_d (d + 6) 154 [.ref 56, .int (Int32.ofInt (p : Int))] 0 0 (lo_M n w3 g (am_u σ 64 p (Int32.ofInt (c : Int) * σ 66 5)) τ r1 r2) _
      rw [ev]
      refine r_hasOf d _ hwf (upw_le hw hlt) hb1 hp (fun σ' k1 => ?_)
      have hr := HZ_rng (A := A) (B := B) hwf (lw := A 3 1) (mem := fun _ => true) (w := upw w p (A 3 5 * c)) hp
      have f1 : ∀ c', c' ≠ 64 → c' ≠ 68 → σ' c' = σ c' := fun c' e1 e2 => by rw [k1 c' e2, am_u_ne e1]
      have f2 : ∀ q, q ≠ p → σ' 64 q = σ 64 q := fun q hq => by rw [k1 64 (by decide), am_u_at, if_neg hq]
      refine And.intro (fun c2 => ?_) (fun c2 => ?_)
      · rw [zle (by unfold zr; omega) hnow] at c2
        refine fin false σ' f1 f2 (RB_68 hb1 k1) ?_
        show morF _ now k (c + 1) = (if now < HZ A (A 3 1) (fun _ => true) (upw w p (A 3 5 * c)) p then true else morF _ now k (c + 1))
        rw [if_neg (by omega)]
      · rw [zle (by unfold zr; omega) hnow] at c2
        refine fin true σ' f1 f2 (RB_68 hb1 k1) ?_
        show true = (if now < HZ A (A 3 1) (fun _ => true) (upw w p (A 3 5 * c)) p then true else morF _ now k (c + 1))
        rw [if_pos (by omega)]
/-- would one leave, who waits w -/
def lvR (A : aN) (w : Nat → Nat) (p : Nat) : Bool := morF (fun c => HZ A (A 3 1) (fun _ => true) (upw w p (A 3 5 * c)) p) (HZ A (A 3 1) (fun _ => true) w p) 4 0
set_option maxHeartbeats 2000000 in
set_option maxRecDepth 100000 in
theorem r_rests_loop (d : Nat) (Q : am_Q) {w : Nat → Nat} (hwf : WF A B) (hw : ∀ p, w p ≤ 59) : ∀ (k p : Nat) (σ : Nat → Nat → Int32) (u2 u3 u4 u5 : Value), p + k = cnt A → RB A w σ →
    (∀ σ' : Nat → Nat → Int32, (∀ c, c ≠ 68 → σ' c = σ c) → Q (some (.int (if allN (lvR A w) k p = true then 1 else 0))) (lo_M n w3 g σ' τ r1 r2)) →
    am_wp (am_d (d + 6)) T_X10_rests Q (2, [.ref 56, .int (Int32.ofInt (p : Int)), u2, u3, u4, u5], [], 0, 0) (lo_M n w3 g σ τ r1 r2) := by
  have hc := cnt_le A
  intro k
  induction k with
  | zero =>
    intro p σ u2 u3 u4 u5 hp hb h
    refine am_wp_go (am_d_cm _) (fun pc => Nat.beq pc 2 || Nat.beq pc 29) 60 ?_
    refine And.intro (fun c1 => ?_) (fun c1 => absurd ?_ c1)
    · exact And.intro (Or.inr rfl) (h σ (fun _ _ => rfl))
    · show σ 56 8 ≤ _
      rw [hb.1.1, zle (by unfold zr; omega) (by unfold zr; omega)]
      omega
  | succ k ih =>
    intro p σ u2 u3 u4 u5 hp hb h
    have hpc : p < cnt A := by omega
    refine am_wp_go (am_d_cm _) (fun pc => Nat.beq pc 2 || Nat.beq pc 29) 60 ?_
    refine And.intro (fun c1 => ?_) (fun c1 => ?_)
    · have c1 : σ 56 8 ≤ Int32.ofInt (p : Int) := c1
      rw [hb.1.1, zle (by unfold zr; omega) (by unfold zr; omega)] at c1
      omega
    refine ixi p 7 (by omega) ?_
    refine r_hasOf d _ hwf hw hb hpc (fun σ1 k1 => ?_)
    have hr := HZ_rng (A := A) (B := B) hwf (lw := A 3 1) (mem := fun _ => true) (w := w) hpc
    refine r_rests_in d Q hwf hw hpc (by unfold zr; omega) 4 0 (w p) σ1 false (by omega) (by rw [upw_same]; exact RB_68 hb k1) (fun σ2 x' m1 m2 m3 => ?_)
    rw [show (false || morF (fun c => HZ A (A 3 1) (fun _ => true) (upw w p (A 3 5 * c)) p) (HZ A (A 3 1) (fun _ => true) w p) 4 0) = lvR A w p by unfold lvR; rw [Bool.false_or]]
    refine am_wp_go (am_d_cm _) (fun pc => Nat.beq pc 2 || Nat.beq pc 29) 60 ?_
    refine ixi p 7 (by omega) ?_
    have e64 : (am_u σ2 64 p (σ 64 p)) 64 = σ 64 := u64 (p := p) (fun q hq => by rw [am_u_at, if_neg hq, m2 q hq, k1 64 (by decide)]) (by rw [am_u_at, if_pos rfl])
    have fr : ∀ c, c ≠ 68 → (am_u σ2 64 p (σ 64 p)) c = σ c := by
      intro c e
      by_cases c2 : c = 64
      · rw [c2, e64]
      · rw [am_u_ne c2, m1 c c2 e, k1 c e]
    unfold allN at h
    by_cases c2 : lvR A w p = true
    · rw [if_pos c2]
      rw [if_pos c2] at h
      refine And.intro (fun q => absurd q (by decide)) (fun _ => ?_)
      exact And.intro (Or.inl rfl) (h _ fr)
    · rw [if_neg c2]
      rw [if_neg c2] at h
      refine And.intro (fun _ => ?_) (fun q => absurd rfl q)
      show am_wp _ _ _ (2, [.ref 56, .int (Int32.ofInt (p : Int) + Int32.ofInt 1), _, _, _, _], [], 0, 0) (lo_M n w3 g (am_u σ2 64 p (σ 64 p)) τ r1 r2)
      rw [zadd]
      exact ih (p + 1) _ _ _ _ _ (by omega) (RB_68 hb fr) (fun σ' j1 => h σ' (fun c e => by rw [j1 c e, fr c e]))
set_option maxRecDepth 100000 in
theorem r_rests (d : Nat) (Q : am_Q) {w : Nat → Nat} (hwf : WF A B) (hw : ∀ p, w p ≤ 59) (hb : RB A w σ)
    (h : ∀ σ' : Nat → Nat → Int32, (∀ c, c ≠ 68 → σ' c = σ c) → Q (some (.int (if allN (lvR A w) (cnt A) 0 = true then 1 else 0))) (lo_M n w3 g σ' τ r1 r2)) : am_d (d + 7) 158 [.ref 56] 0 0 (lo_M n w3 g σ τ r1 r2) Q := by
  refine am_goT T_X10_rests [.ref 56, .null, .null, .null, .null, .null] rfl rfl (fun pc => Nat.beq pc 2) 60 ?_
  exact r_rests_loop d Q hwf hw (cnt A) 0 σ _ _ _ _ (by omega) hb h
/-- waiting by a row, of those who are there -/
def wrR (A : aN) (row q : Nat) : Nat := if q < cnt A then wr A row q else A 4 q
theorem wrR_le (hwf : WF A B) (row : Nat) : ∀ q, wrR A row q ≤ 59 := by
  intro q
  unfold wrR
  split
  · have := wr_le hwf row q
    omega
  · exact hwf.2.2.2.2.1 q
theorem rest_row (row : Nat) : allN (lvR A (wrR A row)) (cnt A) 0 = ist (Wr A) 3 (rsf A) row (cnt A) 0 := by
  refine (ist_allN (cnt A) 0 (fun p _ hp => ?_)).symm
  have hp : p < cnt A := by omega
  have e0 : Wr A row p = HZ A (A 3 1) (fun _ => true) (wrR A row) p := HZ_w hp (fun q hq => by unfold wrR; rw [if_pos hq])
  unfold lvR
  rw [← e0]
  refine wlv_morF 4 0 (fun c _ hc => ?_)
  refine HZ_w hp (fun q hq => ?_)
  rw [wr_ins hp hq (by omega)]
  unfold upw wrR
  by_cases e : q = p
  · rw [if_pos e, if_pos e]
  · rw [if_neg e, if_neg e, if_pos hq]
set_option maxHeartbeats 1000000 in
set_option maxRecDepth 100000 in
theorem r_fr_set (d : Nat) (Q : am_Q) {row : Nat} (hc6 : cnt A ≤ 6) (hrow : row < 4 ^ cnt A) : ∀ (k p : Nat) (σ : Nat → Nat → Int32), p + k = cnt A → (σ 56 8 = Int32.ofInt (cnt A : Int) ∧ σ 66 5 = Int32.ofInt (A 3 5 : Int)) →
    (∀ σ' : Nat → Nat → Int32, (∀ c, c ≠ 64 → σ' c = σ c) → (∀ q, σ' 64 q = if p ≤ q ∧ q < cnt A then Int32.ofInt (wr A row q : Int) else σ 64 q) → am_wp (am_d d) T_X10_findRest Q (93, [.ref 56, .int (Int32.ofInt (row : Int)), .int (Int32.ofInt (cnt A : Int))], [], 0, 0) (lo_M n w3 g σ' τ r1 r2)) →
    am_wp (am_d d) T_X10_findRest Q (52, [.ref 56, .int (Int32.ofInt (row : Int)), .int (Int32.ofInt (p : Int))], [], 0, 0) (lo_M n w3 g σ τ r1 r2) := by
  have h4 : 4 ^ cnt A ≤ 4 ^ 6 := Nat.pow_le_pow_right (by omega) hc6
  have h4 : 4 ^ cnt A ≤ 4096 := h4
  intro k
  induction k with
  | zero =>
    intro p σ hp hs h
    have e : p = cnt A := by omega
    subst e
    refine am_wp_go (am_d_cm _) (fun pc => Nat.beq pc 52 || Nat.beq pc 93) 60 ?_
    refine And.intro (fun c1 => ?_) (fun c1 => absurd ?_ c1)
    · exact h σ (fun _ _ => rfl) (fun q => by rw [if_neg (by omega)])
    · show σ 56 8 ≤ _
      rw [hs.1]
      exact Int32.le_refl _
  | succ k ih =>
    intro p σ hp hs h
    refine am_wp_go (am_d_cm _) (fun pc => Nat.beq pc 52 || Nat.beq pc 93) 60 ?_
    refine And.intro (fun c1 => ?_) (fun c1 => ?_)
    · have c1 : σ 56 8 ≤ Int32.ofInt (p : Int) := c1
      rw [hs.1, zle (by unfold zr; omega) (by unfold zr; omega)] at c1
      omega
    refine ixi 5 6 (by omega) ?_
    refine ixi p 7 (by omega) ?_
    have ev : ((Int32.ofInt (row : Int) >>> ((Int32.ofInt 2 * (σ 56 8 - Int32.ofInt 1 - Int32.ofInt (p : Int))) &&& 31)) &&& Int32.ofInt 3) * σ 66 5 = Int32.ofInt (wr A row p : Int) := by
      rw [hs.1, hs.2, zsub, zsub, zmul, show (2 : Int) * ((cnt A : Int) - 1 - (p : Int)) = ((2 * (cnt A - 1 - p) : Nat) : Int) by omega, show Int32.ofInt 3 = Int32.ofInt ((3 : Nat) : Int) from rfl, chcI (k := 2) (by omega) (by omega) (by decide) (by decide), zmul]
      unfold wr
      rw [Int.natCast_mul, Int.mul_comm]
    show am_wp _ _ _ (52, [.ref 56, .int (Int32.ofInt (row : Int)), .int (Int32.ofInt (p : Int) + Int32.ofInt 1)], [], 0, 0) (lo_M n w3 g (am_u σ 64 p (((Int32.ofInt (row : Int) >>> ((Int32.ofInt 2 * (σ 56 8 - Int32.ofInt 1 - Int32.ofInt (p : Int))) &&& 31)) &&& Int32.ofInt 3) * σ 66 5)) τ r1 r2)
    rw [ev, zadd]
    refine ih (p + 1) _ (by omega) ⟨by rw [am_u_ne (by decide)]; exact hs.1, by rw [am_u_ne (by decide)]; exact hs.2⟩ (fun σ' k1 k2 => h σ' (fun c e => by rw [k1 c e, am_u_ne e]) (fun q => ?_))
    rw [k2 q, am_u_at]
    by_cases e : q = p
    · subst e
      rw [if_neg (by omega), if_pos rfl, if_pos (by omega)]
    · rw [if_neg e]
      by_cases e2 : p ≤ q ∧ q < cnt A
      · rw [if_pos (by omega), if_pos e2]
      · rw [if_neg (by omega), if_neg e2]
def rsB (A : aN) (row : Nat) : Bool := ist (Wr A) 3 (rsf A) row (cnt A) 0
set_option maxHeartbeats 2000000 in
set_option maxRecDepth 100000 in
theorem r_fr_loop (d : Nat) (Q : am_Q) (hwf : WF A B) (hc6 : cnt A ≤ 6) : ∀ (k row : Nat) (x : Nat × Int) (wc : Nat → Nat) (σ : Nat → Nat → Int32) (u2 : Value), row + k = 4 ^ cnt A → RB A wc σ → (∀ q, cnt A ≤ q → wc q = A 4 q) → (x.1 = 0 ↔ x.2 = -1) → (-1 ≤ x.2 ∧ x.2 ≤ row) → x.1 ≤ row → σ 56 17 = Int32.ofInt (x.1 : Int) → σ 56 18 = Int32.ofInt x.2 →
    (∀ (σ' : Nat → Nat → Int32) (u2 : Value), (∀ c, c ≠ 56 → c ≠ 64 → c ≠ 68 → σ' c = σ c) → (∀ i, i ≠ 17 → i ≠ 18 → σ' 56 i = σ 56 i) → (∀ q, 7 ≤ q → σ' 64 q = σ 64 q) → σ' 56 17 = Int32.ofInt ((stl (rsB A) k row x).1 : Int) → σ' 56 18 = Int32.ofInt (stl (rsB A) k row x).2 → am_wp (am_d (d + 7)) T_X10_findRest Q (136, [.ref 56, .int (Int32.ofInt ((4 ^ cnt A : Nat) : Int)), u2], [], 0, 0) (lo_M n w3 g σ' τ r1 r2)) →
    am_wp (am_d (d + 7)) T_X10_findRest Q (38, [.ref 56, .int (Int32.ofInt (row : Int)), u2], [], 0, 0) (lo_M n w3 g σ τ r1 r2) := by
  have h4 : 4 ^ cnt A ≤ 4 ^ 6 := Nat.pow_le_pow_right (by omega) hc6
  have h4 : 4 ^ cnt A ≤ 4096 := h4
  have hsh : ∀ σ : Nat → Nat → Int32, σ 56 8 = Int32.ofInt (cnt A : Int) → Int32.ofInt 1 <<< ((Int32.ofInt 2 * σ 56 8) &&& 31) = Int32.ofInt ((4 ^ cnt A : Nat) : Int) := by
    intro σ e
    rw [e, zmul, show (2 : Int) * (cnt A : Int) = ((2 * cnt A : Nat) : Int) by omega]
    exact sh4 (cnt A) (by omega)
  intro k
  induction k with
  | zero =>
    intro row x wc σ u2 hk hb hwc hx hx2 hx1 h17 h18 h
    have e : row = 4 ^ cnt A := by omega
    refine am_wp_go (am_d_cm _) (fun pc => Nat.beq pc 38 || Nat.beq pc 52 || Nat.beq pc 136) 60 ?_
    refine And.intro (fun c1 => ?_) (fun c1 => absurd ?_ c1)
    · rw [e]
      exact h σ u2 (fun _ _ _ _ => rfl) (fun _ _ _ => rfl) (fun _ _ => rfl) h17 h18
    · show Int32.ofInt 1 <<< ((Int32.ofInt 2 * σ 56 8) &&& 31) ≤ _
      rw [hsh σ hb.1.1, e]
      exact Int32.le_refl _
  | succ k ih =>
    intro row x wc σ u2 hk hb hwc hx hx2 hx1 h17 h18 h
    refine am_wp_go (am_d_cm _) (fun pc => Nat.beq pc 38 || Nat.beq pc 52 || Nat.beq pc 136) 60 ?_
    refine And.intro (fun c1 => ?_) (fun c1 => ?_)
    · have c1 : Int32.ofInt 1 <<< ((Int32.ofInt 2 * σ 56 8) &&& 31) ≤ Int32.ofInt (row : Int) := c1
      rw [hsh σ hb.1.1, zle (zrN (by omega)) (zrN (by omega)), Int.ofNat_le] at c1
      omega
    refine r_fr_set (d + 7) Q hc6 (by omega) (cnt A) 0 σ (by omega) ⟨hb.1.1, hb.2.2.1 5 (by omega)⟩ (fun σ1 k1 k2 => ?_)
    have hb1 : RB A (wrR A row) σ1 := by
      obtain ⟨⟨p1, p2⟩, hR, hS, hL, hW⟩ := hb
      refine ⟨⟨?_, ?_⟩, ?_, ?_, ?_, ?_⟩
      · rw [k1 56 (by decide)]; exact p1
      · rw [k1 62 (by decide), k1 63 (by decide)]; exact p2
      · unfold rR; rw [k1 65 (by decide)]; exact hR
      · unfold rS; rw [k1 66 (by decide)]; exact hS
      · unfold rL; rw [k1 67 (by decide)]; exact hL
      · intro q hq
        rw [k2 q]
        unfold wrR
        by_cases e : q < cnt A
        · rw [if_pos ⟨by omega, e⟩, if_pos e]
        · rw [if_neg (fun r => e r.2), if_neg e, hW q hq, hwc q (by omega)]
    refine am_wp_go (am_d_cm _) (fun pc => Nat.beq pc 38 || Nat.beq pc 52 || Nat.beq pc 136) 60 ?_
    refine r_rests d _ hwf (wrR_le hwf row) hb1 (fun σ2 m1 => ?_)
    rw [rest_row]
    have hwc' : ∀ q, cnt A ≤ q → wrR A row q = A 4 q := fun q hq => by unfold wrR; rw [if_neg (by omega)]
    have f17 : σ2 56 17 = Int32.ofInt (x.1 : Int) := by rw [m1 56 (by decide), k1 56 (by decide)]; exact h17
    have f18 : σ2 56 18 = Int32.ofInt x.2 := by rw [m1 56 (by decide), k1 56 (by decide)]; exact h18
    have fr1 : ∀ c, c ≠ 56 → c ≠ 64 → c ≠ 68 → σ2 c = σ c := fun c e1 e2 e3 => by rw [m1 c e3, k1 c e2]
    have fr2 : ∀ i, σ2 56 i = σ 56 i := fun i => by rw [m1 56 (by decide), k1 56 (by decide)]
    have fr3 : ∀ q, 7 ≤ q → σ2 64 q = σ 64 q := fun q hq => by rw [m1 64 (by decide), k2 q, if_neg (by omega)]
    have hb2 := RB_68 hb1 m1
    unfold stl at h
    by_cases c2 : ist (Wr A) 3 (rsf A) row (cnt A) 0 = true
    · rw [if_pos c2]
      rw [if_pos (show rsB A row = true from c2)] at h
      refine And.intro (fun q => absurd q (by decide)) (fun _ => ?_)
      have go : ∀ f : Int, f = (if x.1 = 0 then (row : Int) else x.2) → am_wp (am_d (d + 7)) T_X10_findRest Q (38, [.ref 56, .int (Int32.ofInt (row : Int) + Int32.ofInt 1), .int (Int32.ofInt (cnt A : Int))], [], 0, 0) (lo_M n w3 g (am_u (am_u σ2 56 18 (Int32.ofInt f)) 56 17 (σ2 56 17 + Int32.ofInt 1)) τ r1 r2) := by
        intro f hf
        rw [zadd, f17, zadd]
        refine ih (row + 1) (x.1 + 1, if x.1 = 0 then (row : Int) else x.2) (wrR A row) _ _ (by omega) (RB_fr hb2 ?_ (fun c e1 e2 => by rw [am_u_ne (by omega), am_u_ne (by omega)])) hwc' ?_ ?_ ?_ ?_ ?_ (fun σ' u2 j1 j2 j3 j4 j5 => h σ' u2 (fun c e1 e2 e3 => by rw [j1 c e1 e2 e3, am_u_ne e1, am_u_ne e1, fr1 c e1 e2 e3]) (fun i e1 e2 => by rw [j2 i e1 e2, am_u_at, if_neg e1, am_u_at, if_neg e2, fr2 i]) (fun q hq => by rw [j3 q hq, am_u_ne (by decide), am_u_ne (by decide), fr3 q hq]) j4 j5)
        · rw [am_u_at, if_neg (by decide), am_u_at, if_neg (by decide)]
        · dsimp only
          constructor
          · intro q
            omega
          · intro q
            split at q <;> omega
        · dsimp only
          split <;> omega
        · dsimp only
          omega
        · rw [am_u_at, if_pos rfl]
          rfl
        · rw [am_u_at, if_neg (by decide), am_u_at, if_pos rfl, hf]
      refine And.intro (fun c3 => ?_) (fun c3 => ?_)
      · have c3 : σ2 56 18 = Int32.ofInt (-1) := c3
        rw [f18, zeq (by unfold zr; omega) (by unfold zr; omega)] at c3
        exact go row (by rw [if_pos (hx.mpr c3)])
      · have c3 : ¬ σ2 56 18 = Int32.ofInt (-1) := c3
        rw [f18, zeq (by unfold zr; omega) (by unfold zr; omega)] at c3
        have go := go x.2 (by rw [if_neg (fun q => c3 (hx.mp q))])
        rw [← f18] at go
        exact go
    · rw [if_neg c2]
      rw [if_neg (show ¬ rsB A row = true from c2)] at h
      refine And.intro (fun _ => ?_) (fun q => absurd rfl q)
      show am_wp _ _ _ (38, [.ref 56, .int (Int32.ofInt (row : Int) + Int32.ofInt 1), .int (Int32.ofInt (cnt A : Int))], [], 0, 0) (lo_M n w3 g σ2 τ r1 r2)
      rw [zadd]
      exact ih (row + 1) x (wrR A row) σ2 _ (by omega) hb2 hwc' hx (by omega) (by omega) f17 f18 (fun σ' u2 j1 j2 j3 j4 j5 => h σ' u2 (fun c e1 e2 e3 => by rw [j1 c e1 e2 e3, fr1 c e1 e2 e3]) (fun i e1 e2 => by rw [j2 i e1 e2, fr2 i]) (fun q hq => by rw [j3 q hq, fr3 q hq]) j4 j5)
set_option maxRecDepth 100000 in
theorem r_fr_keep (d : Nat) (Q : am_Q) {u2 : Value} : ∀ (k p : Nat) (σ : Nat → Nat → Int32), p + k = 7 →
    (∀ σ' : Nat → Nat → Int32, (∀ c, c ≠ 69 → σ' c = σ c) → (∀ q, p ≤ q → q < 7 → σ' 69 q = σ 64 q) → (∀ q, q < p → σ' 69 q = σ 69 q) → am_wp (am_d d) T_X10_findRest Q (26, [.ref 56, .int (Int32.ofInt 7), u2], [], 0, 0) (lo_M n w3 g σ' τ r1 r2)) →
    am_wp (am_d d) T_X10_findRest Q (2, [.ref 56, .int (Int32.ofInt (p : Int)), u2], [], 0, 0) (lo_M n w3 g σ τ r1 r2) := by
  intro k
  induction k with
  | zero =>
    intro p σ hp h
    have e : p = 7 := by omega
    subst e
    refine am_wp_go (am_d_cm _) (fun pc => Nat.beq pc 2 || Nat.beq pc 26) 60 ?_
    refine And.intro (fun c1 => ?_) (fun c1 => absurd (by decide) c1)
    exact h σ (fun _ _ => rfl) (fun q q1 q2 => by omega) (fun _ _ => rfl)
  | succ k ih =>
    intro p σ hp h
    refine am_wp_go (am_d_cm _) (fun pc => Nat.beq pc 2 || Nat.beq pc 26) 60 ?_
    refine And.intro (fun c1 => ?_) (fun c1 => ?_)
    · rw [zle (by unfold zr; omega) (by unfold zr; omega)] at c1
      omega
    refine ixi p 7 (by omega) ?_
    refine ixi p 7 (by omega) ?_
    show am_wp _ _ _ (2, [.ref 56, .int (Int32.ofInt (p : Int) + Int32.ofInt 1), u2], [], 0, 0) (lo_M n w3 g (am_u σ 69 p (σ 64 p)) τ r1 r2)
    rw [zadd]
    refine ih (p + 1) _ (by omega) (fun σ' k1 k2 k3 => h σ' (fun c e => by rw [k1 c e, am_u_ne e]) (fun q q1 q2 => ?_) (fun q hq => ?_))
    · by_cases e : q = p
      · subst e
        rw [k3 q (by omega), am_u_at, if_pos rfl]
      · rw [k2 q (by omega) q2, am_u_ne (by decide)]
    · rw [k3 q (by omega), am_u_at, if_neg (by omega)]
set_option maxRecDepth 100000 in
theorem r_fr_back (d : Nat) (Q : am_Q) {u2 : Value} : ∀ (k p : Nat) (σ : Nat → Nat → Int32), p + k = 7 →
    (∀ σ' : Nat → Nat → Int32, (∀ c, c ≠ 64 → σ' c = σ c) → (∀ q, σ' 64 q = if p ≤ q ∧ q < 7 then σ 69 q else σ 64 q) → Q none (lo_M n w3 g σ' τ r1 r2)) →
    am_wp (am_d d) T_X10_findRest Q (138, [.ref 56, .int (Int32.ofInt (p : Int)), u2], [], 0, 0) (lo_M n w3 g σ τ r1 r2) := by
  intro k
  induction k with
  | zero =>
    intro p σ hp h
    have e : p = 7 := by omega
    subst e
    refine am_wp_go (am_d_cm _) (fun pc => Nat.beq pc 138) 60 ?_
    refine And.intro (fun c1 => ?_) (fun c1 => absurd (by decide) c1)
    exact h σ (fun _ _ => rfl) (fun q => by rw [if_neg (by omega)])
  | succ k ih =>
    intro p σ hp h
    refine am_wp_go (am_d_cm _) (fun pc => Nat.beq pc 138) 60 ?_
    refine And.intro (fun c1 => ?_) (fun c1 => ?_)
    · rw [zle (by unfold zr; omega) (by unfold zr; omega)] at c1
      omega
    refine ixi p 7 (by omega) ?_
    refine ixi p 7 (by omega) ?_
    show am_wp _ _ _ (138, [.ref 56, .int (Int32.ofInt (p : Int) + Int32.ofInt 1), u2], [], 0, 0) (lo_M n w3 g (am_u σ 64 p (σ 69 p)) τ r1 r2)
    rw [zadd]
    refine ih (p + 1) _ (by omega) (fun σ' k1 k2 => h σ' (fun c e => by rw [k1 c e, am_u_ne e]) (fun q => ?_))
    rw [k2 q, am_u_at, am_u_ne (c' := 69) (by decide)]
    by_cases e : q = p
    · subst e
      rw [if_neg (by omega), if_pos rfl, if_pos (by omega)]
    · rw [if_neg e]
      by_cases e2 : p ≤ q ∧ q < 7
      · rw [if_pos (by omega), if_pos e2]
      · rw [if_neg (by omega), if_neg e2]
theorem restS_eq (A : aN) : restS A = stl (rsB A) (4 ^ cnt A) 0 (0, -1) := rfl
set_option maxHeartbeats 1000000 in
set_option maxRecDepth 100000 in
theorem r_findRest (d : Nat) (Q : am_Q) (hwf : WF A B) (hc6 : cnt A ≤ 6) (hb : RB A (A 4) σ)
    (h : ∀ σ' : Nat → Nat → Int32, (∀ c, c ≠ 56 → c ≠ 68 → c ≠ 69 → σ' c = σ c) → (∀ i, i ≠ 17 → i ≠ 18 → σ' 56 i = σ 56 i) → σ' 56 17 = Int32.ofInt ((restS A).1 : Int) → σ' 56 18 = Int32.ofInt (restS A).2 → Q none (lo_M n w3 g σ' τ r1 r2)) : am_d (d + 8) 159 [.ref 56] 0 0 (lo_M n w3 g σ τ r1 r2) Q := by
  refine am_goT T_X10_findRest [.ref 56, .null, .null] rfl rfl (fun pc => Nat.beq pc 2) 60 ?_
  refine r_fr_keep (d + 7) Q 7 0 σ (by omega) (fun σ1 k1 k2 _ => ?_)
  refine am_wp_go (am_d_cm _) (fun pc => Nat.beq pc 38) 60 ?_
  refine r_fr_loop d Q hwf hc6 (4 ^ cnt A) 0 (0, -1) (A 4) (am_u (am_u σ1 56 17 (Int32.ofInt 0)) 56 18 (Int32.ofInt (-1))) _ (by omega) (RB_fr hb ?_ (fun c e1 e2 => by rw [am_u_ne (by omega), am_u_ne (by omega), k1 c (by omega)])) (fun _ _ => rfl) (by simp) (by simp) (by simp) ?_ ?_ (fun σ2 u2 m1 m2 m3 m4 m5 => ?_)
  · rw [am_u_at, if_neg (by decide), am_u_at, if_neg (by decide), k1 56 (by decide)]
  · rw [am_u_at, if_neg (by decide), am_u_at, if_pos rfl]
    rfl
  · rw [am_u_at, if_pos rfl]
  · refine am_wp_go (am_d_cm _) (fun pc => Nat.beq pc 138) 60 ?_
    refine r_fr_back (d + 7) Q 7 0 σ2 (by omega) (fun σ3 j1 j2 => ?_)
    have e64 : σ3 64 = σ 64 := by
      funext q
      rw [j2 q]
      by_cases e : q < 7
      · rw [if_pos ⟨by omega, e⟩, m1 69 (by decide) (by decide) (by decide), am_u_ne (by decide), am_u_ne (by decide), k2 q (by omega) e]
      · rw [if_neg (fun r => e r.2), m3 q (by omega), am_u_ne (by decide), am_u_ne (by decide), k1 64 (by decide)]
    refine h σ3 (fun c e1 e2 e3 => ?_) (fun i e1 e2 => ?_) ?_ ?_
    · by_cases e : c = 64
      · rw [e, e64]
      · rw [j1 c e, m1 c e1 e e2, am_u_ne e1, am_u_ne e1, k1 c e3]
    · rw [j1 56 (by decide), m2 i e1 e2, am_u_at, if_neg e2, am_u_at, if_neg e1, k1 56 (by decide)]
    · rw [j1 56 (by decide), m4, restS_eq]
    · rw [j1 56 (by decide), m5, restS_eq]
def f_rOf (A : aN) (z : Int) : Int := if 6 < cnt A then -4 else if z = -1 then ((restS A).1 : Int) else if (restS A).2 = -1 then -1 else (chc 3 (rsf A z.toNat) (restS A).2.toNat : Int)
/-- what findRest leaves of the reference's memory -/
def FR (σ σ' : Nat → Nat → Int32) : Prop := (∀ c, c ≠ 56 → c ≠ 68 → c ≠ 69 → σ' c = σ c) ∧ ∀ i, i ≠ 17 → i ≠ 18 → σ' 56 i = σ 56 i
theorem FR_refl (σ : Nat → Nat → Int32) : FR σ σ := ⟨fun _ _ _ _ => rfl, fun _ _ _ => rfl⟩
theorem FR_QF {σ σ' : Nat → Nat → Int32} (h : FR σ σ') : QF σ σ' := ⟨fun c e => h.1 c (by omega) (by omega) (by omega), fun c e1 e2 e3 => h.1 c (by omega) (fun q => e3 (by subst q; unfold rscr; omega)) (fun q => e3 (by subst q; unfold rscr; omega)), fun i e => h.2 i (by omega) (by omega)⟩
theorem FR_RB {w : Nat → Nat} {σ σ' : Nat → Nat → Int32} (h : FR σ σ') (hb : RB A w σ) : RB A w σ' := RB_fr hb (h.2 8 (by decide) (by decide)) (fun c e1 e2 => h.1 c (by omega) (by omega) (by omega))
theorem restS_rng (A : aN) (hc6 : cnt A ≤ 6) : (restS A).1 ≤ 4096 ∧ -1 ≤ (restS A).2 ∧ (restS A).2 ≤ 4096 := by
  have h4 : 4 ^ cnt A ≤ 4 ^ 6 := Nat.pow_le_pow_right (by omega) hc6
  have h4 : 4 ^ cnt A ≤ 4096 := h4
  have := stl_le (s := rsB A) (4 ^ cnt A) 0 (0, -1) (by simp) (by simp)
  rw [← restS_eq] at this
  have t2 := this.2.2
  rw [show ((0 : Nat) : Int) + ((4 ^ cnt A : Nat) : Int) = ((4 ^ cnt A : Nat) : Int) by omega] at t2
  have : ((4 ^ cnt A : Nat) : Int) ≤ 4096 := Int.ofNat_le.mpr h4
  omega
set_option maxHeartbeats 1000000 in
set_option maxRecDepth 100000 in
theorem r_restOf (d : Nat) (Q : am_Q) {z : Int} (hz : z = -1 ∨ (0 ≤ z ∧ z < cnt A)) (hwf : WF A B) (hb : RB A (A 4) σ)
    (h : ∀ σ' : Nat → Nat → Int32, FR σ σ' → Q (some (.int (Int32.ofInt (f_rOf A z)))) (lo_M n w3 g σ' τ r1 r2)) : am_d (d + 9) 160 [.ref 56, .int (Int32.ofInt z)] 0 0 (lo_M n w3 g σ τ r1 r2) Q := by
  have hc := cnt_le A
  unfold f_rOf at h
  refine am_goT T_X10_restOf [.ref 56, .int (Int32.ofInt z)] rfl rfl (fun _ => false) 60 ?_
  refine And.intro (fun c1 => ?_) (fun c1 => ?_)
  · have c1 : σ 56 8 ≤ Int32.ofInt 6 := c1
    rw [hb.1.1, zle (by unfold zr; omega) (by unfold zr; omega)] at c1
    have hc6 : cnt A ≤ 6 := by omega
    rw [if_neg (by omega)] at h
    refine r_findRest d _ hwf hc6 hb (fun σ' k1 k2 k3 k4 => ?_)
    have h := h σ' ⟨k1, k2⟩
    have rr := restS_rng A hc6
    refine And.intro (fun c2 => ?_) (fun c2 => ?_)
    · rw [zeq (by unfold zr; omega) (by unfold zr; omega)] at c2
      rw [if_pos c2, ← k3] at h
      exact h
    · rw [zeq (by unfold zr; omega) (by unfold zr; omega)] at c2
      rw [if_neg c2] at h
      refine And.intro (fun c3 => ?_) (fun c3 => ?_)
      · have c3 : σ' 56 18 = Int32.ofInt (-1) := c3
        rw [k4, zeq (by unfold zr; omega) (by unfold zr; omega)] at c3
        rw [if_pos c3] at h
        exact h
      · have c3 : ¬ σ' 56 18 = Int32.ofInt (-1) := c3
        rw [k4, zeq (by unfold zr; omega) (by unfold zr; omega)] at c3
        rw [if_neg c3] at h
        have ev : (σ' 56 18 >>> ((Int32.ofInt 2 * (σ' 56 8 - Int32.ofInt 1 - Int32.ofInt z)) &&& 31)) &&& Int32.ofInt 3 = Int32.ofInt (chc 3 (rsf A z.toNat) (restS A).2.toNat : Int) := by
          rw [k4, k2 8 (by decide) (by decide), hb.1.1, zsub, zsub, zmul, show (2 : Int) * ((cnt A : Int) - 1 - z) = ((rsf A z.toNat : Nat) : Int) by unfold rsf; omega, show Int32.ofInt 3 = Int32.ofInt ((3 : Nat) : Int) from rfl, show (restS A).2 = (((restS A).2.toNat : Nat) : Int) by omega, chcI (k := 2) (by omega) (by unfold rsf; omega) (by decide) (by decide), Int.toNat_natCast]
        rw [← ev] at h
        exact h
  · have c1 : ¬ σ 56 8 ≤ Int32.ofInt 6 := c1
    rw [hb.1.1, zle (by unfold zr; omega) (by unfold zr; omega)] at c1
    rw [if_pos (by omega)] at h
    exact h σ (FR_refl σ)
set_option maxRecDepth 100000 in
theorem q_rest (d : Nat) (Q : am_Q) {z : Int} (hz : zr z) (hm : IM A B σ) (hwf : WF A B) (h : ∀ σ', QF σ σ' → Q (some (.int (Int32.ofInt (f_rest A z)))) (lo_M n w3 g σ' τ r1 r2)) : am_d (d + 10) 161 [.ref 56, .int (Int32.ofInt z)] 0 0 (lo_M n w3 g σ τ r1 r2) Q := by
  have hc := cnt_le A
  refine am_goT T_X10_rest [.ref 56, .int (Int32.ofInt z)] rfl rfl (fun _ => false) 60 ?_
  refine r_reads (d + 5) _ hwf hm.1 (fun σ' k1 k2 k3 => ?_)
  show am_d (d + 9) 109 [.long (Int32.ofInt z).toInt64, .long (Int64.ofInt (-1)), .long (σ' 56 8 - Int32.ofInt 1).toInt64] 0 0 _ _
  rw [k3.1, zsub]
  refine r_inI (d + 8) (lo := -1) hz (by unfold zr; omega) (by unfold zr; omega) _ _ ?_
  have h0 := h σ' (QF_rd k1 k2)
  unfold f_rest at h h0
  by_cases c : z = -1 ∨ (0 ≤ z ∧ z < cnt A)
  · rw [if_pos (by omega)]
    rw [if_neg (fun q => by omega)] at h
    refine And.intro (fun q => absurd q (by decide)) (fun _ => ?_)
    exact r_restOf d _ c hwf (RB_rd hm k1 k3) (fun σ2 m1 => h σ2 (QF_trans (QF_rd k1 k2) (FR_QF m1)))
  · rw [if_neg (by omega)]
    rw [if_pos (by omega)] at h0
    exact And.intro (fun _ => h0) (fun q => absurd rfl q)
end RRE
