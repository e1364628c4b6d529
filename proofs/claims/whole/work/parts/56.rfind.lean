/-! the reference: all orders -/
theorem unr0 : ∀ N : Nat, N < 8 → ∀ k : Nat, k < N → oU N 0 k = k := by decide +kernel
theorem cmS_lt {so : Nat → Bool} {ps : Nat → Nat → Nat} {q : Nat} : ∀ i, (∀ j, j < i → ps j q < 7) → cmS so ps q i < 128
  | 0, _ => by unfold cmS; omega
  | i + 1, h => by
    have ih := cmS_lt (so := so) i (fun j hj => h j (by omega))
    unfold cmS
    split
    · exact (or2 _ ih _ (h i (by omega))).1
    · exact ih
/-- what findOrders leaves of the reference's memory -/
def FO (σ σ' : Nat → Nat → Int32) : Prop := (∀ c, c ≠ 56 → c ≠ 68 → c ≠ 71 → c ≠ 72 → c ≠ 73 → σ' c = σ c) ∧ ∀ i, i ≠ 25 → i ≠ 26 → σ' 56 i = σ 56 i
theorem FO_QF {σ σ' : Nat → Nat → Int32} (h : FO σ σ') : QF σ σ' := ⟨fun c e => h.1 c (by omega) (by omega) (by omega) (by omega) (by omega), fun c e1 e2 e3 => h.1 c (by omega) (fun q => e3 (by subst q; unfold rscr; omega)) (fun q => e3 (by subst q; unfold rscr; omega)) (fun q => e3 (by subst q; unfold rscr; omega)) (fun q => e3 (by subst q; unfold rscr; omega)), fun i e => h.2 i (by omega) (by omega)⟩
theorem FO_trans {σ σ' σ2 : Nat → Nat → Int32} (h : FO σ σ') (k : FO σ' σ2) : FO σ σ2 := ⟨fun c e1 e2 e3 e4 e5 => by rw [k.1 c e1 e2 e3 e4 e5, h.1 c e1 e2 e3 e4 e5], fun i e1 e2 => by rw [k.2 i e1 e2, h.2 i e1 e2]⟩
theorem FO_RB {A : aN} {w : Nat → Nat} {σ σ' : Nat → Nat → Int32} (h : FO σ σ') (hb : RB A w σ) : RB A w σ' := RB_fr hb (h.2 8 (by decide) (by decide)) (fun c e1 e2 => h.1 c (by omega) (by omega) (by omega) (by omega) (by omega))
theorem FO_rF {A : aN} {σ σ' : Nat → Nat → Int32} (h : FO σ σ') (hF : rF A σ) : rF A σ' := by
  unfold rF
  rw [h.2 19 (by decide) (by decide), h.1 70 (by decide) (by decide) (by decide) (by decide) (by decide)]
  exact hF
def bI (b : Bool) : Int32 := if b = true then Int32.ofInt 1 else Int32.ofInt 0
/-- what has been found by the first i orders -/
def acc (A : aN) (i : Nat) (σ : Nat → Nat → Int32) (τ : Nat → Nat → Int64) : Prop := σ 56 25 = Int32.ofInt (cnS (soU A) i : Int) ∧ σ 56 26 = Int32.ofInt (i : Int) ∧ (∀ q, q < cnt A → σ 72 q = Int32.ofInt (cmS (soU A) (psU (cnt A)) q i : Int)) ∧ (∀ a b, a < cnt A → b < cnt A → σ 73 (7 * a + b) = bI (cbS (soU A) (psU (cnt A)) a b i)) ∧ ∀ q, q < cnt A → τ 74 q = Int64.ofInt (sumr (wU A q) 0 i)
section RFO
variable {n w3 : Nat} {g : Nat → Nat × Nat} {σ : Nat → Nat → Int32} {τ : Nat → Nat → Int64} {r1 r2 : Nat} {A : aN} {B : aZ}
set_option maxHeartbeats 2000000 in
set_option maxRecDepth 100000 in
theorem r_fo_loop (d : Nat) (Q : am_Q) {w : Nat → Nat} (hwf : WF A B) : ∀ (k i : Nat) (σ : Nat → Nat → Int32) (τ : Nat → Nat → Int64), i + (k + 1) = fac (cnt A) → RB A w σ → rF A σ → hoU σ (cnt A) i → acc A i σ τ →
    (∀ (σ' : Nat → Nat → Int32) (τ' : Nat → Nat → Int64), FO σ σ' → acc A (fac (cnt A)) σ' τ' → Q none (lo_M n w3 g σ' τ' r1 r2)) →
    am_wp (am_d (d + 3)) T_X10_findOrders Q (68, [.ref 56, .int (Int32.ofInt 1)], [], 0, 0) (lo_M n w3 g σ τ r1 r2) := by
  have hc := cnt_le A
  intro k
  induction k with
  | zero =>
    intro i σ τ hi hb hF ho ha h
    obtain ⟨a1, a2, a3, a4, a5⟩ := ha
    have hbj := bijU (N := cnt A) (i := i) hc (by omega)
    have psl : ∀ j, j < i → ∀ q, q < cnt A → psU (cnt A) j q < 7 := fun j hj q hq => by have := ((bijU (N := cnt A) (i := j) hc (by omega)).2 q hq).1; omega
    refine am_wp_go (am_d_cm _) (fun pc => Nat.beq pc 68) 60 ?_
    refine And.intro (fun q => absurd q (by decide)) (fun _ => ?_)
    refine r_looks d _ hwf hb hF ho hbj (cm := fun q => cmS (soU A) (psU (cnt A)) q i) (fun q hq => ⟨a3 q hq, cmS_lt i (fun j hj => psl j hj q hq)⟩) (fun σ1 τ1 k1 k2 k3 k4 k5 k6 k7 => ?_)
    have f1 : FO σ σ1 := ⟨fun c e1 e2 e3 e4 e5 => k1 c e1 e2 e4 e5, k2⟩
    have ha1 : acc A (i + 1) σ1 τ1 := by
      refine ⟨?_, ?_, fun q hq => ?_, fun a b ha hb => ?_, fun q hq => ?_⟩
      · rw [k5, a1, zadd]
        congr 1
        show _ = ((cnS (soU A) i + (if soU A i = true then 1 else 0) : Nat) : Int)
        show _ + (if soU A i = true then (1 : Int) else 0) = _
        split <;> omega
      · rw [k3, a2, zadd]
        rfl
      · rw [k6 q hq, a3 q hq]
        show _ = Int32.ofInt (((if soU A i = true then _ else _ : Nat)) : Int)
        show (if soU A i = true then _ else _) = _
        split <;> rfl
      · rw [k7 a b ha hb, a4 a b ha hb]
        show (if soU A i = true ∧ psU (cnt A) i a < psU (cnt A) i b then _ else _) = bI (cbS (soU A) (psU (cnt A)) a b i || (soU A i && decide (psU (cnt A) i a < psU (cnt A) i b)))
        by_cases e : soU A i = true ∧ psU (cnt A) i a < psU (cnt A) i b
        · rw [if_pos e, e.1, decide_eq_true e.2, Bool.and_self, Bool.or_true]
          rfl
        · rw [if_neg e]
          have : (soU A i && decide (psU (cnt A) i a < psU (cnt A) i b)) = false := by
            cases c1 : soU A i with
            | false => rfl
            | true => rw [Bool.true_and]; exact decide_eq_false (fun q => e ⟨c1, q⟩)
          rw [this, Bool.or_false]
      · rw [k4 q hq, a5 q hq, yadd, sumr_last, Nat.zero_add]
        rfl
    have hn1 : σ1 56 8 = Int32.ofInt (cnt A : Int) := by rw [k2 8 (by decide) (by decide)]; exact hb.1.1
    have ho1 : hoU σ1 (cnt A) i := fun j hj => by rw [k1 71 (by decide) (by decide) (by decide) (by decide)]; exact ho j hj
    refine r_goesU (d + 1) _ hc (by omega) hn1 ho1 (fun e => ?_) (fun e => by omega)
    show am_wp _ _ _ (68, [.ref 56, .int 0], [], 0, 0) (lo_M n w3 g σ1 τ1 r1 r2)
    refine am_wp_go (am_d_cm _) (fun pc => Nat.beq pc 68) 60 ?_
    refine And.intro (fun _ => ?_) (fun q => absurd rfl q)
    rw [e] at ha1
    exact h σ1 τ1 f1 ha1
  | succ k ih =>
    intro i σ τ hi hb hF ho ha h
    obtain ⟨a1, a2, a3, a4, a5⟩ := ha
    have hbj := bijU (N := cnt A) (i := i) hc (by omega)
    have psl : ∀ j, j < i → ∀ q, q < cnt A → psU (cnt A) j q < 7 := fun j hj q hq => by have := ((bijU (N := cnt A) (i := j) hc (by omega)).2 q hq).1; omega
    refine am_wp_go (am_d_cm _) (fun pc => Nat.beq pc 68) 60 ?_
    refine And.intro (fun q => absurd q (by decide)) (fun _ => ?_)
    refine r_looks d _ hwf hb hF ho hbj (cm := fun q => cmS (soU A) (psU (cnt A)) q i) (fun q hq => ⟨a3 q hq, cmS_lt i (fun j hj => psl j hj q hq)⟩) (fun σ1 τ1 k1 k2 k3 k4 k5 k6 k7 => ?_)
    have f1 : FO σ σ1 := ⟨fun c e1 e2 e3 e4 e5 => k1 c e1 e2 e4 e5, k2⟩
    have ha1 : acc A (i + 1) σ1 τ1 := by
      refine ⟨?_, ?_, fun q hq => ?_, fun a b ha hb => ?_, fun q hq => ?_⟩
      · rw [k5, a1, zadd]
        congr 1
        show _ = ((cnS (soU A) i + (if soU A i = true then 1 else 0) : Nat) : Int)
        show _ + (if soU A i = true then (1 : Int) else 0) = _
        split <;> omega
      · rw [k3, a2, zadd]
        rfl
      · rw [k6 q hq, a3 q hq]
        show _ = Int32.ofInt (((if soU A i = true then _ else _ : Nat)) : Int)
        show (if soU A i = true then _ else _) = _
        split <;> rfl
      · rw [k7 a b ha hb, a4 a b ha hb]
        show (if soU A i = true ∧ psU (cnt A) i a < psU (cnt A) i b then _ else _) = bI (cbS (soU A) (psU (cnt A)) a b i || (soU A i && decide (psU (cnt A) i a < psU (cnt A) i b)))
        by_cases e : soU A i = true ∧ psU (cnt A) i a < psU (cnt A) i b
        · rw [if_pos e, e.1, decide_eq_true e.2, Bool.and_self, Bool.or_true]
          rfl
        · rw [if_neg e]
          have : (soU A i && decide (psU (cnt A) i a < psU (cnt A) i b)) = false := by
            cases c1 : soU A i with
            | false => rfl
            | true => rw [Bool.true_and]; exact decide_eq_false (fun q => e ⟨c1, q⟩)
          rw [this, Bool.or_false]
      · rw [k4 q hq, a5 q hq, yadd, sumr_last, Nat.zero_add]
        rfl
    have hn1 : σ1 56 8 = Int32.ofInt (cnt A : Int) := by rw [k2 8 (by decide) (by decide)]; exact hb.1.1
    have ho1 : hoU σ1 (cnt A) i := fun j hj => by rw [k1 71 (by decide) (by decide) (by decide) (by decide)]; exact ho j hj
    refine r_goesU (d + 1) _ hc (by omega) hn1 ho1 (fun e => by omega) (fun e σ2 m1 m2 => ?_)
    show am_wp _ _ _ (68, [.ref 56, .int (Int32.ofInt 1)], [], 0, 0) (lo_M n w3 g σ2 τ1 r1 r2)
    have f2 : FO σ σ2 := FO_trans f1 ⟨fun c e1 e2 e3 e4 e5 => m1 c e3, fun i _ _ => by rw [m1 56 (by decide)]⟩
    refine ih (i + 1) σ2 τ1 (by omega) (FO_RB f2 hb) (FO_rF f2 hF) m2 ?_ (fun σ' τ' j1 j2 => h σ' τ' (FO_trans f2 j1) j2)
    obtain ⟨b1, b2, b3, b4, b5⟩ := ha1
    refine ⟨?_, ?_, ?_, ?_, b5⟩
    · rw [m1 56 (by decide)]; exact b1
    · rw [m1 56 (by decide)]; exact b2
    · rw [m1 72 (by decide)]; exact b3
    · rw [m1 73 (by decide)]; exact b4
set_option maxHeartbeats 1000000 in
set_option maxRecDepth 100000 in
theorem r_fo_init (d : Nat) (Q : am_Q) : ∀ (k p : Nat) (σ : Nat → Nat → Int32) (τ : Nat → Nat → Int64), p + k = 7 →
    (∀ (σ' : Nat → Nat → Int32) (τ' : Nat → Nat → Int64), (∀ c, c ≠ 71 → c ≠ 72 → σ' c = σ c) → (∀ q, p ≤ q → q < 7 → σ' 71 q = Int32.ofInt (q : Int) ∧ σ' 72 q = Int32.ofInt 0 ∧ τ' 74 q = Int64.ofInt 0) → (∀ q, q < p → σ' 71 q = σ 71 q ∧ σ' 72 q = σ 72 q ∧ τ' 74 q = τ 74 q) → am_wp (am_d d) T_X10_findOrders Q (45, [.ref 56, .int (Int32.ofInt 7)], [], 0, 0) (lo_M n w3 g σ' τ' r1 r2)) →
    am_wp (am_d d) T_X10_findOrders Q (12, [.ref 56, .int (Int32.ofInt (p : Int))], [], 0, 0) (lo_M n w3 g σ τ r1 r2) := by
  intro k
  induction k with
  | zero =>
    intro p σ τ hp h
    have e : p = 7 := by omega
    subst e
    refine am_wp_go (am_d_cm _) (fun pc => Nat.beq pc 12 || Nat.beq pc 45) 60 ?_
    exact And.intro (fun c1 => h σ τ (fun _ _ _ => rfl) (fun q q1 q2 => by omega) (fun _ _ => ⟨rfl, rfl, rfl⟩)) (fun c1 => absurd (by decide) c1)
  | succ k ih =>
    intro p σ τ hp h
    refine am_wp_go (am_d_cm _) (fun pc => Nat.beq pc 12 || Nat.beq pc 45) 60 ?_
    refine And.intro (fun c1 => ?_) (fun c1 => ?_)
    · rw [zle (by unfold zr; omega) (by unfold zr; omega)] at c1
      omega
    refine ixi p 7 (by omega) ?_
    refine ixi p 7 (by omega) ?_
    refine ixi p 7 (by omega) ?_
    show am_wp _ _ _ (12, [.ref 56, .int (Int32.ofInt (p : Int) + Int32.ofInt 1)], [], 0, 0) (lo_M n w3 g (am_u (am_u σ 71 p (Int32.ofInt (p : Int))) 72 p (Int32.ofInt 0)) (am_u τ 74 p (Int64.ofInt 0)) r1 r2)
    rw [zadd]
    refine ih (p + 1) _ _ (by omega) (fun σ' τ' k1 k2 k3 => h σ' τ' (fun c e1 e2 => by rw [k1 c e1 e2, am_u_ne e2, am_u_ne e1]) (fun q q1 q2 => ?_) (fun q hq => ?_))
    · by_cases e : q = p
      · subst e
        obtain ⟨j1, j2, j3⟩ := k3 q (by omega)
        refine ⟨?_, ?_, ?_⟩
        · rw [j1, am_u_ne (by decide), am_u_at, if_pos rfl]
        · rw [j2, am_u_at, if_pos rfl]
        · rw [j3, am_u_at, if_pos rfl]
      · exact k2 q (by omega) q2
    · obtain ⟨j1, j2, j3⟩ := k3 q (by omega)
      refine ⟨?_, ?_, ?_⟩
      · rw [j1, am_u_ne (by decide), am_u_at, if_neg (by omega)]
      · rw [j2, am_u_at, if_neg (by omega), am_u_ne (by decide)]
      · rw [j3, am_u_at, if_neg (by omega)]
set_option maxRecDepth 100000 in
theorem r_fo_init2 (d : Nat) (Q : am_Q) : ∀ (k p : Nat) (σ : Nat → Nat → Int32), p + k = 49 →
    (∀ (σ' : Nat → Nat → Int32), (∀ c, c ≠ 73 → σ' c = σ c) → (∀ q, p ≤ q → q < 49 → σ' 73 q = Int32.ofInt 0) → (∀ q, q < p → σ' 73 q = σ 73 q) → am_wp (am_d d) T_X10_findOrders Q (66, [.ref 56, .int (Int32.ofInt 49)], [], 0, 0) (lo_M n w3 g σ' τ r1 r2)) →
    am_wp (am_d d) T_X10_findOrders Q (47, [.ref 56, .int (Int32.ofInt (p : Int))], [], 0, 0) (lo_M n w3 g σ τ r1 r2) := by
  intro k
  induction k with
  | zero =>
    intro p σ hp h
    have e : p = 49 := by omega
    subst e
    refine am_wp_go (am_d_cm _) (fun pc => Nat.beq pc 47 || Nat.beq pc 66) 60 ?_
    exact And.intro (fun c1 => h σ (fun _ _ => rfl) (fun q q1 q2 => by omega) (fun _ _ => rfl)) (fun c1 => absurd (by decide) c1)
  | succ k ih =>
    intro p σ hp h
    refine am_wp_go (am_d_cm _) (fun pc => Nat.beq pc 47 || Nat.beq pc 66) 60 ?_
    refine And.intro (fun c1 => ?_) (fun c1 => ?_)
    · rw [zle (by unfold zr; omega) (by unfold zr; omega)] at c1
      omega
    refine ixi p 49 (by omega) ?_
    show am_wp _ _ _ (47, [.ref 56, .int (Int32.ofInt (p : Int) + Int32.ofInt 1)], [], 0, 0) (lo_M n w3 g (am_u σ 73 p (vp_nar .boolean (Int32.ofInt 0))) τ r1 r2)
    rw [zadd, show vp_nar .boolean (Int32.ofInt 0) = Int32.ofInt 0 by decide]
    refine ih (p + 1) _ (by omega) (fun σ' k1 k2 k3 => h σ' (fun c e => by rw [k1 c e, am_u_ne e]) (fun q q1 q2 => ?_) (fun q hq => ?_))
    · by_cases e : q = p
      · subst e
        rw [k3 q (by omega), am_u_at, if_pos rfl]
      · exact k2 q (by omega) q2
    · rw [k3 q (by omega), am_u_at, if_neg (by omega)]
set_option maxHeartbeats 1000000 in
set_option maxRecDepth 100000 in
theorem r_findOrders (d : Nat) (Q : am_Q) {w : Nat → Nat} (hwf : WF A B) (hb : RB A w σ) (hF : rF A σ)
    (h : ∀ (σ' : Nat → Nat → Int32) (τ' : Nat → Nat → Int64), FO σ σ' → acc A (fac (cnt A)) σ' τ' → Q none (lo_M n w3 g σ' τ' r1 r2)) : am_d (d + 4) 177 [.ref 56] 0 0 (lo_M n w3 g σ τ r1 r2) Q := by
  have hc := cnt_le A
  have fp := fac_pos (cnt A)
  refine am_goT T_X10_findOrders [.ref 56, .null] rfl rfl (fun pc => Nat.beq pc 12) 60 ?_
  refine r_fo_init (d + 3) Q 7 0 (am_u (am_u σ 56 25 (Int32.ofInt 0)) 56 26 (Int32.ofInt 0)) τ (by omega) (fun σ1 τ1 k1 k2 _ => ?_)
  refine am_wp_go (am_d_cm _) (fun pc => Nat.beq pc 47) 60 ?_
  refine r_fo_init2 (d + 3) Q 49 0 σ1 (by omega) (fun σ2 m1 m2 _ => ?_)
  refine am_wp_go (am_d_cm _) (fun pc => Nat.beq pc 68) 60 ?_
  have f2 : FO σ σ2 := ⟨fun c e1 e2 e3 e4 e5 => by rw [m1 c e5, k1 c e3 e4, am_u_ne e1, am_u_ne e1], fun i e1 e2 => by rw [m1 56 (by decide), k1 56 (by decide) (by decide), am_u_at, if_neg e2, am_u_at, if_neg e1]⟩
  refine r_fo_loop d Q hwf (fac (cnt A) - 1) 0 σ2 τ1 (by omega) (FO_RB f2 hb) (FO_rF f2 hF) (fun k hk => ?_) ⟨?_, ?_, fun q hq => ?_, fun a b ha hb => ?_, fun q hq => ?_⟩ (fun σ' τ' j1 j2 => h σ' τ' (FO_trans f2 j1) j2)
  · have e := unr0 (cnt A) (by omega) k hk
    unfold oU at e
    show σ2 71 k = Int32.ofInt (((unr (cnt A) (cnt A) 0 0).getD k 0 : Nat) : Int) ∧ (unr (cnt A) (cnt A) 0 0).getD k 0 < 7
    rw [e, m1 71 (by decide), (k2 k (by omega) (by omega)).1]
    exact ⟨rfl, by omega⟩
  · rw [m1 56 (by decide), k1 56 (by decide) (by decide), am_u_at, if_neg (by decide), am_u_at, if_pos rfl]
    rfl
  · rw [m1 56 (by decide), k1 56 (by decide) (by decide), am_u_at, if_pos rfl]
    rfl
  · rw [m1 72 (by decide), (k2 q (by omega) (by omega)).2.1]
    rfl
  · rw [m2 _ (by omega) (by omega)]
    rfl
  · exact (k2 q (by omega) (by omega)).2.2
/-- by all orders: how many, as which, who ahead of whom -/
def g_came (A : aN) (z : Int) : Int := if z = -1 then (cnS (soU A) (fac (cnt A)) : Int) else (cmS (soU A) (psU (cnt A)) z.toNat (fac (cnt A)) : Int)
def g_spr (A : aN) (a b : Nat) : Int := if cbS (soU A) (psU (cnt A)) a b (fac (cnt A)) = cbS (soU A) (psU (cnt A)) b a (fac (cnt A)) then 0 else 1
def g_sure (A : aN) : Int := sumr (fun a => sumr (g_spr A a) 0 a) 0 (cnt A)
def g_fair (A : aN) (p : Nat) (y : Int) : Int := f_part (sumr (wU A p) 0 (fac (cnt A))) (fac (cnt A)) y
set_option maxRecDepth 100000 in
theorem r_cameOf (d : Nat) (Q : am_Q) {z : Int} {w : Nat → Nat} (hz : z = -1 ∨ (0 ≤ z ∧ z < cnt A)) (hwf : WF A B) (hb : RB A w σ) (hF : rF A σ)
    (h : ∀ (σ' : Nat → Nat → Int32) (τ' : Nat → Nat → Int64), FO σ σ' → Q (some (.int (Int32.ofInt (g_came A z)))) (lo_M n w3 g σ' τ' r1 r2)) : am_d (d + 5) 178 [.ref 56, .int (Int32.ofInt z)] 0 0 (lo_M n w3 g σ τ r1 r2) Q := by
  have hc := cnt_le A
  refine am_goT T_X10_cameOf [.ref 56, .int (Int32.ofInt z)] rfl rfl (fun _ => false) 60 ?_
  refine r_findOrders d _ hwf hb hF (fun σ' τ' k1 k2 => ?_)
  obtain ⟨a1, a2, a3, a4, a5⟩ := k2
  have h := h σ' τ' k1
  unfold g_came at h
  refine And.intro (fun c2 => ?_) (fun c2 => ?_)
  · rw [zeq (by unfold zr; omega) (by unfold zr; omega)] at c2
    rw [if_pos c2, ← a1] at h
    exact h
  · rw [zeq (by unfold zr; omega) (by unfold zr; omega)] at c2
    rw [if_neg c2, ← a3 z.toNat (by omega)] at h
    refine ixi z.toNat 7 (by omega) ?_ (by congr 1; omega)
    exact h
set_option maxHeartbeats 1000000 in
set_option maxRecDepth 100000 in
theorem r_sure_in (d : Nat) (Q : am_Q) {a : Nat} (ha : a < cnt A) (hcb : ∀ a b, a < cnt A → b < cnt A → σ 73 (7 * a + b) = bI (cbS (soU A) (psU (cnt A)) a b (fac (cnt A)))) : ∀ (k b : Nat) (s : Int), b + k = a →
    am_wp (am_d d) T_X10_sureNow Q (62, [.ref 56, .int (Int32.ofInt (s + sumr (g_spr A a) b k)), .int (Int32.ofInt (a : Int)), .int (Int32.ofInt (a : Int))], [], 0, 0) (lo_M n w3 g σ τ r1 r2) →
    am_wp (am_d d) T_X10_sureNow Q (18, [.ref 56, .int (Int32.ofInt s), .int (Int32.ofInt (a : Int)), .int (Int32.ofInt (b : Int))], [], 0, 0) (lo_M n w3 g σ τ r1 r2) := by
  have hc := cnt_le A
  intro k
  induction k with
  | zero =>
    intro b s hk h
    have e : b = a := by omega
    subst e
    rw [show sumr (g_spr A b) b 0 = 0 from rfl, Int.add_zero] at h
    refine am_wp_go (am_d_cm _) (fun pc => Nat.beq pc 18 || Nat.beq pc 62) 60 ?_
    exact And.intro (fun c1 => h) (fun c1 => absurd (Int32.le_refl _) c1)
  | succ k ih =>
    intro b s hk h
    have e1 := hcb a b ha (by omega)
    have e2 := hcb b a (by omega) ha
    refine am_wp_go (am_d_cm _) (fun pc => Nat.beq pc 18 || Nat.beq pc 62) 60 ?_
    refine And.intro (fun c1 => ?_) (fun c1 => ?_)
    · rw [zle (by unfold zr; omega) (by unfold zr; omega)] at c1
      omega
    refine ixi (7 * a + b) 49 (by omega) ?_ (by rw [zmul, zadd]; congr 1)
    refine ixi (7 * b + a) 49 (by omega) ?_ (by rw [zmul, zadd]; congr 1)
    rw [show sumr (g_spr A a) b (k + 1) = g_spr A a b + sumr (g_spr A a) (b + 1) k from rfl, ← Int.add_assoc] at h
    have key := ih (b + 1) (s + g_spr A a b) (by omega) h
    rw [show (((b + 1 : Nat) : Int)) = (b : Int) + 1 by omega, ← zadd (b : Int), ← zadd s] at key
    have inj : ∀ x y : Bool, bI x = bI y → x = y := by decide
    refine And.intro (fun c2 => ?_) (fun c2 => ?_)
    · have c2 : σ 73 (7 * a + b) = σ 73 (7 * b + a) := c2
      rw [e1, e2] at c2
      rw [show g_spr A a b = 0 by unfold g_spr; rw [if_pos (inj _ _ c2)]] at key
      exact key
    · have c2 : ¬ σ 73 (7 * a + b) = σ 73 (7 * b + a) := c2
      rw [e1, e2] at c2
      rw [show g_spr A a b = 1 by unfold g_spr; rw [if_neg (fun q => c2 (by rw [q]))]] at key
      exact key
set_option maxHeartbeats 1000000 in
set_option maxRecDepth 100000 in
theorem r_sure_loop (d : Nat) (Q : am_Q) (hn : σ 56 8 = Int32.ofInt (cnt A : Int)) (hcb : ∀ a b, a < cnt A → b < cnt A → σ 73 (7 * a + b) = bI (cbS (soU A) (psU (cnt A)) a b (fac (cnt A)))) : ∀ (k a : Nat) (s : Int) (u : Value), a + k = cnt A →
    Q (some (.int (Int32.ofInt (s + sumr (fun a => sumr (g_spr A a) 0 a) a k)))) (lo_M n w3 g σ τ r1 r2) →
    am_wp (am_d d) T_X10_sureNow Q (8, [.ref 56, .int (Int32.ofInt s), .int (Int32.ofInt (a : Int)), u], [], 0, 0) (lo_M n w3 g σ τ r1 r2) := by
  have hc := cnt_le A
  intro k
  induction k with
  | zero =>
    intro a s u hk h
    rw [show ∀ f, sumr f a 0 = 0 from fun _ => rfl, Int.add_zero] at h
    refine am_wp_go (am_d_cm _) (fun pc => Nat.beq pc 8 || Nat.beq pc 18) 60 ?_
    refine And.intro (fun c1 => h) (fun c1 => absurd ?_ c1)
    show σ 56 8 ≤ _
    rw [hn, zle (by unfold zr; omega) (by unfold zr; omega)]
    omega
  | succ k ih =>
    intro a s u hk h
    refine am_wp_go (am_d_cm _) (fun pc => Nat.beq pc 8 || Nat.beq pc 18) 60 ?_
    refine And.intro (fun c1 => ?_) (fun c1 => ?_)
    · have c1 : σ 56 8 ≤ Int32.ofInt (a : Int) := c1
      rw [hn, zle (by unfold zr; omega) (by unfold zr; omega)] at c1
      omega
    refine r_sure_in d Q (by omega) hcb a 0 s (by omega) ?_
    refine am_wp_go (am_d_cm _) (fun pc => Nat.beq pc 8 || Nat.beq pc 18) 60 ?_
    show am_wp _ _ _ (8, [.ref 56, .int (Int32.ofInt (s + sumr (g_spr A a) 0 a)), .int (Int32.ofInt (a : Int) + Int32.ofInt 1), .int (Int32.ofInt (a : Int))], [], 0, 0) (lo_M n w3 g σ τ r1 r2)
    rw [zadd]
    rw [show ∀ f : Nat → Int, sumr f a (k + 1) = f a + sumr f (a + 1) k from fun _ => rfl, ← Int.add_assoc] at h
    exact ih (a + 1) _ _ (by omega) h
set_option maxRecDepth 100000 in
theorem r_sureNow (d : Nat) (Q : am_Q) {w : Nat → Nat} (hwf : WF A B) (hb : RB A w σ) (hF : rF A σ)
    (h : ∀ (σ' : Nat → Nat → Int32) (τ' : Nat → Nat → Int64), FO σ σ' → Q (some (.int (Int32.ofInt (g_sure A)))) (lo_M n w3 g σ' τ' r1 r2)) : am_d (d + 5) 180 [.ref 56] 0 0 (lo_M n w3 g σ τ r1 r2) Q := by
  refine am_goT T_X10_sureNow [.ref 56, .null, .null, .null] rfl rfl (fun pc => Nat.beq pc 8) 60 ?_
  refine r_findOrders d _ hwf hb hF (fun σ' τ' k1 k2 => ?_)
  refine r_sure_loop (d + 4) Q (FO_RB k1 hb).1.1 k2.2.2.2.1 (cnt A) 0 0 .null (by omega) ?_
  rw [Int.zero_add]
  exact h σ' τ' k1
theorem fac_le {N : Nat} (h : N ≤ 7) : fac N ≤ 5040 := by
  have : ∀ N : Nat, N < 8 → fac N ≤ 5040 := by decide
  exact this N (by omega)
theorem sumr_bd {f : Nat → Int} : ∀ (k i : Nat), (∀ q, i ≤ q → q < i + k → -1000 ≤ f q ∧ f q ≤ 1000) → -(1000 * (k : Int)) ≤ sumr f i k ∧ sumr f i k ≤ 1000 * (k : Int)
  | 0, i, _ => by
    show -(1000 * ((0 : Nat) : Int)) ≤ 0 ∧ (0 : Int) ≤ 1000 * ((0 : Nat) : Int)
    omega
  | k + 1, i, h => by
    have ih := sumr_bd k (i + 1) (fun q q1 q2 => h q (by omega) (by omega))
    have := h i (by omega) (by omega)
    show -(1000 * ((k + 1 : Nat) : Int)) ≤ f i + sumr f (i + 1) k ∧ f i + sumr f (i + 1) k ≤ 1000 * ((k + 1 : Nat) : Int)
    omega
theorem wU_rng (hwf : WF A B) {p i : Nat} (hp : p < cnt A) (hi : i < fac (cnt A)) : -1000 ≤ wU A p i ∧ wU A p i ≤ 1000 := by
  have hc := cnt_le A
  have := ((bijU (N := cnt A) (i := i) hc hi).2 p hp).1
  have sr := stP_rng (lw := A 3 1) hc this
  exact WRn_rng hwf hp (by unfold stU; omega) (by unfold stU; omega)
set_option maxRecDepth 100000 in
theorem r_fairOf (d : Nat) (Q : am_Q) {p : Nat} {y : Int} {w : Nat → Nat} (hp : p < cnt A) (hy : zr y) (hwf : WF A B) (hb : RB A w σ) (hF : rF A σ)
    (h : ∀ (σ' : Nat → Nat → Int32) (τ' : Nat → Nat → Int64), FO σ σ' → Q (some (.long (Int64.ofInt (g_fair A p y)))) (lo_M n w3 g σ' τ' r1 r2)) : am_d (d + 5) 183 [.ref 56, .int (Int32.ofInt (p : Int)), .int (Int32.ofInt y)] 0 0 (lo_M n w3 g σ τ r1 r2) Q := by
  have hc := cnt_le A
  have fp := fac_pos (cnt A)
  have fl := fac_le hc
  refine am_goT T_X10_fairOf [.ref 56, .int (Int32.ofInt (p : Int)), .int (Int32.ofInt y)] rfl rfl (fun _ => false) 60 ?_
  refine r_findOrders d _ hwf hb hF (fun σ' τ' k1 k2 => ?_)
  obtain ⟨a1, a2, a3, a4, a5⟩ := k2
  refine ixi p 7 (by omega) ?_
  show am_d (d + 4) 182 [.long (τ' 74 p), .long (σ' 56 26).toInt64, .int (Int32.ofInt y)] 0 0 _ _
  have bd := sumr_bd (f := wU A p) (fac (cnt A)) 0 (fun q _ hq => wU_rng hwf hp (by omega))
  rw [a5 p hp, a2, yofz (zrN (by omega))]
  exact r_part (d + 3) _ hy (by omega) (by omega) fp (by omega) (h σ' τ' k1)
end RFO
