/-! the reference: the text is read -/
theorem flz_go {tx : Nat → Nat} {ln i : Nat} (h1 : i < ln) (h2 : i < 28) (h3 : fitc (tx i) (i % 4) = true) : flz tx ln (ln - i) i = flz tx ln (ln - (i + 1)) (i + 1) := by
  rw [show ln - i = (ln - (i + 1)) + 1 by omega]
  show (if 28 ≤ i ∨ fitc (tx i) (i % 4) = false then (i : Int) else flz tx ln (ln - (i + 1)) (i + 1)) = _
  rw [if_neg (fun q => by
    rcases q with q | q
    · omega
    · rw [h3] at q
      exact absurd q (by decide))]
theorem flz_stop {tx : Nat → Nat} {ln i : Nat} (h : i ≤ ln) (hs : i < ln → 28 ≤ i ∨ fitc (tx i) (i % 4) = false) (he : i = ln → ln ≠ 0 ∧ ln % 4 ≠ 3) : flz tx ln (ln - i) i = (i : Int) := by
  by_cases c : i < ln
  · rw [show ln - i = (ln - (i + 1)) + 1 by omega]
    show (if 28 ≤ i ∨ fitc (tx i) (i % 4) = false then (i : Int) else flz tx ln (ln - (i + 1)) (i + 1)) = _
    rw [if_pos (hs c)]
  · have e : i = ln := by omega
    subst e
    rw [Nat.sub_self]
    show (if i = 0 ∨ i % 4 = 3 then (-1 : Int) else (i : Int)) = _
    have := he rfl
    rw [if_neg (by omega)]
theorem fitc_iff (b : Nat) {c m : Nat} (h : (c = 0 ∧ m = 5) ∨ (c = 1 ∧ m = 9) ∨ (c = 2 ∧ m = 6)) : fitc b c = true ↔ 48 ≤ b ∧ b ≤ 48 + m := by
  rcases h with ⟨rfl, rfl⟩ | ⟨rfl, rfl⟩ | ⟨rfl, rfl⟩
  · show (Nat.ble 48 b && Nat.ble b 53) = true ↔ _
    rw [Bool.and_eq_true, Nat.ble_eq, Nat.ble_eq]
  · show (Nat.ble 48 b && Nat.ble b 57) = true ↔ _
    rw [Bool.and_eq_true, Nat.ble_eq, Nat.ble_eq]
  · show (Nat.ble 48 b && Nat.ble b 54) = true ↔ _
    rw [Bool.and_eq_true, Nat.ble_eq, Nat.ble_eq]
theorem fitc_no {b c m : Nat} (h : (c = 0 ∧ m = 5) ∨ (c = 1 ∧ m = 9) ∨ (c = 2 ∧ m = 6)) (q : ¬ (48 ≤ b ∧ b ≤ 48 + m)) : fitc b c = false := by
  cases e : fitc b c with
  | true => exact absurd ((fitc_iff b h).mp e) q
  | false => rfl
section RP
variable {n w3 : Nat} {g : Nat → Nat × Nat} {σ : Nat → Nat → Int32} {τ : Nat → Nat → Int64} {r1 r2 : Nat} {A : aN} {B : aZ}
set_option maxHeartbeats 2000000 in
set_option maxRecDepth 100000 in
theorem r_readsPart (d : Nat) (Q : am_Q) {p ln : Nat} {tx : Nat → Nat} (hp : p ≤ 7) (hpl : 4 * p ≤ ln) (hl0 : ln ≠ 0) (hln : ln ≤ 40) (htx : ∀ i, tx i ≤ 255) (h8 : σ 56 8 = Int32.ofInt (p : Int)) (h7 : σ 56 7 = Int32.ofInt ((4 * p : Nat) : Int)) (h6 : σ 56 6 = Int32.ofInt (ln : Int)) (ht : ∀ i, i < 40 → σ 61 i = Int32.ofInt (tx i : Int))
    (hno : ∀ (i : Nat) (σ' : Nat → Nat → Int32), i ≤ ln → (∀ c, c ≠ 56 → σ' c = σ c) → (∀ j, j ≠ 7 → σ' 56 j = σ 56 j) → σ' 56 7 = Int32.ofInt (i : Int) → flz tx ln (ln - 4 * p) (4 * p) = (i : Int) → Q (some (.int 0)) (lo_M n w3 g σ' τ r1 r2))
    (hok : ∀ (σ' : Nat → Nat → Int32), p < 7 → 4 * p + 3 ≤ ln → flz tx ln (ln - 4 * p) (4 * p) = flz tx ln (ln - (4 * p + 3)) (4 * p + 3) → (∀ c, c ≠ 56 → c ≠ 62 → c ≠ 63 → σ' c = σ c) → (∀ j, j ≠ 7 → j ≠ 8 → σ' 56 j = σ 56 j) → σ' 56 7 = Int32.ofInt ((4 * p + 3 : Nat) : Int) → σ' 56 8 = Int32.ofInt ((p + 1 : Nat) : Int) → (∀ q, q ≠ p → σ' 62 q = σ 62 q ∧ σ' 63 q = σ 63 q) → σ' 62 p = Int32.ofInt ((10 * (tx (4 * p) - 48) + (tx (4 * p + 1) - 48) : Nat) : Int) → σ' 63 p = Int32.ofInt ((tx (4 * p + 2) - 48 : Nat) : Int) → Q (some (.int 1)) (lo_M n w3 g σ' τ r1 r2)) :
    am_d (d + 3) 128 [.ref 56] 0 0 (lo_M n w3 g σ τ r1 r2) Q := by
  have m0 : (4 * p) % 4 = 0 := by omega
  have m1 : (4 * p + 1) % 4 = 1 := by omega
  have m2 : (4 * p + 2) % 4 = 2 := by omega
  have b0 := htx (4 * p)
  have b1 := htx (4 * p + 1)
  have b2 := htx (4 * p + 2)
  refine am_goT T_X10_readsPart [.ref 56, .null, .null, .null] rfl rfl (fun _ => false) 80 ?_
  refine And.intro (fun c1 => ?_) (fun c1 => ?_)
  · have c1 : σ 56 8 = Int32.ofInt 7 := c1
    rw [h8, zeq (by unfold zr; omega) (by unfold zr; omega)] at c1
    refine And.intro (Or.inl rfl) ?_
    exact hno (4 * p) σ hpl (fun _ _ => rfl) (fun _ _ => rfl) h7 (flz_stop hpl (fun _ => Or.inl (by omega)) (fun _ => by omega))
  · have c1 : ¬ σ 56 8 = Int32.ofInt 7 := c1
    rw [h8, zeq (by unfold zr; omega) (by unfold zr; omega)] at c1
    refine r_figure d _ (i := 4 * p) (ln := ln) (most := 5) (tx := tx) (by omega) hln (by omega) htx h7 h6 ht (fun a1 a2 a3 => ?_) (fun a => ?_)
    · refine And.intro (fun q => ?_) (fun _ => ?_)
      · rw [zeq (by unfold zr; omega) (by unfold zr; omega)] at q
        omega
      refine r_figure d _ (i := 4 * p + 1) (ln := ln) (most := 9) (tx := tx) (by omega) hln (by omega) htx (by rw [am_u_at, if_pos rfl]) (by rw [am_u_at, if_neg (by decide)]; exact h6) ht (fun a4 a5 a6 => ?_) (fun a => ?_)
      · refine And.intro (fun q => ?_) (fun _ => ?_)
        · rw [zeq (by unfold zr; omega) (by unfold zr; omega)] at q
          omega
        refine r_figure d _ (i := 4 * p + 2) (ln := ln) (most := 6) (tx := tx) (by omega) hln (by omega) htx (by rw [am_u_at, if_pos rfl]) (by rw [am_u_at, if_neg (by decide), am_u_at, if_neg (by decide)]; exact h6) ht (fun a7 a8 a9 => ?_) (fun a => ?_)
        · refine And.intro (fun q => ?_) (fun _ => ?_)
          · rw [zeq (by unfold zr; omega) (by unfold zr; omega)] at q
            omega
          refine ixi p 7 (by omega) ?_ h8
          refine ixi p 7 (by omega) ?_ h8
          refine And.intro (Or.inr rfl) ?_
          refine hok (am_u (am_u (am_u (am_u (am_u (am_u σ 56 7 (Int32.ofInt ((4 * p + 1 : Nat) : Int))) 56 7 (Int32.ofInt ((4 * p + 1 + 1 : Nat) : Int))) 56 7 (Int32.ofInt ((4 * p + 2 + 1 : Nat) : Int))) 62 p (Int32.ofInt 10 * Int32.ofInt ((tx (4 * p) : Int) - 48) + Int32.ofInt ((tx (4 * p + 1) : Int) - 48))) 63 p (Int32.ofInt ((tx (4 * p + 2) : Int) - 48))) 56 8 (σ 56 8 + Int32.ofInt 1)) (by omega) (by omega) ?_ (fun c e1 e2 e3 => ?_) (fun j e1 e2 => ?_) ?_ ?_ (fun q hq => ?_) ?_ ?_
          · rw [flz_go (i := 4 * p) (by omega) (by omega) (by rw [m0]; exact (fitc_iff _ (by omega)).mpr ⟨a2, a3⟩), flz_go (i := 4 * p + 1) (by omega) (by omega) (by rw [m1]; exact (fitc_iff _ (by omega)).mpr ⟨a5, a6⟩), flz_go (i := 4 * p + 1 + 1) (by omega) (by omega) (by rw [m2]; exact (fitc_iff _ (by omega)).mpr ⟨a8, a9⟩)]
          · rw [am_u_ne e1, am_u_ne e3, am_u_ne e2, am_u_ne e1, am_u_ne e1, am_u_ne e1]
          · rw [am_u_at, if_neg e2, am_u_ne (by decide), am_u_ne (by decide), am_u_at, if_neg e1, am_u_at, if_neg e1, am_u_at, if_neg e1]
          · rw [am_u_at, if_neg (by decide), am_u_ne (by decide), am_u_ne (by decide), am_u_at, if_pos rfl]
          · rw [am_u_at, if_pos rfl, h8, zadd]
            congr 1
          · refine ⟨?_, ?_⟩
            · rw [am_u_ne (by decide), am_u_ne (by decide), am_u_at, if_neg hq, am_u_ne (by decide), am_u_ne (by decide), am_u_ne (by decide)]
            · rw [am_u_ne (by decide), am_u_at, if_neg hq, am_u_ne (by decide), am_u_ne (by decide), am_u_ne (by decide), am_u_ne (by decide)]
          · rw [am_u_ne (by decide), am_u_ne (by decide), am_u_at, if_pos rfl, zmul, zadd]
            congr 1
            omega
          · rw [am_u_ne (by decide), am_u_at, if_pos rfl]
            congr 1
            omega
        · refine And.intro (fun _ => ?_) (fun q => absurd rfl q)
          refine And.intro (Or.inl rfl) ?_
          refine hno (4 * p + 2) (am_u (am_u σ 56 7 (Int32.ofInt ((4 * p + 1 : Nat) : Int))) 56 7 (Int32.ofInt ((4 * p + 1 + 1 : Nat) : Int))) (by omega) (fun c e => by rw [am_u_ne e, am_u_ne e]) (fun j e => by rw [am_u_at, if_neg e, am_u_at, if_neg e]) (by rw [am_u_at, if_pos rfl]) ?_
          rw [flz_go (i := 4 * p) (by omega) (by omega) (by rw [m0]; exact (fitc_iff _ (by omega)).mpr ⟨a2, a3⟩), flz_go (i := 4 * p + 1) (by omega) (by omega) (by rw [m1]; exact (fitc_iff _ (by omega)).mpr ⟨a5, a6⟩)]
          exact flz_stop (i := 4 * p + 2) (by omega) (fun e => Or.inr (by rw [m2]; exact fitc_no (m := 6) (by omega) (fun q => a ⟨e, q⟩))) (fun e => by omega)
      · refine And.intro (fun _ => ?_) (fun q => absurd rfl q)
        refine And.intro (fun _ => ?_) (fun q => absurd rfl q)
        refine And.intro (Or.inl rfl) ?_
        refine hno (4 * p + 1) (am_u σ 56 7 (Int32.ofInt ((4 * p + 1 : Nat) : Int))) (by omega) (fun c e => by rw [am_u_ne e]) (fun j e => by rw [am_u_at, if_neg e]) (by rw [am_u_at, if_pos rfl]) ?_
        rw [flz_go (i := 4 * p) (by omega) (by omega) (by rw [m0]; exact (fitc_iff _ (by omega)).mpr ⟨a2, a3⟩)]
        exact flz_stop (i := 4 * p + 1) (by omega) (fun e => Or.inr (by rw [m1]; exact fitc_no (m := 9) (by omega) (fun q => a ⟨e, q⟩))) (fun e => by omega)
    · refine And.intro (fun _ => ?_) (fun q => absurd rfl q)
      refine And.intro (fun _ => ?_) (fun q => absurd rfl q)
      refine And.intro (fun _ => ?_) (fun q => absurd rfl q)
      refine And.intro (Or.inl rfl) ?_
      exact hno (4 * p) σ hpl (fun _ _ => rfl) (fun _ _ => rfl) h7 (flz_stop hpl (fun e => Or.inr (by rw [m0]; exact fitc_no (m := 5) (by omega) (fun q => a ⟨e, q⟩))) (fun e => by omega))
set_option maxHeartbeats 2000000 in
set_option maxRecDepth 100000 in
theorem r_reads_loop (d : Nat) (Q : am_Q) (hln : A 0 0 ≤ 40) (hl0 : A 0 0 ≠ 0) (htx : ∀ i, A 1 i ≤ 255) : ∀ (k p : Nat) (σ : Nat → Nat → Int32), p + k = 7 → 4 * p ≤ A 0 0 → flt A = flz (A 1) (A 0 0) (A 0 0 - 4 * p) (4 * p) → σ 56 8 = Int32.ofInt (p : Int) → σ 56 7 = Int32.ofInt ((4 * p : Nat) : Int) → rT A σ → (∀ q, q < p → σ 62 q = Int32.ofInt (mn A q : Int) ∧ σ 63 q = Int32.ofInt (wsh A q : Int)) →
    (∀ σ' : Nat → Nat → Int32, (∀ c, c ≠ 56 → c ≠ 62 → c ≠ 63 → σ' c = σ c) → (∀ i, i ≠ 7 → i ≠ 8 → σ' 56 i = σ 56 i) → RD A σ' → Q (some (.int (Int32.ofInt (flt A)))) (lo_M n w3 g σ' τ r1 r2)) →
    am_wp (am_d (d + 3)) T_X10_reads Q (23, [.ref 56, .int (Int32.ofInt 1)], [], 0, 0) (lo_M n w3 g σ τ r1 r2) := by
  intro k
  induction k with
  | zero =>
    intro p σ hp hpl hfl h8 h7 hT hq h
    refine am_wp_go (am_d_cm _) (fun pc => Nat.beq pc 23) 60 ?_
    refine And.intro (fun q => absurd q (by decide)) (fun _ => ?_)
    refine r_readsPart d _ (by omega) hpl hl0 hln htx h8 h7 hT.1 hT.2 (fun i σ' k0 k1 k2 k3 k4 => ?_) (fun σ' k0 => by omega)
    refine And.intro (fun _ => ?_) (fun q => absurd rfl q)
    refine am_goT (d := d + 2) (k := 126) T_X10_nobody [.ref 56] rfl rfl (fun _ => false) 30 ?_
    have h := h (am_u σ' 56 8 (Int32.ofInt 0)) (fun c e1 _ _ => by rw [am_u_ne e1, k1 c e1]) (fun i e1 e2 => by rw [am_u_at, if_neg e2, k2 i e1]) ⟨by
      rw [am_u_at, if_pos rfl]
      unfold cnt
      rw [hfl, k4, if_neg (by omega)]
      rfl, fun q hq => by
      unfold cnt at hq
      rw [hfl, k4, if_neg (by omega)] at hq
      omega⟩
    rw [hfl, k4, ← k3] at h
    exact h
  | succ k ih =>
    intro p σ hp hpl hfl h8 h7 hT hq h
    refine am_wp_go (am_d_cm _) (fun pc => Nat.beq pc 23) 60 ?_
    refine And.intro (fun q => absurd q (by decide)) (fun _ => ?_)
    refine r_readsPart d _ (by omega) hpl hl0 hln htx h8 h7 hT.1 hT.2 (fun i σ' k0 k1 k2 k3 k4 => ?_) (fun σ' k0 k1 k2 k3 k4 k5 k6 k7 k8 k9 => ?_)
    · refine And.intro (fun _ => ?_) (fun q => absurd rfl q)
      refine am_goT (d := d + 2) (k := 126) T_X10_nobody [.ref 56] rfl rfl (fun _ => false) 30 ?_
      have h := h (am_u σ' 56 8 (Int32.ofInt 0)) (fun c e1 _ _ => by rw [am_u_ne e1, k1 c e1]) (fun i e1 e2 => by rw [am_u_at, if_neg e2, k2 i e1]) ⟨by
        rw [am_u_at, if_pos rfl]
        unfold cnt
        rw [hfl, k4, if_neg (by omega)]
        rfl, fun q hq => by
        unfold cnt at hq
        rw [hfl, k4, if_neg (by omega)] at hq
        omega⟩
      rw [hfl, k4, ← k3] at h
      exact h
    · refine And.intro (fun q => absurd q (by decide)) (fun _ => ?_)
      have t6 : σ' 56 6 = Int32.ofInt (A 0 0 : Int) := by rw [k4 6 (by decide) (by decide)]; exact hT.1
      have t61 : ∀ i, i < 40 → σ' 61 i = Int32.ofInt (A 1 i : Int) := by rw [k3 61 (by decide) (by decide) (by decide)]; exact hT.2
      have hq' : ∀ q, q < p + 1 → σ' 62 q = Int32.ofInt (mn A q : Int) ∧ σ' 63 q = Int32.ofInt (wsh A q : Int) := by
        intro q hqp
        by_cases e : q = p
        · subst e
          exact ⟨k8, k9⟩
        · rw [(k7 q e).1, (k7 q e).2]
          exact hq q (by omega)
      refine And.intro (fun c1 => ?_) (fun c1 => ?_)
      · have c1 : σ' 56 6 ≤ σ' 56 7 := c1
        rw [t6, k5, zle (by unfold zr; omega) (by unfold zr; omega)] at c1
        refine And.intro (fun _ => ?_) (fun q => absurd rfl q)
        refine And.intro (fun _ => ?_) (fun q => absurd rfl q)
        show am_wp _ _ _ (23, [.ref 56, .int (Int32.ofInt 0)], [], 0, 0) (lo_M n w3 g (am_u σ' 56 7 (σ' 56 7 + Int32.ofInt 0)) τ r1 r2)
        refine am_wp_go (am_d_cm _) (fun pc => Nat.beq pc 23) 60 ?_
        refine And.intro (fun _ => ?_) (fun q => absurd rfl q)
        have e3 : 4 * p + 3 = A 0 0 := by omega
        have ef : flt A = -1 := by
          rw [hfl, k2, e3, Nat.sub_self]
          show (if A 0 0 = 0 ∨ A 0 0 % 4 = 3 then (-1 : Int) else _) = _
          rw [if_pos (by omega)]
        have ec : cnt A = p + 1 := by
          unfold cnt
          rw [if_pos ef]
          omega
        have h := h (am_u σ' 56 7 (σ' 56 7 + Int32.ofInt 0)) (fun c e1 e2 e3 => by rw [am_u_ne e1, k3 c e1 e2 e3]) (fun i e1 e2 => by rw [am_u_at, if_neg e1, k4 i e1 e2]) ⟨by
          rw [am_u_at, if_neg (by decide), ec]
          exact k6, fun q hqp => hq' q (by omega)⟩
        rw [ef] at h
        exact h
      · have c1 : ¬ σ' 56 6 ≤ σ' 56 7 := c1
        rw [t6, k5, zle (by unfold zr; omega) (by unfold zr; omega)] at c1
        refine And.intro (fun q => absurd q (by decide)) (fun _ => ?_)
        have b3 := htx (4 * p + 3)
        refine r_here (d + 2) _ (i := 4 * p + 3) (ln := A 0 0) (tx := A 1) (by omega) hln k5 t6 t61 (fun c2 => ?_) (fun c2 => by omega)
        have m3 : (4 * p + 3) % 4 = 3 := by omega
        refine And.intro (fun c3 => ?_) (fun c3 => ?_)
        · rw [zeq (by unfold zr; omega) (by unfold zr; omega)] at c3
          refine And.intro (fun q => absurd q (by decide)) (fun _ => ?_)
          show am_wp _ _ _ (23, [.ref 56, .int (Int32.ofInt 1)], [], 0, 0) (lo_M n w3 g (am_u σ' 56 7 (σ' 56 7 + Int32.ofInt 1)) τ r1 r2)
          refine ih (p + 1) _ (by omega) (by omega) ?_ ?_ ?_ ⟨?_, t61⟩ hq' (fun σ2 m1 m2 m3 => h σ2 (fun c e1 e2 e3 => by rw [m1 c e1 e2 e3, am_u_ne e1, k3 c e1 e2 e3]) (fun i e1 e2 => by rw [m2 i e1 e2, am_u_at, if_neg e1, k4 i e1 e2]) m3)
          · rw [hfl, k2, flz_go (i := 4 * p + 3) (by omega) (by omega) (by rw [m3, show A 1 (4 * p + 3) = 59 by omega]; rfl), show 4 * (p + 1) = 4 * p + 3 + 1 by omega]
          · rw [am_u_at, if_neg (by decide)]
            exact k6
          · rw [am_u_at, if_pos rfl, k5, zadd]
            congr 1
          · rw [am_u_at, if_neg (by decide)]
            exact t6
        · rw [zeq (by unfold zr; omega) (by unfold zr; omega)] at c3
          have e4 : flz (A 1) (A 0 0) (A 0 0 - 4 * p) (4 * p) = ((4 * p + 3 : Nat) : Int) := by
            rw [k2]
            refine flz_stop (by omega) (fun _ => Or.inr ?_) (fun e => by omega)
            rw [m3]
            show Nat.beq (A 1 (4 * p + 3)) 59 = false
            cases e : Nat.beq (A 1 (4 * p + 3)) 59 with
            | true =>
              have := Nat.eq_of_beq_eq_true e
              omega
            | false => rfl
          refine am_goT (d := d + 2) (k := 126) T_X10_nobody [.ref 56] rfl rfl (fun _ => false) 30 ?_
          have h := h (am_u σ' 56 8 (Int32.ofInt 0)) (fun c e1 e2 e3 => by rw [am_u_ne e1, k3 c e1 e2 e3]) (fun i e1 e2 => by rw [am_u_at, if_neg e2, k4 i e1 e2]) ⟨by
            rw [am_u_at, if_pos rfl]
            unfold cnt
            rw [hfl, e4, if_neg (by omega)]
            rfl, fun q hq => by
            unfold cnt at hq
            rw [hfl, e4, if_neg (by omega)] at hq
            omega⟩
          rw [hfl, e4, ← k5] at h
          exact h
set_option maxRecDepth 100000 in
theorem r_reads (d : Nat) (Q : am_Q) (hwf : WF A B) (hT : rT A σ) (h : ∀ σ' : Nat → Nat → Int32, (∀ c, c ≠ 56 → c ≠ 62 → c ≠ 63 → σ' c = σ c) → (∀ i, i ≠ 7 → i ≠ 8 → σ' 56 i = σ 56 i) → RD A σ' → Q (some (.int (Int32.ofInt (flt A)))) (lo_M n w3 g σ' τ r1 r2)) : am_d (d + 4) 129 [.ref 56] 0 0 (lo_M n w3 g σ τ r1 r2) Q := by
  have h40 := hwf.1
  have fr1 : ∀ c, c ≠ 56 → am_u (am_u σ 56 7 (Int32.ofInt 0)) 56 8 (Int32.ofInt 0) c = σ c := fun c e => by rw [am_u_ne e, am_u_ne e]
  have fr2 : ∀ i, i ≠ 7 → i ≠ 8 → am_u (am_u σ 56 7 (Int32.ofInt 0)) 56 8 (Int32.ofInt 0) 56 i = σ 56 i := fun i e1 e2 => by rw [am_u_at, if_neg e2, am_u_at, if_neg e1]
  refine am_goT T_X10_reads [.ref 56, .null] rfl rfl (fun pc => Nat.beq pc 23) 60 ?_
  refine And.intro (fun c1 => ?_) (fun c1 => ?_)
  · have c1 : σ 56 6 ≤ 0 := c1
    rw [hT.1, zle0 (by unfold zr; omega)] at c1
    show am_wp _ _ _ (23, [.ref 56, .int (Int32.ofInt 0)], [], 0, 0) (lo_M n w3 g (am_u (am_u σ 56 7 (Int32.ofInt 0)) 56 8 (Int32.ofInt 0)) τ r1 r2)
    refine am_wp_go (am_d_cm _) (fun pc => Nat.beq pc 23) 60 ?_
    refine And.intro (fun _ => ?_) (fun q => absurd rfl q)
    have e0 : A 0 0 = 0 := by omega
    have ef : flt A = -1 := by
      unfold flt
      rw [e0]
      rfl
    have ec : cnt A = 0 := by
      unfold cnt
      rw [if_pos ef, e0]
    have h := h _ (fun c e _ _ => fr1 c e) fr2 ⟨by rw [am_u_at, if_pos rfl, ec]; rfl, fun q hq => by omega⟩
    rw [ef] at h
    exact h
  · have c1 : ¬ σ 56 6 ≤ 0 := c1
    rw [hT.1, zle0 (by unfold zr; omega)] at c1
    refine r_reads_loop d Q h40 (by omega) hwf.2.1 7 0 (am_u (am_u σ 56 7 (Int32.ofInt 0)) 56 8 (Int32.ofInt 0)) (by omega) (by omega) rfl (by rw [am_u_at, if_pos rfl]; rfl) (by rw [am_u_at, if_neg (by decide), am_u_at, if_pos rfl]; rfl) ⟨by rw [fr2 6 (by decide) (by decide)]; exact hT.1, by rw [fr1 61 (by decide)]; exact hT.2⟩ (fun q hq => by omega) (fun σ' k1 k2 k3 => h σ' (fun c e1 e2 e3 => by rw [k1 c e1 e2 e3, fr1 c e1]) (fun i e1 e2 => by rw [k2 i e1 e2, fr2 i e1 e2]) k3)
set_option maxRecDepth 100000 in
theorem r_fault (d : Nat) (Q : am_Q) (hwf : WF A B) (hT : rT A σ) (h : ∀ σ' : Nat → Nat → Int32, (∀ c, c ≠ 56 → c ≠ 62 → c ≠ 63 → σ' c = σ c) → (∀ i, i ≠ 7 → i ≠ 8 → σ' 56 i = σ 56 i) → RD A σ' → Q (some (.int (Int32.ofInt (flt A)))) (lo_M n w3 g σ' τ r1 r2)) : am_d (d + 5) 130 [.ref 56] 0 0 (lo_M n w3 g σ τ r1 r2) Q := by
  refine am_goT T_X10_fault [.ref 56] rfl rfl (fun _ => false) 60 ?_
  exact r_reads d _ hwf hT (fun σ' k1 k2 k3 => h σ' k1 k2 k3)
set_option maxRecDepth 100000 in
theorem r_isPerson (d : Nat) (Q : am_Q) {z : Int} (hz : zr z) (hwf : WF A B) (hT : rT A σ) (h : ∀ σ' : Nat → Nat → Int32, (∀ c, c ≠ 56 → c ≠ 62 → c ≠ 63 → σ' c = σ c) → (∀ i, i ≠ 7 → i ≠ 8 → σ' 56 i = σ 56 i) → RD A σ' → Q (some (.int (if 0 ≤ z ∧ z < cnt A then 1 else 0))) (lo_M n w3 g σ' τ r1 r2)) : am_d (d + 5) 131 [.ref 56, .int (Int32.ofInt z)] 0 0 (lo_M n w3 g σ τ r1 r2) Q := by
  have hc := cnt_le A
  refine am_goT T_X10_isPerson [.ref 56, .int (Int32.ofInt z)] rfl rfl (fun _ => false) 60 ?_
  refine r_reads d _ hwf hT (fun σ' k1 k2 k3 => ?_)
  show am_d (d + 4) 109 [.long (Int32.ofInt z).toInt64, .long (Int64.ofInt 0), .long (σ' 56 8 - Int32.ofInt 1).toInt64] 0 0 _ _
  rw [k3.1, zsub]
  refine r_inI (d + 3) (lo := 0) hz (by unfold zr; omega) (by unfold zr; omega) _ _ ?_
  have h := h σ' k1 k2 k3
  by_cases c : 0 ≤ z ∧ z < cnt A
  · rw [if_pos c] at h
    rw [if_pos (by omega)]
    exact And.intro (Or.inr rfl) h
  · rw [if_neg c] at h
    rw [if_neg (by omega)]
    exact And.intro (Or.inl rfl) h
end RP
