/-! the text, and who is there by it: the class -/
section PE
variable {n w3 : Nat} {g : Nat → Nat × Nat} {σ : Nat → Nat → Int32} {τ : Nat → Nat → Int64} {r1 r2 : Nat} {A : aN} {B : aZ}
set_option maxRecDepth 100000 in
theorem s_fits (d : Nat) (M : am_M) (Q : am_Q) {b c : Nat} (hb : b ≤ 255) (hc : c < 4) (h : Q (some (.int (if fitc b c = true then 1 else 0))) M) : am_d (d + 2) 32 [.int (Int32.ofInt (b : Int)), .int (Int32.ofInt (c : Int))] 0 0 M Q := by
  have tc : (Int32.ofInt (c : Int)).toInt = (c : Int) := zI_to (by unfold zr; omega)
  have rng : ∀ lo hi : Nat, lo ≤ 255 → hi ≤ 255 → fitc b c = (Nat.ble lo b && Nat.ble b hi) → am_d (d + 1) 88 [.int (Int32.ofInt (b : Int)), .int (Int32.ofInt (lo : Int)), .int (Int32.ofInt (hi : Int))] 0 0 M (fun r M' => ∃ x : Int32, r = some (.int x) ∧ (x = 0 ∨ x = 1) ∧ Q (some (.int x)) M') := by
    intro lo hi h1 h2 he
    refine s_withinZ d (by unfold zr; omega) (by unfold zr; omega) (by unfold zr; omega) _ _ ⟨_, rfl, ?_, ?_⟩
    · split
      · exact Or.inr rfl
      · exact Or.inl rfl
    · by_cases c1 : (lo : Int) ≤ b ∧ (b : Int) ≤ hi
      · rw [if_pos c1]
        rw [if_pos (by rw [he, Bool.and_eq_true]; exact ⟨Nat.ble_eq_true_of_le (by omega), Nat.ble_eq_true_of_le (by omega)⟩)] at h
        exact h
      · rw [if_neg c1]
        rw [if_neg (by rw [he, Bool.and_eq_true]; intro q; exact c1 ⟨by have := Nat.le_of_ble_eq_true q.1; omega, by have := Nat.le_of_ble_eq_true q.2; omega⟩)] at h
        exact h
  refine am_goT T_X4_fits [.int (Int32.ofInt (b : Int)), .int (Int32.ofInt (c : Int))] rfl rfl (fun _ => false) 60 ?_
  refine And.intro (And.intro (fun c0 => ?_) (And.intro (fun c0 => ?_) (And.intro (fun c0 => ?_) trivial))) (fun c0 => ?_)
  · rw [tc] at c0
    have e : c = 0 := by omega
    refine am_d_mono (d + 1) (rng 48 53 (by omega) (by omega) (by rw [e]; rfl)) (fun r M' q => ?_)
    obtain ⟨x, rfl, q1, q2⟩ := q
    exact And.intro q1 q2
  · rw [tc] at c0
    have e : c = 1 := by omega
    refine am_d_mono (d + 1) (rng 48 57 (by omega) (by omega) (by rw [e]; rfl)) (fun r M' q => ?_)
    obtain ⟨x, rfl, q1, q2⟩ := q
    exact And.intro q1 q2
  · rw [tc] at c0
    have e : c = 2 := by omega
    refine am_d_mono (d + 1) (rng 48 54 (by omega) (by omega) (by rw [e]; rfl)) (fun r M' q => ?_)
    obtain ⟨x, rfl, q1, q2⟩ := q
    exact And.intro q1 q2
  · rw [tc] at c0
    have e : c = 3 := by omega
    subst e
    have hf : fitc b 3 = Nat.beq b 59 := rfl
    refine And.intro (fun c1 => And.intro (Or.inr rfl) ?_) (fun c1 => And.intro (Or.inl rfl) ?_)
    · rw [zeq (by unfold zr; omega) (by unfold zr; omega)] at c1
      rw [if_pos (by rw [hf, show b = 59 by omega]; rfl)] at h
      exact h
    · rw [zeq (by unfold zr; omega) (by unfold zr; omega)] at c1
      rw [if_neg (by rw [hf]; intro q; have := Nat.eq_of_beq_eq_true q; omega)] at h
      exact h
set_option maxRecDepth 100000 in
theorem s_findFault_loop (d : Nat) (Q : am_Q) {tx : Nat → Nat} {ln : Nat} (hln : ln ≤ 40) (htx : ∀ i, tx i ≤ 255) (h5 : σ 5 3 = Int32.ofInt (ln : Int)) (h6 : ∀ i, i < 40 → σ 6 i = Int32.ofInt (tx i : Int)) : ∀ (k i : Nat), i + k = ln → Q (some (.int (Int32.ofInt (flz tx ln k i)))) (lo_M n w3 g σ τ r1 r2) → am_wp (am_d (d + 2)) T_X4_findFault Q (2, [.ref 5, .int (Int32.ofInt (i : Int))], [], 0, 0) (lo_M n w3 g σ τ r1 r2) := by
  intro k
  induction k with
  | zero =>
    intro i hi h
    unfold flz at h
    have hrem : σ 5 3 - σ 5 3 / Int32.ofInt 4 * Int32.ofInt 4 = Int32.ofInt ((ln % 4 : Nat) : Int) := by
      rw [h5]
      exact zrem (b := 4) (by omega) (by omega) (by omega)
    refine am_wp_go (am_d_cm _) (fun pc => Nat.beq pc 2) 60 ?_
    refine And.intro (fun c1 => ?_) (fun c1 => absurd ?_ c1)
    · refine And.intro (fun c2 => ?_) (fun c2 => ?_)
      · have c2 : σ 5 3 = 0 := c2
        rw [h5, zeq0 (by unfold zr; omega)] at c2
        rw [if_pos (Or.inl (by omega))] at h
        exact And.intro (fun c3 => absurd c3 (by decide)) (fun _ => h)
      · have c2 : ¬ σ 5 3 = 0 := c2
        rw [h5, zeq0 (by unfold zr; omega)] at c2
        refine And.intro (by decide) ?_
        show am_if (σ 5 3 - σ 5 3 / Int32.ofInt 4 * Int32.ofInt 4 = Int32.ofInt 3) _ _
        rw [hrem]
        refine And.intro (fun c3 => ?_) (fun c3 => ?_)
        · rw [zeq (by unfold zr; omega) (by unfold zr; omega)] at c3
          rw [if_pos (Or.inr (by omega))] at h
          exact And.intro (fun c3 => absurd c3 (by decide)) (fun _ => h)
        · rw [zeq (by unfold zr; omega) (by unfold zr; omega)] at c3
          rw [if_neg (by omega), ← h5] at h
          exact And.intro (fun _ => h) (fun c4 => absurd rfl c4)
    · show σ 5 3 ≤ Int32.ofInt (i : Int)
      rw [h5, zle (by unfold zr; omega) (by unfold zr; omega)]
      omega
  | succ k ih =>
    intro i hi h
    unfold flz at h
    have hrem : Int32.ofInt (i : Int) - Int32.ofInt (i : Int) / Int32.ofInt 4 * Int32.ofInt 4 = Int32.ofInt ((i % 4 : Nat) : Int) := zrem (b := 4) (by omega) (by omega) (by omega)
    refine am_wp_go (am_d_cm _) (fun pc => Nat.beq pc 2) 60 ?_
    refine And.intro (fun c1 => ?_) (fun c1 => ?_)
    · have c1 : σ 5 3 ≤ Int32.ofInt (i : Int) := c1
      rw [h5, zle (by unfold zr; omega) (by unfold zr; omega)] at c1
      omega
    · refine And.intro (fun c2 => ?_) (fun c2 => ?_)
      · rw [zle (by unfold zr; omega) (by unfold zr; omega)] at c2
        rw [if_pos (Or.inl (by omega))] at h
        exact h
      · rw [zle (by unfold zr; omega) (by unfold zr; omega)] at c2
        refine ixi i 40 (by omega) ?_
        refine And.intro (by decide) ?_
        show am_d (d + 2) 32 [.int (σ 6 i), .int (Int32.ofInt (i : Int) - Int32.ofInt (i : Int) / Int32.ofInt 4 * Int32.ofInt 4)] 0 0 _ _
        rw [hrem, h6 i (by omega)]
        refine s_fits d _ _ (htx i) (by omega) ?_
        by_cases e : fitc (tx i) (i % 4) = true
        · rw [if_pos e]
          refine And.intro (fun c3 => absurd c3 (by decide)) (fun _ => ?_)
          rw [if_neg (fun q => by rcases q with q | q; omega; rw [e] at q; cases q)] at h
          have key := ih (i + 1) (by omega) h
          rw [show ((i + 1 : Nat) : Int) = (i : Int) + 1 by omega, ← zadd (i : Int)] at key
          exact key
        · rw [if_neg e]
          rw [if_pos (Or.inr (by simpa using e))] at h
          exact And.intro (fun _ => h) (fun c3 => absurd rfl c3)
set_option maxRecDepth 100000 in
theorem s_findFault (d : Nat) (Q : am_Q) (hln : A 0 0 ≤ 40) (htx : ∀ i, A 1 i ≤ 255) (h5 : σ 5 3 = Int32.ofInt (A 0 0 : Int)) (h6 : ∀ i, i < 40 → σ 6 i = Int32.ofInt (A 1 i : Int)) (h : Q (some (.int (Int32.ofInt (flt A)))) (lo_M n w3 g σ τ r1 r2)) : am_d (d + 3) 31 [.ref 5] 0 0 (lo_M n w3 g σ τ r1 r2) Q := by
  refine am_goT T_X4_findFault [.ref 5, .null] rfl rfl (fun pc => Nat.beq pc 2) 60 ?_
  exact s_findFault_loop d Q hln htx h5 h6 (A 0 0) 0 (by omega) h
set_option maxRecDepth 100000 in
theorem s_figure (d : Nat) (Q : am_Q) {x : Int32} {i t : Nat} (hx : x = Int32.ofInt (i : Int)) (hi : i < 40) (h6 : σ 6 i = Int32.ofInt (t : Int)) (h : Q (some (.int (Int32.ofInt ((t : Int) - 48)))) (lo_M n w3 g σ τ r1 r2)) : am_d (d + 1) 33 [.ref 5, .int x] 0 0 (lo_M n w3 g σ τ r1 r2) Q := by
  rw [← zsub, ← h6] at h
  refine am_goT T_X4_figure [.ref 5, .int x] rfl rfl (fun _ => false) 60 ?_
  refine ixi i 40 hi ?_ hx
  exact h
set_option maxHeartbeats 1000000 in
set_option maxRecDepth 100000 in
theorem s_under_loop (d : Nat) (Q : am_Q) : ∀ (k p : Nat) (σ : Nat → Nat → Int32), p + k = cnt A → σ 5 4 = Int32.ofInt (cnt A : Int) → (∀ i, i < 40 → σ 6 i = Int32.ofInt (A 1 i : Int)) →
    (∀ σ' : Nat → Nat → Int32, (∀ c, c ≠ 7 → c ≠ 8 → σ' c = σ c) → (∀ q, q < cnt A → p ≤ q → σ' 7 q = Int32.ofInt (mn A q : Int) ∧ σ' 8 q = Int32.ofInt (wsh A q : Int)) → (∀ q, q < p → σ' 7 q = σ 7 q ∧ σ' 8 q = σ 8 q) → Q none (lo_M n w3 g σ' τ r1 r2)) →
    am_wp (am_d (d + 1)) T_X4_understand Q (34, [.ref 5, .int (Int32.ofInt (p : Int))], [], 0, 0) (lo_M n w3 g σ τ r1 r2) := by
  have hc := cnt_le A
  intro k
  induction k with
  | zero =>
    intro p σ hp h5 h6 h
    refine am_wp_go (am_d_cm _) (fun pc => Nat.beq pc 34) 60 ?_
    refine And.intro (fun c1 => ?_) (fun c1 => absurd ?_ c1)
    · exact h σ (fun _ _ _ => rfl) (fun q h1 h2 => by omega) (fun _ _ => ⟨rfl, rfl⟩)
    · show σ 5 4 ≤ Int32.ofInt (p : Int)
      rw [h5, zle (by unfold zr; omega) (by unfold zr; omega)]
      omega
  | succ k ih =>
    intro p σ hp h5 h6 h
    have hpc : p < cnt A := by omega
    obtain ⟨e, hl⟩ := cnt_at hpc
    obtain ⟨f1, -⟩ := flt_ok e
    have a0 := (f1 (4 * p) (by omega)).2
    have a1 := (f1 (4 * p + 1) (by omega)).2
    have a2 := (f1 (4 * p + 2) (by omega)).2
    rw [show 4 * p % 4 = 0 by omega] at a0
    rw [show (4 * p + 1) % 4 = 1 by omega] at a1
    rw [show (4 * p + 2) % 4 = 2 by omega] at a2
    unfold fitc at a0 a1 a2
    simp only [Bool.and_eq_true] at a0 a1 a2
    have b0 := Nat.le_of_ble_eq_true a0.1
    have b1 := Nat.le_of_ble_eq_true a1.1
    have b2 := Nat.le_of_ble_eq_true a2.1
    refine am_wp_go (am_d_cm _) (fun pc => Nat.beq pc 34) 60 ?_
    refine And.intro (fun c1 => ?_) (fun c1 => ?_)
    · have c1 : σ 5 4 ≤ Int32.ofInt (p : Int) := c1
      rw [h5, zle (by unfold zr; omega) (by unfold zr; omega)] at c1
      omega
    · refine s_figure d _ (i := 4 * p) (t := A 1 (4 * p)) (by rw [zmul]; congr 1) (by omega) (h6 _ (by omega)) ?_
      refine s_figure d _ (i := 4 * p + 1) (t := A 1 (4 * p + 1)) (by rw [zmul, zadd]; congr 1) (by omega) (h6 _ (by omega)) ?_
      have em : Int32.ofInt 10 * Int32.ofInt ((A 1 (4 * p) : Int) - 48) + Int32.ofInt ((A 1 (4 * p + 1) : Int) - 48) = Int32.ofInt (mn A p : Int) := by
        rw [zmul, zadd]
        congr 1
        unfold mn
        omega
      refine ixi p 7 (by omega) ?_
      refine s_figure d (σ := am_u σ 7 p (Int32.ofInt 10 * Int32.ofInt ((A 1 (4 * p) : Int) - 48) + Int32.ofInt ((A 1 (4 * p + 1) : Int) - 48))) _ (i := 4 * p + 2) (t := A 1 (4 * p + 2)) (by rw [zmul, zadd]; congr 1) (by omega) (h6 _ (by omega)) ?_
      rw [em]
      have ew : Int32.ofInt ((A 1 (4 * p + 2) : Int) - 48) = Int32.ofInt (wsh A p : Int) := by
        congr 1
        unfold wsh
        omega
      rw [ew]
      refine ixi p 7 (by omega) ?_
      show am_wp _ _ _ (34, [.ref 5, .int (Int32.ofInt (p : Int) + Int32.ofInt 1)], [], 0, 0) (lo_M n w3 g (am_u (am_u σ 7 p (Int32.ofInt (mn A p : Int))) 8 p (Int32.ofInt (wsh A p : Int))) τ r1 r2)
      rw [zadd, show ((p : Int) + 1) = ((p + 1 : Nat) : Int) by omega]
      refine ih (p + 1) _ (by omega) h5 h6 (fun σ' j1 j2 j3 => h σ' (fun c e1 e2 => by rw [j1 c e1 e2, am_u_ne e2, am_u_ne e1]) (fun q hq hq2 => ?_) (fun q hq => ?_))
      · by_cases eq : q = p
        · subst eq
          rw [(j3 q (by omega)).1, (j3 q (by omega)).2, am_u_ne (by decide), am_u_at, am_u_at, if_pos rfl, if_pos rfl]
          exact ⟨rfl, rfl⟩
        · exact j2 q hq (by omega)
      · rw [(j3 q (by omega)).1, (j3 q (by omega)).2, am_u_ne (by decide), am_u_at, am_u_at, if_neg (by omega), if_neg (by omega), am_u_ne (by decide)]
        exact ⟨rfl, rfl⟩
set_option maxRecDepth 100000 in
theorem s_understand (d : Nat) (Q : am_Q) (hln : A 0 0 ≤ 40) (htx : ∀ i, A 1 i ≤ 255) (h5 : σ 5 3 = Int32.ofInt (A 0 0 : Int)) (h6 : ∀ i, i < 40 → σ 6 i = Int32.ofInt (A 1 i : Int)) (h : ∀ σ' : Nat → Nat → Int32, (∀ c, c ≠ 5 → c ≠ 7 → c ≠ 8 → σ' c = σ c) → ixP A σ' → Q none (lo_M n w3 g σ' τ r1 r2)) : am_d (d + 4) 30 [.ref 5] 0 0 (lo_M n w3 g σ τ r1 r2) Q := by
  have hr := flt_rng (A := A) hln
  refine am_goT T_X4_understand [.ref 5, .null] rfl rfl (fun pc => Nat.beq pc 34) 60 ?_
  refine s_findFault d _ hln htx h5 h6 ?_
  have fin : am_wp (am_d (d + 3)) T_X4_understand Q (34, [.ref 5, .int (Int32.ofInt ((0 : Nat) : Int))], [], 0, 0) (lo_M n w3 g (am_u (am_u σ 5 5 (Int32.ofInt (flt A))) 5 4 (Int32.ofInt (cnt A : Int))) τ r1 r2) := by
    refine s_under_loop (d + 2) Q (cnt A) 0 _ (by omega) rfl h6 (fun σ' j1 j2 j3 => h σ' (fun c e1 e2 e3 => by rw [j1 c e2 e3, am_u_ne e1, am_u_ne e1]) ⟨?_, ?_, ?_, ?_, fun p hp => j2 p hp (Nat.zero_le _)⟩)
    · rw [j1 5 (by decide) (by decide), am_u_at, if_neg (by decide), am_u_at, if_neg (by decide)]
      exact h5
    · rw [j1 6 (by decide) (by decide), am_u_ne (by decide), am_u_ne (by decide)]
      exact h6
    · rw [j1 5 (by decide) (by decide), am_u_at, if_pos rfl]
    · rw [j1 5 (by decide) (by decide), am_u_at, if_neg (by decide), am_u_at, if_pos rfl]
  refine And.intro (fun c1 => ?_) (fun c1 => ?_)
  · have c1 : Int32.ofInt (flt A) = Int32.ofInt (-1) := c1
    rw [zeq (by unfold zr; omega) (by unfold zr; omega)] at c1
    refine And.intro (by decide) ?_
    have e : (σ 5 3 + Int32.ofInt 1) / Int32.ofInt 4 = Int32.ofInt (cnt A : Int) := by
      rw [h5, zadd, show ((A 0 0 : Int) + 1) = ((A 0 0 + 1 : Nat) : Int) by omega]
      rw [show Int32.ofInt 4 = Int32.ofInt ((4 : Nat) : Int) from rfl, zdiv (by omega) (by omega) (by omega)]
      congr 1
      unfold cnt
      rw [if_pos c1]
    rw [← e] at fin
    exact fin
  · have c1 : ¬ Int32.ofInt (flt A) = Int32.ofInt (-1) := c1
    rw [zeq (by unfold zr; omega) (by unfold zr; omega)] at c1
    have e : cnt A = 0 := by
      unfold cnt
      rw [if_neg c1]
    rw [e] at fin
    exact fin
end PE
