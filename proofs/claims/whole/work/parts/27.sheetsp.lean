/-! sheets: the class's public methods -/
/-- how many are read: the first that is no minute ends it -/
def rdk (f : Nat → Int) : Nat → Nat → Nat
  | 0, i => i
  | k + 1, i => if 0 ≤ f i ∧ f i ≤ 59 then rdk f k (i + 1) else i
theorem rdk_rng {f : Nat → Int} : ∀ (k i : Nat), i ≤ rdk f k i ∧ rdk f k i ≤ i + k
  | 0, i => by simp [rdk]
  | k + 1, i => by
    have := rdk_rng (f := f) k (i + 1)
    unfold rdk
    split <;> omega
section SP
variable {n w3 : Nat} {g : Nat → Nat × Nat} {σ : Nat → Nat → Int32} {τ : Nat → Nat → Int64} {r1 r2 : Nat} {A : aN} {B : aZ}
set_option maxRecDepth 100000 in
theorem s_write_loop0 (d : Nat) (Q : am_Q) {x1 : Int32} {f : Int} (hr : zr f) {N : Nat} (hN : N ≤ 7) : ∀ (k i : Nat) (σ : Nat → Nat → Int32), i + k = N → σ 48 1 = Int32.ofInt f →
    (∀ σ' : Nat → Nat → Int32, (∀ c, c ≠ 49 → σ' c = σ c) → (∀ j, σ' 49 j = if i ≤ j ∧ j < N then cutI f (σ 24 j) else σ 49 j) → Q (some (.int (Int32.ofInt (N : Int)))) (lo_M n w3 g σ' τ r1 r2)) →
    am_wp (am_d (d + 1)) T_X9_write Q (52, [.ref 4, .int x1, .ref 48, .int (Int32.ofInt (N : Int)), .int (Int32.ofInt (i : Int))], [], 0, 0) (lo_M n w3 g σ τ r1 r2) := by
  intro k
  induction k with
  | zero =>
    intro i σ hi hf h
    refine am_wp_go (am_d_cm _) (fun pc => Nat.beq pc 52) 60 ?_
    refine And.intro (fun c1 => ?_) (fun c1 => absurd ?_ c1)
    · exact h σ (fun _ _ => rfl) (fun j => by rw [if_neg (by omega)])
    · rw [zle (by unfold zr; omega) (by unfold zr; omega)]
      omega
  | succ k ih =>
    intro i σ hi hf h
    refine am_wp_go (am_d_cm _) (fun pc => Nat.beq pc 52) 60 ?_
    refine And.intro (fun c1 => ?_) (fun c1 => ?_)
    · rw [zle (by unfold zr; omega) (by unfold zr; omega)] at c1
      omega
    · refine ixi i 7 (by omega) ?_
      refine s_put0 d _ (i := i) (v := σ 24 i) hf hr (by omega) ?_
      show am_wp _ _ _ (52, [.ref 4, .int x1, .ref 48, .int (Int32.ofInt (N : Int)), .int (Int32.ofInt (i : Int) + Int32.ofInt 1)], [], 0, 0) (lo_M n w3 g (am_u σ 49 i (cutI f (σ 24 i))) τ r1 r2)
      rw [zadd, show ((i : Int) + 1) = ((i + 1 : Nat) : Int) by omega]
      refine ih (i + 1) _ (by omega) hf (fun σ' k1 k2 => h σ' (fun c hc => by rw [k1 c hc, am_u_ne hc]) (fun j => ?_))
      rw [k2 j, am_u_at, am_u_ne (c' := 24) (by decide)]
      by_cases e : j = i
      · subst e
        rw [if_neg (by omega), if_pos rfl, if_pos (by omega)]
      · by_cases e2 : i + 1 ≤ j ∧ j < N
        · rw [if_pos e2, if_pos (by omega)]
        · rw [if_neg e2, if_neg e, if_neg (by omega)]
set_option maxRecDepth 100000 in
theorem s_read_loop0 (d : Nat) (Q : am_Q) {x1 : Int32} {f : Nat → Int} {N : Nat} (hN : N ≤ 7) (hr : ∀ j, j < N → zr (f j)) : ∀ (k i : Nat) (σ : Nat → Nat → Int32), i + k = N → (∀ j, j < N → σ 49 j = Int32.ofInt (f j)) →
    (∀ σ' : Nat → Nat → Int32, (∀ c, c ≠ 21 → σ' c = σ c) → (∀ j, σ' 21 j = if i ≤ j ∧ j < rdk f k i then Int32.ofInt (f j) else σ 21 j) → Q (some (.int (Int32.ofInt (rdk f k i : Int)))) (lo_M n w3 g (am_u σ' 4 15 (Int32.ofInt 0)) τ r1 r2)) →
    am_wp (am_d (d + 1)) T_X9_read Q (43, [.ref 4, .int x1, .ref 48, .int (Int32.ofInt (N : Int)), .int (Int32.ofInt (i : Int))], [], 0, 0) (lo_M n w3 g σ τ r1 r2) := by
  intro k
  induction k with
  | zero =>
    intro i σ hi hf h
    refine am_wp_go (am_d_cm _) (fun pc => Nat.beq pc 43) 60 ?_
    refine And.intro (fun c1 => ?_) (fun c1 => absurd ?_ c1)
    · exact And.intro (Or.inl rfl) (h σ (fun _ _ => rfl) (fun j => by rw [if_neg (by unfold rdk; omega)]))
    · rw [zle (by unfold zr; omega) (by unfold zr; omega)]
      omega
  | succ k ih =>
    intro i σ hi hf h
    refine am_wp_go (am_d_cm _) (fun pc => Nat.beq pc 43) 60 ?_
    refine And.intro (fun c1 => ?_) (fun c1 => ?_)
    · rw [zle (by unfold zr; omega) (by unfold zr; omega)] at c1
      omega
    · refine ixi i 60 (by omega) ?_
      show am_d (d + 1) 88 [.int (σ 49 i), .int (Int32.ofInt 0), .int (Int32.ofInt 59)] 0 0 _ _
      have hi2 := hr i (by omega)
      rw [hf i (by omega)]
      refine s_withinZ d hi2 (by unfold zr; omega) (by unfold zr; omega) _ _ ?_
      by_cases c2 : 0 ≤ f i ∧ f i ≤ 59
      · rw [if_pos c2]
        have e : rdk f (k + 1) i = rdk f k (i + 1) := by
          show (if _ then _ else _) = _
          rw [if_pos c2]
        rw [e] at h
        have hb := rdk_rng (f := f) k (i + 1)
        refine And.intro (fun q => absurd q (by decide)) (fun _ => ?_)
        refine ixi i 60 (by omega) ?_
        refine ixi i 7 (by omega) ?_
        show am_wp _ _ _ (43, [.ref 4, .int x1, .ref 48, .int (Int32.ofInt (N : Int)), .int (Int32.ofInt (i : Int) + Int32.ofInt 1)], [], 0, 0) (lo_M n w3 g (am_u σ 21 i (σ 49 i)) τ r1 r2)
        rw [zadd, show ((i : Int) + 1) = ((i + 1 : Nat) : Int) by omega]
        refine ih (i + 1) _ (by omega) hf (fun σ' k1 k2 => h σ' (fun c hc => by rw [k1 c hc, am_u_ne hc]) (fun j => ?_))
        rw [k2 j, am_u_at]
        by_cases e1 : j = i
        · subst e1
          rw [if_neg (by omega), if_pos rfl, if_pos (by omega), hf j (by omega)]
        · by_cases e2 : i + 1 ≤ j ∧ j < rdk f k (i + 1)
          · rw [if_pos e2, if_pos (by omega)]
          · rw [if_neg e2, if_neg e1, if_neg (by omega)]
      · rw [if_neg c2]
        have e : rdk f (k + 1) i = i := by
          show (if _ then _ else _) = _
          rw [if_neg c2]
        rw [e] at h
        refine And.intro (fun _ => ?_) (fun q => absurd rfl q)
        exact And.intro (Or.inl rfl) (h σ (fun _ _ => rfl) (fun j => by rw [if_neg (by omega)]))
set_option maxRecDepth 100000 in
theorem s_write_loop1 (d : Nat) (Q : am_Q) {x1 : Int32} {f : Int} (hr : zr f) {N : Nat} (hN : N ≤ 7) : ∀ (k i : Nat) (σ : Nat → Nat → Int32), i + k = N → σ 50 1 = Int32.ofInt f →
    (∀ σ' : Nat → Nat → Int32, (∀ c, c ≠ 51 → σ' c = σ c) → (∀ j, σ' 51 j = if i ≤ j ∧ j < N then cutI f (σ 24 j) else σ 51 j) → Q (some (.int (Int32.ofInt (N : Int)))) (lo_M n w3 g σ' τ r1 r2)) →
    am_wp (am_d (d + 1)) T_X9_write Q (52, [.ref 4, .int x1, .ref 50, .int (Int32.ofInt (N : Int)), .int (Int32.ofInt (i : Int))], [], 0, 0) (lo_M n w3 g σ τ r1 r2) := by
  intro k
  induction k with
  | zero =>
    intro i σ hi hf h
    refine am_wp_go (am_d_cm _) (fun pc => Nat.beq pc 52) 60 ?_
    refine And.intro (fun c1 => ?_) (fun c1 => absurd ?_ c1)
    · exact h σ (fun _ _ => rfl) (fun j => by rw [if_neg (by omega)])
    · rw [zle (by unfold zr; omega) (by unfold zr; omega)]
      omega
  | succ k ih =>
    intro i σ hi hf h
    refine am_wp_go (am_d_cm _) (fun pc => Nat.beq pc 52) 60 ?_
    refine And.intro (fun c1 => ?_) (fun c1 => ?_)
    · rw [zle (by unfold zr; omega) (by unfold zr; omega)] at c1
      omega
    · refine ixi i 7 (by omega) ?_
      refine s_put1 d _ (i := i) (v := σ 24 i) hf hr (by omega) ?_
      show am_wp _ _ _ (52, [.ref 4, .int x1, .ref 50, .int (Int32.ofInt (N : Int)), .int (Int32.ofInt (i : Int) + Int32.ofInt 1)], [], 0, 0) (lo_M n w3 g (am_u σ 51 i (cutI f (σ 24 i))) τ r1 r2)
      rw [zadd, show ((i : Int) + 1) = ((i + 1 : Nat) : Int) by omega]
      refine ih (i + 1) _ (by omega) hf (fun σ' k1 k2 => h σ' (fun c hc => by rw [k1 c hc, am_u_ne hc]) (fun j => ?_))
      rw [k2 j, am_u_at, am_u_ne (c' := 24) (by decide)]
      by_cases e : j = i
      · subst e
        rw [if_neg (by omega), if_pos rfl, if_pos (by omega)]
      · by_cases e2 : i + 1 ≤ j ∧ j < N
        · rw [if_pos e2, if_pos (by omega)]
        · rw [if_neg e2, if_neg e, if_neg (by omega)]
set_option maxRecDepth 100000 in
theorem s_read_loop1 (d : Nat) (Q : am_Q) {x1 : Int32} {f : Nat → Int} {N : Nat} (hN : N ≤ 7) (hr : ∀ j, j < N → zr (f j)) : ∀ (k i : Nat) (σ : Nat → Nat → Int32), i + k = N → (∀ j, j < N → σ 51 j = Int32.ofInt (f j)) →
    (∀ σ' : Nat → Nat → Int32, (∀ c, c ≠ 21 → σ' c = σ c) → (∀ j, σ' 21 j = if i ≤ j ∧ j < rdk f k i then Int32.ofInt (f j) else σ 21 j) → Q (some (.int (Int32.ofInt (rdk f k i : Int)))) (lo_M n w3 g (am_u σ' 4 15 (Int32.ofInt 0)) τ r1 r2)) →
    am_wp (am_d (d + 1)) T_X9_read Q (43, [.ref 4, .int x1, .ref 50, .int (Int32.ofInt (N : Int)), .int (Int32.ofInt (i : Int))], [], 0, 0) (lo_M n w3 g σ τ r1 r2) := by
  intro k
  induction k with
  | zero =>
    intro i σ hi hf h
    refine am_wp_go (am_d_cm _) (fun pc => Nat.beq pc 43) 60 ?_
    refine And.intro (fun c1 => ?_) (fun c1 => absurd ?_ c1)
    · exact And.intro (Or.inl rfl) (h σ (fun _ _ => rfl) (fun j => by rw [if_neg (by unfold rdk; omega)]))
    · rw [zle (by unfold zr; omega) (by unfold zr; omega)]
      omega
  | succ k ih =>
    intro i σ hi hf h
    refine am_wp_go (am_d_cm _) (fun pc => Nat.beq pc 43) 60 ?_
    refine And.intro (fun c1 => ?_) (fun c1 => ?_)
    · rw [zle (by unfold zr; omega) (by unfold zr; omega)] at c1
      omega
    · refine ixi i 60 (by omega) ?_
      show am_d (d + 1) 88 [.int (σ 51 i), .int (Int32.ofInt 0), .int (Int32.ofInt 59)] 0 0 _ _
      have hi2 := hr i (by omega)
      rw [hf i (by omega)]
      refine s_withinZ d hi2 (by unfold zr; omega) (by unfold zr; omega) _ _ ?_
      by_cases c2 : 0 ≤ f i ∧ f i ≤ 59
      · rw [if_pos c2]
        have e : rdk f (k + 1) i = rdk f k (i + 1) := by
          show (if _ then _ else _) = _
          rw [if_pos c2]
        rw [e] at h
        have hb := rdk_rng (f := f) k (i + 1)
        refine And.intro (fun q => absurd q (by decide)) (fun _ => ?_)
        refine ixi i 60 (by omega) ?_
        refine ixi i 7 (by omega) ?_
        show am_wp _ _ _ (43, [.ref 4, .int x1, .ref 50, .int (Int32.ofInt (N : Int)), .int (Int32.ofInt (i : Int) + Int32.ofInt 1)], [], 0, 0) (lo_M n w3 g (am_u σ 21 i (σ 51 i)) τ r1 r2)
        rw [zadd, show ((i : Int) + 1) = ((i + 1 : Nat) : Int) by omega]
        refine ih (i + 1) _ (by omega) hf (fun σ' k1 k2 => h σ' (fun c hc => by rw [k1 c hc, am_u_ne hc]) (fun j => ?_))
        rw [k2 j, am_u_at]
        by_cases e1 : j = i
        · subst e1
          rw [if_neg (by omega), if_pos rfl, if_pos (by omega), hf j (by omega)]
        · by_cases e2 : i + 1 ≤ j ∧ j < rdk f k (i + 1)
          · rw [if_pos e2, if_pos (by omega)]
          · rw [if_neg e2, if_neg e1, if_neg (by omega)]
      · rw [if_neg c2]
        have e : rdk f (k + 1) i = i := by
          show (if _ then _ else _) = _
          rw [if_neg c2]
        rw [e] at h
        refine And.intro (fun _ => ?_) (fun q => absurd rfl q)
        exact And.intro (Or.inl rfl) (h σ (fun _ _ => rfl) (fun j => by rw [if_neg (by omega)]))
set_option maxRecDepth 100000 in
theorem s_write_loop2 (d : Nat) (Q : am_Q) {x1 : Int32} {f : Int} (hr : zr f) {N : Nat} (hN : N ≤ 7) : ∀ (k i : Nat) (σ : Nat → Nat → Int32), i + k = N → σ 52 1 = Int32.ofInt f →
    (∀ σ' : Nat → Nat → Int32, (∀ c, c ≠ 53 → σ' c = σ c) → (∀ j, σ' 53 j = if i ≤ j ∧ j < N then cutI f (σ 24 j) else σ 53 j) → Q (some (.int (Int32.ofInt (N : Int)))) (lo_M n w3 g σ' τ r1 r2)) →
    am_wp (am_d (d + 1)) T_X9_write Q (52, [.ref 4, .int x1, .ref 52, .int (Int32.ofInt (N : Int)), .int (Int32.ofInt (i : Int))], [], 0, 0) (lo_M n w3 g σ τ r1 r2) := by
  intro k
  induction k with
  | zero =>
    intro i σ hi hf h
    refine am_wp_go (am_d_cm _) (fun pc => Nat.beq pc 52) 60 ?_
    refine And.intro (fun c1 => ?_) (fun c1 => absurd ?_ c1)
    · exact h σ (fun _ _ => rfl) (fun j => by rw [if_neg (by omega)])
    · rw [zle (by unfold zr; omega) (by unfold zr; omega)]
      omega
  | succ k ih =>
    intro i σ hi hf h
    refine am_wp_go (am_d_cm _) (fun pc => Nat.beq pc 52) 60 ?_
    refine And.intro (fun c1 => ?_) (fun c1 => ?_)
    · rw [zle (by unfold zr; omega) (by unfold zr; omega)] at c1
      omega
    · refine ixi i 7 (by omega) ?_
      refine s_put2 d _ (i := i) (v := σ 24 i) hf hr (by omega) ?_
      show am_wp _ _ _ (52, [.ref 4, .int x1, .ref 52, .int (Int32.ofInt (N : Int)), .int (Int32.ofInt (i : Int) + Int32.ofInt 1)], [], 0, 0) (lo_M n w3 g (am_u σ 53 i (cutI f (σ 24 i))) τ r1 r2)
      rw [zadd, show ((i : Int) + 1) = ((i + 1 : Nat) : Int) by omega]
      refine ih (i + 1) _ (by omega) hf (fun σ' k1 k2 => h σ' (fun c hc => by rw [k1 c hc, am_u_ne hc]) (fun j => ?_))
      rw [k2 j, am_u_at, am_u_ne (c' := 24) (by decide)]
      by_cases e : j = i
      · subst e
        rw [if_neg (by omega), if_pos rfl, if_pos (by omega)]
      · by_cases e2 : i + 1 ≤ j ∧ j < N
        · rw [if_pos e2, if_pos (by omega)]
        · rw [if_neg e2, if_neg e, if_neg (by omega)]
set_option maxRecDepth 100000 in
theorem s_read_loop2 (d : Nat) (Q : am_Q) {x1 : Int32} {f : Nat → Int} {N : Nat} (hN : N ≤ 7) (hr : ∀ j, j < N → zr (f j)) : ∀ (k i : Nat) (σ : Nat → Nat → Int32), i + k = N → (∀ j, j < N → σ 53 j = Int32.ofInt (f j)) →
    (∀ σ' : Nat → Nat → Int32, (∀ c, c ≠ 21 → σ' c = σ c) → (∀ j, σ' 21 j = if i ≤ j ∧ j < rdk f k i then Int32.ofInt (f j) else σ 21 j) → Q (some (.int (Int32.ofInt (rdk f k i : Int)))) (lo_M n w3 g (am_u σ' 4 15 (Int32.ofInt 0)) τ r1 r2)) →
    am_wp (am_d (d + 1)) T_X9_read Q (43, [.ref 4, .int x1, .ref 52, .int (Int32.ofInt (N : Int)), .int (Int32.ofInt (i : Int))], [], 0, 0) (lo_M n w3 g σ τ r1 r2) := by
  intro k
  induction k with
  | zero =>
    intro i σ hi hf h
    refine am_wp_go (am_d_cm _) (fun pc => Nat.beq pc 43) 60 ?_
    refine And.intro (fun c1 => ?_) (fun c1 => absurd ?_ c1)
    · exact And.intro (Or.inl rfl) (h σ (fun _ _ => rfl) (fun j => by rw [if_neg (by unfold rdk; omega)]))
    · rw [zle (by unfold zr; omega) (by unfold zr; omega)]
      omega
  | succ k ih =>
    intro i σ hi hf h
    refine am_wp_go (am_d_cm _) (fun pc => Nat.beq pc 43) 60 ?_
    refine And.intro (fun c1 => ?_) (fun c1 => ?_)
    · rw [zle (by unfold zr; omega) (by unfold zr; omega)] at c1
      omega
    · refine ixi i 60 (by omega) ?_
      show am_d (d + 1) 88 [.int (σ 53 i), .int (Int32.ofInt 0), .int (Int32.ofInt 59)] 0 0 _ _
      have hi2 := hr i (by omega)
      rw [hf i (by omega)]
      refine s_withinZ d hi2 (by unfold zr; omega) (by unfold zr; omega) _ _ ?_
      by_cases c2 : 0 ≤ f i ∧ f i ≤ 59
      · rw [if_pos c2]
        have e : rdk f (k + 1) i = rdk f k (i + 1) := by
          show (if _ then _ else _) = _
          rw [if_pos c2]
        rw [e] at h
        have hb := rdk_rng (f := f) k (i + 1)
        refine And.intro (fun q => absurd q (by decide)) (fun _ => ?_)
        refine ixi i 60 (by omega) ?_
        refine ixi i 7 (by omega) ?_
        show am_wp _ _ _ (43, [.ref 4, .int x1, .ref 52, .int (Int32.ofInt (N : Int)), .int (Int32.ofInt (i : Int) + Int32.ofInt 1)], [], 0, 0) (lo_M n w3 g (am_u σ 21 i (σ 53 i)) τ r1 r2)
        rw [zadd, show ((i : Int) + 1) = ((i + 1 : Nat) : Int) by omega]
        refine ih (i + 1) _ (by omega) hf (fun σ' k1 k2 => h σ' (fun c hc => by rw [k1 c hc, am_u_ne hc]) (fun j => ?_))
        rw [k2 j, am_u_at]
        by_cases e1 : j = i
        · subst e1
          rw [if_neg (by omega), if_pos rfl, if_pos (by omega), hf j (by omega)]
        · by_cases e2 : i + 1 ≤ j ∧ j < rdk f k (i + 1)
          · rw [if_pos e2, if_pos (by omega)]
          · rw [if_neg e2, if_neg e1, if_neg (by omega)]
      · rw [if_neg c2]
        have e : rdk f (k + 1) i = i := by
          show (if _ then _ else _) = _
          rw [if_neg c2]
        rw [e] at h
        refine And.intro (fun _ => ?_) (fun q => absurd rfl q)
        exact And.intro (Or.inl rfl) (h σ (fun _ _ => rfl) (fun j => by rw [if_neg (by omega)]))
set_option maxRecDepth 100000 in
theorem s_write_loop3 (d : Nat) (Q : am_Q) {x1 : Int32} {f : Int} (hr : zr f) {N : Nat} (hN : N ≤ 7) : ∀ (k i : Nat) (σ : Nat → Nat → Int32), i + k = N → σ 54 1 = Int32.ofInt f →
    (∀ σ' : Nat → Nat → Int32, (∀ c, c ≠ 55 → σ' c = σ c) → (∀ j, σ' 55 j = if i ≤ j ∧ j < N then cutI f (σ 24 j) else σ 55 j) → Q (some (.int (Int32.ofInt (N : Int)))) (lo_M n w3 g σ' τ r1 r2)) →
    am_wp (am_d (d + 1)) T_X9_write Q (52, [.ref 4, .int x1, .ref 54, .int (Int32.ofInt (N : Int)), .int (Int32.ofInt (i : Int))], [], 0, 0) (lo_M n w3 g σ τ r1 r2) := by
  intro k
  induction k with
  | zero =>
    intro i σ hi hf h
    refine am_wp_go (am_d_cm _) (fun pc => Nat.beq pc 52) 60 ?_
    refine And.intro (fun c1 => ?_) (fun c1 => absurd ?_ c1)
    · exact h σ (fun _ _ => rfl) (fun j => by rw [if_neg (by omega)])
    · rw [zle (by unfold zr; omega) (by unfold zr; omega)]
      omega
  | succ k ih =>
    intro i σ hi hf h
    refine am_wp_go (am_d_cm _) (fun pc => Nat.beq pc 52) 60 ?_
    refine And.intro (fun c1 => ?_) (fun c1 => ?_)
    · rw [zle (by unfold zr; omega) (by unfold zr; omega)] at c1
      omega
    · refine ixi i 7 (by omega) ?_
      refine s_put3 d _ (i := i) (v := σ 24 i) hf hr (by omega) ?_
      show am_wp _ _ _ (52, [.ref 4, .int x1, .ref 54, .int (Int32.ofInt (N : Int)), .int (Int32.ofInt (i : Int) + Int32.ofInt 1)], [], 0, 0) (lo_M n w3 g (am_u σ 55 i (cutI f (σ 24 i))) τ r1 r2)
      rw [zadd, show ((i : Int) + 1) = ((i + 1 : Nat) : Int) by omega]
      refine ih (i + 1) _ (by omega) hf (fun σ' k1 k2 => h σ' (fun c hc => by rw [k1 c hc, am_u_ne hc]) (fun j => ?_))
      rw [k2 j, am_u_at, am_u_ne (c' := 24) (by decide)]
      by_cases e : j = i
      · subst e
        rw [if_neg (by omega), if_pos rfl, if_pos (by omega)]
      · by_cases e2 : i + 1 ≤ j ∧ j < N
        · rw [if_pos e2, if_pos (by omega)]
        · rw [if_neg e2, if_neg e, if_neg (by omega)]
set_option maxRecDepth 100000 in
theorem s_read_loop3 (d : Nat) (Q : am_Q) {x1 : Int32} {f : Nat → Int} {N : Nat} (hN : N ≤ 7) (hr : ∀ j, j < N → zr (f j)) : ∀ (k i : Nat) (σ : Nat → Nat → Int32), i + k = N → (∀ j, j < N → σ 55 j = Int32.ofInt (f j)) →
    (∀ σ' : Nat → Nat → Int32, (∀ c, c ≠ 21 → σ' c = σ c) → (∀ j, σ' 21 j = if i ≤ j ∧ j < rdk f k i then Int32.ofInt (f j) else σ 21 j) → Q (some (.int (Int32.ofInt (rdk f k i : Int)))) (lo_M n w3 g (am_u σ' 4 15 (Int32.ofInt 0)) τ r1 r2)) →
    am_wp (am_d (d + 1)) T_X9_read Q (43, [.ref 4, .int x1, .ref 54, .int (Int32.ofInt (N : Int)), .int (Int32.ofInt (i : Int))], [], 0, 0) (lo_M n w3 g σ τ r1 r2) := by
  intro k
  induction k with
  | zero =>
    intro i σ hi hf h
    refine am_wp_go (am_d_cm _) (fun pc => Nat.beq pc 43) 60 ?_
    refine And.intro (fun c1 => ?_) (fun c1 => absurd ?_ c1)
    · exact And.intro (Or.inl rfl) (h σ (fun _ _ => rfl) (fun j => by rw [if_neg (by unfold rdk; omega)]))
    · rw [zle (by unfold zr; omega) (by unfold zr; omega)]
      omega
  | succ k ih =>
    intro i σ hi hf h
    refine am_wp_go (am_d_cm _) (fun pc => Nat.beq pc 43) 60 ?_
    refine And.intro (fun c1 => ?_) (fun c1 => ?_)
    · rw [zle (by unfold zr; omega) (by unfold zr; omega)] at c1
      omega
    · refine ixi i 60 (by omega) ?_
      show am_d (d + 1) 88 [.int (σ 55 i), .int (Int32.ofInt 0), .int (Int32.ofInt 59)] 0 0 _ _
      have hi2 := hr i (by omega)
      rw [hf i (by omega)]
      refine s_withinZ d hi2 (by unfold zr; omega) (by unfold zr; omega) _ _ ?_
      by_cases c2 : 0 ≤ f i ∧ f i ≤ 59
      · rw [if_pos c2]
        have e : rdk f (k + 1) i = rdk f k (i + 1) := by
          show (if _ then _ else _) = _
          rw [if_pos c2]
        rw [e] at h
        have hb := rdk_rng (f := f) k (i + 1)
        refine And.intro (fun q => absurd q (by decide)) (fun _ => ?_)
        refine ixi i 60 (by omega) ?_
        refine ixi i 7 (by omega) ?_
        show am_wp _ _ _ (43, [.ref 4, .int x1, .ref 54, .int (Int32.ofInt (N : Int)), .int (Int32.ofInt (i : Int) + Int32.ofInt 1)], [], 0, 0) (lo_M n w3 g (am_u σ 21 i (σ 55 i)) τ r1 r2)
        rw [zadd, show ((i : Int) + 1) = ((i + 1 : Nat) : Int) by omega]
        refine ih (i + 1) _ (by omega) hf (fun σ' k1 k2 => h σ' (fun c hc => by rw [k1 c hc, am_u_ne hc]) (fun j => ?_))
        rw [k2 j, am_u_at]
        by_cases e1 : j = i
        · subst e1
          rw [if_neg (by omega), if_pos rfl, if_pos (by omega), hf j (by omega)]
        · by_cases e2 : i + 1 ≤ j ∧ j < rdk f k (i + 1)
          · rw [if_pos e2, if_pos (by omega)]
          · rw [if_neg e2, if_neg e1, if_neg (by omega)]
      · rw [if_neg c2]
        have e : rdk f (k + 1) i = i := by
          show (if _ then _ else _) = _
          rw [if_neg c2]
        rw [e] at h
        refine And.intro (fun _ => ?_) (fun q => absurd rfl q)
        exact And.intro (Or.inl rfl) (h σ (fun _ _ => rfl) (fun j => by rw [if_neg (by omega)]))
theorem fnd_rng (f : Int) (n : Nat) (fm i : Int) : 0 ≤ fnd f n fm i ∧ fnd f n fm i ≤ 3 := by
  unfold fnd
  split
  · omega
  · split
    · omega
    · split <;> omega
theorem fnd_in {f : Int} {n : Nat} {fm i : Int} (h : fnd f n fm i = 0) : 0 ≤ i ∧ i < n := by
  unfold fnd at h
  split at h
  · omega
  · split at h
    · omega
    · split at h
      · next q => exact q
      · omega
set_option maxRecDepth 100000 in
theorem c_sheet (d : Nat) (Q : am_Q) {z f m : Int} (hz : zr z) (hf : zr f) (hm : zr m)
    (hbad : ¬ ((0 ≤ z ∧ z ≤ 3) ∧ (0 ≤ f ∧ f ≤ 2) ∧ m ≤ 60) → Q (some (.int (Int32.ofInt (-2)))) (lo_M n w3 g σ τ r1 r2))
    (hneg : (0 ≤ z ∧ z ≤ 3) ∧ (0 ≤ f ∧ f ≤ 2) ∧ m ≤ 60 → m < 0 → Q (some (.int (Int32.ofInt (-15)))) (lo_M n w3 g (am_u σ 4 13 (Int32.ofInt 5)) τ r1 r2))
    (hok : ∀ s : Nat, z = (s : Int) → s < 4 → (0 ≤ f ∧ f ≤ 2) ∧ m ≤ 60 → 0 ≤ m → ∀ σ' : Nat → Nat → Int32, (∀ c, c ≠ 48 + 2 * s → c ≠ 49 + 2 * s → σ' c = σ c) → σ' (48 + 2 * s) 1 = Int32.ofInt f → σ' (48 + 2 * s) 2 = Int32.ofInt m → (∀ j, j < 60 → σ' (49 + 2 * s) j = Int32.ofInt 0) → Q (some (.int (Int32.ofInt m))) (lo_M n w3 g σ' τ r1 r2)) :
    am_d (d + 3) 79 [.ref 4, .int (Int32.ofInt z), .int (Int32.ofInt f), .int (Int32.ofInt m)] 0 0 (lo_M n w3 g σ τ r1 r2) Q := by
  refine am_goT T_X9_sheet [.ref 4, .int (Int32.ofInt z), .int (Int32.ofInt f), .int (Int32.ofInt m)] rfl rfl (fun _ => false) 60 ?_
  refine s_isSheet d _ _ hz ?_
  by_cases c : 0 ≤ z ∧ z ≤ 3
  · rw [if_pos c]
    refine And.intro (fun q => absurd q (by decide)) (fun _ => ?_)
    refine s_isForm d _ _ hf ?_
    by_cases cf : 0 ≤ f ∧ f ≤ 2
    · rw [if_pos cf]
      refine And.intro (fun q => absurd q (by decide)) (fun _ => ?_)
      refine And.intro (fun c1 => ?_) (fun c1 => ?_)
      · rw [zle hm (by unfold zr; omega)] at c1
        refine And.intro (fun c2 => ?_) (fun c2 => ?_)
        · rw [z0le hm] at c2
          rcases (show z = 0 ∨ z = 1 ∨ z = 2 ∨ z = 3 by omega) with rfl | rfl | rfl | rfl
          · refine ixi 0 4 (by omega) ?_
            exact s_renew0 (d + 1) _ (fun σ' k1 k2 k3 k4 => hok 0 rfl (by omega) ⟨cf, c1⟩ c2 σ' k1 k2 k3 k4)
          · refine ixi 1 4 (by omega) ?_
            exact s_renew1 (d + 1) _ (fun σ' k1 k2 k3 k4 => hok 1 rfl (by omega) ⟨cf, c1⟩ c2 σ' k1 k2 k3 k4)
          · refine ixi 2 4 (by omega) ?_
            exact s_renew2 (d + 1) _ (fun σ' k1 k2 k3 k4 => hok 2 rfl (by omega) ⟨cf, c1⟩ c2 σ' k1 k2 k3 k4)
          · refine ixi 3 4 (by omega) ?_
            exact s_renew3 (d + 1) _ (fun σ' k1 k2 k3 k4 => hok 3 rfl (by omega) ⟨cf, c1⟩ c2 σ' k1 k2 k3 k4)
        · rw [z0le hm] at c2
          exact s_finding (d + 1) _ (hneg ⟨c, cf, c1⟩ (by omega))
      · rw [zle hm (by unfold zr; omega)] at c1
        exact hbad (fun q => c1 q.2.2)
    · rw [if_neg cf]
      exact And.intro (fun _ => hbad (fun q => cf q.2.1)) (fun q => absurd rfl q)
  · rw [if_neg c]
    exact And.intro (fun _ => hbad (fun q => c q.1)) (fun q => absurd rfl q)
set_option maxRecDepth 100000 in
theorem c_lose (d : Nat) (Q : am_Q) {z : Int} (hz : zr z) (hx : IX A B σ) (hwf : WF A B)
    (hbad : ¬ (0 ≤ z ∧ z ≤ 3) → Q (some (.int (Int32.ofInt (-2)))) (lo_M n w3 g σ τ r1 r2))
    (hlost : ∀ s : Nat, z = (s : Int) → s < 4 → B 0 s = -1 → Q (some (.int (Int32.ofInt (-11)))) (lo_M n w3 g (am_u σ 4 13 (Int32.ofInt 1)) τ r1 r2))
    (hok : ∀ s : Nat, z = (s : Int) → s < 4 → B 0 s ≠ -1 → Q (some (.int (Int32.ofInt (A 11 s : Int)))) (lo_M n w3 g (am_u σ (48 + 2 * s) 1 (Int32.ofInt (-1))) τ r1 r2)) :
    am_d (d + 3) 80 [.ref 4, .int (Int32.ofInt z)] 0 0 (lo_M n w3 g σ τ r1 r2) Q := by
  have hH := hx.2.2.2.2.2.2.2.1
  have hB := hwf.2.2.2.2.2.2.2.2.2.2.2.2.2.1
  refine am_goT T_X9_lose [.ref 4, .int (Int32.ofInt z), .null] rfl rfl (fun _ => false) 60 ?_
  refine s_isSheet d _ _ hz ?_
  by_cases c : 0 ≤ z ∧ z ≤ 3
  · rw [if_pos c]
    refine And.intro (fun q => absurd q (by decide)) (fun _ => ?_)
    rcases (show z = 0 ∨ z = 1 ∨ z = 2 ∨ z = 3 by omega) with rfl | rfl | rfl | rfl
    · refine ixi 0 4 (by omega) ?_
      refine s_isLost0 (d + 1) _ (hH 0 (by omega)).1 (by have := hB 0; unfold zr; omega) ?_
      by_cases c1 : B 0 0 = -1
      · rw [if_pos c1]
        refine And.intro (fun q => absurd q (by decide)) (fun _ => ?_)
        exact s_finding (d + 1) _ (hlost 0 rfl (by omega) c1)
      · rw [if_neg c1]
        refine And.intro (fun _ => ?_) (fun q => absurd rfl q)
        have hok := hok 0 rfl (by omega) c1
        rw [← (hH 0 (by omega)).2.1] at hok
        exact hok
    · refine ixi 1 4 (by omega) ?_
      refine s_isLost1 (d + 1) _ (hH 1 (by omega)).1 (by have := hB 1; unfold zr; omega) ?_
      by_cases c1 : B 0 1 = -1
      · rw [if_pos c1]
        refine And.intro (fun q => absurd q (by decide)) (fun _ => ?_)
        exact s_finding (d + 1) _ (hlost 1 rfl (by omega) c1)
      · rw [if_neg c1]
        refine And.intro (fun _ => ?_) (fun q => absurd rfl q)
        have hok := hok 1 rfl (by omega) c1
        rw [← (hH 1 (by omega)).2.1] at hok
        exact hok
    · refine ixi 2 4 (by omega) ?_
      refine s_isLost2 (d + 1) _ (hH 2 (by omega)).1 (by have := hB 2; unfold zr; omega) ?_
      by_cases c1 : B 0 2 = -1
      · rw [if_pos c1]
        refine And.intro (fun q => absurd q (by decide)) (fun _ => ?_)
        exact s_finding (d + 1) _ (hlost 2 rfl (by omega) c1)
      · rw [if_neg c1]
        refine And.intro (fun _ => ?_) (fun q => absurd rfl q)
        have hok := hok 2 rfl (by omega) c1
        rw [← (hH 2 (by omega)).2.1] at hok
        exact hok
    · refine ixi 3 4 (by omega) ?_
      refine s_isLost3 (d + 1) _ (hH 3 (by omega)).1 (by have := hB 3; unfold zr; omega) ?_
      by_cases c1 : B 0 3 = -1
      · rw [if_pos c1]
        refine And.intro (fun q => absurd q (by decide)) (fun _ => ?_)
        exact s_finding (d + 1) _ (hlost 3 rfl (by omega) c1)
      · rw [if_neg c1]
        refine And.intro (fun _ => ?_) (fun q => absurd rfl q)
        have hok := hok 3 rfl (by omega) c1
        rw [← (hH 3 (by omega)).2.1] at hok
        exact hok
  · rw [if_neg c]
    exact And.intro (fun _ => hbad c) (fun q => absurd rfl q)
set_option maxRecDepth 100000 in
theorem c_lay (d : Nat) (Q : am_Q) {z f i v : Int} (hz : zr z) (hf : zr f) (hi : zr i) (hx : IX A B σ) (hwf : WF A B)
    (hbad : ¬ ((0 ≤ z ∧ z ≤ 3) ∧ (0 ≤ f ∧ f ≤ 2)) → Q (some (.int (Int32.ofInt (-2)))) (lo_M n w3 g σ τ r1 r2))
    (hfnd : ∀ s : Nat, z = (s : Int) → s < 4 → 0 ≤ f ∧ f ≤ 2 → fnd (B 0 s) (A 11 s) f i ≠ 0 → Q (some (.int (Int32.ofInt (-10 - fnd (B 0 s) (A 11 s) f i)))) (lo_M n w3 g (am_u σ 4 13 (Int32.ofInt (fnd (B 0 s) (A 11 s) f i))) τ r1 r2))
    (hok : ∀ s : Nat, z = (s : Int) → s < 4 → 0 ≤ f ∧ f ≤ 2 → fnd (B 0 s) (A 11 s) f i = 0 → Q (some (.int (Int32.ofInt 1))) (lo_M n w3 g (am_u σ (49 + 2 * s) i.toNat (cutI (B 0 s) (Int32.ofInt v))) τ r1 r2)) :
    am_d (d + 3) 81 [.ref 4, .int (Int32.ofInt z), .int (Int32.ofInt f), .int (Int32.ofInt i), .int (Int32.ofInt v)] 0 0 (lo_M n w3 g σ τ r1 r2) Q := by
  have hH := hx.2.2.2.2.2.2.2.1
  have hB := hwf.2.2.2.2.2.2.2.2.2.2.2.2.2.1
  have hA := hwf.2.2.2.2.2.2.2.2.2.2.2.2.1
  refine am_goT T_X9_lay [.ref 4, .int (Int32.ofInt z), .int (Int32.ofInt f), .int (Int32.ofInt i), .int (Int32.ofInt v), .null] rfl rfl (fun _ => false) 60 ?_
  refine s_isSheet d _ _ hz ?_
  by_cases c : 0 ≤ z ∧ z ≤ 3
  · rw [if_pos c]
    refine And.intro (fun q => absurd q (by decide)) (fun _ => ?_)
    refine s_isForm d _ _ hf ?_
    by_cases cf : 0 ≤ f ∧ f ≤ 2
    · rw [if_pos cf]
      refine And.intro (fun q => absurd q (by decide)) (fun _ => ?_)
      rcases (show z = 0 ∨ z = 1 ∨ z = 2 ∨ z = 3 by omega) with rfl | rfl | rfl | rfl
      · refine ixi 0 4 (by omega) ?_
        refine s_findingAt0 d _ (hH 0 (by omega)).1 (by have := hB 0; unfold zr; omega) (hH 0 (by omega)).2.1 (hA 0) hf hi ?_
        have hrg := fnd_rng (B 0 0) (A 11 0) f i
        refine And.intro (fun c1 => ?_) (fun c1 => ?_)
        · rw [zeq0 (by unfold zr; omega)] at c1
          have hi2 := fnd_in c1
          have := hA 0
          refine ixi 0 4 (by omega) ?_
          have hok := hok 0 rfl (by omega) cf c1
          show am_d (d + 2) 46 [.ref 48, .int (Int32.ofInt i), .int (Int32.ofInt v)] 0 0 _ _
          rw [show Int32.ofInt i = Int32.ofInt (i.toNat : Int) by congr 1; omega]
          exact s_put0 (d + 1) _ (hH 0 (by omega)).1 (by have := hB 0; unfold zr; omega) (by omega) hok
        · rw [zeq0 (by unfold zr; omega)] at c1
          exact s_finding (d + 1) _ (hfnd 0 rfl (by omega) cf c1)
      · refine ixi 1 4 (by omega) ?_
        refine s_findingAt1 d _ (hH 1 (by omega)).1 (by have := hB 1; unfold zr; omega) (hH 1 (by omega)).2.1 (hA 1) hf hi ?_
        have hrg := fnd_rng (B 0 1) (A 11 1) f i
        refine And.intro (fun c1 => ?_) (fun c1 => ?_)
        · rw [zeq0 (by unfold zr; omega)] at c1
          have hi2 := fnd_in c1
          have := hA 1
          refine ixi 1 4 (by omega) ?_
          have hok := hok 1 rfl (by omega) cf c1
          show am_d (d + 2) 46 [.ref 50, .int (Int32.ofInt i), .int (Int32.ofInt v)] 0 0 _ _
          rw [show Int32.ofInt i = Int32.ofInt (i.toNat : Int) by congr 1; omega]
          exact s_put1 (d + 1) _ (hH 1 (by omega)).1 (by have := hB 1; unfold zr; omega) (by omega) hok
        · rw [zeq0 (by unfold zr; omega)] at c1
          exact s_finding (d + 1) _ (hfnd 1 rfl (by omega) cf c1)
      · refine ixi 2 4 (by omega) ?_
        refine s_findingAt2 d _ (hH 2 (by omega)).1 (by have := hB 2; unfold zr; omega) (hH 2 (by omega)).2.1 (hA 2) hf hi ?_
        have hrg := fnd_rng (B 0 2) (A 11 2) f i
        refine And.intro (fun c1 => ?_) (fun c1 => ?_)
        · rw [zeq0 (by unfold zr; omega)] at c1
          have hi2 := fnd_in c1
          have := hA 2
          refine ixi 2 4 (by omega) ?_
          have hok := hok 2 rfl (by omega) cf c1
          show am_d (d + 2) 46 [.ref 52, .int (Int32.ofInt i), .int (Int32.ofInt v)] 0 0 _ _
          rw [show Int32.ofInt i = Int32.ofInt (i.toNat : Int) by congr 1; omega]
          exact s_put2 (d + 1) _ (hH 2 (by omega)).1 (by have := hB 2; unfold zr; omega) (by omega) hok
        · rw [zeq0 (by unfold zr; omega)] at c1
          exact s_finding (d + 1) _ (hfnd 2 rfl (by omega) cf c1)
      · refine ixi 3 4 (by omega) ?_
        refine s_findingAt3 d _ (hH 3 (by omega)).1 (by have := hB 3; unfold zr; omega) (hH 3 (by omega)).2.1 (hA 3) hf hi ?_
        have hrg := fnd_rng (B 0 3) (A 11 3) f i
        refine And.intro (fun c1 => ?_) (fun c1 => ?_)
        · rw [zeq0 (by unfold zr; omega)] at c1
          have hi2 := fnd_in c1
          have := hA 3
          refine ixi 3 4 (by omega) ?_
          have hok := hok 3 rfl (by omega) cf c1
          show am_d (d + 2) 46 [.ref 54, .int (Int32.ofInt i), .int (Int32.ofInt v)] 0 0 _ _
          rw [show Int32.ofInt i = Int32.ofInt (i.toNat : Int) by congr 1; omega]
          exact s_put3 (d + 1) _ (hH 3 (by omega)).1 (by have := hB 3; unfold zr; omega) (by omega) hok
        · rw [zeq0 (by unfold zr; omega)] at c1
          exact s_finding (d + 1) _ (hfnd 3 rfl (by omega) cf c1)
    · rw [if_neg cf]
      exact And.intro (fun _ => hbad (fun q => cf q.2)) (fun q => absurd rfl q)
  · rw [if_neg c]
    exact And.intro (fun _ => hbad (fun q => c q.1)) (fun q => absurd rfl q)
set_option maxRecDepth 100000 in
theorem c_get (d : Nat) (Q : am_Q) {z f i : Int} (hz : zr z) (hf : zr f) (hi : zr i) (hx : IX A B σ) (hwf : WF A B)
    (hbad : ¬ ((0 ≤ z ∧ z ≤ 3) ∧ (0 ≤ f ∧ f ≤ 2)) → Q (some (.int (Int32.ofInt (-2147483648)))) (lo_M n w3 g σ τ r1 r2))
    (hfnd : ∀ s : Nat, z = (s : Int) → s < 4 → 0 ≤ f ∧ f ≤ 2 → fnd (B 0 s) (A 11 s) f i ≠ 0 → Q (some (.int (Int32.ofInt (-2147483648)))) (lo_M n w3 g (am_u σ 4 13 (Int32.ofInt (fnd (B 0 s) (A 11 s) f i))) τ r1 r2))
    (hok : ∀ s : Nat, z = (s : Int) → s < 4 → 0 ≤ f ∧ f ≤ 2 → fnd (B 0 s) (A 11 s) f i = 0 → Q (some (.int (Int32.ofInt (B (1 + s) i.toNat)))) (lo_M n w3 g σ τ r1 r2)) :
    am_d (d + 3) 82 [.ref 4, .int (Int32.ofInt z), .int (Int32.ofInt f), .int (Int32.ofInt i)] 0 0 (lo_M n w3 g σ τ r1 r2) Q := by
  have hH := hx.2.2.2.2.2.2.2.1
  have hB := hwf.2.2.2.2.2.2.2.2.2.2.2.2.2.1
  have hA := hwf.2.2.2.2.2.2.2.2.2.2.2.2.1
  refine am_goT T_X9_get [.ref 4, .int (Int32.ofInt z), .int (Int32.ofInt f), .int (Int32.ofInt i), .null] rfl rfl (fun _ => false) 60 ?_
  refine s_isSheet d _ _ hz ?_
  by_cases c : 0 ≤ z ∧ z ≤ 3
  · rw [if_pos c]
    refine And.intro (fun q => absurd q (by decide)) (fun _ => ?_)
    refine s_isForm d _ _ hf ?_
    by_cases cf : 0 ≤ f ∧ f ≤ 2
    · rw [if_pos cf]
      refine And.intro (fun q => absurd q (by decide)) (fun _ => ?_)
      rcases (show z = 0 ∨ z = 1 ∨ z = 2 ∨ z = 3 by omega) with rfl | rfl | rfl | rfl
      · refine ixi 0 4 (by omega) ?_
        refine s_findingAt0 d _ (hH 0 (by omega)).1 (by have := hB 0; unfold zr; omega) (hH 0 (by omega)).2.1 (hA 0) hf hi ?_
        have hrg := fnd_rng (B 0 0) (A 11 0) f i
        refine And.intro (fun c1 => ?_) (fun c1 => ?_)
        · rw [zeq0 (by unfold zr; omega)] at c1
          have hi2 := fnd_in c1
          have := hA 0
          refine ixi 0 4 (by omega) ?_
          refine ixi i.toNat 60 (by omega) ?_ (by congr 1; omega)
          have hok := hok 0 rfl (by omega) cf c1
          rw [← (hH 0 (by omega)).2.2 i.toNat (by omega)] at hok
          exact hok
        · rw [zeq0 (by unfold zr; omega)] at c1
          exact hfnd 0 rfl (by omega) cf c1
      · refine ixi 1 4 (by omega) ?_
        refine s_findingAt1 d _ (hH 1 (by omega)).1 (by have := hB 1; unfold zr; omega) (hH 1 (by omega)).2.1 (hA 1) hf hi ?_
        have hrg := fnd_rng (B 0 1) (A 11 1) f i
        refine And.intro (fun c1 => ?_) (fun c1 => ?_)
        · rw [zeq0 (by unfold zr; omega)] at c1
          have hi2 := fnd_in c1
          have := hA 1
          refine ixi 1 4 (by omega) ?_
          refine ixi i.toNat 60 (by omega) ?_ (by congr 1; omega)
          have hok := hok 1 rfl (by omega) cf c1
          rw [← (hH 1 (by omega)).2.2 i.toNat (by omega)] at hok
          exact hok
        · rw [zeq0 (by unfold zr; omega)] at c1
          exact hfnd 1 rfl (by omega) cf c1
      · refine ixi 2 4 (by omega) ?_
        refine s_findingAt2 d _ (hH 2 (by omega)).1 (by have := hB 2; unfold zr; omega) (hH 2 (by omega)).2.1 (hA 2) hf hi ?_
        have hrg := fnd_rng (B 0 2) (A 11 2) f i
        refine And.intro (fun c1 => ?_) (fun c1 => ?_)
        · rw [zeq0 (by unfold zr; omega)] at c1
          have hi2 := fnd_in c1
          have := hA 2
          refine ixi 2 4 (by omega) ?_
          refine ixi i.toNat 60 (by omega) ?_ (by congr 1; omega)
          have hok := hok 2 rfl (by omega) cf c1
          rw [← (hH 2 (by omega)).2.2 i.toNat (by omega)] at hok
          exact hok
        · rw [zeq0 (by unfold zr; omega)] at c1
          exact hfnd 2 rfl (by omega) cf c1
      · refine ixi 3 4 (by omega) ?_
        refine s_findingAt3 d _ (hH 3 (by omega)).1 (by have := hB 3; unfold zr; omega) (hH 3 (by omega)).2.1 (hA 3) hf hi ?_
        have hrg := fnd_rng (B 0 3) (A 11 3) f i
        refine And.intro (fun c1 => ?_) (fun c1 => ?_)
        · rw [zeq0 (by unfold zr; omega)] at c1
          have hi2 := fnd_in c1
          have := hA 3
          refine ixi 3 4 (by omega) ?_
          refine ixi i.toNat 60 (by omega) ?_ (by congr 1; omega)
          have hok := hok 3 rfl (by omega) cf c1
          rw [← (hH 3 (by omega)).2.2 i.toNat (by omega)] at hok
          exact hok
        · rw [zeq0 (by unfold zr; omega)] at c1
          exact hfnd 3 rfl (by omega) cf c1
    · rw [if_neg cf]
      exact And.intro (fun _ => hbad (fun q => cf q.2)) (fun q => absurd rfl q)
  · rw [if_neg c]
    exact And.intro (fun _ => hbad (fun q => c q.1)) (fun q => absurd rfl q)
set_option maxRecDepth 100000 in
theorem c_write (d : Nat) (Q : am_Q) {z : Int} (hz : zr z) (hx : IX A B σ) (hwf : WF A B)
    (hbad : ¬ (0 ≤ z ∧ z ≤ 3) → Q (some (.int (Int32.ofInt (-2)))) (lo_M n w3 g σ τ r1 r2))
    (hlost : ∀ s : Nat, z = (s : Int) → s < 4 → B 0 s = -1 → Q (some (.int (Int32.ofInt (-11)))) (lo_M n w3 g (am_u σ 4 13 (Int32.ofInt 1)) τ r1 r2))
    (hok : ∀ s : Nat, z = (s : Int) → s < 4 → B 0 s ≠ -1 → ∀ σ' : Nat → Nat → Int32, (∀ c, c ≠ 22 → c ≠ 23 → c ≠ 24 → c ≠ 25 → c ≠ 49 + 2 * s → σ' c = σ c) → (∀ i, i ≠ 5 → σ' 23 i = σ 23 i) → (∀ j, σ' (49 + 2 * s) j = if j < min (A 11 s) (cnt A) then cutI (B 0 s) (Int32.ofInt (seatZ (SL A (A 3 1) (fun _ => true) (A 4)) j)) else σ (49 + 2 * s) j) → Q (some (.int (Int32.ofInt ((min (A 11 s) (cnt A) : Nat) : Int)))) (lo_M n w3 g σ' τ r1 r2)) :
    am_d (d + 5) 84 [.ref 4, .int (Int32.ofInt z)] 0 0 (lo_M n w3 g σ τ r1 r2) Q := by
  have hH := hx.2.2.2.2.2.2.2.1
  have hB := hwf.2.2.2.2.2.2.2.2.2.2.2.2.2.1
  have hA := hwf.2.2.2.2.2.2.2.2.2.2.2.2.1
  have hc := cnt_le A
  refine am_goT T_X9_write [.ref 4, .int (Int32.ofInt z), .null, .null, .null] rfl rfl (fun pc => Nat.beq pc 52) 60 ?_
  refine s_isSheet (d + 2) _ _ hz ?_
  by_cases c : 0 ≤ z ∧ z ≤ 3
  · rw [if_pos c]
    refine And.intro (fun q => absurd q (by decide)) (fun _ => ?_)
    rcases (show z = 0 ∨ z = 1 ∨ z = 2 ∨ z = 3 by omega) with rfl | rfl | rfl | rfl
    · refine ixi 0 4 (by omega) ?_
      refine s_isLost0 (d + 3) _ (hH 0 (by omega)).1 (by have := hB 0; unfold zr; omega) ?_
      by_cases c1 : B 0 0 = -1
      · rw [if_pos c1]
        refine And.intro (fun q => absurd q (by decide)) (fun _ => ?_)
        exact s_finding (d + 3) _ (hlost 0 rfl (by omega) c1)
      · rw [if_neg c1]
        refine And.intro (fun _ => ?_) (fun q => absurd rfl q)
        refine s_seatAll d _ hx hwf (fun σ1 k1 k2 k3 k4 k5 k6 => ?_)
        have h60 := hA 0
        have e : (if σ1 5 4 < σ1 48 2 then σ1 5 4 else σ1 48 2) = Int32.ofInt ((min (A 11 0) (cnt A) : Nat) : Int) := by
          rw [k1 5 (by decide) (by decide) (by decide) (by decide), k1 48 (by decide) (by decide) (by decide) (by decide), hx.1.2.2.1, (hH 0 (by omega)).2.1, zmin (by unfold zr; omega) (by unfold zr; omega)]
          congr 1
          omega
        show am_wp _ _ _ (52, [.ref 4, .int (Int32.ofInt 0), .ref 48, .int (if σ1 5 4 < σ1 48 2 then σ1 5 4 else σ1 48 2), .int (Int32.ofInt 0)], [], 0, 0) (lo_M n w3 g σ1 τ r1 r2)
        rw [e]
        refine s_write_loop0 (d + 3) Q (x1 := Int32.ofInt 0) (f := B 0 0) (by have := hB 0; unfold zr; omega) (by omega) (min (A 11 0) (cnt A)) 0 σ1 (by omega) (by rw [k1 48 (by decide) (by decide) (by decide) (by decide)]; exact (hH 0 (by omega)).1) (fun σ' m1 m2 => ?_)
        refine hok 0 rfl (by omega) c1 σ' (fun c e1 e2 e3 e4 e5 => by rw [m1 c e5, k1 c e1 e2 e3 e4]) (fun i hi => by rw [m1 23 (by decide), k2 i hi]) (fun j => ?_)
        refine (m2 j).trans ?_
        by_cases cj : j < min (A 11 0) (cnt A)
        · rw [if_pos ⟨Nat.zero_le _, cj⟩, if_pos cj, k6 j (by omega)]
        · rw [if_neg (fun q => cj q.2), if_neg cj, k1 49 (by decide) (by decide) (by decide) (by decide)]
    · refine ixi 1 4 (by omega) ?_
      refine s_isLost1 (d + 3) _ (hH 1 (by omega)).1 (by have := hB 1; unfold zr; omega) ?_
      by_cases c1 : B 0 1 = -1
      · rw [if_pos c1]
        refine And.intro (fun q => absurd q (by decide)) (fun _ => ?_)
        exact s_finding (d + 3) _ (hlost 1 rfl (by omega) c1)
      · rw [if_neg c1]
        refine And.intro (fun _ => ?_) (fun q => absurd rfl q)
        refine s_seatAll d _ hx hwf (fun σ1 k1 k2 k3 k4 k5 k6 => ?_)
        have h60 := hA 1
        have e : (if σ1 5 4 < σ1 50 2 then σ1 5 4 else σ1 50 2) = Int32.ofInt ((min (A 11 1) (cnt A) : Nat) : Int) := by
          rw [k1 5 (by decide) (by decide) (by decide) (by decide), k1 50 (by decide) (by decide) (by decide) (by decide), hx.1.2.2.1, (hH 1 (by omega)).2.1, zmin (by unfold zr; omega) (by unfold zr; omega)]
          congr 1
          omega
        show am_wp _ _ _ (52, [.ref 4, .int (Int32.ofInt 1), .ref 50, .int (if σ1 5 4 < σ1 50 2 then σ1 5 4 else σ1 50 2), .int (Int32.ofInt 0)], [], 0, 0) (lo_M n w3 g σ1 τ r1 r2)
        rw [e]
        refine s_write_loop1 (d + 3) Q (x1 := Int32.ofInt 1) (f := B 0 1) (by have := hB 1; unfold zr; omega) (by omega) (min (A 11 1) (cnt A)) 0 σ1 (by omega) (by rw [k1 50 (by decide) (by decide) (by decide) (by decide)]; exact (hH 1 (by omega)).1) (fun σ' m1 m2 => ?_)
        refine hok 1 rfl (by omega) c1 σ' (fun c e1 e2 e3 e4 e5 => by rw [m1 c e5, k1 c e1 e2 e3 e4]) (fun i hi => by rw [m1 23 (by decide), k2 i hi]) (fun j => ?_)
        refine (m2 j).trans ?_
        by_cases cj : j < min (A 11 1) (cnt A)
        · rw [if_pos ⟨Nat.zero_le _, cj⟩, if_pos cj, k6 j (by omega)]
        · rw [if_neg (fun q => cj q.2), if_neg cj, k1 51 (by decide) (by decide) (by decide) (by decide)]
    · refine ixi 2 4 (by omega) ?_
      refine s_isLost2 (d + 3) _ (hH 2 (by omega)).1 (by have := hB 2; unfold zr; omega) ?_
      by_cases c1 : B 0 2 = -1
      · rw [if_pos c1]
        refine And.intro (fun q => absurd q (by decide)) (fun _ => ?_)
        exact s_finding (d + 3) _ (hlost 2 rfl (by omega) c1)
      · rw [if_neg c1]
        refine And.intro (fun _ => ?_) (fun q => absurd rfl q)
        refine s_seatAll d _ hx hwf (fun σ1 k1 k2 k3 k4 k5 k6 => ?_)
        have h60 := hA 2
        have e : (if σ1 5 4 < σ1 52 2 then σ1 5 4 else σ1 52 2) = Int32.ofInt ((min (A 11 2) (cnt A) : Nat) : Int) := by
          rw [k1 5 (by decide) (by decide) (by decide) (by decide), k1 52 (by decide) (by decide) (by decide) (by decide), hx.1.2.2.1, (hH 2 (by omega)).2.1, zmin (by unfold zr; omega) (by unfold zr; omega)]
          congr 1
          omega
        show am_wp _ _ _ (52, [.ref 4, .int (Int32.ofInt 2), .ref 52, .int (if σ1 5 4 < σ1 52 2 then σ1 5 4 else σ1 52 2), .int (Int32.ofInt 0)], [], 0, 0) (lo_M n w3 g σ1 τ r1 r2)
        rw [e]
        refine s_write_loop2 (d + 3) Q (x1 := Int32.ofInt 2) (f := B 0 2) (by have := hB 2; unfold zr; omega) (by omega) (min (A 11 2) (cnt A)) 0 σ1 (by omega) (by rw [k1 52 (by decide) (by decide) (by decide) (by decide)]; exact (hH 2 (by omega)).1) (fun σ' m1 m2 => ?_)
        refine hok 2 rfl (by omega) c1 σ' (fun c e1 e2 e3 e4 e5 => by rw [m1 c e5, k1 c e1 e2 e3 e4]) (fun i hi => by rw [m1 23 (by decide), k2 i hi]) (fun j => ?_)
        refine (m2 j).trans ?_
        by_cases cj : j < min (A 11 2) (cnt A)
        · rw [if_pos ⟨Nat.zero_le _, cj⟩, if_pos cj, k6 j (by omega)]
        · rw [if_neg (fun q => cj q.2), if_neg cj, k1 53 (by decide) (by decide) (by decide) (by decide)]
    · refine ixi 3 4 (by omega) ?_
      refine s_isLost3 (d + 3) _ (hH 3 (by omega)).1 (by have := hB 3; unfold zr; omega) ?_
      by_cases c1 : B 0 3 = -1
      · rw [if_pos c1]
        refine And.intro (fun q => absurd q (by decide)) (fun _ => ?_)
        exact s_finding (d + 3) _ (hlost 3 rfl (by omega) c1)
      · rw [if_neg c1]
        refine And.intro (fun _ => ?_) (fun q => absurd rfl q)
        refine s_seatAll d _ hx hwf (fun σ1 k1 k2 k3 k4 k5 k6 => ?_)
        have h60 := hA 3
        have e : (if σ1 5 4 < σ1 54 2 then σ1 5 4 else σ1 54 2) = Int32.ofInt ((min (A 11 3) (cnt A) : Nat) : Int) := by
          rw [k1 5 (by decide) (by decide) (by decide) (by decide), k1 54 (by decide) (by decide) (by decide) (by decide), hx.1.2.2.1, (hH 3 (by omega)).2.1, zmin (by unfold zr; omega) (by unfold zr; omega)]
          congr 1
          omega
        show am_wp _ _ _ (52, [.ref 4, .int (Int32.ofInt 3), .ref 54, .int (if σ1 5 4 < σ1 54 2 then σ1 5 4 else σ1 54 2), .int (Int32.ofInt 0)], [], 0, 0) (lo_M n w3 g σ1 τ r1 r2)
        rw [e]
        refine s_write_loop3 (d + 3) Q (x1 := Int32.ofInt 3) (f := B 0 3) (by have := hB 3; unfold zr; omega) (by omega) (min (A 11 3) (cnt A)) 0 σ1 (by omega) (by rw [k1 54 (by decide) (by decide) (by decide) (by decide)]; exact (hH 3 (by omega)).1) (fun σ' m1 m2 => ?_)
        refine hok 3 rfl (by omega) c1 σ' (fun c e1 e2 e3 e4 e5 => by rw [m1 c e5, k1 c e1 e2 e3 e4]) (fun i hi => by rw [m1 23 (by decide), k2 i hi]) (fun j => ?_)
        refine (m2 j).trans ?_
        by_cases cj : j < min (A 11 3) (cnt A)
        · rw [if_pos ⟨Nat.zero_le _, cj⟩, if_pos cj, k6 j (by omega)]
        · rw [if_neg (fun q => cj q.2), if_neg cj, k1 55 (by decide) (by decide) (by decide) (by decide)]
  · rw [if_neg c]
    exact And.intro (fun _ => hbad c) (fun q => absurd rfl q)
set_option maxRecDepth 100000 in
theorem c_read (d : Nat) (Q : am_Q) {z : Int} (hz : zr z) (hx : IX A B σ) (hwf : WF A B)
    (hbad : ¬ (0 ≤ z ∧ z ≤ 3) → Q (some (.int (Int32.ofInt (-2)))) (lo_M n w3 g σ τ r1 r2))
    (hlost : ∀ s : Nat, z = (s : Int) → s < 4 → B 0 s = -1 → Q (some (.int (Int32.ofInt (-11)))) (lo_M n w3 g (am_u σ 4 13 (Int32.ofInt 1)) τ r1 r2))
    (hok : ∀ s : Nat, z = (s : Int) → s < 4 → B 0 s ≠ -1 → ∀ σ' : Nat → Nat → Int32, (∀ c, c ≠ 21 → σ' c = σ c) → (∀ j, σ' 21 j = if j < rdk (B (1 + s)) (min (A 11 s) 7) 0 then Int32.ofInt (B (1 + s) j) else σ 21 j) → Q (some (.int (Int32.ofInt (rdk (B (1 + s)) (min (A 11 s) 7) 0 : Int)))) (lo_M n w3 g (am_u σ' 4 15 (Int32.ofInt 0)) τ r1 r2)) :
    am_d (d + 3) 60 [.ref 4, .int (Int32.ofInt z)] 0 0 (lo_M n w3 g σ τ r1 r2) Q := by
  have hH := hx.2.2.2.2.2.2.2.1
  have hB := hwf.2.2.2.2.2.2.2.2.2.2.2.2.2.1
  have hBi := hwf.2.2.2.2.2.2.2.2.2.2.2.2.2.2.1
  have hA := hwf.2.2.2.2.2.2.2.2.2.2.2.2.1
  refine am_goT T_X9_read [.ref 4, .int (Int32.ofInt z), .null, .null, .null] rfl rfl (fun pc => Nat.beq pc 43) 60 ?_
  refine s_isSheet d _ _ hz ?_
  by_cases c : 0 ≤ z ∧ z ≤ 3
  · rw [if_pos c]
    refine And.intro (fun q => absurd q (by decide)) (fun _ => ?_)
    rcases (show z = 0 ∨ z = 1 ∨ z = 2 ∨ z = 3 by omega) with rfl | rfl | rfl | rfl
    · refine ixi 0 4 (by omega) ?_
      refine s_isLost0 (d + 1) _ (hH 0 (by omega)).1 (by have := hB 0; unfold zr; omega) ?_
      by_cases c1 : B 0 0 = -1
      · rw [if_pos c1]
        refine And.intro (fun q => absurd q (by decide)) (fun _ => ?_)
        exact s_finding (d + 1) _ (hlost 0 rfl (by omega) c1)
      · rw [if_neg c1]
        refine And.intro (fun _ => ?_) (fun q => absurd rfl q)
        have h60 := hA 0
        have e : (if Int32.ofInt 7 < σ 48 2 then Int32.ofInt 7 else σ 48 2) = Int32.ofInt ((min (A 11 0) 7 : Nat) : Int) := by
          rw [(hH 0 (by omega)).2.1, zmin (by unfold zr; omega) (by unfold zr; omega)]
          congr 1
          omega
        show am_wp _ _ _ (43, [.ref 4, .int (Int32.ofInt 0), .ref 48, .int (if Int32.ofInt 7 < σ 48 2 then Int32.ofInt 7 else σ 48 2), .int (Int32.ofInt 0)], [], 0, 0) (lo_M n w3 g σ τ r1 r2)
        rw [e]
        refine s_read_loop0 (d + 1) Q (x1 := Int32.ofInt 0) (f := B (1 + 0)) (by omega) (fun j _ => hBi 0 j) (min (A 11 0) 7) 0 σ (by omega) (fun j hj => (hH 0 (by omega)).2.2 j (by omega)) (fun σ' m1 m2 => ?_)
        refine hok 0 rfl (by omega) c1 σ' m1 (fun j => ?_)
        refine (m2 j).trans ?_
        by_cases cj : j < rdk (B (1 + 0)) (min (A 11 0) 7) 0
        · rw [if_pos ⟨Nat.zero_le _, cj⟩, if_pos cj]
        · rw [if_neg (fun q => cj q.2), if_neg cj]
    · refine ixi 1 4 (by omega) ?_
      refine s_isLost1 (d + 1) _ (hH 1 (by omega)).1 (by have := hB 1; unfold zr; omega) ?_
      by_cases c1 : B 0 1 = -1
      · rw [if_pos c1]
        refine And.intro (fun q => absurd q (by decide)) (fun _ => ?_)
        exact s_finding (d + 1) _ (hlost 1 rfl (by omega) c1)
      · rw [if_neg c1]
        refine And.intro (fun _ => ?_) (fun q => absurd rfl q)
        have h60 := hA 1
        have e : (if Int32.ofInt 7 < σ 50 2 then Int32.ofInt 7 else σ 50 2) = Int32.ofInt ((min (A 11 1) 7 : Nat) : Int) := by
          rw [(hH 1 (by omega)).2.1, zmin (by unfold zr; omega) (by unfold zr; omega)]
          congr 1
          omega
        show am_wp _ _ _ (43, [.ref 4, .int (Int32.ofInt 1), .ref 50, .int (if Int32.ofInt 7 < σ 50 2 then Int32.ofInt 7 else σ 50 2), .int (Int32.ofInt 0)], [], 0, 0) (lo_M n w3 g σ τ r1 r2)
        rw [e]
        refine s_read_loop1 (d + 1) Q (x1 := Int32.ofInt 1) (f := B (1 + 1)) (by omega) (fun j _ => hBi 1 j) (min (A 11 1) 7) 0 σ (by omega) (fun j hj => (hH 1 (by omega)).2.2 j (by omega)) (fun σ' m1 m2 => ?_)
        refine hok 1 rfl (by omega) c1 σ' m1 (fun j => ?_)
        refine (m2 j).trans ?_
        by_cases cj : j < rdk (B (1 + 1)) (min (A 11 1) 7) 0
        · rw [if_pos ⟨Nat.zero_le _, cj⟩, if_pos cj]
        · rw [if_neg (fun q => cj q.2), if_neg cj]
    · refine ixi 2 4 (by omega) ?_
      refine s_isLost2 (d + 1) _ (hH 2 (by omega)).1 (by have := hB 2; unfold zr; omega) ?_
      by_cases c1 : B 0 2 = -1
      · rw [if_pos c1]
        refine And.intro (fun q => absurd q (by decide)) (fun _ => ?_)
        exact s_finding (d + 1) _ (hlost 2 rfl (by omega) c1)
      · rw [if_neg c1]
        refine And.intro (fun _ => ?_) (fun q => absurd rfl q)
        have h60 := hA 2
        have e : (if Int32.ofInt 7 < σ 52 2 then Int32.ofInt 7 else σ 52 2) = Int32.ofInt ((min (A 11 2) 7 : Nat) : Int) := by
          rw [(hH 2 (by omega)).2.1, zmin (by unfold zr; omega) (by unfold zr; omega)]
          congr 1
          omega
        show am_wp _ _ _ (43, [.ref 4, .int (Int32.ofInt 2), .ref 52, .int (if Int32.ofInt 7 < σ 52 2 then Int32.ofInt 7 else σ 52 2), .int (Int32.ofInt 0)], [], 0, 0) (lo_M n w3 g σ τ r1 r2)
        rw [e]
        refine s_read_loop2 (d + 1) Q (x1 := Int32.ofInt 2) (f := B (1 + 2)) (by omega) (fun j _ => hBi 2 j) (min (A 11 2) 7) 0 σ (by omega) (fun j hj => (hH 2 (by omega)).2.2 j (by omega)) (fun σ' m1 m2 => ?_)
        refine hok 2 rfl (by omega) c1 σ' m1 (fun j => ?_)
        refine (m2 j).trans ?_
        by_cases cj : j < rdk (B (1 + 2)) (min (A 11 2) 7) 0
        · rw [if_pos ⟨Nat.zero_le _, cj⟩, if_pos cj]
        · rw [if_neg (fun q => cj q.2), if_neg cj]
    · refine ixi 3 4 (by omega) ?_
      refine s_isLost3 (d + 1) _ (hH 3 (by omega)).1 (by have := hB 3; unfold zr; omega) ?_
      by_cases c1 : B 0 3 = -1
      · rw [if_pos c1]
        refine And.intro (fun q => absurd q (by decide)) (fun _ => ?_)
        exact s_finding (d + 1) _ (hlost 3 rfl (by omega) c1)
      · rw [if_neg c1]
        refine And.intro (fun _ => ?_) (fun q => absurd rfl q)
        have h60 := hA 3
        have e : (if Int32.ofInt 7 < σ 54 2 then Int32.ofInt 7 else σ 54 2) = Int32.ofInt ((min (A 11 3) 7 : Nat) : Int) := by
          rw [(hH 3 (by omega)).2.1, zmin (by unfold zr; omega) (by unfold zr; omega)]
          congr 1
          omega
        show am_wp _ _ _ (43, [.ref 4, .int (Int32.ofInt 3), .ref 54, .int (if Int32.ofInt 7 < σ 54 2 then Int32.ofInt 7 else σ 54 2), .int (Int32.ofInt 0)], [], 0, 0) (lo_M n w3 g σ τ r1 r2)
        rw [e]
        refine s_read_loop3 (d + 1) Q (x1 := Int32.ofInt 3) (f := B (1 + 3)) (by omega) (fun j _ => hBi 3 j) (min (A 11 3) 7) 0 σ (by omega) (fun j hj => (hH 3 (by omega)).2.2 j (by omega)) (fun σ' m1 m2 => ?_)
        refine hok 3 rfl (by omega) c1 σ' m1 (fun j => ?_)
        refine (m2 j).trans ?_
        by_cases cj : j < rdk (B (1 + 3)) (min (A 11 3) 7) 0
        · rw [if_pos ⟨Nat.zero_le _, cj⟩, if_pos cj]
        · rw [if_neg (fun q => cj q.2), if_neg cj]
  · rw [if_neg c]
    exact And.intro (fun _ => hbad c) (fun q => absurd rfl q)
set_option maxHeartbeats 4000000 in
set_option maxRecDepth 100000 in
theorem c_copy (d : Nat) (Q : am_Q) {z i y j m : Int} (hz : zr z) (hi : zr i) (hy : zr y) (hj : zr j) (hm : zr m) (hx : IX A B σ) (hwf : WF A B)
    (hbad : ¬ ((0 ≤ z ∧ z ≤ 3) ∧ 0 ≤ y ∧ y ≤ 3) → Q (some (.int (Int32.ofInt (-2)))) (lo_M n w3 g σ τ r1 r2))
    (hlost : ∀ s t : Nat, z = (s : Int) → s < 4 → y = (t : Int) → t < 4 → B 0 s = -1 ∨ B 0 t = -1 → Q (some (.int (Int32.ofInt (-11)))) (lo_M n w3 g (am_u σ 4 13 (Int32.ofInt 1)) τ r1 r2))
    (hform : ∀ s t : Nat, z = (s : Int) → s < 4 → y = (t : Int) → t < 4 → ¬ (B 0 s = -1 ∨ B 0 t = -1) → B 0 s ≠ B 0 t → Q (some (.int (Int32.ofInt (-14)))) (lo_M n w3 g (am_u σ 4 13 (Int32.ofInt 4)) τ r1 r2))
    (hidx : ∀ s t : Nat, z = (s : Int) → s < 4 → y = (t : Int) → t < 4 → ¬ (B 0 s = -1 ∨ B 0 t = -1) → B 0 s = B 0 t → ¬ (hld (A 11 s) i m ∧ hld (A 11 t) j m) → Q (some (.int (Int32.ofInt (-12)))) (lo_M n w3 g (am_u σ 4 13 (Int32.ofInt 2)) τ r1 r2))
    (hok : ∀ s t : Nat, z = (s : Int) → s < 4 → y = (t : Int) → t < 4 → ¬ (B 0 s = -1 ∨ B 0 t = -1) → B 0 s = B 0 t → hld (A 11 s) i m ∧ hld (A 11 t) j m → Q (some (.int (Int32.ofInt 1))) (lo_M n w3 g (am_ur σ (49 + 2 * t) (va_cpy (σ (49 + 2 * s)) (σ (49 + 2 * t)) i.toNat j.toNat m.toNat)) τ r1 r2)) :
    am_d (d + 3) 83 [.ref 4, .int (Int32.ofInt z), .int (Int32.ofInt i), .int (Int32.ofInt y), .int (Int32.ofInt j), .int (Int32.ofInt m)] 0 0 (lo_M n w3 g σ τ r1 r2) Q := by
  have hH := hx.2.2.2.2.2.2.2.1
  have hB := hwf.2.2.2.2.2.2.2.2.2.2.2.2.2.1
  have hA := hwf.2.2.2.2.2.2.2.2.2.2.2.2.1
  refine am_goT T_X9_copy [.ref 4, .int (Int32.ofInt z), .int (Int32.ofInt i), .int (Int32.ofInt y), .int (Int32.ofInt j), .int (Int32.ofInt m), .null, .null] rfl rfl (fun _ => false) 80 ?_
  refine s_isSheet d _ _ hz ?_
  by_cases c : 0 ≤ z ∧ z ≤ 3
  · rw [if_pos c]
    refine And.intro (fun q => absurd q (by decide)) (fun _ => ?_)
    refine s_isSheet d _ _ hy ?_
    by_cases cy : 0 ≤ y ∧ y ≤ 3
    · rw [if_pos cy]
      refine And.intro (fun q => absurd q (by decide)) (fun _ => ?_)
      rcases (show (z = 0 ∧ y = 0) ∨ (z = 0 ∧ y = 1) ∨ (z = 0 ∧ y = 2) ∨ (z = 0 ∧ y = 3) ∨ (z = 1 ∧ y = 0) ∨ (z = 1 ∧ y = 1) ∨ (z = 1 ∧ y = 2) ∨ (z = 1 ∧ y = 3) ∨ (z = 2 ∧ y = 0) ∨ (z = 2 ∧ y = 1) ∨ (z = 2 ∧ y = 2) ∨ (z = 2 ∧ y = 3) ∨ (z = 3 ∧ y = 0) ∨ (z = 3 ∧ y = 1) ∨ (z = 3 ∧ y = 2) ∨ (z = 3 ∧ y = 3) by omega) with ⟨rfl, rfl⟩ | ⟨rfl, rfl⟩ | ⟨rfl, rfl⟩ | ⟨rfl, rfl⟩ | ⟨rfl, rfl⟩ | ⟨rfl, rfl⟩ | ⟨rfl, rfl⟩ | ⟨rfl, rfl⟩ | ⟨rfl, rfl⟩ | ⟨rfl, rfl⟩ | ⟨rfl, rfl⟩ | ⟨rfl, rfl⟩ | ⟨rfl, rfl⟩ | ⟨rfl, rfl⟩ | ⟨rfl, rfl⟩ | ⟨rfl, rfl⟩
      · refine ixi 0 4 (by omega) ?_
        refine ixi 0 4 (by omega) ?_
        refine s_isLost0 (d + 1) _ (hH 0 (by omega)).1 (by have := hB 0; unfold zr; omega) ?_
        by_cases c1 : B 0 0 = -1
        · rw [if_pos c1]
          refine And.intro (fun q => absurd q (by decide)) (fun _ => ?_)
          exact s_finding (d + 1) _ (hlost 0 0 rfl (by omega) rfl (by omega) (Or.inl c1))
        · rw [if_neg c1]
          refine And.intro (fun _ => ?_) (fun q => absurd rfl q)
          refine s_isLost0 (d + 1) _ (hH 0 (by omega)).1 (by have := hB 0; unfold zr; omega) ?_
          by_cases c2 : B 0 0 = -1
          · rw [if_pos c2]
            refine And.intro (fun q => absurd q (by decide)) (fun _ => ?_)
            exact s_finding (d + 1) _ (hlost 0 0 rfl (by omega) rfl (by omega) (Or.inr c2))
          · rw [if_neg c2]
            refine And.intro (fun _ => ?_) (fun q => absurd rfl q)
            refine And.intro (fun c3 => ?_) (fun c3 => ?_)
            · have c3 : σ 48 1 = σ 48 1 := c3
              rw [(hH 0 (by omega)).1, zeq (by have := hB 0; unfold zr; omega) (by have := hB 0; unfold zr; omega)] at c3
              refine s_holds0 (d + 1) _ (hH 0 (by omega)).2.1 (hA 0) hi hm (fun c4 => ?_) (fun c4 => ?_)
              · refine And.intro (fun q => absurd q (by decide)) (fun _ => ?_)
                refine s_holds0 (d + 1) _ (hH 0 (by omega)).2.1 (hA 0) hj hm (fun c5 => ?_) (fun c5 => ?_)
                · refine And.intro (fun q => absurd q (by decide)) (fun _ => ?_)
                  have hok := hok 0 0 rfl (by omega) rfl (by omega) (fun q => q.elim c1 c2) c3 ⟨c4, c5⟩
                  have a1 := hA 0
                  have a2 := hA 0
                  have b1 := c4.1
                  have b2 := c4.2.1
                  have b3 := c4.2.2.2
                  have b4 := c5.1
                  have b5 := c5.2.2.2
                  have e1 : (Int32.ofInt i).toNatClampNeg = i.toNat := zcl (by congr 1; omega) (by omega)
                  have e2 : (Int32.ofInt j).toNatClampNeg = j.toNat := zcl (by congr 1; omega) (by omega)
                  have e3 : (Int32.ofInt m).toNatClampNeg = m.toNat := zcl (by congr 1; omega) (by omega)
                  rw [← e1, ← e2, ← e3] at hok
                  refine And.intro (by rw [zlt0 hi]; omega) (And.intro (by rw [zlt0 hj]; omega) (And.intro (by rw [zlt0 hm]; omega) (And.intro ?_ (And.intro ?_ hok))))
                  · rw [e1, e3]
                    show i.toNat + m.toNat ≤ 60
                    omega
                  · rw [e2, e3]
                    show j.toNat + m.toNat ≤ 60
                    omega
                · refine And.intro (fun _ => ?_) (fun q => absurd rfl q)
                  exact s_finding (d + 1) _ (hidx 0 0 rfl (by omega) rfl (by omega) (fun q => q.elim c1 c2) c3 (fun q => c5 q.2))
              · refine And.intro (fun _ => ?_) (fun q => absurd rfl q)
                exact s_finding (d + 1) _ (hidx 0 0 rfl (by omega) rfl (by omega) (fun q => q.elim c1 c2) c3 (fun q => c4 q.1))
            · have c3 : ¬ σ 48 1 = σ 48 1 := c3
              rw [(hH 0 (by omega)).1, zeq (by have := hB 0; unfold zr; omega) (by have := hB 0; unfold zr; omega)] at c3
              exact s_finding (d + 1) _ (hform 0 0 rfl (by omega) rfl (by omega) (fun q => q.elim c1 c2) c3)
      · refine ixi 0 4 (by omega) ?_
        refine ixi 1 4 (by omega) ?_
        refine s_isLost0 (d + 1) _ (hH 0 (by omega)).1 (by have := hB 0; unfold zr; omega) ?_
        by_cases c1 : B 0 0 = -1
        · rw [if_pos c1]
          refine And.intro (fun q => absurd q (by decide)) (fun _ => ?_)
          exact s_finding (d + 1) _ (hlost 0 1 rfl (by omega) rfl (by omega) (Or.inl c1))
        · rw [if_neg c1]
          refine And.intro (fun _ => ?_) (fun q => absurd rfl q)
          refine s_isLost1 (d + 1) _ (hH 1 (by omega)).1 (by have := hB 1; unfold zr; omega) ?_
          by_cases c2 : B 0 1 = -1
          · rw [if_pos c2]
            refine And.intro (fun q => absurd q (by decide)) (fun _ => ?_)
            exact s_finding (d + 1) _ (hlost 0 1 rfl (by omega) rfl (by omega) (Or.inr c2))
          · rw [if_neg c2]
            refine And.intro (fun _ => ?_) (fun q => absurd rfl q)
            refine And.intro (fun c3 => ?_) (fun c3 => ?_)
            · have c3 : σ 48 1 = σ 50 1 := c3
              rw [(hH 0 (by omega)).1, (hH 1 (by omega)).1, zeq (by have := hB 0; unfold zr; omega) (by have := hB 1; unfold zr; omega)] at c3
              refine s_holds0 (d + 1) _ (hH 0 (by omega)).2.1 (hA 0) hi hm (fun c4 => ?_) (fun c4 => ?_)
              · refine And.intro (fun q => absurd q (by decide)) (fun _ => ?_)
                refine s_holds1 (d + 1) _ (hH 1 (by omega)).2.1 (hA 1) hj hm (fun c5 => ?_) (fun c5 => ?_)
                · refine And.intro (fun q => absurd q (by decide)) (fun _ => ?_)
                  have hok := hok 0 1 rfl (by omega) rfl (by omega) (fun q => q.elim c1 c2) c3 ⟨c4, c5⟩
                  have a1 := hA 0
                  have a2 := hA 1
                  have b1 := c4.1
                  have b2 := c4.2.1
                  have b3 := c4.2.2.2
                  have b4 := c5.1
                  have b5 := c5.2.2.2
                  have e1 : (Int32.ofInt i).toNatClampNeg = i.toNat := zcl (by congr 1; omega) (by omega)
                  have e2 : (Int32.ofInt j).toNatClampNeg = j.toNat := zcl (by congr 1; omega) (by omega)
                  have e3 : (Int32.ofInt m).toNatClampNeg = m.toNat := zcl (by congr 1; omega) (by omega)
                  rw [← e1, ← e2, ← e3] at hok
                  refine And.intro (by rw [zlt0 hi]; omega) (And.intro (by rw [zlt0 hj]; omega) (And.intro (by rw [zlt0 hm]; omega) (And.intro ?_ (And.intro ?_ hok))))
                  · rw [e1, e3]
                    show i.toNat + m.toNat ≤ 60
                    omega
                  · rw [e2, e3]
                    show j.toNat + m.toNat ≤ 60
                    omega
                · refine And.intro (fun _ => ?_) (fun q => absurd rfl q)
                  exact s_finding (d + 1) _ (hidx 0 1 rfl (by omega) rfl (by omega) (fun q => q.elim c1 c2) c3 (fun q => c5 q.2))
              · refine And.intro (fun _ => ?_) (fun q => absurd rfl q)
                exact s_finding (d + 1) _ (hidx 0 1 rfl (by omega) rfl (by omega) (fun q => q.elim c1 c2) c3 (fun q => c4 q.1))
            · have c3 : ¬ σ 48 1 = σ 50 1 := c3
              rw [(hH 0 (by omega)).1, (hH 1 (by omega)).1, zeq (by have := hB 0; unfold zr; omega) (by have := hB 1; unfold zr; omega)] at c3
              exact s_finding (d + 1) _ (hform 0 1 rfl (by omega) rfl (by omega) (fun q => q.elim c1 c2) c3)
      · refine ixi 0 4 (by omega) ?_
        refine ixi 2 4 (by omega) ?_
        refine s_isLost0 (d + 1) _ (hH 0 (by omega)).1 (by have := hB 0; unfold zr; omega) ?_
        by_cases c1 : B 0 0 = -1
        · rw [if_pos c1]
          refine And.intro (fun q => absurd q (by decide)) (fun _ => ?_)
          exact s_finding (d + 1) _ (hlost 0 2 rfl (by omega) rfl (by omega) (Or.inl c1))
        · rw [if_neg c1]
          refine And.intro (fun _ => ?_) (fun q => absurd rfl q)
          refine s_isLost2 (d + 1) _ (hH 2 (by omega)).1 (by have := hB 2; unfold zr; omega) ?_
          by_cases c2 : B 0 2 = -1
          · rw [if_pos c2]
            refine And.intro (fun q => absurd q (by decide)) (fun _ => ?_)
            exact s_finding (d + 1) _ (hlost 0 2 rfl (by omega) rfl (by omega) (Or.inr c2))
          · rw [if_neg c2]
            refine And.intro (fun _ => ?_) (fun q => absurd rfl q)
            refine And.intro (fun c3 => ?_) (fun c3 => ?_)
            · have c3 : σ 48 1 = σ 52 1 := c3
              rw [(hH 0 (by omega)).1, (hH 2 (by omega)).1, zeq (by have := hB 0; unfold zr; omega) (by have := hB 2; unfold zr; omega)] at c3
              refine s_holds0 (d + 1) _ (hH 0 (by omega)).2.1 (hA 0) hi hm (fun c4 => ?_) (fun c4 => ?_)
              · refine And.intro (fun q => absurd q (by decide)) (fun _ => ?_)
                refine s_holds2 (d + 1) _ (hH 2 (by omega)).2.1 (hA 2) hj hm (fun c5 => ?_) (fun c5 => ?_)
                · refine And.intro (fun q => absurd q (by decide)) (fun _ => ?_)
                  have hok := hok 0 2 rfl (by omega) rfl (by omega) (fun q => q.elim c1 c2) c3 ⟨c4, c5⟩
                  have a1 := hA 0
                  have a2 := hA 2
                  have b1 := c4.1
                  have b2 := c4.2.1
                  have b3 := c4.2.2.2
                  have b4 := c5.1
                  have b5 := c5.2.2.2
                  have e1 : (Int32.ofInt i).toNatClampNeg = i.toNat := zcl (by congr 1; omega) (by omega)
                  have e2 : (Int32.ofInt j).toNatClampNeg = j.toNat := zcl (by congr 1; omega) (by omega)
                  have e3 : (Int32.ofInt m).toNatClampNeg = m.toNat := zcl (by congr 1; omega) (by omega)
                  rw [← e1, ← e2, ← e3] at hok
                  refine And.intro (by rw [zlt0 hi]; omega) (And.intro (by rw [zlt0 hj]; omega) (And.intro (by rw [zlt0 hm]; omega) (And.intro ?_ (And.intro ?_ hok))))
                  · rw [e1, e3]
                    show i.toNat + m.toNat ≤ 60
                    omega
                  · rw [e2, e3]
                    show j.toNat + m.toNat ≤ 60
                    omega
                · refine And.intro (fun _ => ?_) (fun q => absurd rfl q)
                  exact s_finding (d + 1) _ (hidx 0 2 rfl (by omega) rfl (by omega) (fun q => q.elim c1 c2) c3 (fun q => c5 q.2))
              · refine And.intro (fun _ => ?_) (fun q => absurd rfl q)
                exact s_finding (d + 1) _ (hidx 0 2 rfl (by omega) rfl (by omega) (fun q => q.elim c1 c2) c3 (fun q => c4 q.1))
            · have c3 : ¬ σ 48 1 = σ 52 1 := c3
              rw [(hH 0 (by omega)).1, (hH 2 (by omega)).1, zeq (by have := hB 0; unfold zr; omega) (by have := hB 2; unfold zr; omega)] at c3
              exact s_finding (d + 1) _ (hform 0 2 rfl (by omega) rfl (by omega) (fun q => q.elim c1 c2) c3)
      · refine ixi 0 4 (by omega) ?_
        refine ixi 3 4 (by omega) ?_
        refine s_isLost0 (d + 1) _ (hH 0 (by omega)).1 (by have := hB 0; unfold zr; omega) ?_
        by_cases c1 : B 0 0 = -1
        · rw [if_pos c1]
          refine And.intro (fun q => absurd q (by decide)) (fun _ => ?_)
          exact s_finding (d + 1) _ (hlost 0 3 rfl (by omega) rfl (by omega) (Or.inl c1))
        · rw [if_neg c1]
          refine And.intro (fun _ => ?_) (fun q => absurd rfl q)
          refine s_isLost3 (d + 1) _ (hH 3 (by omega)).1 (by have := hB 3; unfold zr; omega) ?_
          by_cases c2 : B 0 3 = -1
          · rw [if_pos c2]
            refine And.intro (fun q => absurd q (by decide)) (fun _ => ?_)
            exact s_finding (d + 1) _ (hlost 0 3 rfl (by omega) rfl (by omega) (Or.inr c2))
          · rw [if_neg c2]
            refine And.intro (fun _ => ?_) (fun q => absurd rfl q)
            refine And.intro (fun c3 => ?_) (fun c3 => ?_)
            · have c3 : σ 48 1 = σ 54 1 := c3
              rw [(hH 0 (by omega)).1, (hH 3 (by omega)).1, zeq (by have := hB 0; unfold zr; omega) (by have := hB 3; unfold zr; omega)] at c3
              refine s_holds0 (d + 1) _ (hH 0 (by omega)).2.1 (hA 0) hi hm (fun c4 => ?_) (fun c4 => ?_)
              · refine And.intro (fun q => absurd q (by decide)) (fun _ => ?_)
                refine s_holds3 (d + 1) _ (hH 3 (by omega)).2.1 (hA 3) hj hm (fun c5 => ?_) (fun c5 => ?_)
                · refine And.intro (fun q => absurd q (by decide)) (fun _ => ?_)
                  have hok := hok 0 3 rfl (by omega) rfl (by omega) (fun q => q.elim c1 c2) c3 ⟨c4, c5⟩
                  have a1 := hA 0
                  have a2 := hA 3
                  have b1 := c4.1
                  have b2 := c4.2.1
                  have b3 := c4.2.2.2
                  have b4 := c5.1
                  have b5 := c5.2.2.2
                  have e1 : (Int32.ofInt i).toNatClampNeg = i.toNat := zcl (by congr 1; omega) (by omega)
                  have e2 : (Int32.ofInt j).toNatClampNeg = j.toNat := zcl (by congr 1; omega) (by omega)
                  have e3 : (Int32.ofInt m).toNatClampNeg = m.toNat := zcl (by congr 1; omega) (by omega)
                  rw [← e1, ← e2, ← e3] at hok
                  refine And.intro (by rw [zlt0 hi]; omega) (And.intro (by rw [zlt0 hj]; omega) (And.intro (by rw [zlt0 hm]; omega) (And.intro ?_ (And.intro ?_ hok))))
                  · rw [e1, e3]
                    show i.toNat + m.toNat ≤ 60
                    omega
                  · rw [e2, e3]
                    show j.toNat + m.toNat ≤ 60
                    omega
                · refine And.intro (fun _ => ?_) (fun q => absurd rfl q)
                  exact s_finding (d + 1) _ (hidx 0 3 rfl (by omega) rfl (by omega) (fun q => q.elim c1 c2) c3 (fun q => c5 q.2))
              · refine And.intro (fun _ => ?_) (fun q => absurd rfl q)
                exact s_finding (d + 1) _ (hidx 0 3 rfl (by omega) rfl (by omega) (fun q => q.elim c1 c2) c3 (fun q => c4 q.1))
            · have c3 : ¬ σ 48 1 = σ 54 1 := c3
              rw [(hH 0 (by omega)).1, (hH 3 (by omega)).1, zeq (by have := hB 0; unfold zr; omega) (by have := hB 3; unfold zr; omega)] at c3
              exact s_finding (d + 1) _ (hform 0 3 rfl (by omega) rfl (by omega) (fun q => q.elim c1 c2) c3)
      · refine ixi 1 4 (by omega) ?_
        refine ixi 0 4 (by omega) ?_
        refine s_isLost1 (d + 1) _ (hH 1 (by omega)).1 (by have := hB 1; unfold zr; omega) ?_
        by_cases c1 : B 0 1 = -1
        · rw [if_pos c1]
          refine And.intro (fun q => absurd q (by decide)) (fun _ => ?_)
          exact s_finding (d + 1) _ (hlost 1 0 rfl (by omega) rfl (by omega) (Or.inl c1))
        · rw [if_neg c1]
          refine And.intro (fun _ => ?_) (fun q => absurd rfl q)
          refine s_isLost0 (d + 1) _ (hH 0 (by omega)).1 (by have := hB 0; unfold zr; omega) ?_
          by_cases c2 : B 0 0 = -1
          · rw [if_pos c2]
            refine And.intro (fun q => absurd q (by decide)) (fun _ => ?_)
            exact s_finding (d + 1) _ (hlost 1 0 rfl (by omega) rfl (by omega) (Or.inr c2))
          · rw [if_neg c2]
            refine And.intro (fun _ => ?_) (fun q => absurd rfl q)
            refine And.intro (fun c3 => ?_) (fun c3 => ?_)
            · have c3 : σ 50 1 = σ 48 1 := c3
              rw [(hH 1 (by omega)).1, (hH 0 (by omega)).1, zeq (by have := hB 1; unfold zr; omega) (by have := hB 0; unfold zr; omega)] at c3
              refine s_holds1 (d + 1) _ (hH 1 (by omega)).2.1 (hA 1) hi hm (fun c4 => ?_) (fun c4 => ?_)
              · refine And.intro (fun q => absurd q (by decide)) (fun _ => ?_)
                refine s_holds0 (d + 1) _ (hH 0 (by omega)).2.1 (hA 0) hj hm (fun c5 => ?_) (fun c5 => ?_)
                · refine And.intro (fun q => absurd q (by decide)) (fun _ => ?_)
                  have hok := hok 1 0 rfl (by omega) rfl (by omega) (fun q => q.elim c1 c2) c3 ⟨c4, c5⟩
                  have a1 := hA 1
                  have a2 := hA 0
                  have b1 := c4.1
                  have b2 := c4.2.1
                  have b3 := c4.2.2.2
                  have b4 := c5.1
                  have b5 := c5.2.2.2
                  have e1 : (Int32.ofInt i).toNatClampNeg = i.toNat := zcl (by congr 1; omega) (by omega)
                  have e2 : (Int32.ofInt j).toNatClampNeg = j.toNat := zcl (by congr 1; omega) (by omega)
                  have e3 : (Int32.ofInt m).toNatClampNeg = m.toNat := zcl (by congr 1; omega) (by omega)
                  rw [← e1, ← e2, ← e3] at hok
                  refine And.intro (by rw [zlt0 hi]; omega) (And.intro (by rw [zlt0 hj]; omega) (And.intro (by rw [zlt0 hm]; omega) (And.intro ?_ (And.intro ?_ hok))))
                  · rw [e1, e3]
                    show i.toNat + m.toNat ≤ 60
                    omega
                  · rw [e2, e3]
                    show j.toNat + m.toNat ≤ 60
                    omega
                · refine And.intro (fun _ => ?_) (fun q => absurd rfl q)
                  exact s_finding (d + 1) _ (hidx 1 0 rfl (by omega) rfl (by omega) (fun q => q.elim c1 c2) c3 (fun q => c5 q.2))
              · refine And.intro (fun _ => ?_) (fun q => absurd rfl q)
                exact s_finding (d + 1) _ (hidx 1 0 rfl (by omega) rfl (by omega) (fun q => q.elim c1 c2) c3 (fun q => c4 q.1))
            · have c3 : ¬ σ 50 1 = σ 48 1 := c3
              rw [(hH 1 (by omega)).1, (hH 0 (by omega)).1, zeq (by have := hB 1; unfold zr; omega) (by have := hB 0; unfold zr; omega)] at c3
              exact s_finding (d + 1) _ (hform 1 0 rfl (by omega) rfl (by omega) (fun q => q.elim c1 c2) c3)
      · refine ixi 1 4 (by omega) ?_
        refine ixi 1 4 (by omega) ?_
        refine s_isLost1 (d + 1) _ (hH 1 (by omega)).1 (by have := hB 1; unfold zr; omega) ?_
        by_cases c1 : B 0 1 = -1
        · rw [if_pos c1]
          refine And.intro (fun q => absurd q (by decide)) (fun _ => ?_)
          exact s_finding (d + 1) _ (hlost 1 1 rfl (by omega) rfl (by omega) (Or.inl c1))
        · rw [if_neg c1]
          refine And.intro (fun _ => ?_) (fun q => absurd rfl q)
          refine s_isLost1 (d + 1) _ (hH 1 (by omega)).1 (by have := hB 1; unfold zr; omega) ?_
          by_cases c2 : B 0 1 = -1
          · rw [if_pos c2]
            refine And.intro (fun q => absurd q (by decide)) (fun _ => ?_)
            exact s_finding (d + 1) _ (hlost 1 1 rfl (by omega) rfl (by omega) (Or.inr c2))
          · rw [if_neg c2]
            refine And.intro (fun _ => ?_) (fun q => absurd rfl q)
            refine And.intro (fun c3 => ?_) (fun c3 => ?_)
            · have c3 : σ 50 1 = σ 50 1 := c3
              rw [(hH 1 (by omega)).1, zeq (by have := hB 1; unfold zr; omega) (by have := hB 1; unfold zr; omega)] at c3
              refine s_holds1 (d + 1) _ (hH 1 (by omega)).2.1 (hA 1) hi hm (fun c4 => ?_) (fun c4 => ?_)
              · refine And.intro (fun q => absurd q (by decide)) (fun _ => ?_)
                refine s_holds1 (d + 1) _ (hH 1 (by omega)).2.1 (hA 1) hj hm (fun c5 => ?_) (fun c5 => ?_)
                · refine And.intro (fun q => absurd q (by decide)) (fun _ => ?_)
                  have hok := hok 1 1 rfl (by omega) rfl (by omega) (fun q => q.elim c1 c2) c3 ⟨c4, c5⟩
                  have a1 := hA 1
                  have a2 := hA 1
                  have b1 := c4.1
                  have b2 := c4.2.1
                  have b3 := c4.2.2.2
                  have b4 := c5.1
                  have b5 := c5.2.2.2
                  have e1 : (Int32.ofInt i).toNatClampNeg = i.toNat := zcl (by congr 1; omega) (by omega)
                  have e2 : (Int32.ofInt j).toNatClampNeg = j.toNat := zcl (by congr 1; omega) (by omega)
                  have e3 : (Int32.ofInt m).toNatClampNeg = m.toNat := zcl (by congr 1; omega) (by omega)
                  rw [← e1, ← e2, ← e3] at hok
                  refine And.intro (by rw [zlt0 hi]; omega) (And.intro (by rw [zlt0 hj]; omega) (And.intro (by rw [zlt0 hm]; omega) (And.intro ?_ (And.intro ?_ hok))))
                  · rw [e1, e3]
                    show i.toNat + m.toNat ≤ 60
                    omega
                  · rw [e2, e3]
                    show j.toNat + m.toNat ≤ 60
                    omega
                · refine And.intro (fun _ => ?_) (fun q => absurd rfl q)
                  exact s_finding (d + 1) _ (hidx 1 1 rfl (by omega) rfl (by omega) (fun q => q.elim c1 c2) c3 (fun q => c5 q.2))
              · refine And.intro (fun _ => ?_) (fun q => absurd rfl q)
                exact s_finding (d + 1) _ (hidx 1 1 rfl (by omega) rfl (by omega) (fun q => q.elim c1 c2) c3 (fun q => c4 q.1))
            · have c3 : ¬ σ 50 1 = σ 50 1 := c3
              rw [(hH 1 (by omega)).1, zeq (by have := hB 1; unfold zr; omega) (by have := hB 1; unfold zr; omega)] at c3
              exact s_finding (d + 1) _ (hform 1 1 rfl (by omega) rfl (by omega) (fun q => q.elim c1 c2) c3)
      · refine ixi 1 4 (by omega) ?_
        refine ixi 2 4 (by omega) ?_
        refine s_isLost1 (d + 1) _ (hH 1 (by omega)).1 (by have := hB 1; unfold zr; omega) ?_
        by_cases c1 : B 0 1 = -1
        · rw [if_pos c1]
          refine And.intro (fun q => absurd q (by decide)) (fun _ => ?_)
          exact s_finding (d + 1) _ (hlost 1 2 rfl (by omega) rfl (by omega) (Or.inl c1))
        · rw [if_neg c1]
          refine And.intro (fun _ => ?_) (fun q => absurd rfl q)
          refine s_isLost2 (d + 1) _ (hH 2 (by omega)).1 (by have := hB 2; unfold zr; omega) ?_
          by_cases c2 : B 0 2 = -1
          · rw [if_pos c2]
            refine And.intro (fun q => absurd q (by decide)) (fun _ => ?_)
            exact s_finding (d + 1) _ (hlost 1 2 rfl (by omega) rfl (by omega) (Or.inr c2))
          · rw [if_neg c2]
            refine And.intro (fun _ => ?_) (fun q => absurd rfl q)
            refine And.intro (fun c3 => ?_) (fun c3 => ?_)
            · have c3 : σ 50 1 = σ 52 1 := c3
              rw [(hH 1 (by omega)).1, (hH 2 (by omega)).1, zeq (by have := hB 1; unfold zr; omega) (by have := hB 2; unfold zr; omega)] at c3
              refine s_holds1 (d + 1) _ (hH 1 (by omega)).2.1 (hA 1) hi hm (fun c4 => ?_) (fun c4 => ?_)
              · refine And.intro (fun q => absurd q (by decide)) (fun _ => ?_)
                refine s_holds2 (d + 1) _ (hH 2 (by omega)).2.1 (hA 2) hj hm (fun c5 => ?_) (fun c5 => ?_)
                · refine And.intro (fun q => absurd q (by decide)) (fun _ => ?_)
                  have hok := hok 1 2 rfl (by omega) rfl (by omega) (fun q => q.elim c1 c2) c3 ⟨c4, c5⟩
                  have a1 := hA 1
                  have a2 := hA 2
                  have b1 := c4.1
                  have b2 := c4.2.1
                  have b3 := c4.2.2.2
                  have b4 := c5.1
                  have b5 := c5.2.2.2
                  have e1 : (Int32.ofInt i).toNatClampNeg = i.toNat := zcl (by congr 1; omega) (by omega)
                  have e2 : (Int32.ofInt j).toNatClampNeg = j.toNat := zcl (by congr 1; omega) (by omega)
                  have e3 : (Int32.ofInt m).toNatClampNeg = m.toNat := zcl (by congr 1; omega) (by omega)
                  rw [← e1, ← e2, ← e3] at hok
                  refine And.intro (by rw [zlt0 hi]; omega) (And.intro (by rw [zlt0 hj]; omega) (And.intro (by rw [zlt0 hm]; omega) (And.intro ?_ (And.intro ?_ hok))))
                  · rw [e1, e3]
                    show i.toNat + m.toNat ≤ 60
                    omega
                  · rw [e2, e3]
                    show j.toNat + m.toNat ≤ 60
                    omega
                · refine And.intro (fun _ => ?_) (fun q => absurd rfl q)
                  exact s_finding (d + 1) _ (hidx 1 2 rfl (by omega) rfl (by omega) (fun q => q.elim c1 c2) c3 (fun q => c5 q.2))
              · refine And.intro (fun _ => ?_) (fun q => absurd rfl q)
                exact s_finding (d + 1) _ (hidx 1 2 rfl (by omega) rfl (by omega) (fun q => q.elim c1 c2) c3 (fun q => c4 q.1))
            · have c3 : ¬ σ 50 1 = σ 52 1 := c3
              rw [(hH 1 (by omega)).1, (hH 2 (by omega)).1, zeq (by have := hB 1; unfold zr; omega) (by have := hB 2; unfold zr; omega)] at c3
              exact s_finding (d + 1) _ (hform 1 2 rfl (by omega) rfl (by omega) (fun q => q.elim c1 c2) c3)
      · refine ixi 1 4 (by omega) ?_
        refine ixi 3 4 (by omega) ?_
        refine s_isLost1 (d + 1) _ (hH 1 (by omega)).1 (by have := hB 1; unfold zr; omega) ?_
        by_cases c1 : B 0 1 = -1
        · rw [if_pos c1]
          refine And.intro (fun q => absurd q (by decide)) (fun _ => ?_)
          exact s_finding (d + 1) _ (hlost 1 3 rfl (by omega) rfl (by omega) (Or.inl c1))
        · rw [if_neg c1]
          refine And.intro (fun _ => ?_) (fun q => absurd rfl q)
          refine s_isLost3 (d + 1) _ (hH 3 (by omega)).1 (by have := hB 3; unfold zr; omega) ?_
          by_cases c2 : B 0 3 = -1
          · rw [if_pos c2]
            refine And.intro (fun q => absurd q (by decide)) (fun _ => ?_)
            exact s_finding (d + 1) _ (hlost 1 3 rfl (by omega) rfl (by omega) (Or.inr c2))
          · rw [if_neg c2]
            refine And.intro (fun _ => ?_) (fun q => absurd rfl q)
            refine And.intro (fun c3 => ?_) (fun c3 => ?_)
            · have c3 : σ 50 1 = σ 54 1 := c3
              rw [(hH 1 (by omega)).1, (hH 3 (by omega)).1, zeq (by have := hB 1; unfold zr; omega) (by have := hB 3; unfold zr; omega)] at c3
              refine s_holds1 (d + 1) _ (hH 1 (by omega)).2.1 (hA 1) hi hm (fun c4 => ?_) (fun c4 => ?_)
              · refine And.intro (fun q => absurd q (by decide)) (fun _ => ?_)
                refine s_holds3 (d + 1) _ (hH 3 (by omega)).2.1 (hA 3) hj hm (fun c5 => ?_) (fun c5 => ?_)
                · refine And.intro (fun q => absurd q (by decide)) (fun _ => ?_)
                  have hok := hok 1 3 rfl (by omega) rfl (by omega) (fun q => q.elim c1 c2) c3 ⟨c4, c5⟩
                  have a1 := hA 1
                  have a2 := hA 3
                  have b1 := c4.1
                  have b2 := c4.2.1
                  have b3 := c4.2.2.2
                  have b4 := c5.1
                  have b5 := c5.2.2.2
                  have e1 : (Int32.ofInt i).toNatClampNeg = i.toNat := zcl (by congr 1; omega) (by omega)
                  have e2 : (Int32.ofInt j).toNatClampNeg = j.toNat := zcl (by congr 1; omega) (by omega)
                  have e3 : (Int32.ofInt m).toNatClampNeg = m.toNat := zcl (by congr 1; omega) (by omega)
                  rw [← e1, ← e2, ← e3] at hok
                  refine And.intro (by rw [zlt0 hi]; omega) (And.intro (by rw [zlt0 hj]; omega) (And.intro (by rw [zlt0 hm]; omega) (And.intro ?_ (And.intro ?_ hok))))
                  · rw [e1, e3]
                    show i.toNat + m.toNat ≤ 60
                    omega
                  · rw [e2, e3]
                    show j.toNat + m.toNat ≤ 60
                    omega
                · refine And.intro (fun _ => ?_) (fun q => absurd rfl q)
                  exact s_finding (d + 1) _ (hidx 1 3 rfl (by omega) rfl (by omega) (fun q => q.elim c1 c2) c3 (fun q => c5 q.2))
              · refine And.intro (fun _ => ?_) (fun q => absurd rfl q)
                exact s_finding (d + 1) _ (hidx 1 3 rfl (by omega) rfl (by omega) (fun q => q.elim c1 c2) c3 (fun q => c4 q.1))
            · have c3 : ¬ σ 50 1 = σ 54 1 := c3
              rw [(hH 1 (by omega)).1, (hH 3 (by omega)).1, zeq (by have := hB 1; unfold zr; omega) (by have := hB 3; unfold zr; omega)] at c3
              exact s_finding (d + 1) _ (hform 1 3 rfl (by omega) rfl (by omega) (fun q => q.elim c1 c2) c3)
      · refine ixi 2 4 (by omega) ?_
        refine ixi 0 4 (by omega) ?_
        refine s_isLost2 (d + 1) _ (hH 2 (by omega)).1 (by have := hB 2; unfold zr; omega) ?_
        by_cases c1 : B 0 2 = -1
        · rw [if_pos c1]
          refine And.intro (fun q => absurd q (by decide)) (fun _ => ?_)
          exact s_finding (d + 1) _ (hlost 2 0 rfl (by omega) rfl (by omega) (Or.inl c1))
        · rw [if_neg c1]
          refine And.intro (fun _ => ?_) (fun q => absurd rfl q)
          refine s_isLost0 (d + 1) _ (hH 0 (by omega)).1 (by have := hB 0; unfold zr; omega) ?_
          by_cases c2 : B 0 0 = -1
          · rw [if_pos c2]
            refine And.intro (fun q => absurd q (by decide)) (fun _ => ?_)
            exact s_finding (d + 1) _ (hlost 2 0 rfl (by omega) rfl (by omega) (Or.inr c2))
          · rw [if_neg c2]
            refine And.intro (fun _ => ?_) (fun q => absurd rfl q)
            refine And.intro (fun c3 => ?_) (fun c3 => ?_)
            · have c3 : σ 52 1 = σ 48 1 := c3
              rw [(hH 2 (by omega)).1, (hH 0 (by omega)).1, zeq (by have := hB 2; unfold zr; omega) (by have := hB 0; unfold zr; omega)] at c3
              refine s_holds2 (d + 1) _ (hH 2 (by omega)).2.1 (hA 2) hi hm (fun c4 => ?_) (fun c4 => ?_)
              · refine And.intro (fun q => absurd q (by decide)) (fun _ => ?_)
                refine s_holds0 (d + 1) _ (hH 0 (by omega)).2.1 (hA 0) hj hm (fun c5 => ?_) (fun c5 => ?_)
                · refine And.intro (fun q => absurd q (by decide)) (fun _ => ?_)
                  have hok := hok 2 0 rfl (by omega) rfl (by omega) (fun q => q.elim c1 c2) c3 ⟨c4, c5⟩
                  have a1 := hA 2
                  have a2 := hA 0
                  have b1 := c4.1
                  have b2 := c4.2.1
                  have b3 := c4.2.2.2
                  have b4 := c5.1
                  have b5 := c5.2.2.2
                  have e1 : (Int32.ofInt i).toNatClampNeg = i.toNat := zcl (by congr 1; omega) (by omega)
                  have e2 : (Int32.ofInt j).toNatClampNeg = j.toNat := zcl (by congr 1; omega) (by omega)
                  have e3 : (Int32.ofInt m).toNatClampNeg = m.toNat := zcl (by congr 1; omega) (by omega)
                  rw [← e1, ← e2, ← e3] at hok
                  refine And.intro (by rw [zlt0 hi]; omega) (And.intro (by rw [zlt0 hj]; omega) (And.intro (by rw [zlt0 hm]; omega) (And.intro ?_ (And.intro ?_ hok))))
                  · rw [e1, e3]
                    show i.toNat + m.toNat ≤ 60
                    omega
                  · rw [e2, e3]
                    show j.toNat + m.toNat ≤ 60
                    omega
                · refine And.intro (fun _ => ?_) (fun q => absurd rfl q)
                  exact s_finding (d + 1) _ (hidx 2 0 rfl (by omega) rfl (by omega) (fun q => q.elim c1 c2) c3 (fun q => c5 q.2))
              · refine And.intro (fun _ => ?_) (fun q => absurd rfl q)
                exact s_finding (d + 1) _ (hidx 2 0 rfl (by omega) rfl (by omega) (fun q => q.elim c1 c2) c3 (fun q => c4 q.1))
            · have c3 : ¬ σ 52 1 = σ 48 1 := c3
              rw [(hH 2 (by omega)).1, (hH 0 (by omega)).1, zeq (by have := hB 2; unfold zr; omega) (by have := hB 0; unfold zr; omega)] at c3
              exact s_finding (d + 1) _ (hform 2 0 rfl (by omega) rfl (by omega) (fun q => q.elim c1 c2) c3)
      · refine ixi 2 4 (by omega) ?_
        refine ixi 1 4 (by omega) ?_
        refine s_isLost2 (d + 1) _ (hH 2 (by omega)).1 (by have := hB 2; unfold zr; omega) ?_
        by_cases c1 : B 0 2 = -1
        · rw [if_pos c1]
          refine And.intro (fun q => absurd q (by decide)) (fun _ => ?_)
          exact s_finding (d + 1) _ (hlost 2 1 rfl (by omega) rfl (by omega) (Or.inl c1))
        · rw [if_neg c1]
          refine And.intro (fun _ => ?_) (fun q => absurd rfl q)
          refine s_isLost1 (d + 1) _ (hH 1 (by omega)).1 (by have := hB 1; unfold zr; omega) ?_
          by_cases c2 : B 0 1 = -1
          · rw [if_pos c2]
            refine And.intro (fun q => absurd q (by decide)) (fun _ => ?_)
            exact s_finding (d + 1) _ (hlost 2 1 rfl (by omega) rfl (by omega) (Or.inr c2))
          · rw [if_neg c2]
            refine And.intro (fun _ => ?_) (fun q => absurd rfl q)
            refine And.intro (fun c3 => ?_) (fun c3 => ?_)
            · have c3 : σ 52 1 = σ 50 1 := c3
              rw [(hH 2 (by omega)).1, (hH 1 (by omega)).1, zeq (by have := hB 2; unfold zr; omega) (by have := hB 1; unfold zr; omega)] at c3
              refine s_holds2 (d + 1) _ (hH 2 (by omega)).2.1 (hA 2) hi hm (fun c4 => ?_) (fun c4 => ?_)
              · refine And.intro (fun q => absurd q (by decide)) (fun _ => ?_)
                refine s_holds1 (d + 1) _ (hH 1 (by omega)).2.1 (hA 1) hj hm (fun c5 => ?_) (fun c5 => ?_)
                · refine And.intro (fun q => absurd q (by decide)) (fun _ => ?_)
                  have hok := hok 2 1 rfl (by omega) rfl (by omega) (fun q => q.elim c1 c2) c3 ⟨c4, c5⟩
                  have a1 := hA 2
                  have a2 := hA 1
                  have b1 := c4.1
                  have b2 := c4.2.1
                  have b3 := c4.2.2.2
                  have b4 := c5.1
                  have b5 := c5.2.2.2
                  have e1 : (Int32.ofInt i).toNatClampNeg = i.toNat := zcl (by congr 1; omega) (by omega)
                  have e2 : (Int32.ofInt j).toNatClampNeg = j.toNat := zcl (by congr 1; omega) (by omega)
                  have e3 : (Int32.ofInt m).toNatClampNeg = m.toNat := zcl (by congr 1; omega) (by omega)
                  rw [← e1, ← e2, ← e3] at hok
                  refine And.intro (by rw [zlt0 hi]; omega) (And.intro (by rw [zlt0 hj]; omega) (And.intro (by rw [zlt0 hm]; omega) (And.intro ?_ (And.intro ?_ hok))))
                  · rw [e1, e3]
                    show i.toNat + m.toNat ≤ 60
                    omega
                  · rw [e2, e3]
                    show j.toNat + m.toNat ≤ 60
                    omega
                · refine And.intro (fun _ => ?_) (fun q => absurd rfl q)
                  exact s_finding (d + 1) _ (hidx 2 1 rfl (by omega) rfl (by omega) (fun q => q.elim c1 c2) c3 (fun q => c5 q.2))
              · refine And.intro (fun _ => ?_) (fun q => absurd rfl q)
                exact s_finding (d + 1) _ (hidx 2 1 rfl (by omega) rfl (by omega) (fun q => q.elim c1 c2) c3 (fun q => c4 q.1))
            · have c3 : ¬ σ 52 1 = σ 50 1 := c3
              rw [(hH 2 (by omega)).1, (hH 1 (by omega)).1, zeq (by have := hB 2; unfold zr; omega) (by have := hB 1; unfold zr; omega)] at c3
              exact s_finding (d + 1) _ (hform 2 1 rfl (by omega) rfl (by omega) (fun q => q.elim c1 c2) c3)
      · refine ixi 2 4 (by omega) ?_
        refine ixi 2 4 (by omega) ?_
        refine s_isLost2 (d + 1) _ (hH 2 (by omega)).1 (by have := hB 2; unfold zr; omega) ?_
        by_cases c1 : B 0 2 = -1
        · rw [if_pos c1]
          refine And.intro (fun q => absurd q (by decide)) (fun _ => ?_)
          exact s_finding (d + 1) _ (hlost 2 2 rfl (by omega) rfl (by omega) (Or.inl c1))
        · rw [if_neg c1]
          refine And.intro (fun _ => ?_) (fun q => absurd rfl q)
          refine s_isLost2 (d + 1) _ (hH 2 (by omega)).1 (by have := hB 2; unfold zr; omega) ?_
          by_cases c2 : B 0 2 = -1
          · rw [if_pos c2]
            refine And.intro (fun q => absurd q (by decide)) (fun _ => ?_)
            exact s_finding (d + 1) _ (hlost 2 2 rfl (by omega) rfl (by omega) (Or.inr c2))
          · rw [if_neg c2]
            refine And.intro (fun _ => ?_) (fun q => absurd rfl q)
            refine And.intro (fun c3 => ?_) (fun c3 => ?_)
            · have c3 : σ 52 1 = σ 52 1 := c3
              rw [(hH 2 (by omega)).1, zeq (by have := hB 2; unfold zr; omega) (by have := hB 2; unfold zr; omega)] at c3
              refine s_holds2 (d + 1) _ (hH 2 (by omega)).2.1 (hA 2) hi hm (fun c4 => ?_) (fun c4 => ?_)
              · refine And.intro (fun q => absurd q (by decide)) (fun _ => ?_)
                refine s_holds2 (d + 1) _ (hH 2 (by omega)).2.1 (hA 2) hj hm (fun c5 => ?_) (fun c5 => ?_)
                · refine And.intro (fun q => absurd q (by decide)) (fun _ => ?_)
                  have hok := hok 2 2 rfl (by omega) rfl (by omega) (fun q => q.elim c1 c2) c3 ⟨c4, c5⟩
                  have a1 := hA 2
                  have a2 := hA 2
                  have b1 := c4.1
                  have b2 := c4.2.1
                  have b3 := c4.2.2.2
                  have b4 := c5.1
                  have b5 := c5.2.2.2
                  have e1 : (Int32.ofInt i).toNatClampNeg = i.toNat := zcl (by congr 1; omega) (by omega)
                  have e2 : (Int32.ofInt j).toNatClampNeg = j.toNat := zcl (by congr 1; omega) (by omega)
                  have e3 : (Int32.ofInt m).toNatClampNeg = m.toNat := zcl (by congr 1; omega) (by omega)
                  rw [← e1, ← e2, ← e3] at hok
                  refine And.intro (by rw [zlt0 hi]; omega) (And.intro (by rw [zlt0 hj]; omega) (And.intro (by rw [zlt0 hm]; omega) (And.intro ?_ (And.intro ?_ hok))))
                  · rw [e1, e3]
                    show i.toNat + m.toNat ≤ 60
                    omega
                  · rw [e2, e3]
                    show j.toNat + m.toNat ≤ 60
                    omega
                · refine And.intro (fun _ => ?_) (fun q => absurd rfl q)
                  exact s_finding (d + 1) _ (hidx 2 2 rfl (by omega) rfl (by omega) (fun q => q.elim c1 c2) c3 (fun q => c5 q.2))
              · refine And.intro (fun _ => ?_) (fun q => absurd rfl q)
                exact s_finding (d + 1) _ (hidx 2 2 rfl (by omega) rfl (by omega) (fun q => q.elim c1 c2) c3 (fun q => c4 q.1))
            · have c3 : ¬ σ 52 1 = σ 52 1 := c3
              rw [(hH 2 (by omega)).1, zeq (by have := hB 2; unfold zr; omega) (by have := hB 2; unfold zr; omega)] at c3
              exact s_finding (d + 1) _ (hform 2 2 rfl (by omega) rfl (by omega) (fun q => q.elim c1 c2) c3)
      · refine ixi 2 4 (by omega) ?_
        refine ixi 3 4 (by omega) ?_
        refine s_isLost2 (d + 1) _ (hH 2 (by omega)).1 (by have := hB 2; unfold zr; omega) ?_
        by_cases c1 : B 0 2 = -1
        · rw [if_pos c1]
          refine And.intro (fun q => absurd q (by decide)) (fun _ => ?_)
          exact s_finding (d + 1) _ (hlost 2 3 rfl (by omega) rfl (by omega) (Or.inl c1))
        · rw [if_neg c1]
          refine And.intro (fun _ => ?_) (fun q => absurd rfl q)
          refine s_isLost3 (d + 1) _ (hH 3 (by omega)).1 (by have := hB 3; unfold zr; omega) ?_
          by_cases c2 : B 0 3 = -1
          · rw [if_pos c2]
            refine And.intro (fun q => absurd q (by decide)) (fun _ => ?_)
            exact s_finding (d + 1) _ (hlost 2 3 rfl (by omega) rfl (by omega) (Or.inr c2))
          · rw [if_neg c2]
            refine And.intro (fun _ => ?_) (fun q => absurd rfl q)
            refine And.intro (fun c3 => ?_) (fun c3 => ?_)
            · have c3 : σ 52 1 = σ 54 1 := c3
              rw [(hH 2 (by omega)).1, (hH 3 (by omega)).1, zeq (by have := hB 2; unfold zr; omega) (by have := hB 3; unfold zr; omega)] at c3
              refine s_holds2 (d + 1) _ (hH 2 (by omega)).2.1 (hA 2) hi hm (fun c4 => ?_) (fun c4 => ?_)
              · refine And.intro (fun q => absurd q (by decide)) (fun _ => ?_)
                refine s_holds3 (d + 1) _ (hH 3 (by omega)).2.1 (hA 3) hj hm (fun c5 => ?_) (fun c5 => ?_)
                · refine And.intro (fun q => absurd q (by decide)) (fun _ => ?_)
                  have hok := hok 2 3 rfl (by omega) rfl (by omega) (fun q => q.elim c1 c2) c3 ⟨c4, c5⟩
                  have a1 := hA 2
                  have a2 := hA 3
                  have b1 := c4.1
                  have b2 := c4.2.1
                  have b3 := c4.2.2.2
                  have b4 := c5.1
                  have b5 := c5.2.2.2
                  have e1 : (Int32.ofInt i).toNatClampNeg = i.toNat := zcl (by congr 1; omega) (by omega)
                  have e2 : (Int32.ofInt j).toNatClampNeg = j.toNat := zcl (by congr 1; omega) (by omega)
                  have e3 : (Int32.ofInt m).toNatClampNeg = m.toNat := zcl (by congr 1; omega) (by omega)
                  rw [← e1, ← e2, ← e3] at hok
                  refine And.intro (by rw [zlt0 hi]; omega) (And.intro (by rw [zlt0 hj]; omega) (And.intro (by rw [zlt0 hm]; omega) (And.intro ?_ (And.intro ?_ hok))))
                  · rw [e1, e3]
                    show i.toNat + m.toNat ≤ 60
                    omega
                  · rw [e2, e3]
                    show j.toNat + m.toNat ≤ 60
                    omega
                · refine And.intro (fun _ => ?_) (fun q => absurd rfl q)
                  exact s_finding (d + 1) _ (hidx 2 3 rfl (by omega) rfl (by omega) (fun q => q.elim c1 c2) c3 (fun q => c5 q.2))
              · refine And.intro (fun _ => ?_) (fun q => absurd rfl q)
                exact s_finding (d + 1) _ (hidx 2 3 rfl (by omega) rfl (by omega) (fun q => q.elim c1 c2) c3 (fun q => c4 q.1))
            · have c3 : ¬ σ 52 1 = σ 54 1 := c3
              rw [(hH 2 (by omega)).1, (hH 3 (by omega)).1, zeq (by have := hB 2; unfold zr; omega) (by have := hB 3; unfold zr; omega)] at c3
              exact s_finding (d + 1) _ (hform 2 3 rfl (by omega) rfl (by omega) (fun q => q.elim c1 c2) c3)
      · refine ixi 3 4 (by omega) ?_
        refine ixi 0 4 (by omega) ?_
        refine s_isLost3 (d + 1) _ (hH 3 (by omega)).1 (by have := hB 3; unfold zr; omega) ?_
        by_cases c1 : B 0 3 = -1
        · rw [if_pos c1]
          refine And.intro (fun q => absurd q (by decide)) (fun _ => ?_)
          exact s_finding (d + 1) _ (hlost 3 0 rfl (by omega) rfl (by omega) (Or.inl c1))
        · rw [if_neg c1]
          refine And.intro (fun _ => ?_) (fun q => absurd rfl q)
          refine s_isLost0 (d + 1) _ (hH 0 (by omega)).1 (by have := hB 0; unfold zr; omega) ?_
          by_cases c2 : B 0 0 = -1
          · rw [if_pos c2]
            refine And.intro (fun q => absurd q (by decide)) (fun _ => ?_)
            exact s_finding (d + 1) _ (hlost 3 0 rfl (by omega) rfl (by omega) (Or.inr c2))
          · rw [if_neg c2]
            refine And.intro (fun _ => ?_) (fun q => absurd rfl q)
            refine And.intro (fun c3 => ?_) (fun c3 => ?_)
            · have c3 : σ 54 1 = σ 48 1 := c3
              rw [(hH 3 (by omega)).1, (hH 0 (by omega)).1, zeq (by have := hB 3; unfold zr; omega) (by have := hB 0; unfold zr; omega)] at c3
              refine s_holds3 (d + 1) _ (hH 3 (by omega)).2.1 (hA 3) hi hm (fun c4 => ?_) (fun c4 => ?_)
              · refine And.intro (fun q => absurd q (by decide)) (fun _ => ?_)
                refine s_holds0 (d + 1) _ (hH 0 (by omega)).2.1 (hA 0) hj hm (fun c5 => ?_) (fun c5 => ?_)
                · refine And.intro (fun q => absurd q (by decide)) (fun _ => ?_)
                  have hok := hok 3 0 rfl (by omega) rfl (by omega) (fun q => q.elim c1 c2) c3 ⟨c4, c5⟩
                  have a1 := hA 3
                  have a2 := hA 0
                  have b1 := c4.1
                  have b2 := c4.2.1
                  have b3 := c4.2.2.2
                  have b4 := c5.1
                  have b5 := c5.2.2.2
                  have e1 : (Int32.ofInt i).toNatClampNeg = i.toNat := zcl (by congr 1; omega) (by omega)
                  have e2 : (Int32.ofInt j).toNatClampNeg = j.toNat := zcl (by congr 1; omega) (by omega)
                  have e3 : (Int32.ofInt m).toNatClampNeg = m.toNat := zcl (by congr 1; omega) (by omega)
                  rw [← e1, ← e2, ← e3] at hok
                  refine And.intro (by rw [zlt0 hi]; omega) (And.intro (by rw [zlt0 hj]; omega) (And.intro (by rw [zlt0 hm]; omega) (And.intro ?_ (And.intro ?_ hok))))
                  · rw [e1, e3]
                    show i.toNat + m.toNat ≤ 60
                    omega
                  · rw [e2, e3]
                    show j.toNat + m.toNat ≤ 60
                    omega
                · refine And.intro (fun _ => ?_) (fun q => absurd rfl q)
                  exact s_finding (d + 1) _ (hidx 3 0 rfl (by omega) rfl (by omega) (fun q => q.elim c1 c2) c3 (fun q => c5 q.2))
              · refine And.intro (fun _ => ?_) (fun q => absurd rfl q)
                exact s_finding (d + 1) _ (hidx 3 0 rfl (by omega) rfl (by omega) (fun q => q.elim c1 c2) c3 (fun q => c4 q.1))
            · have c3 : ¬ σ 54 1 = σ 48 1 := c3
              rw [(hH 3 (by omega)).1, (hH 0 (by omega)).1, zeq (by have := hB 3; unfold zr; omega) (by have := hB 0; unfold zr; omega)] at c3
              exact s_finding (d + 1) _ (hform 3 0 rfl (by omega) rfl (by omega) (fun q => q.elim c1 c2) c3)
      · refine ixi 3 4 (by omega) ?_
        refine ixi 1 4 (by omega) ?_
        refine s_isLost3 (d + 1) _ (hH 3 (by omega)).1 (by have := hB 3; unfold zr; omega) ?_
        by_cases c1 : B 0 3 = -1
        · rw [if_pos c1]
          refine And.intro (fun q => absurd q (by decide)) (fun _ => ?_)
          exact s_finding (d + 1) _ (hlost 3 1 rfl (by omega) rfl (by omega) (Or.inl c1))
        · rw [if_neg c1]
          refine And.intro (fun _ => ?_) (fun q => absurd rfl q)
          refine s_isLost1 (d + 1) _ (hH 1 (by omega)).1 (by have := hB 1; unfold zr; omega) ?_
          by_cases c2 : B 0 1 = -1
          · rw [if_pos c2]
            refine And.intro (fun q => absurd q (by decide)) (fun _ => ?_)
            exact s_finding (d + 1) _ (hlost 3 1 rfl (by omega) rfl (by omega) (Or.inr c2))
          · rw [if_neg c2]
            refine And.intro (fun _ => ?_) (fun q => absurd rfl q)
            refine And.intro (fun c3 => ?_) (fun c3 => ?_)
            · have c3 : σ 54 1 = σ 50 1 := c3
              rw [(hH 3 (by omega)).1, (hH 1 (by omega)).1, zeq (by have := hB 3; unfold zr; omega) (by have := hB 1; unfold zr; omega)] at c3
              refine s_holds3 (d + 1) _ (hH 3 (by omega)).2.1 (hA 3) hi hm (fun c4 => ?_) (fun c4 => ?_)
              · refine And.intro (fun q => absurd q (by decide)) (fun _ => ?_)
                refine s_holds1 (d + 1) _ (hH 1 (by omega)).2.1 (hA 1) hj hm (fun c5 => ?_) (fun c5 => ?_)
                · refine And.intro (fun q => absurd q (by decide)) (fun _ => ?_)
                  have hok := hok 3 1 rfl (by omega) rfl (by omega) (fun q => q.elim c1 c2) c3 ⟨c4, c5⟩
                  have a1 := hA 3
                  have a2 := hA 1
                  have b1 := c4.1
                  have b2 := c4.2.1
                  have b3 := c4.2.2.2
                  have b4 := c5.1
                  have b5 := c5.2.2.2
                  have e1 : (Int32.ofInt i).toNatClampNeg = i.toNat := zcl (by congr 1; omega) (by omega)
                  have e2 : (Int32.ofInt j).toNatClampNeg = j.toNat := zcl (by congr 1; omega) (by omega)
                  have e3 : (Int32.ofInt m).toNatClampNeg = m.toNat := zcl (by congr 1; omega) (by omega)
                  rw [← e1, ← e2, ← e3] at hok
                  refine And.intro (by rw [zlt0 hi]; omega) (And.intro (by rw [zlt0 hj]; omega) (And.intro (by rw [zlt0 hm]; omega) (And.intro ?_ (And.intro ?_ hok))))
                  · rw [e1, e3]
                    show i.toNat + m.toNat ≤ 60
                    omega
                  · rw [e2, e3]
                    show j.toNat + m.toNat ≤ 60
                    omega
                · refine And.intro (fun _ => ?_) (fun q => absurd rfl q)
                  exact s_finding (d + 1) _ (hidx 3 1 rfl (by omega) rfl (by omega) (fun q => q.elim c1 c2) c3 (fun q => c5 q.2))
              · refine And.intro (fun _ => ?_) (fun q => absurd rfl q)
                exact s_finding (d + 1) _ (hidx 3 1 rfl (by omega) rfl (by omega) (fun q => q.elim c1 c2) c3 (fun q => c4 q.1))
            · have c3 : ¬ σ 54 1 = σ 50 1 := c3
              rw [(hH 3 (by omega)).1, (hH 1 (by omega)).1, zeq (by have := hB 3; unfold zr; omega) (by have := hB 1; unfold zr; omega)] at c3
              exact s_finding (d + 1) _ (hform 3 1 rfl (by omega) rfl (by omega) (fun q => q.elim c1 c2) c3)
      · refine ixi 3 4 (by omega) ?_
        refine ixi 2 4 (by omega) ?_
        refine s_isLost3 (d + 1) _ (hH 3 (by omega)).1 (by have := hB 3; unfold zr; omega) ?_
        by_cases c1 : B 0 3 = -1
        · rw [if_pos c1]
          refine And.intro (fun q => absurd q (by decide)) (fun _ => ?_)
          exact s_finding (d + 1) _ (hlost 3 2 rfl (by omega) rfl (by omega) (Or.inl c1))
        · rw [if_neg c1]
          refine And.intro (fun _ => ?_) (fun q => absurd rfl q)
          refine s_isLost2 (d + 1) _ (hH 2 (by omega)).1 (by have := hB 2; unfold zr; omega) ?_
          by_cases c2 : B 0 2 = -1
          · rw [if_pos c2]
            refine And.intro (fun q => absurd q (by decide)) (fun _ => ?_)
            exact s_finding (d + 1) _ (hlost 3 2 rfl (by omega) rfl (by omega) (Or.inr c2))
          · rw [if_neg c2]
            refine And.intro (fun _ => ?_) (fun q => absurd rfl q)
            refine And.intro (fun c3 => ?_) (fun c3 => ?_)
            · have c3 : σ 54 1 = σ 52 1 := c3
              rw [(hH 3 (by omega)).1, (hH 2 (by omega)).1, zeq (by have := hB 3; unfold zr; omega) (by have := hB 2; unfold zr; omega)] at c3
              refine s_holds3 (d + 1) _ (hH 3 (by omega)).2.1 (hA 3) hi hm (fun c4 => ?_) (fun c4 => ?_)
              · refine And.intro (fun q => absurd q (by decide)) (fun _ => ?_)
                refine s_holds2 (d + 1) _ (hH 2 (by omega)).2.1 (hA 2) hj hm (fun c5 => ?_) (fun c5 => ?_)
                · refine And.intro (fun q => absurd q (by decide)) (fun _ => ?_)
                  have hok := hok 3 2 rfl (by omega) rfl (by omega) (fun q => q.elim c1 c2) c3 ⟨c4, c5⟩
                  have a1 := hA 3
                  have a2 := hA 2
                  have b1 := c4.1
                  have b2 := c4.2.1
                  have b3 := c4.2.2.2
                  have b4 := c5.1
                  have b5 := c5.2.2.2
                  have e1 : (Int32.ofInt i).toNatClampNeg = i.toNat := zcl (by congr 1; omega) (by omega)
                  have e2 : (Int32.ofInt j).toNatClampNeg = j.toNat := zcl (by congr 1; omega) (by omega)
                  have e3 : (Int32.ofInt m).toNatClampNeg = m.toNat := zcl (by congr 1; omega) (by omega)
                  rw [← e1, ← e2, ← e3] at hok
                  refine And.intro (by rw [zlt0 hi]; omega) (And.intro (by rw [zlt0 hj]; omega) (And.intro (by rw [zlt0 hm]; omega) (And.intro ?_ (And.intro ?_ hok))))
                  · rw [e1, e3]
                    show i.toNat + m.toNat ≤ 60
                    omega
                  · rw [e2, e3]
                    show j.toNat + m.toNat ≤ 60
                    omega
                · refine And.intro (fun _ => ?_) (fun q => absurd rfl q)
                  exact s_finding (d + 1) _ (hidx 3 2 rfl (by omega) rfl (by omega) (fun q => q.elim c1 c2) c3 (fun q => c5 q.2))
              · refine And.intro (fun _ => ?_) (fun q => absurd rfl q)
                exact s_finding (d + 1) _ (hidx 3 2 rfl (by omega) rfl (by omega) (fun q => q.elim c1 c2) c3 (fun q => c4 q.1))
            · have c3 : ¬ σ 54 1 = σ 52 1 := c3
              rw [(hH 3 (by omega)).1, (hH 2 (by omega)).1, zeq (by have := hB 3; unfold zr; omega) (by have := hB 2; unfold zr; omega)] at c3
              exact s_finding (d + 1) _ (hform 3 2 rfl (by omega) rfl (by omega) (fun q => q.elim c1 c2) c3)
      · refine ixi 3 4 (by omega) ?_
        refine ixi 3 4 (by omega) ?_
        refine s_isLost3 (d + 1) _ (hH 3 (by omega)).1 (by have := hB 3; unfold zr; omega) ?_
        by_cases c1 : B 0 3 = -1
        · rw [if_pos c1]
          refine And.intro (fun q => absurd q (by decide)) (fun _ => ?_)
          exact s_finding (d + 1) _ (hlost 3 3 rfl (by omega) rfl (by omega) (Or.inl c1))
        · rw [if_neg c1]
          refine And.intro (fun _ => ?_) (fun q => absurd rfl q)
          refine s_isLost3 (d + 1) _ (hH 3 (by omega)).1 (by have := hB 3; unfold zr; omega) ?_
          by_cases c2 : B 0 3 = -1
          · rw [if_pos c2]
            refine And.intro (fun q => absurd q (by decide)) (fun _ => ?_)
            exact s_finding (d + 1) _ (hlost 3 3 rfl (by omega) rfl (by omega) (Or.inr c2))
          · rw [if_neg c2]
            refine And.intro (fun _ => ?_) (fun q => absurd rfl q)
            refine And.intro (fun c3 => ?_) (fun c3 => ?_)
            · have c3 : σ 54 1 = σ 54 1 := c3
              rw [(hH 3 (by omega)).1, zeq (by have := hB 3; unfold zr; omega) (by have := hB 3; unfold zr; omega)] at c3
              refine s_holds3 (d + 1) _ (hH 3 (by omega)).2.1 (hA 3) hi hm (fun c4 => ?_) (fun c4 => ?_)
              · refine And.intro (fun q => absurd q (by decide)) (fun _ => ?_)
                refine s_holds3 (d + 1) _ (hH 3 (by omega)).2.1 (hA 3) hj hm (fun c5 => ?_) (fun c5 => ?_)
                · refine And.intro (fun q => absurd q (by decide)) (fun _ => ?_)
                  have hok := hok 3 3 rfl (by omega) rfl (by omega) (fun q => q.elim c1 c2) c3 ⟨c4, c5⟩
                  have a1 := hA 3
                  have a2 := hA 3
                  have b1 := c4.1
                  have b2 := c4.2.1
                  have b3 := c4.2.2.2
                  have b4 := c5.1
                  have b5 := c5.2.2.2
                  have e1 : (Int32.ofInt i).toNatClampNeg = i.toNat := zcl (by congr 1; omega) (by omega)
                  have e2 : (Int32.ofInt j).toNatClampNeg = j.toNat := zcl (by congr 1; omega) (by omega)
                  have e3 : (Int32.ofInt m).toNatClampNeg = m.toNat := zcl (by congr 1; omega) (by omega)
                  rw [← e1, ← e2, ← e3] at hok
                  refine And.intro (by rw [zlt0 hi]; omega) (And.intro (by rw [zlt0 hj]; omega) (And.intro (by rw [zlt0 hm]; omega) (And.intro ?_ (And.intro ?_ hok))))
                  · rw [e1, e3]
                    show i.toNat + m.toNat ≤ 60
                    omega
                  · rw [e2, e3]
                    show j.toNat + m.toNat ≤ 60
                    omega
                · refine And.intro (fun _ => ?_) (fun q => absurd rfl q)
                  exact s_finding (d + 1) _ (hidx 3 3 rfl (by omega) rfl (by omega) (fun q => q.elim c1 c2) c3 (fun q => c5 q.2))
              · refine And.intro (fun _ => ?_) (fun q => absurd rfl q)
                exact s_finding (d + 1) _ (hidx 3 3 rfl (by omega) rfl (by omega) (fun q => q.elim c1 c2) c3 (fun q => c4 q.1))
            · have c3 : ¬ σ 54 1 = σ 54 1 := c3
              rw [(hH 3 (by omega)).1, zeq (by have := hB 3; unfold zr; omega) (by have := hB 3; unfold zr; omega)] at c3
              exact s_finding (d + 1) _ (hform 3 3 rfl (by omega) rfl (by omega) (fun q => q.elim c1 c2) c3)
    · rw [if_neg cy]
      exact And.intro (fun _ => hbad (fun q => cy q.2)) (fun q => absurd rfl q)
  · rw [if_neg c]
    exact And.intro (fun _ => hbad (fun q => c q.1)) (fun q => absurd rfl q)
end SP
