/-! change, changes: the class -/
/-- f i + .. + f (i + k - 1) -/
def sumr (f : Nat → Int) : Nat → Nat → Int
  | _, 0 => 0
  | i, k + 1 => f i + sumr f (i + 1) k
theorem sumr_rng {f : Nat → Int} {M : Int} (h : ∀ i, 0 ≤ f i ∧ f i ≤ M) : ∀ k i, 0 ≤ sumr f i k ∧ sumr f i k ≤ M * k
  | 0, i => by simp [sumr]
  | k + 1, i => by
    have ih := sumr_rng h k (i + 1)
    have := h i
    have e : M * ((k + 1 : Nat) : Int) = M * (k : Int) + M := by rw [show ((k + 1 : Nat) : Int) = (k : Int) + 1 by omega, Int.mul_add, Int.mul_one]
    unfold sumr
    omega
/-- one pair of those who sit -/
def cpair (A : aN) (L : List Nat) (a b : Nat) : Int := if seatZ L a ≠ -1 ∧ seatZ L b ≠ -1 ∧ CZ A L a b (gin A a (A 4 a)) (gin A b (A 4 b)) = true then 1 else 0
def f_change (A : aN) (z y : Int) : Int := if (0 ≤ z ∧ z < cnt A) ∧ (0 ≤ y ∧ y < cnt A) ∧ z ≠ y then (if seatZ (SL A (A 3 1) (fun _ => true) (A 4)) z.toNat = -1 ∨ seatZ (SL A (A 3 1) (fun _ => true) (A 4)) y.toNat = -1 then -3 else if CZ A (SL A (A 3 1) (fun _ => true) (A 4)) z.toNat y.toNat (gin A z.toNat (A 4 z.toNat)) (gin A y.toNat (A 4 y.toNat)) = true then 1 else 0) else -2
def f_changes (A : aN) : Int := sumr (fun a => sumr (cpair A (SL A (A 3 1) (fun _ => true) (A 4)) a) (a + 1) (cnt A - (a + 1))) 0 (cnt A)
section CS
variable {n w3 : Nat} {g : Nat → Nat × Nat} {σ : Nat → Nat → Int32} {τ : Nat → Nat → Int64} {r1 r2 : Nat} {A : aN} {B : aZ}
theorem cpair01 (A : aN) (L : List Nat) (a b : Nat) : 0 ≤ cpair A L a b ∧ cpair A L a b ≤ 1 := by
  unfold cpair
  split <;> omega
set_option maxRecDepth 100000 in
theorem c_change (d : Nat) (Q : am_Q) {z y : Int} (hz : zr z) (hy : zr y) (hx : IX A B σ) (hwf : WF A B)
    (h : ∀ σ' : Nat → Nat → Int32, (∀ c, c ≠ 22 → c ≠ 23 → c ≠ 24 → c ≠ 25 → σ' c = σ c) → (∀ i, i ≠ 5 → σ' 23 i = σ 23 i) → Q (some (.int (Int32.ofInt (f_change A z y)))) (lo_M n w3 g σ' τ r1 r2)) : am_d (d + 5) 66 [.ref 4, .int (Int32.ofInt z), .int (Int32.ofInt y)] 0 0 (lo_M n w3 g σ τ r1 r2) Q := by
  have hc := cnt_le A
  have bad : ¬ ((0 ≤ z ∧ z < cnt A) ∧ (0 ≤ y ∧ y < cnt A) ∧ z ≠ y) → Q (some (.int (Int32.ofInt (-2)))) (lo_M n w3 g σ τ r1 r2) := by
    intro c
    have h := h σ (fun _ _ _ _ _ => rfl) (fun _ _ => rfl)
    unfold f_change at h
    rw [if_neg c] at h
    exact h
  refine am_goT T_X9_change [.ref 4, .int (Int32.ofInt z), .int (Int32.ofInt y)] rfl rfl (fun _ => false) 60 ?_
  refine s_isThere (d + 2) _ hz hc hx.1.2.2.1 ?_
  by_cases c : 0 ≤ z ∧ z < cnt A
  · rw [if_pos c]
    refine And.intro (fun q => absurd q (by decide)) (fun _ => ?_)
    refine s_isThere (d + 2) _ hy hc hx.1.2.2.1 ?_
    by_cases cy : 0 ≤ y ∧ y < cnt A
    · rw [if_pos cy]
      refine And.intro (fun q => absurd q (by decide)) (fun _ => ?_)
      refine And.intro (fun c3 => ?_) (fun c3 => ?_)
      · rw [zeq hz hy] at c3
        exact bad (fun q => q.2.2 c3)
      · rw [zeq hz hy] at c3
        refine s_seatAll d _ hx hwf (fun σ' k1 k2 k3 k4 k5 k6 => ?_)
        have hx' : IX A B σ' := IX_fr hx (fun c e1 e2 => k1 c (fun q => e2 (by subst q; unfold scr; omega)) (fun q => e2 (by subst q; unfold scr; omega)) (fun q => e2 (by subst q; unfold scr; omega)) (fun q => e2 (by subst q; unfold scr; omega))) (by rw [k1 4 (by decide) (by decide) (by decide) (by decide)])
        have s1 := seat7 A (A 3 1) (fun _ => true) (A 4) z.toNat
        have s2 := seat7 A (A 3 1) (fun _ => true) (A 4) y.toNat
        have hnot : (seatZ (SL A (A 3 1) (fun _ => true) (A 4)) z.toNat = -1 ∨ seatZ (SL A (A 3 1) (fun _ => true) (A 4)) y.toNat = -1) → Q (some (.int (Int32.ofInt (-3)))) (lo_M n w3 g σ' τ r1 r2) := by
          intro e
          have h := h σ' k1 k2
          unfold f_change at h
          rw [if_pos ⟨c, cy, c3⟩, if_pos e] at h
          exact h
        refine ixi z.toNat 7 (by omega) ?_ (by congr 1; omega)
        refine And.intro (fun c4 => ?_) (fun c4 => ?_)
        · have c4 : σ' 24 z.toNat = Int32.ofInt (-1) := c4
          rw [k6 _ (by omega), zeq (by unfold zr; omega) (by unfold zr; omega)] at c4
          exact hnot (Or.inl c4)
        · have c4 : ¬ σ' 24 z.toNat = Int32.ofInt (-1) := c4
          rw [k6 _ (by omega), zeq (by unfold zr; omega) (by unfold zr; omega)] at c4
          refine ixi y.toNat 7 (by omega) ?_ (by congr 1; omega)
          refine And.intro (fun c5 => ?_) (fun c5 => ?_)
          · have c5 : σ' 24 y.toNat = Int32.ofInt (-1) := c5
            rw [k6 _ (by omega), zeq (by unfold zr; omega) (by unfold zr; omega)] at c5
            exact hnot (Or.inr c5)
          · have c5 : ¬ σ' 24 y.toNat = Int32.ofInt (-1) := c5
            rw [k6 _ (by omega), zeq (by unfold zr; omega) (by unfold zr; omega)] at c5
            show am_d (d + 4) 99 [.ref 4, .int (Int32.ofInt z), .int (Int32.ofInt y)] 0 0 _ _
            rw [show Int32.ofInt z = Int32.ofInt (z.toNat : Int) by congr 1; omega, show Int32.ofInt y = Int32.ofInt (y.toNat : Int) by congr 1; omega]
            refine s_wouldChange d (L := SL A (A 3 1) (fun _ => true) (A 4)) _ hwf hx' (by omega) (by omega) (by omega) (ga := gin A z.toNat (A 4 z.toNat)) (gb := gin A y.toNat (A 4 y.toNat)) (by unfold gin; omega) (by unfold gin; omega) (by rw [k3, if_pos (by omega)]) (by rw [k3, if_pos (by omega)]) (fun q hq => by have := SL_lt q hq; omega) (SL_len _ _ _ _) k4 k5 k6 c4 c5 (fun σ2 m1 m2 m3 => ?_)
            have h := h σ2 (fun c e1 e2 e3 e4 => by rw [m1 c e3 e4, k1 c e1 e2 e3 e4]) (fun i hi => by rw [m1 23 (by decide) (by decide), k2 i hi])
            unfold f_change at h
            rw [if_pos ⟨c, cy, c3⟩, if_neg (fun q => q.elim c4 c5)] at h
            by_cases e : CZ A (SL A (A 3 1) (fun _ => true) (A 4)) z.toNat y.toNat (gin A z.toNat (A 4 z.toNat)) (gin A y.toNat (A 4 y.toNat)) = true
            · rw [if_pos e]
              rw [if_pos e] at h
              exact And.intro (fun q => absurd q (by decide)) (fun _ => h)
            · rw [if_neg e]
              rw [if_neg e] at h
              exact And.intro (fun _ => h) (fun q => absurd rfl q)
    · rw [if_neg cy]
      exact And.intro (fun _ => bad (fun q => cy q.2.1)) (fun q => absurd rfl q)
  · rw [if_neg c]
    exact And.intro (fun _ => bad (fun q => c q.1)) (fun q => absurd rfl q)
/-- the church as it was filled, and goingIn -/
def chS (A : aN) (L : List Nat) (σ : Nat → Nat → Int32) : Prop := (∀ q, q < cnt A → σ 22 q = Int32.ofInt (gin A q (A 4 q) : Int)) ∧ σ 23 5 = Int32.ofInt (L.length : Int) ∧ hol σ 25 0 L ∧ ∀ q, q < cnt A → σ 24 q = Int32.ofInt (seatZ L q)
set_option maxHeartbeats 1000000 in
set_option maxRecDepth 100000 in
theorem s_changes_in (d : Nat) (K : am_F → am_M → Prop) (Q : am_Q) {L : List Nat} {a : Nat} (hwf : WF A B) (ha : a < cnt A) (hL7 : ∀ q ∈ L, q < 7) (hlen : L.length ≤ 7) : ∀ (k b : Nat) (acc : Int) (σ : Nat → Nat → Int32), b + k = cnt A → a < b → 0 ≤ acc → acc + k ≤ 1000 → IX A B σ → chS A L σ →
    (∀ σ' : Nat → Nat → Int32, (∀ c, c ≠ 24 → c ≠ 25 → σ' c = σ c) → chS A L σ' → am_wp (am_d (d + 4)) T_X9_changes Q (8, [.ref 4, .int (Int32.ofInt (acc + sumr (cpair A L a) b k)), .int (Int32.ofInt ((a + 1 : Nat) : Int)), .int (Int32.ofInt (cnt A : Int))], [], 0, 0) (lo_M n w3 g σ' τ r1 r2)) →
    am_wp (am_d (d + 4)) T_X9_changes Q (23, [.ref 4, .int (Int32.ofInt acc), .int (Int32.ofInt (a : Int)), .int (Int32.ofInt (b : Int))], [], 0, 0) (lo_M n w3 g σ τ r1 r2) := by
  have hc := cnt_le A
  intro k
  induction k with
  | zero =>
    intro b acc σ hb hab h0 hacc hx hch h
    have hbe : b = cnt A := by omega
    subst hbe
    refine am_wp_go (am_d_cm _) (fun pc => Nat.beq pc 8 || Nat.beq pc 23) 60 ?_
    refine And.intro (fun c1 => ?_) (fun c1 => absurd ?_ c1)
    · have h := h σ (fun _ _ _ => rfl) hch
      unfold sumr at h
      rw [Int.add_zero, show ((a + 1 : Nat) : Int) = (a : Int) + 1 by omega, ← zadd (a : Int)] at h
      exact h
    · show σ 5 4 ≤ Int32.ofInt (cnt A : Int)
      rw [hx.1.2.2.1]
      exact Int32.le_refl _
  | succ k ih =>
    intro b acc σ hb hab h0 hacc hx hch h
    obtain ⟨hg, ht, h1, hs⟩ := id hch
    have s1 := seatZ_rng L a
    have s2 := seatZ_rng L b
    have next : ∀ (σ2 : Nat → Nat → Int32), (∀ c, c ≠ 24 → c ≠ 25 → σ2 c = σ c) → chS A L σ2 → am_wp (am_d (d + 4)) T_X9_changes Q (23, [.ref 4, .int (Int32.ofInt (acc + cpair A L a b)), .int (Int32.ofInt (a : Int)), .int (Int32.ofInt (b : Int) + Int32.ofInt 1)], [], 0, 0) (lo_M n w3 g σ2 τ r1 r2) := by
      intro σ2 m1 m2
      have c01 := cpair01 A L a b
      rw [zadd, show ((b : Int) + 1) = ((b + 1 : Nat) : Int) by omega]
      refine ih (b + 1) (acc + cpair A L a b) σ2 (by omega) (by omega) (by omega) (by omega) (IX_fr hx (fun c e1 e2 => m1 c (fun q => e2 (by subst q; unfold scr; omega)) (fun q => e2 (by subst q; unfold scr; omega))) (by rw [m1 4 (by decide) (by decide)])) m2 (fun σ' j1 j2 => ?_)
      have h := h σ' (fun c e1 e2 => by rw [j1 c e1 e2, m1 c e1 e2]) j2
      unfold sumr at h
      rw [← Int.add_assoc] at h
      exact h
    have skip : (seatZ L a = -1 ∨ seatZ L b = -1) → am_wp (am_d (d + 4)) T_X9_changes Q (23, [.ref 4, .int (Int32.ofInt acc), .int (Int32.ofInt (a : Int)), .int (Int32.ofInt (b : Int) + Int32.ofInt 1)], [], 0, 0) (lo_M n w3 g σ τ r1 r2) := by
      intro e
      have hn := next σ (fun _ _ _ => rfl) hch
      have e0 : cpair A L a b = 0 := by
        unfold cpair
        rw [if_neg (fun q => e.elim q.1 q.2.1)]
      rw [e0, Int.add_zero] at hn
      exact hn
    refine am_wp_go (am_d_cm _) (fun pc => Nat.beq pc 8 || Nat.beq pc 23) 60 ?_
    refine And.intro (fun c1 => ?_) (fun c1 => ?_)
    · have c1 : σ 5 4 ≤ Int32.ofInt (b : Int) := c1
      rw [hx.1.2.2.1, zle (by unfold zr; omega) (by unfold zr; omega)] at c1
      omega
    · refine ixi a 7 (by omega) ?_
      refine And.intro (fun c4 => ?_) (fun c4 => ?_)
      · have c4 : σ 24 a = Int32.ofInt (-1) := c4
        rw [hs _ ha, zeq (by unfold zr; omega) (by unfold zr; omega)] at c4
        exact skip (Or.inl c4)
      · have c4 : ¬ σ 24 a = Int32.ofInt (-1) := c4
        rw [hs _ ha, zeq (by unfold zr; omega) (by unfold zr; omega)] at c4
        refine ixi b 7 (by omega) ?_
        refine And.intro (fun c5 => ?_) (fun c5 => ?_)
        · have c5 : σ 24 b = Int32.ofInt (-1) := c5
          rw [hs _ (by omega), zeq (by unfold zr; omega) (by unfold zr; omega)] at c5
          exact skip (Or.inr c5)
        · have c5 : ¬ σ 24 b = Int32.ofInt (-1) := c5
          rw [hs _ (by omega), zeq (by unfold zr; omega) (by unfold zr; omega)] at c5
          refine s_wouldChange d (L := L) (A := A) (B := B) _ hwf hx ha (show b < cnt A by omega) (by omega) (ga := gin A a (A 4 a)) (gb := gin A b (A 4 b)) (by unfold gin; omega) (by unfold gin; omega) (hg a ha) (hg b (by omega)) hL7 hlen ht h1 hs c4 c5 (fun σ2 m1 m2 m3 => ?_)
          have hn := next σ2 m1 ⟨fun q hq => by rw [m1 22 (by decide) (by decide)]; exact hg q hq, by rw [m1 23 (by decide) (by decide)]; exact ht, m2, m3⟩
          by_cases e : CZ A L a b (gin A a (A 4 a)) (gin A b (A 4 b)) = true
          · rw [if_pos e]
            have e1 : cpair A L a b = 1 := by
              unfold cpair
              rw [if_pos ⟨c4, c5, e⟩]
            rw [e1, ← zadd acc] at hn
            exact And.intro (fun q => absurd q (by decide)) (fun _ => hn)
          · rw [if_neg e]
            have e1 : cpair A L a b = 0 := by
              unfold cpair
              rw [if_neg (fun q => e q.2.2)]
            rw [e1, Int.add_zero] at hn
            exact And.intro (fun _ => hn) (fun q => absurd rfl q)
set_option maxHeartbeats 1000000 in
set_option maxRecDepth 100000 in
theorem s_changes_out (d : Nat) (Q : am_Q) {L : List Nat} (hwf : WF A B) (hL7 : ∀ q ∈ L, q < 7) (hlen : L.length ≤ 7) : ∀ (k a : Nat) (acc : Int) (x3 : Value) (σ : Nat → Nat → Int32), a + k = cnt A → 0 ≤ acc → acc + 7 * k ≤ 900 → IX A B σ → chS A L σ →
    (∀ σ' : Nat → Nat → Int32, (∀ c, c ≠ 24 → c ≠ 25 → σ' c = σ c) → Q (some (.int (Int32.ofInt (acc + sumr (fun a => sumr (cpair A L a) (a + 1) (cnt A - (a + 1))) a k)))) (lo_M n w3 g σ' τ r1 r2)) →
    am_wp (am_d (d + 4)) T_X9_changes Q (8, [.ref 4, .int (Int32.ofInt acc), .int (Int32.ofInt (a : Int)), x3], [], 0, 0) (lo_M n w3 g σ τ r1 r2) := by
  have hc := cnt_le A
  intro k
  induction k with
  | zero =>
    intro a acc x3 σ ha h0 hacc hx hch h
    have hae : a = cnt A := by omega
    subst hae
    refine am_wp_go (am_d_cm _) (fun pc => Nat.beq pc 8 || Nat.beq pc 23) 60 ?_
    refine And.intro (fun c1 => ?_) (fun c1 => absurd ?_ c1)
    · have h := h σ (fun _ _ _ => rfl)
      unfold sumr at h
      rw [Int.add_zero] at h
      exact h
    · show σ 5 4 ≤ Int32.ofInt (cnt A : Int)
      rw [hx.1.2.2.1]
      exact Int32.le_refl _
  | succ k ih =>
    intro a acc x3 σ ha h0 hacc hx hch h
    refine am_wp_go (am_d_cm _) (fun pc => Nat.beq pc 8 || Nat.beq pc 23) 60 ?_
    refine And.intro (fun c1 => ?_) (fun c1 => ?_)
    · have c1 : σ 5 4 ≤ Int32.ofInt (a : Int) := c1
      rw [hx.1.2.2.1, zle (by unfold zr; omega) (by unfold zr; omega)] at c1
      omega
    · show am_wp _ _ _ (23, [.ref 4, .int (Int32.ofInt acc), .int (Int32.ofInt (a : Int)), .int (Int32.ofInt (a : Int) + Int32.ofInt 1)], [], 0, 0) _
      rw [zadd, show ((a : Int) + 1) = ((a + 1 : Nat) : Int) by omega]
      refine s_changes_in d (fun _ _ => True) Q hwf (by omega) hL7 hlen (cnt A - (a + 1)) (a + 1) acc σ (by omega) (by omega) h0 (by omega) hx hch (fun σ' j1 j2 => ?_)
      have sr := sumr_rng (f := cpair A L a) (M := 1) (cpair01 A L a) (cnt A - (a + 1)) (a + 1)
      refine ih (a + 1) _ _ σ' (by omega) (by omega) (by omega) (IX_fr hx (fun c e1 e2 => j1 c (fun q => e2 (by subst q; unfold scr; omega)) (fun q => e2 (by subst q; unfold scr; omega))) (by rw [j1 4 (by decide) (by decide)])) j2 (fun σ2 m1 => ?_)
      have h := h σ2 (fun c e1 e2 => by rw [m1 c e1 e2, j1 c e1 e2])
      rw [show sumr (fun a => sumr (cpair A L a) (a + 1) (cnt A - (a + 1))) a (k + 1) = sumr (cpair A L a) (a + 1) (cnt A - (a + 1)) + sumr (fun a => sumr (cpair A L a) (a + 1) (cnt A - (a + 1))) (a + 1) k from rfl, ← Int.add_assoc] at h
      exact h
set_option maxRecDepth 100000 in
theorem c_changes (d : Nat) (Q : am_Q) (hx : IX A B σ) (hwf : WF A B)
    (h : ∀ σ' : Nat → Nat → Int32, (∀ c, c ≠ 22 → c ≠ 23 → c ≠ 24 → c ≠ 25 → σ' c = σ c) → (∀ i, i ≠ 5 → σ' 23 i = σ 23 i) → Q (some (.int (Int32.ofInt (f_changes A)))) (lo_M n w3 g σ' τ r1 r2)) : am_d (d + 5) 67 [.ref 4] 0 0 (lo_M n w3 g σ τ r1 r2) Q := by
  have hc := cnt_le A
  refine am_goT T_X9_changes [.ref 4, .null, .null, .null] rfl rfl (fun pc => Nat.beq pc 8 || Nat.beq pc 23) 60 ?_
  refine s_seatAll d _ hx hwf (fun σ' k1 k2 k3 k4 k5 k6 => ?_)
  have hx' : IX A B σ' := IX_fr hx (fun c e1 e2 => k1 c (fun q => e2 (by subst q; unfold scr; omega)) (fun q => e2 (by subst q; unfold scr; omega)) (fun q => e2 (by subst q; unfold scr; omega)) (fun q => e2 (by subst q; unfold scr; omega))) (by rw [k1 4 (by decide) (by decide) (by decide) (by decide)])
  refine s_changes_out d Q (L := SL A (A 3 1) (fun _ => true) (A 4)) hwf (fun q hq => by have := SL_lt q hq; omega) (SL_len _ _ _ _) (cnt A) 0 0 .null σ' (by omega) (by omega) (by omega) hx' ⟨fun q hq => by rw [k3, if_pos hq], k4, k5, k6⟩ (fun σ2 m1 => ?_)
  have h := h σ2 (fun c e1 e2 e3 e4 => by rw [m1 c e3 e4, k1 c e1 e2 e3 e4]) (fun i hi => by rw [m1 23 (by decide) (by decide), k2 i hi])
  rw [Int.zero_add]
  exact h
end CS
