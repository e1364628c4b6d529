/-! Orders: ways to a set, ways on from it -/
/-- one more way -/
def updw (w : Nat → Nat) (c v : Nat) : Nat → Nat := fun c' => if c' = c then v else w c'
/-- sum of f 0 .. f (k - 1) -/
def nsum (f : Nat → Nat) : Nat → Nat
  | 0 => 0
  | k + 1 => nsum f k + f k
theorem nsum_s (f : Nat → Nat) (k : Nat) : nsum f (k + 1) = nsum f k + f k := rfl
section WA
variable {n w3 : Nat} {g : Nat → Nat × Nat} {σ : Nat → Nat → Int32} {τ : Nat → Nat → Int64} {r1 r2 : Nat} {A : aN} {B : aZ}
theorem two7 {N : Nat} (h : N ≤ 7) : 2 ^ N ≤ 128 ∧ 0 < 2 ^ N := ⟨Nat.pow_le_pow_right (n := 2) (by omega) h, Nat.pow_pos (by omega)⟩
set_option maxHeartbeats 1000000 in
set_option maxRecDepth 100000 in
theorem s_wt_in (d : Nat) (Q : am_Q) {N come : Nat} {x : (Nat → Nat) × (Nat → Nat)} {x1 : Int32} {I : Nat → Nat → (Nat → Nat) → Prop} (hN : N ≤ 7) (h7 : m7 N x) (hcome : come < 2 ^ N) (i1 : ∀ come p w, I come p w → w come ≤ 1000000000) (i2 : ∀ come p w, come < 2 ^ N → p < N → I come p w → 0 < w come → mc x p come = true → I come (p + 1) (updw w (come ||| 2 ^ p) (w (come ||| 2 ^ p) + w come))) (i3 : ∀ come p w, come < 2 ^ N → p < N → I come p w → ¬ (0 < w come ∧ mc x p come = true) → I come (p + 1) w) : ∀ (k p : Nat) (w : Nat → Nat) (σ : Nat → Nat → Int32), p + k = N → I come p w → hdS N x σ → σ 39 4 = Int32.ofInt (N : Int) → (∀ c, c < 2 ^ N → σ 40 c = Int32.ofInt (w c : Int)) →
    (∀ (w' : Nat → Nat) (σ' : Nat → Nat → Int32), (∀ c, c ≠ 40 → σ' c = σ c) → (∀ c, c < 2 ^ N → σ' 40 c = Int32.ofInt (w' c : Int)) → I come N w' → am_wp (am_d (d + 2)) T_X3_countWaysTo Q (40, [.ref 39, .int x1, .int (Int32.ofInt ((come + 1 : Nat) : Int)), .int (Int32.ofInt (N : Int))], [], 0, 0) (lo_M n w3 g σ' τ r1 r2)) →
    am_wp (am_d (d + 2)) T_X3_countWaysTo Q (50, [.ref 39, .int x1, .int (Int32.ofInt (come : Int)), .int (Int32.ofInt (p : Int))], [], 0, 0) (lo_M n w3 g σ τ r1 r2) := by
  have t7 := two7 hN
  intro k
  induction k with
  | zero =>
    intro p w σ hp hI hs hn hw h
    have hpe : p = N := by omega
    subst hpe
    have h := h w σ (fun _ _ => rfl) hw hI
    rw [show ((come + 1 : Nat) : Int) = (come : Int) + 1 by omega, ← zadd] at h
    refine am_wp_go (am_d_cm _) (fun pc => Nat.beq pc 40 || Nat.beq pc 50) 60 ?_
    refine And.intro (fun c1 => ?_) (fun c1 => absurd ?_ c1)
    · exact h
    · show σ 39 4 ≤ _
      rw [hn, zle (by unfold zr; omega) (by unfold zr; omega)]
      omega
  | succ k ih =>
    intro p w σ hp hI hs hn hw h
    have ep : Int32.ofInt (p : Int) + Int32.ofInt 1 = Int32.ofInt ((p + 1 : Nat) : Int) := by
      rw [zadd]
      congr 1
    have hb := i1 come p w hI
    have hpN : p < N := by omega
    refine am_wp_go (am_d_cm _) (fun pc => Nat.beq pc 40 || Nat.beq pc 50) 60 ?_
    refine And.intro (fun c1 => ?_) (fun c1 => ?_)
    · have c1 : σ 39 4 ≤ Int32.ofInt (p : Int) := c1
      rw [hn, zle (by unfold zr; omega) (by unfold zr; omega)] at c1
      omega
    · have skip : ¬ (0 < w come ∧ mc x p come = true) → am_wp (am_d (d + 2)) T_X3_countWaysTo Q (50, [.ref 39, .int x1, .int (Int32.ofInt (come : Int)), .int (Int32.ofInt (p : Int) + Int32.ofInt 1)], [], 0, 0) (lo_M n w3 g σ τ r1 r2) := by
        intro c
        rw [ep]
        exact ih (p + 1) w σ (by omega) (i3 come p w hcome hpN hI c) hs hn hw h
      refine ixi come 128 (by omega) ?_
      refine And.intro (fun c2 => ?_) (fun c2 => ?_)
      · have c2 : σ 40 come ≤ 0 := c2
        rw [hw come hcome, zle0 (by unfold zr; omega)] at c2
        exact skip (fun q => by omega)
      · have c2 : ¬ σ 40 come ≤ 0 := c2
        rw [hw come hcome, zle0 (by unfold zr; omega)] at c2
        refine s_mayCome d _ hN hpN (by omega) h7 hs ?_
        by_cases c3 : mc x p come = true
        · rw [if_pos c3]
          refine And.intro (fun q => absurd q (by decide)) (fun _ => ?_)
          have o3 := or3 N (by omega) come (by omega) p hpN hcome
          have eo := (orv come (by omega) p (by omega)).1
          refine ixi (come ||| 2 ^ p) 128 (by omega) ?_ eo
          refine ixi come 128 (by omega) ?_
          refine ixi (come ||| 2 ^ p) 128 (by omega) ?_ eo
          show am_wp _ _ _ (50, [.ref 39, .int x1, .int (Int32.ofInt (come : Int)), .int (Int32.ofInt (p : Int) + Int32.ofInt 1)], [], 0, 0) (lo_M n w3 g (am_u σ 40 (come ||| 2 ^ p) (σ 40 (come ||| 2 ^ p) + σ 40 come)) τ r1 r2)
          rw [ep]
          refine ih (p + 1) (updw w (come ||| 2 ^ p) (w (come ||| 2 ^ p) + w come)) _ (by omega) (i2 come p w hcome hpN hI (by omega) c3) hs hn (fun c hc => ?_) (fun w' σ' k1 k2 k3 => h w' σ' (fun c e => by rw [k1 c e, am_u_ne e]) k2 k3)
          rw [am_u_at]
          unfold updw
          by_cases e : c = come ||| 2 ^ p
          · rw [if_pos e, if_pos e, hw _ o3, hw come hcome, zadd]
            congr 1
          · rw [if_neg e, if_neg e]
            exact hw c hc
        · rw [if_neg c3]
          refine And.intro (fun _ => ?_) (fun q => absurd rfl q)
          exact skip (fun q => c3 q.2)
set_option maxRecDepth 100000 in
theorem s_wt_out (d : Nat) (Q : am_Q) {N : Nat} {x : (Nat → Nat) × (Nat → Nat)} {x1 : Int32} {I : Nat → Nat → (Nat → Nat) → Prop} (hN : N ≤ 7) (h7 : m7 N x) (i1 : ∀ come p w, I come p w → w come ≤ 1000000000) (i2 : ∀ come p w, come < 2 ^ N → p < N → I come p w → 0 < w come → mc x p come = true → I come (p + 1) (updw w (come ||| 2 ^ p) (w (come ||| 2 ^ p) + w come))) (i3 : ∀ come p w, come < 2 ^ N → p < N → I come p w → ¬ (0 < w come ∧ mc x p come = true) → I come (p + 1) w) (i4 : ∀ come w, come < 2 ^ N → I come N w → I (come + 1) 0 w) : ∀ (k come : Nat) (w : Nat → Nat) (σ : Nat → Nat → Int32) (x3 : Value), come + k = 2 ^ N → I come 0 w → hdS N x σ → σ 39 4 = Int32.ofInt (N : Int) → σ 39 5 = Int32.ofInt ((2 ^ N - 1 : Nat) : Int) → (∀ c, c < 2 ^ N → σ 40 c = Int32.ofInt (w c : Int)) →
    (∀ (w' : Nat → Nat) (σ' : Nat → Nat → Int32), (∀ c, c ≠ 40 → σ' c = σ c) → (∀ c, c < 2 ^ N → σ' 40 c = Int32.ofInt (w' c : Int)) → I (2 ^ N) 0 w' → Q none (lo_M n w3 g σ' τ r1 r2)) →
    am_wp (am_d (d + 2)) T_X3_countWaysTo Q (40, [.ref 39, .int x1, .int (Int32.ofInt (come : Int)), x3], [], 0, 0) (lo_M n w3 g σ τ r1 r2) := by
  have t7 := two7 hN
  intro k
  induction k with
  | zero =>
    intro come w σ x3 hc hI hs hn ha hw h
    have hce : come = 2 ^ N := by omega
    subst hce
    refine am_wp_go (am_d_cm _) (fun pc => Nat.beq pc 40 || Nat.beq pc 50) 60 ?_
    refine And.intro (fun c1 => ?_) (fun c1 => absurd ?_ c1)
    · exact h w σ (fun _ _ => rfl) hw hI
    · show σ 39 5 < _
      rw [ha, zlt (by unfold zr; omega) (by unfold zr; omega)]
      omega
  | succ k ih =>
    intro come w σ x3 hc hI hs hn ha hw h
    refine am_wp_go (am_d_cm _) (fun pc => Nat.beq pc 40 || Nat.beq pc 50) 60 ?_
    refine And.intro (fun c1 => ?_) (fun c1 => ?_)
    · have c1 : σ 39 5 < Int32.ofInt (come : Int) := c1
      rw [ha, zlt (by unfold zr; omega) (by unfold zr; omega)] at c1
      omega
    · refine s_wt_in d Q hN h7 (show come < 2 ^ N by omega) i1 i2 i3 N 0 w σ (by omega) hI hs hn hw (fun w' σ' k1 k2 k3 => ?_)
      refine ih (come + 1) w' σ' _ (by omega) (i4 come w' (by omega) k3) (by unfold hdS; rw [k1 42 (by decide), k1 43 (by decide)]; exact hs) (by rw [k1 39 (by decide)]; exact hn) (by rw [k1 39 (by decide)]; exact ha) k2 (fun w2 σ2 m1 m2 m3 => h w2 σ2 (fun c e => by rw [m1 c e, k1 c e]) m2 m3)
set_option maxRecDepth 100000 in
theorem s_wt_zero (d : Nat) (Q : am_Q) {N : Nat} {ps : Bool} (hN : N ≤ 7) : ∀ (k come : Nat) (σ : Nat → Nat → Int32) (x3 : Value), come + k = 2 ^ N → σ 39 5 = Int32.ofInt ((2 ^ N - 1 : Nat) : Int) → (∀ c, c < come → σ 40 c = Int32.ofInt 0) →
    (∀ (σ' : Nat → Nat → Int32), (∀ c, c ≠ 40 → σ' c = σ c) → (∀ c, c < 2 ^ N → σ' 40 c = Int32.ofInt ((if c = 0 ∧ ps = true then 1 else 0 : Nat) : Int)) → am_wp (am_d d) T_X3_countWaysTo Q (40, [.ref 39, .int (if ps = true then 1 else 0), .int (Int32.ofInt ((0 : Nat) : Int)), x3], [], 0, 0) (lo_M n w3 g σ' τ r1 r2)) →
    am_wp (am_d d) T_X3_countWaysTo Q (2, [.ref 39, .int (if ps = true then 1 else 0), .int (Int32.ofInt (come : Int)), x3], [], 0, 0) (lo_M n w3 g σ τ r1 r2) := by
  have t7 := two7 hN
  intro k
  induction k with
  | zero =>
    intro come σ x3 hc ha hz h
    refine am_wp_go (am_d_cm _) (fun pc => Nat.beq pc 40 || Nat.beq pc 2) 60 ?_
    refine And.intro (fun c1 => ?_) (fun c1 => absurd ?_ c1)
    · cases ps with
      | true =>
        refine And.intro (fun q => absurd (show (1 : Int32) = 0 from q) (by decide)) (fun _ => ?_)
        refine ixi 0 128 (by omega) ?_
        refine h (am_u σ 40 0 (Int32.ofInt 1)) (fun c e => am_u_ne e) (fun c hc2 => ?_)
        rw [am_u_at]
        by_cases e : c = 0
        · rw [if_pos e, if_pos ⟨e, rfl⟩]
          rfl
        · rw [if_neg e, if_neg (fun q => e q.1)]
          exact hz c (by omega)
      | false =>
        refine And.intro (fun _ => ?_) (fun q => absurd (show (if false = true then (1 : Int32) else 0) = 0 from rfl) q)
        refine ixi 0 128 (by omega) ?_
        refine h (am_u σ 40 0 (Int32.ofInt 0)) (fun c e => am_u_ne e) (fun c hc2 => ?_)
        have e0 : (if c = 0 ∧ false = true then 1 else 0 : Nat) = 0 := if_neg (fun q => absurd q.2 (by decide))
        rw [am_u_at, e0]
        by_cases e : c = 0
        · rw [if_pos e]
          rfl
        · rw [if_neg e]
          exact hz c (by omega)
    · show σ 39 5 < _
      rw [ha, zlt (by unfold zr; omega) (by unfold zr; omega)]
      omega
  | succ k ih =>
    intro come σ x3 hc ha hz h
    refine am_wp_go (am_d_cm _) (fun pc => Nat.beq pc 40 || Nat.beq pc 2) 60 ?_
    refine And.intro (fun c1 => ?_) (fun c1 => ?_)
    · have c1 : σ 39 5 < Int32.ofInt (come : Int) := c1
      rw [ha, zlt (by unfold zr; omega) (by unfold zr; omega)] at c1
      omega
    · refine ixi come 128 (by omega) ?_
      show am_wp _ _ _ (2, [.ref 39, .int (if ps = true then 1 else 0), .int (Int32.ofInt (come : Int) + Int32.ofInt 1), x3], [], 0, 0) (lo_M n w3 g (am_u σ 40 come (Int32.ofInt 0)) τ r1 r2)
      rw [zadd, show ((come : Int) + 1) = ((come + 1 : Nat) : Int) by omega]
      refine ih (come + 1) _ x3 (by omega) ha (fun c hc2 => ?_) (fun σ' k1 k2 => h σ' (fun c e => by rw [k1 c e, am_u_ne e]) k2)
      rw [am_u_at]
      by_cases e : c = come
      · rw [if_pos e]
      · rw [if_neg e]
        exact hz c (by omega)
set_option maxRecDepth 100000 in
theorem s_waysTo (d : Nat) (Q : am_Q) {N : Nat} {x : (Nat → Nat) × (Nat → Nat)} {ps : Bool} {I : Nat → Nat → (Nat → Nat) → Prop} (hN : N ≤ 7) (h7 : m7 N x) (i1 : ∀ come p w, I come p w → w come ≤ 1000000000) (i2 : ∀ come p w, come < 2 ^ N → p < N → I come p w → 0 < w come → mc x p come = true → I come (p + 1) (updw w (come ||| 2 ^ p) (w (come ||| 2 ^ p) + w come))) (i3 : ∀ come p w, come < 2 ^ N → p < N → I come p w → ¬ (0 < w come ∧ mc x p come = true) → I come (p + 1) w) (i4 : ∀ come w, come < 2 ^ N → I come N w → I (come + 1) 0 w) (i0 : I 0 0 (fun c => if c = 0 ∧ ps = true then 1 else 0)) (hs : hdS N x σ) (hn : σ 39 4 = Int32.ofInt (N : Int)) (ha : σ 39 5 = Int32.ofInt ((2 ^ N - 1 : Nat) : Int))
    (h : ∀ (w' : Nat → Nat) (σ' : Nat → Nat → Int32), (∀ c, c ≠ 40 → σ' c = σ c) → (∀ c, c < 2 ^ N → σ' 40 c = Int32.ofInt (w' c : Int)) → I (2 ^ N) 0 w' → Q none (lo_M n w3 g σ' τ r1 r2)) :
    am_d (d + 3) 21 [.ref 39, .int (if ps = true then 1 else 0)] 0 0 (lo_M n w3 g σ τ r1 r2) Q := by
  refine am_goT T_X3_countWaysTo [.ref 39, .int (if ps = true then 1 else 0), .null, .null] rfl rfl (fun pc => Nat.beq pc 2) 60 ?_
  refine s_wt_zero (d + 2) Q hN (2 ^ N) 0 σ .null (by omega) ha (fun c hc => by omega) (fun σ' k1 k2 => ?_)
  exact s_wt_out d Q hN h7 i1 i2 i3 i4 (2 ^ N) 0 _ σ' .null (by omega) i0 (by unfold hdS; rw [k1 42 (by decide), k1 43 (by decide)]; exact hs) (by rw [k1 39 (by decide)]; exact hn) (by rw [k1 39 (by decide)]; exact ha) k2 (fun w2 σ2 m1 m2 m3 => h w2 σ2 (fun c e => by rw [m1 c e, k1 c e]) m2 m3)
/-- ways on: F fits -/
def onF (N : Nat) (x : (Nat → Nat) × (Nat → Nat)) (F : Nat → Nat) : Prop := F (2 ^ N - 1) = 1 ∧ ∀ come, come < 2 ^ N - 1 → F come = nsum (fun p => if mc x p come = true then F (come ||| 2 ^ p) else 0) N
theorem mc_bit {x : (Nat → Nat) × (Nat → Nat)} {p come : Nat} (h : mc x p come = true) : bitk come p = false := by
  unfold mc at h
  cases e : bitk come p with
  | false => rfl
  | true =>
    rw [e] at h
    simp at h
set_option maxHeartbeats 1000000 in
set_option maxRecDepth 100000 in
theorem s_wo_in (d : Nat) (Q : am_Q) {N come : Nat} {x : (Nat → Nat) × (Nat → Nat)} {F : Nat → Nat} (hN : N ≤ 7) (h7 : m7 N x) (hcome : come < 2 ^ N - 1) : ∀ (k p : Nat) (σ : Nat → Nat → Int32), p + k = N → hdS N x σ → σ 39 4 = Int32.ofInt (N : Int) → σ 41 come = Int32.ofInt ((nsum (fun p => if mc x p come = true then F (come ||| 2 ^ p) else 0) p : Nat) : Int) → (∀ c, come < c → c < 2 ^ N → σ 41 c = Int32.ofInt (F c : Int)) →
    (∀ (σ' : Nat → Nat → Int32), (∀ c, c ≠ 41 → σ' c = σ c) → (∀ c, come < c → c < 2 ^ N → σ' 41 c = Int32.ofInt (F c : Int)) → σ' 41 come = Int32.ofInt ((nsum (fun p => if mc x p come = true then F (come ||| 2 ^ p) else 0) N : Nat) : Int) → am_wp (am_d (d + 2)) T_X3_countWaysOn Q (17, [.ref 39, .int (Int32.ofInt ((come : Int) - 1)), .int (Int32.ofInt (N : Int))], [], 0, 0) (lo_M n w3 g σ' τ r1 r2)) →
    am_wp (am_d (d + 2)) T_X3_countWaysOn Q (30, [.ref 39, .int (Int32.ofInt (come : Int)), .int (Int32.ofInt (p : Int))], [], 0, 0) (lo_M n w3 g σ τ r1 r2) := by
  have t7 := two7 hN
  intro k
  induction k with
  | zero =>
    intro p σ hp hs hn hw hF h
    have hpe : p = N := by omega
    subst hpe
    have h := h σ (fun _ _ => rfl) hF hw
    rw [show (come : Int) - 1 = (come : Int) + (-1) by omega, ← zadd] at h
    refine am_wp_go (am_d_cm _) (fun pc => Nat.beq pc 17 || Nat.beq pc 30) 60 ?_
    refine And.intro (fun c1 => ?_) (fun c1 => absurd ?_ c1)
    · exact h
    · show σ 39 4 ≤ _
      rw [hn, zle (by unfold zr; omega) (by unfold zr; omega)]
      omega
  | succ k ih =>
    intro p σ hp hs hn hw hF h
    have ep : Int32.ofInt (p : Int) + Int32.ofInt 1 = Int32.ofInt ((p + 1 : Nat) : Int) := by
      rw [zadd]
      congr 1
    have hpN : p < N := by omega
    refine am_wp_go (am_d_cm _) (fun pc => Nat.beq pc 17 || Nat.beq pc 30) 60 ?_
    refine And.intro (fun c1 => ?_) (fun c1 => ?_)
    · have c1 : σ 39 4 ≤ Int32.ofInt (p : Int) := c1
      rw [hn, zle (by unfold zr; omega) (by unfold zr; omega)] at c1
      omega
    · refine s_mayCome d _ hN hpN (by omega) h7 hs ?_
      by_cases c3 : mc x p come = true
      · rw [if_pos c3]
        refine And.intro (fun q => absurd q (by decide)) (fun _ => ?_)
        have o3 := or3 N (by omega) come (by omega) p hpN (by omega)
        have o2 := ((or2 come (by omega) p (by omega)).2 (mc_bit c3)).1
        have op : 0 < 2 ^ p := Nat.pow_pos (by omega)
        have eo := (orv come (by omega) p (by omega)).1
        refine ixi come 128 (by omega) ?_
        refine ixi (come ||| 2 ^ p) 128 (by omega) ?_ eo
        refine ixi come 128 (by omega) ?_
        show am_wp _ _ _ (30, [.ref 39, .int (Int32.ofInt (come : Int)), .int (Int32.ofInt (p : Int) + Int32.ofInt 1)], [], 0, 0) (lo_M n w3 g (am_u σ 41 come (σ 41 come + σ 41 (come ||| 2 ^ p))) τ r1 r2)
        rw [ep]
        refine ih (p + 1) _ (by omega) hs hn ?_ (fun c h1 h2 => ?_) (fun σ' k1 k2 k3 => h σ' (fun c e => by rw [k1 c e, am_u_ne e]) k2 k3)
        · rw [am_u_at, if_pos rfl, hw, hF _ (by omega) o3, zadd]
          congr 1
          rw [nsum_s, if_pos c3]
          omega
        · rw [am_u_at, if_neg (by omega)]
          exact hF c h1 h2
      · rw [if_neg c3]
        refine And.intro (fun _ => ?_) (fun q => absurd rfl q)
        show am_wp _ _ _ (30, [.ref 39, .int (Int32.ofInt (come : Int)), .int (Int32.ofInt (p : Int) + Int32.ofInt 1)], [], 0, 0) (lo_M n w3 g σ τ r1 r2)
        rw [ep]
        refine ih (p + 1) σ (by omega) hs hn ?_ hF h
        rw [hw]
        congr 1
        conv => rhs; unfold nsum
        rw [if_neg c3, Nat.add_zero]
set_option maxRecDepth 100000 in
theorem s_wo_out (d : Nat) (Q : am_Q) {N : Nat} {x : (Nat → Nat) × (Nat → Nat)} {F : Nat → Nat} (hN : N ≤ 7) (h7 : m7 N x) (hF : onF N x F) : ∀ (k : Nat) (σ : Nat → Nat → Int32) (x3 : Value), k ≤ 2 ^ N - 1 → hdS N x σ → σ 39 4 = Int32.ofInt (N : Int) → (∀ c, k ≤ c → c < 2 ^ N → σ 41 c = Int32.ofInt (F c : Int)) →
    (∀ (σ' : Nat → Nat → Int32), (∀ c, c ≠ 41 → σ' c = σ c) → (∀ c, c < 2 ^ N → σ' 41 c = Int32.ofInt (F c : Int)) → Q none (lo_M n w3 g σ' τ r1 r2)) →
    am_wp (am_d (d + 2)) T_X3_countWaysOn Q (17, [.ref 39, .int (Int32.ofInt ((k : Int) - 1)), x3], [], 0, 0) (lo_M n w3 g σ τ r1 r2) := by
  have t7 := two7 hN
  intro k
  induction k with
  | zero =>
    intro σ x3 hk hs hn hw h
    refine am_wp_go (am_d_cm _) (fun pc => Nat.beq pc 17 || Nat.beq pc 30) 60 ?_
    refine And.intro (fun c1 => ?_) (fun c1 => absurd ?_ c1)
    · exact h σ (fun _ _ => rfl) (fun c hc => hw c (by omega) hc)
    · rw [zlt0 (by unfold zr; omega)]
      omega
  | succ k ih =>
    intro σ x3 hk hs hn hw h
    rw [show ((k + 1 : Nat) : Int) - 1 = (k : Int) by omega]
    refine am_wp_go (am_d_cm _) (fun pc => Nat.beq pc 17 || Nat.beq pc 30) 60 ?_
    refine And.intro (fun c1 => ?_) (fun c1 => ?_)
    · rw [zlt0 (by unfold zr; omega)] at c1
      omega
    · refine ixi k 128 (by omega) ?_
      refine s_wo_in d Q (F := F) hN h7 (show k < 2 ^ N - 1 by omega) N 0 (am_u σ 41 k (Int32.ofInt 0)) (by omega) hs hn (by rw [am_u_at, if_pos rfl]; rfl) (fun c h1 h2 => by rw [am_u_at, if_neg (by omega)]; exact hw c (by omega) h2) (fun σ' k1 k2 k3 => ?_)
      refine ih σ' _ (by omega) (by unfold hdS; rw [k1 42 (by decide), k1 43 (by decide)]; exact hs) (by rw [k1 39 (by decide)]; exact hn) (fun c h1 h2 => ?_) (fun σ2 m1 m2 => h σ2 (fun c e => by rw [m1 c e, k1 c e, am_u_ne e]) m2)
      by_cases e : c = k
      · subst e
        rw [k3, hF.2 c (by omega)]
      · exact k2 c (by omega) h2
set_option maxRecDepth 100000 in
theorem s_waysOn (d : Nat) (Q : am_Q) {N : Nat} {x : (Nat → Nat) × (Nat → Nat)} {F : Nat → Nat} (hN : N ≤ 7) (h7 : m7 N x) (hF : onF N x F) (hs : hdS N x σ) (hn : σ 39 4 = Int32.ofInt (N : Int)) (ha : σ 39 5 = Int32.ofInt ((2 ^ N - 1 : Nat) : Int))
    (h : ∀ (σ' : Nat → Nat → Int32), (∀ c, c ≠ 41 → σ' c = σ c) → (∀ c, c < 2 ^ N → σ' 41 c = Int32.ofInt (F c : Int)) → Q none (lo_M n w3 g σ' τ r1 r2)) :
    am_d (d + 3) 22 [.ref 39] 0 0 (lo_M n w3 g σ τ r1 r2) Q := by
  have t7 := two7 hN
  refine am_goT T_X3_countWaysOn [.ref 39, .null, .null] rfl rfl (fun pc => Nat.beq pc 17) 60 ?_
  refine ixi (2 ^ N - 1) 128 (by omega) ?_ ha
  have key := s_wo_out (n := n) (w3 := w3) (g := g) (τ := τ) (r1 := r1) (r2 := r2) d Q hN h7 hF (2 ^ N - 1) (am_u σ 41 (2 ^ N - 1) (Int32.ofInt 1)) .null (Nat.le_refl _) hs hn (fun c h1 h2 => by rw [am_u_at, if_pos (by omega), show c = 2 ^ N - 1 by omega, hF.1]; rfl) (fun σ2 m1 m2 => h σ2 (fun c e => by rw [m1 c e, am_u_ne e]) m2)
  rw [← zsub, ← ha] at key
  exact key
end WA
