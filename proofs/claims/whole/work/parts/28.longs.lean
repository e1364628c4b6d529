/-! longs as whole numbers; lowest terms: the class -/
def yr (a : Int) : Prop := -9223372036854775808 ≤ a ∧ a < 9223372036854775808
theorem yadd (a b : Int) : Int64.ofInt a + Int64.ofInt b = Int64.ofInt (a + b) := (Int64.ofInt_add a b).symm
theorem ysub (a b : Int) : Int64.ofInt a - Int64.ofInt b = Int64.ofInt (a - b) := (Int64.ofInt_sub a b).symm
theorem ymul (a b : Int) : Int64.ofInt a * Int64.ofInt b = Int64.ofInt (a * b) := (Int64.ofInt_mul a b).symm
theorem yneg (a : Int) : -Int64.ofInt a = Int64.ofInt (-a) := (Int64.ofInt_neg a).symm
theorem y0 : (0 : Int64) = Int64.ofInt 0 := rfl
theorem yto {a : Int} (h : yr a) : (Int64.ofInt a).toInt = a := Int64.toInt_ofInt_of_le h.1 h.2
theorem ylt {a b : Int} (ha : yr a) (hb : yr b) : Int64.ofInt a < Int64.ofInt b ↔ a < b := by rw [Int64.lt_iff_toInt_lt, yto ha, yto hb]
theorem yeq {a b : Int} (ha : yr a) (hb : yr b) : Int64.ofInt a = Int64.ofInt b ↔ a = b := by rw [← Int64.toInt_inj, yto ha, yto hb]
theorem yofz {a : Int} (h : zr a) : (Int32.ofInt a).toInt64 = Int64.ofInt a := by
  rw [← Int64.ofInt_int32ToInt, zI_to h]
theorem ytdiv {a b : Int} (ha : yr a) (hb : yr b) : Int64.ofInt a / Int64.ofInt b = Int64.ofInt (a.tdiv b) := by
  have e1 : Int64.minValue.toInt = -9223372036854775808 := by decide
  have e2 : Int64.maxValue.toInt = 9223372036854775807 := by decide
  unfold yr at ha hb
  rw [Int64.ofInt_tdiv (by omega) (by omega) (by omega) (by omega)]
theorem yrem {a b : Nat} (ha : a < 9223372036854775808) (hb : b < 9223372036854775808) : Int64.ofInt (a : Int) - Int64.ofInt (a : Int) / Int64.ofInt (b : Int) * Int64.ofInt (b : Int) = Int64.ofInt ((a % b : Nat) : Int) := by
  rw [ytdiv (by unfold yr; omega) (by unfold yr; omega), ymul, ysub]
  congr 1
  rw [Int.tdiv_eq_ediv_of_nonneg (by omega), Int.natCast_emod, Int.emod_def, Int.mul_comm]
theorem yabs {a : Int} (h1 : -9223372036854775808 < a) (h2 : a < 9223372036854775808) : (if 0 < Int64.ofInt a then Int64.ofInt a else -Int64.ofInt a) = Int64.ofInt (a.natAbs : Int) := by
  rw [y0]
  split
  · next c1 =>
    rw [ylt (by unfold yr; omega) ⟨by omega, h2⟩] at c1
    rw [show ((a.natAbs : Nat) : Int) = a by omega]
  · next c1 =>
    rw [ylt (by unfold yr; omega) ⟨by omega, h2⟩] at c1
    rw [yneg, show ((a.natAbs : Nat) : Int) = -a by omega]
theorem lgc0 {a : Int} (h : yr a) : lg_cmp (Int64.ofInt a) (Int64.ofInt 0) = 0 ↔ a = 0 := by
  unfold lg_cmp
  have e0 : yr 0 := by unfold yr; omega
  split
  · next c1 =>
    rw [gt_iff_lt, ylt e0 h] at c1
    constructor
    · intro q
      exact absurd q (by decide)
    · omega
  · split
    · next c2 =>
      rw [yeq h e0] at c2
      simp [c2]
    · next c2 =>
      rw [yeq h e0] at c2
      constructor
      · intro q
        exact absurd q (by decide)
      · omega
/-- a fraction's two parts in lowest terms -/
def ltA (a : Int) (b : Nat) : Int := a.tdiv (Nat.gcd a.natAbs b : Int)
def ltB (a : Int) (b : Nat) : Int := ((b / Nat.gcd a.natAbs b : Nat) : Int)
section LT
variable {M : am_M}
set_option maxRecDepth 100000 in
theorem s_gcd_loop (d : Nat) (Q : am_Q) {a b : Int64} : ∀ (m x y k : Nat) (u v : Value), u.category = 1 ∨ True → x < 9223372036854775808 → y < 9223372036854775808 → y < 2 ^ m → k + 2 * m < 100 → Q (some (.long (Int64.ofInt (Nat.gcd x y : Int)))) M →
    am_wp (am_d d) T_X9_commonDivisor Q (9, [.long a, .null, .long b, .null, .long (Int64.ofInt (x : Int)), .null, .long (Int64.ofInt (y : Int)), .null, .int (Int32.ofInt (k : Int)), u, .null], [], 0, 0) M := by
  intro m
  induction m with
  | zero =>
    intro x y k u v hu hx hy hm hk h
    have hy0 : y = 0 := by omega
    subst hy0
    rw [Nat.gcd_zero_right] at h
    refine am_wp_go (am_d_cm _) (fun pc => Nat.beq pc 9) 60 ?_
    refine And.intro (fun c1 => ?_) (fun c1 => ?_)
    · rw [zle (by unfold zr; omega) (by unfold zr; omega)] at c1
      omega
    · refine And.intro (fun c2 => h) (fun c2 => absurd ?_ c2)
      rfl
  | succ m ih =>
    intro x y k u v hu hx hy hm hk h
    refine am_wp_go (am_d_cm _) (fun pc => Nat.beq pc 9) 60 ?_
    refine And.intro (fun c1 => ?_) (fun c1 => ?_)
    · rw [zle (by unfold zr; omega) (by unfold zr; omega)] at c1
      omega
    · refine And.intro (fun c2 => ?_) (fun c2 => ?_)
      · have c2 : lg_cmp (Int64.ofInt (y : Int)) (Int64.ofInt 0) = 0 := c2
        rw [lgc0 (by unfold yr; omega)] at c2
        rw [show y = 0 by omega, Nat.gcd_zero_right] at h
        exact h
      · have c2 : ¬ lg_cmp (Int64.ofInt (y : Int)) (Int64.ofInt 0) = 0 := c2
        rw [lgc0 (by unfold yr; omega)] at c2
        refine And.intro (by rw [y0, yeq (by unfold yr; omega) (by unfold yr; omega)]; omega) ?_
        have hr := Nat.mod_lt x (show 0 < y by omega)
        show am_wp _ _ _ (9, [.long a, .null, .long b, .null, .long (Int64.ofInt (y : Int)), .null, .long (Int64.ofInt (x : Int) - Int64.ofInt (x : Int) / Int64.ofInt (y : Int) * Int64.ofInt (y : Int)), .null, .int (Int32.ofInt (k : Int) + Int32.ofInt 1), .long (Int64.ofInt (x : Int) - Int64.ofInt (x : Int) / Int64.ofInt (y : Int) * Int64.ofInt (y : Int)), .null], [], 0, 0) M
        rw [yrem hx hy, zadd, show ((k : Int) + 1) = ((k + 1 : Nat) : Int) by omega]
        rw [Nat.gcd_comm, Nat.gcd_rec] at h
        refine am_wp_go (am_d_cm _) (fun pc => Nat.beq pc 9) 60 ?_
        refine And.intro (fun c1 => ?_) (fun c1 => ?_)
        · rw [zle (by unfold zr; omega) (by unfold zr; omega)] at c1
          omega
        · refine And.intro (fun c3 => ?_) (fun c3 => ?_)
          · have c3 : lg_cmp (Int64.ofInt ((x % y : Nat) : Int)) (Int64.ofInt 0) = 0 := c3
            rw [lgc0 (by unfold yr; omega)] at c3
            rw [show x % y = 0 by omega, Nat.gcd_zero_left] at h
            exact h
          · have c3 : ¬ lg_cmp (Int64.ofInt ((x % y : Nat) : Int)) (Int64.ofInt 0) = 0 := c3
            rw [lgc0 (by unfold yr; omega)] at c3
            refine And.intro (by rw [y0, yeq (by unfold yr; omega) (by unfold yr; omega)]; omega) ?_
            have hr2 := Nat.mod_lt y (show 0 < x % y by omega)
            have hh : 2 * (y % (x % y)) < y + 1 := by
              have h1 := Nat.div_add_mod y (x % y)
              have h2 : 1 ≤ y / (x % y) := (Nat.one_le_div_iff (by omega)).mpr (by omega)
              have h3 : x % y ≤ x % y * (y / (x % y)) := Nat.le_mul_of_pos_right _ h2
              omega
            show am_wp _ _ _ (9, [.long a, .null, .long b, .null, .long (Int64.ofInt ((x % y : Nat) : Int)), .null, .long (Int64.ofInt (y : Int) - Int64.ofInt (y : Int) / Int64.ofInt ((x % y : Nat) : Int) * Int64.ofInt ((x % y : Nat) : Int)), .null, .int (Int32.ofInt ((k + 1 : Nat) : Int) + Int32.ofInt 1), .long (Int64.ofInt (y : Int) - Int64.ofInt (y : Int) / Int64.ofInt ((x % y : Nat) : Int) * Int64.ofInt ((x % y : Nat) : Int)), .null], [], 0, 0) M
            rw [yrem hy (by omega), zadd, show (((k + 1 : Nat) : Int) + 1) = ((k + 2 : Nat) : Int) by omega]
            refine ih (x % y) (y % (x % y)) (k + 2) _ v (Or.inr trivial) (by omega) (by omega) ?_ (by omega) ?_
            · have : 2 ^ (m + 1) = 2 * 2 ^ m := by rw [Nat.pow_succ, Nat.mul_comm]
              omega
            · rw [Nat.gcd_rec, Nat.gcd_comm] at h
              exact h
set_option maxRecDepth 100000 in
theorem s_gcd (d : Nat) (Q : am_Q) {x y : Nat} (hx : x < 9223372036854775808) (hy : y < 2 ^ 49) (h : Q (some (.long (Int64.ofInt (Nat.gcd x y : Int)))) M) : am_d (d + 1) 107 [.long (Int64.ofInt (x : Int)), .long (Int64.ofInt (y : Int))] 0 0 M Q := by
  refine am_goT T_X9_commonDivisor [.long (Int64.ofInt (x : Int)), .null, .long (Int64.ofInt (y : Int)), .null, .null, .null, .null, .null, .null, .null, .null] rfl rfl (fun pc => Nat.beq pc 9) 60 ?_
  exact s_gcd_loop d Q 49 x y 0 .null .null (Or.inr trivial) hx (by omega) hy (by omega) h
set_option maxRecDepth 100000 in
theorem s_lowest (d : Nat) (Q : am_Q) {a : Int} {b : Nat} {w : Int32} (h1 : -9223372036854775808 < a) (h2 : a < 9223372036854775808) (hb : 0 < b) (hb2 : b < 2 ^ 49) (h0 : w = 0 → Q (some (.long (Int64.ofInt (ltA a b)))) M) (hn : ¬ w = 0 → Q (some (.long (Int64.ofInt (ltB a b)))) M) : am_d (d + 2) 106 [.long (Int64.ofInt a), .long (Int64.ofInt (b : Int)), .int w] 0 0 M Q := by
  have hg1 : 0 < Nat.gcd a.natAbs b := Nat.gcd_pos_of_pos_right _ hb
  have hg2 : Nat.gcd a.natAbs b ≤ b := Nat.gcd_le_right _ hb
  refine am_goT T_X9_lowestTerms [.long (Int64.ofInt a), .null, .long (Int64.ofInt (b : Int)), .null, .int w, .null, .null] rfl rfl (fun _ => false) 60 ?_
  show am_d (d + 1) 107 [.long (if 0 < Int64.ofInt a then Int64.ofInt a else -Int64.ofInt a), .long (Int64.ofInt (b : Int))] 0 0 _ _
  rw [yabs h1 h2]
  refine s_gcd d _ (by omega) hb2 ?_
  have em : (if Int64.ofInt (Nat.gcd a.natAbs b : Int) < Int64.ofInt 1 then Int64.ofInt 1 else Int64.ofInt (Nat.gcd a.natAbs b : Int)) = Int64.ofInt (Nat.gcd a.natAbs b : Int) := by
    rw [if_neg]
    rw [ylt (by unfold yr; omega) (by unfold yr; omega)]
    omega
  have nz : ¬ (if Int64.ofInt (Nat.gcd a.natAbs b : Int) < Int64.ofInt 1 then Int64.ofInt 1 else Int64.ofInt (Nat.gcd a.natAbs b : Int)) = 0 := by
    rw [em, y0, yeq (by unfold yr; omega) (by unfold yr; omega)]
    omega
  refine And.intro (fun c1 => And.intro nz ?_) (fun c1 => And.intro nz ?_)
  · have h0 := h0 c1
    unfold ltA at h0
    rw [← ytdiv (by unfold yr; omega) (by unfold yr; omega), ← em] at h0
    exact h0
  · have hn := hn c1
    unfold ltB at hn
    rw [Int.natCast_ediv, ← Int.tdiv_eq_ediv_of_nonneg (by omega), ← ytdiv (by unfold yr; omega) (by unfold yr; omega), ← em] at hn
    exact hn
end LT
