/-! Orders: the class, who may come -/
/-- what one fact does to who comes ahead of whom, and to the places -/
def hd1 (n lw kd pe ot : Nat) (x : (Nat → Nat) × (Nat → Nat)) : (Nat → Nat) × (Nat → Nat) :=
  if n ≤ pe then x else if kd = 0 then (x.1, fun q => if q = pe then x.2 pe &&& (if ot < n then 2 ^ (if lw = 0 then ot else n - 1 - ot) else 0) else x.2 q) else if n ≤ ot then x else if lw = 0 then ((fun q => if q = pe then x.1 pe ||| 2 ^ ot else x.1 q), x.2) else ((fun q => if q = ot then x.1 ot ||| 2 ^ pe else x.1 q), x.2)
def hd2 (n kd pe ot : Nat) : Bool := if n ≤ pe then false else if kd = 0 then true else if n ≤ ot then false else true
def m7 (n : Nat) (x : (Nat → Nat) × (Nat → Nat)) : Prop := ∀ q, q < n → x.1 q < 128 ∧ x.2 q < 128
theorem hd1_7 {n lw kd pe ot : Nat} {x : (Nat → Nat) × (Nat → Nat)} (hn : n ≤ 7) (h : m7 n x) : m7 n (hd1 n lw kd pe ot x) := by
  unfold hd1
  split
  · exact h
  · split
    · intro q hq
      refine ⟨(h q hq).1, ?_⟩
      dsimp only
      split
      · next e =>
        subst e
        have := and_le (x.2 q) (if ot < n then 2 ^ (if lw = 0 then ot else n - 1 - ot) else 0)
        have := (h q hq).2
        omega
      · exact (h q hq).2
    · split
      · exact h
      · split
        · intro q hq
          refine ⟨?_, (h q hq).2⟩
          dsimp only
          split
          · next e =>
            subst e
            exact (or2 _ (h q hq).1 ot (by omega)).1
          · exact (h q hq).1
        · intro q hq
          refine ⟨?_, (h q hq).2⟩
          dsimp only
          split
          · next e =>
            subst e
            exact (or2 _ (h q hq).1 pe (by omega)).1
          · exact (h q hq).1
def mc (x : (Nat → Nat) × (Nat → Nat)) (p come : Nat) : Bool := !bitk come p && Nat.beq (x.1 p &&& (127 - come)) 0 && bitk (x.2 p) (pcn come)
/-- the masks stand in the rows -/
def hdS (n : Nat) (x : (Nat → Nat) × (Nat → Nat)) (σ : Nat → Nat → Int32) : Prop := ∀ q, q < n → σ 42 q = Int32.ofInt (x.1 q : Int) ∧ σ 43 q = Int32.ofInt (x.2 q : Int)
section OR
variable {n w3 : Nat} {g : Nat → Nat × Nat} {σ : Nat → Nat → Int32} {τ : Nat → Nat → Int64} {r1 r2 : Nat} {A : aN} {B : aZ}
set_option maxHeartbeats 1000000 in
set_option maxRecDepth 100000 in
theorem s_heed (d : Nat) (Q : am_Q) {N lw kd pe ot : Nat} {x : (Nat → Nat) × (Nat → Nat)} (hN : N ≤ 7) (hlw : lw ≤ 1) (hkd : kd ≤ 1) (hpe : pe < 7) (hot : ot < 7) (h7 : m7 N x) (hn : σ 39 4 = Int32.ofInt (N : Int)) (hs : hdS N x σ)
    (h : ∀ σ' : Nat → Nat → Int32, (∀ c, c ≠ 42 → c ≠ 43 → σ' c = σ c) → hdS N (hd1 N lw kd pe ot x) σ' → Q (some (.int (if hd2 N kd pe ot = true then 1 else 0))) (lo_M n w3 g σ' τ r1 r2)) :
    am_d (d + 2) 19 [.ref 39, .int (Int32.ofInt (kd : Int)), .int (Int32.ofInt (pe : Int)), .int (Int32.ofInt (ot : Int)), .int (Int32.ofInt (lw : Int))] 0 0 (lo_M n w3 g σ τ r1 r2) Q := by
  unfold hd1 hd2 at h
  refine am_goT T_X3_heed [.ref 39, .int (Int32.ofInt (kd : Int)), .int (Int32.ofInt (pe : Int)), .int (Int32.ofInt (ot : Int)), .int (Int32.ofInt (lw : Int)), .null] rfl rfl (fun pc => Nat.beq pc 31) 80 ?_
  refine And.intro (fun c1 => ?_) (fun c1 => ?_)
  · have c1 : Int32.ofInt (pe : Int) < σ 39 4 := c1
    rw [hn, zlt (by unfold zr; omega) (by unfold zr; omega)] at c1
    rw [if_neg (show ¬ N ≤ pe by omega), if_neg (show ¬ N ≤ pe by omega)] at h
    obtain ⟨x1, x2⟩ := h7 pe (by omega)
    obtain ⟨z1, z2⟩ := hs pe (by omega)
    refine And.intro (fun c2 => ?_) (fun c2 => ?_)
    · rw [zeq0 (by unfold zr; omega)] at c2
      rw [if_pos (show kd = 0 by omega), if_pos (show kd = 0 by omega)] at h
      have fin : ∀ v : Int32, v = Int32.ofInt ((x.2 pe &&& (if ot < N then 2 ^ (if lw = 0 then ot else N - 1 - ot) else 0) : Nat) : Int) → Q (some (.int 1)) (lo_M n w3 g (am_u σ 43 pe v) τ r1 r2) := by
        intro v hv
        refine h (am_u σ 43 pe v) (fun c _ e => am_u_ne e) (fun q hq => ?_)
        refine ⟨by rw [am_u_ne (by decide)]; exact (hs q hq).1, ?_⟩
        rw [am_u_at]
        dsimp only
        by_cases e : q = pe
        · rw [if_pos e, if_pos e, hv]
        · rw [if_neg e, if_neg e]
          exact (hs q hq).2
      have pl : ∀ z : Int, zr z → (0 ≤ z ∧ z ≤ (N : Int) - 1 ↔ ot < N) → (ot < N → z = ((if lw = 0 then ot else N - 1 - ot : Nat) : Int)) → am_wp (am_d (d + 1)) T_X3_heed Q (31, [.ref 39, .int (Int32.ofInt (kd : Int)), .int (Int32.ofInt (pe : Int)), .int (Int32.ofInt (ot : Int)), .int (Int32.ofInt (lw : Int)), .null], [.int (Int32.ofInt z)], 0, 0) (lo_M n w3 g σ τ r1 r2) := by
        intro z hz hzi hze
        refine am_wp_go (am_d_cm _) (fun _ => false) 60 ?_
        refine ixi pe 7 hpe ?_
        show am_d (d + 1) 88 [.int (Int32.ofInt z), .int (Int32.ofInt 0), .int (σ 39 4 - Int32.ofInt 1)] 0 0 _ _
        rw [hn, zsub]
        refine s_withinZ d hz (by unfold zr; omega) (by unfold zr; omega) _ _ ?_
        by_cases c3 : ot < N
        · rw [if_pos (hzi.mpr c3)]
          refine And.intro (fun q => absurd q (by decide)) (fun _ => ?_)
          refine ixi pe 7 hpe ?_
          refine And.intro (Or.inr rfl) (fin _ ?_)
          show σ 43 pe &&& (Int32.ofInt 1 <<< (Int32.ofInt z &&& 31)) = _
          rw [hze c3, sh1 _ (by split <;> omega), z2, andz, if_pos c3]
        · rw [if_neg (fun q => c3 (hzi.mp q))]
          refine And.intro (fun _ => ?_) (fun q => absurd rfl q)
          refine ixi pe 7 hpe ?_
          refine And.intro (Or.inr rfl) (fin _ ?_)
          show σ 43 pe &&& Int32.ofInt ((0 : Nat) : Int) = _
          rw [z2, andz, if_neg c3]
      refine And.intro (fun c3 => ?_) (fun c3 => ?_)
      · rw [zeq0 (by unfold zr; omega)] at c3
        exact pl (ot : Int) (by unfold zr; omega) (by omega) (fun _ => by rw [if_pos (by omega)])
      · rw [zeq0 (by unfold zr; omega)] at c3
        have key := pl ((N : Int) - 1 - (ot : Int)) (by unfold zr; omega) (by omega) (fun _ => by rw [if_neg (by omega)]; omega)
        rw [← zsub, ← zsub, ← hn] at key
        exact key
    · rw [zeq0 (by unfold zr; omega)] at c2
      rw [if_neg (show ¬ kd = 0 by omega), if_neg (show ¬ kd = 0 by omega)] at h
      refine And.intro (fun c3 => ?_) (fun c3 => ?_)
      · have c3 : Int32.ofInt (ot : Int) < σ 39 4 := c3
        rw [hn, zlt (by unfold zr; omega) (by unfold zr; omega)] at c3
        rw [if_neg (show ¬ N ≤ ot by omega), if_neg (show ¬ N ≤ ot by omega)] at h
        refine And.intro (fun c4 => ?_) (fun c4 => ?_)
        · rw [zeq0 (by unfold zr; omega)] at c4
          rw [if_pos (show lw = 0 by omega)] at h
          refine ixi pe 7 hpe ?_
          refine ixi pe 7 hpe ?_
          refine And.intro (Or.inr rfl) ?_
          refine h (am_u σ 42 pe (σ 42 pe ||| (Int32.ofInt 1 <<< (Int32.ofInt (ot : Int) &&& 31)))) (fun c e _ => am_u_ne e) (fun q hq => ?_)
          refine ⟨?_, by rw [am_u_ne (by decide)]; exact (hs q hq).2⟩
          rw [am_u_at]
          dsimp only
          by_cases e : q = pe
          · rw [if_pos e, if_pos e, z1, (orv _ x1 _ hot).1]
          · rw [if_neg e, if_neg e]
            exact (hs q hq).1
        · rw [zeq0 (by unfold zr; omega)] at c4
          rw [if_neg (show ¬ lw = 0 by omega)] at h
          refine ixi ot 7 hot ?_
          refine ixi ot 7 hot ?_
          refine And.intro (Or.inr rfl) ?_
          refine h (am_u σ 42 ot (σ 42 ot ||| (Int32.ofInt 1 <<< (Int32.ofInt (pe : Int) &&& 31)))) (fun c e _ => am_u_ne e) (fun q hq => ?_)
          refine ⟨?_, by rw [am_u_ne (by decide)]; exact (hs q hq).2⟩
          rw [am_u_at]
          dsimp only
          by_cases e : q = ot
          · rw [if_pos e, if_pos e, (hs ot (by omega)).1, (orv _ (h7 ot (by omega)).1 _ hpe).1]
          · rw [if_neg e, if_neg e]
            exact (hs q hq).1
      · have c3 : ¬ Int32.ofInt (ot : Int) < σ 39 4 := c3
        rw [hn, zlt (by unfold zr; omega) (by unfold zr; omega)] at c3
        rw [if_pos (show N ≤ ot by omega), if_pos (show N ≤ ot by omega)] at h
        exact And.intro (Or.inl rfl) (h σ (fun _ _ _ => rfl) hs)
  · have c1 : ¬ Int32.ofInt (pe : Int) < σ 39 4 := c1
    rw [hn, zlt (by unfold zr; omega) (by unfold zr; omega)] at c1
    rw [if_pos (show N ≤ pe by omega), if_pos (show N ≤ pe by omega)] at h
    exact And.intro (Or.inl rfl) (h σ (fun _ _ _ => rfl) hs)
set_option maxRecDepth 100000 in
theorem s_mayCome (d : Nat) (Q : am_Q) {N p come : Nat} {x : (Nat → Nat) × (Nat → Nat)} (hN : N ≤ 7) (hp : p < N) (hc : come < 128) (h7 : m7 N x) (hs : hdS N x σ) (h : Q (some (.int (if mc x p come = true then 1 else 0))) (lo_M n w3 g σ τ r1 r2)) : am_d (d + 2) 20 [.ref 39, .int (Int32.ofInt (p : Int)), .int (Int32.ofInt (come : Int))] 0 0 (lo_M n w3 g σ τ r1 r2) Q := by
  obtain ⟨x1, x2⟩ := h7 p hp
  obtain ⟨z1, z2⟩ := hs p hp
  unfold mc at h
  refine am_goT T_X3_mayCome [.ref 39, .int (Int32.ofInt (p : Int)), .int (Int32.ofInt (come : Int))] rfl rfl (fun _ => false) 60 ?_
  refine And.intro (fun c1 => ?_) (fun c1 => ?_)
  · have c1 : (Int32.ofInt (come : Int) >>> (Int32.ofInt (p : Int) &&& 31)) &&& Int32.ofInt 1 = 0 := c1
    rw [bitv7 come hc p (by omega)] at c1
    have b1 : bitk come p = false := by
      cases e : bitk come p with
      | false => rfl
      | true =>
        rw [e] at c1
        exact absurd c1 (by decide)
    rw [b1] at h
    refine ixi p 7 (by omega) ?_
    refine And.intro (fun c2 => ?_) (fun c2 => ?_)
    · have c2 : σ 42 p &&& (Int32.ofInt (come : Int) ^^^ Int32.ofInt (-1)) = 0 := c2
      have l2 := and_le (x.1 p) (127 - come)
      rw [z1, andn _ x1 _ hc, zeq0 (by unfold zr; omega)] at c2
      have b2 : Nat.beq (x.1 p &&& (127 - come)) 0 = true := by
        rw [show x.1 p &&& (127 - come) = 0 by omega]
        rfl
      rw [b2] at h
      refine ixi p 7 (by omega) ?_
      refine s_bitCount d hc _ _ ?_
      have e3 : (σ 43 p >>> (Int32.ofInt (pcn come : Int) &&& 31)) &&& Int32.ofInt 1 = Int32.ofInt (if bitk (x.2 p) (pcn come) = true then 1 else 0) := by
        have := pcn_le come
        rw [z2, bitv7 _ x2 _ (by omega)]
      cases e : bitk (x.2 p) (pcn come) with
      | false =>
        rw [e] at h e3
        refine And.intro (fun c3 => ?_) (fun c3 => ?_)
        · have c3 : (σ 43 p >>> (Int32.ofInt (pcn come : Int) &&& 31)) &&& Int32.ofInt 1 = Int32.ofInt 1 := c3
          rw [e3] at c3
          exact absurd c3 (by decide)
        · exact And.intro (Or.inl rfl) h
      | true =>
        rw [e] at h e3
        refine And.intro (fun c3 => ?_) (fun c3 => ?_)
        · exact And.intro (Or.inr rfl) h
        · exact absurd (show (σ 43 p >>> (Int32.ofInt (pcn come : Int) &&& 31)) &&& Int32.ofInt 1 = Int32.ofInt 1 from e3) c3
    · have c2 : ¬ σ 42 p &&& (Int32.ofInt (come : Int) ^^^ Int32.ofInt (-1)) = 0 := c2
      have l2 := and_le (x.1 p) (127 - come)
      rw [z1, andn _ x1 _ hc, zeq0 (by unfold zr; omega)] at c2
      have b2 : Nat.beq (x.1 p &&& (127 - come)) 0 = false := by
        cases e : Nat.beq (x.1 p &&& (127 - come)) 0 with
        | false => rfl
        | true =>
          have := Nat.eq_of_beq_eq_true e
          omega
      rw [b2] at h
      exact And.intro (Or.inl rfl) h
  · have c1 : ¬ (Int32.ofInt (come : Int) >>> (Int32.ofInt (p : Int) &&& 31)) &&& Int32.ofInt 1 = 0 := c1
    rw [bitv7 come hc p (by omega)] at c1
    have b1 : bitk come p = true := by
      cases e : bitk come p with
      | true => rfl
      | false =>
        rw [e] at c1
        exact absurd rfl c1
    rw [b1] at h
    exact And.intro (Or.inl rfl) h
end OR
