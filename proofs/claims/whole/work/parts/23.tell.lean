/-! person, waits, rain, set, love, fault: the class -/
/-- the kept answers are dropped -/
def drp (σ : Nat → Nat → Int32) : Nat → Nat → Int32 := am_u (am_u (am_u σ 4 14 (Int32.ofInt 0)) 4 15 (Int32.ofInt 0)) 4 16 (Int32.ofInt 0)
theorem drp_ne {σ : Nat → Nat → Int32} {c : Nat} (h : c ≠ 4) : drp σ c = σ c := by
  unfold drp
  rw [am_u_ne h, am_u_ne h, am_u_ne h]
theorem drp_4 {σ : Nat → Nat → Int32} {i : Nat} : drp σ 4 i = if i = 16 ∨ i = 15 ∨ i = 14 then Int32.ofInt 0 else σ 4 i := by
  unfold drp
  rw [am_u_at, am_u_at, am_u_at]
  by_cases e1 : i = 16
  · rw [if_pos e1, if_pos (Or.inl e1)]
  · rw [if_neg e1]
    by_cases e2 : i = 15
    · rw [if_pos e2, if_pos (Or.inr (Or.inl e2))]
    · rw [if_neg e2]
      by_cases e3 : i = 14
      · rw [if_pos e3, if_pos (Or.inr (Or.inr e3))]
      · rw [if_neg e3, if_neg (fun q => q.elim e1 (fun q => q.elim e2 e3))]
section TE
variable {n w3 : Nat} {g : Nat → Nat × Nat} {σ : Nat → Nat → Int32} {τ : Nat → Nat → Int64} {r1 r2 : Nat} {A : aN} {B : aZ}
set_option maxRecDepth 100000 in
theorem s_drop (d : Nat) (Q : am_Q) (h : Q none (lo_M n w3 g (drp σ) τ r1 r2)) : am_d (d + 1) 94 [.ref 4] 0 0 (lo_M n w3 g σ τ r1 r2) Q := by
  refine am_goT T_X9_dropAnswers [.ref 4] rfl rfl (fun _ => false) 30 ?_
  exact And.intro (Or.inl rfl) (And.intro (Or.inl rfl) (And.intro (Or.inl rfl) h))
set_option maxRecDepth 100000 in
theorem s_isNumber (d : Nat) (M : am_M) (Q : am_Q) {v : Int} (hv : zr v) (h : Q (some (.int (if 0 ≤ v ∧ v ≤ 6 then 1 else 0))) M) : am_d (d + 2) 89 [.int (Int32.ofInt v)] 0 0 M Q := by
  refine am_goT T_X9_isNumber [.int (Int32.ofInt v)] rfl rfl (fun _ => false) 30 ?_
  refine s_withinZ d hv (by unfold zr; omega) (by unfold zr; omega) _ _ ?_
  by_cases c : 0 ≤ v ∧ v ≤ 6
  · rw [if_pos c] at h ⊢
    exact And.intro (Or.inr rfl) h
  · rw [if_neg c] at h ⊢
    exact And.intro (Or.inl rfl) h
set_option maxRecDepth 100000 in
theorem c_fault (d : Nat) (Q : am_Q) (hx : IX A B σ) (h : Q (some (.int (Int32.ofInt (flt A)))) (lo_M n w3 g σ τ r1 r2)) : am_d (d + 1) 54 [.ref 4] 0 0 (lo_M n w3 g σ τ r1 r2) Q := by
  rw [← hx.1.2.2.2.1] at h
  refine am_goT T_X9_fault [.ref 4] rfl rfl (fun _ => false) 30 ?_
  exact h
def f_person (A : aN) (z y : Int) : Int := if (0 ≤ z ∧ z < cnt A) ∧ 0 ≤ y ∧ y ≤ 3 then (if y = 0 then (mn A z.toNat : Int) else if y = 1 then (wsh A z.toNat : Int) else if y = 2 then (gin A z.toNat (A 4 z.toNat) : Int) else (prz (A 2) (gin A z.toNat (A 4 z.toNat)) : Int) - (prz (A 2) (mn A z.toNat) : Int)) else -2
set_option maxRecDepth 100000 in
theorem c_person (d : Nat) (Q : am_Q) {z y : Int} (hz : zr z) (hy : zr y) (hx : IX A B σ) (hwf : WF A B) (h : Q (some (.int (Int32.ofInt (f_person A z y)))) (lo_M n w3 g σ τ r1 r2)) : am_d (d + 3) 55 [.ref 4, .int (Int32.ofInt z), .int (Int32.ofInt y)] 0 0 (lo_M n w3 g σ τ r1 r2) Q := by
  have hc := cnt_le A
  unfold f_person at h
  have bad : ¬ ((0 ≤ z ∧ z < cnt A) ∧ 0 ≤ y ∧ y ≤ 3) → Q (some (.int (Int32.ofInt (-2)))) (lo_M n w3 g σ τ r1 r2) := by
    intro c
    rw [if_neg c] at h
    exact h
  refine am_goT T_X9_person [.ref 4, .int (Int32.ofInt z), .int (Int32.ofInt y), .null] rfl rfl (fun _ => false) 60 ?_
  refine s_isThere d _ hz hc hx.1.2.2.1 ?_
  by_cases c : 0 ≤ z ∧ z < cnt A
  · rw [if_pos c]
    refine And.intro (fun q => absurd q (by decide)) (fun _ => ?_)
    refine s_withinZ (d + 1) hy (by unfold zr; omega) (by unfold zr; omega) _ _ ?_
    by_cases cy : 0 ≤ y ∧ y ≤ 3
    · rw [if_pos cy]
      refine And.intro (fun q => absurd q (by decide)) (fun _ => ?_)
      rw [if_pos ⟨c, cy⟩] at h
      have hp : z.toNat < cnt A := by omega
      have hm := mn_lt hp
      have hw := hwf.2.2.2.2.1 z.toNat
      obtain ⟨e1, e2⟩ := hx.1.2.2.2.2 z.toNat hp
      have hR := hx.2.1
      refine ixi z.toNat 7 (by omega) ?_ (by congr 1; omega)
      show am_d (d + 2) 95 [.ref 4, .int (Int32.ofInt z), .int (σ 21 z.toNat)] 0 0 _ _
      rw [hx.2.2.2.2.1 z.toNat (by omega), show Int32.ofInt z = Int32.ofInt (z.toNat : Int) by congr 1; omega]
      refine s_minuteInside (d + 1) _ (by omega) e1 (by omega) (by omega) ?_
      have hgi : min 59 (mn A z.toNat + A 4 z.toNat) = gin A z.toNat (A 4 z.toNat) := rfl
      rw [hgi]
      have hg59 : gin A z.toNat (A 4 z.toNat) ≤ 59 := by unfold gin; omega
      have ty : (Int32.ofInt y).toInt = y := zI_to hy
      refine And.intro (And.intro (fun c0 => ?_) (And.intro (fun c0 => ?_) (And.intro (fun c0 => ?_) trivial))) (fun c0 => ?_)
      · rw [ty] at c0
        rw [if_pos c0, ← e1] at h
        exact ixi z.toNat 7 (by omega) h
      · rw [ty] at c0
        rw [if_neg (by omega), if_pos (by omega), ← e2] at h
        exact ixi z.toNat 7 (by omega) h
      · rw [ty] at c0
        rw [if_neg (by omega), if_neg (by omega), if_pos (by omega)] at h
        exact h
      · rw [ty] at c0
        rw [if_neg (by omega), if_neg (by omega), if_neg (by omega), ← zsub, ← hR _ (by omega), ← hR _ (by omega)] at h
        refine ixi z.toNat 7 (by omega) ?_
        show am_d (d + 2) 35 [.ref 9, .int (σ 7 z.toNat), .int (Int32.ofInt (gin A z.toNat (A 4 z.toNat) : Int))] 0 0 _ _
        exact s_between (d + 1) _ _ _ (i := mn A z.toNat) (j := gin A z.toNat (A 4 z.toNat)) ⟨e1, by omega⟩ ⟨rfl, by omega⟩ h
    · rw [if_neg cy]
      exact And.intro (fun _ => bad (fun q => cy q.2)) (fun q => absurd rfl q)
  · rw [if_neg c]
    exact And.intro (fun _ => bad (fun q => c q.1)) (fun q => absurd rfl q)
set_option maxRecDepth 100000 in
theorem c_waits (d : Nat) (Q : am_Q) {z y : Int} (hz : zr z) (hy : zr y) (hx : IX A B σ)
    (hbad : ¬ ((0 ≤ z ∧ z ≤ 6) ∧ 0 ≤ y ∧ y ≤ 59) → Q (some (.int (Int32.ofInt (-2)))) (lo_M n w3 g σ τ r1 r2))
    (hok : (0 ≤ z ∧ z ≤ 6) ∧ 0 ≤ y ∧ y ≤ 59 → Q (some (.int (Int32.ofInt (A 4 z.toNat : Int)))) (lo_M n w3 g (am_u (am_u σ 21 z.toNat (Int32.ofInt y)) 4 15 (Int32.ofInt 0)) τ r1 r2)) : am_d (d + 3) 56 [.ref 4, .int (Int32.ofInt z), .int (Int32.ofInt y)] 0 0 (lo_M n w3 g σ τ r1 r2) Q := by
  refine am_goT T_X9_waits [.ref 4, .int (Int32.ofInt z), .int (Int32.ofInt y), .null] rfl rfl (fun _ => false) 60 ?_
  refine s_isNumber d _ _ hz ?_
  by_cases c : 0 ≤ z ∧ z ≤ 6
  · rw [if_pos c]
    refine And.intro (fun q => absurd q (by decide)) (fun _ => ?_)
    refine s_withinZ (d + 1) hy (by unfold zr; omega) (by unfold zr; omega) _ _ ?_
    by_cases cy : 0 ≤ y ∧ y ≤ 59
    · rw [if_pos cy]
      refine And.intro (fun q => absurd q (by decide)) (fun _ => ?_)
      have hok := hok ⟨c, cy⟩
      rw [← hx.2.2.2.2.1 z.toNat (by omega)] at hok
      refine ixi z.toNat 7 (by omega) ?_ (by congr 1; omega)
      refine ixi z.toNat 7 (by omega) ?_ (by congr 1; omega)
      exact And.intro (Or.inl rfl) hok
    · rw [if_neg cy]
      exact And.intro (fun _ => hbad (fun q => cy q.2)) (fun q => absurd rfl q)
  · rw [if_neg c]
    exact And.intro (fun _ => hbad (fun q => c q.1)) (fun q => absurd rfl q)
set_option maxRecDepth 100000 in
theorem s_turn_loop (d : Nat) (Q : am_Q) {x1 x2 x3 : Int32} : ∀ (k m : Nat) (σ : Nat → Nat → Int32), m + k = 61 → (Q none (lo_M n w3 g (am_ur σ 10 (fun i => if m ≤ i ∧ i < 61 then σ 10 i + x3 else σ 10 i)) τ r1 r2)) → am_wp (am_d d) T_X5_turn Q (16, [.ref 9, .int x1, .int x2, .int x3, .int (Int32.ofInt (m : Int))], [], 0, 0) (lo_M n w3 g σ τ r1 r2) := by
  intro k
  induction k with
  | zero =>
    intro m σ hm h
    refine am_wp_go (am_d_cm _) (fun pc => Nat.beq pc 16) 60 ?_
    refine And.intro (fun c1 => ?_) (fun c1 => absurd ?_ c1)
    · have e : am_ur σ 10 (fun i => if m ≤ i ∧ i < 61 then σ 10 i + x3 else σ 10 i) = σ := by
        funext c i
        unfold am_ur
        split
        · next hc =>
          dsimp only
          rw [if_neg (by omega), hc]
        · rfl
      rw [e] at h
      exact h
    · show Int32.ofInt 60 < Int32.ofInt (m : Int)
      rw [zlt (by unfold zr; omega) (by unfold zr; omega)]
      omega
  | succ k ih =>
    intro m σ hm h
    refine am_wp_go (am_d_cm _) (fun pc => Nat.beq pc 16) 60 ?_
    refine And.intro (fun c1 => ?_) (fun c1 => ?_)
    · have c1 : Int32.ofInt 60 < Int32.ofInt (m : Int) := c1
      rw [zlt (by unfold zr; omega) (by unfold zr; omega)] at c1
      omega
    · refine ixi m 61 (by omega) ?_
      refine ixi m 61 (by omega) ?_
      show am_wp _ _ _ (16, [.ref 9, .int x1, .int x2, .int x3, .int (Int32.ofInt (m : Int) + Int32.ofInt 1)], [], 0, 0) (lo_M n w3 g (am_u σ 10 m (σ 10 m + x3)) τ r1 r2)
      rw [zadd, show ((m : Int) + 1) = ((m + 1 : Nat) : Int) by omega]
      refine ih (m + 1) _ (by omega) ?_
      have e : am_ur (am_u σ 10 m (σ 10 m + x3)) 10 (fun i => if m + 1 ≤ i ∧ i < 61 then am_u σ 10 m (σ 10 m + x3) 10 i + x3 else am_u σ 10 m (σ 10 m + x3) 10 i) = am_ur σ 10 (fun i => if m ≤ i ∧ i < 61 then σ 10 i + x3 else σ 10 i) := by
        funext c i
        unfold am_ur
        split
        · dsimp only
          rw [am_u_at]
          by_cases e1 : i = m
          · subst e1
            rw [if_neg (by omega), if_pos rfl, if_pos (by omega)]
          · rw [if_neg e1]
            by_cases e2 : m + 1 ≤ i ∧ i < 61
            · rw [if_pos e2, if_pos (by omega)]
            · rw [if_neg e2, if_neg (by omega)]
        · next hc => rw [am_u_ne hc]
      rw [e]
      exact h
set_option maxRecDepth 100000 in
theorem c_rain (d : Nat) (Q : am_Q) {z y : Int} (hz : zr z) (hy : zr y) (hx : IX A B σ)
    (hbad : ¬ ((0 ≤ z ∧ z ≤ 59) ∧ 0 ≤ y ∧ y ≤ 1) → Q (some (.int (Int32.ofInt (-2)))) (lo_M n w3 g σ τ r1 r2))
    (hok : (0 ≤ z ∧ z ≤ 59) ∧ 0 ≤ y ∧ y ≤ 1 → Q (some (.int (Int32.ofInt (A 2 z.toNat : Int)))) (lo_M n w3 g (drp (am_ur σ 10 (fun i => if z.toNat + 1 ≤ i ∧ i < 61 then σ 10 i + (Int32.ofInt y - Int32.ofInt (A 2 z.toNat : Int)) else σ 10 i))) τ r1 r2)) : am_d (d + 3) 57 [.ref 4, .int (Int32.ofInt z), .int (Int32.ofInt y)] 0 0 (lo_M n w3 g σ τ r1 r2) Q := by
  have hR := hx.2.1
  refine am_goT T_X9_rain [.ref 4, .int (Int32.ofInt z), .int (Int32.ofInt y), .null] rfl rfl (fun _ => false) 60 ?_
  refine s_withinZ (d + 1) hz (by unfold zr; omega) (by unfold zr; omega) _ _ ?_
  by_cases c : 0 ≤ z ∧ z ≤ 59
  · rw [if_pos c]
    refine And.intro (fun q => absurd q (by decide)) (fun _ => ?_)
    refine s_withinZ (d + 1) hy (by unfold zr; omega) (by unfold zr; omega) _ _ ?_
    by_cases cy : 0 ≤ y ∧ y ≤ 1
    · rw [if_pos cy]
      refine And.intro (fun q => absurd q (by decide)) (fun _ => ?_)
      have hok := hok ⟨c, cy⟩
      have ez : Int32.ofInt z = Int32.ofInt (z.toNat : Int) := by congr 1; omega
      have ez1 : Int32.ofInt z + Int32.ofInt 1 = Int32.ofInt ((z.toNat + 1 : Nat) : Int) := by rw [zadd]; congr 1; omega
      have eb : σ 10 (z.toNat + 1) - σ 10 z.toNat = Int32.ofInt (A 2 z.toNat : Int) := by
        rw [hR _ (by omega), hR _ (by omega), zsub]
        congr 1
        show ((prz (A 2) z.toNat + A 2 z.toNat : Nat) : Int) - _ = _
        omega
      refine s_between (d + 1) _ _ _ (i := z.toNat) (j := z.toNat + 1) ⟨ez, by omega⟩ ⟨ez1, by omega⟩ ?_
      show am_d (d + 2) 36 [.ref 9, .int (Int32.ofInt z), .int (Int32.ofInt y)] 0 0 _ _
      refine am_goT T_X5_turn [.ref 9, .int (Int32.ofInt z), .int (Int32.ofInt y), .null, .null] rfl rfl (fun pc => Nat.beq pc 16) 60 ?_
      refine s_between d _ _ _ (i := z.toNat) (j := z.toNat + 1) ⟨ez, by omega⟩ ⟨ez1, by omega⟩ ?_
      show am_wp _ _ _ (16, [.ref 9, .int (Int32.ofInt z), .int (Int32.ofInt y), .int (Int32.ofInt y - (σ 10 (z.toNat + 1) - σ 10 z.toNat)), .int (Int32.ofInt z + Int32.ofInt 1)], [], 0, 0) _
      rw [ez1]
      refine s_turn_loop (d + 1) _ (61 - (z.toNat + 1)) (z.toNat + 1) σ (by omega) ?_
      refine s_drop (d + 1) _ ?_
      rw [← eb] at hok
      exact hok
    · rw [if_neg cy]
      exact And.intro (fun _ => hbad (fun q => cy q.2)) (fun q => absurd rfl q)
  · rw [if_neg c]
    exact And.intro (fun _ => hbad (fun q => c q.1)) (fun q => absurd rfl q)
/-- least and most of each setting -/
def leastS : Nat → Int
  | 2 => 1
  | 5 => 1
  | _ => 0
def mostS : Nat → Int
  | 0 => 60
  | 1 => 1
  | 2 => 4
  | 5 => 15
  | _ => 9
set_option maxRecDepth 100000 in
theorem c_set (d : Nat) (Q : am_Q) {z y : Int} (hz : zr z) (hy : zr y) (hx : IX A B σ) (h0 : ∀ i, i < 6 → σ 0 i = Int32.ofInt (leastS i)) (h1 : ∀ i, i < 6 → σ 1 i = Int32.ofInt (mostS i))
    (hbad : ¬ ((0 ≤ z ∧ z ≤ 5) ∧ leastS z.toNat ≤ y ∧ y ≤ mostS z.toNat) → Q (some (.int (Int32.ofInt (-2)))) (lo_M n w3 g σ τ r1 r2))
    (hok : (0 ≤ z ∧ z ≤ 5) ∧ leastS z.toNat ≤ y ∧ y ≤ mostS z.toNat → Q (some (.int (Int32.ofInt (A 3 z.toNat : Int)))) (lo_M n w3 g (drp (am_u σ 12 z.toNat (Int32.ofInt y))) τ r1 r2)) : am_d (d + 3) 58 [.ref 4, .int (Int32.ofInt z), .int (Int32.ofInt y)] 0 0 (lo_M n w3 g σ τ r1 r2) Q := by
  refine am_goT T_X9_set [.ref 4, .int (Int32.ofInt z), .int (Int32.ofInt y), .null] rfl rfl (fun _ => false) 60 ?_
  refine s_withinZ (d + 1) hz (by unfold zr; omega) (by unfold zr; omega) _ _ ?_
  by_cases c : 0 ≤ z ∧ z ≤ 5
  · rw [if_pos c]
    refine And.intro (fun q => absurd q (by decide)) (fun _ => ?_)
    have hl : zr (leastS z.toNat) ∧ zr (mostS z.toNat) := by
      rcases (show z.toNat = 0 ∨ z.toNat = 1 ∨ z.toNat = 2 ∨ z.toNat = 3 ∨ z.toNat = 4 ∨ z.toNat = 5 by omega) with e | e | e | e | e | e <;> rw [e] <;> simp [zr, leastS, mostS]
    refine ixi z.toNat 6 (by omega) ?_ (by congr 1; omega)
    refine ixi z.toNat 6 (by omega) ?_ (by congr 1; omega)
    show am_d (d + 2) 88 [.int (Int32.ofInt y), .int (σ 0 z.toNat), .int (σ 1 z.toNat)] 0 0 _ _
    rw [h0 _ (by omega), h1 _ (by omega)]
    refine s_withinZ (d + 1) hy hl.1 hl.2 _ _ ?_
    by_cases cy : leastS z.toNat ≤ y ∧ y ≤ mostS z.toNat
    · rw [if_pos cy]
      refine And.intro (fun q => absurd q (by decide)) (fun _ => ?_)
      have hok := hok ⟨c, cy⟩
      rw [← hx.2.2.1 z.toNat (by omega)] at hok
      refine ixi z.toNat 6 (by omega) ?_ (by congr 1; omega)
      refine ixi z.toNat 6 (by omega) ?_ (by congr 1; omega)
      refine s_drop (d + 1) (σ := am_u σ 12 z.toNat (Int32.ofInt y)) _ ?_
      exact hok
    · rw [if_neg cy]
      exact And.intro (fun _ => hbad (fun q => cy q.2)) (fun q => absurd rfl q)
  · rw [if_neg c]
    exact And.intro (fun _ => hbad (fun q => c q.1)) (fun q => absurd rfl q)
end TE
