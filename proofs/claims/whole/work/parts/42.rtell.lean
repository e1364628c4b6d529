/-! the reference: what is told -/
/-- nothing told has changed -/
def QF (σ σ' : Nat → Nat → Int32) : Prop := (∀ c, c < 56 ∨ 77 ≤ c → σ' c = σ c) ∧ (∀ c, 57 ≤ c → c < 77 → ¬ rscr c → σ' c = σ c) ∧ ∀ i, i = 4 ∨ i = 6 ∨ i = 19 ∨ i = 27 → σ' 56 i = σ 56 i
theorem QF_refl (σ : Nat → Nat → Int32) : QF σ σ := ⟨fun _ _ => rfl, fun _ _ _ _ => rfl, fun _ _ => rfl⟩
theorem QF_trans {σ σ' σ2 : Nat → Nat → Int32} (h : QF σ σ') (k : QF σ' σ2) : QF σ σ2 := ⟨fun c e => by rw [k.1 c e, h.1 c e], fun c e1 e2 e3 => by rw [k.2.1 c e1 e2 e3, h.2.1 c e1 e2 e3], fun i e => by rw [k.2.2 i e, h.2.2 i e]⟩
theorem QF_rd {σ σ' : Nat → Nat → Int32} (k1 : ∀ c, c ≠ 56 → c ≠ 62 → c ≠ 63 → σ' c = σ c) (k2 : ∀ i, i ≠ 7 → i ≠ 8 → σ' 56 i = σ 56 i) : QF σ σ' := ⟨fun c e => k1 c (by omega) (by omega) (by omega), fun c e1 e2 e3 => k1 c (by omega) (fun q => e3 (by subst q; unfold rscr; omega)) (fun q => e3 (by subst q; unfold rscr; omega)), fun i e => k2 i (by omega) (by omega)⟩
theorem QF_68 {σ σ' : Nat → Nat → Int32} (k1 : ∀ c, c ≠ 68 → σ' c = σ c) : QF σ σ' := ⟨fun c e => k1 c (by omega), fun c e1 e2 e3 => k1 c (fun q => e3 (by subst q; unfold rscr; omega)), fun i e => by rw [k1 56 (by decide)]⟩
theorem IM_QF {A : aN} {B : aZ} {σ σ' : Nat → Nat → Int32} (h : IM A B σ) (k : QF σ σ') : IM A B σ' := IM_fr h k.2.1 k.2.2
theorem RB_rd {A : aN} {B : aZ} {σ σ' : Nat → Nat → Int32} (h : IM A B σ) (k1 : ∀ c, c ≠ 56 → c ≠ 62 → c ≠ 63 → σ' c = σ c) (k3 : RD A σ') : RB A (A 4) σ' := by
  obtain ⟨-, hR, hS, hL, hW, -⟩ := h
  refine ⟨k3, ?_, ?_, ?_, ?_⟩
  · unfold rR; rw [k1 65 (by decide) (by decide) (by decide)]; exact hR
  · unfold rS; rw [k1 66 (by decide) (by decide) (by decide)]; exact hS
  · unfold rL; rw [k1 67 (by decide) (by decide) (by decide)]; exact hL
  · unfold rW; rw [k1 64 (by decide) (by decide) (by decide)]; exact hW
def f_pOf (A : aN) (p : Nat) (y : Int) : Int := if y = 0 then (mn A p : Int) else if y = 1 then (wsh A p : Int) else if y = 2 then (gin A p (A 4 p) : Int) else (prz (A 2) (gin A p (A 4 p)) : Int) - (prz (A 2) (mn A p) : Int)
section RT
variable {n w3 : Nat} {g : Nat → Nat × Nat} {σ : Nat → Nat → Int32} {τ : Nat → Nat → Int64} {r1 r2 : Nat} {A : aN} {B : aZ}
set_option maxRecDepth 100000 in
theorem r_personOf (d : Nat) (Q : am_Q) {p : Nat} {y : Int} (hy : zr y) (hp : p < cnt A) (hwf : WF A B) (hb : RB A (A 4) σ) (h : Q (some (.int (Int32.ofInt (f_pOf A p y)))) (lo_M n w3 g σ τ r1 r2)) : am_d (d + 4) 135 [.ref 56, .int (Int32.ofInt (p : Int)), .int (Int32.ofInt y)] 0 0 (lo_M n w3 g σ τ r1 r2) Q := by
  have hc := cnt_le A
  unfold f_pOf at h
  refine am_goT T_X10_personOf [.ref 56, .int (Int32.ofInt (p : Int)), .int (Int32.ofInt y)] rfl rfl (fun _ => false) 60 ?_
  refine And.intro (fun c1 => ?_) (fun c1 => And.intro (fun c2 => ?_) (fun c2 => And.intro (fun c3 => ?_) (fun c3 => ?_)))
  · rw [zeq0 hy] at c1
    rw [if_pos c1, ← (hb.1.2 p hp).1] at h
    exact ixi p 7 (by omega) h
  · rw [zeq0 hy] at c1
    rw [zeq hy (by unfold zr; omega)] at c2
    rw [if_neg c1, if_pos c2, ← (hb.1.2 p hp).2] at h
    exact ixi p 7 (by omega) h
  · rw [zeq0 hy] at c1
    rw [zeq hy (by unfold zr; omega)] at c2 c3
    rw [if_neg c1, if_neg c2, if_pos c3] at h
    exact r_goesIn (d + 1) _ hp hwf.2.2.2.2.1 hb h
  · rw [zeq0 hy] at c1
    rw [zeq hy (by unfold zr; omega)] at c2 c3
    rw [if_neg c1, if_neg c2, if_neg c3] at h
    exact r_wet d _ hp hwf.2.2.2.2.1 hb h
set_option maxRecDepth 100000 in
theorem q_person (d : Nat) (Q : am_Q) {z y : Int} (hz : zr z) (hy : zr y) (hm : IM A B σ) (hwf : WF A B) (h : ∀ σ', QF σ σ' → Q (some (.int (Int32.ofInt (f_person A z y)))) (lo_M n w3 g σ' τ r1 r2)) : am_d (d + 6) 136 [.ref 56, .int (Int32.ofInt z), .int (Int32.ofInt y)] 0 0 (lo_M n w3 g σ τ r1 r2) Q := by
  refine am_goT T_X10_person [.ref 56, .int (Int32.ofInt z), .int (Int32.ofInt y)] rfl rfl (fun _ => false) 60 ?_
  refine r_isPerson d _ hz hwf hm.1 (fun σ' k1 k2 k3 => ?_)
  have h := h σ' (QF_rd k1 k2)
  unfold f_person at h
  by_cases c : 0 ≤ z ∧ z < cnt A
  · rw [if_pos c]
    refine And.intro (fun q => absurd q (by decide)) (fun _ => ?_)
    refine r_inZ (d + 4) (lo := 0) (hi := 3) hy (by unfold zr; omega) (by unfold zr; omega) _ _ ?_
    by_cases c2 : 0 ≤ y ∧ y ≤ 3
    · rw [if_pos ⟨c, c2⟩] at h
      rw [if_pos c2]
      refine And.intro (fun q => absurd q (by decide)) (fun _ => ?_)
      show am_d (d + 5) 135 [.ref 56, .int (Int32.ofInt z), .int (Int32.ofInt y)] 0 0 _ _
      rw [show Int32.ofInt z = Int32.ofInt (z.toNat : Int) by congr 1; omega]
      exact r_personOf (d + 1) _ hy (by omega) hwf (RB_rd hm k1 k3) h
    · rw [if_neg (fun q => c2 q.2)] at h
      rw [if_neg c2]
      exact And.intro (fun _ => h) (fun q => absurd rfl q)
  · rw [if_neg (fun q => c q.1)] at h
    rw [if_neg c]
    exact And.intro (fun _ => h) (fun q => absurd rfl q)
set_option maxRecDepth 100000 in
theorem r_waits (d : Nat) (Q : am_Q) {z y : Int} {w : Nat → Nat} (hz : zr z) (hy : zr y) (hW : rW w σ)
    (hbad : ¬ ((0 ≤ z ∧ z ≤ 6) ∧ 0 ≤ y ∧ y ≤ 59) → Q (some (.int (Int32.ofInt (-2)))) (lo_M n w3 g σ τ r1 r2))
    (hok : (0 ≤ z ∧ z ≤ 6) ∧ 0 ≤ y ∧ y ≤ 59 → Q (some (.int (Int32.ofInt (w z.toNat : Int)))) (lo_M n w3 g (am_u σ 64 z.toNat (Int32.ofInt y)) τ r1 r2)) : am_d (d + 3) 137 [.ref 56, .int (Int32.ofInt z), .int (Int32.ofInt y)] 0 0 (lo_M n w3 g σ τ r1 r2) Q := by
  refine am_goT T_X10_waits [.ref 56, .int (Int32.ofInt z), .int (Int32.ofInt y), .null] rfl rfl (fun _ => false) 60 ?_
  refine r_isSeven d hz _ _ ?_
  by_cases c : 0 ≤ z ∧ z ≤ 6
  · rw [if_pos c]
    refine And.intro (fun q => absurd q (by decide)) (fun _ => ?_)
    refine r_inZ (d + 1) (lo := 0) (hi := 59) hy (by unfold zr; omega) (by unfold zr; omega) _ _ ?_
    by_cases c2 : 0 ≤ y ∧ y ≤ 59
    · rw [if_pos c2]
      refine And.intro (fun q => absurd q (by decide)) (fun _ => ?_)
      have hok := hok ⟨c, c2⟩
      rw [← hW z.toNat (by omega)] at hok
      refine ixi z.toNat 7 (by omega) ?_ (by congr 1; omega)
      refine ixi z.toNat 7 (by omega) ?_ (by congr 1; omega)
      exact hok
    · rw [if_neg c2]
      exact And.intro (fun _ => hbad (fun q => c2 q.2)) (fun q => absurd rfl q)
  · rw [if_neg c]
    exact And.intro (fun _ => hbad (fun q => c q.1)) (fun q => absurd rfl q)
set_option maxRecDepth 100000 in
theorem r_rain (d : Nat) (Q : am_Q) {z y : Int} (hz : zr z) (hy : zr y) (hm : IM A B σ)
    (hbad : ¬ ((0 ≤ z ∧ z ≤ 59) ∧ 0 ≤ y ∧ y ≤ 1) → Q (some (.int (Int32.ofInt (-2)))) (lo_M n w3 g σ τ r1 r2))
    (hok : (0 ≤ z ∧ z ≤ 59) ∧ 0 ≤ y ∧ y ≤ 1 → Q (some (.int (Int32.ofInt (A 2 z.toNat : Int)))) (lo_M n w3 g (am_u σ 65 z.toNat (Int32.ofInt y)) τ r1 r2)) : am_d (d + 3) 138 [.ref 56, .int (Int32.ofInt z), .int (Int32.ofInt y)] 0 0 (lo_M n w3 g σ τ r1 r2) Q := by
  refine am_goT T_X10_rain [.ref 56, .int (Int32.ofInt z), .int (Int32.ofInt y), .null] rfl rfl (fun _ => false) 60 ?_
  refine r_inZ (d + 1) (lo := 0) (hi := 59) hz (by unfold zr; omega) (by unfold zr; omega) _ _ ?_
  by_cases c : 0 ≤ z ∧ z ≤ 59
  · rw [if_pos c]
    refine And.intro (fun q => absurd q (by decide)) (fun _ => ?_)
    refine r_isTwo d hy _ _ ?_
    by_cases c2 : 0 ≤ y ∧ y ≤ 1
    · rw [if_pos c2]
      refine And.intro (fun q => absurd q (by decide)) (fun _ => ?_)
      have hok := hok ⟨c, c2⟩
      rw [← hm.2.1 z.toNat (by omega)] at hok
      refine ixi z.toNat 60 (by omega) ?_ (by congr 1; omega)
      refine ixi z.toNat 60 (by omega) ?_ (by congr 1; omega)
      exact hok
    · rw [if_neg c2]
      exact And.intro (fun _ => hbad (fun q => c2 q.2)) (fun q => absurd rfl q)
  · rw [if_neg c]
    exact And.intro (fun _ => hbad (fun q => c q.1)) (fun q => absurd rfl q)
theorem leastS_eq (i : Nat) (h : i < 6) : leastS i = if i = 2 ∨ i = 5 then 1 else 0 := by
  have : ∀ i : Nat, i < 6 → leastS i = if i = 2 ∨ i = 5 then 1 else 0 := by decide
  exact this i h
theorem mostS_eq (i : Nat) (h : i < 6) : mostS i = if i = 0 then 60 else if i = 1 then 1 else if i = 2 then 4 else if i = 5 then 15 else 9 := by
  have : ∀ i : Nat, i < 6 → mostS i = if i = 0 then 60 else if i = 1 then 1 else if i = 2 then 4 else if i = 5 then 15 else 9 := by decide
  exact this i h
set_option maxRecDepth 100000 in
theorem r_lowOf (d : Nat) {i : Nat} (hi : i < 6) (M : am_M) (Q : am_Q) (h : Q (some (.int (Int32.ofInt (leastS i)))) M) : am_d (d + 1) 139 [.int (Int32.ofInt (i : Int))] 0 0 M Q := by
  rw [leastS_eq i hi] at h
  refine am_goT T_X10_lowOf [.int (Int32.ofInt (i : Int))] rfl rfl (fun _ => false) 60 ?_
  refine And.intro (fun c1 => ?_) (fun c1 => And.intro (fun c2 => ?_) (fun c2 => ?_))
  · rw [zeq (by unfold zr; omega) (by unfold zr; omega)] at c1
    rw [if_pos (by omega)] at h
    exact h
  · rw [zeq (by unfold zr; omega) (by unfold zr; omega)] at c1 c2
    rw [if_pos (by omega)] at h
    exact h
  · rw [zeq (by unfold zr; omega) (by unfold zr; omega)] at c1 c2
    rw [if_neg (by omega)] at h
    exact h
set_option maxRecDepth 100000 in
theorem r_highOf (d : Nat) {i : Nat} (hi : i < 6) (M : am_M) (Q : am_Q) (h : Q (some (.int (Int32.ofInt (mostS i)))) M) : am_d (d + 1) 140 [.int (Int32.ofInt (i : Int))] 0 0 M Q := by
  rw [mostS_eq i hi] at h
  refine am_goT T_X10_highOf [.int (Int32.ofInt (i : Int))] rfl rfl (fun _ => false) 60 ?_
  refine And.intro (fun c1 => ?_) (fun c1 => And.intro (fun c2 => ?_) (fun c2 => And.intro (fun c3 => ?_) (fun c3 => And.intro (fun c4 => ?_) (fun c4 => ?_))))
  · rw [zeq0 (by unfold zr; omega)] at c1
    rw [if_pos (by omega)] at h
    exact h
  · rw [zeq0 (by unfold zr; omega)] at c1
    rw [zeq (by unfold zr; omega) (by unfold zr; omega)] at c2
    rw [if_neg (by omega), if_pos (by omega)] at h
    exact h
  · rw [zeq0 (by unfold zr; omega)] at c1
    rw [zeq (by unfold zr; omega) (by unfold zr; omega)] at c2 c3
    rw [if_neg (by omega), if_neg (by omega), if_pos (by omega)] at h
    exact h
  · rw [zeq0 (by unfold zr; omega)] at c1
    rw [zeq (by unfold zr; omega) (by unfold zr; omega)] at c2 c3 c4
    rw [if_neg (by omega), if_neg (by omega), if_neg (by omega), if_pos (by omega)] at h
    exact h
  · rw [zeq0 (by unfold zr; omega)] at c1
    rw [zeq (by unfold zr; omega) (by unfold zr; omega)] at c2 c3 c4
    rw [if_neg (by omega), if_neg (by omega), if_neg (by omega), if_neg (by omega)] at h
    exact h
theorem lm_rng {i : Nat} (hi : i < 6) : 0 ≤ leastS i ∧ leastS i ≤ 100 ∧ 0 ≤ mostS i ∧ mostS i ≤ 100 := by
  have : ∀ i : Nat, i < 6 → 0 ≤ leastS i ∧ leastS i ≤ 100 ∧ 0 ≤ mostS i ∧ mostS i ≤ 100 := by decide
  exact this i hi
set_option maxRecDepth 100000 in
theorem r_set (d : Nat) (Q : am_Q) {z y : Int} (hz : zr z) (hy : zr y) (hm : IM A B σ)
    (hbad : ¬ ((0 ≤ z ∧ z ≤ 5) ∧ leastS z.toNat ≤ y ∧ y ≤ mostS z.toNat) → Q (some (.int (Int32.ofInt (-2)))) (lo_M n w3 g σ τ r1 r2))
    (hok : (0 ≤ z ∧ z ≤ 5) ∧ leastS z.toNat ≤ y ∧ y ≤ mostS z.toNat → Q (some (.int (Int32.ofInt (A 3 z.toNat : Int)))) (lo_M n w3 g (am_u σ 66 z.toNat (Int32.ofInt y)) τ r1 r2)) : am_d (d + 3) 141 [.ref 56, .int (Int32.ofInt z), .int (Int32.ofInt y)] 0 0 (lo_M n w3 g σ τ r1 r2) Q := by
  refine am_goT T_X10_set [.ref 56, .int (Int32.ofInt z), .int (Int32.ofInt y), .null] rfl rfl (fun _ => false) 60 ?_
  refine r_inZ (d + 1) (lo := 0) (hi := 5) hz (by unfold zr; omega) (by unfold zr; omega) _ _ ?_
  by_cases c : 0 ≤ z ∧ z ≤ 5
  · rw [if_pos c]
    refine And.intro (fun q => absurd q (by decide)) (fun _ => ?_)
    have ez : Int32.ofInt z = Int32.ofInt (z.toNat : Int) := by congr 1; omega
    have hi : z.toNat < 6 := by omega
    have lm := lm_rng hi
    show am_d (d + 2) 139 [.int (Int32.ofInt z)] 0 0 _ _
    rw [ez]
    refine r_lowOf (d + 1) hi _ _ ?_
    refine r_highOf (d + 1) hi _ _ ?_
    show am_d (d + 2) 109 [.long (Int32.ofInt y).toInt64, .long (Int32.ofInt (leastS z.toNat)).toInt64, .long (Int32.ofInt (mostS z.toNat)).toInt64] 0 0 _ _
    rw [yofz (a := leastS z.toNat) (by unfold zr; omega)]
    refine r_inI (d + 1) hy (by unfold zr; omega) (by unfold zr; omega) _ _ ?_
    by_cases c2 : leastS z.toNat ≤ y ∧ y ≤ mostS z.toNat
    · rw [if_pos c2]
      refine And.intro (fun q => absurd q (by decide)) (fun _ => ?_)
      have hok := hok ⟨c, c2⟩
      rw [← hm.2.2.1 z.toNat (by omega)] at hok
      refine ixi z.toNat 6 (by omega) ?_
      refine ixi z.toNat 6 (by omega) ?_
      exact hok
    · rw [if_neg c2]
      exact And.intro (fun _ => hbad (fun q => c2 q.2)) (fun q => absurd rfl q)
  · rw [if_neg c]
    exact And.intro (fun _ => hbad (fun q => c q.1)) (fun q => absurd rfl q)
set_option maxHeartbeats 1000000 in
set_option maxRecDepth 100000 in
theorem r_love (d : Nat) (Q : am_Q) {z y v : Int} (hz : zr z) (hy : zr y) (hv : zr v) (hm : IM A B σ)
    (hbad : ¬ ((0 ≤ z ∧ z ≤ 6) ∧ (0 ≤ y ∧ y ≤ 6) ∧ z ≠ y ∧ 0 ≤ v ∧ v ≤ 20) → Q (some (.int (Int32.ofInt (-2)))) (lo_M n w3 g σ τ r1 r2))
    (hok : (0 ≤ z ∧ z ≤ 6) ∧ (0 ≤ y ∧ y ≤ 6) ∧ z ≠ y ∧ 0 ≤ v ∧ v ≤ 20 → Q (some (.int (Int32.ofInt (A (20 + z.toNat) y.toNat : Int)))) (lo_M n w3 g (am_u (am_u σ 67 (7 * z.toNat + y.toNat) (Int32.ofInt v)) 67 (7 * y.toNat + z.toNat) (Int32.ofInt v)) τ r1 r2)) : am_d (d + 3) 142 [.ref 56, .int (Int32.ofInt z), .int (Int32.ofInt y), .int (Int32.ofInt v)] 0 0 (lo_M n w3 g σ τ r1 r2) Q := by
  refine am_goT T_X10_love [.ref 56, .int (Int32.ofInt z), .int (Int32.ofInt y), .int (Int32.ofInt v), .null] rfl rfl (fun _ => false) 80 ?_
  refine r_isSeven d hz _ _ ?_
  by_cases c : 0 ≤ z ∧ z ≤ 6
  · rw [if_pos c]
    refine And.intro (fun q => absurd q (by decide)) (fun _ => ?_)
    refine r_isSeven d hy _ _ ?_
    by_cases c2 : 0 ≤ y ∧ y ≤ 6
    · rw [if_pos c2]
      refine And.intro (fun q => absurd q (by decide)) (fun _ => ?_)
      refine And.intro (fun c3 => ?_) (fun c3 => ?_)
      · rw [zeq hz hy] at c3
        exact hbad (fun q => q.2.2.1 c3)
      · rw [zeq hz hy] at c3
        refine r_inZ (d + 1) (lo := 0) (hi := 20) hv (by unfold zr; omega) (by unfold zr; omega) _ _ ?_
        by_cases c4 : 0 ≤ v ∧ v ≤ 20
        · rw [if_pos c4]
          refine And.intro (fun q => absurd q (by decide)) (fun _ => ?_)
          have hok := hok ⟨c, c2, c3, c4⟩
          rw [← hm.2.2.2.1 z.toNat (by omega) y.toNat (by omega)] at hok
          refine ixi (7 * z.toNat + y.toNat) 49 (by omega) ?_ (by rw [zmul, zadd]; congr 1; omega)
          refine ixi (7 * z.toNat + y.toNat) 49 (by omega) ?_ (by rw [zmul, zadd]; congr 1; omega)
          refine ixi (7 * y.toNat + z.toNat) 49 (by omega) ?_ (by rw [zmul, zadd]; congr 1; omega)
          exact hok
        · rw [if_neg c4]
          exact And.intro (fun _ => hbad (fun q => c4 q.2.2.2)) (fun q => absurd rfl q)
    · rw [if_neg c2]
      exact And.intro (fun _ => hbad (fun q => c2 q.2.1)) (fun q => absurd rfl q)
  · rw [if_neg c]
    exact And.intro (fun _ => hbad (fun q => c q.1)) (fun q => absurd rfl q)
set_option maxRecDepth 100000 in
theorem r_type (d : Nat) (Q : am_Q) {z : Int} (hz : zr z) (hm : IM A B σ) (hwf : WF A B)
    (hbad : ¬ (0 ≤ z ∧ z ≤ 255) → Q (some (.int (Int32.ofInt (-2)))) (lo_M n w3 g σ τ r1 r2))
    (hfull : (0 ≤ z ∧ z ≤ 255) → 40 ≤ A 0 0 → Q (some (.int (Int32.ofInt (-4)))) (lo_M n w3 g σ τ r1 r2))
    (hok : (0 ≤ z ∧ z ≤ 255) → A 0 0 < 40 → Q (some (.int (Int32.ofInt ((A 0 0 + 1 : Nat) : Int)))) (lo_M n w3 g (am_u (am_u σ 61 (A 0 0) (Int32.ofInt z)) 56 6 (Int32.ofInt ((A 0 0 + 1 : Nat) : Int))) τ r1 r2)) : am_d (d + 2) 123 [.ref 56, .int (Int32.ofInt z)] 0 0 (lo_M n w3 g σ τ r1 r2) Q := by
  have h40 := hwf.1
  have t1 := hm.1.1
  refine am_goT T_X10_type [.ref 56, .int (Int32.ofInt z)] rfl rfl (fun _ => false) 60 ?_
  refine r_inZ d (lo := 0) (hi := 255) hz (by unfold zr; omega) (by unfold zr; omega) _ _ ?_
  by_cases c : 0 ≤ z ∧ z ≤ 255
  · rw [if_pos c]
    refine And.intro (fun q => absurd q (by decide)) (fun _ => ?_)
    refine And.intro (fun c1 => ?_) (fun c1 => ?_)
    · have c1 : σ 56 6 = Int32.ofInt 40 := c1
      rw [t1, zeq (by unfold zr; omega) (by unfold zr; omega)] at c1
      exact hfull c (by omega)
    · have c1 : ¬ σ 56 6 = Int32.ofInt 40 := c1
      rw [t1, zeq (by unfold zr; omega) (by unfold zr; omega)] at c1
      have hok := hok c (by omega)
      rw [show ((A 0 0 + 1 : Nat) : Int) = (A 0 0 : Int) + 1 by omega, ← zadd, ← t1] at hok
      refine ixi (A 0 0) 40 (by omega) ?_ t1
      exact hok
  · rw [if_neg c]
    exact And.intro (fun _ => hbad c) (fun q => absurd rfl q)
set_option maxRecDepth 100000 in
theorem r_wipe (d : Nat) (Q : am_Q) (hm : IM A B σ) (h : Q (some (.int (Int32.ofInt (A 0 0 : Int)))) (lo_M n w3 g (am_u σ 56 6 (Int32.ofInt 0)) τ r1 r2)) : am_d (d + 1) 124 [.ref 56] 0 0 (lo_M n w3 g σ τ r1 r2) Q := by
  rw [← hm.1.1] at h
  exact am_goT T_X10_wipe [.ref 56, .null] rfl rfl (fun _ => false) 60 h
set_option maxRecDepth 100000 in
theorem r_forget (d : Nat) (Q : am_Q) (hm : IM A B σ) (h : Q (some (.int (Int32.ofInt (A 0 1 : Int)))) (lo_M n w3 g (am_u σ 56 19 (Int32.ofInt 0)) τ r1 r2)) : am_d (d + 1) 172 [.ref 56] 0 0 (lo_M n w3 g σ τ r1 r2) Q := by
  rw [← hm.2.2.2.2.2.1.1] at h
  exact am_goT T_X10_forget [.ref 56, .null] rfl rfl (fun _ => false) 60 h
def tlM (σ : Nat → Nat → Int32) (f : Nat) (k a b : Int32) : Nat → Nat → Int32 := am_u (am_u (am_u (am_u σ 70 (3 * f) k) 70 (3 * f + 1) a) 70 (3 * f + 2) b) 56 19 (Int32.ofInt ((f + 1 : Nat) : Int))
set_option maxRecDepth 100000 in
theorem r_tells (d : Nat) (Q : am_Q) {k a b : Int32} (hm : IM A B σ) (hwf : WF A B)
    (hfull : A 0 1 = 8 → Q (some (.int (Int32.ofInt (-4)))) (lo_M n w3 g σ τ r1 r2))
    (hok : A 0 1 < 8 → Q (some (.int (Int32.ofInt ((A 0 1 + 1 : Nat) : Int)))) (lo_M n w3 g (tlM σ (A 0 1) k a b) τ r1 r2)) : am_d (d + 1) 169 [.ref 56, .int k, .int a, .int b] 0 0 (lo_M n w3 g σ τ r1 r2) Q := by
  have h8 := hwf.2.2.2.2.2.2.2.1
  have t1 := hm.2.2.2.2.2.1.1
  refine am_goT T_X10_tells [.ref 56, .int k, .int a, .int b] rfl rfl (fun _ => false) 80 ?_
  refine And.intro (fun c1 => ?_) (fun c1 => ?_)
  · have c1 : σ 56 19 = Int32.ofInt 8 := c1
    rw [t1, zeq (by unfold zr; omega) (by unfold zr; omega)] at c1
    exact hfull (by omega)
  · have c1 : ¬ σ 56 19 = Int32.ofInt 8 := c1
    rw [t1, zeq (by unfold zr; omega) (by unfold zr; omega)] at c1
    have hok := hok (by omega)
    unfold tlM at hok
    rw [show ((A 0 1 + 1 : Nat) : Int) = (A 0 1 : Int) + 1 by omega, ← zadd, ← t1] at hok
    have e0 : Int32.ofInt 3 * σ 56 19 = Int32.ofInt ((3 * A 0 1 : Nat) : Int) := by
      rw [t1, zmul]
      congr 1
    refine ixi (3 * A 0 1) 24 (by omega) ?_ e0
    refine ixi (3 * A 0 1 + 1) 24 (by omega) ?_ (by
      show Int32.ofInt 3 * σ 56 19 + Int32.ofInt 1 = _
      rw [e0, zadd]
      congr 1)
    refine ixi (3 * A 0 1 + 2) 24 (by omega) ?_ (by
      show Int32.ofInt 3 * σ 56 19 + Int32.ofInt 2 = _
      rw [e0, zadd]
      congr 1)
    exact hok
set_option maxRecDepth 100000 in
theorem r_sat (d : Nat) (Q : am_Q) {z y : Int} (hz : zr z) (hy : zr y) (hm : IM A B σ) (hwf : WF A B)
    (hbad : ¬ ((0 ≤ z ∧ z ≤ 6) ∧ 0 ≤ y ∧ y ≤ 6) → Q (some (.int (Int32.ofInt (-2)))) (lo_M n w3 g σ τ r1 r2))
    (hfull : (0 ≤ z ∧ z ≤ 6) ∧ 0 ≤ y ∧ y ≤ 6 → A 0 1 = 8 → Q (some (.int (Int32.ofInt (-4)))) (lo_M n w3 g σ τ r1 r2))
    (hok : (0 ≤ z ∧ z ≤ 6) ∧ 0 ≤ y ∧ y ≤ 6 → A 0 1 < 8 → Q (some (.int (Int32.ofInt ((A 0 1 + 1 : Nat) : Int)))) (lo_M n w3 g (tlM σ (A 0 1) (Int32.ofInt 0) (Int32.ofInt z) (Int32.ofInt y)) τ r1 r2)) : am_d (d + 3) 170 [.ref 56, .int (Int32.ofInt z), .int (Int32.ofInt y)] 0 0 (lo_M n w3 g σ τ r1 r2) Q := by
  refine am_goT T_X10_sat [.ref 56, .int (Int32.ofInt z), .int (Int32.ofInt y)] rfl rfl (fun _ => false) 60 ?_
  refine r_isSeven d hz _ _ ?_
  by_cases c : 0 ≤ z ∧ z ≤ 6
  · rw [if_pos c]
    refine And.intro (fun q => absurd q (by decide)) (fun _ => ?_)
    refine r_isSeven d hy _ _ ?_
    by_cases c2 : 0 ≤ y ∧ y ≤ 6
    · rw [if_pos c2]
      refine And.intro (fun q => absurd q (by decide)) (fun _ => ?_)
      exact r_tells (d + 1) _ hm hwf (fun e => hfull ⟨c, c2⟩ e) (fun e => hok ⟨c, c2⟩ e)
    · rw [if_neg c2]
      exact And.intro (fun _ => hbad (fun q => c2 q.2)) (fun q => absurd rfl q)
  · rw [if_neg c]
    exact And.intro (fun _ => hbad (fun q => c q.1)) (fun q => absurd rfl q)
set_option maxRecDepth 100000 in
theorem r_front (d : Nat) (Q : am_Q) {z y : Int} (hz : zr z) (hy : zr y) (hm : IM A B σ) (hwf : WF A B)
    (hbad : ¬ ((0 ≤ z ∧ z ≤ 6) ∧ (0 ≤ y ∧ y ≤ 6) ∧ z ≠ y) → Q (some (.int (Int32.ofInt (-2)))) (lo_M n w3 g σ τ r1 r2))
    (hfull : (0 ≤ z ∧ z ≤ 6) ∧ (0 ≤ y ∧ y ≤ 6) ∧ z ≠ y → A 0 1 = 8 → Q (some (.int (Int32.ofInt (-4)))) (lo_M n w3 g σ τ r1 r2))
    (hok : (0 ≤ z ∧ z ≤ 6) ∧ (0 ≤ y ∧ y ≤ 6) ∧ z ≠ y → A 0 1 < 8 → Q (some (.int (Int32.ofInt ((A 0 1 + 1 : Nat) : Int)))) (lo_M n w3 g (tlM σ (A 0 1) (Int32.ofInt 1) (Int32.ofInt z) (Int32.ofInt y)) τ r1 r2)) : am_d (d + 3) 171 [.ref 56, .int (Int32.ofInt z), .int (Int32.ofInt y)] 0 0 (lo_M n w3 g σ τ r1 r2) Q := by
  refine am_goT T_X10_front [.ref 56, .int (Int32.ofInt z), .int (Int32.ofInt y)] rfl rfl (fun _ => false) 60 ?_
  refine r_isSeven d hz _ _ ?_
  by_cases c : 0 ≤ z ∧ z ≤ 6
  · rw [if_pos c]
    refine And.intro (fun q => absurd q (by decide)) (fun _ => ?_)
    refine r_isSeven d hy _ _ ?_
    by_cases c2 : 0 ≤ y ∧ y ≤ 6
    · rw [if_pos c2]
      refine And.intro (fun q => absurd q (by decide)) (fun _ => ?_)
      refine And.intro (fun c3 => ?_) (fun c3 => ?_)
      · rw [zeq hz hy] at c3
        exact hbad (fun q => q.2.2 c3)
      · rw [zeq hz hy] at c3
        exact r_tells (d + 1) _ hm hwf (fun e => hfull ⟨c, c2, c3⟩ e) (fun e => hok ⟨c, c2, c3⟩ e)
    · rw [if_neg c2]
      exact And.intro (fun _ => hbad (fun q => c2 q.2.1)) (fun q => absurd rfl q)
  · rw [if_neg c]
    exact And.intro (fun _ => hbad (fun q => c q.1)) (fun q => absurd rfl q)
def rsM (σ : Nat → Nat → Int32) (p : Nat) (y : Int32) : Nat → Nat → Int32 := am_u (am_u (am_u σ 56 27 (σ 56 27 + Int32.ofInt 1)) 75 p (σ 75 p + Int32.ofInt 1)) 76 p (σ 76 p + y)
set_option maxRecDepth 100000 in
theorem r_sunday (d : Nat) (Q : am_Q) {z y : Int} (hz : zr z) (hy : zr y) (hm : IM A B σ) (hwf : WF A B)
    (hbad : ¬ ((0 ≤ z ∧ z ≤ 6) ∧ 0 ≤ y ∧ y ≤ 1) → Q (some (.int (Int32.ofInt (-2)))) (lo_M n w3 g σ τ r1 r2))
    (hfull : (0 ≤ z ∧ z ≤ 6) ∧ 0 ≤ y ∧ y ≤ 1 → A 0 2 = 60 → Q (some (.int (Int32.ofInt (-4)))) (lo_M n w3 g σ τ r1 r2))
    (hok : (0 ≤ z ∧ z ≤ 6) ∧ 0 ≤ y ∧ y ≤ 1 → A 0 2 < 60 → Q (some (.int (Int32.ofInt ((A 8 z.toNat + 1 : Nat) : Int)))) (lo_M n w3 g (rsM σ z.toNat (Int32.ofInt y)) τ r1 r2)) : am_d (d + 3) 187 [.ref 56, .int (Int32.ofInt z), .int (Int32.ofInt y)] 0 0 (lo_M n w3 g σ τ r1 r2) Q := by
  have h60 : A 0 2 ≤ 60 := hwf.2.2.2.2.2.2.2.2.2.1
  have t1 := hm.2.2.2.2.2.2.1.1
  refine am_goT T_X10_sunday [.ref 56, .int (Int32.ofInt z), .int (Int32.ofInt y)] rfl rfl (fun _ => false) 80 ?_
  refine r_isSeven d hz _ _ ?_
  by_cases c : 0 ≤ z ∧ z ≤ 6
  · rw [if_pos c]
    refine And.intro (fun q => absurd q (by decide)) (fun _ => ?_)
    refine r_isTwo d hy _ _ ?_
    by_cases c2 : 0 ≤ y ∧ y ≤ 1
    · rw [if_pos c2]
      refine And.intro (fun q => absurd q (by decide)) (fun _ => ?_)
      refine And.intro (fun c1 => ?_) (fun c1 => ?_)
      · have c1 : σ 56 27 = Int32.ofInt 60 := c1
        rw [t1, zeq (by unfold zr; omega) (by unfold zr; omega)] at c1
        exact hfull ⟨c, c2⟩ (by omega)
      · have c1 : ¬ σ 56 27 = Int32.ofInt 60 := c1
        rw [t1, zeq (by unfold zr; omega) (by unfold zr; omega)] at c1
        have hok := hok ⟨c, c2⟩ (by omega)
        have t2 := (hm.2.2.2.2.2.2.1.2 z.toNat (by omega)).1
        have ez : Int32.ofInt z = Int32.ofInt (z.toNat : Int) := by congr 1; omega
        refine ixi z.toNat 7 (by omega) ?_ ez
        refine ixi z.toNat 7 (by omega) ?_ ez
        refine ixi z.toNat 7 (by omega) ?_ ez
        refine ixi z.toNat 7 (by omega) ?_ ez
        refine ixi z.toNat 7 (by omega) ?_ ez
        show Q (some (.int (rsM σ z.toNat (Int32.ofInt y) 75 z.toNat))) (lo_M n w3 g (rsM σ z.toNat (Int32.ofInt y)) τ r1 r2)
        rw [show rsM σ z.toNat (Int32.ofInt y) 75 z.toNat = Int32.ofInt ((A 8 z.toNat + 1 : Nat) : Int) by
          unfold rsM
          rw [am_u_ne (by decide), am_u_at, if_pos rfl, t2, zadd]
          congr 1]
        exact hok
    · rw [if_neg c2]
      exact And.intro (fun _ => hbad (fun q => c2 q.2)) (fun q => absurd rfl q)
  · rw [if_neg c]
    exact And.intro (fun _ => hbad (fun q => c q.1)) (fun q => absurd rfl q)
end RT
