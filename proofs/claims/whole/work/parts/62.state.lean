/-! the class's state between calls -/
/-- how long the rows of what each has may be -/
def WS (W1 W2 : Nat) : Prop := (∃ m, m ≤ 6 ∧ W1 = 4 ^ m * m) ∧ ∃ m, m ≤ 7 ∧ W2 = 2 ^ m * m
def CS (A : aN) (B : aZ) (n w3 : Nat) (g : Nat → Nat × Nat) (σ : Nat → Nat → Int32) (r1 r2 W1 W2 : Nat) : Prop := IX A B σ ∧ LZ n w3 g r1 r2 W1 W2 ∧ WS W1 W2 ∧ (σ 29 0 = Int32.ofInt 2 ∧ σ 29 1 = Int32.ofInt 3 ∧ σ 32 0 = Int32.ofInt 1 ∧ σ 32 1 = Int32.ofInt 1) ∧ (σ 4 14 = Int32.ofInt 0 ∨ σ 4 14 = Int32.ofInt 1 ∧ KR A σ ∧ 4 ^ cnt A * cnt A ≤ W1) ∧ (σ 4 15 = Int32.ofInt 0 ∨ σ 4 15 = Int32.ofInt 1 ∧ KC A σ ∧ 2 ^ cnt A * cnt A ≤ W2) ∧ (σ 4 16 = Int32.ofInt 0 ∨ σ 4 16 = Int32.ofInt 1 ∧ KO A σ)
/-- static rows, script and reference are as they were -/
def CF (σ σ' : Nat → Nat → Int32) : Prop := ∀ c, c < 4 ∨ (56 ≤ c ∧ c < 77) → σ' c = σ c
theorem CF_refl (σ : Nat → Nat → Int32) : CF σ σ := fun _ _ => rfl
theorem CF_trans {σ σ' σ2 : Nat → Nat → Int32} (h : CF σ σ') (k : CF σ' σ2) : CF σ σ2 := fun c e => by rw [k c e, h c e]
/-- cells and slots of rest and churches, and the rows' lengths behind them -/
def rC (A : aN) (W : Nat) : Nat := if cnt A ≤ 6 ∧ W < 4 ^ cnt A * cnt A then 1 else 0
def rS' (A : aN) (W : Nat) : Nat := if cnt A ≤ 6 ∧ W < 4 ^ cnt A * cnt A then 4 ^ cnt A * cnt A else 0
def rWd (A : aN) (W : Nat) : Nat := if cnt A ≤ 6 then max W (4 ^ cnt A * cnt A) else W
def cC (A : aN) (W : Nat) : Nat := if W < 2 ^ cnt A * cnt A then 1 else 0
def cS' (A : aN) (W : Nat) : Nat := if W < 2 ^ cnt A * cnt A then 2 ^ cnt A * cnt A else 0
def cWd (A : aN) (W : Nat) : Nat := max W (2 ^ cnt A * cnt A)
theorem rC_idem (A : aN) (W : Nat) : rC A (rWd A W) = 0 ∧ rS' A (rWd A W) = 0 ∧ rWd A (rWd A W) = rWd A W := by
  unfold rC rS' rWd
  by_cases c : cnt A ≤ 6
  · rw [if_pos c, if_neg (fun q => by have := q.2; omega), if_neg (fun q => by have := q.2; omega), if_pos c]
    omega
  · rw [if_neg c, if_neg (fun q => c q.1), if_neg (fun q => c q.1), if_neg c]
    exact ⟨rfl, rfl, rfl⟩
theorem cC_idem (A : aN) (W : Nat) : cC A (cWd A W) = 0 ∧ cS' A (cWd A W) = 0 ∧ cWd A (cWd A W) = cWd A W := by
  unfold cC cS' cWd
  rw [if_neg (by omega), if_neg (by omega)]
  omega
/-- what may still be made -/
def PT (W1 W2 : Nat) : Nat := (24576 - W1) + (896 - W2)
theorem two4 : ∀ m : Nat, m < 7 → ∀ k : Nat, k < 7 → 4 ^ k * k ≤ 24576 ∧ (4 ^ m * m < 4 ^ k * k → 2 * (4 ^ m * m) ≤ 4 ^ k * k) := by decide +kernel
theorem two2 : ∀ m : Nat, m < 8 → ∀ k : Nat, k < 8 → 2 ^ k * k ≤ 896 ∧ (2 ^ m * m < 2 ^ k * k → 2 * (2 ^ m * m) ≤ 2 ^ k * k) := by decide +kernel
theorem WS_r {A : aN} {W1 W2 : Nat} (h : WS W1 W2) : WS (rWd A W1) W2 ∧ rC A W1 + PT (rWd A W1) W2 ≤ PT W1 W2 ∧ rS' A W1 + 2 * PT (rWd A W1) W2 ≤ 2 * PT W1 W2 := by
  obtain ⟨⟨m, hm, e⟩, h2⟩ := h
  unfold rC rS' rWd PT
  by_cases c : cnt A ≤ 6
  · obtain ⟨t1, t2⟩ := two4 m (by omega) (cnt A) (by omega)
    rw [← e] at t2
    generalize hX : 4 ^ cnt A * cnt A = X at *
    rw [if_pos c]
    by_cases c2 : W1 < X
    · have t2 := t2 c2
      rw [if_pos ⟨c, c2⟩, if_pos ⟨c, c2⟩, show max W1 X = X by omega]
      exact ⟨⟨⟨cnt A, c, hX.symm⟩, h2⟩, by omega, by omega⟩
    · rw [if_neg (fun q => c2 q.2), if_neg (fun q => c2 q.2), show max W1 X = W1 by omega]
      exact ⟨⟨⟨m, hm, e⟩, h2⟩, by omega, by omega⟩
  · rw [if_neg c, if_neg (fun q => c q.1), if_neg (fun q => c q.1)]
    exact ⟨⟨⟨m, hm, e⟩, h2⟩, by omega, by omega⟩
theorem WS_c {A : aN} {W1 W2 : Nat} (h : WS W1 W2) : WS W1 (cWd A W2) ∧ cC A W2 + PT W1 (cWd A W2) ≤ PT W1 W2 ∧ cS' A W2 + 2 * PT W1 (cWd A W2) ≤ 2 * PT W1 W2 := by
  obtain ⟨h1, ⟨m, hm, e⟩⟩ := h
  have hc := cnt_le A
  unfold cC cS' cWd PT
  obtain ⟨t1, t2⟩ := two2 m (by omega) (cnt A) (by omega)
  rw [← e] at t2
  generalize hX : 2 ^ cnt A * cnt A = X at *
  by_cases c2 : W2 < X
  · have t2 := t2 c2
    rw [if_pos c2, if_pos c2, show max W2 X = X by omega]
    exact ⟨⟨h1, ⟨cnt A, hc, hX.symm⟩⟩, by omega, by omega⟩
  · rw [if_neg c2, if_neg c2, show max W2 X = W2 by omega]
    exact ⟨⟨h1, ⟨m, hm, e⟩⟩, by omega, by omega⟩
section CSS
variable {n w3 : Nat} {g : Nat → Nat × Nat} {σ : Nat → Nat → Int32} {τ : Nat → Nat → Int64} {r1 r2 W1 W2 : Nat} {A : aN} {B : aZ}
theorem KR_fr {σ' : Nat → Nat → Int32} (h : KR A σ) (h1 : σ' 29 = σ 29) (h2 : σ' 30 = σ 30) : KR A σ' := by
  unfold KR
  rw [h1, h2]
  exact h
theorem KC_fr {σ' : Nat → Nat → Int32} (h : KC A σ) (h1 : σ' 32 = σ 32) : KC A σ' := by
  unfold KC
  rw [h1]
  exact h
theorem KO_fr {σ' : Nat → Nat → Int32} (h : KO A σ) (h1 : ∀ c, 39 ≤ c → c ≤ 43 → σ' c = σ c) : KO A σ' := by
  unfold KO hdS
  rw [h1 39 (by omega) (by omega), h1 40 (by omega) (by omega), h1 41 (by omega) (by omega), h1 42 (by omega) (by omega), h1 43 (by omega) (by omega)]
  exact h
/-- a call that changes who sits where alone -/
theorem CS_q {σ' : Nat → Nat → Int32} (h : CS A B n w3 g σ r1 r2 W1 W2) (k : ∀ c, c ≠ 22 → c ≠ 23 → c ≠ 24 → c ≠ 25 → σ' c = σ c) : CS A B n w3 g σ' r1 r2 W1 W2 := by
  obtain ⟨hx, hz, hw, ⟨a1, a2, a3, a4⟩, f1, f2, f3⟩ := h
  have e4 := k 4 (by decide) (by decide) (by decide) (by decide)
  have e29 := k 29 (by decide) (by decide) (by decide) (by decide)
  have e30 := k 30 (by decide) (by decide) (by decide) (by decide)
  have e32 := k 32 (by decide) (by decide) (by decide) (by decide)
  refine ⟨IX_fr hx (fun c e1 e2 => k c (fun q => e2 (by subst q; unfold scr; omega)) (fun q => e2 (by subst q; unfold scr; omega)) (fun q => e2 (by subst q; unfold scr; omega)) (fun q => e2 (by subst q; unfold scr; omega))) (by rw [e4]), hz, hw, ?_, ?_, ?_, ?_⟩
  · rw [e29, e32]
    exact ⟨a1, a2, a3, a4⟩
  · rw [e4]
    rcases f1 with f | ⟨f, q1, q2⟩
    · exact Or.inl f
    · exact Or.inr ⟨f, KR_fr q1 e29 e30, q2⟩
  · rw [e4]
    rcases f2 with f | ⟨f, q1, q2⟩
    · exact Or.inl f
    · exact Or.inr ⟨f, KC_fr q1 e32, q2⟩
  · rw [e4]
    rcases f3 with f | ⟨f, q1⟩
    · exact Or.inl f
    · exact Or.inr ⟨f, KO_fr q1 (fun c e1 e2 => k c (by omega) (by omega) (by omega) (by omega))⟩
theorem CF_q {σ' : Nat → Nat → Int32} (k : ∀ c, c ≠ 22 → c ≠ 23 → c ≠ 24 → c ≠ 25 → σ' c = σ c) : CF σ σ' := fun c e => k c (by omega) (by omega) (by omega) (by omega)
set_option maxRecDepth 100000 in
theorem k_rest0 (d : Nat) (Q : am_Q) {z : Int} (hz : zr z) (hs : CS A B n w3 g σ r1 r2 W1 W2) (hb : ¬ (z = -1 ∨ (0 ≤ z ∧ z < cnt A))) (h : Q (some (.int (Int32.ofInt (f_rest A z)))) (lo_M n w3 g σ τ r1 r2)) : am_d (d + 5) 65 [.ref 4, .int (Int32.ofInt z)] 0 0 (lo_M n w3 g σ τ r1 r2) Q := by
  have hc := cnt_le A
  unfold f_rest at h
  rw [if_pos (by omega)] at h
  refine am_goT T_X9_rest [.ref 4, .int (Int32.ofInt z)] rfl rfl (fun pc => Nat.beq pc 16) 60 ?_
  refine And.intro (fun c1 => ?_) (fun c1 => ?_)
  · rw [zeq hz (by unfold zr; omega)] at c1
    exact absurd (Or.inl c1) hb
  · refine s_isThere (d + 2) _ hz hc hs.1.1.2.2.1 ?_
    rw [if_neg (fun q => hb (Or.inr q))]
    exact And.intro (fun _ => h) (fun q => absurd rfl q)
theorem k_rest (d : Nat) (Q : am_Q) {z : Int} (hz : zr z) (hwf : WF A B) (hs : CS A B n w3 g σ r1 r2 W1 W2)
    (h : ∀ (n' : Nat) (g' : Nat → Nat × Nat) (r' : Nat) (σ' : Nat → Nat → Int32), CS A B n' w3 g' σ' r' r2 (rWd A W1) W2 → CF σ σ' → Q (some (.int (Int32.ofInt (f_rest A z)))) (lo_M n' w3 g' σ' τ r' r2)) (hv : z = -1 ∨ (0 ≤ z ∧ z < cnt A)) : am_d (d + 5) 65 [.ref 4, .int (Int32.ofInt z)] (rC A W1) (rS' A W1) (lo_M n w3 g σ τ r1 r2) Q := by
  obtain ⟨hx, hzl, hw, ⟨a1, a2, a3, a4⟩, f1, f2, f3⟩ := id hs
  have hws := (WS_r (A := A) hw).1
  refine c_rest d Q hz hwf hzl hx a1 a2 (by
    rcases f1 with f | ⟨f, q1, q2⟩
    · exact Or.inl f
    · exact Or.inr ⟨f, q1⟩) (fun c6 hlt => by
    unfold rC rS'
    rw [if_pos ⟨c6, hlt⟩, if_pos ⟨c6, hlt⟩]
    exact ⟨Nat.le_refl _, Nat.le_refl _⟩) (fun h0 => ?_) (fun c6 n' g' r' W' σ' k1 k2 k3 k4 k5 k6 k7 k8 => ?_)
  · have c6 : ¬ cnt A ≤ 6 := by
      rcases h0 with h0 | h0
      · exact absurd hv h0
      · omega
    have e : rWd A W1 = W1 := by unfold rWd; rw [if_neg c6]
    rw [e] at h
    exact h n g r1 σ hs (CF_refl σ)
  · have eW : W' = rWd A W1 := by
      unfold rWd
      rw [if_pos c6]
      rcases k1 with ⟨q1, q2⟩ | q
      · rcases f1 with f | ⟨f, p1, p2⟩
        · rw [f] at q1
          exact absurd q1 (by decide)
        · omega
      · exact q
    subst eW
    have hnd : 4 ^ cnt A * cnt A ≤ rWd A W1 := by
      unfold rWd
      rw [if_pos c6]
      exact Nat.le_max_right _ _
    refine h n' g' r' σ' ⟨IX_fr2 hx (fun c e0 e1 e2 => k3 c e0 e1 (fun q => e2 (by subst q; unfold scr; omega)) (fun q => e2 (by subst q; unfold scr; omega)) (fun q => e2 (by subst q; unfold scr; omega)) (fun q => e2 (by subst q; unfold scr; omega)) (fun q => e2 (by subst q; unfold scr; omega)) (fun q => e2 (by subst q; unfold scr; omega)) (fun q => e2 (by subst q; unfold scr; omega))) (k4 13 (by decide)), k2, hws, ⟨k6, k7, ?_, ?_⟩, Or.inr ⟨k5, k8, hnd⟩, ?_, ?_⟩ (fun c e => k3 c (by omega) (by omega) (by omega) (by omega) (by omega) (by omega) (by omega) (by omega) (by omega))
    · rw [k3 32 (by decide) (by decide) (by decide) (by decide) (by decide) (by decide) (by decide) (by decide) (by decide)]
      exact a3
    · rw [k3 32 (by decide) (by decide) (by decide) (by decide) (by decide) (by decide) (by decide) (by decide) (by decide)]
      exact a4
    · rw [k4 15 (by decide)]
      rcases f2 with f | ⟨f, q1, q2⟩
      · exact Or.inl f
      · exact Or.inr ⟨f, KC_fr q1 (k3 32 (by decide) (by decide) (by decide) (by decide) (by decide) (by decide) (by decide) (by decide) (by decide)), q2⟩
    · rw [k4 16 (by decide)]
      rcases f3 with f | ⟨f, q1⟩
      · exact Or.inl f
      · exact Or.inr ⟨f, KO_fr q1 (fun c e1 e2 => k3 c (by omega) (by omega) (by omega) (by omega) (by omega) (by omega) (by omega) (by omega) (by omega))⟩
set_option maxRecDepth 100000 in
theorem k_churches0 (d : Nat) (Q : am_Q) {z : Int} (hz : zr z) (hb : ¬ (0 ≤ z ∧ z ≤ 1)) (h : Q (some (.int (Int32.ofInt (f_churches A z)))) (lo_M n w3 g σ τ r1 r2)) : am_d (d + 5) 68 [.ref 4, .int (Int32.ofInt z)] 0 0 (lo_M n w3 g σ τ r1 r2) Q := by
  unfold f_churches at h
  rw [if_neg hb] at h
  refine am_goT T_X9_churches [.ref 4, .int (Int32.ofInt z)] rfl rfl (fun _ => false) 60 ?_
  refine s_withinZ (d + 3) hz (by unfold zr; omega) (by unfold zr; omega) _ _ ?_
  rw [if_neg hb]
  exact And.intro (fun _ => h) (fun q => absurd rfl q)
theorem k_churches (d : Nat) (Q : am_Q) {z : Int} (hz : zr z) (hwf : WF A B) (hs : CS A B n w3 g σ r1 r2 W1 W2)
    (h : ∀ (n' : Nat) (g' : Nat → Nat × Nat) (r' : Nat) (σ' : Nat → Nat → Int32), CS A B n' w3 g' σ' r1 r' W1 (cWd A W2) → CF σ σ' → Q (some (.int (Int32.ofInt (f_churches A z)))) (lo_M n' w3 g' σ' τ r1 r')) (hv : 0 ≤ z ∧ z ≤ 1) : am_d (d + 5) 68 [.ref 4, .int (Int32.ofInt z)] (cC A W2) (cS' A W2) (lo_M n w3 g σ τ r1 r2) Q := by
  obtain ⟨hx, hzl, hw, ⟨a1, a2, a3, a4⟩, f1, f2, f3⟩ := id hs
  have hws := (WS_c (A := A) hw).1
  refine c_churches d Q hz hwf hzl hx a3 a4 (by
    rcases f2 with f | ⟨f, q1, q2⟩
    · exact Or.inl f
    · exact Or.inr ⟨f, q1⟩) (fun hlt => by
    unfold cC cS'
    rw [if_pos hlt, if_pos hlt]
    exact ⟨Nat.le_refl _, Nat.le_refl _⟩) (fun h0 => absurd hv h0) (fun n' g' r' W' σ' k1 k2 k3 k4 k5 k6 k7 k8 => ?_)
  have eW : W' = cWd A W2 := by
    unfold cWd
    rcases k1 with ⟨q1, q2⟩ | q
    · rcases f2 with f | ⟨f, p1, p2⟩
      · rw [f] at q1
        exact absurd q1 (by decide)
      · omega
    · exact q
  subst eW
  refine h n' g' r' σ' ⟨IX_fr2 hx (fun c e0 e1 e2 => k3 c e0 e1 (fun q => e2 (by unfold scr; omega)) (fun q => e2 (by subst q; unfold scr; omega)) (fun q => e2 (by subst q; unfold scr; omega)) (fun q => e2 (by subst q; unfold scr; omega))) (k4 13 (by decide)), k2, hws, ⟨?_, ?_, k6, k7⟩, ?_, Or.inr ⟨k5, k8, Nat.le_max_right _ _⟩, ?_⟩ (fun c e => k3 c (by omega) (by omega) (by omega) (by omega) (by omega) (by omega))
  · rw [k3 29 (by decide) (by decide) (by decide) (by decide) (by decide) (by decide)]
    exact a1
  · rw [k3 29 (by decide) (by decide) (by decide) (by decide) (by decide) (by decide)]
    exact a2
  · rw [k4 14 (by decide)]
    rcases f1 with f | ⟨f, q1, q2⟩
    · exact Or.inl f
    · exact Or.inr ⟨f, KR_fr q1 (k3 29 (by decide) (by decide) (by decide) (by decide) (by decide) (by decide)) (k3 30 (by decide) (by decide) (by decide) (by decide) (by decide) (by decide)), q2⟩
  · rw [k4 16 (by decide)]
    rcases f3 with f | ⟨f, q1⟩
    · exact Or.inl f
    · exact Or.inr ⟨f, KO_fr q1 (fun c e1 e2 => k3 c (by omega) (by omega) (by omega) (by omega) (by omega) (by omega))⟩
theorem CS_o {σ' : Nat → Nat → Int32} (hs : CS A B n w3 g σ r1 r2 W1 W2) (k1 : ∀ c, c ≠ 4 → ¬ (39 ≤ c ∧ c ≤ 43) → σ' c = σ c) (k2 : ∀ i, i ≠ 16 → σ' 4 i = σ 4 i) (k3 : σ' 4 16 = Int32.ofInt 1) (k4 : KO A σ') : CS A B n w3 g σ' r1 r2 W1 W2 := by
  obtain ⟨hx, hzl, hw, ⟨a1, a2, a3, a4⟩, f1, f2, f3⟩ := hs
  refine ⟨IX_fr hx (fun c e1 e2 => k1 c e1 (fun q => e2 (by unfold scr; omega))) (k2 13 (by decide)), hzl, hw, ?_, ?_, ?_, Or.inr ⟨k3, k4⟩⟩
  · rw [k1 29 (by decide) (by omega), k1 32 (by decide) (by omega)]
    exact ⟨a1, a2, a3, a4⟩
  · rw [k2 14 (by decide)]
    rcases f1 with f | ⟨f, q1, q2⟩
    · exact Or.inl f
    · exact Or.inr ⟨f, KR_fr q1 (k1 29 (by decide) (by omega)) (k1 30 (by decide) (by omega)), q2⟩
  · rw [k2 15 (by decide)]
    rcases f2 with f | ⟨f, q1, q2⟩
    · exact Or.inl f
    · exact Or.inr ⟨f, KC_fr q1 (k1 32 (by decide) (by omega)), q2⟩
theorem CF_o {σ' : Nat → Nat → Int32} (k1 : ∀ c, c ≠ 4 → ¬ (39 ≤ c ∧ c ≤ 43) → σ' c = σ c) : CF σ σ' := fun c e => k1 c (by omega) (by omega)
theorem k_came (d : Nat) (Q : am_Q) {z : Int} (hz : zr z) (hwf : WF A B) (hs : CS A B n w3 g σ r1 r2 W1 W2)
    (h : ∀ σ' : Nat → Nat → Int32, CS A B n w3 g σ' r1 r2 W1 W2 → CF σ σ' → Q (some (.int (Int32.ofInt (f_came A z)))) (lo_M n w3 g σ' τ r1 r2)) : am_d (d + 6) 72 [.ref 4, .int (Int32.ofInt z)] 0 0 (lo_M n w3 g σ τ r1 r2) Q :=
  c_came d Q hz hs.1 hwf hs.2.2.2.2.2.2 (fun _ => h σ hs (CF_refl σ)) (fun σ' k1 k2 k3 k4 => h σ' (CS_o hs k1 k2 k3 k4) (CF_o k1))
theorem k_sure (d : Nat) (Q : am_Q) (hwf : WF A B) (hs : CS A B n w3 g σ r1 r2 W1 W2)
    (h : ∀ σ' : Nat → Nat → Int32, CS A B n w3 g σ' r1 r2 W1 W2 → CF σ σ' → Q (some (.int (Int32.ofInt (f_sure A)))) (lo_M n w3 g σ' τ r1 r2)) : am_d (d + 6) 73 [.ref 4] 0 0 (lo_M n w3 g σ τ r1 r2) Q :=
  c_sure d Q hs.1 hwf hs.2.2.2.2.2.2 (fun σ' k1 k2 k3 k4 => h σ' (CS_o hs k1 k2 k3 k4) (CF_o k1))
end CSS
/-! the digest -/
def dg (h : Int64) (z : Int) : Int64 := Int64.ofInt 31 * h + (Int32.ofInt z).toInt64
def dl (h : Int64) (z : Int) : Int64 := Int64.ofInt 31 * h + Int64.ofInt z
/-- k of f, from i on -/
def dgF (f : Nat → Int) : Nat → Nat → Int64 → Int64
  | _, 0, h => h
  | i, k + 1, h => dgF f (i + 1) k (dg h (f i))
def dP2 (A : aN) (p : Nat) (h : Int64) : Int64 := dg (dl (dl (dl (dl (dg (dg (dg (dg (dg (dg h (f_seat A p)) (f_has A p)) (f_best A p 0)) (f_best A p 1)) (f_rest A p)) (f_came A p)) (f_fair A p 0)) (f_fair A p 1)) (f_late A p 0)) (f_late A p 1)) (f_lot A (Int32.ofInt 7) p)
def dP (A : aN) (p : Nat) (h : Int64) : Int64 := dP2 A p (dgF (fun w => f_person A p w) 0 4 h)
def dPs (A : aN) : Nat → Nat → Int64 → Int64
  | _, 0, h => h
  | i, k + 1, h => dPs A (i + 1) k (dP A i h)
def dE (A : aN) (h : Int64) : Int64 := dl (dl (dg (dg (dg (dg (dg (dg h (f_rest A (-1))) (f_changes A)) (f_churches A 0)) (f_churches A 1)) (f_came A (-1))) (f_sure A)) (f_allLate A 0)) (f_allLate A 1)
def f_digest (A : aN) : Int64 := dE A (dgF (fun s => f_who A s) 0 7 (dPs A 0 (cnt A) (dg (dgF (fun w => f_count A w) 0 8 (Int64.ofInt 17)) (flt A))))
