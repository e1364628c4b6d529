/-! sheets: the class -/
/-- cut to the sheet's form -/
def cutI (f : Int) (x : Int32) : Int32 := if f = 0 then x.toInt8.toInt32 else if f = 1 then x.toInt16.toInt32 else x
def cutZ (f v : Int) : Int := (cutI f (Int32.ofInt v)).toInt
theorem cutZ_eq (f v : Int) : Int32.ofInt (cutZ f v) = cutI f (Int32.ofInt v) := (zof _).symm
theorem cutZ_r (f v : Int) : zr (cutZ f v) := zrof _
/-- what is found at a place of a sheet of form f and size n -/
def fnd (f : Int) (n : Nat) (fm i : Int) : Int := if f = -1 then 1 else if fm ≠ f then 3 else if 0 ≤ i ∧ i < n then 0 else 2
def hld (n : Nat) (i m : Int) : Prop := 0 ≤ i ∧ 0 ≤ m ∧ i ≤ n ∧ m ≤ n - i
section SH
variable {n w3 : Nat} {g : Nat → Nat × Nat} {σ : Nat → Nat → Int32} {τ : Nat → Nat → Int64} {r1 r2 : Nat} {A : aN} {B : aZ}
set_option maxRecDepth 100000 in
theorem s_finding (d : Nat) (Q : am_Q) {k : Int} (h : Q (some (.int (Int32.ofInt (-10 - k)))) (lo_M n w3 g (am_u σ 4 13 (Int32.ofInt k)) τ r1 r2)) : am_d (d + 1) 93 [.ref 4, .int (Int32.ofInt k)] 0 0 (lo_M n w3 g σ τ r1 r2) Q := by
  rw [← zsub] at h
  refine am_goT T_X9_finding [.ref 4, .int (Int32.ofInt k)] rfl rfl (fun _ => false) 30 ?_
  exact h
set_option maxRecDepth 100000 in
theorem s_isSheet (d : Nat) (M : am_M) (Q : am_Q) {v : Int} (hv : zr v) (h : Q (some (.int (if 0 ≤ v ∧ v ≤ 3 then 1 else 0))) M) : am_d (d + 2) 90 [.int (Int32.ofInt v)] 0 0 M Q := by
  refine am_goT T_X9_isSheet [.int (Int32.ofInt v)] rfl rfl (fun _ => false) 30 ?_
  refine s_withinZ d hv (by unfold zr; omega) (by unfold zr; omega) _ _ ?_
  by_cases c : 0 ≤ v ∧ v ≤ 3
  · rw [if_pos c] at h ⊢
    exact And.intro (Or.inr rfl) h
  · rw [if_neg c] at h ⊢
    exact And.intro (Or.inl rfl) h
set_option maxRecDepth 100000 in
theorem s_isForm (d : Nat) (M : am_M) (Q : am_Q) {v : Int} (hv : zr v) (h : Q (some (.int (if 0 ≤ v ∧ v ≤ 2 then 1 else 0))) M) : am_d (d + 2) 91 [.int (Int32.ofInt v)] 0 0 M Q := by
  refine am_goT T_X9_isForm [.int (Int32.ofInt v)] rfl rfl (fun _ => false) 30 ?_
  refine s_withinZ d hv (by unfold zr; omega) (by unfold zr; omega) _ _ ?_
  by_cases c : 0 ≤ v ∧ v ≤ 2
  · rw [if_pos c] at h ⊢
    exact And.intro (Or.inr rfl) h
  · rw [if_neg c] at h ⊢
    exact And.intro (Or.inl rfl) h
set_option maxRecDepth 100000 in
theorem s_isLost0 (d : Nat) (Q : am_Q) {f : Int} (hf : σ 48 1 = Int32.ofInt f) (hr : zr f) (h : Q (some (.int (if f = -1 then 1 else 0))) (lo_M n w3 g σ τ r1 r2)) : am_d (d + 1) 42 [.ref 48] 0 0 (lo_M n w3 g σ τ r1 r2) Q := by
  refine am_goT T_X7_isLost [.ref 48] rfl rfl (fun _ => false) 30 ?_
  refine And.intro (fun c1 => And.intro (Or.inr rfl) ?_) (fun c1 => And.intro (Or.inl rfl) ?_)
  · have c1 : σ 48 1 = Int32.ofInt (-1) := c1
    rw [hf, zeq hr (by unfold zr; omega)] at c1
    rw [if_pos c1] at h
    exact h
  · have c1 : ¬ σ 48 1 = Int32.ofInt (-1) := c1
    rw [hf, zeq hr (by unfold zr; omega)] at c1
    rw [if_neg c1] at h
    exact h
set_option maxRecDepth 100000 in
theorem s_findingAt0 (d : Nat) (Q : am_Q) {f fm i : Int} {N : Nat} (hf : σ 48 1 = Int32.ofInt f) (hr : zr f) (hN : σ 48 2 = Int32.ofInt (N : Int)) (hN2 : N ≤ 60) (hfm : zr fm) (hi : zr i) (h : Q (some (.int (Int32.ofInt (fnd f N fm i)))) (lo_M n w3 g σ τ r1 r2)) : am_d (d + 2) 44 [.ref 48, .int (Int32.ofInt fm), .int (Int32.ofInt i)] 0 0 (lo_M n w3 g σ τ r1 r2) Q := by
  refine am_goT T_X7_findingAt [.ref 48, .int (Int32.ofInt fm), .int (Int32.ofInt i)] rfl rfl (fun _ => false) 30 ?_
  refine s_isLost0 d _ hf hr ?_
  unfold fnd at h
  by_cases c1 : f = -1
  · rw [if_pos c1] at h ⊢
    exact And.intro (fun q => absurd q (by decide)) (fun _ => h)
  · rw [if_neg c1] at h ⊢
    refine And.intro (fun _ => ?_) (fun q => absurd rfl q)
    refine And.intro (fun c2 => ?_) (fun c2 => ?_)
    · have c2 : Int32.ofInt fm = σ 48 1 := c2
      rw [hf, zeq hfm hr] at c2
      rw [if_neg (fun q => q c2)] at h
      show am_d (d + 1) 88 [.int (Int32.ofInt i), .int (Int32.ofInt 0), .int (σ 48 2 - Int32.ofInt 1)] 0 0 _ _
      rw [hN, zsub]
      refine s_withinZ d hi (by unfold zr; omega) (by unfold zr; omega) _ _ ?_
      by_cases c3 : 0 ≤ i ∧ i < N
      · rw [if_pos (by omega)]
        rw [if_pos c3] at h
        exact And.intro (fun q => absurd q (by decide)) (fun _ => h)
      · rw [if_neg (by omega)]
        rw [if_neg c3] at h
        exact And.intro (fun _ => h) (fun q => absurd rfl q)
    · have c2 : ¬ Int32.ofInt fm = σ 48 1 := c2
      rw [hf, zeq hfm hr] at c2
      rw [if_pos c2] at h
      exact h
set_option maxRecDepth 100000 in
theorem s_holds0 (d : Nat) (Q : am_Q) {i m : Int} {N : Nat} (hN : σ 48 2 = Int32.ofInt (N : Int)) (hN2 : N ≤ 60) (hi : zr i) (hm : zr m) (h1 : hld N i m → Q (some (.int 1)) (lo_M n w3 g σ τ r1 r2)) (h0 : ¬ hld N i m → Q (some (.int 0)) (lo_M n w3 g σ τ r1 r2)) : am_d (d + 1) 45 [.ref 48, .int (Int32.ofInt i), .int (Int32.ofInt m)] 0 0 (lo_M n w3 g σ τ r1 r2) Q := by
  refine am_goT T_X7_holds [.ref 48, .int (Int32.ofInt i), .int (Int32.ofInt m)] rfl rfl (fun _ => false) 30 ?_
  refine And.intro (fun c1 => And.intro (Or.inl rfl) (h0 (fun q => ?_))) (fun c1 => And.intro (fun c2 => And.intro (Or.inl rfl) (h0 (fun q => ?_))) (fun c2 => And.intro (fun c3 => And.intro (Or.inl rfl) (h0 (fun q => ?_))) (fun c3 => And.intro (fun c4 => And.intro (Or.inl rfl) (h0 (fun q => ?_))) (fun c4 => And.intro (Or.inr rfl) (h1 ?_)))))
  · rw [zlt0 hi] at c1
    have := q.1
    omega
  · rw [zlt0 hm] at c2
    have := q.2.1
    omega
  · have c3 : σ 48 2 < Int32.ofInt i := c3
    rw [hN, zlt (by unfold zr; omega) hi] at c3
    have := q.2.2.1
    omega
  · rw [zlt0 hi] at c1
    have c3 : ¬ σ 48 2 < Int32.ofInt i := c3
    rw [hN, zlt (by unfold zr; omega) hi] at c3
    have c4 : σ 48 2 - Int32.ofInt i < Int32.ofInt m := c4
    rw [hN, zsub, zlt (by unfold zr; omega) hm] at c4
    have := q.2.2.2
    omega
  · rw [zlt0 hi] at c1
    rw [zlt0 hm] at c2
    have c3 : ¬ σ 48 2 < Int32.ofInt i := c3
    rw [hN, zlt (by unfold zr; omega) hi] at c3
    have c4 : ¬ σ 48 2 - Int32.ofInt i < Int32.ofInt m := c4
    rw [hN, zsub, zlt (by unfold zr; omega) hm] at c4
    unfold hld
    omega
set_option maxRecDepth 100000 in
theorem s_put0 (d : Nat) (Q : am_Q) {f : Int} {i : Nat} {v : Int32} (hf : σ 48 1 = Int32.ofInt f) (hr : zr f) (hi : i < 60) (h : Q none (lo_M n w3 g (am_u σ 49 i (cutI f v)) τ r1 r2)) : am_d (d + 1) 46 [.ref 48, .int (Int32.ofInt (i : Int)), .int v] 0 0 (lo_M n w3 g σ τ r1 r2) Q := by
  refine am_goT T_X7_put [.ref 48, .int (Int32.ofInt (i : Int)), .int v] rfl rfl (fun _ => false) 30 ?_
  refine And.intro (fun c1 => ?_) (fun c1 => And.intro (fun c2 => ?_) (fun c2 => ?_))
  · have c1 : σ 48 1 = 0 := c1
    rw [hf, zeq0 hr] at c1
    refine ixi i 60 hi ?_
    unfold cutI at h
    rw [if_pos c1] at h
    exact h
  · have c1 : ¬ σ 48 1 = 0 := c1
    have c2 : σ 48 1 = Int32.ofInt 1 := c2
    rw [hf, zeq0 hr] at c1
    rw [hf, zeq hr (by unfold zr; omega)] at c2
    refine ixi i 60 hi ?_
    unfold cutI at h
    rw [if_neg c1, if_pos c2] at h
    exact h
  · have c1 : ¬ σ 48 1 = 0 := c1
    have c2 : ¬ σ 48 1 = Int32.ofInt 1 := c2
    rw [hf, zeq0 hr] at c1
    rw [hf, zeq hr (by unfold zr; omega)] at c2
    refine ixi i 60 hi ?_
    unfold cutI at h
    rw [if_neg c1, if_neg c2] at h
    exact h
set_option maxRecDepth 100000 in
theorem s_renew_loop0 (d : Nat) (Q : am_Q) {x1 x2 : Int32} : ∀ (k i : Nat) (σ : Nat → Nat → Int32), i + k = 60 →
    (∀ σ' : Nat → Nat → Int32, (∀ c, c ≠ 49 → σ' c = σ c) → (∀ j, σ' 49 j = if i ≤ j ∧ j < 60 then Int32.ofInt 0 else σ 49 j) → Q none (lo_M n w3 g σ' τ r1 r2)) →
    am_wp (am_d d) T_X7_renew Q (12, [.ref 48, .int x1, .int x2, .int (Int32.ofInt (i : Int))], [], 0, 0) (lo_M n w3 g σ τ r1 r2) := by
  intro k
  induction k with
  | zero =>
    intro i σ hi h
    refine am_wp_go (am_d_cm _) (fun pc => Nat.beq pc 12) 60 ?_
    refine And.intro (fun c1 => ?_) (fun c1 => absurd ?_ c1)
    · exact h σ (fun _ _ => rfl) (fun j => by rw [if_neg (by omega)])
    · rw [zle (by unfold zr; omega) (by unfold zr; omega)]
      omega
  | succ k ih =>
    intro i σ hi h
    refine am_wp_go (am_d_cm _) (fun pc => Nat.beq pc 12) 60 ?_
    refine And.intro (fun c1 => ?_) (fun c1 => ?_)
    · rw [zle (by unfold zr; omega) (by unfold zr; omega)] at c1
      omega
    · refine ixi i 60 (by omega) ?_
      show am_wp _ _ _ (12, [.ref 48, .int x1, .int x2, .int (Int32.ofInt (i : Int) + Int32.ofInt 1)], [], 0, 0) (lo_M n w3 g (am_u σ 49 i (Int32.ofInt 0)) τ r1 r2)
      rw [zadd, show ((i : Int) + 1) = ((i + 1 : Nat) : Int) by omega]
      refine ih (i + 1) _ (by omega) (fun σ' k1 k2 => h σ' (fun c hc => by rw [k1 c hc, am_u_ne hc]) (fun j => ?_))
      rw [k2 j, am_u_at]
      by_cases e : j = i
      · subst e
        rw [if_neg (by omega), if_pos rfl, if_pos (by omega)]
      · by_cases e2 : i + 1 ≤ j ∧ j < 60
        · rw [if_pos e2, if_pos (by omega)]
        · rw [if_neg e2, if_neg e, if_neg (by omega)]
set_option maxRecDepth 100000 in
theorem s_renew0 (d : Nat) (Q : am_Q) {x1 x2 : Int32} (h : ∀ σ' : Nat → Nat → Int32, (∀ c, c ≠ 48 → c ≠ 49 → σ' c = σ c) → σ' 48 1 = x1 → σ' 48 2 = x2 → (∀ j, j < 60 → σ' 49 j = Int32.ofInt 0) → Q none (lo_M n w3 g σ' τ r1 r2)) : am_d (d + 1) 43 [.ref 48, .int x1, .int x2] 0 0 (lo_M n w3 g σ τ r1 r2) Q := by
  refine am_goT T_X7_renew [.ref 48, .int x1, .int x2, .null] rfl rfl (fun pc => Nat.beq pc 12) 30 ?_
  refine s_renew_loop0 d Q 60 0 (am_u (am_u σ 48 1 x1) 48 2 x2) (by omega) (fun σ' k1 k2 => h σ' (fun c e1 e2 => by rw [k1 c e2, am_u_ne e1, am_u_ne e1]) ?_ ?_ (fun j hj => by rw [k2 j, if_pos (by omega)]))
  · rw [k1 48 (by decide)]
    rfl
  · rw [k1 48 (by decide)]
    rfl
set_option maxRecDepth 100000 in
theorem s_isLost1 (d : Nat) (Q : am_Q) {f : Int} (hf : σ 50 1 = Int32.ofInt f) (hr : zr f) (h : Q (some (.int (if f = -1 then 1 else 0))) (lo_M n w3 g σ τ r1 r2)) : am_d (d + 1) 42 [.ref 50] 0 0 (lo_M n w3 g σ τ r1 r2) Q := by
  refine am_goT T_X7_isLost [.ref 50] rfl rfl (fun _ => false) 30 ?_
  refine And.intro (fun c1 => And.intro (Or.inr rfl) ?_) (fun c1 => And.intro (Or.inl rfl) ?_)
  · have c1 : σ 50 1 = Int32.ofInt (-1) := c1
    rw [hf, zeq hr (by unfold zr; omega)] at c1
    rw [if_pos c1] at h
    exact h
  · have c1 : ¬ σ 50 1 = Int32.ofInt (-1) := c1
    rw [hf, zeq hr (by unfold zr; omega)] at c1
    rw [if_neg c1] at h
    exact h
set_option maxRecDepth 100000 in
theorem s_findingAt1 (d : Nat) (Q : am_Q) {f fm i : Int} {N : Nat} (hf : σ 50 1 = Int32.ofInt f) (hr : zr f) (hN : σ 50 2 = Int32.ofInt (N : Int)) (hN2 : N ≤ 60) (hfm : zr fm) (hi : zr i) (h : Q (some (.int (Int32.ofInt (fnd f N fm i)))) (lo_M n w3 g σ τ r1 r2)) : am_d (d + 2) 44 [.ref 50, .int (Int32.ofInt fm), .int (Int32.ofInt i)] 0 0 (lo_M n w3 g σ τ r1 r2) Q := by
  refine am_goT T_X7_findingAt [.ref 50, .int (Int32.ofInt fm), .int (Int32.ofInt i)] rfl rfl (fun _ => false) 30 ?_
  refine s_isLost1 d _ hf hr ?_
  unfold fnd at h
  by_cases c1 : f = -1
  · rw [if_pos c1] at h ⊢
    exact And.intro (fun q => absurd q (by decide)) (fun _ => h)
  · rw [if_neg c1] at h ⊢
    refine And.intro (fun _ => ?_) (fun q => absurd rfl q)
    refine And.intro (fun c2 => ?_) (fun c2 => ?_)
    · have c2 : Int32.ofInt fm = σ 50 1 := c2
      rw [hf, zeq hfm hr] at c2
      rw [if_neg (fun q => q c2)] at h
      show am_d (d + 1) 88 [.int (Int32.ofInt i), .int (Int32.ofInt 0), .int (σ 50 2 - Int32.ofInt 1)] 0 0 _ _
      rw [hN, zsub]
      refine s_withinZ d hi (by unfold zr; omega) (by unfold zr; omega) _ _ ?_
      by_cases c3 : 0 ≤ i ∧ i < N
      · rw [if_pos (by omega)]
        rw [if_pos c3] at h
        exact And.intro (fun q => absurd q (by decide)) (fun _ => h)
      · rw [if_neg (by omega)]
        rw [if_neg c3] at h
        exact And.intro (fun _ => h) (fun q => absurd rfl q)
    · have c2 : ¬ Int32.ofInt fm = σ 50 1 := c2
      rw [hf, zeq hfm hr] at c2
      rw [if_pos c2] at h
      exact h
set_option maxRecDepth 100000 in
theorem s_holds1 (d : Nat) (Q : am_Q) {i m : Int} {N : Nat} (hN : σ 50 2 = Int32.ofInt (N : Int)) (hN2 : N ≤ 60) (hi : zr i) (hm : zr m) (h1 : hld N i m → Q (some (.int 1)) (lo_M n w3 g σ τ r1 r2)) (h0 : ¬ hld N i m → Q (some (.int 0)) (lo_M n w3 g σ τ r1 r2)) : am_d (d + 1) 45 [.ref 50, .int (Int32.ofInt i), .int (Int32.ofInt m)] 0 0 (lo_M n w3 g σ τ r1 r2) Q := by
  refine am_goT T_X7_holds [.ref 50, .int (Int32.ofInt i), .int (Int32.ofInt m)] rfl rfl (fun _ => false) 30 ?_
  refine And.intro (fun c1 => And.intro (Or.inl rfl) (h0 (fun q => ?_))) (fun c1 => And.intro (fun c2 => And.intro (Or.inl rfl) (h0 (fun q => ?_))) (fun c2 => And.intro (fun c3 => And.intro (Or.inl rfl) (h0 (fun q => ?_))) (fun c3 => And.intro (fun c4 => And.intro (Or.inl rfl) (h0 (fun q => ?_))) (fun c4 => And.intro (Or.inr rfl) (h1 ?_)))))
  · rw [zlt0 hi] at c1
    have := q.1
    omega
  · rw [zlt0 hm] at c2
    have := q.2.1
    omega
  · have c3 : σ 50 2 < Int32.ofInt i := c3
    rw [hN, zlt (by unfold zr; omega) hi] at c3
    have := q.2.2.1
    omega
  · rw [zlt0 hi] at c1
    have c3 : ¬ σ 50 2 < Int32.ofInt i := c3
    rw [hN, zlt (by unfold zr; omega) hi] at c3
    have c4 : σ 50 2 - Int32.ofInt i < Int32.ofInt m := c4
    rw [hN, zsub, zlt (by unfold zr; omega) hm] at c4
    have := q.2.2.2
    omega
  · rw [zlt0 hi] at c1
    rw [zlt0 hm] at c2
    have c3 : ¬ σ 50 2 < Int32.ofInt i := c3
    rw [hN, zlt (by unfold zr; omega) hi] at c3
    have c4 : ¬ σ 50 2 - Int32.ofInt i < Int32.ofInt m := c4
    rw [hN, zsub, zlt (by unfold zr; omega) hm] at c4
    unfold hld
    omega
set_option maxRecDepth 100000 in
theorem s_put1 (d : Nat) (Q : am_Q) {f : Int} {i : Nat} {v : Int32} (hf : σ 50 1 = Int32.ofInt f) (hr : zr f) (hi : i < 60) (h : Q none (lo_M n w3 g (am_u σ 51 i (cutI f v)) τ r1 r2)) : am_d (d + 1) 46 [.ref 50, .int (Int32.ofInt (i : Int)), .int v] 0 0 (lo_M n w3 g σ τ r1 r2) Q := by
  refine am_goT T_X7_put [.ref 50, .int (Int32.ofInt (i : Int)), .int v] rfl rfl (fun _ => false) 30 ?_
  refine And.intro (fun c1 => ?_) (fun c1 => And.intro (fun c2 => ?_) (fun c2 => ?_))
  · have c1 : σ 50 1 = 0 := c1
    rw [hf, zeq0 hr] at c1
    refine ixi i 60 hi ?_
    unfold cutI at h
    rw [if_pos c1] at h
    exact h
  · have c1 : ¬ σ 50 1 = 0 := c1
    have c2 : σ 50 1 = Int32.ofInt 1 := c2
    rw [hf, zeq0 hr] at c1
    rw [hf, zeq hr (by unfold zr; omega)] at c2
    refine ixi i 60 hi ?_
    unfold cutI at h
    rw [if_neg c1, if_pos c2] at h
    exact h
  · have c1 : ¬ σ 50 1 = 0 := c1
    have c2 : ¬ σ 50 1 = Int32.ofInt 1 := c2
    rw [hf, zeq0 hr] at c1
    rw [hf, zeq hr (by unfold zr; omega)] at c2
    refine ixi i 60 hi ?_
    unfold cutI at h
    rw [if_neg c1, if_neg c2] at h
    exact h
set_option maxRecDepth 100000 in
theorem s_renew_loop1 (d : Nat) (Q : am_Q) {x1 x2 : Int32} : ∀ (k i : Nat) (σ : Nat → Nat → Int32), i + k = 60 →
    (∀ σ' : Nat → Nat → Int32, (∀ c, c ≠ 51 → σ' c = σ c) → (∀ j, σ' 51 j = if i ≤ j ∧ j < 60 then Int32.ofInt 0 else σ 51 j) → Q none (lo_M n w3 g σ' τ r1 r2)) →
    am_wp (am_d d) T_X7_renew Q (12, [.ref 50, .int x1, .int x2, .int (Int32.ofInt (i : Int))], [], 0, 0) (lo_M n w3 g σ τ r1 r2) := by
  intro k
  induction k with
  | zero =>
    intro i σ hi h
    refine am_wp_go (am_d_cm _) (fun pc => Nat.beq pc 12) 60 ?_
    refine And.intro (fun c1 => ?_) (fun c1 => absurd ?_ c1)
    · exact h σ (fun _ _ => rfl) (fun j => by rw [if_neg (by omega)])
    · rw [zle (by unfold zr; omega) (by unfold zr; omega)]
      omega
  | succ k ih =>
    intro i σ hi h
    refine am_wp_go (am_d_cm _) (fun pc => Nat.beq pc 12) 60 ?_
    refine And.intro (fun c1 => ?_) (fun c1 => ?_)
    · rw [zle (by unfold zr; omega) (by unfold zr; omega)] at c1
      omega
    · refine ixi i 60 (by omega) ?_
      show am_wp _ _ _ (12, [.ref 50, .int x1, .int x2, .int (Int32.ofInt (i : Int) + Int32.ofInt 1)], [], 0, 0) (lo_M n w3 g (am_u σ 51 i (Int32.ofInt 0)) τ r1 r2)
      rw [zadd, show ((i : Int) + 1) = ((i + 1 : Nat) : Int) by omega]
      refine ih (i + 1) _ (by omega) (fun σ' k1 k2 => h σ' (fun c hc => by rw [k1 c hc, am_u_ne hc]) (fun j => ?_))
      rw [k2 j, am_u_at]
      by_cases e : j = i
      · subst e
        rw [if_neg (by omega), if_pos rfl, if_pos (by omega)]
      · by_cases e2 : i + 1 ≤ j ∧ j < 60
        · rw [if_pos e2, if_pos (by omega)]
        · rw [if_neg e2, if_neg e, if_neg (by omega)]
set_option maxRecDepth 100000 in
theorem s_renew1 (d : Nat) (Q : am_Q) {x1 x2 : Int32} (h : ∀ σ' : Nat → Nat → Int32, (∀ c, c ≠ 50 → c ≠ 51 → σ' c = σ c) → σ' 50 1 = x1 → σ' 50 2 = x2 → (∀ j, j < 60 → σ' 51 j = Int32.ofInt 0) → Q none (lo_M n w3 g σ' τ r1 r2)) : am_d (d + 1) 43 [.ref 50, .int x1, .int x2] 0 0 (lo_M n w3 g σ τ r1 r2) Q := by
  refine am_goT T_X7_renew [.ref 50, .int x1, .int x2, .null] rfl rfl (fun pc => Nat.beq pc 12) 30 ?_
  refine s_renew_loop1 d Q 60 0 (am_u (am_u σ 50 1 x1) 50 2 x2) (by omega) (fun σ' k1 k2 => h σ' (fun c e1 e2 => by rw [k1 c e2, am_u_ne e1, am_u_ne e1]) ?_ ?_ (fun j hj => by rw [k2 j, if_pos (by omega)]))
  · rw [k1 50 (by decide)]
    rfl
  · rw [k1 50 (by decide)]
    rfl
set_option maxRecDepth 100000 in
theorem s_isLost2 (d : Nat) (Q : am_Q) {f : Int} (hf : σ 52 1 = Int32.ofInt f) (hr : zr f) (h : Q (some (.int (if f = -1 then 1 else 0))) (lo_M n w3 g σ τ r1 r2)) : am_d (d + 1) 42 [.ref 52] 0 0 (lo_M n w3 g σ τ r1 r2) Q := by
  refine am_goT T_X7_isLost [.ref 52] rfl rfl (fun _ => false) 30 ?_
  refine And.intro (fun c1 => And.intro (Or.inr rfl) ?_) (fun c1 => And.intro (Or.inl rfl) ?_)
  · have c1 : σ 52 1 = Int32.ofInt (-1) := c1
    rw [hf, zeq hr (by unfold zr; omega)] at c1
    rw [if_pos c1] at h
    exact h
  · have c1 : ¬ σ 52 1 = Int32.ofInt (-1) := c1
    rw [hf, zeq hr (by unfold zr; omega)] at c1
    rw [if_neg c1] at h
    exact h
set_option maxRecDepth 100000 in
theorem s_findingAt2 (d : Nat) (Q : am_Q) {f fm i : Int} {N : Nat} (hf : σ 52 1 = Int32.ofInt f) (hr : zr f) (hN : σ 52 2 = Int32.ofInt (N : Int)) (hN2 : N ≤ 60) (hfm : zr fm) (hi : zr i) (h : Q (some (.int (Int32.ofInt (fnd f N fm i)))) (lo_M n w3 g σ τ r1 r2)) : am_d (d + 2) 44 [.ref 52, .int (Int32.ofInt fm), .int (Int32.ofInt i)] 0 0 (lo_M n w3 g σ τ r1 r2) Q := by
  refine am_goT T_X7_findingAt [.ref 52, .int (Int32.ofInt fm), .int (Int32.ofInt i)] rfl rfl (fun _ => false) 30 ?_
  refine s_isLost2 d _ hf hr ?_
  unfold fnd at h
  by_cases c1 : f = -1
  · rw [if_pos c1] at h ⊢
    exact And.intro (fun q => absurd q (by decide)) (fun _ => h)
  · rw [if_neg c1] at h ⊢
    refine And.intro (fun _ => ?_) (fun q => absurd rfl q)
    refine And.intro (fun c2 => ?_) (fun c2 => ?_)
    · have c2 : Int32.ofInt fm = σ 52 1 := c2
      rw [hf, zeq hfm hr] at c2
      rw [if_neg (fun q => q c2)] at h
      show am_d (d + 1) 88 [.int (Int32.ofInt i), .int (Int32.ofInt 0), .int (σ 52 2 - Int32.ofInt 1)] 0 0 _ _
      rw [hN, zsub]
      refine s_withinZ d hi (by unfold zr; omega) (by unfold zr; omega) _ _ ?_
      by_cases c3 : 0 ≤ i ∧ i < N
      · rw [if_pos (by omega)]
        rw [if_pos c3] at h
        exact And.intro (fun q => absurd q (by decide)) (fun _ => h)
      · rw [if_neg (by omega)]
        rw [if_neg c3] at h
        exact And.intro (fun _ => h) (fun q => absurd rfl q)
    · have c2 : ¬ Int32.ofInt fm = σ 52 1 := c2
      rw [hf, zeq hfm hr] at c2
      rw [if_pos c2] at h
      exact h
set_option maxRecDepth 100000 in
theorem s_holds2 (d : Nat) (Q : am_Q) {i m : Int} {N : Nat} (hN : σ 52 2 = Int32.ofInt (N : Int)) (hN2 : N ≤ 60) (hi : zr i) (hm : zr m) (h1 : hld N i m → Q (some (.int 1)) (lo_M n w3 g σ τ r1 r2)) (h0 : ¬ hld N i m → Q (some (.int 0)) (lo_M n w3 g σ τ r1 r2)) : am_d (d + 1) 45 [.ref 52, .int (Int32.ofInt i), .int (Int32.ofInt m)] 0 0 (lo_M n w3 g σ τ r1 r2) Q := by
  refine am_goT T_X7_holds [.ref 52, .int (Int32.ofInt i), .int (Int32.ofInt m)] rfl rfl (fun _ => false) 30 ?_
  refine And.intro (fun c1 => And.intro (Or.inl rfl) (h0 (fun q => ?_))) (fun c1 => And.intro (fun c2 => And.intro (Or.inl rfl) (h0 (fun q => ?_))) (fun c2 => And.intro (fun c3 => And.intro (Or.inl rfl) (h0 (fun q => ?_))) (fun c3 => And.intro (fun c4 => And.intro (Or.inl rfl) (h0 (fun q => ?_))) (fun c4 => And.intro (Or.inr rfl) (h1 ?_)))))
  · rw [zlt0 hi] at c1
    have := q.1
    omega
  · rw [zlt0 hm] at c2
    have := q.2.1
    omega
  · have c3 : σ 52 2 < Int32.ofInt i := c3
    rw [hN, zlt (by unfold zr; omega) hi] at c3
    have := q.2.2.1
    omega
  · rw [zlt0 hi] at c1
    have c3 : ¬ σ 52 2 < Int32.ofInt i := c3
    rw [hN, zlt (by unfold zr; omega) hi] at c3
    have c4 : σ 52 2 - Int32.ofInt i < Int32.ofInt m := c4
    rw [hN, zsub, zlt (by unfold zr; omega) hm] at c4
    have := q.2.2.2
    omega
  · rw [zlt0 hi] at c1
    rw [zlt0 hm] at c2
    have c3 : ¬ σ 52 2 < Int32.ofInt i := c3
    rw [hN, zlt (by unfold zr; omega) hi] at c3
    have c4 : ¬ σ 52 2 - Int32.ofInt i < Int32.ofInt m := c4
    rw [hN, zsub, zlt (by unfold zr; omega) hm] at c4
    unfold hld
    omega
set_option maxRecDepth 100000 in
theorem s_put2 (d : Nat) (Q : am_Q) {f : Int} {i : Nat} {v : Int32} (hf : σ 52 1 = Int32.ofInt f) (hr : zr f) (hi : i < 60) (h : Q none (lo_M n w3 g (am_u σ 53 i (cutI f v)) τ r1 r2)) : am_d (d + 1) 46 [.ref 52, .int (Int32.ofInt (i : Int)), .int v] 0 0 (lo_M n w3 g σ τ r1 r2) Q := by
  refine am_goT T_X7_put [.ref 52, .int (Int32.ofInt (i : Int)), .int v] rfl rfl (fun _ => false) 30 ?_
  refine And.intro (fun c1 => ?_) (fun c1 => And.intro (fun c2 => ?_) (fun c2 => ?_))
  · have c1 : σ 52 1 = 0 := c1
    rw [hf, zeq0 hr] at c1
    refine ixi i 60 hi ?_
    unfold cutI at h
    rw [if_pos c1] at h
    exact h
  · have c1 : ¬ σ 52 1 = 0 := c1
    have c2 : σ 52 1 = Int32.ofInt 1 := c2
    rw [hf, zeq0 hr] at c1
    rw [hf, zeq hr (by unfold zr; omega)] at c2
    refine ixi i 60 hi ?_
    unfold cutI at h
    rw [if_neg c1, if_pos c2] at h
    exact h
  · have c1 : ¬ σ 52 1 = 0 := c1
    have c2 : ¬ σ 52 1 = Int32.ofInt 1 := c2
    rw [hf, zeq0 hr] at c1
    rw [hf, zeq hr (by unfold zr; omega)] at c2
    refine ixi i 60 hi ?_
    unfold cutI at h
    rw [if_neg c1, if_neg c2] at h
    exact h
set_option maxRecDepth 100000 in
theorem s_renew_loop2 (d : Nat) (Q : am_Q) {x1 x2 : Int32} : ∀ (k i : Nat) (σ : Nat → Nat → Int32), i + k = 60 →
    (∀ σ' : Nat → Nat → Int32, (∀ c, c ≠ 53 → σ' c = σ c) → (∀ j, σ' 53 j = if i ≤ j ∧ j < 60 then Int32.ofInt 0 else σ 53 j) → Q none (lo_M n w3 g σ' τ r1 r2)) →
    am_wp (am_d d) T_X7_renew Q (12, [.ref 52, .int x1, .int x2, .int (Int32.ofInt (i : Int))], [], 0, 0) (lo_M n w3 g σ τ r1 r2) := by
  intro k
  induction k with
  | zero =>
    intro i σ hi h
    refine am_wp_go (am_d_cm _) (fun pc => Nat.beq pc 12) 60 ?_
    refine And.intro (fun c1 => ?_) (fun c1 => absurd ?_ c1)
    · exact h σ (fun _ _ => rfl) (fun j => by rw [if_neg (by omega)])
    · rw [zle (by unfold zr; omega) (by unfold zr; omega)]
      omega
  | succ k ih =>
    intro i σ hi h
    refine am_wp_go (am_d_cm _) (fun pc => Nat.beq pc 12) 60 ?_
    refine And.intro (fun c1 => ?_) (fun c1 => ?_)
    · rw [zle (by unfold zr; omega) (by unfold zr; omega)] at c1
      omega
    · refine ixi i 60 (by omega) ?_
      show am_wp _ _ _ (12, [.ref 52, .int x1, .int x2, .int (Int32.ofInt (i : Int) + Int32.ofInt 1)], [], 0, 0) (lo_M n w3 g (am_u σ 53 i (Int32.ofInt 0)) τ r1 r2)
      rw [zadd, show ((i : Int) + 1) = ((i + 1 : Nat) : Int) by omega]
      refine ih (i + 1) _ (by omega) (fun σ' k1 k2 => h σ' (fun c hc => by rw [k1 c hc, am_u_ne hc]) (fun j => ?_))
      rw [k2 j, am_u_at]
      by_cases e : j = i
      · subst e
        rw [if_neg (by omega), if_pos rfl, if_pos (by omega)]
      · by_cases e2 : i + 1 ≤ j ∧ j < 60
        · rw [if_pos e2, if_pos (by omega)]
        · rw [if_neg e2, if_neg e, if_neg (by omega)]
set_option maxRecDepth 100000 in
theorem s_renew2 (d : Nat) (Q : am_Q) {x1 x2 : Int32} (h : ∀ σ' : Nat → Nat → Int32, (∀ c, c ≠ 52 → c ≠ 53 → σ' c = σ c) → σ' 52 1 = x1 → σ' 52 2 = x2 → (∀ j, j < 60 → σ' 53 j = Int32.ofInt 0) → Q none (lo_M n w3 g σ' τ r1 r2)) : am_d (d + 1) 43 [.ref 52, .int x1, .int x2] 0 0 (lo_M n w3 g σ τ r1 r2) Q := by
  refine am_goT T_X7_renew [.ref 52, .int x1, .int x2, .null] rfl rfl (fun pc => Nat.beq pc 12) 30 ?_
  refine s_renew_loop2 d Q 60 0 (am_u (am_u σ 52 1 x1) 52 2 x2) (by omega) (fun σ' k1 k2 => h σ' (fun c e1 e2 => by rw [k1 c e2, am_u_ne e1, am_u_ne e1]) ?_ ?_ (fun j hj => by rw [k2 j, if_pos (by omega)]))
  · rw [k1 52 (by decide)]
    rfl
  · rw [k1 52 (by decide)]
    rfl
set_option maxRecDepth 100000 in
theorem s_isLost3 (d : Nat) (Q : am_Q) {f : Int} (hf : σ 54 1 = Int32.ofInt f) (hr : zr f) (h : Q (some (.int (if f = -1 then 1 else 0))) (lo_M n w3 g σ τ r1 r2)) : am_d (d + 1) 42 [.ref 54] 0 0 (lo_M n w3 g σ τ r1 r2) Q := by
  refine am_goT T_X7_isLost [.ref 54] rfl rfl (fun _ => false) 30 ?_
  refine And.intro (fun c1 => And.intro (Or.inr rfl) ?_) (fun c1 => And.intro (Or.inl rfl) ?_)
  · have c1 : σ 54 1 = Int32.ofInt (-1) := c1
    rw [hf, zeq hr (by unfold zr; omega)] at c1
    rw [if_pos c1] at h
    exact h
  · have c1 : ¬ σ 54 1 = Int32.ofInt (-1) := c1
    rw [hf, zeq hr (by unfold zr; omega)] at c1
    rw [if_neg c1] at h
    exact h
set_option maxRecDepth 100000 in
theorem s_findingAt3 (d : Nat) (Q : am_Q) {f fm i : Int} {N : Nat} (hf : σ 54 1 = Int32.ofInt f) (hr : zr f) (hN : σ 54 2 = Int32.ofInt (N : Int)) (hN2 : N ≤ 60) (hfm : zr fm) (hi : zr i) (h : Q (some (.int (Int32.ofInt (fnd f N fm i)))) (lo_M n w3 g σ τ r1 r2)) : am_d (d + 2) 44 [.ref 54, .int (Int32.ofInt fm), .int (Int32.ofInt i)] 0 0 (lo_M n w3 g σ τ r1 r2) Q := by
  refine am_goT T_X7_findingAt [.ref 54, .int (Int32.ofInt fm), .int (Int32.ofInt i)] rfl rfl (fun _ => false) 30 ?_
  refine s_isLost3 d _ hf hr ?_
  unfold fnd at h
  by_cases c1 : f = -1
  · rw [if_pos c1] at h ⊢
    exact And.intro (fun q => absurd q (by decide)) (fun _ => h)
  · rw [if_neg c1] at h ⊢
    refine And.intro (fun _ => ?_) (fun q => absurd rfl q)
    refine And.intro (fun c2 => ?_) (fun c2 => ?_)
    · have c2 : Int32.ofInt fm = σ 54 1 := c2
      rw [hf, zeq hfm hr] at c2
      rw [if_neg (fun q => q c2)] at h
      show am_d (d + 1) 88 [.int (Int32.ofInt i), .int (Int32.ofInt 0), .int (σ 54 2 - Int32.ofInt 1)] 0 0 _ _
      rw [hN, zsub]
      refine s_withinZ d hi (by unfold zr; omega) (by unfold zr; omega) _ _ ?_
      by_cases c3 : 0 ≤ i ∧ i < N
      · rw [if_pos (by omega)]
        rw [if_pos c3] at h
        exact And.intro (fun q => absurd q (by decide)) (fun _ => h)
      · rw [if_neg (by omega)]
        rw [if_neg c3] at h
        exact And.intro (fun _ => h) (fun q => absurd rfl q)
    · have c2 : ¬ Int32.ofInt fm = σ 54 1 := c2
      rw [hf, zeq hfm hr] at c2
      rw [if_pos c2] at h
      exact h
set_option maxRecDepth 100000 in
theorem s_holds3 (d : Nat) (Q : am_Q) {i m : Int} {N : Nat} (hN : σ 54 2 = Int32.ofInt (N : Int)) (hN2 : N ≤ 60) (hi : zr i) (hm : zr m) (h1 : hld N i m → Q (some (.int 1)) (lo_M n w3 g σ τ r1 r2)) (h0 : ¬ hld N i m → Q (some (.int 0)) (lo_M n w3 g σ τ r1 r2)) : am_d (d + 1) 45 [.ref 54, .int (Int32.ofInt i), .int (Int32.ofInt m)] 0 0 (lo_M n w3 g σ τ r1 r2) Q := by
  refine am_goT T_X7_holds [.ref 54, .int (Int32.ofInt i), .int (Int32.ofInt m)] rfl rfl (fun _ => false) 30 ?_
  refine And.intro (fun c1 => And.intro (Or.inl rfl) (h0 (fun q => ?_))) (fun c1 => And.intro (fun c2 => And.intro (Or.inl rfl) (h0 (fun q => ?_))) (fun c2 => And.intro (fun c3 => And.intro (Or.inl rfl) (h0 (fun q => ?_))) (fun c3 => And.intro (fun c4 => And.intro (Or.inl rfl) (h0 (fun q => ?_))) (fun c4 => And.intro (Or.inr rfl) (h1 ?_)))))
  · rw [zlt0 hi] at c1
    have := q.1
    omega
  · rw [zlt0 hm] at c2
    have := q.2.1
    omega
  · have c3 : σ 54 2 < Int32.ofInt i := c3
    rw [hN, zlt (by unfold zr; omega) hi] at c3
    have := q.2.2.1
    omega
  · rw [zlt0 hi] at c1
    have c3 : ¬ σ 54 2 < Int32.ofInt i := c3
    rw [hN, zlt (by unfold zr; omega) hi] at c3
    have c4 : σ 54 2 - Int32.ofInt i < Int32.ofInt m := c4
    rw [hN, zsub, zlt (by unfold zr; omega) hm] at c4
    have := q.2.2.2
    omega
  · rw [zlt0 hi] at c1
    rw [zlt0 hm] at c2
    have c3 : ¬ σ 54 2 < Int32.ofInt i := c3
    rw [hN, zlt (by unfold zr; omega) hi] at c3
    have c4 : ¬ σ 54 2 - Int32.ofInt i < Int32.ofInt m := c4
    rw [hN, zsub, zlt (by unfold zr; omega) hm] at c4
    unfold hld
    omega
set_option maxRecDepth 100000 in
theorem s_put3 (d : Nat) (Q : am_Q) {f : Int} {i : Nat} {v : Int32} (hf : σ 54 1 = Int32.ofInt f) (hr : zr f) (hi : i < 60) (h : Q none (lo_M n w3 g (am_u σ 55 i (cutI f v)) τ r1 r2)) : am_d (d + 1) 46 [.ref 54, .int (Int32.ofInt (i : Int)), .int v] 0 0 (lo_M n w3 g σ τ r1 r2) Q := by
  refine am_goT T_X7_put [.ref 54, .int (Int32.ofInt (i : Int)), .int v] rfl rfl (fun _ => false) 30 ?_
  refine And.intro (fun c1 => ?_) (fun c1 => And.intro (fun c2 => ?_) (fun c2 => ?_))
  · have c1 : σ 54 1 = 0 := c1
    rw [hf, zeq0 hr] at c1
    refine ixi i 60 hi ?_
    unfold cutI at h
    rw [if_pos c1] at h
    exact h
  · have c1 : ¬ σ 54 1 = 0 := c1
    have c2 : σ 54 1 = Int32.ofInt 1 := c2
    rw [hf, zeq0 hr] at c1
    rw [hf, zeq hr (by unfold zr; omega)] at c2
    refine ixi i 60 hi ?_
    unfold cutI at h
    rw [if_neg c1, if_pos c2] at h
    exact h
  · have c1 : ¬ σ 54 1 = 0 := c1
    have c2 : ¬ σ 54 1 = Int32.ofInt 1 := c2
    rw [hf, zeq0 hr] at c1
    rw [hf, zeq hr (by unfold zr; omega)] at c2
    refine ixi i 60 hi ?_
    unfold cutI at h
    rw [if_neg c1, if_neg c2] at h
    exact h
set_option maxRecDepth 100000 in
theorem s_renew_loop3 (d : Nat) (Q : am_Q) {x1 x2 : Int32} : ∀ (k i : Nat) (σ : Nat → Nat → Int32), i + k = 60 →
    (∀ σ' : Nat → Nat → Int32, (∀ c, c ≠ 55 → σ' c = σ c) → (∀ j, σ' 55 j = if i ≤ j ∧ j < 60 then Int32.ofInt 0 else σ 55 j) → Q none (lo_M n w3 g σ' τ r1 r2)) →
    am_wp (am_d d) T_X7_renew Q (12, [.ref 54, .int x1, .int x2, .int (Int32.ofInt (i : Int))], [], 0, 0) (lo_M n w3 g σ τ r1 r2) := by
  intro k
  induction k with
  | zero =>
    intro i σ hi h
    refine am_wp_go (am_d_cm _) (fun pc => Nat.beq pc 12) 60 ?_
    refine And.intro (fun c1 => ?_) (fun c1 => absurd ?_ c1)
    · exact h σ (fun _ _ => rfl) (fun j => by rw [if_neg (by omega)])
    · rw [zle (by unfold zr; omega) (by unfold zr; omega)]
      omega
  | succ k ih =>
    intro i σ hi h
    refine am_wp_go (am_d_cm _) (fun pc => Nat.beq pc 12) 60 ?_
    refine And.intro (fun c1 => ?_) (fun c1 => ?_)
    · rw [zle (by unfold zr; omega) (by unfold zr; omega)] at c1
      omega
    · refine ixi i 60 (by omega) ?_
      show am_wp _ _ _ (12, [.ref 54, .int x1, .int x2, .int (Int32.ofInt (i : Int) + Int32.ofInt 1)], [], 0, 0) (lo_M n w3 g (am_u σ 55 i (Int32.ofInt 0)) τ r1 r2)
      rw [zadd, show ((i : Int) + 1) = ((i + 1 : Nat) : Int) by omega]
      refine ih (i + 1) _ (by omega) (fun σ' k1 k2 => h σ' (fun c hc => by rw [k1 c hc, am_u_ne hc]) (fun j => ?_))
      rw [k2 j, am_u_at]
      by_cases e : j = i
      · subst e
        rw [if_neg (by omega), if_pos rfl, if_pos (by omega)]
      · by_cases e2 : i + 1 ≤ j ∧ j < 60
        · rw [if_pos e2, if_pos (by omega)]
        · rw [if_neg e2, if_neg e, if_neg (by omega)]
set_option maxRecDepth 100000 in
theorem s_renew3 (d : Nat) (Q : am_Q) {x1 x2 : Int32} (h : ∀ σ' : Nat → Nat → Int32, (∀ c, c ≠ 54 → c ≠ 55 → σ' c = σ c) → σ' 54 1 = x1 → σ' 54 2 = x2 → (∀ j, j < 60 → σ' 55 j = Int32.ofInt 0) → Q none (lo_M n w3 g σ' τ r1 r2)) : am_d (d + 1) 43 [.ref 54, .int x1, .int x2] 0 0 (lo_M n w3 g σ τ r1 r2) Q := by
  refine am_goT T_X7_renew [.ref 54, .int x1, .int x2, .null] rfl rfl (fun pc => Nat.beq pc 12) 30 ?_
  refine s_renew_loop3 d Q 60 0 (am_u (am_u σ 54 1 x1) 54 2 x2) (by omega) (fun σ' k1 k2 => h σ' (fun c e1 e2 => by rw [k1 c e2, am_u_ne e1, am_u_ne e1]) ?_ ?_ (fun j hj => by rw [k2 j, if_pos (by omega)]))
  · rw [k1 54 (by decide)]
    rfl
  · rw [k1 54 (by decide)]
    rfl
end SH
