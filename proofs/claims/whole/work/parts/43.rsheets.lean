/-! the reference: sheets -/
section RSH
variable {n w3 : Nat} {g : Nat → Nat × Nat} {σ : Nat → Nat → Int32} {τ : Nat → Nat → Int64} {r1 r2 : Nat} {A : aN} {B : aZ}
set_option maxRecDepth 100000 in
theorem r_sheet_loop (d : Nat) (Q : am_Q) {s : Nat} {f : Int32} (hs : s < 4) {N : Nat} (hN : N ≤ 60) : ∀ (k i : Nat) (σ : Nat → Nat → Int32), i + k = N →
    (∀ σ' : Nat → Nat → Int32, (∀ c, c ≠ 59 → σ' c = σ c) → (∀ j, σ' 59 j = if 60 * s + i ≤ j ∧ j < 60 * s + N then Int32.ofInt 0 else σ 59 j) → Q (some (.int (Int32.ofInt (N : Int)))) (lo_M n w3 g σ' τ r1 r2)) →
    am_wp (am_d d) T_X10_sheet Q (55, [.ref 56, .int (Int32.ofInt (s : Int)), .int f, .int (Int32.ofInt (N : Int)), .int (Int32.ofInt (i : Int))], [], 0, 0) (lo_M n w3 g σ τ r1 r2) := by
  intro k
  induction k with
  | zero =>
    intro i σ hi h
    refine am_wp_go (am_d_cm _) (fun pc => Nat.beq pc 55) 60 ?_
    refine And.intro (fun c1 => ?_) (fun c1 => absurd ?_ c1)
    · exact h σ (fun _ _ => rfl) (fun j => by rw [if_neg (by omega)])
    · rw [zle (by unfold zr; omega) (by unfold zr; omega)]
      omega
  | succ k ih =>
    intro i σ hi h
    refine am_wp_go (am_d_cm _) (fun pc => Nat.beq pc 55) 60 ?_
    refine And.intro (fun c1 => ?_) (fun c1 => ?_)
    · rw [zle (by unfold zr; omega) (by unfold zr; omega)] at c1
      omega
    · refine ixi (60 * s + i) 240 (by omega) ?_ (by rw [zmul, zadd]; congr 1)
      show am_wp _ _ _ (55, [.ref 56, .int (Int32.ofInt (s : Int)), .int f, .int (Int32.ofInt (N : Int)), .int (Int32.ofInt (i : Int) + Int32.ofInt 1)], [], 0, 0) (lo_M n w3 g (am_u σ 59 (60 * s + i) (Int32.ofInt 0)) τ r1 r2)
      rw [zadd, show ((i : Int) + 1) = ((i + 1 : Nat) : Int) by omega]
      refine ih (i + 1) _ (by omega) (fun σ' k1 k2 => h σ' (fun c hc => by rw [k1 c hc, am_u_ne hc]) (fun j => ?_))
      rw [k2 j, am_u_at]
      by_cases e : j = 60 * s + i
      · rw [if_neg (by omega), if_pos e, if_pos (by omega)]
      · rw [if_neg e]
        by_cases e2 : 60 * s + i ≤ j ∧ j < 60 * s + N
        · rw [if_pos e2, if_pos (by omega)]
        · rw [if_neg e2, if_neg (by omega)]
set_option maxRecDepth 100000 in
theorem r_sheet (d : Nat) (Q : am_Q) {z f m : Int} (hz : zr z) (hf : zr f) (hm : zr m)
    (hbad : ¬ ((0 ≤ z ∧ z ≤ 3) ∧ (0 ≤ f ∧ f ≤ 2) ∧ m ≤ 60) → Q (some (.int (Int32.ofInt (-2)))) (lo_M n w3 g σ τ r1 r2))
    (hneg : (0 ≤ z ∧ z ≤ 3) ∧ (0 ≤ f ∧ f ≤ 2) ∧ m ≤ 60 → m < 0 → Q (some (.int (Int32.ofInt (-15)))) (lo_M n w3 g (am_u σ 56 4 (Int32.ofInt 5)) τ r1 r2))
    (hok : ∀ s : Nat, z = (s : Int) → s < 4 → (0 ≤ f ∧ f ≤ 2) ∧ m ≤ 60 → 0 ≤ m → ∀ σ' : Nat → Nat → Int32, (∀ c, c ≠ 57 → c ≠ 58 → c ≠ 59 → σ' c = σ c) → (∀ t, σ' 57 t = if t = s then Int32.ofInt f else σ 57 t) → (∀ t, σ' 58 t = if t = s then Int32.ofInt m else σ 58 t) → (∀ j, σ' 59 j = if 60 * s ≤ j ∧ j < 60 * s + m.toNat then Int32.ofInt 0 else σ 59 j) → Q (some (.int (Int32.ofInt m))) (lo_M n w3 g σ' τ r1 r2)) :
    am_d (d + 3) 116 [.ref 56, .int (Int32.ofInt z), .int (Int32.ofInt f), .int (Int32.ofInt m)] 0 0 (lo_M n w3 g σ τ r1 r2) Q := by
  refine am_goT T_X10_sheet [.ref 56, .int (Int32.ofInt z), .int (Int32.ofInt f), .int (Int32.ofInt m), .null] rfl rfl (fun pc => Nat.beq pc 55) 60 ?_
  refine r_isSheet d hz _ _ ?_
  by_cases c : 0 ≤ z ∧ z ≤ 3
  · rw [if_pos c]
    refine And.intro (fun q => absurd q (by decide)) (fun _ => ?_)
    refine r_inZ (d + 1) (lo := 0) (hi := 2) hf (by unfold zr; omega) (by unfold zr; omega) _ _ ?_
    by_cases cf : 0 ≤ f ∧ f ≤ 2
    · rw [if_pos cf]
      refine And.intro (fun q => absurd q (by decide)) (fun _ => ?_)
      refine And.intro (fun c1 => ?_) (fun c1 => ?_)
      · rw [zle hm (by unfold zr; omega)] at c1
        refine And.intro (fun c2 => ?_) (fun c2 => ?_)
        · rw [z0le hm] at c2
          obtain ⟨s, rfl⟩ := Int.eq_ofNat_of_zero_le c.1
          obtain ⟨N, rfl⟩ := Int.eq_ofNat_of_zero_le c2
          refine ixi s 4 (by omega) ?_
          refine ixi s 4 (by omega) ?_
          refine r_sheet_loop (d + 2) Q (by omega) (by omega) N 0 (am_u (am_u σ 57 s (Int32.ofInt f)) 58 s (Int32.ofInt (N : Int))) (by omega) (fun σ' k1 k2 => ?_)
          refine hok s rfl (by omega) ⟨cf, c1⟩ c2 σ' (fun c e1 e2 e3 => by rw [k1 c e3, am_u_ne e2, am_u_ne e1]) (fun t => by rw [k1 57 (by decide), am_u_ne (by decide), am_u_at]) (fun t => by rw [k1 58 (by decide), am_u_at, am_u_ne (by decide)]) (fun j => ?_)
          rw [k2 j, am_u_ne (by decide), am_u_ne (by decide)]
          rfl
        · rw [z0le hm] at c2
          exact r_met (d + 1) _ (hneg ⟨c, cf, c1⟩ (by omega))
      · rw [zle hm (by unfold zr; omega)] at c1
        exact hbad (fun q => c1 q.2.2)
    · rw [if_neg cf]
      exact And.intro (fun _ => hbad (fun q => cf q.2.1)) (fun q => absurd rfl q)
  · rw [if_neg c]
    exact And.intro (fun _ => hbad (fun q => c q.1)) (fun q => absurd rfl q)
set_option maxRecDepth 100000 in
theorem r_lose (d : Nat) (Q : am_Q) {z : Int} (hz : zr z) (hm : IM A B σ) (hwf : WF A B)
    (hbad : ¬ (0 ≤ z ∧ z ≤ 3) → Q (some (.int (Int32.ofInt (-2)))) (lo_M n w3 g σ τ r1 r2))
    (hlost : ∀ s : Nat, z = (s : Int) → s < 4 → B 0 s = -1 → Q (some (.int (Int32.ofInt (-11)))) (lo_M n w3 g (am_u σ 56 4 (Int32.ofInt 1)) τ r1 r2))
    (hok : ∀ s : Nat, z = (s : Int) → s < 4 → B 0 s ≠ -1 → Q (some (.int (Int32.ofInt (A 11 s : Int)))) (lo_M n w3 g (am_u σ 57 s (Int32.ofInt (-1))) τ r1 r2)) :
    am_d (d + 3) 117 [.ref 56, .int (Int32.ofInt z)] 0 0 (lo_M n w3 g σ τ r1 r2) Q := by
  have hH := hm.2.2.2.2.2.2.2.1
  have hB := hwf.2.2.2.2.2.2.2.2.2.2.2.2.2.1
  refine am_goT T_X10_lose [.ref 56, .int (Int32.ofInt z)] rfl rfl (fun _ => false) 60 ?_
  refine r_isSheet d hz _ _ ?_
  by_cases c : 0 ≤ z ∧ z ≤ 3
  · rw [if_pos c]
    refine And.intro (fun q => absurd q (by decide)) (fun _ => ?_)
    obtain ⟨s, rfl⟩ := Int.eq_ofNat_of_zero_le c.1
    have hBs := hB s
    obtain ⟨t1, t2, -⟩ := hH s (by omega)
    refine ixi s 4 (by omega) ?_
    refine And.intro (fun c1 => ?_) (fun c1 => ?_)
    · have c1 : 0 ≤ σ 57 s := c1
      rw [t1, z0le (by unfold zr; omega)] at c1
      have hok := hok s rfl (by omega) (by omega)
      rw [← t2] at hok
      refine ixi s 4 (by omega) ?_
      refine ixi s 4 (by omega) ?_
      exact hok
    · have c1 : ¬ 0 ≤ σ 57 s := c1
      rw [t1, z0le (by unfold zr; omega)] at c1
      exact r_met (d + 1) _ (hlost s rfl (by omega) (by omega))
  · rw [if_neg c]
    exact And.intro (fun _ => hbad c) (fun q => absurd rfl q)
set_option maxRecDepth 100000 in
theorem r_lacks (d : Nat) (Q : am_Q) {s : Nat} {f i : Int} (hs : s < 4) (hf : zr f) (hi : zr i) (hm : IM A B σ) (hwf : WF A B)
    (hfnd : fnd (B 0 s) (A 11 s) f i ≠ 0 → Q (some (.int (Int32.ofInt (-10 - fnd (B 0 s) (A 11 s) f i)))) (lo_M n w3 g (am_u σ 56 4 (Int32.ofInt (fnd (B 0 s) (A 11 s) f i))) τ r1 r2))
    (hok : fnd (B 0 s) (A 11 s) f i = 0 → Q (some (.int (Int32.ofInt 0))) (lo_M n w3 g σ τ r1 r2)) :
    am_d (d + 2) 118 [.ref 56, .int (Int32.ofInt (s : Int)), .int (Int32.ofInt f), .int (Int32.ofInt i)] 0 0 (lo_M n w3 g σ τ r1 r2) Q := by
  have hBs := hwf.2.2.2.2.2.2.2.2.2.2.2.2.2.1 s
  have hAs := hwf.2.2.2.2.2.2.2.2.2.2.2.2.1 s
  obtain ⟨t1, t2, -⟩ := hm.2.2.2.2.2.2.2.1 s (by omega)
  refine am_goT T_X10_lacks [.ref 56, .int (Int32.ofInt (s : Int)), .int (Int32.ofInt f), .int (Int32.ofInt i)] rfl rfl (fun _ => false) 60 ?_
  refine ixi s 4 (by omega) ?_
  refine And.intro (fun c1 => ?_) (fun c1 => ?_)
  · have c1 : 0 ≤ σ 57 s := c1
    rw [t1, z0le (by unfold zr; omega)] at c1
    refine ixi s 4 (by omega) ?_
    refine And.intro (fun c2 => ?_) (fun c2 => ?_)
    · have c2 : σ 57 s = Int32.ofInt f := c2
      rw [t1, zeq (by unfold zr; omega) hf] at c2
      refine ixi s 4 (by omega) ?_
      show am_d (d + 1) 109 [.long (Int32.ofInt i).toInt64, .long (Int64.ofInt 0), .long (σ 58 s - Int32.ofInt 1).toInt64] 0 0 _ _
      rw [t2, zsub]
      refine r_inI d (lo := 0) hi (by unfold zr; omega) (by unfold zr; omega) _ _ ?_
      by_cases c3 : 0 ≤ i ∧ i ≤ (A 11 s : Int) - 1
      · rw [if_pos c3]
        refine And.intro (fun q => absurd q (by decide)) (fun _ => ?_)
        exact hok (by unfold fnd; rw [if_neg (by omega), if_neg (fun q => q c2.symm), if_pos (by omega)])
      · rw [if_neg c3]
        refine And.intro (fun _ => ?_) (fun q => absurd rfl q)
        have e : fnd (B 0 s) (A 11 s) f i = 2 := by unfold fnd; rw [if_neg (by omega), if_neg (fun q => q c2.symm), if_neg (by omega)]
        rw [e] at hfnd
        exact r_met d _ (hfnd (by decide))
    · have c2 : ¬ σ 57 s = Int32.ofInt f := c2
      rw [t1, zeq (by unfold zr; omega) hf] at c2
      have e : fnd (B 0 s) (A 11 s) f i = 3 := by unfold fnd; rw [if_neg (by omega), if_pos (fun q => c2 q.symm)]
      rw [e] at hfnd
      exact r_met d _ (hfnd (by decide))
  · have c1 : ¬ 0 ≤ σ 57 s := c1
    rw [t1, z0le (by unfold zr; omega)] at c1
    have e : fnd (B 0 s) (A 11 s) f i = 1 := by unfold fnd; rw [if_pos (by omega)]
    rw [e] at hfnd
    exact r_met d _ (hfnd (by decide))
set_option maxRecDepth 100000 in
theorem r_lay (d : Nat) (Q : am_Q) {z f i v : Int} (hz : zr z) (hf : zr f) (hi : zr i) (hm : IM A B σ) (hwf : WF A B)
    (hbad : ¬ ((0 ≤ z ∧ z ≤ 3) ∧ (0 ≤ f ∧ f ≤ 2)) → Q (some (.int (Int32.ofInt (-2)))) (lo_M n w3 g σ τ r1 r2))
    (hfnd : ∀ s : Nat, z = (s : Int) → s < 4 → 0 ≤ f ∧ f ≤ 2 → fnd (B 0 s) (A 11 s) f i ≠ 0 → Q (some (.int (Int32.ofInt (-10 - fnd (B 0 s) (A 11 s) f i)))) (lo_M n w3 g (am_u σ 56 4 (Int32.ofInt (fnd (B 0 s) (A 11 s) f i))) τ r1 r2))
    (hok : ∀ s : Nat, z = (s : Int) → s < 4 → 0 ≤ f ∧ f ≤ 2 → fnd (B 0 s) (A 11 s) f i = 0 → Q (some (.int (Int32.ofInt 1))) (lo_M n w3 g (am_u σ 59 (60 * s + i.toNat) (cutI f (Int32.ofInt v))) τ r1 r2)) :
    am_d (d + 3) 120 [.ref 56, .int (Int32.ofInt z), .int (Int32.ofInt f), .int (Int32.ofInt i), .int (Int32.ofInt v)] 0 0 (lo_M n w3 g σ τ r1 r2) Q := by
  refine am_goT T_X10_lay [.ref 56, .int (Int32.ofInt z), .int (Int32.ofInt f), .int (Int32.ofInt i), .int (Int32.ofInt v), .null] rfl rfl (fun _ => false) 60 ?_
  refine r_isSheet d hz _ _ ?_
  by_cases c : 0 ≤ z ∧ z ≤ 3
  · rw [if_pos c]
    refine And.intro (fun q => absurd q (by decide)) (fun _ => ?_)
    refine r_inZ (d + 1) (lo := 0) (hi := 2) hf (by unfold zr; omega) (by unfold zr; omega) _ _ ?_
    by_cases cf : 0 ≤ f ∧ f ≤ 2
    · rw [if_pos cf]
      refine And.intro (fun q => absurd q (by decide)) (fun _ => ?_)
      obtain ⟨s, rfl⟩ := Int.eq_ofNat_of_zero_le c.1
      have hAs := hwf.2.2.2.2.2.2.2.2.2.2.2.2.1 s
      refine r_lacks d _ (by omega) hf hi hm hwf (fun c1 => ?_) (fun c1 => ?_)
      · have fr := fnd_rng (B 0 s) (A 11 s) f i
        refine And.intro (fun q => ?_) (fun _ => hfnd s rfl (by omega) cf c1)
        rw [zeq0 (by unfold zr; omega)] at q
        omega
      · have hin := fnd_in c1
        refine And.intro (fun _ => ?_) (fun q => absurd rfl q)
        refine r_cut (d + 1) hf _ _ ?_
        refine ixi (60 * s + i.toNat) 240 (by omega) ?_ (by rw [zmul, zadd]; congr 1; omega)
        exact hok s rfl (by omega) cf c1
    · rw [if_neg cf]
      exact And.intro (fun _ => hbad (fun q => cf q.2)) (fun q => absurd rfl q)
  · rw [if_neg c]
    exact And.intro (fun _ => hbad (fun q => c q.1)) (fun q => absurd rfl q)
set_option maxRecDepth 100000 in
theorem r_get (d : Nat) (Q : am_Q) {z f i : Int} (hz : zr z) (hf : zr f) (hi : zr i) (hm : IM A B σ) (hwf : WF A B)
    (hbad : ¬ ((0 ≤ z ∧ z ≤ 3) ∧ (0 ≤ f ∧ f ≤ 2)) → Q (some (.int (Int32.ofInt (-2147483648)))) (lo_M n w3 g σ τ r1 r2))
    (hfnd : ∀ s : Nat, z = (s : Int) → s < 4 → 0 ≤ f ∧ f ≤ 2 → fnd (B 0 s) (A 11 s) f i ≠ 0 → Q (some (.int (Int32.ofInt (-2147483648)))) (lo_M n w3 g (am_u σ 56 4 (Int32.ofInt (fnd (B 0 s) (A 11 s) f i))) τ r1 r2))
    (hok : ∀ s : Nat, z = (s : Int) → s < 4 → 0 ≤ f ∧ f ≤ 2 → fnd (B 0 s) (A 11 s) f i = 0 → Q (some (.int (Int32.ofInt (B (1 + s) i.toNat)))) (lo_M n w3 g σ τ r1 r2)) :
    am_d (d + 3) 121 [.ref 56, .int (Int32.ofInt z), .int (Int32.ofInt f), .int (Int32.ofInt i)] 0 0 (lo_M n w3 g σ τ r1 r2) Q := by
  refine am_goT T_X10_get [.ref 56, .int (Int32.ofInt z), .int (Int32.ofInt f), .int (Int32.ofInt i)] rfl rfl (fun _ => false) 60 ?_
  refine r_isSheet d hz _ _ ?_
  by_cases c : 0 ≤ z ∧ z ≤ 3
  · rw [if_pos c]
    refine And.intro (fun q => absurd q (by decide)) (fun _ => ?_)
    refine r_inZ (d + 1) (lo := 0) (hi := 2) hf (by unfold zr; omega) (by unfold zr; omega) _ _ ?_
    by_cases cf : 0 ≤ f ∧ f ≤ 2
    · rw [if_pos cf]
      refine And.intro (fun q => absurd q (by decide)) (fun _ => ?_)
      obtain ⟨s, rfl⟩ := Int.eq_ofNat_of_zero_le c.1
      have hAs := hwf.2.2.2.2.2.2.2.2.2.2.2.2.1 s
      refine r_lacks d _ (by omega) hf hi hm hwf (fun c1 => ?_) (fun c1 => ?_)
      · have fr := fnd_rng (B 0 s) (A 11 s) f i
        refine And.intro (fun q => ?_) (fun _ => hfnd s rfl (by omega) cf c1)
        rw [zeq0 (by unfold zr; omega)] at q
        omega
      · have hin := fnd_in c1
        refine And.intro (fun _ => ?_) (fun q => absurd rfl q)
        refine ixi (60 * s + i.toNat) 240 (by omega) ?_ (by rw [zmul, zadd]; congr 1; omega)
        have hok := hok s rfl (by omega) cf c1
        rw [← (hm.2.2.2.2.2.2.2.1 s (by omega)).2.2 i.toNat (by omega)] at hok
        exact hok
    · rw [if_neg cf]
      exact And.intro (fun _ => hbad (fun q => cf q.2)) (fun q => absurd rfl q)
  · rw [if_neg c]
    exact And.intro (fun _ => hbad (fun q => c q.1)) (fun q => absurd rfl q)
set_option maxRecDepth 100000 in
theorem r_copy_loop2 (d : Nat) (Q : am_Q) {t j : Nat} {x1 x2 : Int32} (ht : t < 4) {N : Nat} (hN : j + N ≤ 60) : ∀ (k a : Nat) (σ : Nat → Nat → Int32), a + k = N →
    (∀ σ' : Nat → Nat → Int32, (∀ c, c ≠ 59 → σ' c = σ c) → (∀ l, σ' 59 l = if 60 * t + j + a ≤ l ∧ l < 60 * t + j + N then σ 60 (l - (60 * t + j)) else σ 59 l) → Q (some (.int (Int32.ofInt 1))) (lo_M n w3 g σ' τ r1 r2)) →
    am_wp (am_d d) T_X10_copy Q (157, [.ref 56, .int x1, .int x2, .int (Int32.ofInt (t : Int)), .int (Int32.ofInt (j : Int)), .int (Int32.ofInt (N : Int)), .int (Int32.ofInt (a : Int))], [], 0, 0) (lo_M n w3 g σ τ r1 r2) := by
  intro k
  induction k with
  | zero =>
    intro a σ hi h
    refine am_wp_go (am_d_cm _) (fun pc => Nat.beq pc 157) 60 ?_
    refine And.intro (fun c1 => ?_) (fun c1 => absurd ?_ c1)
    · exact h σ (fun _ _ => rfl) (fun j => by rw [if_neg (by omega)])
    · rw [zle (by unfold zr; omega) (by unfold zr; omega)]
      omega
  | succ k ih =>
    intro a σ hi h
    refine am_wp_go (am_d_cm _) (fun pc => Nat.beq pc 157) 60 ?_
    refine And.intro (fun c1 => ?_) (fun c1 => ?_)
    · rw [zle (by unfold zr; omega) (by unfold zr; omega)] at c1
      omega
    · refine ixi a 60 (by omega) ?_
      refine ixi (60 * t + j + a) 240 (by omega) ?_ (by rw [zmul, zadd, zadd]; congr 1)
      show am_wp _ _ _ (157, [.ref 56, .int x1, .int x2, .int (Int32.ofInt (t : Int)), .int (Int32.ofInt (j : Int)), .int (Int32.ofInt (N : Int)), .int (Int32.ofInt (a : Int) + Int32.ofInt 1)], [], 0, 0) (lo_M n w3 g (am_u σ 59 (60 * t + j + a) (σ 60 a)) τ r1 r2)
      rw [zadd, show ((a : Int) + 1) = ((a + 1 : Nat) : Int) by omega]
      refine ih (a + 1) _ (by omega) (fun σ' k1 k2 => h σ' (fun c hc => by rw [k1 c hc, am_u_ne hc]) (fun l => ?_))
      rw [k2 l, am_u_at, am_u_ne (c' := 60) (by decide)]
      by_cases e : l = 60 * t + j + a
      · rw [if_neg (by omega), if_pos e, if_pos (by omega), show l - (60 * t + j) = a by omega]
      · rw [if_neg e]
        by_cases e2 : 60 * t + j + a ≤ l ∧ l < 60 * t + j + N
        · rw [if_pos e2, if_pos (by omega)]
        · rw [if_neg e2, if_neg (by omega)]
set_option maxRecDepth 100000 in
theorem r_copy_loop1 (d : Nat) (Q : am_Q) {s i : Nat} {x3 x4 : Int32} (hs : s < 4) {N : Nat} (hN : i + N ≤ 60) : ∀ (k a : Nat) (σ : Nat → Nat → Int32), a + k = N →
    (∀ σ' : Nat → Nat → Int32, (∀ c, c ≠ 60 → σ' c = σ c) → (∀ l, a ≤ l → l < N → σ' 60 l = σ 59 (60 * s + i + l)) → (∀ l, l < a → σ' 60 l = σ 60 l) → am_wp (am_d d) T_X10_copy Q (157, [.ref 56, .int (Int32.ofInt (s : Int)), .int (Int32.ofInt (i : Int)), .int x3, .int x4, .int (Int32.ofInt (N : Int)), .int (Int32.ofInt 0)], [], 0, 0) (lo_M n w3 g σ' τ r1 r2)) →
    am_wp (am_d d) T_X10_copy Q (120, [.ref 56, .int (Int32.ofInt (s : Int)), .int (Int32.ofInt (i : Int)), .int x3, .int x4, .int (Int32.ofInt (N : Int)), .int (Int32.ofInt (a : Int))], [], 0, 0) (lo_M n w3 g σ τ r1 r2) := by
  intro k
  induction k with
  | zero =>
    intro a σ hi h
    refine am_wp_go (am_d_cm _) (fun pc => Nat.beq pc 120 || Nat.beq pc 157) 60 ?_
    refine And.intro (fun c1 => ?_) (fun c1 => absurd ?_ c1)
    · exact h σ (fun _ _ => rfl) (fun l l1 l2 => by omega) (fun _ _ => rfl)
    · rw [zle (by unfold zr; omega) (by unfold zr; omega)]
      omega
  | succ k ih =>
    intro a σ hi h
    refine am_wp_go (am_d_cm _) (fun pc => Nat.beq pc 120 || Nat.beq pc 157) 60 ?_
    refine And.intro (fun c1 => ?_) (fun c1 => ?_)
    · rw [zle (by unfold zr; omega) (by unfold zr; omega)] at c1
      omega
    · refine ixi (60 * s + i + a) 240 (by omega) ?_ (by rw [zmul, zadd, zadd]; congr 1)
      refine ixi a 60 (by omega) ?_
      show am_wp _ _ _ (120, [.ref 56, .int (Int32.ofInt (s : Int)), .int (Int32.ofInt (i : Int)), .int x3, .int x4, .int (Int32.ofInt (N : Int)), .int (Int32.ofInt (a : Int) + Int32.ofInt 1)], [], 0, 0) (lo_M n w3 g (am_u σ 60 a (σ 59 (60 * s + i + a))) τ r1 r2)
      rw [zadd, show ((a : Int) + 1) = ((a + 1 : Nat) : Int) by omega]
      refine ih (a + 1) _ (by omega) (fun σ' k1 k2 k3 => h σ' (fun c hc => by rw [k1 c hc, am_u_ne hc]) (fun l l1 l2 => ?_) (fun l l1 => ?_))
      · by_cases e : l = a
        · subst e
          rw [k3 l (by omega), am_u_at, if_pos rfl]
        · rw [k2 l (by omega) l2, am_u_ne (by decide)]
      · rw [k3 l (by omega), am_u_at, if_neg (by omega)]
set_option maxHeartbeats 1000000 in
set_option maxRecDepth 100000 in
theorem r_copy (d : Nat) (Q : am_Q) {z i y j m : Int} (hz : zr z) (hi : zr i) (hy : zr y) (hj : zr j) (hn : zr m) (hm : IM A B σ) (hwf : WF A B)
    (hbad : ¬ ((0 ≤ z ∧ z ≤ 3) ∧ 0 ≤ y ∧ y ≤ 3) → Q (some (.int (Int32.ofInt (-2)))) (lo_M n w3 g σ τ r1 r2))
    (hlost : ∀ s t : Nat, z = (s : Int) → s < 4 → y = (t : Int) → t < 4 → B 0 s = -1 ∨ B 0 t = -1 → Q (some (.int (Int32.ofInt (-11)))) (lo_M n w3 g (am_u σ 56 4 (Int32.ofInt 1)) τ r1 r2))
    (hform : ∀ s t : Nat, z = (s : Int) → s < 4 → y = (t : Int) → t < 4 → ¬ (B 0 s = -1 ∨ B 0 t = -1) → B 0 s ≠ B 0 t → Q (some (.int (Int32.ofInt (-14)))) (lo_M n w3 g (am_u σ 56 4 (Int32.ofInt 4)) τ r1 r2))
    (hidx : ∀ s t : Nat, z = (s : Int) → s < 4 → y = (t : Int) → t < 4 → ¬ (B 0 s = -1 ∨ B 0 t = -1) → B 0 s = B 0 t → ¬ (hld (A 11 s) i m ∧ hld (A 11 t) j m) → Q (some (.int (Int32.ofInt (-12)))) (lo_M n w3 g (am_u σ 56 4 (Int32.ofInt 2)) τ r1 r2))
    (hok : ∀ s t : Nat, z = (s : Int) → s < 4 → y = (t : Int) → t < 4 → ¬ (B 0 s = -1 ∨ B 0 t = -1) → B 0 s = B 0 t → hld (A 11 s) i m ∧ hld (A 11 t) j m → ∀ σ' : Nat → Nat → Int32, (∀ c, c ≠ 59 → c ≠ 60 → σ' c = σ c) → (∀ l, σ' 59 l = if 60 * t + j.toNat ≤ l ∧ l < 60 * t + j.toNat + m.toNat then σ 59 (60 * s + i.toNat + (l - (60 * t + j.toNat))) else σ 59 l) → Q (some (.int (Int32.ofInt 1))) (lo_M n w3 g σ' τ r1 r2)) :
    am_d (d + 3) 122 [.ref 56, .int (Int32.ofInt z), .int (Int32.ofInt i), .int (Int32.ofInt y), .int (Int32.ofInt j), .int (Int32.ofInt m)] 0 0 (lo_M n w3 g σ τ r1 r2) Q := by
  have hH := hm.2.2.2.2.2.2.2.1
  have hB := hwf.2.2.2.2.2.2.2.2.2.2.2.2.2.1
  have hA := hwf.2.2.2.2.2.2.2.2.2.2.2.2.1
  refine am_goT T_X10_copy [.ref 56, .int (Int32.ofInt z), .int (Int32.ofInt i), .int (Int32.ofInt y), .int (Int32.ofInt j), .int (Int32.ofInt m), .null] rfl rfl (fun pc => Nat.beq pc 120 || Nat.beq pc 157) 80 ?_
  refine r_isSheet d hz _ _ ?_
  by_cases c : 0 ≤ z ∧ z ≤ 3
  · rw [if_pos c]
    refine And.intro (fun q => absurd q (by decide)) (fun _ => ?_)
    refine r_isSheet d hy _ _ ?_
    by_cases cy : 0 ≤ y ∧ y ≤ 3
    · rw [if_pos cy]
      refine And.intro (fun q => absurd q (by decide)) (fun _ => ?_)
      obtain ⟨s, rfl⟩ := Int.eq_ofNat_of_zero_le c.1
      obtain ⟨t, rfl⟩ := Int.eq_ofNat_of_zero_le cy.1
      have hs : s < 4 := by omega
      have ht : t < 4 := by omega
      have hBs := hB s
      have hBt := hB t
      have hAs := hA s
      have hAt := hA t
      obtain ⟨s1, s2, -⟩ := hH s hs
      obtain ⟨t1, t2, -⟩ := hH t ht
      refine ixi s 4 hs ?_
      refine And.intro (fun c1 => ?_) (fun c1 => ?_)
      · have c1 : σ 57 s < 0 := c1
        rw [s1, zlt0 (by unfold zr; omega)] at c1
        exact r_met (d + 1) _ (hlost s t rfl hs rfl ht (by omega))
      have c1 : ¬ σ 57 s < 0 := c1
      rw [s1, zlt0 (by unfold zr; omega)] at c1
      refine ixi t 4 ht ?_
      refine And.intro (fun c2 => ?_) (fun c2 => ?_)
      · have c2 : 0 ≤ σ 57 t := c2
        rw [t1, z0le (by unfold zr; omega)] at c2
        have cl : ¬ (B 0 s = -1 ∨ B 0 t = -1) := by omega
        refine ixi s 4 hs ?_
        refine ixi t 4 ht ?_
        refine And.intro (fun c3 => ?_) (fun c3 => ?_)
        · have c3 : σ 57 s = σ 57 t := c3
          rw [s1, t1, zeq (by unfold zr; omega) (by unfold zr; omega)] at c3
          have no : ¬ (hld (A 11 s) i m ∧ hld (A 11 t) j m) → Q (some (.int (Int32.ofInt (-12)))) (lo_M n w3 g (am_u σ 56 4 (Int32.ofInt 2)) τ r1 r2) := hidx s t rfl hs rfl ht cl c3
          refine And.intro (fun c4 => ?_) (fun c4 => ?_)
          · rw [zlt0 hi] at c4
            exact r_met (d + 1) _ (no (fun q => by have := q.1.1; omega))
          rw [zlt0 hi] at c4
          refine And.intro (fun c5 => ?_) (fun c5 => ?_)
          · rw [zlt0 hj] at c5
            exact r_met (d + 1) _ (no (fun q => by have := q.2.1; omega))
          rw [zlt0 hj] at c5
          refine And.intro (fun c6 => ?_) (fun c6 => ?_)
          · rw [zlt0 hn] at c6
            exact r_met (d + 1) _ (no (fun q => by have := q.1.2.1; omega))
          rw [zlt0 hn] at c6
          refine ixi s 4 hs ?_
          refine And.intro (fun c7 => ?_) (fun c7 => ?_)
          · have c7 : 0 < lg_cmp ((Int32.ofInt i).toInt64 + (Int32.ofInt m).toInt64) (σ 58 s).toInt64 := c7
            unfold zr at hi hn
            rw [s2, yofz hi, yofz hn, yadd, yofz (by unfold zr; omega), lg_cmp_gt, ylt (by unfold yr; omega) (by unfold yr; omega)] at c7
            exact r_met (d + 1) _ (no (fun q => by have := q.1.2.2; omega))
          have c7 : ¬ 0 < lg_cmp ((Int32.ofInt i).toInt64 + (Int32.ofInt m).toInt64) (σ 58 s).toInt64 := c7
          rw [s2, yofz hi, yofz hn, yadd, yofz (by unfold zr; omega), lg_cmp_gt, ylt (by unfold yr; omega) (by unfold zr at hi hn; unfold yr; omega)] at c7
          refine ixi t 4 ht ?_
          refine And.intro (fun c8 => ?_) (fun c8 => ?_)
          · have c8 : lg_cmp ((Int32.ofInt j).toInt64 + (Int32.ofInt m).toInt64) (σ 58 t).toInt64 ≤ 0 := c8
            have c8 : ¬ 0 < lg_cmp ((Int32.ofInt j).toInt64 + (Int32.ofInt m).toInt64) (σ 58 t).toInt64 := Int32.not_lt.mpr c8
            rw [t2, yofz hj, yofz hn, yadd, yofz (by unfold zr; omega), lg_cmp_gt, ylt (by unfold yr; omega) (by unfold zr at hj hn; unfold yr; omega)] at c8
            obtain ⟨i, rfl⟩ := Int.eq_ofNat_of_zero_le (show 0 ≤ i by omega)
            obtain ⟨j, rfl⟩ := Int.eq_ofNat_of_zero_le (show 0 ≤ j by omega)
            obtain ⟨m, rfl⟩ := Int.eq_ofNat_of_zero_le (show 0 ≤ m by omega)
            refine r_copy_loop1 (d + 2) Q hs (by omega) m 0 σ (by omega) (fun σ1 k1 k2 _ => ?_)
            refine r_copy_loop2 (d + 2) Q ht (by omega) m 0 σ1 (by omega) (fun σ2 m1 m2 => ?_)
            refine hok s t rfl hs rfl ht cl c3 (by unfold hld; omega) σ2 (fun c e1 e2 => by rw [m1 c e1, k1 c e2]) (fun l => ?_)
            show σ2 59 l = if 60 * t + j ≤ l ∧ l < 60 * t + j + m then σ 59 (60 * s + i + (l - (60 * t + j))) else σ 59 l
            rw [m2 l, Nat.add_zero]
            by_cases e : 60 * t + j ≤ l ∧ l < 60 * t + j + m
            · rw [if_pos e, if_pos e, k2 _ (by omega) (by omega)]
            · rw [if_neg e, if_neg e, k1 59 (by decide)]
          · have c8 : ¬ lg_cmp ((Int32.ofInt j).toInt64 + (Int32.ofInt m).toInt64) (σ 58 t).toInt64 ≤ 0 := c8
            have c8 : 0 < lg_cmp ((Int32.ofInt j).toInt64 + (Int32.ofInt m).toInt64) (σ 58 t).toInt64 := Int32.not_le.mp c8
            rw [t2, yofz hj, yofz hn, yadd, yofz (by unfold zr; omega), lg_cmp_gt, ylt (by unfold yr; omega) (by unfold zr at hj hn; unfold yr; omega)] at c8
            exact r_met (d + 1) _ (no (fun q => by have := q.2.2.2; omega))
        · have c3 : ¬ σ 57 s = σ 57 t := c3
          rw [s1, t1, zeq (by unfold zr; omega) (by unfold zr; omega)] at c3
          exact r_met (d + 1) _ (hform s t rfl hs rfl ht cl c3)
      · have c2 : ¬ 0 ≤ σ 57 t := c2
        rw [t1, z0le (by unfold zr; omega)] at c2
        exact r_met (d + 1) _ (hlost s t rfl hs rfl ht (by omega))
    · rw [if_neg cy]
      exact And.intro (fun _ => hbad (fun q => cy q.2)) (fun q => absurd rfl q)
  · rw [if_neg c]
    exact And.intro (fun _ => hbad (fun q => c q.1)) (fun q => absurd rfl q)
set_option maxHeartbeats 1000000 in
set_option maxRecDepth 100000 in
theorem r_read_loop (d : Nat) (Q : am_Q) {s : Nat} (hs : s < 4) {N : Nat} (hN : N ≤ 60) {f : Nat → Int} (hf : ∀ j, zr (f j)) : ∀ (k i : Nat) (w : Nat → Nat) (σ : Nat → Nat → Int32), i + k = 7 → i ≤ N → rW w σ → (∀ p, w p ≤ 59) → σ 58 s = Int32.ofInt (N : Int) → (∀ j, j < N → σ 59 (60 * s + j) = Int32.ofInt (f j)) →
    (∀ σ' : Nat → Nat → Int32, (∀ c, c ≠ 64 → σ' c = σ c) → (∀ j, σ' 64 j = if i ≤ j ∧ j < rdk f (min N 7 - i) i then Int32.ofInt (f j) else σ 64 j) → Q (some (.int (Int32.ofInt (rdk f (min N 7 - i) i : Int)))) (lo_M n w3 g σ' τ r1 r2)) →
    am_wp (am_d (d + 3)) T_X10_read Q (27, [.ref 56, .int (Int32.ofInt (s : Int)), .int (Int32.ofInt (i : Int))], [], 0, 0) (lo_M n w3 g σ τ r1 r2) := by
  intro k
  induction k with
  | zero =>
    intro i w σ hi hiN hW hw h58 h59 h
    have e7 : i = 7 := by omega
    subst e7
    have h := h σ (fun _ _ => rfl) (fun j => by rw [show min N 7 - 7 = 0 by omega, if_neg (by unfold rdk; omega)])
    rw [show min N 7 - 7 = 0 by omega] at h
    refine am_wp_go (am_d_cm _) (fun pc => Nat.beq pc 27) 60 ?_
    refine ixi s 4 hs ?_
    refine And.intro (fun c1 => h) (fun c1 => ?_)
    have c1 : ¬ σ 58 s ≤ Int32.ofInt ((7 : Nat) : Int) := c1
    rw [h58, zle (by unfold zr; omega) (by unfold zr; omega)] at c1
    refine ixi (60 * s + 7) 240 (by omega) ?_ (by rw [zmul, zadd]; congr 1)
    show am_d (d + 3) 137 [.ref 56, .int (Int32.ofInt ((7 : Nat) : Int)), .int (σ 59 (60 * s + 7))] 0 0 _ _
    rw [h59 7 (by omega)]
    refine r_waits d _ (w := w) (by unfold zr; omega) (hf 7) hW (fun _ => ?_) (fun q => by omega)
    exact And.intro (fun _ => h) (fun q => absurd (by decide) q)
  | succ k ih =>
    intro i w σ hi hiN hW hw h58 h59 h
    refine am_wp_go (am_d_cm _) (fun pc => Nat.beq pc 27) 60 ?_
    refine ixi s 4 hs ?_
    refine And.intro (fun c1 => ?_) (fun c1 => ?_)
    · have c1 : σ 58 s ≤ Int32.ofInt (i : Int) := c1
      rw [h58, zle (by unfold zr; omega) (by unfold zr; omega)] at c1
      have h := h σ (fun _ _ => rfl) (fun j => by rw [show min N 7 - i = 0 by omega, if_neg (by unfold rdk; omega)])
      rw [show min N 7 - i = 0 by omega] at h
      exact h
    · have c1 : ¬ σ 58 s ≤ Int32.ofInt (i : Int) := c1
      rw [h58, zle (by unfold zr; omega) (by unfold zr; omega)] at c1
      have er : min N 7 - i = (min N 7 - (i + 1)) + 1 := by omega
      refine ixi (60 * s + i) 240 (by omega) ?_ (by rw [zmul, zadd]; congr 1)
      show am_d (d + 3) 137 [.ref 56, .int (Int32.ofInt (i : Int)), .int (σ 59 (60 * s + i))] 0 0 _ _
      rw [h59 i (by omega)]
      refine r_waits d _ (w := w) (by unfold zr; omega) (hf i) hW (fun q => ?_) (fun q => ?_)
      · have en : rdk f (min N 7 - i) i = i := by
          rw [er]
          show (if 0 ≤ f i ∧ f i ≤ 59 then _ else i) = i
          rw [if_neg (fun r => q ⟨by omega, r⟩)]
        have h := h σ (fun _ _ => rfl) (fun j => by rw [en, if_neg (by omega)])
        rw [en] at h
        exact And.intro (fun _ => h) (fun q => absurd (by decide) q)
      · have en : rdk f (min N 7 - i) i = rdk f (min N 7 - (i + 1)) (i + 1) := by
          rw [er]
          show (if 0 ≤ f i ∧ f i ≤ 59 then _ else i) = _
          rw [if_pos q.2]
        have hwi := hw i
        refine And.intro (fun q => ?_) (fun _ => ?_)
        · have q : Int32.ofInt (w i : Int) < 0 := q
          rw [zlt0 (by unfold zr; omega)] at q
          omega
        show am_wp _ _ _ (27, [.ref 56, .int (Int32.ofInt (s : Int)), .int (Int32.ofInt (i : Int) + Int32.ofInt 1)], [], 0, 0) (lo_M n w3 g (am_u σ 64 i (Int32.ofInt (f i))) τ r1 r2)
        rw [zadd, show ((i : Int) + 1) = ((i + 1 : Nat) : Int) by omega]
        have rr := rdk_rng (f := f) (min N 7 - (i + 1)) (i + 1)
        refine ih (i + 1) (upw w i (f i).toNat) _ (by omega) (by omega) (fun p hp => ?_) (fun p => ?_) (by rw [am_u_ne (by decide)]; exact h58) (fun j hj => by rw [am_u_ne (by decide)]; exact h59 j hj) (fun σ' k1 k2 => ?_)
        · rw [am_u_at]
          unfold upw
          by_cases e : p = i
          · rw [if_pos e, if_pos e]
            congr 1
            omega
          · rw [if_neg e, if_neg e]
            exact hW p hp
        · unfold upw
          by_cases e : p = i
          · rw [if_pos e]
            omega
          · rw [if_neg e]
            exact hw p
        · rw [en] at h
          refine h σ' (fun c hc => by rw [k1 c hc, am_u_ne hc]) (fun j => ?_)
          rw [k2 j, am_u_at]
          by_cases e : j = i
          · subst e
            rw [if_neg (by omega), if_pos rfl, if_pos (by omega)]
          · rw [if_neg e]
            by_cases e2 : i ≤ j ∧ j < rdk f (min N 7 - (i + 1)) (i + 1)
            · rw [if_pos e2, if_pos (by omega)]
            · rw [if_neg e2, if_neg (by omega)]
set_option maxRecDepth 100000 in
theorem r_read (d : Nat) (Q : am_Q) {z : Int} (hz : zr z) (hm : IM A B σ) (hwf : WF A B)
    (hbad : ¬ (0 ≤ z ∧ z ≤ 3) → Q (some (.int (Int32.ofInt (-2)))) (lo_M n w3 g σ τ r1 r2))
    (hlost : ∀ s : Nat, z = (s : Int) → s < 4 → B 0 s = -1 → Q (some (.int (Int32.ofInt (-11)))) (lo_M n w3 g (am_u σ 56 4 (Int32.ofInt 1)) τ r1 r2))
    (hok : ∀ s : Nat, z = (s : Int) → s < 4 → B 0 s ≠ -1 → ∀ σ' : Nat → Nat → Int32, (∀ c, c ≠ 64 → σ' c = σ c) → (∀ j, σ' 64 j = if j < rdk (B (1 + s)) (min (A 11 s) 7) 0 then Int32.ofInt (B (1 + s) j) else σ 64 j) → Q (some (.int (Int32.ofInt (rdk (B (1 + s)) (min (A 11 s) 7) 0 : Int)))) (lo_M n w3 g σ' τ r1 r2)) :
    am_d (d + 4) 143 [.ref 56, .int (Int32.ofInt z)] 0 0 (lo_M n w3 g σ τ r1 r2) Q := by
  have hBi := hwf.2.2.2.2.2.2.2.2.2.2.2.2.2.2.1
  refine am_goT T_X10_read [.ref 56, .int (Int32.ofInt z), .null] rfl rfl (fun pc => Nat.beq pc 27) 60 ?_
  refine r_isSheet (d + 1) hz _ _ ?_
  by_cases c : 0 ≤ z ∧ z ≤ 3
  · rw [if_pos c]
    refine And.intro (fun q => absurd q (by decide)) (fun _ => ?_)
    obtain ⟨s, rfl⟩ := Int.eq_ofNat_of_zero_le c.1
    have hBs := hwf.2.2.2.2.2.2.2.2.2.2.2.2.2.1 s
    have hAs := hwf.2.2.2.2.2.2.2.2.2.2.2.2.1 s
    obtain ⟨t1, t2, t3⟩ := hm.2.2.2.2.2.2.2.1 s (by omega)
    refine ixi s 4 (by omega) ?_
    refine And.intro (fun c1 => ?_) (fun c1 => ?_)
    · have c1 : 0 ≤ σ 57 s := c1
      rw [t1, z0le (by unfold zr; omega)] at c1
      refine r_read_loop d Q (by omega) hAs (fun j => hBi s j) 7 0 (A 4) σ (by omega) (by omega) hm.2.2.2.2.1 hwf.2.2.2.2.1 t2 t3 (fun σ' k1 k2 => ?_)
      refine hok s rfl (by omega) (by omega) σ' k1 (fun j => ?_)
      refine (k2 j).trans ?_
      show (if 0 ≤ j ∧ j < rdk (B (1 + s)) (min (A 11 s) 7) 0 then _ else _) = _
      by_cases cj : j < rdk (B (1 + s)) (min (A 11 s) 7) 0
      · rw [if_pos ⟨Nat.zero_le _, cj⟩, if_pos cj]
      · rw [if_neg (fun q => cj q.2), if_neg cj]
    · have c1 : ¬ 0 ≤ σ 57 s := c1
      rw [t1, z0le (by unfold zr; omega)] at c1
      exact r_met (d + 2) _ (hlost s rfl (by omega) (by omega))
  · rw [if_neg c]
    exact And.intro (fun _ => hbad c) (fun q => absurd rfl q)
end RSH
