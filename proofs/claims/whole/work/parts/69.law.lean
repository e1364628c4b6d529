/-! the law's loop -/
def JS (A : aN) (B : aZ) (n w3 : Nat) (g : Nat → Nat × Nat) (σ : Nat → Nat → Int32) (r1 r2 W1 W2 : Nat) : Prop := WF A B ∧ CS A B n w3 g σ r1 r2 W1 W2 ∧ IM A B σ ∧ ST σ
/-- the loop goes on from any such state -/
def NX (Q : am_Q) (w3 i : Nat) : Prop := ∀ (A : aN) (B : aZ) (n : Nat) (g : Nat → Nat × Nat) (σ : Nat → Nat → Int32) (τ : Nat → Nat → Int64) (r1 r2 W1 W2 bc bs : Nat), JS A B n w3 g σ r1 r2 W1 W2 → PT W1 W2 ≤ bc → 2 * PT W1 W2 ≤ bs → am_wp (am_d 10) T_L_law Q (18, [.ref 3, .ref 4, .ref 56, .int (Int32.ofInt (i : Int))], [], bc, bs) (lo_M n w3 g σ τ r1 r2)
theorem ix1 (i k : Nat) : Int32.ofInt (i : Int) + Int32.ofInt (k : Int) = Int32.ofInt ((i + k : Nat) : Int) := by
  rw [zadd, Int.natCast_add]
theorem lg_self (x : Int64) : lg_cmp x x = 0 := by
  unfold lg_cmp
  rw [if_neg (by rw [gt_iff_lt, Int64.lt_iff_toInt_lt]; omega), if_pos rfl]
section LAW
variable {A : aN} {B : aZ} {n w3 : Nat} {g : Nat → Nat × Nat} {σ : Nat → Nat → Int32} {τ : Nat → Nat → Int64} {r1 r2 W1 W2 bc bs i : Nat} {Q : am_Q}
theorem JS_next {A' : aN} {B' : aZ} {σ1 σ2 : Nat → Nat → Int32} (hj : JS A B n w3 g σ r1 r2 W1 W2) {n' : Nat} {g' : Nat → Nat × Nat} {ra rb Wa Wb : Nat} (hwf : WF A' B') (k1 : CS A' B' n' w3 g' σ1 ra rb Wa Wb) (f1 : CF σ σ1) (k2 : IM A' B' σ2) (f2 : RF σ1 σ2) : JS A' B' n' w3 g' σ2 ra rb Wa Wb :=
  ⟨hwf, CS_RF k1 f2, k2, ST_fr hj.2.2.2 (by rw [f2 0 (by omega), f1 0 (by omega)]) (by rw [f2 1 (by omega), f1 1 (by omega)])⟩
theorem kb_rest (x : Int32) (hwf : WF A B) (hs : CS A B n w3 g σ r1 r2 W1 W2) (hbc : PT W1 W2 ≤ bc) (hbs : 2 * PT W1 W2 ≤ bs) : ∃ c1 s1, c1 ≤ bc ∧ s1 ≤ bs ∧ ∀ Q : am_Q, (∀ (n' : Nat) (g' : Nat → Nat × Nat) (ra rb Wa Wb : Nat) (σ' : Nat → Nat → Int32), CS A B n' w3 g' σ' ra rb Wa Wb → CF σ σ' → PT Wa Wb ≤ bc - c1 → 2 * PT Wa Wb ≤ bs - s1 → Q (some (.int (Int32.ofInt (f_rest A x.toInt)))) (lo_M n' w3 g' σ' τ ra rb)) → am_d 10 65 [.ref 4, .int x] c1 s1 (lo_M n w3 g σ τ r1 r2) Q := by
  obtain ⟨e1, e2, e3⟩ := WS_r (A := A) hs.2.2.1
  by_cases hv : x.toInt = -1 ∨ (0 ≤ x.toInt ∧ x.toInt < cnt A)
  · refine ⟨rC A W1, rS' A W1, by omega, by omega, fun Q h => ?_⟩
    rw [zof x]
    exact k_rest 5 Q (zrof x) hwf hs (fun n' g' r' σ' k f => h n' g' r' r2 (rWd A W1) W2 σ' k f (by omega) (by omega)) hv
  · refine ⟨0, 0, by omega, by omega, fun Q h => ?_⟩
    rw [zof x]
    exact k_rest0 5 Q (zrof x) hs hv (h n g r1 r2 W1 W2 σ hs (CF_refl σ) (by omega) (by omega))
theorem kb_churches (x : Int32) (hwf : WF A B) (hs : CS A B n w3 g σ r1 r2 W1 W2) (hbc : PT W1 W2 ≤ bc) (hbs : 2 * PT W1 W2 ≤ bs) : ∃ c1 s1, c1 ≤ bc ∧ s1 ≤ bs ∧ ∀ Q : am_Q, (∀ (n' : Nat) (g' : Nat → Nat × Nat) (ra rb Wa Wb : Nat) (σ' : Nat → Nat → Int32), CS A B n' w3 g' σ' ra rb Wa Wb → CF σ σ' → PT Wa Wb ≤ bc - c1 → 2 * PT Wa Wb ≤ bs - s1 → Q (some (.int (Int32.ofInt (f_churches A x.toInt)))) (lo_M n' w3 g' σ' τ ra rb)) → am_d 10 68 [.ref 4, .int x] c1 s1 (lo_M n w3 g σ τ r1 r2) Q := by
  obtain ⟨e1, e2, e3⟩ := WS_c (A := A) hs.2.2.1
  by_cases hv : 0 ≤ x.toInt ∧ x.toInt ≤ 1
  · refine ⟨cC A W2, cS' A W2, by omega, by omega, fun Q h => ?_⟩
    rw [zof x]
    exact k_churches 5 Q (zrof x) hwf hs (fun n' g' r' σ' k f => h n' g' r1 r' W1 (cWd A W2) σ' k f (by omega) (by omega)) hv
  · refine ⟨0, 0, by omega, by omega, fun Q h => ?_⟩
    rw [zof x]
    exact k_churches0 5 Q (zrof x) hv (h n g r1 r2 W1 W2 σ hs (CF_refl σ) (by omega) (by omega))
theorem kb_digest (hwf : WF A B) (hs : CS A B n w3 g σ r1 r2 W1 W2) (hbc : PT W1 W2 ≤ bc) (hbs : 2 * PT W1 W2 ≤ bs) : ∃ c1 s1, c1 ≤ bc ∧ s1 ≤ bs ∧ ∀ Q : am_Q, (∀ (n' : Nat) (g' : Nat → Nat × Nat) (ra rb Wa Wb : Nat) (σ' : Nat → Nat → Int32), CS A B n' w3 g' σ' ra rb Wa Wb → CF σ σ' → PT Wa Wb ≤ bc - c1 → 2 * PT Wa Wb ≤ bs - s1 → Q (some (.long (f_digest A))) (lo_M n' w3 g' σ' τ ra rb)) → am_d 10 86 [.ref 4] c1 s1 (lo_M n w3 g σ τ r1 r2) Q := by
  obtain ⟨e1, e2, e3⟩ := WS_r (A := A) hs.2.2.1
  obtain ⟨d1, d2, d3⟩ := WS_c (A := A) e1
  refine ⟨rC A W1 + cC A W2, rS' A W1 + cS' A W2, by omega, by omega, fun Q h => ?_⟩
  exact k_digest 2 Q hwf hs (Nat.le_refl _) (Nat.le_refl _) (fun n' g' ra rb σ' k f => h n' g' ra rb (rWd A W1) (cWd A W2) σ' k f (by omega) (by omega))

set_option maxRecDepth 100000 in
theorem b_type (hi : i + 6 ≤ w3) (hw : w3 < 2147483648) (hj : JS A B n w3 g σ r1 r2 W1 W2) (hbc : PT W1 W2 ≤ bc) (hbs : 2 * PT W1 W2 ≤ bs) (H : NX Q w3 (i + 6)) : am_wp (am_d 10) T_L_law Q (188, [.ref 3, .ref 4, .ref 56, .int (Int32.ofInt (i : Int))], [], bc, bs) (lo_M n w3 g σ τ r1 r2) := by
  obtain ⟨A', B', v, hwf', hC, hM⟩ := p_type hj.1 (σ 3 (i + 1))
  refine am_wp_go (am_d_cm _) (fun pc => Nat.beq pc 18) 60 ?_
  refine ixi (i + 1) w3 (by omega) ?_ (ix1 i 1) (by omega)
  refine hC _ n w3 g σ τ r1 r2 W1 W2 hj.2.1 hj.2.2.2 (fun σ1 k1 f1 => ?_)
  refine ixi (i + 1) w3 (by omega) ?_ (ix1 i 1) (by omega)
  show am_d 10 123 [.ref 56, .int (σ1 3 (i + 1))] 0 0 _ _
  rw [f1 3 (by omega)]
  refine hM _ n w3 g σ1 τ r1 r2 (IM_CF hj.2.2.1 f1) (fun σ2 τ2 k2 f2 => ?_)
  refine And.intro (fun _ => ?_) (fun q => absurd rfl q)
  show am_wp _ _ _ (18, [.ref 3, .ref 4, .ref 56, .int (Int32.ofInt (i : Int) + Int32.ofInt ((6 : Nat) : Int))], [], _, _) _
  rw [ix1]
  exact H A' B' n g σ2 τ2 r1 r2 W1 W2 _ _ (JS_next hj hwf' k1 f1 k2 f2) hbc hbs

set_option maxRecDepth 100000 in
theorem b_wipe (hi : i + 6 ≤ w3) (hw : w3 < 2147483648) (hj : JS A B n w3 g σ r1 r2 W1 W2) (hbc : PT W1 W2 ≤ bc) (hbs : 2 * PT W1 W2 ≤ bs) (H : NX Q w3 (i + 6)) : am_wp (am_d 10) T_L_law Q (211, [.ref 3, .ref 4, .ref 56, .int (Int32.ofInt (i : Int))], [], bc, bs) (lo_M n w3 g σ τ r1 r2) := by
  obtain ⟨A', B', v, hwf', hC, hM⟩ := p_wipe hj.1 
  refine am_wp_go (am_d_cm _) (fun pc => Nat.beq pc 18) 60 ?_
  refine hC _ n w3 g σ τ r1 r2 W1 W2 hj.2.1 hj.2.2.2 (fun σ1 k1 f1 => ?_)
  refine hM _ n w3 g σ1 τ r1 r2 (IM_CF hj.2.2.1 f1) (fun σ2 τ2 k2 f2 => ?_)
  refine And.intro (fun _ => ?_) (fun q => absurd rfl q)
  show am_wp _ _ _ (18, [.ref 3, .ref 4, .ref 56, .int (Int32.ofInt (i : Int) + Int32.ofInt ((6 : Nat) : Int))], [], _, _) _
  rw [ix1]
  exact H A' B' n g σ2 τ2 r1 r2 W1 W2 _ _ (JS_next hj hwf' k1 f1 k2 f2) hbc hbs

set_option maxRecDepth 100000 in
theorem b_fault (hi : i + 6 ≤ w3) (hw : w3 < 2147483648) (hj : JS A B n w3 g σ r1 r2 W1 W2) (hbc : PT W1 W2 ≤ bc) (hbs : 2 * PT W1 W2 ≤ bs) (H : NX Q w3 (i + 6)) : am_wp (am_d 10) T_L_law Q (224, [.ref 3, .ref 4, .ref 56, .int (Int32.ofInt (i : Int))], [], bc, bs) (lo_M n w3 g σ τ r1 r2) := by
  obtain ⟨A', B', v, hwf', hC, hM⟩ := p_fault hj.1 
  refine am_wp_go (am_d_cm _) (fun pc => Nat.beq pc 18) 60 ?_
  refine hC _ n w3 g σ τ r1 r2 W1 W2 hj.2.1 hj.2.2.2 (fun σ1 k1 f1 => ?_)
  refine hM _ n w3 g σ1 τ r1 r2 (IM_CF hj.2.2.1 f1) (fun σ2 τ2 k2 f2 => ?_)
  refine And.intro (fun _ => ?_) (fun q => absurd rfl q)
  show am_wp _ _ _ (18, [.ref 3, .ref 4, .ref 56, .int (Int32.ofInt (i : Int) + Int32.ofInt ((6 : Nat) : Int))], [], _, _) _
  rw [ix1]
  exact H A' B' n g σ2 τ2 r1 r2 W1 W2 _ _ (JS_next hj hwf' k1 f1 k2 f2) hbc hbs

set_option maxRecDepth 100000 in
theorem b_person (hi : i + 6 ≤ w3) (hw : w3 < 2147483648) (hj : JS A B n w3 g σ r1 r2 W1 W2) (hbc : PT W1 W2 ≤ bc) (hbs : 2 * PT W1 W2 ≤ bs) (H : NX Q w3 (i + 6)) : am_wp (am_d 10) T_L_law Q (237, [.ref 3, .ref 4, .ref 56, .int (Int32.ofInt (i : Int))], [], bc, bs) (lo_M n w3 g σ τ r1 r2) := by
  obtain ⟨A', B', v, hwf', hC, hM⟩ := p_person hj.1 (σ 3 (i + 1)) (σ 3 (i + 2))
  refine am_wp_go (am_d_cm _) (fun pc => Nat.beq pc 18) 60 ?_
  refine ixi (i + 1) w3 (by omega) ?_ (ix1 i 1) (by omega)
  refine ixi (i + 2) w3 (by omega) ?_ (ix1 i 2) (by omega)
  refine hC _ n w3 g σ τ r1 r2 W1 W2 hj.2.1 hj.2.2.2 (fun σ1 k1 f1 => ?_)
  refine ixi (i + 1) w3 (by omega) ?_ (ix1 i 1) (by omega)
  refine ixi (i + 2) w3 (by omega) ?_ (ix1 i 2) (by omega)
  show am_d 10 136 [.ref 56, .int (σ1 3 (i + 1)), .int (σ1 3 (i + 2))] 0 0 _ _
  rw [f1 3 (by omega)]
  refine hM _ n w3 g σ1 τ r1 r2 (IM_CF hj.2.2.1 f1) (fun σ2 τ2 k2 f2 => ?_)
  refine And.intro (fun _ => ?_) (fun q => absurd rfl q)
  show am_wp _ _ _ (18, [.ref 3, .ref 4, .ref 56, .int (Int32.ofInt (i : Int) + Int32.ofInt ((6 : Nat) : Int))], [], _, _) _
  rw [ix1]
  exact H A' B' n g σ2 τ2 r1 r2 W1 W2 _ _ (JS_next hj hwf' k1 f1 k2 f2) hbc hbs

set_option maxRecDepth 100000 in
theorem b_waits (hi : i + 6 ≤ w3) (hw : w3 < 2147483648) (hj : JS A B n w3 g σ r1 r2 W1 W2) (hbc : PT W1 W2 ≤ bc) (hbs : 2 * PT W1 W2 ≤ bs) (H : NX Q w3 (i + 6)) : am_wp (am_d 10) T_L_law Q (270, [.ref 3, .ref 4, .ref 56, .int (Int32.ofInt (i : Int))], [], bc, bs) (lo_M n w3 g σ τ r1 r2) := by
  obtain ⟨A', B', v, hwf', hC, hM⟩ := p_waits hj.1 (σ 3 (i + 1)) (σ 3 (i + 2))
  refine am_wp_go (am_d_cm _) (fun pc => Nat.beq pc 18) 60 ?_
  refine ixi (i + 1) w3 (by omega) ?_ (ix1 i 1) (by omega)
  refine ixi (i + 2) w3 (by omega) ?_ (ix1 i 2) (by omega)
  refine hC _ n w3 g σ τ r1 r2 W1 W2 hj.2.1 hj.2.2.2 (fun σ1 k1 f1 => ?_)
  refine ixi (i + 1) w3 (by omega) ?_ (ix1 i 1) (by omega)
  refine ixi (i + 2) w3 (by omega) ?_ (ix1 i 2) (by omega)
  show am_d 10 137 [.ref 56, .int (σ1 3 (i + 1)), .int (σ1 3 (i + 2))] 0 0 _ _
  rw [f1 3 (by omega)]
  refine hM _ n w3 g σ1 τ r1 r2 (IM_CF hj.2.2.1 f1) (fun σ2 τ2 k2 f2 => ?_)
  refine And.intro (fun _ => ?_) (fun q => absurd rfl q)
  show am_wp _ _ _ (18, [.ref 3, .ref 4, .ref 56, .int (Int32.ofInt (i : Int) + Int32.ofInt ((6 : Nat) : Int))], [], _, _) _
  rw [ix1]
  exact H A' B' n g σ2 τ2 r1 r2 W1 W2 _ _ (JS_next hj hwf' k1 f1 k2 f2) hbc hbs

set_option maxRecDepth 100000 in
theorem b_rain (hi : i + 6 ≤ w3) (hw : w3 < 2147483648) (hj : JS A B n w3 g σ r1 r2 W1 W2) (hbc : PT W1 W2 ≤ bc) (hbs : 2 * PT W1 W2 ≤ bs) (H : NX Q w3 (i + 6)) : am_wp (am_d 10) T_L_law Q (303, [.ref 3, .ref 4, .ref 56, .int (Int32.ofInt (i : Int))], [], bc, bs) (lo_M n w3 g σ τ r1 r2) := by
  obtain ⟨A', B', v, hwf', hC, hM⟩ := p_rain hj.1 (σ 3 (i + 1)) (σ 3 (i + 2))
  refine am_wp_go (am_d_cm _) (fun pc => Nat.beq pc 18) 60 ?_
  refine ixi (i + 1) w3 (by omega) ?_ (ix1 i 1) (by omega)
  refine ixi (i + 2) w3 (by omega) ?_ (ix1 i 2) (by omega)
  refine hC _ n w3 g σ τ r1 r2 W1 W2 hj.2.1 hj.2.2.2 (fun σ1 k1 f1 => ?_)
  refine ixi (i + 1) w3 (by omega) ?_ (ix1 i 1) (by omega)
  refine ixi (i + 2) w3 (by omega) ?_ (ix1 i 2) (by omega)
  show am_d 10 138 [.ref 56, .int (σ1 3 (i + 1)), .int (σ1 3 (i + 2))] 0 0 _ _
  rw [f1 3 (by omega)]
  refine hM _ n w3 g σ1 τ r1 r2 (IM_CF hj.2.2.1 f1) (fun σ2 τ2 k2 f2 => ?_)
  refine And.intro (fun _ => ?_) (fun q => absurd rfl q)
  show am_wp _ _ _ (18, [.ref 3, .ref 4, .ref 56, .int (Int32.ofInt (i : Int) + Int32.ofInt ((6 : Nat) : Int))], [], _, _) _
  rw [ix1]
  exact H A' B' n g σ2 τ2 r1 r2 W1 W2 _ _ (JS_next hj hwf' k1 f1 k2 f2) hbc hbs

set_option maxRecDepth 100000 in
theorem b_set (hi : i + 6 ≤ w3) (hw : w3 < 2147483648) (hj : JS A B n w3 g σ r1 r2 W1 W2) (hbc : PT W1 W2 ≤ bc) (hbs : 2 * PT W1 W2 ≤ bs) (H : NX Q w3 (i + 6)) : am_wp (am_d 10) T_L_law Q (336, [.ref 3, .ref 4, .ref 56, .int (Int32.ofInt (i : Int))], [], bc, bs) (lo_M n w3 g σ τ r1 r2) := by
  obtain ⟨A', B', v, hwf', hC, hM⟩ := p_set hj.1 (σ 3 (i + 1)) (σ 3 (i + 2))
  refine am_wp_go (am_d_cm _) (fun pc => Nat.beq pc 18) 60 ?_
  refine ixi (i + 1) w3 (by omega) ?_ (ix1 i 1) (by omega)
  refine ixi (i + 2) w3 (by omega) ?_ (ix1 i 2) (by omega)
  refine hC _ n w3 g σ τ r1 r2 W1 W2 hj.2.1 hj.2.2.2 (fun σ1 k1 f1 => ?_)
  refine ixi (i + 1) w3 (by omega) ?_ (ix1 i 1) (by omega)
  refine ixi (i + 2) w3 (by omega) ?_ (ix1 i 2) (by omega)
  show am_d 10 141 [.ref 56, .int (σ1 3 (i + 1)), .int (σ1 3 (i + 2))] 0 0 _ _
  rw [f1 3 (by omega)]
  refine hM _ n w3 g σ1 τ r1 r2 (IM_CF hj.2.2.1 f1) (fun σ2 τ2 k2 f2 => ?_)
  refine And.intro (fun _ => ?_) (fun q => absurd rfl q)
  show am_wp _ _ _ (18, [.ref 3, .ref 4, .ref 56, .int (Int32.ofInt (i : Int) + Int32.ofInt ((6 : Nat) : Int))], [], _, _) _
  rw [ix1]
  exact H A' B' n g σ2 τ2 r1 r2 W1 W2 _ _ (JS_next hj hwf' k1 f1 k2 f2) hbc hbs

set_option maxRecDepth 100000 in
theorem b_love (hi : i + 6 ≤ w3) (hw : w3 < 2147483648) (hj : JS A B n w3 g σ r1 r2 W1 W2) (hbc : PT W1 W2 ≤ bc) (hbs : 2 * PT W1 W2 ≤ bs) (H : NX Q w3 (i + 6)) : am_wp (am_d 10) T_L_law Q (369, [.ref 3, .ref 4, .ref 56, .int (Int32.ofInt (i : Int))], [], bc, bs) (lo_M n w3 g σ τ r1 r2) := by
  obtain ⟨A', B', v, hwf', hC, hM⟩ := p_love hj.1 (σ 3 (i + 1)) (σ 3 (i + 2)) (σ 3 (i + 3))
  refine am_wp_go (am_d_cm _) (fun pc => Nat.beq pc 18) 60 ?_
  refine ixi (i + 1) w3 (by omega) ?_ (ix1 i 1) (by omega)
  refine ixi (i + 2) w3 (by omega) ?_ (ix1 i 2) (by omega)
  refine ixi (i + 3) w3 (by omega) ?_ (ix1 i 3) (by omega)
  refine hC _ n w3 g σ τ r1 r2 W1 W2 hj.2.1 hj.2.2.2 (fun σ1 k1 f1 => ?_)
  refine ixi (i + 1) w3 (by omega) ?_ (ix1 i 1) (by omega)
  refine ixi (i + 2) w3 (by omega) ?_ (ix1 i 2) (by omega)
  refine ixi (i + 3) w3 (by omega) ?_ (ix1 i 3) (by omega)
  show am_d 10 142 [.ref 56, .int (σ1 3 (i + 1)), .int (σ1 3 (i + 2)), .int (σ1 3 (i + 3))] 0 0 _ _
  rw [f1 3 (by omega)]
  refine hM _ n w3 g σ1 τ r1 r2 (IM_CF hj.2.2.1 f1) (fun σ2 τ2 k2 f2 => ?_)
  refine And.intro (fun _ => ?_) (fun q => absurd rfl q)
  show am_wp _ _ _ (18, [.ref 3, .ref 4, .ref 56, .int (Int32.ofInt (i : Int) + Int32.ofInt ((6 : Nat) : Int))], [], _, _) _
  rw [ix1]
  exact H A' B' n g σ2 τ2 r1 r2 W1 W2 _ _ (JS_next hj hwf' k1 f1 k2 f2) hbc hbs

set_option maxRecDepth 100000 in
theorem b_read (hi : i + 6 ≤ w3) (hw : w3 < 2147483648) (hj : JS A B n w3 g σ r1 r2 W1 W2) (hbc : PT W1 W2 ≤ bc) (hbs : 2 * PT W1 W2 ≤ bs) (H : NX Q w3 (i + 6)) : am_wp (am_d 10) T_L_law Q (412, [.ref 3, .ref 4, .ref 56, .int (Int32.ofInt (i : Int))], [], bc, bs) (lo_M n w3 g σ τ r1 r2) := by
  obtain ⟨A', B', v, hwf', hC, hM⟩ := p_read hj.1 (σ 3 (i + 1))
  refine am_wp_go (am_d_cm _) (fun pc => Nat.beq pc 18) 60 ?_
  refine ixi (i + 1) w3 (by omega) ?_ (ix1 i 1) (by omega)
  refine hC _ n w3 g σ τ r1 r2 W1 W2 hj.2.1 hj.2.2.2 (fun σ1 k1 f1 => ?_)
  refine ixi (i + 1) w3 (by omega) ?_ (ix1 i 1) (by omega)
  show am_d 10 143 [.ref 56, .int (σ1 3 (i + 1))] 0 0 _ _
  rw [f1 3 (by omega)]
  refine hM _ n w3 g σ1 τ r1 r2 (IM_CF hj.2.2.1 f1) (fun σ2 τ2 k2 f2 => ?_)
  refine And.intro (fun _ => ?_) (fun q => absurd rfl q)
  show am_wp _ _ _ (18, [.ref 3, .ref 4, .ref 56, .int (Int32.ofInt (i : Int) + Int32.ofInt ((6 : Nat) : Int))], [], _, _) _
  rw [ix1]
  exact H A' B' n g σ2 τ2 r1 r2 W1 W2 _ _ (JS_next hj hwf' k1 f1 k2 f2) hbc hbs

set_option maxRecDepth 100000 in
theorem b_seat (hi : i + 6 ≤ w3) (hw : w3 < 2147483648) (hj : JS A B n w3 g σ r1 r2 W1 W2) (hbc : PT W1 W2 ≤ bc) (hbs : 2 * PT W1 W2 ≤ bs) (H : NX Q w3 (i + 6)) : am_wp (am_d 10) T_L_law Q (435, [.ref 3, .ref 4, .ref 56, .int (Int32.ofInt (i : Int))], [], bc, bs) (lo_M n w3 g σ τ r1 r2) := by
  obtain ⟨A', B', v, hwf', hC, hM⟩ := p_seat hj.1 (σ 3 (i + 1))
  refine am_wp_go (am_d_cm _) (fun pc => Nat.beq pc 18) 60 ?_
  refine ixi (i + 1) w3 (by omega) ?_ (ix1 i 1) (by omega)
  refine hC _ n w3 g σ τ r1 r2 W1 W2 hj.2.1 hj.2.2.2 (fun σ1 k1 f1 => ?_)
  refine ixi (i + 1) w3 (by omega) ?_ (ix1 i 1) (by omega)
  show am_d 10 151 [.ref 56, .int (σ1 3 (i + 1))] 0 0 _ _
  rw [f1 3 (by omega)]
  refine hM _ n w3 g σ1 τ r1 r2 (IM_CF hj.2.2.1 f1) (fun σ2 τ2 k2 f2 => ?_)
  refine And.intro (fun _ => ?_) (fun q => absurd rfl q)
  show am_wp _ _ _ (18, [.ref 3, .ref 4, .ref 56, .int (Int32.ofInt (i : Int) + Int32.ofInt ((6 : Nat) : Int))], [], _, _) _
  rw [ix1]
  exact H A' B' n g σ2 τ2 r1 r2 W1 W2 _ _ (JS_next hj hwf' k1 f1 k2 f2) hbc hbs

set_option maxRecDepth 100000 in
theorem b_who (hi : i + 6 ≤ w3) (hw : w3 < 2147483648) (hj : JS A B n w3 g σ r1 r2 W1 W2) (hbc : PT W1 W2 ≤ bc) (hbs : 2 * PT W1 W2 ≤ bs) (H : NX Q w3 (i + 6)) : am_wp (am_d 10) T_L_law Q (458, [.ref 3, .ref 4, .ref 56, .int (Int32.ofInt (i : Int))], [], bc, bs) (lo_M n w3 g σ τ r1 r2) := by
  obtain ⟨A', B', v, hwf', hC, hM⟩ := p_who hj.1 (σ 3 (i + 1))
  refine am_wp_go (am_d_cm _) (fun pc => Nat.beq pc 18) 60 ?_
  refine ixi (i + 1) w3 (by omega) ?_ (ix1 i 1) (by omega)
  refine hC _ n w3 g σ τ r1 r2 W1 W2 hj.2.1 hj.2.2.2 (fun σ1 k1 f1 => ?_)
  refine ixi (i + 1) w3 (by omega) ?_ (ix1 i 1) (by omega)
  show am_d 10 153 [.ref 56, .int (σ1 3 (i + 1))] 0 0 _ _
  rw [f1 3 (by omega)]
  refine hM _ n w3 g σ1 τ r1 r2 (IM_CF hj.2.2.1 f1) (fun σ2 τ2 k2 f2 => ?_)
  refine And.intro (fun _ => ?_) (fun q => absurd rfl q)
  show am_wp _ _ _ (18, [.ref 3, .ref 4, .ref 56, .int (Int32.ofInt (i : Int) + Int32.ofInt ((6 : Nat) : Int))], [], _, _) _
  rw [ix1]
  exact H A' B' n g σ2 τ2 r1 r2 W1 W2 _ _ (JS_next hj hwf' k1 f1 k2 f2) hbc hbs

set_option maxRecDepth 100000 in
theorem b_has (hi : i + 6 ≤ w3) (hw : w3 < 2147483648) (hj : JS A B n w3 g σ r1 r2 W1 W2) (hbc : PT W1 W2 ≤ bc) (hbs : 2 * PT W1 W2 ≤ bs) (H : NX Q w3 (i + 6)) : am_wp (am_d 10) T_L_law Q (481, [.ref 3, .ref 4, .ref 56, .int (Int32.ofInt (i : Int))], [], bc, bs) (lo_M n w3 g σ τ r1 r2) := by
  obtain ⟨A', B', v, hwf', hC, hM⟩ := p_has hj.1 (σ 3 (i + 1))
  refine am_wp_go (am_d_cm _) (fun pc => Nat.beq pc 18) 60 ?_
  refine ixi (i + 1) w3 (by omega) ?_ (ix1 i 1) (by omega)
  refine hC _ n w3 g σ τ r1 r2 W1 W2 hj.2.1 hj.2.2.2 (fun σ1 k1 f1 => ?_)
  refine ixi (i + 1) w3 (by omega) ?_ (ix1 i 1) (by omega)
  show am_d 10 155 [.ref 56, .int (σ1 3 (i + 1))] 0 0 _ _
  rw [f1 3 (by omega)]
  refine hM _ n w3 g σ1 τ r1 r2 (IM_CF hj.2.2.1 f1) (fun σ2 τ2 k2 f2 => ?_)
  refine And.intro (fun _ => ?_) (fun q => absurd rfl q)
  show am_wp _ _ _ (18, [.ref 3, .ref 4, .ref 56, .int (Int32.ofInt (i : Int) + Int32.ofInt ((6 : Nat) : Int))], [], _, _) _
  rw [ix1]
  exact H A' B' n g σ2 τ2 r1 r2 W1 W2 _ _ (JS_next hj hwf' k1 f1 k2 f2) hbc hbs

set_option maxRecDepth 100000 in
theorem b_best (hi : i + 6 ≤ w3) (hw : w3 < 2147483648) (hj : JS A B n w3 g σ r1 r2 W1 W2) (hbc : PT W1 W2 ≤ bc) (hbs : 2 * PT W1 W2 ≤ bs) (H : NX Q w3 (i + 6)) : am_wp (am_d 10) T_L_law Q (504, [.ref 3, .ref 4, .ref 56, .int (Int32.ofInt (i : Int))], [], bc, bs) (lo_M n w3 g σ τ r1 r2) := by
  obtain ⟨A', B', v, hwf', hC, hM⟩ := p_best hj.1 (σ 3 (i + 1)) (σ 3 (i + 2))
  refine am_wp_go (am_d_cm _) (fun pc => Nat.beq pc 18) 60 ?_
  refine ixi (i + 1) w3 (by omega) ?_ (ix1 i 1) (by omega)
  refine ixi (i + 2) w3 (by omega) ?_ (ix1 i 2) (by omega)
  refine hC _ n w3 g σ τ r1 r2 W1 W2 hj.2.1 hj.2.2.2 (fun σ1 k1 f1 => ?_)
  refine ixi (i + 1) w3 (by omega) ?_ (ix1 i 1) (by omega)
  refine ixi (i + 2) w3 (by omega) ?_ (ix1 i 2) (by omega)
  show am_d 10 157 [.ref 56, .int (σ1 3 (i + 1)), .int (σ1 3 (i + 2))] 0 0 _ _
  rw [f1 3 (by omega)]
  refine hM _ n w3 g σ1 τ r1 r2 (IM_CF hj.2.2.1 f1) (fun σ2 τ2 k2 f2 => ?_)
  refine And.intro (fun _ => ?_) (fun q => absurd rfl q)
  show am_wp _ _ _ (18, [.ref 3, .ref 4, .ref 56, .int (Int32.ofInt (i : Int) + Int32.ofInt ((6 : Nat) : Int))], [], _, _) _
  rw [ix1]
  exact H A' B' n g σ2 τ2 r1 r2 W1 W2 _ _ (JS_next hj hwf' k1 f1 k2 f2) hbc hbs

set_option maxRecDepth 100000 in
theorem b_rest (hi : i + 6 ≤ w3) (hw : w3 < 2147483648) (hj : JS A B n w3 g σ r1 r2 W1 W2) (hbc : PT W1 W2 ≤ bc) (hbs : 2 * PT W1 W2 ≤ bs) (H : NX Q w3 (i + 6)) : am_wp (am_d 10) T_L_law Q (537, [.ref 3, .ref 4, .ref 56, .int (Int32.ofInt (i : Int))], [], bc, bs) (lo_M n w3 g σ τ r1 r2) := by
  obtain ⟨c1, s1, h1, h2, hC⟩ := kb_rest (τ := τ) (σ 3 (i + 1)) hj.1 hj.2.1 hbc hbs
  refine am_wp_go (am_d_cm _) (fun pc => Nat.beq pc 18) 60 ?_
  refine ixi (i + 1) w3 (by omega) ?_ (ix1 i 1) (by omega)
  refine ⟨c1, s1, h1, h2, hC _ (fun n' g' ra rb Wa Wb σ1 k1 f1 p1 p2 => ?_)⟩
  refine ixi (i + 1) w3 (by omega) ?_ (ix1 i 1) (by omega)
  show am_d 10 161 [.ref 56, .int (σ1 3 (i + 1))] 0 0 _ _
  rw [f1 3 (by omega)]
  have hm1 := IM_CF hj.2.2.1 f1
  rw [zof (σ 3 (i + 1))]
  refine q_rest 0 _ (zrof _) hm1 hj.1 (fun σ2 kq => ?_)
  have k2 := IM_QF hm1 kq
  have f2 := RF_QF kq
  refine And.intro (fun _ => ?_) (fun q => absurd (by rw [← zof]) q)
  show am_wp _ _ _ (18, [.ref 3, .ref 4, .ref 56, .int (Int32.ofInt (i : Int) + Int32.ofInt ((6 : Nat) : Int))], [], _, _) _
  rw [ix1]
  exact H A B n' g' σ2 τ ra rb Wa Wb _ _ (JS_next hj hj.1 k1 f1 k2 f2) p1 p2

set_option maxRecDepth 100000 in
theorem b_change (hi : i + 6 ≤ w3) (hw : w3 < 2147483648) (hj : JS A B n w3 g σ r1 r2 W1 W2) (hbc : PT W1 W2 ≤ bc) (hbs : 2 * PT W1 W2 ≤ bs) (H : NX Q w3 (i + 6)) : am_wp (am_d 10) T_L_law Q (560, [.ref 3, .ref 4, .ref 56, .int (Int32.ofInt (i : Int))], [], bc, bs) (lo_M n w3 g σ τ r1 r2) := by
  obtain ⟨A', B', v, hwf', hC, hM⟩ := p_change hj.1 (σ 3 (i + 1)) (σ 3 (i + 2))
  refine am_wp_go (am_d_cm _) (fun pc => Nat.beq pc 18) 60 ?_
  refine ixi (i + 1) w3 (by omega) ?_ (ix1 i 1) (by omega)
  refine ixi (i + 2) w3 (by omega) ?_ (ix1 i 2) (by omega)
  refine hC _ n w3 g σ τ r1 r2 W1 W2 hj.2.1 hj.2.2.2 (fun σ1 k1 f1 => ?_)
  refine ixi (i + 1) w3 (by omega) ?_ (ix1 i 1) (by omega)
  refine ixi (i + 2) w3 (by omega) ?_ (ix1 i 2) (by omega)
  show am_d 10 163 [.ref 56, .int (σ1 3 (i + 1)), .int (σ1 3 (i + 2))] 0 0 _ _
  rw [f1 3 (by omega)]
  refine hM _ n w3 g σ1 τ r1 r2 (IM_CF hj.2.2.1 f1) (fun σ2 τ2 k2 f2 => ?_)
  refine And.intro (fun _ => ?_) (fun q => absurd rfl q)
  show am_wp _ _ _ (18, [.ref 3, .ref 4, .ref 56, .int (Int32.ofInt (i : Int) + Int32.ofInt ((6 : Nat) : Int))], [], _, _) _
  rw [ix1]
  exact H A' B' n g σ2 τ2 r1 r2 W1 W2 _ _ (JS_next hj hwf' k1 f1 k2 f2) hbc hbs

set_option maxRecDepth 100000 in
theorem b_changes (hi : i + 6 ≤ w3) (hw : w3 < 2147483648) (hj : JS A B n w3 g σ r1 r2 W1 W2) (hbc : PT W1 W2 ≤ bc) (hbs : 2 * PT W1 W2 ≤ bs) (H : NX Q w3 (i + 6)) : am_wp (am_d 10) T_L_law Q (593, [.ref 3, .ref 4, .ref 56, .int (Int32.ofInt (i : Int))], [], bc, bs) (lo_M n w3 g σ τ r1 r2) := by
  obtain ⟨A', B', v, hwf', hC, hM⟩ := p_changes hj.1 
  refine am_wp_go (am_d_cm _) (fun pc => Nat.beq pc 18) 60 ?_
  refine hC _ n w3 g σ τ r1 r2 W1 W2 hj.2.1 hj.2.2.2 (fun σ1 k1 f1 => ?_)
  refine hM _ n w3 g σ1 τ r1 r2 (IM_CF hj.2.2.1 f1) (fun σ2 τ2 k2 f2 => ?_)
  refine And.intro (fun _ => ?_) (fun q => absurd rfl q)
  show am_wp _ _ _ (18, [.ref 3, .ref 4, .ref 56, .int (Int32.ofInt (i : Int) + Int32.ofInt ((6 : Nat) : Int))], [], _, _) _
  rw [ix1]
  exact H A' B' n g σ2 τ2 r1 r2 W1 W2 _ _ (JS_next hj hwf' k1 f1 k2 f2) hbc hbs

set_option maxRecDepth 100000 in
theorem b_churches (hi : i + 6 ≤ w3) (hw : w3 < 2147483648) (hj : JS A B n w3 g σ r1 r2 W1 W2) (hbc : PT W1 W2 ≤ bc) (hbs : 2 * PT W1 W2 ≤ bs) (H : NX Q w3 (i + 6)) : am_wp (am_d 10) T_L_law Q (606, [.ref 3, .ref 4, .ref 56, .int (Int32.ofInt (i : Int))], [], bc, bs) (lo_M n w3 g σ τ r1 r2) := by
  obtain ⟨c1, s1, h1, h2, hC⟩ := kb_churches (τ := τ) (σ 3 (i + 1)) hj.1 hj.2.1 hbc hbs
  refine am_wp_go (am_d_cm _) (fun pc => Nat.beq pc 18) 60 ?_
  refine ixi (i + 1) w3 (by omega) ?_ (ix1 i 1) (by omega)
  refine ⟨c1, s1, h1, h2, hC _ (fun n' g' ra rb Wa Wb σ1 k1 f1 p1 p2 => ?_)⟩
  refine ixi (i + 1) w3 (by omega) ?_ (ix1 i 1) (by omega)
  show am_d 10 168 [.ref 56, .int (σ1 3 (i + 1))] 0 0 _ _
  rw [f1 3 (by omega)]
  have hm1 := IM_CF hj.2.2.1 f1
  rw [zof (σ 3 (i + 1))]
  refine q_churches 3 _ (zrof _) hm1 hj.1 (fun σ2 kq => ?_)
  have k2 := IM_QF hm1 kq
  have f2 := RF_QF kq
  refine And.intro (fun _ => ?_) (fun q => absurd (by rw [← zof]) q)
  show am_wp _ _ _ (18, [.ref 3, .ref 4, .ref 56, .int (Int32.ofInt (i : Int) + Int32.ofInt ((6 : Nat) : Int))], [], _, _) _
  rw [ix1]
  exact H A B n' g' σ2 τ ra rb Wa Wb _ _ (JS_next hj hj.1 k1 f1 k2 f2) p1 p2

set_option maxRecDepth 100000 in
theorem b_sat (hi : i + 6 ≤ w3) (hw : w3 < 2147483648) (hj : JS A B n w3 g σ r1 r2 W1 W2) (hbc : PT W1 W2 ≤ bc) (hbs : 2 * PT W1 W2 ≤ bs) (H : NX Q w3 (i + 6)) : am_wp (am_d 10) T_L_law Q (629, [.ref 3, .ref 4, .ref 56, .int (Int32.ofInt (i : Int))], [], bc, bs) (lo_M n w3 g σ τ r1 r2) := by
  obtain ⟨A', B', v, hwf', hC, hM⟩ := p_sat hj.1 (σ 3 (i + 1)) (σ 3 (i + 2))
  refine am_wp_go (am_d_cm _) (fun pc => Nat.beq pc 18) 60 ?_
  refine ixi (i + 1) w3 (by omega) ?_ (ix1 i 1) (by omega)
  refine ixi (i + 2) w3 (by omega) ?_ (ix1 i 2) (by omega)
  refine hC _ n w3 g σ τ r1 r2 W1 W2 hj.2.1 hj.2.2.2 (fun σ1 k1 f1 => ?_)
  refine ixi (i + 1) w3 (by omega) ?_ (ix1 i 1) (by omega)
  refine ixi (i + 2) w3 (by omega) ?_ (ix1 i 2) (by omega)
  show am_d 10 170 [.ref 56, .int (σ1 3 (i + 1)), .int (σ1 3 (i + 2))] 0 0 _ _
  rw [f1 3 (by omega)]
  refine hM _ n w3 g σ1 τ r1 r2 (IM_CF hj.2.2.1 f1) (fun σ2 τ2 k2 f2 => ?_)
  refine And.intro (fun _ => ?_) (fun q => absurd rfl q)
  show am_wp _ _ _ (18, [.ref 3, .ref 4, .ref 56, .int (Int32.ofInt (i : Int) + Int32.ofInt ((6 : Nat) : Int))], [], _, _) _
  rw [ix1]
  exact H A' B' n g σ2 τ2 r1 r2 W1 W2 _ _ (JS_next hj hwf' k1 f1 k2 f2) hbc hbs

set_option maxRecDepth 100000 in
theorem b_front (hi : i + 6 ≤ w3) (hw : w3 < 2147483648) (hj : JS A B n w3 g σ r1 r2 W1 W2) (hbc : PT W1 W2 ≤ bc) (hbs : 2 * PT W1 W2 ≤ bs) (H : NX Q w3 (i + 6)) : am_wp (am_d 10) T_L_law Q (662, [.ref 3, .ref 4, .ref 56, .int (Int32.ofInt (i : Int))], [], bc, bs) (lo_M n w3 g σ τ r1 r2) := by
  obtain ⟨A', B', v, hwf', hC, hM⟩ := p_front hj.1 (σ 3 (i + 1)) (σ 3 (i + 2))
  refine am_wp_go (am_d_cm _) (fun pc => Nat.beq pc 18) 60 ?_
  refine ixi (i + 1) w3 (by omega) ?_ (ix1 i 1) (by omega)
  refine ixi (i + 2) w3 (by omega) ?_ (ix1 i 2) (by omega)
  refine hC _ n w3 g σ τ r1 r2 W1 W2 hj.2.1 hj.2.2.2 (fun σ1 k1 f1 => ?_)
  refine ixi (i + 1) w3 (by omega) ?_ (ix1 i 1) (by omega)
  refine ixi (i + 2) w3 (by omega) ?_ (ix1 i 2) (by omega)
  show am_d 10 171 [.ref 56, .int (σ1 3 (i + 1)), .int (σ1 3 (i + 2))] 0 0 _ _
  rw [f1 3 (by omega)]
  refine hM _ n w3 g σ1 τ r1 r2 (IM_CF hj.2.2.1 f1) (fun σ2 τ2 k2 f2 => ?_)
  refine And.intro (fun _ => ?_) (fun q => absurd rfl q)
  show am_wp _ _ _ (18, [.ref 3, .ref 4, .ref 56, .int (Int32.ofInt (i : Int) + Int32.ofInt ((6 : Nat) : Int))], [], _, _) _
  rw [ix1]
  exact H A' B' n g σ2 τ2 r1 r2 W1 W2 _ _ (JS_next hj hwf' k1 f1 k2 f2) hbc hbs

set_option maxRecDepth 100000 in
theorem b_forget (hi : i + 6 ≤ w3) (hw : w3 < 2147483648) (hj : JS A B n w3 g σ r1 r2 W1 W2) (hbc : PT W1 W2 ≤ bc) (hbs : 2 * PT W1 W2 ≤ bs) (H : NX Q w3 (i + 6)) : am_wp (am_d 10) T_L_law Q (695, [.ref 3, .ref 4, .ref 56, .int (Int32.ofInt (i : Int))], [], bc, bs) (lo_M n w3 g σ τ r1 r2) := by
  obtain ⟨A', B', v, hwf', hC, hM⟩ := p_forget hj.1 
  refine am_wp_go (am_d_cm _) (fun pc => Nat.beq pc 18) 60 ?_
  refine hC _ n w3 g σ τ r1 r2 W1 W2 hj.2.1 hj.2.2.2 (fun σ1 k1 f1 => ?_)
  refine hM _ n w3 g σ1 τ r1 r2 (IM_CF hj.2.2.1 f1) (fun σ2 τ2 k2 f2 => ?_)
  refine And.intro (fun _ => ?_) (fun q => absurd rfl q)
  show am_wp _ _ _ (18, [.ref 3, .ref 4, .ref 56, .int (Int32.ofInt (i : Int) + Int32.ofInt ((6 : Nat) : Int))], [], _, _) _
  rw [ix1]
  exact H A' B' n g σ2 τ2 r1 r2 W1 W2 _ _ (JS_next hj hwf' k1 f1 k2 f2) hbc hbs

set_option maxRecDepth 100000 in
theorem b_came (hi : i + 6 ≤ w3) (hw : w3 < 2147483648) (hj : JS A B n w3 g σ r1 r2 W1 W2) (hbc : PT W1 W2 ≤ bc) (hbs : 2 * PT W1 W2 ≤ bs) (H : NX Q w3 (i + 6)) : am_wp (am_d 10) T_L_law Q (708, [.ref 3, .ref 4, .ref 56, .int (Int32.ofInt (i : Int))], [], bc, bs) (lo_M n w3 g σ τ r1 r2) := by
  obtain ⟨A', B', v, hwf', hC, hM⟩ := p_came hj.1 (σ 3 (i + 1))
  refine am_wp_go (am_d_cm _) (fun pc => Nat.beq pc 18) 60 ?_
  refine ixi (i + 1) w3 (by omega) ?_ (ix1 i 1) (by omega)
  refine hC _ n w3 g σ τ r1 r2 W1 W2 hj.2.1 hj.2.2.2 (fun σ1 k1 f1 => ?_)
  refine ixi (i + 1) w3 (by omega) ?_ (ix1 i 1) (by omega)
  show am_d 10 179 [.ref 56, .int (σ1 3 (i + 1))] 0 0 _ _
  rw [f1 3 (by omega)]
  refine hM _ n w3 g σ1 τ r1 r2 (IM_CF hj.2.2.1 f1) (fun σ2 τ2 k2 f2 => ?_)
  refine And.intro (fun _ => ?_) (fun q => absurd rfl q)
  show am_wp _ _ _ (18, [.ref 3, .ref 4, .ref 56, .int (Int32.ofInt (i : Int) + Int32.ofInt ((6 : Nat) : Int))], [], _, _) _
  rw [ix1]
  exact H A' B' n g σ2 τ2 r1 r2 W1 W2 _ _ (JS_next hj hwf' k1 f1 k2 f2) hbc hbs

set_option maxRecDepth 100000 in
theorem b_sure (hi : i + 6 ≤ w3) (hw : w3 < 2147483648) (hj : JS A B n w3 g σ r1 r2 W1 W2) (hbc : PT W1 W2 ≤ bc) (hbs : 2 * PT W1 W2 ≤ bs) (H : NX Q w3 (i + 6)) : am_wp (am_d 10) T_L_law Q (731, [.ref 3, .ref 4, .ref 56, .int (Int32.ofInt (i : Int))], [], bc, bs) (lo_M n w3 g σ τ r1 r2) := by
  obtain ⟨A', B', v, hwf', hC, hM⟩ := p_sure hj.1 
  refine am_wp_go (am_d_cm _) (fun pc => Nat.beq pc 18) 60 ?_
  refine hC _ n w3 g σ τ r1 r2 W1 W2 hj.2.1 hj.2.2.2 (fun σ1 k1 f1 => ?_)
  refine hM _ n w3 g σ1 τ r1 r2 (IM_CF hj.2.2.1 f1) (fun σ2 τ2 k2 f2 => ?_)
  refine And.intro (fun _ => ?_) (fun q => absurd rfl q)
  show am_wp _ _ _ (18, [.ref 3, .ref 4, .ref 56, .int (Int32.ofInt (i : Int) + Int32.ofInt ((6 : Nat) : Int))], [], _, _) _
  rw [ix1]
  exact H A' B' n g σ2 τ2 r1 r2 W1 W2 _ _ (JS_next hj hwf' k1 f1 k2 f2) hbc hbs

set_option maxRecDepth 100000 in
theorem b_fair (hi : i + 6 ≤ w3) (hw : w3 < 2147483648) (hj : JS A B n w3 g σ r1 r2 W1 W2) (hbc : PT W1 W2 ≤ bc) (hbs : 2 * PT W1 W2 ≤ bs) (H : NX Q w3 (i + 6)) : am_wp (am_d 10) T_L_law Q (744, [.ref 3, .ref 4, .ref 56, .int (Int32.ofInt (i : Int))], [], bc, bs) (lo_M n w3 g σ τ r1 r2) := by
  obtain ⟨A', B', v, hwf', hC, hM⟩ := p_fair hj.1 (σ 3 (i + 1)) (σ 3 (i + 2))
  refine am_wp_go (am_d_cm _) (fun pc => Nat.beq pc 18) 60 ?_
  refine ixi (i + 1) w3 (by omega) ?_ (ix1 i 1) (by omega)
  refine ixi (i + 2) w3 (by omega) ?_ (ix1 i 2) (by omega)
  refine hC _ n w3 g σ τ r1 r2 W1 W2 hj.2.1 hj.2.2.2 (fun σ1 k1 f1 => ?_)
  refine ixi (i + 1) w3 (by omega) ?_ (ix1 i 1) (by omega)
  refine ixi (i + 2) w3 (by omega) ?_ (ix1 i 2) (by omega)
  show am_d 10 184 [.ref 56, .int (σ1 3 (i + 1)), .int (σ1 3 (i + 2))] 0 0 _ _
  rw [f1 3 (by omega)]
  refine hM _ n w3 g σ1 τ r1 r2 (IM_CF hj.2.2.1 f1) (fun σ2 τ2 k2 f2 => ?_)
  refine And.intro (fun _ => ?_) (fun q => absurd (lg_self _) q)
  show am_wp _ _ _ (18, [.ref 3, .ref 4, .ref 56, .int (Int32.ofInt (i : Int) + Int32.ofInt ((6 : Nat) : Int))], [], _, _) _
  rw [ix1]
  exact H A' B' n g σ2 τ2 r1 r2 W1 W2 _ _ (JS_next hj hwf' k1 f1 k2 f2) hbc hbs

set_option maxRecDepth 100000 in
theorem b_lot (hi : i + 6 ≤ w3) (hw : w3 < 2147483648) (hj : JS A B n w3 g σ r1 r2 W1 W2) (hbc : PT W1 W2 ≤ bc) (hbs : 2 * PT W1 W2 ≤ bs) (H : NX Q w3 (i + 6)) : am_wp (am_d 10) T_L_law Q (778, [.ref 3, .ref 4, .ref 56, .int (Int32.ofInt (i : Int))], [], bc, bs) (lo_M n w3 g σ τ r1 r2) := by
  obtain ⟨A', B', v, hwf', hC, hM⟩ := p_lot hj.1 (σ 3 (i + 1)) (σ 3 (i + 2))
  refine am_wp_go (am_d_cm _) (fun pc => Nat.beq pc 18) 60 ?_
  refine ixi (i + 1) w3 (by omega) ?_ (ix1 i 1) (by omega)
  refine ixi (i + 2) w3 (by omega) ?_ (ix1 i 2) (by omega)
  refine hC _ n w3 g σ τ r1 r2 W1 W2 hj.2.1 hj.2.2.2 (fun σ1 k1 f1 => ?_)
  refine ixi (i + 1) w3 (by omega) ?_ (ix1 i 1) (by omega)
  refine ixi (i + 2) w3 (by omega) ?_ (ix1 i 2) (by omega)
  show am_d 10 186 [.ref 56, .int (σ1 3 (i + 1)), .int (σ1 3 (i + 2))] 0 0 _ _
  rw [f1 3 (by omega)]
  refine hM _ n w3 g σ1 τ r1 r2 (IM_CF hj.2.2.1 f1) (fun σ2 τ2 k2 f2 => ?_)
  refine And.intro (fun _ => ?_) (fun q => absurd rfl q)
  show am_wp _ _ _ (18, [.ref 3, .ref 4, .ref 56, .int (Int32.ofInt (i : Int) + Int32.ofInt ((6 : Nat) : Int))], [], _, _) _
  rw [ix1]
  exact H A' B' n g σ2 τ2 r1 r2 W1 W2 _ _ (JS_next hj hwf' k1 f1 k2 f2) hbc hbs

set_option maxRecDepth 100000 in
theorem b_sunday (hi : i + 6 ≤ w3) (hw : w3 < 2147483648) (hj : JS A B n w3 g σ r1 r2 W1 W2) (hbc : PT W1 W2 ≤ bc) (hbs : 2 * PT W1 W2 ≤ bs) (H : NX Q w3 (i + 6)) : am_wp (am_d 10) T_L_law Q (811, [.ref 3, .ref 4, .ref 56, .int (Int32.ofInt (i : Int))], [], bc, bs) (lo_M n w3 g σ τ r1 r2) := by
  obtain ⟨A', B', v, hwf', hC, hM⟩ := p_sunday hj.1 (σ 3 (i + 1)) (σ 3 (i + 2))
  refine am_wp_go (am_d_cm _) (fun pc => Nat.beq pc 18) 60 ?_
  refine ixi (i + 1) w3 (by omega) ?_ (ix1 i 1) (by omega)
  refine ixi (i + 2) w3 (by omega) ?_ (ix1 i 2) (by omega)
  refine hC _ n w3 g σ τ r1 r2 W1 W2 hj.2.1 hj.2.2.2 (fun σ1 k1 f1 => ?_)
  refine ixi (i + 1) w3 (by omega) ?_ (ix1 i 1) (by omega)
  refine ixi (i + 2) w3 (by omega) ?_ (ix1 i 2) (by omega)
  show am_d 10 187 [.ref 56, .int (σ1 3 (i + 1)), .int (σ1 3 (i + 2))] 0 0 _ _
  rw [f1 3 (by omega)]
  refine hM _ n w3 g σ1 τ r1 r2 (IM_CF hj.2.2.1 f1) (fun σ2 τ2 k2 f2 => ?_)
  refine And.intro (fun _ => ?_) (fun q => absurd rfl q)
  show am_wp _ _ _ (18, [.ref 3, .ref 4, .ref 56, .int (Int32.ofInt (i : Int) + Int32.ofInt ((6 : Nat) : Int))], [], _, _) _
  rw [ix1]
  exact H A' B' n g σ2 τ2 r1 r2 W1 W2 _ _ (JS_next hj hwf' k1 f1 k2 f2) hbc hbs

set_option maxRecDepth 100000 in
theorem b_late (hi : i + 6 ≤ w3) (hw : w3 < 2147483648) (hj : JS A B n w3 g σ r1 r2 W1 W2) (hbc : PT W1 W2 ≤ bc) (hbs : 2 * PT W1 W2 ≤ bs) (H : NX Q w3 (i + 6)) : am_wp (am_d 10) T_L_law Q (844, [.ref 3, .ref 4, .ref 56, .int (Int32.ofInt (i : Int))], [], bc, bs) (lo_M n w3 g σ τ r1 r2) := by
  obtain ⟨A', B', v, hwf', hC, hM⟩ := p_late hj.1 (σ 3 (i + 1)) (σ 3 (i + 2))
  refine am_wp_go (am_d_cm _) (fun pc => Nat.beq pc 18) 60 ?_
  refine ixi (i + 1) w3 (by omega) ?_ (ix1 i 1) (by omega)
  refine ixi (i + 2) w3 (by omega) ?_ (ix1 i 2) (by omega)
  refine hC _ n w3 g σ τ r1 r2 W1 W2 hj.2.1 hj.2.2.2 (fun σ1 k1 f1 => ?_)
  refine ixi (i + 1) w3 (by omega) ?_ (ix1 i 1) (by omega)
  refine ixi (i + 2) w3 (by omega) ?_ (ix1 i 2) (by omega)
  show am_d 10 188 [.ref 56, .int (σ1 3 (i + 1)), .int (σ1 3 (i + 2))] 0 0 _ _
  rw [f1 3 (by omega)]
  refine hM _ n w3 g σ1 τ r1 r2 (IM_CF hj.2.2.1 f1) (fun σ2 τ2 k2 f2 => ?_)
  refine And.intro (fun _ => ?_) (fun q => absurd (lg_self _) q)
  show am_wp _ _ _ (18, [.ref 3, .ref 4, .ref 56, .int (Int32.ofInt (i : Int) + Int32.ofInt ((6 : Nat) : Int))], [], _, _) _
  rw [ix1]
  exact H A' B' n g σ2 τ2 r1 r2 W1 W2 _ _ (JS_next hj hwf' k1 f1 k2 f2) hbc hbs

set_option maxRecDepth 100000 in
theorem b_allLate (hi : i + 6 ≤ w3) (hw : w3 < 2147483648) (hj : JS A B n w3 g σ r1 r2 W1 W2) (hbc : PT W1 W2 ≤ bc) (hbs : 2 * PT W1 W2 ≤ bs) (H : NX Q w3 (i + 6)) : am_wp (am_d 10) T_L_law Q (878, [.ref 3, .ref 4, .ref 56, .int (Int32.ofInt (i : Int))], [], bc, bs) (lo_M n w3 g σ τ r1 r2) := by
  obtain ⟨A', B', v, hwf', hC, hM⟩ := p_allLate hj.1 (σ 3 (i + 1))
  refine am_wp_go (am_d_cm _) (fun pc => Nat.beq pc 18) 60 ?_
  refine ixi (i + 1) w3 (by omega) ?_ (ix1 i 1) (by omega)
  refine hC _ n w3 g σ τ r1 r2 W1 W2 hj.2.1 hj.2.2.2 (fun σ1 k1 f1 => ?_)
  refine ixi (i + 1) w3 (by omega) ?_ (ix1 i 1) (by omega)
  show am_d 10 190 [.ref 56, .int (σ1 3 (i + 1))] 0 0 _ _
  rw [f1 3 (by omega)]
  refine hM _ n w3 g σ1 τ r1 r2 (IM_CF hj.2.2.1 f1) (fun σ2 τ2 k2 f2 => ?_)
  refine And.intro (fun _ => ?_) (fun q => absurd (lg_self _) q)
  show am_wp _ _ _ (18, [.ref 3, .ref 4, .ref 56, .int (Int32.ofInt (i : Int) + Int32.ofInt ((6 : Nat) : Int))], [], _, _) _
  rw [ix1]
  exact H A' B' n g σ2 τ2 r1 r2 W1 W2 _ _ (JS_next hj hwf' k1 f1 k2 f2) hbc hbs

set_option maxRecDepth 100000 in
theorem b_sheet (hi : i + 6 ≤ w3) (hw : w3 < 2147483648) (hj : JS A B n w3 g σ r1 r2 W1 W2) (hbc : PT W1 W2 ≤ bc) (hbs : 2 * PT W1 W2 ≤ bs) (H : NX Q w3 (i + 6)) : am_wp (am_d 10) T_L_law Q (902, [.ref 3, .ref 4, .ref 56, .int (Int32.ofInt (i : Int))], [], bc, bs) (lo_M n w3 g σ τ r1 r2) := by
  obtain ⟨A', B', v, hwf', hC, hM⟩ := p_sheet hj.1 (σ 3 (i + 1)) (σ 3 (i + 2)) (σ 3 (i + 3))
  refine am_wp_go (am_d_cm _) (fun pc => Nat.beq pc 18) 60 ?_
  refine ixi (i + 1) w3 (by omega) ?_ (ix1 i 1) (by omega)
  refine ixi (i + 2) w3 (by omega) ?_ (ix1 i 2) (by omega)
  refine ixi (i + 3) w3 (by omega) ?_ (ix1 i 3) (by omega)
  refine hC _ n w3 g σ τ r1 r2 W1 W2 hj.2.1 hj.2.2.2 (fun σ1 k1 f1 => ?_)
  refine ixi (i + 1) w3 (by omega) ?_ (ix1 i 1) (by omega)
  refine ixi (i + 2) w3 (by omega) ?_ (ix1 i 2) (by omega)
  refine ixi (i + 3) w3 (by omega) ?_ (ix1 i 3) (by omega)
  show am_d 10 116 [.ref 56, .int (σ1 3 (i + 1)), .int (σ1 3 (i + 2)), .int (σ1 3 (i + 3))] 0 0 _ _
  rw [f1 3 (by omega)]
  refine hM _ n w3 g σ1 τ r1 r2 (IM_CF hj.2.2.1 f1) (fun σ2 τ2 k2 f2 => ?_)
  refine And.intro (fun _ => ?_) (fun q => absurd rfl q)
  show am_wp _ _ _ (18, [.ref 3, .ref 4, .ref 56, .int (Int32.ofInt (i : Int) + Int32.ofInt ((6 : Nat) : Int))], [], _, _) _
  rw [ix1]
  exact H A' B' n g σ2 τ2 r1 r2 W1 W2 _ _ (JS_next hj hwf' k1 f1 k2 f2) hbc hbs

set_option maxRecDepth 100000 in
theorem b_lose (hi : i + 6 ≤ w3) (hw : w3 < 2147483648) (hj : JS A B n w3 g σ r1 r2 W1 W2) (hbc : PT W1 W2 ≤ bc) (hbs : 2 * PT W1 W2 ≤ bs) (H : NX Q w3 (i + 6)) : am_wp (am_d 10) T_L_law Q (945, [.ref 3, .ref 4, .ref 56, .int (Int32.ofInt (i : Int))], [], bc, bs) (lo_M n w3 g σ τ r1 r2) := by
  obtain ⟨A', B', v, hwf', hC, hM⟩ := p_lose hj.1 (σ 3 (i + 1))
  refine am_wp_go (am_d_cm _) (fun pc => Nat.beq pc 18) 60 ?_
  refine ixi (i + 1) w3 (by omega) ?_ (ix1 i 1) (by omega)
  refine hC _ n w3 g σ τ r1 r2 W1 W2 hj.2.1 hj.2.2.2 (fun σ1 k1 f1 => ?_)
  refine ixi (i + 1) w3 (by omega) ?_ (ix1 i 1) (by omega)
  show am_d 10 117 [.ref 56, .int (σ1 3 (i + 1))] 0 0 _ _
  rw [f1 3 (by omega)]
  refine hM _ n w3 g σ1 τ r1 r2 (IM_CF hj.2.2.1 f1) (fun σ2 τ2 k2 f2 => ?_)
  refine And.intro (fun _ => ?_) (fun q => absurd rfl q)
  show am_wp _ _ _ (18, [.ref 3, .ref 4, .ref 56, .int (Int32.ofInt (i : Int) + Int32.ofInt ((6 : Nat) : Int))], [], _, _) _
  rw [ix1]
  exact H A' B' n g σ2 τ2 r1 r2 W1 W2 _ _ (JS_next hj hwf' k1 f1 k2 f2) hbc hbs

set_option maxRecDepth 100000 in
theorem b_lay (hi : i + 6 ≤ w3) (hw : w3 < 2147483648) (hj : JS A B n w3 g σ r1 r2 W1 W2) (hbc : PT W1 W2 ≤ bc) (hbs : 2 * PT W1 W2 ≤ bs) (H : NX Q w3 (i + 6)) : am_wp (am_d 10) T_L_law Q (968, [.ref 3, .ref 4, .ref 56, .int (Int32.ofInt (i : Int))], [], bc, bs) (lo_M n w3 g σ τ r1 r2) := by
  obtain ⟨A', B', v, hwf', hC, hM⟩ := p_lay hj.1 (σ 3 (i + 1)) (σ 3 (i + 2)) (σ 3 (i + 3)) (σ 3 (i + 4))
  refine am_wp_go (am_d_cm _) (fun pc => Nat.beq pc 18) 60 ?_
  refine ixi (i + 1) w3 (by omega) ?_ (ix1 i 1) (by omega)
  refine ixi (i + 2) w3 (by omega) ?_ (ix1 i 2) (by omega)
  refine ixi (i + 3) w3 (by omega) ?_ (ix1 i 3) (by omega)
  refine ixi (i + 4) w3 (by omega) ?_ (ix1 i 4) (by omega)
  refine hC _ n w3 g σ τ r1 r2 W1 W2 hj.2.1 hj.2.2.2 (fun σ1 k1 f1 => ?_)
  refine ixi (i + 1) w3 (by omega) ?_ (ix1 i 1) (by omega)
  refine ixi (i + 2) w3 (by omega) ?_ (ix1 i 2) (by omega)
  refine ixi (i + 3) w3 (by omega) ?_ (ix1 i 3) (by omega)
  refine ixi (i + 4) w3 (by omega) ?_ (ix1 i 4) (by omega)
  show am_d 10 120 [.ref 56, .int (σ1 3 (i + 1)), .int (σ1 3 (i + 2)), .int (σ1 3 (i + 3)), .int (σ1 3 (i + 4))] 0 0 _ _
  rw [f1 3 (by omega)]
  refine hM _ n w3 g σ1 τ r1 r2 (IM_CF hj.2.2.1 f1) (fun σ2 τ2 k2 f2 => ?_)
  refine And.intro (fun _ => ?_) (fun q => absurd rfl q)
  show am_wp _ _ _ (18, [.ref 3, .ref 4, .ref 56, .int (Int32.ofInt (i : Int) + Int32.ofInt ((6 : Nat) : Int))], [], _, _) _
  rw [ix1]
  exact H A' B' n g σ2 τ2 r1 r2 W1 W2 _ _ (JS_next hj hwf' k1 f1 k2 f2) hbc hbs

set_option maxRecDepth 100000 in
theorem b_get (hi : i + 6 ≤ w3) (hw : w3 < 2147483648) (hj : JS A B n w3 g σ r1 r2 W1 W2) (hbc : PT W1 W2 ≤ bc) (hbs : 2 * PT W1 W2 ≤ bs) (H : NX Q w3 (i + 6)) : am_wp (am_d 10) T_L_law Q (1021, [.ref 3, .ref 4, .ref 56, .int (Int32.ofInt (i : Int))], [], bc, bs) (lo_M n w3 g σ τ r1 r2) := by
  obtain ⟨A', B', v, hwf', hC, hM⟩ := p_get hj.1 (σ 3 (i + 1)) (σ 3 (i + 2)) (σ 3 (i + 3))
  refine am_wp_go (am_d_cm _) (fun pc => Nat.beq pc 18) 60 ?_
  refine ixi (i + 1) w3 (by omega) ?_ (ix1 i 1) (by omega)
  refine ixi (i + 2) w3 (by omega) ?_ (ix1 i 2) (by omega)
  refine ixi (i + 3) w3 (by omega) ?_ (ix1 i 3) (by omega)
  refine hC _ n w3 g σ τ r1 r2 W1 W2 hj.2.1 hj.2.2.2 (fun σ1 k1 f1 => ?_)
  refine ixi (i + 1) w3 (by omega) ?_ (ix1 i 1) (by omega)
  refine ixi (i + 2) w3 (by omega) ?_ (ix1 i 2) (by omega)
  refine ixi (i + 3) w3 (by omega) ?_ (ix1 i 3) (by omega)
  show am_d 10 121 [.ref 56, .int (σ1 3 (i + 1)), .int (σ1 3 (i + 2)), .int (σ1 3 (i + 3))] 0 0 _ _
  rw [f1 3 (by omega)]
  refine hM _ n w3 g σ1 τ r1 r2 (IM_CF hj.2.2.1 f1) (fun σ2 τ2 k2 f2 => ?_)
  refine And.intro (fun _ => ?_) (fun q => absurd rfl q)
  show am_wp _ _ _ (18, [.ref 3, .ref 4, .ref 56, .int (Int32.ofInt (i : Int) + Int32.ofInt ((6 : Nat) : Int))], [], _, _) _
  rw [ix1]
  exact H A' B' n g σ2 τ2 r1 r2 W1 W2 _ _ (JS_next hj hwf' k1 f1 k2 f2) hbc hbs

set_option maxRecDepth 100000 in
theorem b_copy (hi : i + 6 ≤ w3) (hw : w3 < 2147483648) (hj : JS A B n w3 g σ r1 r2 W1 W2) (hbc : PT W1 W2 ≤ bc) (hbs : 2 * PT W1 W2 ≤ bs) (H : NX Q w3 (i + 6)) : am_wp (am_d 10) T_L_law Q (1064, [.ref 3, .ref 4, .ref 56, .int (Int32.ofInt (i : Int))], [], bc, bs) (lo_M n w3 g σ τ r1 r2) := by
  obtain ⟨A', B', v, hwf', hC, hM⟩ := p_copy hj.1 (σ 3 (i + 1)) (σ 3 (i + 2)) (σ 3 (i + 3)) (σ 3 (i + 4)) (σ 3 (i + 5))
  refine am_wp_go (am_d_cm _) (fun pc => Nat.beq pc 18) 60 ?_
  refine ixi (i + 1) w3 (by omega) ?_ (ix1 i 1) (by omega)
  refine ixi (i + 2) w3 (by omega) ?_ (ix1 i 2) (by omega)
  refine ixi (i + 3) w3 (by omega) ?_ (ix1 i 3) (by omega)
  refine ixi (i + 4) w3 (by omega) ?_ (ix1 i 4) (by omega)
  refine ixi (i + 5) w3 (by omega) ?_ (ix1 i 5) (by omega)
  refine hC _ n w3 g σ τ r1 r2 W1 W2 hj.2.1 hj.2.2.2 (fun σ1 k1 f1 => ?_)
  refine ixi (i + 1) w3 (by omega) ?_ (ix1 i 1) (by omega)
  refine ixi (i + 2) w3 (by omega) ?_ (ix1 i 2) (by omega)
  refine ixi (i + 3) w3 (by omega) ?_ (ix1 i 3) (by omega)
  refine ixi (i + 4) w3 (by omega) ?_ (ix1 i 4) (by omega)
  refine ixi (i + 5) w3 (by omega) ?_ (ix1 i 5) (by omega)
  show am_d 10 122 [.ref 56, .int (σ1 3 (i + 1)), .int (σ1 3 (i + 2)), .int (σ1 3 (i + 3)), .int (σ1 3 (i + 4)), .int (σ1 3 (i + 5))] 0 0 _ _
  rw [f1 3 (by omega)]
  refine hM _ n w3 g σ1 τ r1 r2 (IM_CF hj.2.2.1 f1) (fun σ2 τ2 k2 f2 => ?_)
  refine And.intro (fun _ => ?_) (fun q => absurd rfl q)
  show am_wp _ _ _ (18, [.ref 3, .ref 4, .ref 56, .int (Int32.ofInt (i : Int) + Int32.ofInt ((6 : Nat) : Int))], [], _, _) _
  rw [ix1]
  exact H A' B' n g σ2 τ2 r1 r2 W1 W2 _ _ (JS_next hj hwf' k1 f1 k2 f2) hbc hbs

set_option maxRecDepth 100000 in
theorem b_write (hi : i + 6 ≤ w3) (hw : w3 < 2147483648) (hj : JS A B n w3 g σ r1 r2 W1 W2) (hbc : PT W1 W2 ≤ bc) (hbs : 2 * PT W1 W2 ≤ bs) (H : NX Q w3 (i + 6)) : am_wp (am_d 10) T_L_law Q (1127, [.ref 3, .ref 4, .ref 56, .int (Int32.ofInt (i : Int))], [], bc, bs) (lo_M n w3 g σ τ r1 r2) := by
  obtain ⟨A', B', v, hwf', hC, hM⟩ := p_write hj.1 (σ 3 (i + 1))
  refine am_wp_go (am_d_cm _) (fun pc => Nat.beq pc 18) 60 ?_
  refine ixi (i + 1) w3 (by omega) ?_ (ix1 i 1) (by omega)
  refine hC _ n w3 g σ τ r1 r2 W1 W2 hj.2.1 hj.2.2.2 (fun σ1 k1 f1 => ?_)
  refine ixi (i + 1) w3 (by omega) ?_ (ix1 i 1) (by omega)
  show am_d 10 191 [.ref 56, .int (σ1 3 (i + 1))] 0 0 _ _
  rw [f1 3 (by omega)]
  refine hM _ n w3 g σ1 τ r1 r2 (IM_CF hj.2.2.1 f1) (fun σ2 τ2 k2 f2 => ?_)
  refine And.intro (fun _ => ?_) (fun q => absurd rfl q)
  show am_wp _ _ _ (18, [.ref 3, .ref 4, .ref 56, .int (Int32.ofInt (i : Int) + Int32.ofInt ((6 : Nat) : Int))], [], _, _) _
  rw [ix1]
  exact H A' B' n g σ2 τ2 r1 r2 W1 W2 _ _ (JS_next hj hwf' k1 f1 k2 f2) hbc hbs

set_option maxRecDepth 100000 in
theorem b_count (hi : i + 6 ≤ w3) (hw : w3 < 2147483648) (hj : JS A B n w3 g σ r1 r2 W1 W2) (hbc : PT W1 W2 ≤ bc) (hbs : 2 * PT W1 W2 ≤ bs) (H : NX Q w3 (i + 6)) : am_wp (am_d 10) T_L_law Q (1150, [.ref 3, .ref 4, .ref 56, .int (Int32.ofInt (i : Int))], [], bc, bs) (lo_M n w3 g σ τ r1 r2) := by
  obtain ⟨A', B', v, hwf', hC, hM⟩ := p_count hj.1 (σ 3 (i + 1))
  refine am_wp_go (am_d_cm _) (fun pc => Nat.beq pc 18) 60 ?_
  refine ixi (i + 1) w3 (by omega) ?_ (ix1 i 1) (by omega)
  refine hC _ n w3 g σ τ r1 r2 W1 W2 hj.2.1 hj.2.2.2 (fun σ1 k1 f1 => ?_)
  refine ixi (i + 1) w3 (by omega) ?_ (ix1 i 1) (by omega)
  show am_d 10 193 [.ref 56, .int (σ1 3 (i + 1))] 0 0 _ _
  rw [f1 3 (by omega)]
  refine hM _ n w3 g σ1 τ r1 r2 (IM_CF hj.2.2.1 f1) (fun σ2 τ2 k2 f2 => ?_)
  refine And.intro (fun _ => ?_) (fun q => absurd rfl q)
  show am_wp _ _ _ (18, [.ref 3, .ref 4, .ref 56, .int (Int32.ofInt (i : Int) + Int32.ofInt ((6 : Nat) : Int))], [], _, _) _
  rw [ix1]
  exact H A' B' n g σ2 τ2 r1 r2 W1 W2 _ _ (JS_next hj hwf' k1 f1 k2 f2) hbc hbs

set_option maxRecDepth 100000 in
theorem b_digest (hi : i + 6 ≤ w3) (hw : w3 < 2147483648) (hj : JS A B n w3 g σ r1 r2 W1 W2) (hbc : PT W1 W2 ≤ bc) (hbs : 2 * PT W1 W2 ≤ bs) (H : NX Q w3 (i + 6)) : am_wp (am_d 10) T_L_law Q (1173, [.ref 3, .ref 4, .ref 56, .int (Int32.ofInt (i : Int))], [], bc, bs) (lo_M n w3 g σ τ r1 r2) := by
  obtain ⟨c1, s1, h1, h2, hC⟩ := kb_digest (τ := τ)  hj.1 hj.2.1 hbc hbs
  refine am_wp_go (am_d_cm _) (fun pc => Nat.beq pc 18) 60 ?_
  refine ⟨c1, s1, h1, h2, hC _ (fun n' g' ra rb Wa Wb σ1 k1 f1 p1 p2 => ?_)⟩
  have hm1 := IM_CF hj.2.2.1 f1
  refine q_digest 0 _ hm1 hj.1 (fun σ2 τ2 kq => ?_)
  have k2 := IM_QF hm1 kq
  have f2 := RF_QF kq
  refine And.intro (fun _ => ?_) (fun q => absurd (lg_self _) q)
  show am_wp _ _ _ (18, [.ref 3, .ref 4, .ref 56, .int (Int32.ofInt (i : Int) + Int32.ofInt ((6 : Nat) : Int))], [], _, _) _
  rw [ix1]
  exact H A B n' g' σ2 τ2 ra rb Wa Wb _ _ (JS_next hj hj.1 k1 f1 k2 f2) p1 p2

set_option maxRecDepth 100000 in
theorem b_skip (hi : i + 6 ≤ w3) (hw : w3 < 2147483648) (hj : JS A B n w3 g σ r1 r2 W1 W2) (hbc : PT W1 W2 ≤ bc) (hbs : 2 * PT W1 W2 ≤ bs) (H : NX Q w3 (i + 6)) : am_wp (am_d 10) T_L_law Q (1187, [.ref 3, .ref 4, .ref 56, .int (Int32.ofInt (i : Int))], [], bc, bs) (lo_M n w3 g σ τ r1 r2) := by
  refine am_wp_go (am_d_cm _) (fun pc => Nat.beq pc 18) 60 ?_
  show am_wp _ _ _ (18, [.ref 3, .ref 4, .ref 56, .int (Int32.ofInt (i : Int) + Int32.ofInt ((6 : Nat) : Int))], [], _, _) _
  rw [ix1]
  exact H A B n g σ τ r1 r2 W1 W2 _ _ hj hbc hbs
set_option maxRecDepth 100000 in
theorem b_end {x : Value} (h : ∀ M : am_M, Q (some (.int 1)) M) : am_wp (am_d 10) T_L_law Q (1193, [.ref 3, .ref 4, .ref 56, x], [], bc, bs) (lo_M n w3 g σ τ r1 r2) := by
  refine am_wp_go (am_d_cm _) (fun pc => Nat.beq pc 18) 60 ?_
  exact And.intro (Or.inr rfl) (h _)

set_option maxRecDepth 100000 in
theorem law_loop (hw : w3 < 2147483648) (h : ∀ M : am_M, Q (some (.int 1)) M) : ∀ (k i : Nat), w3 < i + 6 * k → i ≤ w3 → NX Q w3 i := by
  intro k
  induction k with
  | zero =>
    intro i h1 h2
    omega
  | succ k ih =>
    intro i h1 h2 A B n g σ τ r1 r2 W1 W2 bc bs hj hbc hbs
    have eL : Int32.ofNat w3 = Int32.ofInt (w3 : Int) := by rw [zN]; rfl
    refine am_wp_go (am_d_cm _) (fun pc => Nat.blt 187 pc) 60 ?_
    refine And.intro (fun c => ?_) (fun c => ?_)
    · exact b_end h
    · have c : ¬ (Int32.ofNat w3 - Int32.ofInt 6 < Int32.ofInt (i : Int)) := c
      rw [eL, zsub, zlt (by unfold zr; omega) (by unfold zr; omega)] at c
      have c : i + 6 ≤ w3 := by omega
      have H := ih (i + 6) (by omega) c
      refine ixi i w3 (by omega) ?_ rfl (by omega)
      exact And.intro (And.intro (fun _ => b_type c hw hj hbc hbs H) (And.intro (fun _ => b_wipe c hw hj hbc hbs H) (And.intro (fun _ => b_fault c hw hj hbc hbs H) (And.intro (fun _ => b_person c hw hj hbc hbs H) (And.intro (fun _ => b_waits c hw hj hbc hbs H) (And.intro (fun _ => b_rain c hw hj hbc hbs H) (And.intro (fun _ => b_set c hw hj hbc hbs H) (And.intro (fun _ => b_love c hw hj hbc hbs H) (And.intro (fun _ => b_read c hw hj hbc hbs H) (And.intro (fun _ => b_seat c hw hj hbc hbs H) (And.intro (fun _ => b_who c hw hj hbc hbs H) (And.intro (fun _ => b_has c hw hj hbc hbs H) (And.intro (fun _ => b_best c hw hj hbc hbs H) (And.intro (fun _ => b_rest c hw hj hbc hbs H) (And.intro (fun _ => b_change c hw hj hbc hbs H) (And.intro (fun _ => b_changes c hw hj hbc hbs H) (And.intro (fun _ => b_churches c hw hj hbc hbs H) (And.intro (fun _ => b_sat c hw hj hbc hbs H) (And.intro (fun _ => b_front c hw hj hbc hbs H) (And.intro (fun _ => b_forget c hw hj hbc hbs H) (And.intro (fun _ => b_came c hw hj hbc hbs H) (And.intro (fun _ => b_sure c hw hj hbc hbs H) (And.intro (fun _ => b_fair c hw hj hbc hbs H) (And.intro (fun _ => b_lot c hw hj hbc hbs H) (And.intro (fun _ => b_sunday c hw hj hbc hbs H) (And.intro (fun _ => b_late c hw hj hbc hbs H) (And.intro (fun _ => b_allLate c hw hj hbc hbs H) (And.intro (fun _ => b_sheet c hw hj hbc hbs H) (And.intro (fun _ => b_lose c hw hj hbc hbs H) (And.intro (fun _ => b_lay c hw hj hbc hbs H) (And.intro (fun _ => b_get c hw hj hbc hbs H) (And.intro (fun _ => b_copy c hw hj hbc hbs H) (And.intro (fun _ => b_write c hw hj hbc hbs H) (And.intro (fun _ => b_count c hw hj hbc hbs H) (And.intro (fun _ => b_digest c hw hj hbc hbs H) trivial))))))))))))))))))))))))))))))))))) (fun _ => b_skip c hw hj hbc hbs H)
end LAW
