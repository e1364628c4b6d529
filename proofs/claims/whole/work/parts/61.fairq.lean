/-! fair, came, sure: the reference's answers are the class's -/
theorem part_scale {K b : Nat} {a y : Int} (hK : 0 < K) : f_part ((K : Int) * a) (K * b) y = f_part a b y := by
  unfold f_part ltA ltB
  have e : Nat.gcd ((K : Int) * a).natAbs (K * b) = K * Nat.gcd a.natAbs b := by rw [Int.natAbs_mul, Int.natAbs_natCast, Nat.gcd_mul_left]
  rw [e, Int.natCast_mul, Int.mul_tdiv_mul_of_pos _ _ (by omega), Nat.mul_div_mul_left _ _ hK]
/-- same pew, by the places at which two came -/
def sp2 (N lw wd s t : Nat) : Int := if (stP N lw t).toNat / wd = (stP N lw s).toNat / wd then 1 else 0
theorem pm_eq : ∀ N : Nat, N < 8 → ∀ wd : Nat, wd < 4 → ∀ lw : Nat, lw < 2 → DD (sp2 N lw (wd + 1)) N = sumr (sbs (wd + 1) N) 0 N := by decide +kernel
theorem al_eq {N lw : Nat} (G : Int → Int) : sumr (fun s => G (stP N lw s)) 0 N = sumr (fun s => G (s : Int)) 0 N := by
  by_cases c : lw = 0
  · refine sumr_congr _ _ (fun s _ _ => ?_)
    unfold stP
    rw [if_pos c]
  · rw [← sumr_rev (f := fun s => G (s : Int)) N]
    refine sumr_congr _ _ (fun s _ hs => ?_)
    unfold stP
    rw [if_neg c, show (N : Int) - 1 - (s : Int) = ((N - 1 - s : Nat) : Int) by omega]
/-- what one has alone, by the place at which one came -/
def g1F (A : aN) (p s : Nat) : Int := 20 - (A 3 3 : Int) * ((stP (cnt A) (A 3 1) s - (wsh A p : Int)).natAbs : Int)
theorem sums_eq {A : aN} {B : aZ} (hwf : WF A B) {p : Nat} (hp : p < cnt A) : sumr (wU A p) 0 (fac (cnt A)) = (fac (cnt A - 2) : Int) * frA A p := by
  have hc := cnt_le A
  have h0 : 0 < 2 ^ cnt A := Nat.pow_pos (by omega)
  have hwd := hwf.2.2.2.1.2.2.1
  have hlw := hwf.2.2.2.1.2.1
  have b0 : ∀ q, bitk 0 q = false := bitk_0
  have e1 : ∀ i, 0 ≤ i → i < 0 + fac (cnt A) → wU A p i = g1F A p (psL (unr (cnt A) (cnt A) 0 i) p) + sumr (fun q => (A (20 + p) q : Int) * (if q = p then 0 else sp2 (cnt A) (A 3 1) (A 3 2) (psL (unr (cnt A) (cnt A) 0 i) p) (psL (unr (cnt A) (cnt A) 0 i) q))) 0 (cnt A) := by
    intro i _ hi
    have hbj := bijU (N := cnt A) (i := i) hc (by omega)
    unfold wU WRn
    have sp := stP_rng (lw := A 3 1) hc (hbj.2 p hp).1
    rw [if_neg (show ¬ stU A i p = -1 by unfold stU; omega)]
    congr 1
    refine sumr_congr _ _ (fun q _ hq => ?_)
    have sq := stP_rng (lw := A 3 1) hc (hbj.2 q (by omega)).1
    unfold nrq
    by_cases c : q = p
    · rw [if_pos c, if_neg (fun r => r.1 c), Int.mul_zero]
    · rw [if_neg c]
      show _ = (A (20 + p) q : Int) * (if (stU A i q).toNat / A 3 2 = (stU A i p).toNat / A 3 2 then 1 else 0)
      by_cases c2 : (stU A i q).toNat / A 3 2 = (stU A i p).toNat / A 3 2
      · rw [if_pos ⟨c, rfl, by unfold stU; omega, c2⟩, if_pos c2, Int.mul_one]
      · rw [if_neg (fun r => c2 r.2.2.2), if_neg c2, Int.mul_zero]
  rw [sumr_congr _ _ e1, sumr_add, U1 hc hp (cnt A) 0 (g1F A p) h0 (by rw [pcn0]; omega) (b0 p), sumr_swap]
  have e2 : ∀ q, 0 ≤ q → q < 0 + cnt A → sumr (fun i => (A (20 + p) q : Int) * (if q = p then 0 else sp2 (cnt A) (A 3 1) (A 3 2) (psL (unr (cnt A) (cnt A) 0 i) p) (psL (unr (cnt A) (cnt A) 0 i) q))) 0 (fac (cnt A)) = ((fac (cnt A - 2) : Int) * sumr (sbs (A 3 2) (cnt A)) 0 (cnt A)) * (A (20 + p) q : Int) := by
    intro q _ hq
    by_cases c : q = p
    · have hz := hwf.2.2.2.2.2.2.1 p
      rw [c, hz]
      refine (sumr_zero _ _ (fun i _ _ => ?_)).trans (Int.mul_zero _).symm
      exact Int.zero_mul _
    · rw [sumr_congr (g := fun i => (A (20 + p) q : Int) * sp2 (cnt A) (A 3 1) (A 3 2) (psL (unr (cnt A) (cnt A) 0 i) p) (psL (unr (cnt A) (cnt A) 0 i) q)) _ _ (fun i _ _ => by rw [if_neg c]), ← sumr_mul, U2 hc hp (by omega) (fun r => c r.symm) (cnt A) 0 (sp2 (cnt A) (A 3 1) (A 3 2)) h0 (by rw [pcn0]; omega) (b0 p) (b0 q)]
      have pm := pm_eq (cnt A) (by omega) (A 3 2 - 1) (by omega) (A 3 1) (by omega)
      rw [show A 3 2 - 1 + 1 = A 3 2 by omega] at pm
      rw [pm, Int.mul_comm]
  rw [sumr_congr _ _ e2, ← sumr_mul, show sumr (g1F A p) 0 (cnt A) = _ from al_eq (N := cnt A) (lw := A 3 1) (fun z => 20 - (A 3 3 : Int) * ((z - (wsh A p : Int)).natAbs : Int))]
  unfold frA
  have ef : (fac (cnt A - 1) : Int) = (fac (cnt A - 2) : Int) * ((max 1 (cnt A - 1) : Nat) : Int) := by
    rcases (show cnt A = 1 ∨ 2 ≤ cnt A by omega) with h | h
    · rw [h]
      rfl
    · have := facZ (cnt A - 1) (by omega)
      rw [← this, show cnt A - 1 - 1 = cnt A - 2 by omega, show max 1 (cnt A - 1) = cnt A - 1 by omega, Int.mul_comm]
  rw [ef, Int.mul_add, Int.mul_assoc, Int.mul_assoc]
theorem g_fair_eq {A : aN} {B : aZ} (hwf : WF A B) {p : Nat} {y : Int} (hp : p < cnt A) : g_fair A p y = f_part (frA A p) (frB A) y := by
  unfold g_fair
  have ef : fac (cnt A) = fac (cnt A - 2) * frB A := by
    unfold frB
    rcases (show cnt A = 1 ∨ 2 ≤ cnt A by omega) with h | h
    · rw [h]
      rfl
    · obtain ⟨k, hk⟩ : ∃ k, cnt A = k + 2 := ⟨cnt A - 2, by omega⟩
      rw [hk, show k + 2 - 2 = k by omega, show max 1 (k + 2 - 1) = k + 1 by omega]
      show (k + 2) * ((k + 1) * fac k) = fac k * ((k + 2) * (k + 1))
      rw [Nat.mul_comm (fac k), Nat.mul_assoc]
  rw [sums_eq hwf hp, ef, part_scale (fac_pos _)]
section RFQ
variable {n w3 : Nat} {g : Nat → Nat × Nat} {σ : Nat → Nat → Int32} {τ : Nat → Nat → Int64} {r1 r2 : Nat} {A : aN} {B : aZ}
set_option maxRecDepth 100000 in
theorem q_came (d : Nat) (Q : am_Q) {z : Int} (hz : zr z) (hm : IM A B σ) (hwf : WF A B) (h : ∀ (σ' : Nat → Nat → Int32) (τ' : Nat → Nat → Int64), QF σ σ' → Q (some (.int (Int32.ofInt (f_came A z)))) (lo_M n w3 g σ' τ' r1 r2)) : am_d (d + 6) 179 [.ref 56, .int (Int32.ofInt z)] 0 0 (lo_M n w3 g σ τ r1 r2) Q := by
  have hc := cnt_le A
  refine am_goT T_X10_came [.ref 56, .int (Int32.ofInt z)] rfl rfl (fun _ => false) 60 ?_
  refine r_reads (d + 1) _ hwf hm.1 (fun σ' k1 k2 k3 => ?_)
  have q1 := QF_rd k1 k2
  show am_d (d + 5) 109 [.long (Int32.ofInt z).toInt64, .long (Int64.ofInt (-1)), .long (σ' 56 8 - Int32.ofInt 1).toInt64] 0 0 _ _
  rw [k3.1, zsub]
  refine r_inI (d + 4) (lo := -1) hz (by unfold zr; omega) (by unfold zr; omega) _ _ ?_
  by_cases c : z = -1 ∨ (0 ≤ z ∧ z < cnt A)
  · rw [if_pos (by omega)]
    refine And.intro (fun q => absurd q (by decide)) (fun _ => ?_)
    refine r_cameOf d _ c hwf (RB_rd hm k1 k3) (IM_QF hm q1).2.2.2.2.2.1 (fun σ2 τ2 m1 => ?_)
    rw [g_came_eq hwf c]
    exact h σ2 τ2 (QF_trans q1 (FO_QF m1))
  · have h0 := h σ' τ q1
    unfold f_came at h0
    rw [if_neg (by omega)]
    rw [if_pos (by omega)] at h0
    exact And.intro (fun _ => h0) (fun q => absurd rfl q)
set_option maxRecDepth 100000 in
theorem q_sure (d : Nat) (Q : am_Q) (hm : IM A B σ) (hwf : WF A B) (h : ∀ (σ' : Nat → Nat → Int32) (τ' : Nat → Nat → Int64), QF σ σ' → Q (some (.int (Int32.ofInt (f_sure A)))) (lo_M n w3 g σ' τ' r1 r2)) : am_d (d + 6) 181 [.ref 56] 0 0 (lo_M n w3 g σ τ r1 r2) Q := by
  refine am_goT T_X10_sure [.ref 56] rfl rfl (fun _ => false) 60 ?_
  refine r_reads (d + 1) _ hwf hm.1 (fun σ' k1 k2 k3 => ?_)
  have q1 := QF_rd k1 k2
  refine r_sureNow d _ hwf (RB_rd hm k1 k3) (IM_QF hm q1).2.2.2.2.2.1 (fun σ2 τ2 m1 => ?_)
  rw [g_sure_eq hwf]
  exact h σ2 τ2 (QF_trans q1 (FO_QF m1))
set_option maxRecDepth 100000 in
theorem q_fair (d : Nat) (Q : am_Q) {z y : Int} (hz : zr z) (hy : zr y) (hm : IM A B σ) (hwf : WF A B) (h : ∀ (σ' : Nat → Nat → Int32) (τ' : Nat → Nat → Int64), QF σ σ' → Q (some (.long (Int64.ofInt (f_fair A z y)))) (lo_M n w3 g σ' τ' r1 r2)) : am_d (d + 6) 184 [.ref 56, .int (Int32.ofInt z), .int (Int32.ofInt y)] 0 0 (lo_M n w3 g σ τ r1 r2) Q := by
  refine am_goT T_X10_fair [.ref 56, .int (Int32.ofInt z), .int (Int32.ofInt y)] rfl rfl (fun _ => false) 60 ?_
  refine r_isPerson d _ hz hwf hm.1 (fun σ' k1 k2 k3 => ?_)
  have q1 := QF_rd k1 k2
  have h0 := h σ' τ q1
  unfold f_fair at h h0
  by_cases c : 0 ≤ z ∧ z < cnt A
  · rw [if_pos c]
    refine And.intro (fun q => absurd q (by decide)) (fun _ => ?_)
    refine r_isTwo (d + 3) hy _ _ ?_
    by_cases c2 : 0 ≤ y ∧ y ≤ 1
    · rw [if_pos ⟨c, c2⟩] at h
      rw [if_pos c2]
      refine And.intro (fun q => absurd q (by decide)) (fun _ => ?_)
      obtain ⟨p, rfl⟩ := Int.eq_ofNat_of_zero_le c.1
      refine r_fairOf d _ (by omega) hy hwf (RB_rd hm k1 k3) (IM_QF hm q1).2.2.2.2.2.1 (fun σ2 τ2 m1 => ?_)
      rw [g_fair_eq hwf (by omega)]
      exact h σ2 τ2 (QF_trans q1 (FO_QF m1))
    · rw [if_neg (fun q => c2 q.2)] at h0
      rw [if_neg c2]
      exact And.intro (fun _ => r_no (d + 4) _ _ h0) (fun q => absurd rfl q)
  · rw [if_neg (fun q => c q.1)] at h0
    rw [if_neg c]
    exact And.intro (fun _ => r_no (d + 4) _ _ h0) (fun q => absurd rfl q)
end RFQ
