/-! the reference: pews, count, write -/
theorem bit_or : ∀ k : Nat, k < 128 → ∀ p : Nat, p < 7 → ∀ j : Nat, j < 7 → bitk (k ||| 2 ^ p) j = (bitk k j || Nat.beq j p) := by decide +kernel
/-- is there one of the first k on this pew -/
def pwE (st : Nat → Int) (w j : Nat) : Nat → Bool
  | 0 => false
  | k + 1 => pwE st w j k || (decide (st k ≠ -1) && Nat.beq j ((st k).toNat / w))
theorem pwE_iff {st : Nat → Int} {w j : Nat} : ∀ k, pwE st w j k = true ↔ ∃ p, p < k ∧ st p ≠ -1 ∧ (st p).toNat / w = j
  | 0 => by
    constructor
    · intro h
      exact absurd (show false = true from h) (by decide)
    · rintro ⟨p, h, -⟩
      omega
  | k + 1 => by
    unfold pwE
    rw [Bool.or_eq_true, pwE_iff k, Bool.and_eq_true, decide_eq_true_eq, Nat.beq_eq]
    constructor
    · rintro (⟨p, h1, h2⟩ | ⟨h1, h2⟩)
      · exact ⟨p, by omega, h2⟩
      · exact ⟨k, by omega, h1, h2.symm⟩
    · rintro ⟨p, h1, h2, h3⟩
      by_cases e : p = k
      · subst e
        exact Or.inr ⟨h2, h3.symm⟩
      · exact Or.inl ⟨p, by omega, h2, h3⟩
theorem pew_SL {A : aN} {lw : Nat} {mem : Nat → Bool} {w : Nat → Nat} {wd j : Nat} (hw : 0 < wd) : pwE (seatZ (SL A lw mem w)) wd j (cnt A) = true ↔ j < ((SL A lw mem w).length + wd - 1) / wd := by
  rw [pwE_iff]
  have key : j < ((SL A lw mem w).length + wd - 1) / wd ↔ j * wd < (SL A lw mem w).length := by
    rw [Nat.lt_div_iff_mul_lt hw]
    omega
  rw [key]
  constructor
  · rintro ⟨p, h1, h2, h3⟩
    have hr := seatZ_rng (SL A lw mem w) p
    have := Nat.div_mul_le_self (seatZ (SL A lw mem w) p).toNat wd
    rw [h3] at this
    omega
  · intro h
    have hg := List.getElem?_eq_getElem h
    have hs := seatZ_get SL_nd hg
    refine ⟨(SL A lw mem w)[j * wd], SL_lt _ (List.getElem_mem h), by omega, ?_⟩
    rw [hs, Int.toNat_natCast, Nat.mul_div_cancel _ hw]
/-- sums of bits -/
theorem bitsum {b : Nat → Int} {K : Nat} (h : ∀ j, b j = if j < K then 1 else 0) : ∀ k, sumr b 0 k = (min k K : Nat)
  | 0 => by
    show (0 : Int) = _
    omega
  | k + 1 => by
    rw [sumr_last, bitsum h k, Nat.zero_add, h k]
    split <;> omega
theorem fL_out {lw bell : Int} {gs : Nat → Int} {mem : Nat → Bool} : ∀ N, ((fL lw bell gs mem N).length : Int) + sumr (fun p => if mem p = true ∧ gs p < bell then 0 else 1) 0 N = N
  | 0 => rfl
  | N + 1 => by
    have ih := fL_out (lw := lw) (bell := bell) (gs := gs) (mem := mem) N
    rw [sumr_last, Nat.zero_add]
    unfold fL
    split
    · rw [insL_len, List.length_reverse, List.length_nil]
      omega
    · omega
section RCO
variable {n w3 : Nat} {g : Nat → Nat × Nat} {σ : Nat → Nat → Int32} {τ : Nat → Nat → Int64} {r1 r2 : Nat} {A : aN} {B : aZ}
set_option maxHeartbeats 1000000 in
set_option maxRecDepth 100000 in
theorem r_pews_loop (d : Nat) (Q : am_Q) {st : Nat → Int} {wd N : Nat} (hN : N ≤ 7) (hw : 1 ≤ wd ∧ wd ≤ 4) (hn : σ 56 8 = Int32.ofInt (N : Int)) (e66 : σ 66 2 = Int32.ofInt (wd : Int)) (hst : ∀ q, q < N → σ 68 q = Int32.ofInt (st q) ∧ -1 ≤ st q ∧ st q ≤ 6) : ∀ (k p bt : Nat) (u : Value), p + k = N → bt < 128 → (∀ j, j < 7 → bitk bt j = pwE st wd j p) →
    (∀ (bt : Nat) (u : Value), bt < 128 → (∀ j, j < 7 → bitk bt j = pwE st wd j N) → am_wp (am_d d) T_X10_pews Q (54, [.ref 56, .int (Int32.ofInt (bt : Int)), .int (Int32.ofInt (N : Int)), u], [], 0, 0) (lo_M n w3 g σ τ r1 r2)) →
    am_wp (am_d d) T_X10_pews Q (8, [.ref 56, .int (Int32.ofInt (bt : Int)), .int (Int32.ofInt (p : Int)), u], [], 0, 0) (lo_M n w3 g σ τ r1 r2) := by
  have nz : ¬ σ 66 2 = 0 := by
    rw [e66, zeq0 (by unfold zr; omega)]
    omega
  intro k
  induction k with
  | zero =>
    intro p bt u hp hbt hb h
    have e : p = N := by omega
    subst e
    refine am_wp_go (am_d_cm _) (fun pc => Nat.beq pc 8 || Nat.beq pc 54) 60 ?_
    refine And.intro (fun c1 => h bt u hbt hb) (fun c1 => absurd ?_ c1)
    show σ 56 8 ≤ _
    rw [hn]
    exact Int32.le_refl _
  | succ k ih =>
    intro p bt u hp hbt hb h
    obtain ⟨s1, s2, s3⟩ := hst p (by omega)
    refine am_wp_go (am_d_cm _) (fun pc => Nat.beq pc 8 || Nat.beq pc 54) 60 ?_
    refine And.intro (fun c1 => ?_) (fun c1 => ?_)
    · have c1 : σ 56 8 ≤ Int32.ofInt (p : Int) := c1
      rw [hn, zle (by unfold zr; omega) (by unfold zr; omega)] at c1
      omega
    refine ixi p 7 (by omega) ?_
    refine And.intro (fun c2 => ?_) (fun c2 => ?_)
    · have c2 : σ 68 p = Int32.ofInt (-1) := c2
      rw [s1, zeq (by unfold zr; omega) (by unfold zr; omega)] at c2
      have key := ih (p + 1) bt u (by omega) hbt (fun j hj => by
        rw [hb j hj]
        show _ = (pwE st wd j p || (decide (st p ≠ -1) && _))
        rw [decide_eq_false (fun q => q c2), Bool.false_and, Bool.or_false]) h
      have e : Int32.ofInt (bt : Int) ||| Int32.ofInt 0 = Int32.ofInt (bt : Int) := by
        rw [show Int32.ofInt 0 = (0 : Int32) from rfl]
        exact Int32.or_zero
      rw [← e, show (((p + 1 : Nat) : Int)) = (p : Int) + 1 by omega, ← zadd (p : Int)] at key
      exact key
    · have c2 : ¬ σ 68 p = Int32.ofInt (-1) := c2
      rw [s1, zeq (by unfold zr; omega) (by unfold zr; omega)] at c2
      have dp : σ 68 p / σ 66 2 = Int32.ofInt (((st p).toNat / wd : Nat) : Int) := by
        rw [s1, e66, show st p = ((st p).toNat : Int) by omega, zdiv (by omega) (by omega) (by omega), Int.toNat_natCast]
      have b1 : (st p).toNat / wd ≤ (st p).toNat := Nat.div_le_self _ _
      have b7 : (st p).toNat / wd < 7 := by omega
      refine ixi p 7 (by omega) ?_
      refine ixi 2 6 (by omega) ?_
      refine And.intro nz ?_
      obtain ⟨o1, o2⟩ := orv bt hbt ((st p).toNat / wd) b7
      show am_wp _ _ _ (8, [.ref 56, .int (Int32.ofInt (bt : Int) ||| (Int32.ofInt 1 <<< ((σ 68 p / σ 66 2) &&& 31))), .int (Int32.ofInt (p : Int) + Int32.ofInt 1), u], [], 0, 0) (lo_M n w3 g σ τ r1 r2)
      rw [dp, o1, zadd]
      refine ih (p + 1) _ u (by omega) o2 (fun j hj => ?_) h
      rw [bit_or bt hbt _ b7 j hj, hb j hj]
      show _ = (pwE st wd j p || (decide (st p ≠ -1) && _))
      rw [decide_eq_true c2, Bool.true_and]
set_option maxRecDepth 100000 in
theorem r_pews_sum (d : Nat) (Q : am_Q) {M : am_M} {bt : Nat} (hbt : bt < 128) (h : Q (some (.int (Int32.ofInt (sumr (fun j => if bitk bt j = true then 1 else 0) 0 7)))) M) : ∀ (k j : Nat), j + k = 7 →
    am_wp (am_d d) T_X10_pews Q (58, [.ref 56, .int (Int32.ofInt (bt : Int)), .int (Int32.ofInt (sumr (fun j => if bitk bt j = true then 1 else 0) 0 j)), .int (Int32.ofInt (j : Int))], [], 0, 0) M := by
  intro k
  induction k with
  | zero =>
    intro j hj
    have e : j = 7 := by omega
    subst e
    refine am_wp_go (am_d_cm _) (fun pc => Nat.beq pc 58) 60 ?_
    exact And.intro (fun c1 => h) (fun c1 => absurd (by decide) c1)
  | succ k ih =>
    intro j hj
    refine am_wp_go (am_d_cm _) (fun pc => Nat.beq pc 58) 60 ?_
    refine And.intro (fun c1 => ?_) (fun c1 => ?_)
    · rw [zle (by unfold zr; omega) (by unfold zr; omega)] at c1
      omega
    show am_wp _ _ _ (58, [.ref 56, .int (Int32.ofInt (bt : Int)), .int (Int32.ofInt (sumr (fun j => if bitk bt j = true then 1 else 0) 0 j) + ((Int32.ofInt (bt : Int) >>> (Int32.ofInt (j : Int) &&& 31)) &&& Int32.ofInt 1)), .int (Int32.ofInt (j : Int) + Int32.ofInt 1)], [], 0, 0) M
    rw [bitv bt hbt j (by omega), zadd, zadd]
    have ih := ih (j + 1) (by omega)
    rw [sumr_last, Nat.zero_add] at ih
    exact ih
set_option maxRecDepth 100000 in
theorem r_pews (d : Nat) (Q : am_Q) (hwf : WF A B) (hb : RB A (A 4) σ) (h : ∀ σ' : Nat → Nat → Int32, (∀ c, c ≠ 68 → σ' c = σ c) → Q (some (.int (Int32.ofInt ((((SL A (A 3 1) (fun _ => true) (A 4)).length + A 3 2 - 1) / A 3 2 : Nat) : Int)))) (lo_M n w3 g σ' τ r1 r2)) : am_d (d + 6) 192 [.ref 56] 0 0 (lo_M n w3 g σ τ r1 r2) Q := by
  have hwd := hwf.2.2.2.1.2.2.1
  have hlen := SL_len A (A 3 1) (fun _ => true) (A 4)
  refine am_goT T_X10_pews [.ref 56, .null, .null, .null] rfl rfl (fun pc => Nat.beq pc 8) 60 ?_
  refine r_findAll d _ hwf.2.2.2.2.1 hwf hb (fun σ1 k1 k2 => ?_)
  have hb1 := RB_68 hb k1
  refine r_pews_loop (d + 5) Q (cnt_le A) hwd hb1.1.1 (hb1.2.2.1 2 (by omega)) (fun q hq => ⟨k2 q hq, seat6 A _ _ _ q⟩) (cnt A) 0 0 .null (by omega) (by omega) (fun j hj => ?_) (fun bt u hbt hbb => ?_)
  · have : ∀ j : Nat, j < 7 → bitk 0 j = false := by decide
    rw [this j hj]
    rfl
  · refine am_wp_go (am_d_cm _) (fun pc => Nat.beq pc 58) 60 ?_
    refine r_pews_sum (d + 5) Q hbt ?_ 7 0 (by omega)
    have h := h σ1 k1
    have kl : ((SL A (A 3 1) (fun _ => true) (A 4)).length + A 3 2 - 1) / A 3 2 ≤ 7 := by
      have : ((SL A (A 3 1) (fun _ => true) (A 4)).length + A 3 2 - 1) / A 3 2 < 8 := (Nat.div_lt_iff_lt_mul hwd.1).mpr (by
        have : A 3 2 ≤ A 3 2 * 1 := by omega
        have : 8 * A 3 2 = 7 * A 3 2 + A 3 2 := by omega
        omega)
      omega
    have e : sumr (fun j => if bitk bt j = true then 1 else 0) 0 7 = ((((SL A (A 3 1) (fun _ => true) (A 4)).length + A 3 2 - 1) / A 3 2 : Nat) : Int) := by
      rw [sumr_congr (g := fun j => if j < ((SL A (A 3 1) (fun _ => true) (A 4)).length + A 3 2 - 1) / A 3 2 then 1 else 0) 7 0 (fun j _ hj => ?_), bitsum (K := ((SL A (A 3 1) (fun _ => true) (A 4)).length + A 3 2 - 1) / A 3 2) (fun _ => rfl) 7, Nat.min_eq_right kl]
      rw [hbb j (by omega)]
      have := pew_SL (A := A) (lw := A 3 1) (mem := fun _ => true) (w := A 4) (wd := A 3 2) (j := j) hwd.1
      by_cases c : pwE (seatZ (SL A (A 3 1) (fun _ => true) (A 4))) (A 3 2) j (cnt A) = true
      · rw [if_pos c, if_pos (this.mp c)]
      · rw [if_neg c, if_neg (fun q => c (this.mpr q))]
    rw [e]
    exact h
set_option maxRecDepth 100000 in
theorem r_cnt2 (d : Nat) (Q : am_Q) {x1 : Int32} {w : Nat → Nat} (hw : ∀ p, w p ≤ 59) (h60 : A 3 0 ≤ 60) (hb : RB A w σ) (h : Q (some (.int (Int32.ofInt (sumr (fun p => if A 3 0 ≤ gin A p (w p) then 1 else 0) 0 (cnt A))))) (lo_M n w3 g σ τ r1 r2)) : ∀ (k p : Nat), p + k = cnt A →
    am_wp (am_d (d + 3)) T_X10_count Q (72, [.ref 56, .int x1, .int (Int32.ofInt (sumr (fun p => if A 3 0 ≤ gin A p (w p) then 1 else 0) 0 p)), .int (Int32.ofInt (p : Int))], [], 0, 0) (lo_M n w3 g σ τ r1 r2) := by
  have hc := cnt_le A
  intro k
  induction k with
  | zero =>
    intro p hp
    have e : p = cnt A := by omega
    subst e
    refine am_wp_go (am_d_cm _) (fun pc => Nat.beq pc 72) 60 ?_
    refine And.intro (fun c1 => h) (fun c1 => absurd ?_ c1)
    show σ 56 8 ≤ _
    rw [hb.1.1]
    exact Int32.le_refl _
  | succ k ih =>
    intro p hp
    refine am_wp_go (am_d_cm _) (fun pc => Nat.beq pc 72) 60 ?_
    refine And.intro (fun c1 => ?_) (fun c1 => ?_)
    · have c1 : σ 56 8 ≤ Int32.ofInt (p : Int) := c1
      rw [hb.1.1, zle (by unfold zr; omega) (by unfold zr; omega)] at c1
      omega
    have ih := ih (p + 1) (by omega)
    rw [sumr_last, Nat.zero_add, show (((p + 1 : Nat) : Int)) = (p : Int) + 1 by omega, ← zadd (p : Int)] at ih
    refine r_isOutside d _ (by omega) hw h60 hb ?_
    by_cases c : A 3 0 ≤ gin A p (w p)
    · rw [if_pos c]
      rw [if_pos c, ← zadd] at ih
      exact And.intro (fun q => absurd q (by decide)) (fun _ => ih)
    · rw [if_neg c]
      rw [if_neg c, ← zadd] at ih
      exact And.intro (fun _ => ih) (fun q => absurd rfl q)
set_option maxRecDepth 100000 in
theorem r_cnt3 (d : Nat) (Q : am_Q) {x1 : Int32} (hR : rR A σ) (h : Q (some (.int (Int32.ofInt (prz (A 2) 60 : Int)))) (lo_M n w3 g σ τ r1 r2)) : ∀ (k p : Nat), p + k = 60 →
    am_wp (am_d d) T_X10_count Q (106, [.ref 56, .int x1, .int (Int32.ofInt (prz (A 2) p : Int)), .int (Int32.ofInt (p : Int))], [], 0, 0) (lo_M n w3 g σ τ r1 r2) := by
  intro k
  induction k with
  | zero =>
    intro p hp
    have e : p = 60 := by omega
    subst e
    refine am_wp_go (am_d_cm _) (fun pc => Nat.beq pc 106) 60 ?_
    exact And.intro (fun c1 => h) (fun c1 => absurd (by decide) c1)
  | succ k ih =>
    intro p hp
    refine am_wp_go (am_d_cm _) (fun pc => Nat.beq pc 106) 60 ?_
    refine And.intro (fun c1 => ?_) (fun c1 => ?_)
    · rw [zle (by unfold zr; omega) (by unfold zr; omega)] at c1
      omega
    refine ixi p 60 (by omega) ?_
    have ih := ih (p + 1) (by omega)
    rw [prz_s, Int.natCast_add, Int.natCast_add, ← zadd, ← zadd, ← hR p (by omega)] at ih
    exact ih
theorem len_out (A : aN) : sumr (fun p => if A 3 0 ≤ gin A p (A 4 p) then 1 else 0) 0 (cnt A) = (cnt A : Int) - ((SL A (A 3 1) (fun _ => true) (A 4)).length : Int) := by
  have h := fL_out (lw := (A 3 1 : Int)) (bell := (A 3 0 : Int)) (gs := gI A (A 4)) (mem := fun _ => true) (cnt A)
  rw [← SL_eq] at h
  rw [sumr_congr (g := fun p => if true = true ∧ gI A (A 4) p < (A 3 0 : Int) then 0 else 1) (cnt A) 0 (fun q _ _ => ?_)]
  · omega
  · unfold gI
    by_cases c : A 3 0 ≤ gin A q (A 4 q)
    · rw [if_pos c, if_neg (fun r => by omega)]
    · rw [if_neg c, if_pos ⟨rfl, by omega⟩]
/-- what count leaves -/
def CQ (σ σ' : Nat → Nat → Int32) : Prop := (∀ c, c ≠ 56 → c ≠ 62 → c ≠ 63 → c ≠ 68 → σ' c = σ c) ∧ (∀ i, i ≠ 7 → i ≠ 8 → σ' 56 i = σ 56 i)
theorem CQ_QF {σ σ' : Nat → Nat → Int32} (h : CQ σ σ') : QF σ σ' := ⟨fun c e => h.1 c (by omega) (by omega) (by omega) (by omega), fun c e1 e2 e3 => h.1 c (by omega) (fun q => e3 (by subst q; unfold rscr; omega)) (fun q => e3 (by subst q; unfold rscr; omega)) (fun q => e3 (by subst q; unfold rscr; omega)), fun i e => h.2 i (by omega) (by omega)⟩
set_option maxHeartbeats 1000000 in
set_option maxRecDepth 100000 in
theorem r_count (d : Nat) (Q : am_Q) {z : Int} (hz : zr z) (hm : IM A B σ) (hwf : WF A B) (h : ∀ σ', CQ σ σ' → RD A σ' → Q (some (.int (Int32.ofInt (f_count A z)))) (lo_M n w3 g σ' τ r1 r2)) : am_d (d + 7) 193 [.ref 56, .int (Int32.ofInt z)] 0 0 (lo_M n w3 g σ τ r1 r2) Q := by
  have hc := cnt_le A
  refine am_goT T_X10_count [.ref 56, .int (Int32.ofInt z), .null, .null] rfl rfl (fun pc => Nat.beq pc 72 || Nat.beq pc 106) 60 ?_
  refine r_reads (d + 2) _ hwf hm.1 (fun σ1 k1 k2 k3 => ?_)
  have q1 : CQ σ σ1 := ⟨fun c e1 e2 e3 _ => k1 c e1 e2 e3, k2⟩
  have hm1 := IM_QF hm (QF_rd k1 k2)
  have hb := RB_rd hm k1 k3
  have h0 := h σ1 q1 k3
  unfold f_count at h h0
  have ty : (Int32.ofInt z).toInt = z := zI_to hz
  refine And.intro (And.intro (fun c0 => ?_) (And.intro (fun c0 => ?_) (And.intro (fun c0 => ?_) (And.intro (fun c0 => ?_) (And.intro (fun c0 => ?_) (And.intro (fun c0 => ?_) (And.intro (fun c0 => ?_) (And.intro (fun c0 => ?_) (And.intro (fun c0 => ?_) trivial))))))))) (fun c0 => ?_)
  · rw [ty] at c0
    rw [if_pos (by omega), ← k3.1] at h0
    exact h0
  · rw [ty] at c0
    rw [if_neg (by omega), if_pos (by omega), ← hm1.1.1] at h0
    exact h0
  · rw [ty] at c0
    rw [if_neg (by omega), if_neg (by omega), if_pos (by omega), ← len_out] at h0
    exact r_cnt2 (d + 3) Q hwf.2.2.2.2.1 hwf.2.2.2.1.1 hb h0 (cnt A) 0 (by omega)
  · rw [ty] at c0
    rw [if_neg (by omega), if_neg (by omega), if_neg (by omega), if_pos (by omega)] at h0
    exact r_cnt3 (d + 6) Q hb.2.1 h0 60 0 (by omega)
  · rw [ty] at c0
    rw [if_neg (by omega), if_neg (by omega), if_neg (by omega), if_neg (by omega), if_pos (by omega), ← hm1.2.2.2.2.2.1.1] at h0
    exact h0
  · rw [ty] at c0
    rw [if_neg (by omega), if_neg (by omega), if_neg (by omega), if_neg (by omega), if_neg (by omega), if_pos (by omega), ← hm1.2.2.2.2.2.2.1.1] at h0
    exact h0
  · rw [ty] at c0
    refine r_pews d _ hwf hb (fun σ2 m1 => ?_)
    have h := h σ2 ⟨fun c e1 e2 e3 e4 => by rw [m1 c e4, k1 c e1 e2 e3], fun i e1 e2 => by rw [m1 56 (by decide), k2 i e1 e2]⟩ ⟨by rw [m1 56 (by decide)]; exact k3.1, by rw [m1 62 (by decide), m1 63 (by decide)]; exact k3.2⟩
    rw [if_neg (by omega), if_neg (by omega), if_neg (by omega), if_neg (by omega), if_neg (by omega), if_neg (by omega), if_pos (by omega)] at h
    exact h
  · rw [ty] at c0
    rw [if_neg (by omega), if_neg (by omega), if_neg (by omega), if_neg (by omega), if_neg (by omega), if_neg (by omega), if_neg (by omega), if_pos (by omega), ← hm1.2.2.1 0 (by omega)] at h0
    exact ixi 0 6 (by omega) h0
  · rw [ty] at c0
    rw [if_neg (by omega), if_neg (by omega), if_neg (by omega), if_neg (by omega), if_neg (by omega), if_neg (by omega), if_neg (by omega), if_neg (by omega), if_pos (by omega), ← hm1.2.2.2.2.2.2.2.2] at h0
    exact h0
  · rw [ty] at c0
    rw [if_neg (by omega), if_neg (by omega), if_neg (by omega), if_neg (by omega), if_neg (by omega), if_neg (by omega), if_neg (by omega), if_neg (by omega), if_neg (by omega)] at h0
    exact h0
theorem q_count (d : Nat) (Q : am_Q) {z : Int} (hz : zr z) (hm : IM A B σ) (hwf : WF A B) (h : ∀ σ', QF σ σ' → Q (some (.int (Int32.ofInt (f_count A z)))) (lo_M n w3 g σ' τ r1 r2)) : am_d (d + 7) 193 [.ref 56, .int (Int32.ofInt z)] 0 0 (lo_M n w3 g σ τ r1 r2) Q :=
  r_count d Q hz hm hwf (fun σ' k _ => h σ' (CQ_QF k))
set_option maxRecDepth 100000 in
theorem r_write_loop (d : Nat) (Q : am_Q) {s : Nat} {f : Int} (hs : s < 4) (hf : zr f) {N : Nat} (hN : N ≤ 7) : ∀ (k p : Nat) (σ : Nat → Nat → Int32), p + k = N → σ 57 s = Int32.ofInt f →
    (∀ σ' : Nat → Nat → Int32, (∀ c, c ≠ 59 → σ' c = σ c) → (∀ j, σ' 59 j = if 60 * s + p ≤ j ∧ j < 60 * s + N then cutI f (σ 68 (j - 60 * s)) else σ 59 j) → Q (some (.int (Int32.ofInt (N : Int)))) (lo_M n w3 g σ' τ r1 r2)) →
    am_wp (am_d (d + 1)) T_X10_write Q (50, [.ref 56, .int (Int32.ofInt (s : Int)), .int (Int32.ofInt (N : Int)), .int (Int32.ofInt (p : Int))], [], 0, 0) (lo_M n w3 g σ τ r1 r2) := by
  intro k
  induction k with
  | zero =>
    intro p σ hp h57 h
    refine am_wp_go (am_d_cm _) (fun pc => Nat.beq pc 50) 60 ?_
    refine And.intro (fun c1 => ?_) (fun c1 => absurd ?_ c1)
    · exact h σ (fun _ _ => rfl) (fun j => by rw [if_neg (by omega)])
    · rw [zle (by unfold zr; omega) (by unfold zr; omega)]
      omega
  | succ k ih =>
    intro p σ hp h57 h
    refine am_wp_go (am_d_cm _) (fun pc => Nat.beq pc 50) 60 ?_
    refine And.intro (fun c1 => ?_) (fun c1 => ?_)
    · rw [zle (by unfold zr; omega) (by unfold zr; omega)] at c1
      omega
    refine ixi s 4 hs ?_
    refine ixi p 7 (by omega) ?_
    show am_d (d + 1) 119 [.int (σ 57 s), .int (σ 68 p)] 0 0 _ _
    rw [h57]
    refine r_cut d hf _ _ ?_
    refine ixi (60 * s + p) 240 (by omega) ?_ (by rw [zmul, zadd]; congr 1)
    show am_wp _ _ _ (50, [.ref 56, .int (Int32.ofInt (s : Int)), .int (Int32.ofInt (N : Int)), .int (Int32.ofInt (p : Int) + Int32.ofInt 1)], [], 0, 0) (lo_M n w3 g (am_u σ 59 (60 * s + p) (cutI f (σ 68 p))) τ r1 r2)
    rw [zadd]
    refine ih (p + 1) _ (by omega) (by rw [am_u_ne (by decide)]; exact h57) (fun σ' k1 k2 => h σ' (fun c hc => by rw [k1 c hc, am_u_ne hc]) (fun j => ?_))
    rw [k2 j, am_u_at, am_u_ne (c' := 68) (by decide)]
    by_cases e : j = 60 * s + p
    · rw [if_neg (by omega), if_pos e, if_pos (by omega), show j - 60 * s = p by omega]
    · rw [if_neg e]
      by_cases e2 : 60 * s + p ≤ j ∧ j < 60 * s + N
      · rw [if_pos (by omega), if_pos e2]
      · rw [if_neg (by omega), if_neg e2]
set_option maxHeartbeats 1000000 in
set_option maxRecDepth 100000 in
theorem r_write (d : Nat) (Q : am_Q) {z : Int} (hz : zr z) (hm : IM A B σ) (hwf : WF A B)
    (hbad : ¬ (0 ≤ z ∧ z ≤ 3) → Q (some (.int (Int32.ofInt (-2)))) (lo_M n w3 g σ τ r1 r2))
    (hlost : ∀ s : Nat, z = (s : Int) → s < 4 → B 0 s = -1 → Q (some (.int (Int32.ofInt (-11)))) (lo_M n w3 g (am_u σ 56 4 (Int32.ofInt 1)) τ r1 r2))
    (hok : ∀ s : Nat, z = (s : Int) → s < 4 → B 0 s ≠ -1 → ∀ σ' σ2 : Nat → Nat → Int32, QF σ σ2 → (∀ c, c ≠ 59 → σ' c = σ2 c) → (∀ j, σ' 59 j = if 60 * s ≤ j ∧ j < 60 * s + min (A 11 s) (cnt A) then cutI (B 0 s) (Int32.ofInt (seatZ (SL A (A 3 1) (fun _ => true) (A 4)) (j - 60 * s))) else σ 59 j) → Q (some (.int (Int32.ofInt ((min (A 11 s) (cnt A) : Nat) : Int)))) (lo_M n w3 g σ' τ r1 r2)) :
    am_d (d + 6) 191 [.ref 56, .int (Int32.ofInt z)] 0 0 (lo_M n w3 g σ τ r1 r2) Q := by
  have hc := cnt_le A
  refine am_goT T_X10_write [.ref 56, .int (Int32.ofInt z), .null, .null] rfl rfl (fun pc => Nat.beq pc 50) 60 ?_
  refine r_isSheet (d + 3) hz _ _ ?_
  by_cases c : 0 ≤ z ∧ z ≤ 3
  · rw [if_pos c]
    refine And.intro (fun q => absurd q (by decide)) (fun _ => ?_)
    obtain ⟨s, rfl⟩ := Int.eq_ofNat_of_zero_le c.1
    have hs : s < 4 := by omega
    have hBs := hwf.2.2.2.2.2.2.2.2.2.2.2.2.2.1 s
    have hAs := hwf.2.2.2.2.2.2.2.2.2.2.2.2.1 s
    obtain ⟨t1, t2, -⟩ := hm.2.2.2.2.2.2.2.1 s hs
    refine ixi s 4 hs ?_
    refine And.intro (fun c1 => ?_) (fun c1 => ?_)
    · have c1 : 0 ≤ σ 57 s := c1
      rw [t1, z0le (by unfold zr; omega)] at c1
      refine r_reads (d + 1) _ hwf hm.1 (fun σ1 k1 k2 k3 => ?_)
      refine r_findAll d _ hwf.2.2.2.2.1 hwf (RB_rd hm k1 k3) (fun σ2 m1 m2 => ?_)
      refine ixi s 4 hs ?_
      have e57 : σ2 57 = σ 57 := by rw [m1 57 (by decide), k1 57 (by decide) (by decide) (by decide)]
      have e58 : σ2 58 = σ 58 := by rw [m1 58 (by decide), k1 58 (by decide) (by decide) (by decide)]
      have e59 : σ2 59 = σ 59 := by rw [m1 59 (by decide), k1 59 (by decide) (by decide) (by decide)]
      show am_d (d + 5) 132 [.int (σ2 58 s), .int (σ2 56 8)] 0 0 _ _
      rw [e58, t2, m1 56 (by decide), k3.1]
      refine r_least (d + 4) (by unfold zr; omega) (by unfold zr; omega) _ _ ?_
      rw [show min (A 11 s : Int) (cnt A : Int) = ((min (A 11 s) (cnt A) : Nat) : Int) by omega]
      refine r_write_loop (d + 4) Q hs (f := B 0 s) (by unfold zr; omega) (by omega) (min (A 11 s) (cnt A)) 0 σ2 (by omega) (by rw [e57]; exact t1) (fun σ3 j1 j2 => ?_)
      refine hok s rfl hs (by omega) σ3 σ2 (QF_r68 k1 k2 m1) j1 (fun j => ?_)
      rw [j2 j, e59, Nat.add_zero]
      by_cases e : 60 * s ≤ j ∧ j < 60 * s + min (A 11 s) (cnt A)
      · rw [if_pos e, if_pos e, m2 (j - 60 * s) (by omega)]
      · rw [if_neg e, if_neg e]
    · have c1 : ¬ 0 ≤ σ 57 s := c1
      rw [t1, z0le (by unfold zr; omega)] at c1
      exact r_met (d + 4) _ (hlost s rfl hs (by omega))
  · rw [if_neg c]
    exact And.intro (fun _ => hbad c) (fun q => absurd rfl q)
end RCO
