/-! the reference's digest -/
def RI (A : aN) (B : aZ) (σ : Nat → Nat → Int32) : Prop := IM A B σ ∧ RD A σ
section RDG
variable {n w3 : Nat} {g : Nat → Nat × Nat} {σ : Nat → Nat → Int32} {τ : Nat → Nat → Int64} {r1 r2 : Nat} {A : aN} {B : aZ}
theorem RI_RB (h : RI A B σ) : RB A (A 4) σ := ⟨h.2, h.1.2.1, h.1.2.2.1, h.1.2.2.2.1, h.1.2.2.2.2.1⟩
theorem RD_fr {σ' : Nat → Nat → Int32} (h : RD A σ) (h1 : σ' 56 8 = σ 56 8) (h2 : σ' 62 = σ 62) (h3 : σ' 63 = σ 63) : RD A σ' := by
  unfold RD
  rw [h1, h2, h3]
  exact h
theorem RI_68 {σ' : Nat → Nat → Int32} (h : RI A B σ) (k : ∀ c, c ≠ 68 → σ' c = σ c) : RI A B σ' := ⟨IM_QF h.1 (QF_68 k), RD_fr h.2 (by rw [k 56 (by decide)]) (k 62 (by decide)) (k 63 (by decide))⟩
theorem RI_FR {σ' : Nat → Nat → Int32} (h : RI A B σ) (k : FR σ σ') : RI A B σ' := ⟨IM_QF h.1 (FR_QF k), RD_fr h.2 (k.2 8 (by decide) (by decide)) (k.1 62 (by decide) (by decide) (by decide)) (k.1 63 (by decide) (by decide) (by decide))⟩
theorem RI_FO {σ' : Nat → Nat → Int32} (h : RI A B σ) (k : FO σ σ') : RI A B σ' := ⟨IM_QF h.1 (FO_QF k), RD_fr h.2 (k.2 8 (by decide) (by decide)) (k.1 62 (by decide) (by decide) (by decide) (by decide) (by decide)) (k.1 63 (by decide) (by decide) (by decide) (by decide) (by decide))⟩
theorem v_person {p w : Nat} (hp : p < cnt A) (hw : w < 4) : f_pOf A p w = f_person A p w := by
  unfold f_pOf f_person
  rw [if_pos (c := (0 ≤ (p : Int) ∧ (p : Int) < cnt A) ∧ 0 ≤ (w : Int) ∧ (w : Int) ≤ 3) (by omega), Int.toNat_natCast]
theorem v_seat {p : Nat} (hp : p < cnt A) : seatZ (SL A (A 3 1) (fun _ => true) (A 4)) p = f_seat A p := by
  unfold f_seat
  rw [if_pos (by omega), Int.toNat_natCast]
theorem v_has {p : Nat} (hp : p < cnt A) : HZ A (A 3 1) (fun _ => true) (A 4) p = f_has A p := by
  unfold f_has
  rw [if_pos (by omega), Int.toNat_natCast]
theorem v_best {p : Nat} {y : Int} (hp : p < cnt A) (hy : 0 ≤ y ∧ y ≤ 1) : f_bOf A p y = f_best A p y := by
  unfold f_bOf f_best
  rw [if_pos (c := (0 ≤ (p : Int) ∧ (p : Int) < cnt A) ∧ 0 ≤ y ∧ y ≤ 1) (by omega), Int.toNat_natCast]
theorem v_rest {z : Int} (hz : z = -1 ∨ (0 ≤ z ∧ z < cnt A)) : f_rOf A z = f_rest A z := by
  unfold f_rOf f_rest
  rw [if_neg (show ¬ (z ≠ -1 ∧ ¬ (0 ≤ z ∧ z < cnt A)) by omega)]
theorem v_fair {p : Nat} {y : Int} (hwf : WF A B) (hp : p < cnt A) (hy : 0 ≤ y ∧ y ≤ 1) : g_fair A p y = f_fair A p y := by
  rw [g_fair_eq hwf hp]
  unfold f_fair
  rw [if_pos (by omega), Int.toNat_natCast]
theorem v_lot {p : Nat} {s : Int32} (hp : p < cnt A) : (lD (cnt A) s p (lT (cnt A) s p) : Int) = f_lot A s p := by
  unfold f_lot
  rw [if_pos (by omega), Int.toNat_natCast]
theorem r_whoF (d : Nat) (Q : am_Q) {s : Nat} (hs : s < 7) (hb : RB A (A 4) σ) (hwf : WF A B) (h : ∀ σ' : Nat → Nat → Int32, (∀ c, c ≠ 68 → σ' c = σ c) → Q (some (.int (Int32.ofInt (f_who A s)))) (lo_M n w3 g σ' τ r1 r2)) : am_d (d + 6) 152 [.ref 56, .int (Int32.ofInt (s : Int))] 0 0 (lo_M n w3 g σ τ r1 r2) Q := by
  refine r_whoOf d Q hs hb hwf (fun σ' k => ?_)
  have h := h σ' k
  unfold f_who at h
  rw [if_pos (by omega), Int.toNat_natCast] at h
  exact h
theorem v_church {y : Int} (hy : 0 ≤ y ∧ y ≤ 1) : f_cOf A y = f_churches A y := by
  unfold f_cOf f_churches
  rw [if_pos hy]
theorem v_all {y : Int} (hy : 0 ≤ y ∧ y ≤ 1) : f_aOf A y = f_allLate A y := by
  unfold f_aOf f_allLate
  rw [if_pos hy]
set_option maxRecDepth 100000 in
theorem rg_seat (d : Nat) (Q : am_Q) {p : Nat} {h : Int64} {u : Value} (hp : p < cnt A) (hwf : WF A B) (hs : RI A B σ) (H : ∀ (σ' : Nat → Nat → Int32) (τ' : Nat → Nat → Int64), RI A B σ' → QF σ σ' → am_wp (am_d (d + 9)) T_X10_digest Q (101, [.ref 56, .long (dg h (f_seat A p)), .null, .int (Int32.ofInt (p : Int)), u], [], 0, 0) (lo_M n w3 g σ' τ' r1 r2)) : am_wp (am_d (d + 9)) T_X10_digest Q (83, [.ref 56, .long h, .null, .int (Int32.ofInt (p : Int)), u], [], 0, 0) (lo_M n w3 g σ τ r1 r2) := by
  have hc := cnt_le A
  have hb := RI_RB hs
  refine am_wp_go (am_d_cm _) (fun pc => Nat.beq pc 101) 40 ?_
  refine r_findAll (d + 4) _ hwf.2.2.2.2.1 hwf hb (fun σ1 k1 k2 => ?_)
  refine ixi p 7 (by omega) ?_
  have H := H σ1 τ (RI_68 hs k1) (QF_68 k1)
  unfold dg at H
  rw [← v_seat hp, ← k2 p hp] at H
  exact H
set_option maxRecDepth 100000 in
theorem rg_has (d : Nat) (Q : am_Q) {p : Nat} {h : Int64} {u : Value} (hp : p < cnt A) (hwf : WF A B) (hs : RI A B σ) (H : ∀ (σ' : Nat → Nat → Int32) (τ' : Nat → Nat → Int64), RI A B σ' → QF σ σ' → am_wp (am_d (d + 9)) T_X10_digest Q (114, [.ref 56, .long (dg h (f_has A p)), .null, .int (Int32.ofInt (p : Int)), u], [], 0, 0) (lo_M n w3 g σ' τ' r1 r2)) : am_wp (am_d (d + 9)) T_X10_digest Q (101, [.ref 56, .long h, .null, .int (Int32.ofInt (p : Int)), u], [], 0, 0) (lo_M n w3 g σ τ r1 r2) := by
  have hc := cnt_le A
  have hb := RI_RB hs
  refine am_wp_go (am_d_cm _) (fun pc => Nat.beq pc 114) 40 ?_
  refine r_hasOf (d + 3) _ hwf hwf.2.2.2.2.1 hb hp (fun σ1 k1 => ?_)
  have H := H σ1 τ (RI_68 hs k1) (QF_68 k1)
  unfold dg at H
  rw [← v_has hp] at H
  exact H
set_option maxRecDepth 100000 in
theorem rg_b0 (d : Nat) (Q : am_Q) {p : Nat} {h : Int64} {u : Value} (hp : p < cnt A) (hwf : WF A B) (hs : RI A B σ) (H : ∀ (σ' : Nat → Nat → Int32) (τ' : Nat → Nat → Int64), RI A B σ' → QF σ σ' → am_wp (am_d (d + 9)) T_X10_digest Q (128, [.ref 56, .long (dg h (f_best A p 0)), .null, .int (Int32.ofInt (p : Int)), u], [], 0, 0) (lo_M n w3 g σ' τ' r1 r2)) : am_wp (am_d (d + 9)) T_X10_digest Q (114, [.ref 56, .long h, .null, .int (Int32.ofInt (p : Int)), u], [], 0, 0) (lo_M n w3 g σ τ r1 r2) := by
  have hc := cnt_le A
  have hb := RI_RB hs
  refine am_wp_go (am_d_cm _) (fun pc => Nat.beq pc 128) 40 ?_
  refine r_bestOf (d + 2) _ (y := 0) (by unfold zr; omega) hwf hb hp (fun σ1 k1 => ?_)
  have H := H σ1 τ (RI_68 hs k1) (QF_68 k1)
  unfold dg at H
  rw [← v_best hp (by omega)] at H
  exact H
set_option maxRecDepth 100000 in
theorem rg_b1 (d : Nat) (Q : am_Q) {p : Nat} {h : Int64} {u : Value} (hp : p < cnt A) (hwf : WF A B) (hs : RI A B σ) (H : ∀ (σ' : Nat → Nat → Int32) (τ' : Nat → Nat → Int64), RI A B σ' → QF σ σ' → am_wp (am_d (d + 9)) T_X10_digest Q (142, [.ref 56, .long (dg h (f_best A p 1)), .null, .int (Int32.ofInt (p : Int)), u], [], 0, 0) (lo_M n w3 g σ' τ' r1 r2)) : am_wp (am_d (d + 9)) T_X10_digest Q (128, [.ref 56, .long h, .null, .int (Int32.ofInt (p : Int)), u], [], 0, 0) (lo_M n w3 g σ τ r1 r2) := by
  have hc := cnt_le A
  have hb := RI_RB hs
  refine am_wp_go (am_d_cm _) (fun pc => Nat.beq pc 142) 40 ?_
  refine r_bestOf (d + 2) _ (y := 1) (by unfold zr; omega) hwf hb hp (fun σ1 k1 => ?_)
  have H := H σ1 τ (RI_68 hs k1) (QF_68 k1)
  unfold dg at H
  rw [← v_best hp (by omega)] at H
  exact H
set_option maxRecDepth 100000 in
theorem rg_rest (d : Nat) (Q : am_Q) {p : Nat} {h : Int64} {u : Value} (hp : p < cnt A) (hwf : WF A B) (hs : RI A B σ) (H : ∀ (σ' : Nat → Nat → Int32) (τ' : Nat → Nat → Int64), RI A B σ' → QF σ σ' → am_wp (am_d (d + 9)) T_X10_digest Q (155, [.ref 56, .long (dg h (f_rest A p)), .null, .int (Int32.ofInt (p : Int)), u], [], 0, 0) (lo_M n w3 g σ' τ' r1 r2)) : am_wp (am_d (d + 9)) T_X10_digest Q (142, [.ref 56, .long h, .null, .int (Int32.ofInt (p : Int)), u], [], 0, 0) (lo_M n w3 g σ τ r1 r2) := by
  have hc := cnt_le A
  have hb := RI_RB hs
  refine am_wp_go (am_d_cm _) (fun pc => Nat.beq pc 155) 40 ?_
  refine r_restOf d _ (z := (p : Int)) (Or.inr (by omega)) hwf hb (fun σ1 k1 => ?_)
  have H := H σ1 τ (RI_FR hs k1) (FR_QF k1)
  unfold dg at H
  rw [← v_rest (Or.inr (by omega))] at H
  exact H
set_option maxRecDepth 100000 in
theorem rg_came (d : Nat) (Q : am_Q) {p : Nat} {h : Int64} {u : Value} (hp : p < cnt A) (hwf : WF A B) (hs : RI A B σ) (H : ∀ (σ' : Nat → Nat → Int32) (τ' : Nat → Nat → Int64), RI A B σ' → QF σ σ' → am_wp (am_d (d + 9)) T_X10_digest Q (168, [.ref 56, .long (dg h (f_came A p)), .null, .int (Int32.ofInt (p : Int)), u], [], 0, 0) (lo_M n w3 g σ' τ' r1 r2)) : am_wp (am_d (d + 9)) T_X10_digest Q (155, [.ref 56, .long h, .null, .int (Int32.ofInt (p : Int)), u], [], 0, 0) (lo_M n w3 g σ τ r1 r2) := by
  have hc := cnt_le A
  have hb := RI_RB hs
  refine am_wp_go (am_d_cm _) (fun pc => Nat.beq pc 168) 40 ?_
  refine r_cameOf (d + 4) _ (z := (p : Int)) (Or.inr (by omega)) hwf hb hs.1.2.2.2.2.2.1 (fun σ1 τ1 k1 => ?_)
  have H := H σ1 τ1 (RI_FO hs k1) (FO_QF k1)
  unfold dg at H
  rw [← g_came_eq hwf (Or.inr (by omega))] at H
  exact H
/-- k longs of f, from i on -/
def dlF (f : Nat → Int) : Nat → Nat → Int64 → Int64
  | _, 0, h => h
  | i, k + 1, h => dlF f (i + 1) k (dl h (f i))
set_option maxRecDepth 100000 in
theorem rg_pers (d : Nat) (Q : am_Q) {p : Nat} (hp : p < cnt A) (hwf : WF A B) : ∀ (k w : Nat) (h : Int64) (σ : Nat → Nat → Int32) (τ : Nat → Nat → Int64), w + k = 4 → RI A B σ →
    (∀ (σ' : Nat → Nat → Int32) (τ' : Nat → Nat → Int64), RI A B σ' → QF σ σ' → am_wp (am_d (d + 9)) T_X10_digest Q (83, [.ref 56, .long (dgF (fun w => f_person A p w) w k h), .null, .int (Int32.ofInt (p : Int)), .int (Int32.ofInt 4)], [], 0, 0) (lo_M n w3 g σ' τ' r1 r2)) →
    am_wp (am_d (d + 9)) T_X10_digest Q (56, [.ref 56, .long h, .null, .int (Int32.ofInt (p : Int)), .int (Int32.ofInt (w : Int))], [], 0, 0) (lo_M n w3 g σ τ r1 r2) := by
  have hc := cnt_le A
  intro k
  induction k with
  | zero =>
    intro w h σ τ hw hs H
    have e : w = 4 := by omega
    subst e
    refine am_wp_go (am_d_cm _) (fun pc => Nat.beq pc 56 || Nat.beq pc 83) 60 ?_
    exact And.intro (fun c1 => H σ τ hs (QF_refl σ)) (fun c1 => absurd (by decide) c1)
  | succ k ih =>
    intro w h σ τ hw hs H
    have hb := RI_RB hs
    refine am_wp_go (am_d_cm _) (fun pc => Nat.beq pc 56 || Nat.beq pc 83) 60 ?_
    refine And.intro (fun c1 => ?_) (fun c1 => ?_)
    · rw [zle (by unfold zr; omega) (by unfold zr; omega)] at c1
      omega
    refine r_personOf (d + 5) _ (y := (w : Int)) (by unfold zr; omega) hp hwf hb ?_
    have key := ih (w + 1) (dg h (f_person A p w)) σ τ (by omega) hs H
    rw [show (((w + 1 : Nat) : Int)) = (w : Int) + 1 by omega, ← zadd (w : Int)] at key
    unfold dg at key
    rw [← v_person hp (by omega)] at key
    exact key
set_option maxRecDepth 100000 in
theorem rg_fair (d : Nat) (Q : am_Q) {p : Nat} (hp : p < cnt A) (hwf : WF A B) : ∀ (k w : Nat) (h : Int64) (σ : Nat → Nat → Int32) (τ : Nat → Nat → Int64), w + k = 2 → RI A B σ →
    (∀ (σ' : Nat → Nat → Int32) (τ' : Nat → Nat → Int64), RI A B σ' → QF σ σ' → am_wp (am_d (d + 9)) T_X10_digest Q (197, [.ref 56, .long (dlF (fun w => f_fair A p w) w k h), .null, .int (Int32.ofInt (p : Int)), .int (Int32.ofInt 2)], [], 0, 0) (lo_M n w3 g σ' τ' r1 r2)) →
    am_wp (am_d (d + 9)) T_X10_digest Q (171, [.ref 56, .long h, .null, .int (Int32.ofInt (p : Int)), .int (Int32.ofInt (w : Int))], [], 0, 0) (lo_M n w3 g σ τ r1 r2) := by
  have hc := cnt_le A
  intro k
  induction k with
  | zero =>
    intro w h σ τ hw hs H
    have e : w = 2 := by omega
    subst e
    refine am_wp_go (am_d_cm _) (fun pc => Nat.beq pc 171 || Nat.beq pc 197) 60 ?_
    exact And.intro (fun c1 => H σ τ hs (QF_refl σ)) (fun c1 => absurd (by decide) c1)
  | succ k ih =>
    intro w h σ τ hw hs H
    have hb := RI_RB hs
    refine am_wp_go (am_d_cm _) (fun pc => Nat.beq pc 171 || Nat.beq pc 197) 60 ?_
    refine And.intro (fun c1 => ?_) (fun c1 => ?_)
    · rw [zle (by unfold zr; omega) (by unfold zr; omega)] at c1
      omega
    refine r_fairOf (d + 4) _ (y := (w : Int)) hp (by unfold zr; omega) hwf hb hs.1.2.2.2.2.2.1 (fun σ1 τ1 k1 => ?_)
    have key := ih (w + 1) (dl h (f_fair A p w)) σ1 τ1 (by omega) (RI_FO hs k1) (fun σ2 τ2 s2 q2 => H σ2 τ2 s2 (QF_trans (FO_QF k1) q2))
    rw [show (((w + 1 : Nat) : Int)) = (w : Int) + 1 by omega, ← zadd (w : Int)] at key
    unfold dl at key
    rw [← v_fair hwf hp (by omega)] at key
    exact key
set_option maxRecDepth 100000 in
theorem rg_late (d : Nat) (Q : am_Q) {p : Nat} (hp : p < cnt A) (hwf : WF A B) : ∀ (k w : Nat) (h : Int64) (σ : Nat → Nat → Int32) (τ : Nat → Nat → Int64), w + k = 2 → RI A B σ →
    (∀ (σ' : Nat → Nat → Int32) (τ' : Nat → Nat → Int64), RI A B σ' → QF σ σ' → am_wp (am_d (d + 9)) T_X10_digest Q (226, [.ref 56, .long (dlF (fun w => f_late A p w) w k h), .null, .int (Int32.ofInt (p : Int)), .int (Int32.ofInt 2)], [], 0, 0) (lo_M n w3 g σ' τ' r1 r2)) →
    am_wp (am_d (d + 9)) T_X10_digest Q (200, [.ref 56, .long h, .null, .int (Int32.ofInt (p : Int)), .int (Int32.ofInt (w : Int))], [], 0, 0) (lo_M n w3 g σ τ r1 r2) := by
  have hc := cnt_le A
  intro k
  induction k with
  | zero =>
    intro w h σ τ hw hs H
    have e : w = 2 := by omega
    subst e
    refine am_wp_go (am_d_cm _) (fun pc => Nat.beq pc 200 || Nat.beq pc 226) 60 ?_
    exact And.intro (fun c1 => H σ τ hs (QF_refl σ)) (fun c1 => absurd (by decide) c1)
  | succ k ih =>
    intro w h σ τ hw hs H
    have hb := RI_RB hs
    refine am_wp_go (am_d_cm _) (fun pc => Nat.beq pc 200 || Nat.beq pc 226) 60 ?_
    refine And.intro (fun c1 => ?_) (fun c1 => ?_)
    · rw [zle (by unfold zr; omega) (by unfold zr; omega)] at c1
      omega
    refine r_late (d + 6) _ (y := (w : Int)) (by unfold zr; omega) (by unfold zr; omega) hs.1.2.2.2.2.2.2.1 hwf ?_
    have key := ih (w + 1) (dl h (f_late A p w)) σ τ (by omega) hs H
    rw [show (((w + 1 : Nat) : Int)) = (w : Int) + 1 by omega, ← zadd (w : Int)] at key
    exact key
set_option maxRecDepth 100000 in
theorem rg_lot (d : Nat) (Q : am_Q) {p : Nat} {h : Int64} {u : Value} (hp : p < cnt A) (hs : RI A B σ) (H : am_wp (am_d (d + 9)) T_X10_digest Q (45, [.ref 56, .long (dg h (f_lot A (Int32.ofInt 7) p)), .null, .int (Int32.ofInt (p : Int) + Int32.ofInt 1), u], [], 0, 0) (lo_M n w3 g σ τ r1 r2)) : am_wp (am_d (d + 9)) T_X10_digest Q (226, [.ref 56, .long h, .null, .int (Int32.ofInt (p : Int)), u], [], 0, 0) (lo_M n w3 g σ τ r1 r2) := by
  refine am_wp_go (am_d_cm _) (fun pc => Nat.beq pc 45) 40 ?_
  refine r_lotOf (d + 7) _ hp hs.2.1 ?_
  unfold dg at H
  rw [← v_lot hp] at H
  exact H
set_option maxRecDepth 100000 in
theorem rg_P (d : Nat) (Q : am_Q) {p : Nat} {h : Int64} {u : Value} (hp : p < cnt A) (hwf : WF A B) (hs : RI A B σ) (H : ∀ (σ' : Nat → Nat → Int32) (τ' : Nat → Nat → Int64) (u : Value), RI A B σ' → QF σ σ' → am_wp (am_d (d + 9)) T_X10_digest Q (45, [.ref 56, .long (dP A p h), .null, .int (Int32.ofInt (p : Int) + Int32.ofInt 1), u], [], 0, 0) (lo_M n w3 g σ' τ' r1 r2)) : am_wp (am_d (d + 9)) T_X10_digest Q (45, [.ref 56, .long h, .null, .int (Int32.ofInt (p : Int)), u], [], 0, 0) (lo_M n w3 g σ τ r1 r2) := by
  have hc := cnt_le A
  refine am_wp_go (am_d_cm _) (fun pc => Nat.beq pc 56) 40 ?_
  refine And.intro (fun c1 => ?_) (fun c1 => ?_)
  · have c1 : σ 56 8 ≤ Int32.ofInt (p : Int) := c1
    rw [hs.2.1, zle (by unfold zr; omega) (by unfold zr; omega)] at c1
    omega
  refine rg_pers d Q hp hwf 4 0 h σ τ (by omega) hs (fun σ0 τ0 s0 q0 => ?_)
  refine rg_seat d Q hp hwf s0 (fun σ1 τ1 s1 q1 => ?_)
  refine rg_has d Q hp hwf s1 (fun σ2 τ2 s2 q2 => ?_)
  refine rg_b0 d Q hp hwf s2 (fun σ3 τ3 s3 q3 => ?_)
  refine rg_b1 d Q hp hwf s3 (fun σ4 τ4 s4 q4 => ?_)
  refine rg_rest d Q hp hwf s4 (fun σ5 τ5 s5 q5 => ?_)
  refine rg_came d Q hp hwf s5 (fun σ6 τ6 s6 q6 => ?_)
  refine am_wp_go (am_d_cm _) (fun pc => Nat.beq pc 171) 40 ?_
  refine rg_fair d Q hp hwf 2 0 _ σ6 τ6 (by omega) s6 (fun σ7 τ7 s7 q7 => ?_)
  refine am_wp_go (am_d_cm _) (fun pc => Nat.beq pc 200) 40 ?_
  refine rg_late d Q hp hwf 2 0 _ σ7 τ7 (by omega) s7 (fun σ8 τ8 s8 q8 => ?_)
  refine rg_lot d Q hp s8 ?_
  exact H σ8 τ8 _ s8 (QF_trans (QF_trans (QF_trans (QF_trans (QF_trans (QF_trans (QF_trans (QF_trans q0 q1) q2) q3) q4) q5) q6) q7) q8)
set_option maxRecDepth 100000 in
theorem rg_cnt (d : Nat) (Q : am_Q) {u : Value} (hwf : WF A B) : ∀ (k w : Nat) (h : Int64) (σ : Nat → Nat → Int32), w + k = 8 → IM A B σ →
    (∀ σ' : Nat → Nat → Int32, IM A B σ' → QF σ σ' → am_wp (am_d (d + 9)) T_X10_digest Q (31, [.ref 56, .long (dgF (fun w => f_count A w) w k h), .null, .int (Int32.ofInt 8), u], [], 0, 0) (lo_M n w3 g σ' τ r1 r2)) →
    am_wp (am_d (d + 9)) T_X10_digest Q (6, [.ref 56, .long h, .null, .int (Int32.ofInt (w : Int)), u], [], 0, 0) (lo_M n w3 g σ τ r1 r2) := by
  intro k
  induction k with
  | zero =>
    intro w h σ hw hs H
    have e : w = 8 := by omega
    subst e
    refine am_wp_go (am_d_cm _) (fun pc => Nat.beq pc 6 || Nat.beq pc 31) 60 ?_
    exact And.intro (fun c1 => H σ hs (QF_refl σ)) (fun c1 => absurd (by decide) c1)
  | succ k ih =>
    intro w h σ hw hs H
    refine am_wp_go (am_d_cm _) (fun pc => Nat.beq pc 6 || Nat.beq pc 31) 60 ?_
    refine And.intro (fun c1 => ?_) (fun c1 => ?_)
    · rw [zle (by unfold zr; omega) (by unfold zr; omega)] at c1
      omega
    refine q_count (d + 2) _ (by unfold zr; omega) hs hwf (fun σ1 k1 => ?_)
    have key := ih (w + 1) (dg h (f_count A w)) σ1 (by omega) (IM_QF hs k1) (fun σ2 s2 q2 => H σ2 s2 (QF_trans k1 q2))
    rw [show (((w + 1 : Nat) : Int)) = (w : Int) + 1 by omega, ← zadd (w : Int)] at key
    exact key
set_option maxRecDepth 100000 in
theorem rg_ps (d : Nat) (Q : am_Q) (hwf : WF A B) : ∀ (k i : Nat) (h : Int64) (σ : Nat → Nat → Int32) (τ : Nat → Nat → Int64) (u : Value), i + k = cnt A → RI A B σ →
    (∀ (σ' : Nat → Nat → Int32) (τ' : Nat → Nat → Int64) (u : Value), RI A B σ' → QF σ σ' → am_wp (am_d (d + 9)) T_X10_digest Q (247, [.ref 56, .long (dPs A i k h), .null, .int (Int32.ofInt (cnt A : Int)), u], [], 0, 0) (lo_M n w3 g σ' τ' r1 r2)) →
    am_wp (am_d (d + 9)) T_X10_digest Q (45, [.ref 56, .long h, .null, .int (Int32.ofInt (i : Int)), u], [], 0, 0) (lo_M n w3 g σ τ r1 r2) := by
  have hc := cnt_le A
  intro k
  induction k with
  | zero =>
    intro i h σ τ u hi hs H
    have e : i = cnt A := by omega
    subst e
    refine am_wp_go (am_d_cm _) (fun pc => Nat.beq pc 45 || Nat.beq pc 247) 60 ?_
    refine And.intro (fun c1 => H σ τ u hs (QF_refl σ)) (fun c1 => absurd ?_ c1)
    show σ 56 8 ≤ _
    rw [hs.2.1]
    exact Int32.le_refl _
  | succ k ih =>
    intro i h σ τ u hi hs H
    refine rg_P d Q (by omega) hwf hs (fun σ1 τ1 u1 s1 q1 => ?_)
    have key := ih (i + 1) (dP A i h) σ1 τ1 u1 (by omega) s1 (fun σ2 τ2 u2 s2 q2 => H σ2 τ2 u2 s2 (QF_trans q1 q2))
    rw [show (((i + 1 : Nat) : Int)) = (i : Int) + 1 by omega, ← zadd (i : Int)] at key
    exact key
set_option maxRecDepth 100000 in
theorem rg_who (d : Nat) (Q : am_Q) {u : Value} (hwf : WF A B) : ∀ (k w : Nat) (h : Int64) (σ : Nat → Nat → Int32), w + k = 7 → RI A B σ →
    (∀ σ' : Nat → Nat → Int32, RI A B σ' → QF σ σ' → am_wp (am_d (d + 9)) T_X10_digest Q (274, [.ref 56, .long (dgF (fun s => f_who A s) w k h), .null, .int (Int32.ofInt 7), u], [], 0, 0) (lo_M n w3 g σ' τ r1 r2)) →
    am_wp (am_d (d + 9)) T_X10_digest Q (249, [.ref 56, .long h, .null, .int (Int32.ofInt (w : Int)), u], [], 0, 0) (lo_M n w3 g σ τ r1 r2) := by
  intro k
  induction k with
  | zero =>
    intro w h σ hw hs H
    have e : w = 7 := by omega
    subst e
    refine am_wp_go (am_d_cm _) (fun pc => Nat.beq pc 249 || Nat.beq pc 274) 60 ?_
    exact And.intro (fun c1 => H σ hs (QF_refl σ)) (fun c1 => absurd (by decide) c1)
  | succ k ih =>
    intro w h σ hw hs H
    refine am_wp_go (am_d_cm _) (fun pc => Nat.beq pc 249 || Nat.beq pc 274) 60 ?_
    refine And.intro (fun c1 => ?_) (fun c1 => ?_)
    · rw [zle (by unfold zr; omega) (by unfold zr; omega)] at c1
      omega
    refine r_whoF (d + 3) _ (by omega) (RI_RB hs) hwf (fun σ1 k1 => ?_)
    have key := ih (w + 1) (dg h (f_who A w)) σ1 (by omega) (RI_68 hs k1) (fun σ2 s2 q2 => H σ2 s2 (QF_trans (QF_68 k1) q2))
    rw [show (((w + 1 : Nat) : Int)) = (w : Int) + 1 by omega, ← zadd (w : Int)] at key
    exact key
set_option maxRecDepth 100000 in
theorem re_rest (d : Nat) (Q : am_Q) {h : Int64} {u : Value} (hwf : WF A B) (hs : RI A B σ) (H : ∀ (σ' : Nat → Nat → Int32) (τ' : Nat → Nat → Int64), RI A B σ' → QF σ σ' → am_wp (am_d (d + 9)) T_X10_digest Q (287, [.ref 56, .long (dg h (f_rest A (-1))), .null, .int (Int32.ofInt 7), u], [], 0, 0) (lo_M n w3 g σ' τ' r1 r2)) : am_wp (am_d (d + 9)) T_X10_digest Q (274, [.ref 56, .long h, .null, .int (Int32.ofInt 7), u], [], 0, 0) (lo_M n w3 g σ τ r1 r2) := by
  have hc := cnt_le A
  have hb := RI_RB hs
  refine am_wp_go (am_d_cm _) (fun pc => Nat.beq pc 287) 40 ?_
  refine r_restOf d _ (z := -1) (Or.inl rfl) hwf hb (fun σ1 k1 => ?_)
  have H := H σ1 τ (RI_FR hs k1) (FR_QF k1)
  unfold dg at H
  rw [← v_rest (Or.inl rfl)] at H
  exact H
set_option maxRecDepth 100000 in
theorem re_chg (d : Nat) (Q : am_Q) {h : Int64} {u : Value} (hwf : WF A B) (hs : RI A B σ) (H : ∀ (σ' : Nat → Nat → Int32) (τ' : Nat → Nat → Int64), RI A B σ' → QF σ σ' → am_wp (am_d (d + 9)) T_X10_digest Q (299, [.ref 56, .long (dg h (f_changes A)), .null, .int (Int32.ofInt 7), u], [], 0, 0) (lo_M n w3 g σ' τ' r1 r2)) : am_wp (am_d (d + 9)) T_X10_digest Q (287, [.ref 56, .long h, .null, .int (Int32.ofInt 7), u], [], 0, 0) (lo_M n w3 g σ τ r1 r2) := by
  have hc := cnt_le A
  have hb := RI_RB hs
  refine am_wp_go (am_d_cm _) (fun pc => Nat.beq pc 299) 40 ?_
  refine r_changesNow (d + 2) _ hwf hb (fun σ1 k1 => ?_)
  exact H σ1 τ (RI_68 hs k1) (QF_68 k1)
set_option maxRecDepth 100000 in
theorem re_c0 (d : Nat) (Q : am_Q) {h : Int64} {u : Value} (hwf : WF A B) (hs : RI A B σ) (H : ∀ (σ' : Nat → Nat → Int32) (τ' : Nat → Nat → Int64), RI A B σ' → QF σ σ' → am_wp (am_d (d + 9)) T_X10_digest Q (312, [.ref 56, .long (dg h (f_churches A 0)), .null, .int (Int32.ofInt 7), u], [], 0, 0) (lo_M n w3 g σ' τ' r1 r2)) : am_wp (am_d (d + 9)) T_X10_digest Q (299, [.ref 56, .long h, .null, .int (Int32.ofInt 7), u], [], 0, 0) (lo_M n w3 g σ τ r1 r2) := by
  have hc := cnt_le A
  have hb := RI_RB hs
  refine am_wp_go (am_d_cm _) (fun pc => Nat.beq pc 312) 40 ?_
  refine r_churchesOf (d + 3) _ (y := 0) (by unfold zr; omega) hwf hb (fun σ1 k1 => ?_)
  have H := H σ1 τ (RI_68 hs k1) (QF_68 k1)
  unfold dg at H
  rw [← v_church (by omega)] at H
  exact H
set_option maxRecDepth 100000 in
theorem re_c1 (d : Nat) (Q : am_Q) {h : Int64} {u : Value} (hwf : WF A B) (hs : RI A B σ) (H : ∀ (σ' : Nat → Nat → Int32) (τ' : Nat → Nat → Int64), RI A B σ' → QF σ σ' → am_wp (am_d (d + 9)) T_X10_digest Q (325, [.ref 56, .long (dg h (f_churches A 1)), .null, .int (Int32.ofInt 7), u], [], 0, 0) (lo_M n w3 g σ' τ' r1 r2)) : am_wp (am_d (d + 9)) T_X10_digest Q (312, [.ref 56, .long h, .null, .int (Int32.ofInt 7), u], [], 0, 0) (lo_M n w3 g σ τ r1 r2) := by
  have hc := cnt_le A
  have hb := RI_RB hs
  refine am_wp_go (am_d_cm _) (fun pc => Nat.beq pc 325) 40 ?_
  refine r_churchesOf (d + 3) _ (y := 1) (by unfold zr; omega) hwf hb (fun σ1 k1 => ?_)
  have H := H σ1 τ (RI_68 hs k1) (QF_68 k1)
  unfold dg at H
  rw [← v_church (by omega)] at H
  exact H
set_option maxRecDepth 100000 in
theorem re_came (d : Nat) (Q : am_Q) {h : Int64} {u : Value} (hwf : WF A B) (hs : RI A B σ) (H : ∀ (σ' : Nat → Nat → Int32) (τ' : Nat → Nat → Int64), RI A B σ' → QF σ σ' → am_wp (am_d (d + 9)) T_X10_digest Q (338, [.ref 56, .long (dg h (f_came A (-1))), .null, .int (Int32.ofInt 7), u], [], 0, 0) (lo_M n w3 g σ' τ' r1 r2)) : am_wp (am_d (d + 9)) T_X10_digest Q (325, [.ref 56, .long h, .null, .int (Int32.ofInt 7), u], [], 0, 0) (lo_M n w3 g σ τ r1 r2) := by
  have hc := cnt_le A
  have hb := RI_RB hs
  refine am_wp_go (am_d_cm _) (fun pc => Nat.beq pc 338) 40 ?_
  refine r_cameOf (d + 4) _ (z := -1) (Or.inl rfl) hwf hb hs.1.2.2.2.2.2.1 (fun σ1 τ1 k1 => ?_)
  have H := H σ1 τ1 (RI_FO hs k1) (FO_QF k1)
  unfold dg at H
  rw [← g_came_eq hwf (Or.inl rfl)] at H
  exact H
set_option maxRecDepth 100000 in
theorem re_sure (d : Nat) (Q : am_Q) {h : Int64} {u : Value} (hwf : WF A B) (hs : RI A B σ) (H : ∀ (σ' : Nat → Nat → Int32) (τ' : Nat → Nat → Int64), RI A B σ' → QF σ σ' → am_wp (am_d (d + 9)) T_X10_digest Q (350, [.ref 56, .long (dg h (f_sure A)), .null, .int (Int32.ofInt 7), u], [], 0, 0) (lo_M n w3 g σ' τ' r1 r2)) : am_wp (am_d (d + 9)) T_X10_digest Q (338, [.ref 56, .long h, .null, .int (Int32.ofInt 7), u], [], 0, 0) (lo_M n w3 g σ τ r1 r2) := by
  have hc := cnt_le A
  have hb := RI_RB hs
  refine am_wp_go (am_d_cm _) (fun pc => Nat.beq pc 350) 40 ?_
  refine r_sureNow (d + 4) _ hwf hb hs.1.2.2.2.2.2.1 (fun σ1 τ1 k1 => ?_)
  have H := H σ1 τ1 (RI_FO hs k1) (FO_QF k1)
  unfold dg at H
  rw [← g_sure_eq hwf] at H
  exact H
set_option maxRecDepth 100000 in
theorem re_a0 (d : Nat) (Q : am_Q) {h : Int64} {u : Value} (hwf : WF A B) (hs : RI A B σ) (H : ∀ (σ' : Nat → Nat → Int32) (τ' : Nat → Nat → Int64), RI A B σ' → QF σ σ' → am_wp (am_d (d + 9)) T_X10_digest Q (362, [.ref 56, .long (dl h (f_allLate A 0)), .null, .int (Int32.ofInt 7), u], [], 0, 0) (lo_M n w3 g σ' τ' r1 r2)) : am_wp (am_d (d + 9)) T_X10_digest Q (350, [.ref 56, .long h, .null, .int (Int32.ofInt 7), u], [], 0, 0) (lo_M n w3 g σ τ r1 r2) := by
  have hc := cnt_le A
  have hb := RI_RB hs
  refine am_wp_go (am_d_cm _) (fun pc => Nat.beq pc 362) 40 ?_
  refine r_allLateOf (d + 7) _ (y := 0) (by unfold zr; omega) hs.2.1 hs.1.2.2.2.2.2.2.1 hwf ?_
  have H := H σ τ hs (QF_refl σ)
  unfold dl at H
  rw [← v_all (by omega)] at H
  exact H
set_option maxRecDepth 100000 in
theorem re_a1 (d : Nat) (Q : am_Q) {h : Int64} {u : Value} (hwf : WF A B) (hs : RI A B σ) (H : Q (some (.long (dl h (f_allLate A 1)))) (lo_M n w3 g σ τ r1 r2)) : am_wp (am_d (d + 9)) T_X10_digest Q (362, [.ref 56, .long h, .null, .int (Int32.ofInt 7), u], [], 0, 0) (lo_M n w3 g σ τ r1 r2) := by
  refine am_wp_go (am_d_cm _) (fun _ => false) 40 ?_
  refine r_allLateOf (d + 7) _ (y := 1) (by unfold zr; omega) hs.2.1 hs.1.2.2.2.2.2.2.1 hwf ?_
  unfold dl at H
  rw [← v_all (by omega)] at H
  exact H
set_option maxRecDepth 100000 in
theorem q_digest (d : Nat) (Q : am_Q) (hm : IM A B σ) (hwf : WF A B) (h : ∀ (σ' : Nat → Nat → Int32) (τ' : Nat → Nat → Int64), QF σ σ' → Q (some (.long (f_digest A))) (lo_M n w3 g σ' τ' r1 r2)) : am_d (d + 10) 194 [.ref 56] 0 0 (lo_M n w3 g σ τ r1 r2) Q := by
  refine am_goT T_X10_digest [.ref 56, .null, .null, .null, .null] rfl rfl (fun pc => Nat.beq pc 6) 60 ?_
  refine rg_cnt d Q hwf 8 0 (Int64.ofInt 17) σ (by omega) hm (fun σ1 s1 q1 => ?_)
  refine am_wp_go (am_d_cm _) (fun pc => Nat.beq pc 45) 60 ?_
  refine r_reads (d + 5) _ hwf s1.1 (fun σ2 k1 k2 k3 => ?_)
  have q2 := QF_rd k1 k2
  refine rg_ps d Q hwf (cnt A) 0 (dg (dgF (fun w => f_count A w) 0 8 (Int64.ofInt 17)) (flt A)) σ2 τ .null (by omega) ⟨IM_QF s1 q2, k3⟩ (fun σ3 τ3 u3 s3 q3 => ?_)
  refine am_wp_go (am_d_cm _) (fun pc => Nat.beq pc 249) 60 ?_
  refine rg_who d Q hwf 7 0 (dPs A 0 (cnt A) (dg (dgF (fun w => f_count A w) 0 8 (Int64.ofInt 17)) (flt A))) σ3 (by omega) s3 (fun σ4 s4 q4 => ?_)
  refine re_rest d Q hwf s4 (fun σ5 τ5 s5 q5 => ?_)
  refine re_chg d Q hwf s5 (fun σ6 τ6 s6 q6 => ?_)
  refine re_c0 d Q hwf s6 (fun σ7 τ7 s7 q7 => ?_)
  refine re_c1 d Q hwf s7 (fun σ8 τ8 s8 q8 => ?_)
  refine re_came d Q hwf s8 (fun σ9 τ9 s9 q9 => ?_)
  refine re_sure d Q hwf s9 (fun σa τa sa qa => ?_)
  refine re_a0 d Q hwf sa (fun σb τb sb qb => ?_)
  refine re_a1 d Q hwf sb ?_
  exact h σb τb (QF_trans (QF_trans (QF_trans (QF_trans (QF_trans (QF_trans (QF_trans (QF_trans (QF_trans (QF_trans q1 q2) q3) q4) q5) q6) q7) q8) q9) qa) qb)
end RDG
