/-! the class's digest -/
section CDG
variable {n w3 : Nat} {g : Nat → Nat × Nat} {σ : Nat → Nat → Int32} {τ : Nat → Nat → Int64} {r1 r2 W1 W2 : Nat} {A : aN} {B : aZ}
set_option maxRecDepth 100000 in
theorem k_dp_loop (d : Nat) (Q : am_Q) {bc bs p : Nat} {h0 : Int64} (hp : p < cnt A) (hx : IX A B σ) (hwf : WF A B) : ∀ (k w : Nat) (h : Int64), w + k = 4 →
    am_wp (am_d (d + 6)) T_X9_digestPerson Q (35, [.ref 4, .long h0, .null, .int (Int32.ofInt (p : Int)), .long (dgF (fun w => f_person A p w) w k h), .null, .int (Int32.ofInt 4)], [], bc, bs) (lo_M n w3 g σ τ r1 r2) →
    am_wp (am_d (d + 6)) T_X9_digestPerson Q (6, [.ref 4, .long h0, .null, .int (Int32.ofInt (p : Int)), .long h, .null, .int (Int32.ofInt (w : Int))], [], bc, bs) (lo_M n w3 g σ τ r1 r2) := by
  have hc := cnt_le A
  intro k
  induction k with
  | zero =>
    intro w h hw H
    have e : w = 4 := by omega
    subst e
    refine am_wp_go (am_d_cm _) (fun pc => Nat.beq pc 6 || Nat.beq pc 35) 60 ?_
    exact And.intro (fun c1 => H) (fun c1 => absurd (by decide) c1)
  | succ k ih =>
    intro w h hw H
    refine am_wp_go (am_d_cm _) (fun pc => Nat.beq pc 6 || Nat.beq pc 35) 60 ?_
    refine And.intro (fun c1 => ?_) (fun c1 => ?_)
    · rw [zlt (by unfold zr; omega) (by unfold zr; omega)] at c1
      omega
    refine c_person (d + 3) _ (by unfold zr; omega) (by unfold zr; omega) hx hwf ?_
    have key := ih (w + 1) (dg h (f_person A p w)) (by omega) H
    rw [show (((w + 1 : Nat) : Int)) = (w : Int) + 1 by omega, ← zadd (w : Int)] at key
    exact key
set_option maxRecDepth 100000 in
theorem dp_seat (d : Nat) (Q : am_Q) {bc bs p : Nat} {h0 h : Int64} (hp : p < cnt A) (hwf : WF A B) (hs : CS A B n w3 g σ r1 r2 W1 W2) (H : ∀ σ' : Nat → Nat → Int32, CS A B n w3 g σ' r1 r2 W1 W2 → CF σ σ' → am_wp (am_d (d + 6)) T_X9_digestPerson Q (50, [.ref 4, .long h0, .null, .int (Int32.ofInt (p : Int)), .long (dg h (f_seat A p)), .null, .int (Int32.ofInt 4)], [], bc, bs) (lo_M n w3 g σ' τ r1 r2)) : am_wp (am_d (d + 6)) T_X9_digestPerson Q (35, [.ref 4, .long h0, .null, .int (Int32.ofInt (p : Int)), .long h, .null, .int (Int32.ofInt 4)], [], bc, bs) (lo_M n w3 g σ τ r1 r2) := by
  have hc := cnt_le A
  refine am_wp_go (am_d_cm _) (fun pc => Nat.beq pc 50) 30 ?_
  refine c_seat (d + 1) _ (by unfold zr; omega) hs.1 hwf (fun σ1 k1 _ => ?_)
  exact H σ1 (CS_q hs k1) (CF_q k1)
set_option maxRecDepth 100000 in
theorem dp_has (d : Nat) (Q : am_Q) {bc bs p : Nat} {h0 h : Int64} (hp : p < cnt A) (hwf : WF A B) (hs : CS A B n w3 g σ r1 r2 W1 W2) (H : ∀ σ' : Nat → Nat → Int32, CS A B n w3 g σ' r1 r2 W1 W2 → CF σ σ' → am_wp (am_d (d + 6)) T_X9_digestPerson Q (65, [.ref 4, .long h0, .null, .int (Int32.ofInt (p : Int)), .long (dg h (f_has A p)), .null, .int (Int32.ofInt 4)], [], bc, bs) (lo_M n w3 g σ' τ r1 r2)) : am_wp (am_d (d + 6)) T_X9_digestPerson Q (50, [.ref 4, .long h0, .null, .int (Int32.ofInt (p : Int)), .long h, .null, .int (Int32.ofInt 4)], [], bc, bs) (lo_M n w3 g σ τ r1 r2) := by
  have hc := cnt_le A
  refine am_wp_go (am_d_cm _) (fun pc => Nat.beq pc 65) 30 ?_
  refine c_has (d + 1) _ (by unfold zr; omega) hs.1 hwf (fun σ1 k1 _ => ?_)
  exact H σ1 (CS_q hs k1) (CF_q k1)
set_option maxRecDepth 100000 in
theorem dp_b0 (d : Nat) (Q : am_Q) {bc bs p : Nat} {h0 h : Int64} (hp : p < cnt A) (hwf : WF A B) (hs : CS A B n w3 g σ r1 r2 W1 W2) (H : ∀ σ' : Nat → Nat → Int32, CS A B n w3 g σ' r1 r2 W1 W2 → CF σ σ' → am_wp (am_d (d + 6)) T_X9_digestPerson Q (81, [.ref 4, .long h0, .null, .int (Int32.ofInt (p : Int)), .long (dg h (f_best A p 0)), .null, .int (Int32.ofInt 4)], [], bc, bs) (lo_M n w3 g σ' τ r1 r2)) : am_wp (am_d (d + 6)) T_X9_digestPerson Q (65, [.ref 4, .long h0, .null, .int (Int32.ofInt (p : Int)), .long h, .null, .int (Int32.ofInt 4)], [], bc, bs) (lo_M n w3 g σ τ r1 r2) := by
  have hc := cnt_le A
  refine am_wp_go (am_d_cm _) (fun pc => Nat.beq pc 81) 30 ?_
  refine c_best (d + 1) _ (y := 0) (by unfold zr; omega) (by unfold zr; omega) hs.1 hwf (fun σ1 k1 _ => ?_)
  exact H σ1 (CS_q hs k1) (CF_q k1)
set_option maxRecDepth 100000 in
theorem dp_b1 (d : Nat) (Q : am_Q) {bc bs p : Nat} {h0 h : Int64} (hp : p < cnt A) (hwf : WF A B) (hs : CS A B n w3 g σ r1 r2 W1 W2) (H : ∀ σ' : Nat → Nat → Int32, CS A B n w3 g σ' r1 r2 W1 W2 → CF σ σ' → am_wp (am_d (d + 6)) T_X9_digestPerson Q (97, [.ref 4, .long h0, .null, .int (Int32.ofInt (p : Int)), .long (dg h (f_best A p 1)), .null, .int (Int32.ofInt 4)], [], bc, bs) (lo_M n w3 g σ' τ r1 r2)) : am_wp (am_d (d + 6)) T_X9_digestPerson Q (81, [.ref 4, .long h0, .null, .int (Int32.ofInt (p : Int)), .long h, .null, .int (Int32.ofInt 4)], [], bc, bs) (lo_M n w3 g σ τ r1 r2) := by
  have hc := cnt_le A
  refine am_wp_go (am_d_cm _) (fun pc => Nat.beq pc 97) 30 ?_
  refine c_best (d + 1) _ (y := 1) (by unfold zr; omega) (by unfold zr; omega) hs.1 hwf (fun σ1 k1 _ => ?_)
  exact H σ1 (CS_q hs k1) (CF_q k1)
set_option maxRecDepth 100000 in
theorem dp_rest (d : Nat) (Q : am_Q) {bc bs p : Nat} {h0 h : Int64} (hp : p < cnt A) (hwf : WF A B) (hs : CS A B n w3 g σ r1 r2 W1 W2) (hbc : rC A W1 ≤ bc) (hbs : rS' A W1 ≤ bs) (H : ∀ (n' : Nat) (g' : Nat → Nat × Nat) (r' : Nat) (σ' : Nat → Nat → Int32), CS A B n' w3 g' σ' r' r2 (rWd A W1) W2 → CF σ σ' → am_wp (am_d (d + 6)) T_X9_digestPerson Q (112, [.ref 4, .long h0, .null, .int (Int32.ofInt (p : Int)), .long (dg h (f_rest A p)), .null, .int (Int32.ofInt 4)], [], bc - rC A W1, bs - rS' A W1) (lo_M n' w3 g' σ' τ r' r2)) : am_wp (am_d (d + 6)) T_X9_digestPerson Q (97, [.ref 4, .long h0, .null, .int (Int32.ofInt (p : Int)), .long h, .null, .int (Int32.ofInt 4)], [], bc, bs) (lo_M n w3 g σ τ r1 r2) := by
  have hc := cnt_le A
  refine am_wp_go (am_d_cm _) (fun pc => Nat.beq pc 112) 30 ?_
  refine ⟨rC A W1, rS' A W1, hbc, hbs, ?_⟩
  refine k_rest (d + 1) _ (by unfold zr; omega) hwf hs (fun n1 g1 r5 σ1 s1 f1 => ?_) (Or.inr (by omega))
  exact H n1 g1 r5 σ1 s1 f1
set_option maxRecDepth 100000 in
theorem dp_came (d : Nat) (Q : am_Q) {bc bs p : Nat} {h0 h : Int64} (hp : p < cnt A) (hwf : WF A B) (hs : CS A B n w3 g σ r1 r2 W1 W2) (H : ∀ σ' : Nat → Nat → Int32, CS A B n w3 g σ' r1 r2 W1 W2 → CF σ σ' → am_wp (am_d (d + 6)) T_X9_digestPerson Q (127, [.ref 4, .long h0, .null, .int (Int32.ofInt (p : Int)), .long (dg h (f_came A p)), .null, .int (Int32.ofInt 4)], [], bc, bs) (lo_M n w3 g σ' τ r1 r2)) : am_wp (am_d (d + 6)) T_X9_digestPerson Q (112, [.ref 4, .long h0, .null, .int (Int32.ofInt (p : Int)), .long h, .null, .int (Int32.ofInt 4)], [], bc, bs) (lo_M n w3 g σ τ r1 r2) := by
  have hc := cnt_le A
  refine am_wp_go (am_d_cm _) (fun pc => Nat.beq pc 127) 30 ?_
  refine k_came d _ (by unfold zr; omega) hwf hs (fun σ1 s1 f1 => ?_)
  exact H σ1 s1 f1
set_option maxRecDepth 100000 in
theorem dp_f0 (d : Nat) (Q : am_Q) {bc bs p : Nat} {h0 h : Int64} (hp : p < cnt A) (hwf : WF A B) (hs : CS A B n w3 g σ r1 r2 W1 W2) (H : am_wp (am_d (d + 6)) T_X9_digestPerson Q (142, [.ref 4, .long h0, .null, .int (Int32.ofInt (p : Int)), .long (dl h (f_fair A p 0)), .null, .int (Int32.ofInt 4)], [], bc, bs) (lo_M n w3 g σ τ r1 r2)) : am_wp (am_d (d + 6)) T_X9_digestPerson Q (127, [.ref 4, .long h0, .null, .int (Int32.ofInt (p : Int)), .long h, .null, .int (Int32.ofInt 4)], [], bc, bs) (lo_M n w3 g σ τ r1 r2) := by
  have hc := cnt_le A
  refine am_wp_go (am_d_cm _) (fun pc => Nat.beq pc 142) 30 ?_
  refine c_fair (d + 3) _ (y := 0) (by unfold zr; omega) (by unfold zr; omega) hs.1 hwf ?_
  exact H
set_option maxRecDepth 100000 in
theorem dp_f1 (d : Nat) (Q : am_Q) {bc bs p : Nat} {h0 h : Int64} (hp : p < cnt A) (hwf : WF A B) (hs : CS A B n w3 g σ r1 r2 W1 W2) (H : am_wp (am_d (d + 6)) T_X9_digestPerson Q (157, [.ref 4, .long h0, .null, .int (Int32.ofInt (p : Int)), .long (dl h (f_fair A p 1)), .null, .int (Int32.ofInt 4)], [], bc, bs) (lo_M n w3 g σ τ r1 r2)) : am_wp (am_d (d + 6)) T_X9_digestPerson Q (142, [.ref 4, .long h0, .null, .int (Int32.ofInt (p : Int)), .long h, .null, .int (Int32.ofInt 4)], [], bc, bs) (lo_M n w3 g σ τ r1 r2) := by
  have hc := cnt_le A
  refine am_wp_go (am_d_cm _) (fun pc => Nat.beq pc 157) 30 ?_
  refine c_fair (d + 3) _ (y := 1) (by unfold zr; omega) (by unfold zr; omega) hs.1 hwf ?_
  exact H
set_option maxRecDepth 100000 in
theorem dp_l0 (d : Nat) (Q : am_Q) {bc bs p : Nat} {h0 h : Int64} (hp : p < cnt A) (hwf : WF A B) (hs : CS A B n w3 g σ r1 r2 W1 W2) (H : am_wp (am_d (d + 6)) T_X9_digestPerson Q (172, [.ref 4, .long h0, .null, .int (Int32.ofInt (p : Int)), .long (dl h (f_late A p 0)), .null, .int (Int32.ofInt 4)], [], bc, bs) (lo_M n w3 g σ τ r1 r2)) : am_wp (am_d (d + 6)) T_X9_digestPerson Q (157, [.ref 4, .long h0, .null, .int (Int32.ofInt (p : Int)), .long h, .null, .int (Int32.ofInt 4)], [], bc, bs) (lo_M n w3 g σ τ r1 r2) := by
  have hc := cnt_le A
  refine am_wp_go (am_d_cm _) (fun pc => Nat.beq pc 172) 30 ?_
  refine c_late (d + 3) _ (y := 0) (by unfold zr; omega) (by unfold zr; omega) hs.1 hwf ?_
  exact H
set_option maxRecDepth 100000 in
theorem dp_l1 (d : Nat) (Q : am_Q) {bc bs p : Nat} {h0 h : Int64} (hp : p < cnt A) (hwf : WF A B) (hs : CS A B n w3 g σ r1 r2 W1 W2) (H : am_wp (am_d (d + 6)) T_X9_digestPerson Q (187, [.ref 4, .long h0, .null, .int (Int32.ofInt (p : Int)), .long (dl h (f_late A p 1)), .null, .int (Int32.ofInt 4)], [], bc, bs) (lo_M n w3 g σ τ r1 r2)) : am_wp (am_d (d + 6)) T_X9_digestPerson Q (172, [.ref 4, .long h0, .null, .int (Int32.ofInt (p : Int)), .long h, .null, .int (Int32.ofInt 4)], [], bc, bs) (lo_M n w3 g σ τ r1 r2) := by
  have hc := cnt_le A
  refine am_wp_go (am_d_cm _) (fun pc => Nat.beq pc 187) 30 ?_
  refine c_late (d + 3) _ (y := 1) (by unfold zr; omega) (by unfold zr; omega) hs.1 hwf ?_
  exact H
set_option maxRecDepth 100000 in
theorem dp_lot (d : Nat) (Q : am_Q) {bc bs p : Nat} {h0 h : Int64} (hp : p < cnt A) (hs : CS A B n w3 g σ r1 r2 W1 W2) (H : Q (some (.long (dg h (f_lot A (Int32.ofInt 7) p)))) (lo_M n w3 g σ τ r1 r2)) : am_wp (am_d (d + 6)) T_X9_digestPerson Q (187, [.ref 4, .long h0, .null, .int (Int32.ofInt (p : Int)), .long h, .null, .int (Int32.ofInt 4)], [], bc, bs) (lo_M n w3 g σ τ r1 r2) := by
  have hc := cnt_le A
  refine am_wp_go (am_d_cm _) (fun _ => false) 30 ?_
  refine c_lot (d + 3) _ (by unfold zr; omega) hs.1 ?_
  exact H
set_option maxRecDepth 100000 in
theorem k_dP (d : Nat) (Q : am_Q) {bc bs p : Nat} {h0 : Int64} (hp : p < cnt A) (hwf : WF A B) (hs : CS A B n w3 g σ r1 r2 W1 W2) (hbc : rC A W1 ≤ bc) (hbs : rS' A W1 ≤ bs)
    (h : ∀ (n' : Nat) (g' : Nat → Nat × Nat) (r' : Nat) (σ' : Nat → Nat → Int32), CS A B n' w3 g' σ' r' r2 (rWd A W1) W2 → CF σ σ' → Q (some (.long (dP A p h0))) (lo_M n' w3 g' σ' τ r' r2)) : am_d (d + 7) 87 [.ref 4, .long h0, .int (Int32.ofInt (p : Int))] bc bs (lo_M n w3 g σ τ r1 r2) Q := by
  refine am_goT T_X9_digestPerson [.ref 4, .long h0, .null, .int (Int32.ofInt (p : Int)), .null, .null, .null] rfl rfl (fun pc => Nat.beq pc 6) 60 ?_
  refine k_dp_loop d Q hp hs.1 hwf 4 0 h0 (by omega) ?_
  refine dp_seat d Q hp hwf hs (fun σ1 s1 f1 => ?_)
  refine dp_has d Q hp hwf s1 (fun σ2 s2 f2 => ?_)
  refine dp_b0 d Q hp hwf s2 (fun σ3 s3 f3 => ?_)
  refine dp_b1 d Q hp hwf s3 (fun σ4 s4 f4 => ?_)
  refine dp_rest d Q hp hwf s4 hbc hbs (fun n5 g5 r5 σ5 s5 f5 => ?_)
  refine dp_came d Q hp hwf s5 (fun σ6 s6 f6 => ?_)
  refine dp_f0 d Q hp hwf s6 ?_
  refine dp_f1 d Q hp hwf s6 ?_
  refine dp_l0 d Q hp hwf s6 ?_
  refine dp_l1 d Q hp hwf s6 ?_
  refine dp_lot d Q hp s6 ?_
  exact h n5 g5 r5 σ6 s6 (CF_trans (CF_trans (CF_trans (CF_trans (CF_trans f1 f2) f3) f4) f5) f6)
set_option maxRecDepth 100000 in
theorem k_dg_cnt (d : Nat) (Q : am_Q) {bc bs : Nat} (hwf : WF A B) : ∀ (k w : Nat) (h : Int64) (σ : Nat → Nat → Int32), w + k = 8 → CS A B n w3 g σ r1 r2 W1 W2 →
    (∀ σ' : Nat → Nat → Int32, CS A B n w3 g σ' r1 r2 W1 W2 → CF σ σ' → am_wp (am_d (d + 7)) T_X9_digest Q (31, [.ref 4, .long (dgF (fun w => f_count A w) w k h), .null, .int (Int32.ofInt 8)], [], bc, bs) (lo_M n w3 g σ' τ r1 r2)) →
    am_wp (am_d (d + 7)) T_X9_digest Q (6, [.ref 4, .long h, .null, .int (Int32.ofInt (w : Int))], [], bc, bs) (lo_M n w3 g σ τ r1 r2) := by
  intro k
  induction k with
  | zero =>
    intro w h σ hw hs H
    have e : w = 8 := by omega
    subst e
    refine am_wp_go (am_d_cm _) (fun pc => Nat.beq pc 6 || Nat.beq pc 31) 60 ?_
    exact And.intro (fun c1 => H σ hs (CF_refl σ)) (fun c1 => absurd (by decide) c1)
  | succ k ih =>
    intro w h σ hw hs H
    refine am_wp_go (am_d_cm _) (fun pc => Nat.beq pc 6 || Nat.beq pc 31) 60 ?_
    refine And.intro (fun c1 => ?_) (fun c1 => ?_)
    · rw [zlt (by unfold zr; omega) (by unfold zr; omega)] at c1
      omega
    refine c_count (d + 2) _ (by unfold zr; omega) hs.1 hwf (fun σ1 k1 _ => ?_)
    have key := ih (w + 1) (dg h (f_count A w)) σ1 (by omega) (CS_q hs k1) (fun σ2 s2 f2 => H σ2 s2 (CF_trans (CF_q k1) f2))
    rw [show (((w + 1 : Nat) : Int)) = (w : Int) + 1 by omega, ← zadd (w : Int)] at key
    exact key
set_option maxHeartbeats 1000000 in
set_option maxRecDepth 100000 in
theorem k_dg_ps (d : Nat) (Q : am_Q) {X Y : Nat} (hwf : WF A B) : ∀ (k i : Nat) (h : Int64) (n : Nat) (g : Nat → Nat × Nat) (r1 : Nat) (σ : Nat → Nat → Int32) (W1 bc bs : Nat), i + k = cnt A → CS A B n w3 g σ r1 r2 W1 W2 → rC A W1 + X ≤ bc → rS' A W1 + Y ≤ bs →
    (∀ (n' : Nat) (g' : Nat → Nat × Nat) (r' : Nat) (σ' : Nat → Nat → Int32) (W' b' s' : Nat), CS A B n' w3 g' σ' r' r2 W' W2 → CF σ σ' → rWd A W' = rWd A W1 → rC A W' + X ≤ b' → rS' A W' + Y ≤ s' → am_wp (am_d (d + 7)) T_X9_digest Q (69, [.ref 4, .long (dPs A i k h), .null, .int (Int32.ofInt (cnt A : Int))], [], b', s') (lo_M n' w3 g' σ' τ r' r2)) →
    am_wp (am_d (d + 7)) T_X9_digest Q (45, [.ref 4, .long h, .null, .int (Int32.ofInt (i : Int))], [], bc, bs) (lo_M n w3 g σ τ r1 r2) := by
  have hc := cnt_le A
  intro k
  induction k with
  | zero =>
    intro i h n g r1 σ W1 bc bs hi hs hbc hbs H
    have e : i = cnt A := by omega
    subst e
    refine am_wp_go (am_d_cm _) (fun pc => Nat.beq pc 45 || Nat.beq pc 69) 60 ?_
    refine And.intro (fun c1 => H n g r1 σ W1 bc bs hs (CF_refl σ) rfl hbc hbs) (fun c1 => absurd ?_ c1)
    show σ 5 4 ≤ _
    rw [hs.1.1.2.2.1]
    exact Int32.le_refl _
  | succ k ih =>
    intro i h n g r1 σ W1 bc bs hi hs hbc hbs H
    obtain ⟨i1, i2, i3⟩ := rC_idem A W1
    refine am_wp_go (am_d_cm _) (fun pc => Nat.beq pc 45 || Nat.beq pc 69) 60 ?_
    refine And.intro (fun c1 => ?_) (fun c1 => ?_)
    · have c1 : σ 5 4 ≤ Int32.ofInt (i : Int) := c1
      rw [hs.1.1.2.2.1, zle (by unfold zr; omega) (by unfold zr; omega)] at c1
      omega
    refine ⟨rC A W1, rS' A W1, by omega, by omega, ?_⟩
    refine k_dP d _ (by omega) hwf hs (Nat.le_refl _) (Nat.le_refl _) (fun n' g' r' σ' s1 f1 => ?_)
    have key := ih (i + 1) (dP A i h) n' g' r' σ' (rWd A W1) (bc - rC A W1) (bs - rS' A W1) (by omega) s1 (by omega) (by omega) (fun n2 g2 r2' σ2 W' b' s' s2 f2 e2 e3 e4 => H n2 g2 r2' σ2 W' b' s' s2 (CF_trans f1 f2) (by rw [e2, i3]) e3 e4)
    rw [show (((i + 1 : Nat) : Int)) = (i : Int) + 1 by omega, ← zadd (i : Int)] at key
    exact key
set_option maxRecDepth 100000 in
theorem k_dg_who (d : Nat) (Q : am_Q) {bc bs : Nat} (hwf : WF A B) : ∀ (k w : Nat) (h : Int64) (σ : Nat → Nat → Int32), w + k = 7 → CS A B n w3 g σ r1 r2 W1 W2 →
    (∀ σ' : Nat → Nat → Int32, CS A B n w3 g σ' r1 r2 W1 W2 → CF σ σ' → am_wp (am_d (d + 7)) T_X9_digest Q (96, [.ref 4, .long (dgF (fun s => f_who A s) w k h), .null, .int (Int32.ofInt 7)], [], bc, bs) (lo_M n w3 g σ' τ r1 r2)) →
    am_wp (am_d (d + 7)) T_X9_digest Q (71, [.ref 4, .long h, .null, .int (Int32.ofInt (w : Int))], [], bc, bs) (lo_M n w3 g σ τ r1 r2) := by
  intro k
  induction k with
  | zero =>
    intro w h σ hw hs H
    have e : w = 7 := by omega
    subst e
    refine am_wp_go (am_d_cm _) (fun pc => Nat.beq pc 71 || Nat.beq pc 96) 60 ?_
    exact And.intro (fun c1 => H σ hs (CF_refl σ)) (fun c1 => absurd (by decide) c1)
  | succ k ih =>
    intro w h σ hw hs H
    refine am_wp_go (am_d_cm _) (fun pc => Nat.beq pc 71 || Nat.beq pc 96) 60 ?_
    refine And.intro (fun c1 => ?_) (fun c1 => ?_)
    · rw [zle (by unfold zr; omega) (by unfold zr; omega)] at c1
      omega
    refine c_who (d + 2) _ (by unfold zr; omega) hs.1 hwf (fun σ1 k1 _ => ?_)
    have key := ih (w + 1) (dg h (f_who A w)) σ1 (by omega) (CS_q hs k1) (fun σ2 s2 f2 => H σ2 s2 (CF_trans (CF_q k1) f2))
    rw [show (((w + 1 : Nat) : Int)) = (w : Int) + 1 by omega, ← zadd (w : Int)] at key
    exact key
set_option maxRecDepth 100000 in
theorem dd_rest (d : Nat) (Q : am_Q) {bc bs : Nat} {h : Int64} (hwf : WF A B) (hs : CS A B n w3 g σ r1 r2 W1 W2) (hbc : rC A W1 ≤ bc) (hbs : rS' A W1 ≤ bs) (H : ∀ (n' : Nat) (g' : Nat → Nat × Nat) (r' : Nat) (σ' : Nat → Nat → Int32), CS A B n' w3 g' σ' r' r2 (rWd A W1) W2 → CF σ σ' → am_wp (am_d (d + 7)) T_X9_digest Q (109, [.ref 4, .long (dg h (f_rest A (-1))), .null, .int (Int32.ofInt 7)], [], bc - rC A W1, bs - rS' A W1) (lo_M n' w3 g' σ' τ r' r2)) : am_wp (am_d (d + 7)) T_X9_digest Q (96, [.ref 4, .long h, .null, .int (Int32.ofInt 7)], [], bc, bs) (lo_M n w3 g σ τ r1 r2) := by
  refine am_wp_go (am_d_cm _) (fun pc => Nat.beq pc 109) 30 ?_
  refine ⟨rC A W1, rS' A W1, hbc, hbs, ?_⟩
  refine k_rest (d + 2) _ (z := -1) (by unfold zr; omega) hwf hs (fun n1 g1 r5 σ1 s1 f1 => ?_) (Or.inl rfl)
  exact H n1 g1 r5 σ1 s1 f1
set_option maxRecDepth 100000 in
theorem dd_chg (d : Nat) (Q : am_Q) {bc bs : Nat} {h : Int64} (hwf : WF A B) (hs : CS A B n w3 g σ r1 r2 W1 W2) (H : ∀ σ' : Nat → Nat → Int32, CS A B n w3 g σ' r1 r2 W1 W2 → CF σ σ' → am_wp (am_d (d + 7)) T_X9_digest Q (121, [.ref 4, .long (dg h (f_changes A)), .null, .int (Int32.ofInt 7)], [], bc, bs) (lo_M n w3 g σ' τ r1 r2)) : am_wp (am_d (d + 7)) T_X9_digest Q (109, [.ref 4, .long h, .null, .int (Int32.ofInt 7)], [], bc, bs) (lo_M n w3 g σ τ r1 r2) := by
  refine am_wp_go (am_d_cm _) (fun pc => Nat.beq pc 121) 30 ?_
  refine c_changes (d + 2) _ hs.1 hwf (fun σ1 k1 _ => ?_)
  exact H σ1 (CS_q hs k1) (CF_q k1)
set_option maxRecDepth 100000 in
theorem dd_c0 (d : Nat) (Q : am_Q) {bc bs : Nat} {h : Int64} (hwf : WF A B) (hs : CS A B n w3 g σ r1 r2 W1 W2) (hbc : cC A W2 ≤ bc) (hbs : cS' A W2 ≤ bs) (H : ∀ (n' : Nat) (g' : Nat → Nat × Nat) (r' : Nat) (σ' : Nat → Nat → Int32), CS A B n' w3 g' σ' r1 r' W1 (cWd A W2) → CF σ σ' → am_wp (am_d (d + 7)) T_X9_digest Q (134, [.ref 4, .long (dg h (f_churches A 0)), .null, .int (Int32.ofInt 7)], [], bc - cC A W2, bs - cS' A W2) (lo_M n' w3 g' σ' τ r1 r')) : am_wp (am_d (d + 7)) T_X9_digest Q (121, [.ref 4, .long h, .null, .int (Int32.ofInt 7)], [], bc, bs) (lo_M n w3 g σ τ r1 r2) := by
  refine am_wp_go (am_d_cm _) (fun pc => Nat.beq pc 134) 30 ?_
  refine ⟨cC A W2, cS' A W2, hbc, hbs, ?_⟩
  refine k_churches (d + 2) _ (z := 0) (by unfold zr; omega) hwf hs (fun n1 g1 r5 σ1 s1 f1 => ?_) (by omega)
  exact H n1 g1 r5 σ1 s1 f1
set_option maxRecDepth 100000 in
theorem dd_c1 (d : Nat) (Q : am_Q) {bc bs : Nat} {h : Int64} (hwf : WF A B) (hs : CS A B n w3 g σ r1 r2 W1 W2) (hbc : cC A W2 ≤ bc) (hbs : cS' A W2 ≤ bs) (H : ∀ (n' : Nat) (g' : Nat → Nat × Nat) (r' : Nat) (σ' : Nat → Nat → Int32), CS A B n' w3 g' σ' r1 r' W1 (cWd A W2) → CF σ σ' → am_wp (am_d (d + 7)) T_X9_digest Q (147, [.ref 4, .long (dg h (f_churches A 1)), .null, .int (Int32.ofInt 7)], [], bc - cC A W2, bs - cS' A W2) (lo_M n' w3 g' σ' τ r1 r')) : am_wp (am_d (d + 7)) T_X9_digest Q (134, [.ref 4, .long h, .null, .int (Int32.ofInt 7)], [], bc, bs) (lo_M n w3 g σ τ r1 r2) := by
  refine am_wp_go (am_d_cm _) (fun pc => Nat.beq pc 147) 30 ?_
  refine ⟨cC A W2, cS' A W2, hbc, hbs, ?_⟩
  refine k_churches (d + 2) _ (z := 1) (by unfold zr; omega) hwf hs (fun n1 g1 r5 σ1 s1 f1 => ?_) (by omega)
  exact H n1 g1 r5 σ1 s1 f1
set_option maxRecDepth 100000 in
theorem dd_came (d : Nat) (Q : am_Q) {bc bs : Nat} {h : Int64} (hwf : WF A B) (hs : CS A B n w3 g σ r1 r2 W1 W2) (H : ∀ σ' : Nat → Nat → Int32, CS A B n w3 g σ' r1 r2 W1 W2 → CF σ σ' → am_wp (am_d (d + 7)) T_X9_digest Q (160, [.ref 4, .long (dg h (f_came A (-1))), .null, .int (Int32.ofInt 7)], [], bc, bs) (lo_M n w3 g σ' τ r1 r2)) : am_wp (am_d (d + 7)) T_X9_digest Q (147, [.ref 4, .long h, .null, .int (Int32.ofInt 7)], [], bc, bs) (lo_M n w3 g σ τ r1 r2) := by
  refine am_wp_go (am_d_cm _) (fun pc => Nat.beq pc 160) 30 ?_
  refine k_came (d + 1) _ (z := -1) (by unfold zr; omega) hwf hs (fun σ1 s1 f1 => ?_)
  exact H σ1 s1 f1
set_option maxRecDepth 100000 in
theorem dd_sure (d : Nat) (Q : am_Q) {bc bs : Nat} {h : Int64} (hwf : WF A B) (hs : CS A B n w3 g σ r1 r2 W1 W2) (H : ∀ σ' : Nat → Nat → Int32, CS A B n w3 g σ' r1 r2 W1 W2 → CF σ σ' → am_wp (am_d (d + 7)) T_X9_digest Q (172, [.ref 4, .long (dg h (f_sure A)), .null, .int (Int32.ofInt 7)], [], bc, bs) (lo_M n w3 g σ' τ r1 r2)) : am_wp (am_d (d + 7)) T_X9_digest Q (160, [.ref 4, .long h, .null, .int (Int32.ofInt 7)], [], bc, bs) (lo_M n w3 g σ τ r1 r2) := by
  refine am_wp_go (am_d_cm _) (fun pc => Nat.beq pc 172) 30 ?_
  refine k_sure (d + 1) _ hwf hs (fun σ1 s1 f1 => ?_)
  exact H σ1 s1 f1
set_option maxRecDepth 100000 in
theorem dd_a0 (d : Nat) (Q : am_Q) {bc bs : Nat} {h : Int64} (hwf : WF A B) (hs : CS A B n w3 g σ r1 r2 W1 W2) (H : am_wp (am_d (d + 7)) T_X9_digest Q (184, [.ref 4, .long (dl h (f_allLate A 0)), .null, .int (Int32.ofInt 7)], [], bc, bs) (lo_M n w3 g σ τ r1 r2)) : am_wp (am_d (d + 7)) T_X9_digest Q (172, [.ref 4, .long h, .null, .int (Int32.ofInt 7)], [], bc, bs) (lo_M n w3 g σ τ r1 r2) := by
  refine am_wp_go (am_d_cm _) (fun pc => Nat.beq pc 184) 30 ?_
  refine c_allLate (d + 4) _ (y := 0) (by unfold zr; omega) hs.1 hwf ?_
  exact H
set_option maxRecDepth 100000 in
theorem dd_a1 (d : Nat) (Q : am_Q) {bc bs : Nat} {h : Int64} (hwf : WF A B) (hs : CS A B n w3 g σ r1 r2 W1 W2) (H : Q (some (.long (dl h (f_allLate A 1)))) (lo_M n w3 g σ τ r1 r2)) : am_wp (am_d (d + 7)) T_X9_digest Q (184, [.ref 4, .long h, .null, .int (Int32.ofInt 7)], [], bc, bs) (lo_M n w3 g σ τ r1 r2) := by
  refine am_wp_go (am_d_cm _) (fun _ => false) 30 ?_
  refine c_allLate (d + 4) _ (y := 1) (by unfold zr; omega) hs.1 hwf ?_
  exact H
set_option maxRecDepth 100000 in
theorem k_digest (d : Nat) (Q : am_Q) {bc bs : Nat} (hwf : WF A B) (hs : CS A B n w3 g σ r1 r2 W1 W2) (hbc : rC A W1 + cC A W2 ≤ bc) (hbs : rS' A W1 + cS' A W2 ≤ bs)
    (h : ∀ (n' : Nat) (g' : Nat → Nat × Nat) (ra rb : Nat) (σ' : Nat → Nat → Int32), CS A B n' w3 g' σ' ra rb (rWd A W1) (cWd A W2) → CF σ σ' → Q (some (.long (f_digest A))) (lo_M n' w3 g' σ' τ ra rb)) : am_d (d + 8) 86 [.ref 4] bc bs (lo_M n w3 g σ τ r1 r2) Q := by
  refine am_goT T_X9_digest [.ref 4, .null, .null, .null] rfl rfl (fun pc => Nat.beq pc 6) 60 ?_
  refine k_dg_cnt d Q hwf 8 0 (Int64.ofInt 17) σ (by omega) hs (fun σ1 s1 f1 => ?_)
  refine am_wp_go (am_d_cm _) (fun pc => Nat.beq pc 45) 60 ?_
  refine c_fault (d + 6) _ s1.1 ?_
  refine k_dg_ps d Q (X := cC A W2) (Y := cS' A W2) hwf (cnt A) 0 (dg (dgF (fun w => f_count A w) 0 8 (Int64.ofInt 17)) (flt A)) n g r1 σ1 W1 bc bs (by omega) s1 hbc hbs (fun n2 g2 ra σ2 Wx b2 e2 s2 f2 ew hb2 he2 => ?_)
  refine am_wp_go (am_d_cm _) (fun pc => Nat.beq pc 71) 60 ?_
  refine k_dg_who d Q hwf 7 0 (dPs A 0 (cnt A) (dg (dgF (fun w => f_count A w) 0 8 (Int64.ofInt 17)) (flt A))) σ2 (by omega) s2 (fun σ3 s3 f3 => ?_)
  refine dd_rest d Q hwf s3 (by omega) (by omega) (fun n4 g4 r4 σ4 s4 f4 => ?_)
  rw [ew] at s4
  refine dd_chg d Q hwf s4 (fun σ5 s5 f5 => ?_)
  refine dd_c0 d Q hwf s5 (by omega) (by omega) (fun n6 g6 r6 σ6 s6 f6 => ?_)
  obtain ⟨j1, j2, j3⟩ := cC_idem A W2
  refine dd_c1 d Q hwf s6 (by omega) (by omega) (fun n7 g7 r7 σ7 s7 f7 => ?_)
  rw [j3] at s7
  refine dd_came d Q hwf s7 (fun σ8 s8 f8 => ?_)
  refine dd_sure d Q hwf s8 (fun σ9 s9 f9 => ?_)
  refine dd_a0 d Q hwf s9 ?_
  refine dd_a1 d Q hwf s9 ?_
  exact h n7 g7 r4 r7 σ9 s9 (CF_trans (CF_trans (CF_trans (CF_trans (CF_trans (CF_trans (CF_trans (CF_trans f1 f2) f3) f4) f5) f6) f7) f8) f9)
end CDG
