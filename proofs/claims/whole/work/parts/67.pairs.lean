/-! each call of the class and of the reference: the same answer, the same told behind it -/
def CH (k : Nat) (args : List Value) (A : aN) (B : aZ) (A' : aN) (B' : aZ) (v : Value) : Prop := ∀ (Q : am_Q) (n w3 : Nat) (g : Nat → Nat × Nat) (σ : Nat → Nat → Int32) (τ : Nat → Nat → Int64) (r1 r2 W1 W2 : Nat), CS A B n w3 g σ r1 r2 W1 W2 → ST σ → (∀ σ' : Nat → Nat → Int32, CS A' B' n w3 g σ' r1 r2 W1 W2 → CF σ σ' → Q (some v) (lo_M n w3 g σ' τ r1 r2)) → am_d 10 k (.ref 4 :: args) 0 0 (lo_M n w3 g σ τ r1 r2) Q
def MH (k : Nat) (args : List Value) (A : aN) (B : aZ) (A' : aN) (B' : aZ) (v : Value) : Prop := ∀ (Q : am_Q) (n w3 : Nat) (g : Nat → Nat × Nat) (σ : Nat → Nat → Int32) (τ : Nat → Nat → Int64) (r1 r2 : Nat), IM A B σ → (∀ (σ' : Nat → Nat → Int32) (τ' : Nat → Nat → Int64), IM A' B' σ' → RF σ σ' → Q (some v) (lo_M n w3 g σ' τ' r1 r2)) → am_d 10 k (.ref 56 :: args) 0 0 (lo_M n w3 g σ τ r1 r2) Q
def PWi (k m : Nat) (args : List Value) (A : aN) (B : aZ) : Prop := ∃ (A' : aN) (B' : aZ) (v : Int32), WF A' B' ∧ CH k args A B A' B' (.int v) ∧ MH m args A B A' B' (.int v)
def PWl (k m : Nat) (args : List Value) (A : aN) (B : aZ) : Prop := ∃ (A' : aN) (B' : aZ) (v : Int64), WF A' B' ∧ CH k args A B A' B' (.long v) ∧ MH m args A B A' B' (.long v)
theorem RF_QF {σ σ' : Nat → Nat → Int32} (k : QF σ σ') : RF σ σ' := fun c e => k.1 c (Or.inl e)
theorem RF_refl (σ : Nat → Nat → Int32) : RF σ σ := fun _ _ => rfl
section PRS
variable {A : aN} {B : aZ}

theorem p_fault (hwf : WF A B) : PWi 54 130 [] A B := by
  refine ⟨A, B, (Int32.ofInt (flt A)), hwf, fun Q n w3 g σ τ r1 r2 W1 W2 hs hst h => ?_, fun Q n w3 g σ τ r1 r2 hm h => ?_⟩
  · exact c_fault 9 Q hs.1 (h σ hs (CF_refl σ))
  · exact r_fault 5 Q hwf hm.1 (fun σ' k1 k2 _ => h σ' τ (IM_QF hm (QF_rd k1 k2)) (RF_QF (QF_rd k1 k2)))
theorem p_person (hwf : WF A B) (x y : Int32) : PWi 55 136 [.int x, .int y] A B := by
  rw [zof x, zof y]
  refine ⟨A, B, (Int32.ofInt (f_person A x.toInt y.toInt)), hwf, fun Q n w3 g σ τ r1 r2 W1 W2 hs hst h => ?_, fun Q n w3 g σ τ r1 r2 hm h => ?_⟩
  · exact c_person 7 Q (zrof x) (zrof y) hs.1 hwf (h σ hs (CF_refl σ))
  · exact q_person 4 Q (zrof x) (zrof y) hm hwf (fun σ' k => h σ' τ (IM_QF hm k) (RF_QF k))
theorem p_seat (hwf : WF A B) (x : Int32) : PWi 61 151 [.int x] A B := by
  rw [zof x]
  refine ⟨A, B, (Int32.ofInt (f_seat A x.toInt)), hwf, fun Q n w3 g σ τ r1 r2 W1 W2 hs hst h => ?_, fun Q n w3 g σ τ r1 r2 hm h => ?_⟩
  · exact c_seat 5 Q (zrof x) hs.1 hwf (fun σ' k _ => h σ' (CS_q hs k) (CF_q k))
  · exact q_seat 4 Q (zrof x) hm hwf (fun σ' k => h σ' τ (IM_QF hm k) (RF_QF k))
theorem p_who (hwf : WF A B) (x : Int32) : PWi 62 153 [.int x] A B := by
  rw [zof x]
  refine ⟨A, B, (Int32.ofInt (f_who A x.toInt)), hwf, fun Q n w3 g σ τ r1 r2 W1 W2 hs hst h => ?_, fun Q n w3 g σ τ r1 r2 hm h => ?_⟩
  · exact c_who 5 Q (zrof x) hs.1 hwf (fun σ' k _ => h σ' (CS_q hs k) (CF_q k))
  · exact q_who 3 Q (zrof x) hm hwf (fun σ' k => h σ' τ (IM_QF hm k) (RF_QF k))
theorem p_has (hwf : WF A B) (x : Int32) : PWi 63 155 [.int x] A B := by
  rw [zof x]
  refine ⟨A, B, (Int32.ofInt (f_has A x.toInt)), hwf, fun Q n w3 g σ τ r1 r2 W1 W2 hs hst h => ?_, fun Q n w3 g σ τ r1 r2 hm h => ?_⟩
  · exact c_has 5 Q (zrof x) hs.1 hwf (fun σ' k _ => h σ' (CS_q hs k) (CF_q k))
  · exact q_has 3 Q (zrof x) hm hwf (fun σ' k => h σ' τ (IM_QF hm k) (RF_QF k))
theorem p_best (hwf : WF A B) (x y : Int32) : PWi 64 157 [.int x, .int y] A B := by
  rw [zof x, zof y]
  refine ⟨A, B, (Int32.ofInt (f_best A x.toInt y.toInt)), hwf, fun Q n w3 g σ τ r1 r2 W1 W2 hs hst h => ?_, fun Q n w3 g σ τ r1 r2 hm h => ?_⟩
  · exact c_best 5 Q (zrof x) (zrof y) hs.1 hwf (fun σ' k _ => h σ' (CS_q hs k) (CF_q k))
  · exact q_best 2 Q (zrof x) (zrof y) hm hwf (fun σ' k => h σ' τ (IM_QF hm k) (RF_QF k))
theorem p_change (hwf : WF A B) (x y : Int32) : PWi 66 163 [.int x, .int y] A B := by
  rw [zof x, zof y]
  refine ⟨A, B, (Int32.ofInt (f_change A x.toInt y.toInt)), hwf, fun Q n w3 g σ τ r1 r2 W1 W2 hs hst h => ?_, fun Q n w3 g σ τ r1 r2 hm h => ?_⟩
  · exact c_change 5 Q (zrof x) (zrof y) hs.1 hwf (fun σ' k _ => h σ' (CS_q hs k) (CF_q k))
  · exact q_change 3 Q (zrof x) (zrof y) hm hwf (fun σ' k => h σ' τ (IM_QF hm k) (RF_QF k))
theorem p_changes (hwf : WF A B) : PWi 67 165 [] A B := by
  refine ⟨A, B, (Int32.ofInt (f_changes A)), hwf, fun Q n w3 g σ τ r1 r2 W1 W2 hs hst h => ?_, fun Q n w3 g σ τ r1 r2 hm h => ?_⟩
  · exact c_changes 5 Q hs.1 hwf (fun σ' k _ => h σ' (CS_q hs k) (CF_q k))
  · exact q_changes 2 Q hm hwf (fun σ' k => h σ' τ (IM_QF hm k) (RF_QF k))
theorem p_came (hwf : WF A B) (x : Int32) : PWi 72 179 [.int x] A B := by
  rw [zof x]
  refine ⟨A, B, (Int32.ofInt (f_came A x.toInt)), hwf, fun Q n w3 g σ τ r1 r2 W1 W2 hs hst h => ?_, fun Q n w3 g σ τ r1 r2 hm h => ?_⟩
  · exact k_came 4 Q (zrof x) hwf hs h
  · exact q_came 4 Q (zrof x) hm hwf (fun σ' τ' k => h σ' τ' (IM_QF hm k) (RF_QF k))
theorem p_sure (hwf : WF A B) : PWi 73 181 [] A B := by
  refine ⟨A, B, (Int32.ofInt (f_sure A)), hwf, fun Q n w3 g σ τ r1 r2 W1 W2 hs hst h => ?_, fun Q n w3 g σ τ r1 r2 hm h => ?_⟩
  · exact k_sure 4 Q hwf hs h
  · exact q_sure 4 Q hm hwf (fun σ' τ' k => h σ' τ' (IM_QF hm k) (RF_QF k))
theorem p_fair (hwf : WF A B) (x y : Int32) : PWl 74 184 [.int x, .int y] A B := by
  rw [zof x, zof y]
  refine ⟨A, B, (Int64.ofInt (f_fair A x.toInt y.toInt)), hwf, fun Q n w3 g σ τ r1 r2 W1 W2 hs hst h => ?_, fun Q n w3 g σ τ r1 r2 hm h => ?_⟩
  · exact c_fair 7 Q (zrof x) (zrof y) hs.1 hwf (h σ hs (CF_refl σ))
  · exact q_fair 4 Q (zrof x) (zrof y) hm hwf (fun σ' τ' k => h σ' τ' (IM_QF hm k) (RF_QF k))
theorem p_lot (hwf : WF A B) (x y : Int32) : PWi 75 186 [.int x, .int y] A B := by
  rw [zof y]
  refine ⟨A, B, Int32.ofInt (f_lot A x y.toInt), hwf, fun Q n w3 g σ τ r1 r2 W1 W2 hs hst h => ?_, fun Q n w3 g σ τ r1 r2 hm h => ?_⟩
  · exact c_lot 7 Q (zrof y) hs.1 (h σ hs (CF_refl σ))
  · exact q_lot 4 Q (zrof y) hm hwf (fun σ' k => h σ' τ (IM_QF hm k) (RF_QF k))
theorem p_late (hwf : WF A B) (x y : Int32) : PWl 77 188 [.int x, .int y] A B := by
  rw [zof x, zof y]
  refine ⟨A, B, (Int64.ofInt (f_late A x.toInt y.toInt)), hwf, fun Q n w3 g σ τ r1 r2 W1 W2 hs hst h => ?_, fun Q n w3 g σ τ r1 r2 hm h => ?_⟩
  · exact c_late 7 Q (zrof x) (zrof y) hs.1 hwf (h σ hs (CF_refl σ))
  · exact r_late 7 Q (zrof x) (zrof y) hm.2.2.2.2.2.2.1 hwf (h σ τ hm (RF_refl σ))
theorem p_allLate (hwf : WF A B) (x : Int32) : PWl 78 190 [.int x] A B := by
  rw [zof x]
  refine ⟨A, B, (Int64.ofInt (f_allLate A x.toInt)), hwf, fun Q n w3 g σ τ r1 r2 W1 W2 hs hst h => ?_, fun Q n w3 g σ τ r1 r2 hm h => ?_⟩
  · exact c_allLate 7 Q (zrof x) hs.1 hwf (h σ hs (CF_refl σ))
  · exact q_allLate 5 Q (zrof x) hm hwf (fun σ' k => h σ' τ (IM_QF hm k) (RF_QF k))
theorem p_count (hwf : WF A B) (x : Int32) : PWi 85 193 [.int x] A B := by
  rw [zof x]
  refine ⟨A, B, (Int32.ofInt (f_count A x.toInt)), hwf, fun Q n w3 g σ τ r1 r2 W1 W2 hs hst h => ?_, fun Q n w3 g σ τ r1 r2 hm h => ?_⟩
  · exact c_count 5 Q (zrof x) hs.1 hwf (fun σ' k _ => h σ' (CS_q hs k) (CF_q k))
  · exact q_count 3 Q (zrof x) hm hwf (fun σ' k => h σ' τ (IM_QF hm k) (RF_QF k))
theorem p_type (hwf : WF A B) (x : Int32) : PWi 52 123 [.int x] A B := by
  rw [zof x]
  have hz := zrof x
  generalize x.toInt = z at hz ⊢
  by_cases c : 0 ≤ z ∧ z ≤ 255
  · by_cases c4 : A 0 0 < 40
    · refine ⟨A_type A z.toNat, B, Int32.ofInt ((A 0 0 + 1 : Nat) : Int), WF_type hwf (by omega) c4, fun Q n w3 g σ τ r1 r2 W1 W2 hs hst h => ?_, fun Q n w3 g σ τ r1 r2 hm h => ?_⟩
      · refine c_type 4 Q hz hs.1 hwf (fun q => absurd c q) (fun _ q => absurd c4 (by omega)) (fun _ _ σ' k hp => ?_)
        exact h _ (CS_type hs (fun c e => k c (by omega) (by omega) (by omega) (by omega)) hp) (fun c e => by rw [drp_ne (by omega)]; exact k c (by omega) (by omega) (by omega) (by omega))
      · refine r_type 8 Q hz hm hwf (fun q => absurd c q) (fun _ q => absurd c4 (by omega)) (fun _ _ => ?_)
        refine h _ τ (IM_type hm (fun c e => by rw [am_u_ne (by omega), am_u_ne (by omega)]) (fun i e => by rw [am_u_at, if_neg e, am_u_ne (by decide)]) ⟨rfl, fun i hi => ?_⟩) (fun c e => by rw [am_u_ne (by omega), am_u_ne (by omega)])
        show (if i = A 0 0 then Int32.ofInt z else σ 61 i) = Int32.ofInt ((if i = A 0 0 then z.toNat else A 1 i : Nat) : Int)
        split
        · congr 1; omega
        · exact hm.1.2 i hi
    · refine ⟨A, B, Int32.ofInt (-4), hwf, fun Q n w3 g σ τ r1 r2 W1 W2 hs hst h => ?_, fun Q n w3 g σ τ r1 r2 hm h => ?_⟩
      · exact c_type 4 Q hz hs.1 hwf (fun q => absurd c q) (fun _ _ => (h σ hs (CF_refl σ))) (fun _ q => absurd q c4)
      · exact r_type 8 Q hz hm hwf (fun q => absurd c q) (fun _ _ => (h σ τ hm (RF_refl σ))) (fun _ q => absurd q c4)
  · refine ⟨A, B, Int32.ofInt (-2), hwf, fun Q n w3 g σ τ r1 r2 W1 W2 hs hst h => ?_, fun Q n w3 g σ τ r1 r2 hm h => ?_⟩
    · exact c_type 4 Q hz hs.1 hwf (fun _ => (h σ hs (CF_refl σ))) (fun q => absurd q c) (fun q => absurd q c)
    · exact r_type 8 Q hz hm hwf (fun _ => (h σ τ hm (RF_refl σ))) (fun q => absurd q c) (fun q => absurd q c)
theorem p_wipe (hwf : WF A B) : PWi 53 124 [] A B := by
  refine ⟨A_wipe A, B, Int32.ofInt (A 0 0 : Int), WF_wipe hwf, fun Q n w3 g σ τ r1 r2 W1 W2 hs hst h => ?_, fun Q n w3 g σ τ r1 r2 hm h => ?_⟩
  · refine c_wipe 4 Q hs.1 hwf (fun σ' k hp => ?_)
    exact h _ (CS_wipe hs (fun c e => k c (by omega) (by omega) (by omega)) hp) (fun c e => by rw [drp_ne (by omega)]; exact k c (by omega) (by omega) (by omega))
  · refine r_wipe 9 Q hm ?_
    exact h _ τ (IM_wipe hm (fun c e => am_u_ne e) (fun i e => by rw [am_u_at, if_neg e]) ⟨rfl, fun i hi => hm.1.2 i hi⟩) (fun c e => am_u_ne (by omega))
theorem p_waits (hwf : WF A B) (x y : Int32) : PWi 56 137 [.int x, .int y] A B := by
  rw [zof x, zof y]
  have hz := zrof x
  have hy := zrof y
  generalize x.toInt = z at hz ⊢
  generalize y.toInt = v at hy ⊢
  by_cases c : (0 ≤ z ∧ z ≤ 6) ∧ 0 ≤ v ∧ v ≤ 59
  · refine ⟨am_ur A 4 (fun j => if j = z.toNat then v.toNat else A 4 j), B, Int32.ofInt (A 4 z.toNat : Int), WF_4 hwf (fun p => ?_), fun Q n w3 g σ τ r1 r2 W1 W2 hs hst h => ?_, fun Q n w3 g σ τ r1 r2 hm h => ?_⟩
    · split
      · omega
      · exact hwf.2.2.2.2.1 p
    · refine c_waits 7 Q hz hy hs.1 (fun q => absurd c q) (fun _ => ?_)
      refine h _ (CS_4 hs (fun c e => by rw [am_u_ne (by omega), am_u_ne (by omega)]) (fun p hp => ?_) (fun i e => by rw [am_u_at, if_neg e, am_u_ne (by decide)]) rfl) (fun c e => by rw [am_u_ne (by omega), am_u_ne (by omega)])
      show (if p = z.toNat then Int32.ofInt v else σ 21 p) = Int32.ofInt ((if p = z.toNat then v.toNat else A 4 p : Nat) : Int)
      split
      · congr 1; omega
      · exact hs.1.2.2.2.2.1 p hp
    · refine r_waits 7 Q hz hy hm.2.2.2.2.1 (fun q => absurd c q) (fun _ => ?_)
      refine h _ τ (IM_4 hm (fun c e => am_u_ne (by omega)) (fun i e => by rw [am_u_ne (by decide)]) (fun p hp => ?_)) (fun c e => am_u_ne (by omega))
      show (if p = z.toNat then Int32.ofInt v else σ 64 p) = Int32.ofInt ((if p = z.toNat then v.toNat else A 4 p : Nat) : Int)
      split
      · congr 1; omega
      · exact hm.2.2.2.2.1 p hp
  · refine ⟨A, B, Int32.ofInt (-2), hwf, fun Q n w3 g σ τ r1 r2 W1 W2 hs hst h => ?_, fun Q n w3 g σ τ r1 r2 hm h => ?_⟩
    · exact c_waits 7 Q hz hy hs.1 (fun _ => (h σ hs (CF_refl σ))) (fun q => absurd q c)
    · exact r_waits 7 Q hz hy hm.2.2.2.2.1 (fun _ => (h σ τ hm (RF_refl σ))) (fun q => absurd q c)
theorem prz_u {f : Nat → Nat} {m v : Nat} : ∀ i : Nat, (prz (fun j => if j = m then v else f j) i : Int) = (prz f i : Int) + if m + 1 ≤ i then (v : Int) - (f m : Int) else 0
  | 0 => by
    rw [if_neg (by omega)]
    rfl
  | i + 1 => by
    have ih := prz_u (f := f) (m := m) (v := v) i
    unfold prz
    by_cases e : i = m
    · subst e
      rw [if_neg (by omega)] at ih
      rw [if_pos rfl, if_pos (Nat.le_refl _)]
      omega
    · rw [if_neg e]
      by_cases e2 : m + 1 ≤ i
      · rw [if_pos e2] at ih
        rw [if_pos (by omega)]
        omega
      · rw [if_neg e2] at ih
        rw [if_neg (by omega)]
        omega
theorem p_rain (hwf : WF A B) (x y : Int32) : PWi 57 138 [.int x, .int y] A B := by
  rw [zof x, zof y]
  have hz := zrof x
  have hy := zrof y
  generalize x.toInt = z at hz ⊢
  generalize y.toInt = v at hy ⊢
  by_cases c : (0 ≤ z ∧ z ≤ 59) ∧ 0 ≤ v ∧ v ≤ 1
  · refine ⟨am_ur A 2 (fun j => if j = z.toNat then v.toNat else A 2 j), B, Int32.ofInt (A 2 z.toNat : Int), WF_2 hwf (fun p => ?_), fun Q n w3 g σ τ r1 r2 W1 W2 hs hst h => ?_, fun Q n w3 g σ τ r1 r2 hm h => ?_⟩
    · split
      · omega
      · exact hwf.2.2.1 p
    · refine c_rain 7 Q hz hy hs.1 (fun q => absurd c q) (fun _ => ?_)
      refine h _ (CS_2 hs (fun c e => am_ur_ne e) (fun p hp => ?_)) (fun c e => by rw [drp_ne (by omega), am_ur_ne (by omega)])
      rw [am_ur_at, prz_u, hs.1.2.1 p hp]
      by_cases e : z.toNat + 1 ≤ p
      · rw [if_pos ⟨e, hp⟩, if_pos e, zsub, zadd]
        congr 1
        omega
      · rw [if_neg (fun q => e q.1), if_neg e, Int.add_zero]
    · refine r_rain 7 Q hz hy hm (fun q => absurd c q) (fun _ => ?_)
      refine h _ τ (IM_2 hm (fun c e => am_u_ne (by omega)) (fun i e => by rw [am_u_ne (by decide)]) (fun p hp => ?_)) (fun c e => am_u_ne (by omega))
      show (if p = z.toNat then Int32.ofInt v else σ 65 p) = Int32.ofInt ((if p = z.toNat then v.toNat else A 2 p : Nat) : Int)
      split
      · congr 1; omega
      · exact hm.2.1 p hp
  · refine ⟨A, B, Int32.ofInt (-2), hwf, fun Q n w3 g σ τ r1 r2 W1 W2 hs hst h => ?_, fun Q n w3 g σ τ r1 r2 hm h => ?_⟩
    · exact c_rain 7 Q hz hy hs.1 (fun _ => (h σ hs (CF_refl σ))) (fun q => absurd q c)
    · exact r_rain 7 Q hz hy hm (fun _ => (h σ τ hm (RF_refl σ))) (fun q => absurd q c)
theorem p_set (hwf : WF A B) (x y : Int32) : PWi 58 141 [.int x, .int y] A B := by
  rw [zof x, zof y]
  have hz := zrof x
  have hy := zrof y
  generalize x.toInt = z at hz ⊢
  generalize y.toInt = v at hy ⊢
  by_cases c : (0 ≤ z ∧ z ≤ 5) ∧ leastS z.toNat ≤ v ∧ v ≤ mostS z.toNat
  · have hv : 0 ≤ v := by
      have h1 := c.2.1
      rcases (show z.toNat = 0 ∨ z.toNat = 1 ∨ z.toNat = 2 ∨ z.toNat = 3 ∨ z.toNat = 4 ∨ z.toNat = 5 by omega) with e | e | e | e | e | e <;> rw [e] at h1 <;> simp only [leastS] at h1 <;> omega
    refine ⟨am_ur A 3 (fun j => if j = z.toNat then v.toNat else A 3 j), B, Int32.ofInt (A 3 z.toNat : Int), WF_3 hwf ?_, fun Q n w3 g σ τ r1 r2 W1 W2 hs hst h => ?_, fun Q n w3 g σ τ r1 r2 hm h => ?_⟩
    · have w4 := hwf.2.2.2.1
      have h1 := c.2.1
      have h2 := c.2.2
      rcases (show z.toNat = 0 ∨ z.toNat = 1 ∨ z.toNat = 2 ∨ z.toNat = 3 ∨ z.toNat = 4 ∨ z.toNat = 5 by omega) with e | e | e | e | e | e <;> rw [e] at h1 h2 ⊢ <;> simp only [leastS, mostS] at h1 h2 <;> simp only [reduceIte, Nat.reduceEqDiff, Nat.succ_ne_self] <;> omega
    · refine c_set 7 Q hz hy hs.1 hst.1 hst.2 (fun q => absurd c q) (fun _ => ?_)
      refine h _ (CS_3 hs (fun c e => am_u_ne e) (fun p hp => ?_)) (fun c e => by rw [drp_ne (by omega), am_u_ne (by omega)])
      rw [am_u_at]
      by_cases e : p = z.toNat
      · rw [if_pos e, if_pos e]; congr 1; omega
      · rw [if_neg e, if_neg e]; exact hs.1.2.2.1 p hp
    · refine r_set 7 Q hz hy hm (fun q => absurd c q) (fun _ => ?_)
      refine h _ τ (IM_3 hm (fun c e => am_u_ne (by omega)) (fun i e => by rw [am_u_ne (by decide)]) (fun p hp => ?_)) (fun c e => am_u_ne (by omega))
      rw [am_u_at]
      by_cases e : p = z.toNat
      · rw [if_pos e, if_pos e]; congr 1; omega
      · rw [if_neg e, if_neg e]; exact hm.2.2.1 p hp
  · refine ⟨A, B, Int32.ofInt (-2), hwf, fun Q n w3 g σ τ r1 r2 W1 W2 hs hst h => ?_, fun Q n w3 g σ τ r1 r2 hm h => ?_⟩
    · exact c_set 7 Q hz hy hs.1 hst.1 hst.2 (fun _ => (h σ hs (CF_refl σ))) (fun q => absurd q c)
    · exact r_set 7 Q hz hy hm (fun _ => (h σ τ hm (RF_refl σ))) (fun q => absurd q c)
theorem p_love (hwf : WF A B) (x y t : Int32) : PWi 59 142 [.int x, .int y, .int t] A B := by
  rw [zof x, zof y, zof t]
  have hz := zrof x
  have hy := zrof y
  have ht := zrof t
  generalize x.toInt = z at hz ⊢
  generalize y.toInt = u at hy ⊢
  generalize t.toInt = v at ht ⊢
  by_cases c : (0 ≤ z ∧ z ≤ 6) ∧ (0 ≤ u ∧ u ≤ 6) ∧ z ≠ u ∧ 0 ≤ v ∧ v ≤ 20
  · refine ⟨A_love A z.toNat u.toNat v.toNat, B, Int32.ofInt (A (20 + z.toNat) u.toNat : Int), WF_love hwf (by omega) (by omega), fun Q n w3 g σ τ r1 r2 W1 W2 hs hst h => ?_, fun Q n w3 g σ τ r1 r2 hm h => ?_⟩
    · refine c_love 7 Q hz hy ht hs.1 (fun q => absurd c q) (fun _ => ?_)
      refine h _ (CS_love hs (fun c e => by unfold loM; rw [am_u_ne (by omega), am_u_ne (by omega)]) (fun a ha b hb => ?_)) (fun c e => by unfold loM; rw [drp_ne (by omega), am_u_ne (by omega), am_u_ne (by omega)])
      unfold loM
      rw [A_love_20, am_u_if, am_u_if]
      by_cases h1 : a = u.toNat ∧ b = z.toNat
      · rw [if_pos (by omega), if_pos (Or.inl h1)]; congr 1; omega
      · rw [if_neg (by omega)]
        by_cases h2 : a = z.toNat ∧ b = u.toNat
        · rw [if_pos (by omega), if_pos (Or.inr h2)]; congr 1; omega
        · rw [if_neg (by omega), if_neg (fun q => q.elim h1 h2)]
          exact hs.1.2.2.2.1 a ha b hb
    · refine r_love 7 Q hz hy ht hm (fun q => absurd c q) (fun _ => ?_)
      refine h _ τ (IM_love hm (fun c e => by rw [am_u_ne (by omega), am_u_ne (by omega)]) (fun i e => by rw [am_u_ne (by decide), am_u_ne (by decide)]) (fun a ha b hb => ?_)) (fun c e => by rw [am_u_ne (by omega), am_u_ne (by omega)])
      rw [A_love_20, am_u_at, am_u_at]
      by_cases h1 : a = u.toNat ∧ b = z.toNat
      · rw [if_pos (by omega), if_pos (Or.inl h1)]; congr 1; omega
      · rw [if_neg (by omega)]
        by_cases h2 : a = z.toNat ∧ b = u.toNat
        · rw [if_pos (by omega), if_pos (Or.inr h2)]; congr 1; omega
        · rw [if_neg (by omega), if_neg (fun q => q.elim h1 h2)]
          exact hm.2.2.2.1 a ha b hb
  · refine ⟨A, B, Int32.ofInt (-2), hwf, fun Q n w3 g σ τ r1 r2 W1 W2 hs hst h => ?_, fun Q n w3 g σ τ r1 r2 hm h => ?_⟩
    · exact c_love 7 Q hz hy ht hs.1 (fun _ => (h σ hs (CF_refl σ))) (fun q => absurd q c)
    · exact r_love 7 Q hz hy ht hm (fun _ => (h σ τ hm (RF_refl σ))) (fun q => absurd q c)

theorem p_sat (hwf : WF A B) (x y : Int32) : PWi 69 170 [.int x, .int y] A B := by
  rw [zof x, zof y]
  have hz := zrof x
  have hy := zrof y
  generalize x.toInt = z at hz ⊢
  generalize y.toInt = v at hy ⊢
  have w8 := hwf.2.2.2.2.2.2.2.1
  by_cases c : (0 ≤ z ∧ z ≤ 6) ∧ 0 ≤ v ∧ v ≤ 6
  · by_cases c8 : A 0 1 < 8
    · refine ⟨A_fact A (A 0 1) 0 z.toNat v.toNat, B, Int32.ofInt ((A 0 1 + 1 : Nat) : Int), WF_fact hwf (by omega) (by omega) (by omega) c8, fun Q n w3 g σ τ r1 r2 W1 W2 hs hst h => ?_, fun Q n w3 g σ τ r1 r2 hm h => ?_⟩
      · refine c_sat 7 Q hz hy hs.1 hwf (fun q => absurd c q) (fun _ q => absurd c8 (by omega)) (fun _ _ => ?_)
        refine h _ (CS_fact hs (fun c e => by unfold fcM; rw [am_u_ne (by omega), am_u_ne (by omega), am_u_ne (by omega), am_u_ne (by omega), am_u_ne (by omega)]) (fun i e => by unfold fcM; rw [am_u_at, if_neg e]; rfl) rfl ⟨rfl, fun f hf => ?_⟩) (fun c e => by unfold fcM; rw [am_u_ne (by omega), am_u_ne (by omega), am_u_ne (by omega), am_u_ne (by omega), am_u_ne (by omega)])
        have hf : f < A 0 1 + 1 := hf
        show (if f = A 0 1 then Int32.ofInt 0 else σ 36 f) = Int32.ofInt ((if f = A 0 1 then 0 else A 5 f : Nat) : Int) ∧ (if f = A 0 1 then Int32.ofInt z else σ 37 f) = Int32.ofInt ((if f = A 0 1 then z.toNat else A 6 f : Nat) : Int) ∧ (if f = A 0 1 then Int32.ofInt v else σ 38 f) = Int32.ofInt ((if f = A 0 1 then v.toNat else A 7 f : Nat) : Int)
        by_cases e : f = A 0 1
        · rw [if_pos e, if_pos e, if_pos e, if_pos e, if_pos e, if_pos e]
          exact ⟨rfl, by congr 1; omega, by congr 1; omega⟩
        · rw [if_neg e, if_neg e, if_neg e, if_neg e, if_neg e, if_neg e]
          exact hs.1.2.2.2.2.2.1.2 f (by omega)
      · refine r_sat 7 Q hz hy hm hwf (fun q => absurd c q) (fun _ q => absurd c8 (by omega)) (fun _ _ => ?_)
        refine h _ τ (IM_fact hm (fun c e => by unfold tlM; rw [am_u_ne (by omega), am_u_ne (by omega), am_u_ne (by omega), am_u_ne (by omega)]) (fun i e => by unfold tlM; rw [am_u_at, if_neg e]; rfl) ⟨rfl, fun f hf => ?_⟩) (fun c e => by unfold tlM; rw [am_u_ne (by omega), am_u_ne (by omega), am_u_ne (by omega), am_u_ne (by omega)])
        have hf : f < A 0 1 + 1 := hf
        have t : ∀ i, tlM σ (A 0 1) (Int32.ofInt 0) (Int32.ofInt z) (Int32.ofInt v) 70 i = if i = 3 * A 0 1 + 2 then Int32.ofInt v else if i = 3 * A 0 1 + 1 then Int32.ofInt z else if i = 3 * A 0 1 then Int32.ofInt 0 else σ 70 i := fun i => rfl
        rw [t, t, t]
        show _ = Int32.ofInt ((if f = A 0 1 then 0 else A 5 f : Nat) : Int) ∧ _ = Int32.ofInt ((if f = A 0 1 then z.toNat else A 6 f : Nat) : Int) ∧ _ = Int32.ofInt ((if f = A 0 1 then v.toNat else A 7 f : Nat) : Int)
        by_cases e : f = A 0 1
        · rw [if_pos e, if_pos e, if_pos e, if_neg (by omega), if_neg (by omega), if_pos (by omega), if_neg (by omega), if_pos (by omega), if_pos (by omega)]
          exact ⟨rfl, by congr 1; omega, by congr 1; omega⟩
        · rw [if_neg e, if_neg e, if_neg e, if_neg (by omega), if_neg (by omega), if_neg (by omega), if_neg (by omega), if_neg (by omega), if_neg (by omega), if_neg (by omega), if_neg (by omega), if_neg (by omega)]
          exact hm.2.2.2.2.2.1.2 f (by omega)
    · refine ⟨A, B, Int32.ofInt (-4), hwf, fun Q n w3 g σ τ r1 r2 W1 W2 hs hst h => ?_, fun Q n w3 g σ τ r1 r2 hm h => ?_⟩
      · exact c_sat 7 Q hz hy hs.1 hwf (fun q => absurd c q) (fun _ _ => (h σ hs (CF_refl σ))) (fun _ q => absurd q c8)
      · exact r_sat 7 Q hz hy hm hwf (fun q => absurd c q) (fun _ _ => (h σ τ hm (RF_refl σ))) (fun _ q => absurd q c8)
  · refine ⟨A, B, Int32.ofInt (-2), hwf, fun Q n w3 g σ τ r1 r2 W1 W2 hs hst h => ?_, fun Q n w3 g σ τ r1 r2 hm h => ?_⟩
    · exact c_sat 7 Q hz hy hs.1 hwf (fun _ => (h σ hs (CF_refl σ))) (fun q => absurd q c) (fun q => absurd q c)
    · exact r_sat 7 Q hz hy hm hwf (fun _ => (h σ τ hm (RF_refl σ))) (fun q => absurd q c) (fun q => absurd q c)

theorem p_front (hwf : WF A B) (x y : Int32) : PWi 70 171 [.int x, .int y] A B := by
  rw [zof x, zof y]
  have hz := zrof x
  have hy := zrof y
  generalize x.toInt = z at hz ⊢
  generalize y.toInt = v at hy ⊢
  have w8 := hwf.2.2.2.2.2.2.2.1
  by_cases c : (0 ≤ z ∧ z ≤ 6) ∧ (0 ≤ v ∧ v ≤ 6) ∧ z ≠ v
  · by_cases c8 : A 0 1 < 8
    · refine ⟨A_fact A (A 0 1) 1 z.toNat v.toNat, B, Int32.ofInt ((A 0 1 + 1 : Nat) : Int), WF_fact hwf (by omega) (by omega) (by omega) c8, fun Q n w3 g σ τ r1 r2 W1 W2 hs hst h => ?_, fun Q n w3 g σ τ r1 r2 hm h => ?_⟩
      · refine c_front 7 Q hz hy hs.1 hwf (fun q => absurd c q) (fun _ q => absurd c8 (by omega)) (fun _ _ => ?_)
        refine h _ (CS_fact hs (fun c e => by unfold fcM; rw [am_u_ne (by omega), am_u_ne (by omega), am_u_ne (by omega), am_u_ne (by omega), am_u_ne (by omega)]) (fun i e => by unfold fcM; rw [am_u_at, if_neg e]; rfl) rfl ⟨rfl, fun f hf => ?_⟩) (fun c e => by unfold fcM; rw [am_u_ne (by omega), am_u_ne (by omega), am_u_ne (by omega), am_u_ne (by omega), am_u_ne (by omega)])
        have hf : f < A 0 1 + 1 := hf
        show (if f = A 0 1 then Int32.ofInt 1 else σ 36 f) = Int32.ofInt ((if f = A 0 1 then 1 else A 5 f : Nat) : Int) ∧ (if f = A 0 1 then Int32.ofInt z else σ 37 f) = Int32.ofInt ((if f = A 0 1 then z.toNat else A 6 f : Nat) : Int) ∧ (if f = A 0 1 then Int32.ofInt v else σ 38 f) = Int32.ofInt ((if f = A 0 1 then v.toNat else A 7 f : Nat) : Int)
        by_cases e : f = A 0 1
        · rw [if_pos e, if_pos e, if_pos e, if_pos e, if_pos e, if_pos e]
          exact ⟨rfl, by congr 1; omega, by congr 1; omega⟩
        · rw [if_neg e, if_neg e, if_neg e, if_neg e, if_neg e, if_neg e]
          exact hs.1.2.2.2.2.2.1.2 f (by omega)
      · refine r_front 7 Q hz hy hm hwf (fun q => absurd c q) (fun _ q => absurd c8 (by omega)) (fun _ _ => ?_)
        refine h _ τ (IM_fact hm (fun c e => by unfold tlM; rw [am_u_ne (by omega), am_u_ne (by omega), am_u_ne (by omega), am_u_ne (by omega)]) (fun i e => by unfold tlM; rw [am_u_at, if_neg e]; rfl) ⟨rfl, fun f hf => ?_⟩) (fun c e => by unfold tlM; rw [am_u_ne (by omega), am_u_ne (by omega), am_u_ne (by omega), am_u_ne (by omega)])
        have hf : f < A 0 1 + 1 := hf
        have t : ∀ i, tlM σ (A 0 1) (Int32.ofInt 1) (Int32.ofInt z) (Int32.ofInt v) 70 i = if i = 3 * A 0 1 + 2 then Int32.ofInt v else if i = 3 * A 0 1 + 1 then Int32.ofInt z else if i = 3 * A 0 1 then Int32.ofInt 1 else σ 70 i := fun i => rfl
        rw [t, t, t]
        show _ = Int32.ofInt ((if f = A 0 1 then 1 else A 5 f : Nat) : Int) ∧ _ = Int32.ofInt ((if f = A 0 1 then z.toNat else A 6 f : Nat) : Int) ∧ _ = Int32.ofInt ((if f = A 0 1 then v.toNat else A 7 f : Nat) : Int)
        by_cases e : f = A 0 1
        · rw [if_pos e, if_pos e, if_pos e, if_neg (by omega), if_neg (by omega), if_pos (by omega), if_neg (by omega), if_pos (by omega), if_pos (by omega)]
          exact ⟨rfl, by congr 1; omega, by congr 1; omega⟩
        · rw [if_neg e, if_neg e, if_neg e, if_neg (by omega), if_neg (by omega), if_neg (by omega), if_neg (by omega), if_neg (by omega), if_neg (by omega), if_neg (by omega), if_neg (by omega), if_neg (by omega)]
          exact hm.2.2.2.2.2.1.2 f (by omega)
    · refine ⟨A, B, Int32.ofInt (-4), hwf, fun Q n w3 g σ τ r1 r2 W1 W2 hs hst h => ?_, fun Q n w3 g σ τ r1 r2 hm h => ?_⟩
      · exact c_front 7 Q hz hy hs.1 hwf (fun q => absurd c q) (fun _ _ => (h σ hs (CF_refl σ))) (fun _ q => absurd q c8)
      · exact r_front 7 Q hz hy hm hwf (fun q => absurd c q) (fun _ _ => (h σ τ hm (RF_refl σ))) (fun _ q => absurd q c8)
  · refine ⟨A, B, Int32.ofInt (-2), hwf, fun Q n w3 g σ τ r1 r2 W1 W2 hs hst h => ?_, fun Q n w3 g σ τ r1 r2 hm h => ?_⟩
    · exact c_front 7 Q hz hy hs.1 hwf (fun _ => (h σ hs (CF_refl σ))) (fun q => absurd q c) (fun q => absurd q c)
    · exact r_front 7 Q hz hy hm hwf (fun _ => (h σ τ hm (RF_refl σ))) (fun q => absurd q c) (fun q => absurd q c)

theorem p_forget (hwf : WF A B) : PWi 71 172 [] A B := by
  refine ⟨am_u A 0 1 0, B, Int32.ofInt (A 0 1 : Int), WF_forget hwf, fun Q n w3 g σ τ r1 r2 W1 W2 hs hst h => ?_, fun Q n w3 g σ τ r1 r2 hm h => ?_⟩
  · refine c_forget 9 Q hs.1 ?_
    exact h _ (CS_forget hs (fun c e => by rw [am_u_ne (by omega), am_u_ne (by omega)]) (fun i e => by rw [am_u_at, if_neg e, am_u_ne (by decide)]) rfl ⟨rfl, fun f hf => absurd (show f < 0 from hf) (Nat.not_lt_zero f)⟩) (fun c e => by rw [am_u_ne (by omega), am_u_ne (by omega)])
  · refine r_forget 9 Q hm ?_
    exact h _ τ (IM_forget hm (fun c e => am_u_ne e) (fun i e => by rw [am_u_at, if_neg e]) ⟨rfl, fun f hf => absurd (show f < 0 from hf) (Nat.not_lt_zero f)⟩) (fun c e => am_u_ne (by omega))
theorem p_sunday (hwf : WF A B) (x y : Int32) : PWi 76 187 [.int x, .int y] A B := by
  rw [zof x, zof y]
  have hz := zrof x
  have hy := zrof y
  generalize x.toInt = z at hz ⊢
  generalize y.toInt = v at hy ⊢
  have w10 := hwf.2.2.2.2.2.2.2.2.2.1
  by_cases c : (0 ≤ z ∧ z ≤ 6) ∧ 0 ≤ v ∧ v ≤ 1
  · by_cases c6 : A 0 2 < 60
    · refine ⟨A_sun A z.toNat v.toNat, B, Int32.ofInt ((A 8 z.toNat + 1 : Nat) : Int), WF_sun hwf (by omega) (by omega) c6, fun Q n w3 g σ τ r1 r2 W1 W2 hs hst h => ?_, fun Q n w3 g σ τ r1 r2 hm h => ?_⟩
      · refine c_sunday 7 Q hz hy hs.1 hwf (fun q => absurd c q) (fun _ q => absurd c6 (by omega)) (fun _ _ => ?_)
        have hU := hs.1.2.2.2.2.2.2.1
        refine h _ (CS_sun hs (fun c e => by unfold suM; rw [am_u_ne (by omega), am_u_ne (by omega), am_u_ne (by omega)]) ⟨?_, fun p hp => ?_⟩) (fun c e => by unfold suM; rw [am_u_ne (by omega), am_u_ne (by omega), am_u_ne (by omega)])
        · show σ 44 2 + Int32.ofInt 1 = Int32.ofInt ((A 0 2 + 1 : Nat) : Int)
          rw [hU.1, zadd]
          congr 1
        · show (if p = z.toNat then σ 45 z.toNat + Int32.ofInt 1 else σ 45 p) = Int32.ofInt ((if p = z.toNat then A 8 z.toNat + 1 else A 8 p : Nat) : Int) ∧ (if p = z.toNat then σ 46 z.toNat + Int32.ofInt v else σ 46 p) = Int32.ofInt ((if p = z.toNat then A 9 z.toNat + v.toNat else A 9 p : Nat) : Int)
          by_cases e : p = z.toNat
          · rw [if_pos e, if_pos e, if_pos e, if_pos e, (hU.2 z.toNat (by omega)).1, (hU.2 z.toNat (by omega)).2, zadd, zadd]
            exact ⟨by congr 1, by congr 1; omega⟩
          · rw [if_neg e, if_neg e, if_neg e, if_neg e]
            exact hU.2 p hp
      · refine r_sunday 7 Q hz hy hm hwf (fun q => absurd c q) (fun _ q => absurd c6 (by omega)) (fun _ _ => ?_)
        have hU := hm.2.2.2.2.2.2.1
        refine h _ τ (IM_sun hm (fun c e => by unfold rsM; rw [am_u_ne (by omega), am_u_ne (by omega), am_u_ne (by omega)]) (fun i e => by unfold rsM; rw [am_u_ne (by decide), am_u_ne (by decide), am_u_at, if_neg e]) ⟨?_, fun p hp => ?_⟩) (fun c e => by unfold rsM; rw [am_u_ne (by omega), am_u_ne (by omega), am_u_ne (by omega)])
        · show σ 56 27 + Int32.ofInt 1 = Int32.ofInt ((A 0 2 + 1 : Nat) : Int)
          rw [hU.1, zadd]
          congr 1
        · show (if p = z.toNat then σ 75 z.toNat + Int32.ofInt 1 else σ 75 p) = Int32.ofInt ((if p = z.toNat then A 8 z.toNat + 1 else A 8 p : Nat) : Int) ∧ (if p = z.toNat then σ 76 z.toNat + Int32.ofInt v else σ 76 p) = Int32.ofInt ((if p = z.toNat then A 9 z.toNat + v.toNat else A 9 p : Nat) : Int)
          by_cases e : p = z.toNat
          · rw [if_pos e, if_pos e, if_pos e, if_pos e, (hU.2 z.toNat (by omega)).1, (hU.2 z.toNat (by omega)).2, zadd, zadd]
            exact ⟨by congr 1, by congr 1; omega⟩
          · rw [if_neg e, if_neg e, if_neg e, if_neg e]
            exact hU.2 p hp
    · refine ⟨A, B, Int32.ofInt (-4), hwf, fun Q n w3 g σ τ r1 r2 W1 W2 hs hst h => ?_, fun Q n w3 g σ τ r1 r2 hm h => ?_⟩
      · exact c_sunday 7 Q hz hy hs.1 hwf (fun q => absurd c q) (fun _ _ => (h σ hs (CF_refl σ))) (fun _ q => absurd q c6)
      · exact r_sunday 7 Q hz hy hm hwf (fun q => absurd c q) (fun _ _ => (h σ τ hm (RF_refl σ))) (fun _ q => absurd q c6)
  · refine ⟨A, B, Int32.ofInt (-2), hwf, fun Q n w3 g σ τ r1 r2 W1 W2 hs hst h => ?_, fun Q n w3 g σ τ r1 r2 hm h => ?_⟩
    · exact c_sunday 7 Q hz hy hs.1 hwf (fun _ => (h σ hs (CF_refl σ))) (fun q => absurd q c) (fun q => absurd q c)
    · exact r_sunday 7 Q hz hy hm hwf (fun _ => (h σ τ hm (RF_refl σ))) (fun q => absurd q c) (fun q => absurd q c)
end PRS
