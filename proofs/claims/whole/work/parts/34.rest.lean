/-! rest: the class -/
/-- how long each waits, by a row -/
def wr (A : aN) (row q : Nat) : Nat := A 3 5 * chc 3 (2 * (cnt A - 1 - q)) row
def Wr (A : aN) (row p : Nat) : Int := HZ A (A 3 1) (fun _ => true) (wr A row) p
def rsf (A : aN) (p : Nat) : Nat := 2 * (cnt A - 1 - p)
def restS (A : aN) : Nat × Int := stl (fun row => ist (Wr A) 3 (rsf A) row (cnt A) 0) (4 ^ cnt A) 0 (0, -1)
/-- the kept answer of REST -/
def KR (A : aN) (σ : Nat → Nat → Int32) : Prop := cnt A ≤ 6 ∧ σ 29 6 = Int32.ofInt ((restS A).1 : Int) ∧ σ 29 7 = Int32.ofInt (restS A).2 ∧ ∀ p, p < cnt A → σ 30 p = Int32.ofInt (rsf A p : Int)
def f_rest (A : aN) (z : Int) : Int := if z ≠ -1 ∧ ¬ (0 ≤ z ∧ z < cnt A) then -2 else if 6 < cnt A then -4 else if z = -1 then ((restS A).1 : Int) else if (restS A).2 = -1 then -1 else (chc 3 (rsf A z.toNat) (restS A).2.toNat : Int)
theorem chc3_lt (sh row : Nat) : chc 3 sh row < 4 := Nat.mod_lt _ (by omega)
theorem wr_le {A : aN} {B : aZ} (hwf : WF A B) (row q : Nat) : wr A row q ≤ 45 := by
  have h5 := hwf.2.2.2.1.2.2.2.2.2.2
  have h3 := chc3_lt (2 * (cnt A - 1 - q)) row
  have : wr A row q ≤ 15 * 3 := Nat.mul_le_mul h5 (by omega)
  omega
theorem IX_fr2 {A : aN} {B : aZ} {σ σ' : Nat → Nat → Int32} (h : IX A B σ) (hf : ∀ c, c < 77 → c ≠ 4 → ¬ scr c → σ' c = σ c) (h4 : σ' 4 13 = σ 4 13) : IX A B σ' := IX_fr h (fun c e1 e2 => hf c (by unfold scr at e2; omega) e1 e2) h4
section RE
variable {n w3 : Nat} {g : Nat → Nat × Nat} {σ : Nat → Nat → Int32} {τ : Nat → Nat → Int64} {r1 r2 : Nat} {A : aN} {B : aZ}
set_option maxHeartbeats 1000000 in
set_option maxRecDepth 100000 in
theorem s_wait_loop (d : Nat) (Q : am_Q) {row : Nat} (hwf : WF A B) (hc6 : cnt A ≤ 6) (hrow : row < 4096) : ∀ (k : Nat) (σ : Nat → Nat → Int32) (x3 : Value), k ≤ cnt A → IX A B σ → (∀ p, p < cnt A → σ 30 p = Int32.ofInt (rsf A p : Int)) → σ 29 1 = Int32.ofInt 3 →
    (row = 0 ∨ ∀ q, q < k → σ 22 q = Int32.ofInt (gin A q (wr A (row - 1) q) : Int)) → (∀ q, k ≤ q → q < cnt A → σ 22 q = Int32.ofInt (gin A q (wr A row q) : Int)) →
    (∀ σ' : Nat → Nat → Int32, (∀ c, c ≠ 22 → σ' c = σ c) → (∀ q, q < cnt A → σ' 22 q = Int32.ofInt (gin A q (wr A row q) : Int)) → Q none (lo_M n w3 g σ' τ r1 r2)) →
    am_wp (am_d (d + 1)) T_X9_waitByRow Q (10, [.ref 4, .int (Int32.ofInt (row : Int)), .int (Int32.ofInt ((k : Int) - 1)), x3], [], 0, 0) (lo_M n w3 g σ τ r1 r2) := by
  intro k
  induction k with
  | zero =>
    intro σ x3 hk hx hs hl ho hg h
    refine am_wp_go (am_d_cm _) (fun pc => Nat.beq pc 10) 60 ?_
    refine And.intro (fun c1 => ?_) (fun c1 => absurd ?_ c1)
    · exact h σ (fun _ _ => rfl) (fun q hq => hg q (by omega) hq)
    · rw [zlt0 (by unfold zr; omega)]
      omega
  | succ k ih =>
    intro σ x3 hk hx hs hl ho hg h
    refine am_wp_go (am_d_cm _) (fun pc => Nat.beq pc 10) 60 ?_
    refine And.intro (fun c1 => ?_) (fun c1 => ?_)
    · rw [zlt0 (by unfold zr; omega)] at c1
      omega
    · have ek : Int32.ofInt (((k + 1 : Nat) : Int) - 1) = Int32.ofInt (k : Int) := by congr 1; omega
      have h3 := chc3_lt (rsf A k) row
      have hw45 := wr_le hwf row k
      have hm := mn_lt (A := A) (p := k) (by omega)
      show am_d (d + 1) 12 [.ref 29, .int (Int32.ofInt (row : Int)), .int (Int32.ofInt (((k + 1 : Nat) : Int) - 1))] 0 0 _ _
      rw [ek]
      refine s_choiceR d _ (p := k) (sh := rsf A k) (by omega) (by omega) (by unfold rsf; omega) (hs k (by omega)) hl ?_
      refine ixi 5 6 (by omega) ?_
      show am_d (d + 1) 95 [.ref 4, .int (Int32.ofInt (k : Int)), .int (σ 12 5 * Int32.ofInt (chc 3 (rsf A k) row : Int))] 0 0 _ _
      have ew : σ 12 5 * Int32.ofInt (chc 3 (rsf A k) row : Int) = Int32.ofInt (wr A row k : Int) := by
        rw [hx.2.2.1 5 (by omega), zmul, ← Int.natCast_mul]
        rfl
      rw [ew]
      refine s_minuteInside d _ (p := k) (by omega) (hx.1.2.2.2.2 k (by omega)).1 (by omega) (by omega) ?_
      refine ixi k 7 (by omega) ?_
      refine And.intro (fun c2 => ?_) (fun c2 => ?_)
      · have c2 : Int32.ofInt (chc 3 (rsf A k) row : Int) = 0 := c2
        show am_wp _ _ _ (10, [.ref 4, .int (Int32.ofInt (row : Int)), .int (Int32.ofInt (k : Int) + Int32.ofInt (-1)), .int (Int32.ofInt (chc 3 (rsf A k) row : Int))], [], 0, 0) (lo_M n w3 g (am_u σ 22 k (Int32.ofInt ((min 59 (mn A k + wr A row k) : Nat) : Int))) τ r1 r2)
        rw [zadd, show (k : Int) + -1 = (k : Int) - 1 by omega]
        refine ih _ _ (by omega) (IX_fr hx (fun c e1 e2 => am_u_ne (fun q => e2 (by subst q; unfold scr; omega))) (by rw [am_u_ne (by decide)])) hs hl ?_ ?_ (fun σ' k1 k2 => h σ' (fun c e => by rw [k1 c e, am_u_ne e]) k2)
        · rcases ho with ho | ho
          · exact Or.inl ho
          · right
            intro q hq
            rw [am_u_at, if_neg (by omega)]
            exact ho q (by omega)
        · intro q q1 q2
          rw [am_u_at]
          by_cases e : q = k
          · subst e
            rw [if_pos rfl]
            rfl
          · rw [if_neg e]
            exact hg q (by omega) q2
      · have c2 : ¬ Int32.ofInt (chc 3 (rsf A k) row : Int) = 0 := c2
        rw [zeq0 (by unfold zr; omega)] at c2
        have hn0 : chc 3 (2 * (cnt A - 1 - k)) row ≠ 0 := by
          intro q
          apply c2
          unfold rsf
          rw [q]
          rfl
        refine h (am_u σ 22 k (Int32.ofInt ((min 59 (mn A k + wr A row k) : Nat) : Int))) (fun c e => am_u_ne e) (fun q hq => ?_)
        rw [am_u_at]
        by_cases e : q = k
        · subst e
          rw [if_pos rfl]
          rfl
        · rw [if_neg e]
          by_cases e2 : k + 1 ≤ q
          · exact hg q e2 hq
          · rcases ho with ho | ho
            · exfalso
              apply hn0
              rw [ho]
              unfold chc
              simp
            · rw [ho q (by omega)]
              unfold wr
              rw [← dig (show cnt A - 1 - k < cnt A - 1 - q by omega) hn0]
set_option maxRecDepth 100000 in
theorem s_waitByRow (d : Nat) (Q : am_Q) {row : Nat} (hwf : WF A B) (hc6 : cnt A ≤ 6) (hrow : row < 4096) (hx : IX A B σ) (hs : ∀ p, p < cnt A → σ 30 p = Int32.ofInt (rsf A p : Int)) (hl : σ 29 1 = Int32.ofInt 3) (ho : row = 0 ∨ ∀ q, q < cnt A → σ 22 q = Int32.ofInt (gin A q (wr A (row - 1) q) : Int))
    (h : ∀ σ' : Nat → Nat → Int32, (∀ c, c ≠ 22 → σ' c = σ c) → (∀ q, q < cnt A → σ' 22 q = Int32.ofInt (gin A q (wr A row q) : Int)) → Q none (lo_M n w3 g σ' τ r1 r2)) : am_d (d + 2) 101 [.ref 4, .int (Int32.ofInt (row : Int))] 0 0 (lo_M n w3 g σ τ r1 r2) Q := by
  refine am_goT T_X9_waitByRow [.ref 4, .int (Int32.ofInt (row : Int)), .null, .null] rfl rfl (fun pc => Nat.beq pc 10) 60 ?_
  have key := s_wait_loop (n := n) (w3 := w3) (g := g) (τ := τ) (r1 := r1) (r2 := r2) d Q hwf hc6 hrow (cnt A) σ .null (Nat.le_refl _) hx hs hl ho (fun q q1 q2 => by omega) h
  rw [← zsub, ← hx.1.2.2.1] at key
  exact key
set_option maxHeartbeats 1000000 in
set_option maxRecDepth 100000 in
theorem s_rest_in (d : Nat) (Q : am_Q) {row W1 W2 bc bs : Nat} (hwf : WF A B) (hz : LZ n w3 g r1 r2 W1 W2) (hrow : row < 4 ^ cnt A) (hW : 4 ^ cnt A * cnt A ≤ W1) : ∀ (k p : Nat) (σ : Nat → Nat → Int32), p + k = cnt A → IX A B σ → (∀ q, q < cnt A → σ 22 q = Int32.ofInt (gin A q (wr A row q) : Int)) → σ 23 5 = Int32.ofInt ((SL A (A 3 1) (fun _ => true) (wr A row)).length : Int) → hol σ 25 0 (SL A (A 3 1) (fun _ => true) (wr A row)) → (∀ q, q < cnt A → σ 24 q = Int32.ofInt (seatZ (SL A (A 3 1) (fun _ => true) (wr A row)) q)) → σ 29 3 = Int32.ofInt (cnt A : Int) →
    (∀ σ' : Nat → Nat → Int32, (∀ c, c < 77 → c ≠ 31 → σ' c = σ c) → (∀ i, σ' r1 i = if row * cnt A + p ≤ i ∧ i < row * cnt A + cnt A then Int32.ofInt (Wr A row (i - row * cnt A)) else σ r1 i) → am_wp (am_d (d + 3)) T_X9_findRest Q (27, [.ref 4, .int (Int32.ofInt (cnt A : Int)), .int (Int32.ofInt ((row + 1 : Nat) : Int)), .int (Int32.ofInt (cnt A : Int))], [], bc, bs) (lo_M n w3 g σ' τ r1 r2)) →
    am_wp (am_d (d + 3)) T_X9_findRest Q (69, [.ref 4, .int (Int32.ofInt (cnt A : Int)), .int (Int32.ofInt (row : Int)), .int (Int32.ofInt (p : Int))], [], bc, bs) (lo_M n w3 g σ τ r1 r2) := by
  have hc := cnt_le A
  obtain ⟨h77, hr1, hr2, hne, hk1, hk2, hW1, hW2⟩ := id hz
  have hnr := LZ_r1 hz
  intro k
  induction k with
  | zero =>
    intro p σ hp hx hg ht hh hs h3 h
    have hpe : p = cnt A := by omega
    subst hpe
    have h := h σ (fun _ _ _ => rfl) (fun i => by rw [if_neg (by omega)])
    rw [show ((row + 1 : Nat) : Int) = (row : Int) + 1 by omega, ← zadd] at h
    refine am_wp_go (am_d_cm _) (fun pc => Nat.beq pc 69 || Nat.beq pc 27) 60 ?_
    refine And.intro (fun c1 => ?_) (fun c1 => absurd ?_ c1)
    · exact h
    · rw [zle (by unfold zr; omega) (by unfold zr; omega)]
      omega
  | succ k ih =>
    intro p σ hp hx hg ht hh hs h3 h
    have hpc : p < cnt A := by omega
    refine am_wp_go (am_d_cm _) (fun pc => Nat.beq pc 69 || Nat.beq pc 27) 60 ?_
    refine And.intro (fun c1 => ?_) (fun c1 => ?_)
    · rw [zle (by unfold zr; omega) (by unfold zr; omega)] at c1
      omega
    · refine ixi p 7 (by omega) ?_
      show am_d (d + 3) 4 [.ref 23, .int (Int32.ofInt (p : Int)), .int (σ 22 p)] 0 0 _ _
      rw [hg p hpc]
      have s7 := seat7 A (A 3 1) (fun _ => true) (wr A row) p
      obtain ⟨hP', hR', hS', hL', hW', hF', hU', hH', hl'⟩ := id hx
      refine s_worthA d (L := SL A (A 3 1) (fun _ => true) (wr A row)) (st := seatZ (SL A (A 3 1) (fun _ => true) (wr A row)) p) _ hwf hpc (by unfold gin; omega) hP' hR' hS' hL' (fun q hq => by have := SL_lt q hq; omega) (SL_len _ _ _ _) ht hh (hs p hpc) s7.1 s7.2 ?_
      refine s_noteR (d + 2) _ (row := row) (p := p) (N := cnt A) hk1 (by omega) (ixlt hrow hpc hW) h3 ?_
      show am_wp _ _ _ (69, [.ref 4, .int (Int32.ofInt (cnt A : Int)), .int (Int32.ofInt (row : Int)), .int (Int32.ofInt (p : Int) + Int32.ofInt 1)], [], bc, bs) (lo_M n w3 g (am_u σ r1 (row * cnt A + p) (Int32.ofInt (Wr A row p))) τ r1 r2)
      rw [zadd, show ((p : Int) + 1) = ((p + 1 : Nat) : Int) by omega]
      have fr : ∀ c, c < 77 → c ≠ 31 → am_u σ r1 (row * cnt A + p) (Int32.ofInt (Wr A row p)) c = σ c := fun c e1 e2 => am_u_ne (hnr c e1 e2)
      refine ih (p + 1) _ (by omega) (IX_fr hx (fun c e1 e2 => am_u_ne (fun q => e2 (by subst q; unfold scr; rcases hr1.1 with q | q <;> omega))) (by rw [fr 4 (by omega) (by omega)])) (by rw [fr 22 (by omega) (by omega)]; exact hg) (by rw [fr 23 (by omega) (by omega)]; exact ht) (by unfold hol; rw [fr 25 (by omega) (by omega)]; exact hh) (by rw [fr 24 (by omega) (by omega)]; exact hs) (by rw [fr 29 (by omega) (by omega)]; exact h3) (fun σ' k1 k2 => h σ' (fun c e1 e2 => by rw [k1 c e1 e2, fr c e1 e2]) (fun i => ?_))
      rw [k2 i, am_u_at]
      by_cases e : i = row * cnt A + p
      · subst e
        rw [if_neg (by omega), if_pos rfl, if_pos (by omega)]
        congr 2
        omega
      · by_cases e2 : row * cnt A + (p + 1) ≤ i ∧ i < row * cnt A + cnt A
        · rw [if_pos e2, if_pos (by omega)]
        · rw [if_neg e2, if_neg e, if_neg (by omega)]
set_option maxHeartbeats 1000000 in
set_option maxRecDepth 100000 in
theorem s_rest_out (d : Nat) (Q : am_Q) {W1 W2 bc bs : Nat} (hwf : WF A B) (hc6 : cnt A ≤ 6) (hz : LZ n w3 g r1 r2 W1 W2) (hW : 4 ^ cnt A * cnt A ≤ W1) : ∀ (k row : Nat) (σ : Nat → Nat → Int32) (x3 : Value), row + k = 4 ^ cnt A → IX A B σ → (∀ p, p < cnt A → σ 30 p = Int32.ofInt (rsf A p : Int)) → σ 29 1 = Int32.ofInt 3 → σ 29 3 = Int32.ofInt (cnt A : Int) → σ 29 5 = Int32.ofInt ((4 ^ cnt A : Nat) : Int) → (row = 0 ∨ ∀ q, q < cnt A → σ 22 q = Int32.ofInt (gin A q (wr A (row - 1) q) : Int)) → (∀ row', row' < row → ∀ p, p < cnt A → σ r1 (row' * cnt A + p) = Int32.ofInt (Wr A row' p)) →
    (∀ σ' : Nat → Nat → Int32, (∀ c, c < 77 → c ≠ 4 → c ≠ 22 → c ≠ 23 → c ≠ 24 → c ≠ 25 → c ≠ 29 → c ≠ 31 → σ' c = σ c) → (∀ i, i ≠ 14 → σ' 4 i = σ 4 i) → σ' 4 14 = Int32.ofInt 1 → (∀ i, i ≠ 6 → i ≠ 7 → σ' 29 i = σ 29 i) → σ' 29 6 = Int32.ofInt ((restS A).1 : Int) → σ' 29 7 = Int32.ofInt (restS A).2 → Q none (lo_M n w3 g σ' τ r1 r2)) →
    am_wp (am_d (d + 3)) T_X9_findRest Q (27, [.ref 4, .int (Int32.ofInt (cnt A : Int)), .int (Int32.ofInt (row : Int)), x3], [], bc, bs) (lo_M n w3 g σ τ r1 r2) := by
  obtain ⟨h77, hr1, hr2, hne, hk1, hk2, hW1, hW2⟩ := id hz
  have hnr := LZ_r1 hz
  obtain ⟨-, e2, e3⟩ := rowsR (cnt A) (by omega)
  intro k
  induction k with
  | zero =>
    intro row σ x3 hrow hx hs hl h3 h5 ho hr h
    have hre : row = 4 ^ cnt A := by omega
    refine am_wp_go (am_d_cm _) (fun pc => Nat.beq pc 69 || Nat.beq pc 27) 60 ?_
    refine And.intro (fun c1 => ?_) (fun c1 => absurd ?_ c1)
    · refine s_settleR d _ (W := Wr A) (sf := rsf A) hnr hk1 (by omega) hW e3 (by omega) (fun p hp => ⟨cnt A - 1 - p, by omega, rfl⟩) (fun row hrow p hp c hc => insR_lt (by omega) hc hrow) hs hl h3 h5 (fun a b ha hb => ⟨by have := HZ_rng (A := A) (B := B) hwf (lw := A 3 1) (mem := fun _ => true) (w := wr A a) hb; unfold Wr zr; omega, hr a (by omega) b hb⟩) (fun σ' k1 k2 k3 k4 => ?_)
      refine And.intro (Or.inr rfl) ?_
      refine h (am_u σ' 4 14 (Int32.ofInt 1)) (fun c e0 e4 e22 e23 e24 e25 e29 e31 => by rw [am_u_ne e4, k1 c e29]) (fun i hi => by rw [am_u_at, if_neg hi, k1 4 (by decide)]) (by rw [am_u_at, if_pos rfl]) (fun i e6 e7 => by rw [am_u_ne (by decide), k2 i e6 e7]) (by rw [am_u_ne (by decide)]; exact k3) (by rw [am_u_ne (by decide)]; exact k4)
    · show σ 29 5 ≤ Int32.ofInt (row : Int)
      rw [h5, zle (by unfold zr; omega) (by unfold zr; omega)]
      omega
  | succ k ih =>
    intro row σ x3 hrow hx hs hl h3 h5 ho hr h
    have hrl : row < 4 ^ cnt A := by omega
    refine am_wp_go (am_d_cm _) (fun pc => Nat.beq pc 69 || Nat.beq pc 27) 60 ?_
    refine And.intro (fun c1 => ?_) (fun c1 => ?_)
    · have c1 : σ 29 5 ≤ Int32.ofInt (row : Int) := c1
      rw [h5, zle (by unfold zr; omega) (by unfold zr; omega)] at c1
      omega
    · refine s_waitByRow (d + 1) _ hwf hc6 (by omega) hx hs hl ho (fun σ1 k1 k2 => ?_)
      have hx1 : IX A B σ1 := IX_fr hx (fun c e1 e2 => k1 c (fun q => e2 (by subst q; unfold scr; omega))) (by rw [k1 4 (by decide)])
      refine s_everybody (d + 2) _ (cnt_le A) hx1.1.2.2.1 ?_
      refine ixi 1 6 (by omega) ?_
      show am_d (d + 3) 1 [.ref 23, .ref 22, .int (Int32.ofInt ((2 ^ cnt A - 1 : Nat) : Int)), .int (σ1 12 1)] 0 0 _ _
      rw [hx1.2.2.1 1 (by omega)]
      have h2 : 2 ^ cnt A ≤ 2 ^ 7 := Nat.pow_le_pow_right (by omega) (cnt_le A)
      refine s_fillA d _ (mem := fun _ => true) (w := wr A row) hwf.2.2.2.1.2.1 (by omega) (fun p hp => bitk_all _ (by omega) p hp) hx1.1 hx1.2.2.1 hwf.2.2.2.1.1 k2 (fun σ2 j1 j2 j3 j4 j5 => ?_)
      have hx2 : IX A B σ2 := IX_fr hx1 (fun c e1 e2 => j1 c (fun q => e2 (by subst q; unfold scr; omega)) (fun q => e2 (by subst q; unfold scr; omega)) (fun q => e2 (by subst q; unfold scr; omega))) (by rw [j1 4 (by decide) (by decide) (by decide)])
      have f2 : ∀ c, c ≠ 22 → c ≠ 23 → c ≠ 24 → c ≠ 25 → σ2 c = σ c := fun c e1 e2 e3 e4 => by rw [j1 c e2 e3 e4, k1 c e1]
      refine s_rest_in d Q hwf hz hrl hW (cnt A) 0 σ2 (by omega) hx2 (by rw [j1 22 (by decide) (by decide) (by decide)]; exact k2) j3 j4 j5 (by rw [f2 29 (by decide) (by decide) (by decide) (by decide)]; exact h3) (fun σ3 m1 m2 => ?_)
      have f3 : ∀ c, c < 77 → c ≠ 22 → c ≠ 23 → c ≠ 24 → c ≠ 25 → c ≠ 31 → σ3 c = σ c := fun c e0 e1 e2 e3 e4 e5 => by rw [m1 c e0 e5, f2 c e1 e2 e3 e4]
      have g29 : σ3 29 = σ 29 := f3 29 (by decide) (by decide) (by decide) (by decide) (by decide) (by decide)
      refine ih (row + 1) σ3 _ (by omega) (IX_fr2 hx2 (fun c e0 e1 e2 => m1 c e0 (fun q => e2 (by subst q; unfold scr; omega))) (by rw [m1 4 (by decide) (by decide)])) (by rw [f3 30 (by decide) (by decide) (by decide) (by decide) (by decide) (by decide)]; exact hs) (by rw [g29]; exact hl) (by rw [g29]; exact h3) (by rw [g29]; exact h5) (Or.inr (fun q hq => ?_)) (fun row' hr' p hp => ?_) (fun σ' q1 q2 q3 q4 q5 q6 => h σ' (fun c e0 e4 e22 e23 e24 e25 e29 e31 => by rw [q1 c e0 e4 e22 e23 e24 e25 e29 e31, f3 c e0 e22 e23 e24 e25 e31]) (fun i hi => by rw [q2 i hi, f3 4 (by decide) (by decide) (by decide) (by decide) (by decide) (by decide)]) q3 (fun i e6 e7 => by rw [q4 i e6 e7, g29]) q5 q6)
      · rw [m1 22 (by decide) (by decide), j1 22 (by decide) (by decide) (by decide), Nat.add_sub_cancel]
        exact k2 q hq
      · rw [m2]
        by_cases e : row' = row
        · subst e
          rw [if_pos (by omega)]
          congr 2
          omega
        · have hl1 : (row' + 1) * cnt A ≤ row * cnt A := Nat.mul_le_mul_right _ (by omega)
          rw [Nat.succ_mul] at hl1
          rw [if_neg (by omega)]
          have er : ∀ c, r1 = c → (c = 22 ∨ c = 23 ∨ c = 24 ∨ c = 25) → False := fun c e1 e2 => by rcases hr1.1 with q | q <;> omega
          rw [f2 r1 (fun e => er 22 e (by omega)) (fun e => er 23 e (by omega)) (fun e => er 24 e (by omega)) (fun e => er 25 e (by omega))]
          exact hr row' (by omega) p hp
set_option maxRecDepth 100000 in
theorem s_findRest (d : Nat) (Q : am_Q) {W1 W2 bc bs : Nat} (hwf : WF A B) (hc6 : cnt A ≤ 6) (hz : LZ n w3 g r1 r2 W1 W2) (hx : IX A B σ) (hb : σ 29 0 = Int32.ofInt 2) (hl : σ 29 1 = Int32.ofInt 3) (hfl : σ 4 14 = Int32.ofInt 0 ∨ σ 4 14 = Int32.ofInt 1 ∧ KR A σ) (hbud : W1 < 4 ^ cnt A * cnt A → 1 ≤ bc ∧ 4 ^ cnt A * cnt A ≤ bs)
    (h : ∀ (n' : Nat) (g' : Nat → Nat × Nat) (r' W' : Nat) (σ' : Nat → Nat → Int32), ((σ 4 14 = Int32.ofInt 1 ∧ W' = W1) ∨ W' = max W1 (4 ^ cnt A * cnt A)) → LZ n' w3 g' r' r2 W' W2 → (∀ c, c < 77 → c ≠ 4 → c ≠ 22 → c ≠ 23 → c ≠ 24 → c ≠ 25 → c ≠ 29 → c ≠ 30 → c ≠ 31 → σ' c = σ c) → (∀ i, i ≠ 14 → σ' 4 i = σ 4 i) → σ' 4 14 = Int32.ofInt 1 → σ' 29 0 = Int32.ofInt 2 → σ' 29 1 = Int32.ofInt 3 → KR A σ' → Q none (lo_M n' w3 g' σ' τ r' r2)) :
    am_d (d + 4) 100 [.ref 4] bc bs (lo_M n w3 g σ τ r1 r2) Q := by
  refine am_goT T_X9_findRest [.ref 4, .null, .null, .null] rfl rfl (fun pc => Nat.beq pc 27) 60 ?_
  rcases hfl with hfl | ⟨hfl, hK⟩
  · refine And.intro (fun c1 => ?_) (fun c1 => absurd (show σ 4 14 = 0 from hfl) c1)
    refine ⟨bc, bs, Nat.le_refl _, Nat.le_refl _, ?_⟩
    show am_d (d + 3) 11 [.ref 29, .int (σ 5 4), .int (Int32.ofInt 1)] bc bs _ _
    rw [hx.1.2.2.1]
    refine s_openR (d + 2) _ (N := cnt A) (by omega) hz hbud hb (fun n' g' r' σ' k1 k2 k3 k4 k5 k6 k7 => ?_)
    have hx' : IX A B σ' := IX_fr2 hx (fun c e0 e1 e2 => k3 c e0 (fun q => e2 (by subst q; unfold scr; omega)) (fun q => e2 (by subst q; unfold scr; omega))) (by rw [k3 4 (by decide) (by decide) (by decide)])
    have key := s_rest_out (n := n') (w3 := w3) (g := g') (τ := τ) (r1 := r') (r2 := r2) d Q (bc := bc - bc) (bs := bs - bs) hwf hc6 k1 k2 (4 ^ cnt A) 0 σ' .null (by omega) hx' k7 (by rw [k4 1 (by decide) (by decide)]; exact hl) k5 k6 (Or.inl rfl) (fun row' hr' => by omega) (fun σ2 m1 m2 m3 m4 m5 m6 => h n' g' r' _ σ2 (Or.inr rfl) k1 (fun c e0 e4 e22 e23 e24 e25 e29 e30 e31 => by rw [m1 c e0 e4 e22 e23 e24 e25 e29 e31, k3 c e0 e29 e30]) (fun i hi => by rw [m2 i hi, k3 4 (by decide) (by decide) (by decide)]) m3 (by rw [m4 0 (by decide) (by decide), k4 0 (by decide) (by decide)]; exact hb) (by rw [m4 1 (by decide) (by decide), k4 1 (by decide) (by decide)]; exact hl) ⟨hc6, m5, m6, by rw [m1 30 (by decide) (by decide) (by decide) (by decide) (by decide) (by decide) (by decide) (by decide)]; exact k7⟩)
    rw [← hx.1.2.2.1] at key
    exact key
  · refine And.intro (fun c1 => absurd (show σ 4 14 = 0 from c1) (by rw [hfl]; decide)) (fun c1 => ?_)
    exact h n g r1 W1 σ (Or.inl ⟨hfl, rfl⟩) hz (fun _ _ _ _ _ _ _ _ _ _ => rfl) (fun _ _ => rfl) hfl hb hl hK
set_option maxRecDepth 100000 in
theorem c_rest (d : Nat) (Q : am_Q) {W1 W2 bc bs : Nat} {z : Int} (hzr : zr z) (hwf : WF A B) (hz : LZ n w3 g r1 r2 W1 W2) (hx : IX A B σ) (hb : σ 29 0 = Int32.ofInt 2) (hl : σ 29 1 = Int32.ofInt 3) (hfl : σ 4 14 = Int32.ofInt 0 ∨ σ 4 14 = Int32.ofInt 1 ∧ KR A σ) (hbud : cnt A ≤ 6 → W1 < 4 ^ cnt A * cnt A → 1 ≤ bc ∧ 4 ^ cnt A * cnt A ≤ bs)
    (h0 : ¬ (z = -1 ∨ (0 ≤ z ∧ z < cnt A)) ∨ 6 < cnt A → Q (some (.int (Int32.ofInt (f_rest A z)))) (lo_M n w3 g σ τ r1 r2))
    (h : cnt A ≤ 6 → ∀ (n' : Nat) (g' : Nat → Nat × Nat) (r' W' : Nat) (σ' : Nat → Nat → Int32), ((σ 4 14 = Int32.ofInt 1 ∧ W' = W1) ∨ W' = max W1 (4 ^ cnt A * cnt A)) → LZ n' w3 g' r' r2 W' W2 → (∀ c, c < 77 → c ≠ 4 → c ≠ 22 → c ≠ 23 → c ≠ 24 → c ≠ 25 → c ≠ 29 → c ≠ 30 → c ≠ 31 → σ' c = σ c) → (∀ i, i ≠ 14 → σ' 4 i = σ 4 i) → σ' 4 14 = Int32.ofInt 1 → σ' 29 0 = Int32.ofInt 2 → σ' 29 1 = Int32.ofInt 3 → KR A σ' → Q (some (.int (Int32.ofInt (f_rest A z)))) (lo_M n' w3 g' σ' τ r' r2)) :
    am_d (d + 5) 65 [.ref 4, .int (Int32.ofInt z)] bc bs (lo_M n w3 g σ τ r1 r2) Q := by
  have hc := cnt_le A
  have go : (z = -1 ∨ (0 ≤ z ∧ z < cnt A)) → am_run (am_d (d + 4)) T_X9_rest Q (fun _ => false) (am_wp (am_d (d + 4)) T_X9_rest Q) 40 (16, [.ref 4, .int (Int32.ofInt z)], [], bc, bs) (lo_M n w3 g σ τ r1 r2) := by
    intro cz
    refine And.intro (fun c1 => ?_) (fun c1 => ?_)
    · have c1 : σ 5 4 ≤ Int32.ofInt 6 := c1
      rw [hx.1.2.2.1, zle (by unfold zr; omega) (by unfold zr; omega)] at c1
      have hc6 : cnt A ≤ 6 := by omega
      refine ⟨bc, bs, Nat.le_refl _, Nat.le_refl _, ?_⟩
      refine s_findRest d _ hwf hc6 hz hx hb hl hfl (hbud hc6) (fun n' g' r' W' σ' k1 k2 k3 k4 k5 k6 k7 k8 => ?_)
      have h := h hc6 n' g' r' W' σ' k1 k2 k3 k4 k5 k6 k7 k8
      obtain ⟨-, s1, s2, s3⟩ := k8
      have hrs := stl_le (s := fun row => ist (Wr A) 3 (rsf A) row (cnt A) 0) (4 ^ cnt A) 0 (0, -1) (by dsimp only; omega) (Nat.le_refl _)
      obtain ⟨-, -, e3⟩ := rowsR (cnt A) (by omega)
      have hr2 : -1 ≤ (restS A).2 ∧ (restS A).2 ≤ 4096 := by unfold restS; omega
      unfold f_rest at h
      rw [if_neg (fun q => by omega), if_neg (by omega)] at h
      refine And.intro (fun c2 => ?_) (fun c2 => ?_)
      · rw [zeq hzr (by unfold zr; omega)] at c2
        rw [if_pos c2, ← s1] at h
        exact h
      · rw [zeq hzr (by unfold zr; omega)] at c2
        rw [if_neg c2] at h
        refine And.intro (fun c3 => ?_) (fun c3 => ?_)
        · have c3 : σ' 29 7 = Int32.ofInt (-1) := c3
          rw [s2, zeq (by unfold zr; omega) (by unfold zr; omega)] at c3
          rw [if_pos c3] at h
          exact h
        · have c3 : ¬ σ' 29 7 = Int32.ofInt (-1) := c3
          rw [s2, zeq (by unfold zr; omega) (by unfold zr; omega)] at c3
          rw [if_neg c3] at h
          show am_d (d + 4) 12 [.ref 29, .int (σ' 29 7), .int (Int32.ofInt z)] 0 0 _ _
          rw [s2, show Int32.ofInt (restS A).2 = Int32.ofInt ((restS A).2.toNat : Int) by congr 1; omega, show Int32.ofInt z = Int32.ofInt (z.toNat : Int) by congr 1; omega]
          exact s_choiceR (d + 3) _ (sh := rsf A z.toNat) (by omega) (by omega) (by unfold rsf; omega) (s3 _ (by omega)) k7 h
    · have c1 : ¬ σ 5 4 ≤ Int32.ofInt 6 := c1
      rw [hx.1.2.2.1, zle (by unfold zr; omega) (by unfold zr; omega)] at c1
      have h0 := h0 (Or.inr (by omega))
      unfold f_rest at h0
      rw [if_neg (fun q => by omega), if_pos (by omega)] at h0
      exact h0
  refine am_goT T_X9_rest [.ref 4, .int (Int32.ofInt z)] rfl rfl (fun pc => Nat.beq pc 16) 60 ?_
  refine And.intro (fun c1 => ?_) (fun c1 => ?_)
  · rw [zeq hzr (by unfold zr; omega)] at c1
    exact am_wp_run (am_d_cm _) _ 40 (go (Or.inl c1))
  · rw [zeq hzr (by unfold zr; omega)] at c1
    refine s_isThere (d + 2) _ hzr hc hx.1.2.2.1 ?_
    by_cases c : 0 ≤ z ∧ z < cnt A
    · rw [if_pos c]
      refine And.intro (fun q => absurd q (by decide)) (fun _ => ?_)
      exact am_wp_run (am_d_cm _) _ 40 (go (Or.inr c))
    · rw [if_neg c]
      refine And.intro (fun _ => ?_) (fun q => absurd rfl q)
      have h0 := h0 (Or.inl (fun q => by omega))
      unfold f_rest at h0
      rw [if_pos ⟨c1, c⟩] at h0
      exact h0
end RE
