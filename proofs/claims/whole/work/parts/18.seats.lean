/-! who sits where, what one has: the class -/
theorem fL_congr {lw bell : Int} {gs gs' : Nat → Int} {mem mem' : Nat → Bool} : ∀ (p : Nat), (∀ q, q < p → gs q = gs' q ∧ mem q = mem' q) → fL lw bell gs mem p = fL lw bell gs' mem' p
  | 0, _ => rfl
  | p + 1, h => by
    have ih := fL_congr (lw := lw) (bell := bell) p (fun q hq => h q (by omega))
    unfold fL
    rw [ih, (h p (by omega)).1, (h p (by omega)).2]
    split
    · have key : ∀ (R L2 : List Nat), (∀ q ∈ R, q < p) → insL (fun q => mvs lw (gs q) (gs' p)) p R L2 = insL (fun q => mvs lw (gs' q) (gs' p)) p R L2 := by
        intro R
        induction R with
        | nil => intro L2 _; rfl
        | cons q R ihR =>
          intro L2 hR
          unfold insL
          rw [(h q (by have := hR q List.mem_cons_self; omega)).1, ihR (q :: L2) (fun q hq => hR q (List.mem_cons_of_mem _ hq))]
      exact key _ _ (fun q hq => fL_lt p q (List.mem_reverse.mp hq))
    · rfl
/-- the sitters, where each waits w -/
def SL (A : aN) (lw : Nat) (mem : Nat → Bool) (w : Nat → Nat) : List Nat := fL (lw : Int) (A 3 0 : Int) (fun q => (gin A q (w q) : Int)) mem (cnt A)
/-- what one has, who sits on st (or NONE) among L, and goes in at gg -/
def WZ (A : aN) (L : List Nat) (st : Int) (p gg : Nat) : Int := if st = -1 then -((A 3 4 : Int) * ((prz (A 2) gg : Int) - (prz (A 2) (mn A p) : Int))) else 20 - (A 3 3 : Int) * ((st - (wsh A p : Int)).natAbs : Int) + lbs (fun a b => (A (20 + a) b : Int)) L p (st.toNat - st.toNat % (A 3 2)) (A 3 2) - (A 3 4 : Int) * ((prz (A 2) gg : Int) - (prz (A 2) (mn A p) : Int))
def HZ (A : aN) (lw : Nat) (mem : Nat → Bool) (w : Nat → Nat) (p : Nat) : Int := WZ A (SL A lw mem w) (seatZ (SL A lw mem w) p) p (gin A p (w p))
theorem lastZ_rng {q : Nat} : ∀ (L : List Nat) (j r : Int), -1 ≤ r → r < j → 0 ≤ j → -1 ≤ lastZ q L j r ∧ lastZ q L j r < j + L.length
  | [], j, r, h1, h2, h3 => by
    unfold lastZ
    simp
    omega
  | x :: L, j, r, h1, h2, h3 => by
    unfold lastZ
    have := lastZ_rng (q := q) L (j + 1) (if q = x then j else r) (by split <;> omega) (by split <;> omega) (by omega)
    simp only [List.length_cons]
    omega
theorem seatZ_rng (L : List Nat) (q : Nat) : -1 ≤ seatZ L q ∧ seatZ L q < L.length := by
  have := lastZ_rng (q := q) L 0 (-1) (by omega) (by omega) (by omega)
  unfold seatZ
  omega
def bitk (k p : Nat) : Bool := Nat.beq (k / 2 ^ p % 2) 1
theorem bitk_eq : ∀ k : Nat, k < 128 → ∀ p : Nat, p < 7 → ((Int32.ofInt (k : Int) >>> (Int32.ofInt (p : Int) &&& 31)) &&& Int32.ofInt 1 = Int32.ofInt 1 ↔ bitk k p = true) := by decide +kernel
theorem bitk_all : ∀ n : Nat, n < 8 → ∀ p : Nat, p < n → bitk (2 ^ n - 1) p = true := by decide +kernel
theorem all_eq : ∀ n : Nat, n < 8 → (Int32.ofInt 1 <<< (Int32.ofInt (n : Int) &&& 31)) - Int32.ofInt 1 = Int32.ofInt ((2 ^ n - 1 : Nat) : Int) := by decide +kernel
section SE
variable {n w3 : Nat} {g : Nat → Nat × Nat} {σ : Nat → Nat → Int32} {τ : Nat → Nat → Int64} {r1 r2 : Nat} {A : aN} {B : aZ}
theorem s_withinZ (d : Nat) {v lo hi : Int} (hv : zr v) (hlo : zr lo) (hhi : zr hi) (M : am_M) (Q : am_Q) (h : Q (some (.int (if lo ≤ v ∧ v ≤ hi then 1 else 0))) M) : am_d (d + 1) 88 [.int (Int32.ofInt v), .int (Int32.ofInt lo), .int (Int32.ofInt hi)] 0 0 M Q := by
  refine s_within d _ _ _ M Q ?_
  have e : (Int32.ofInt lo ≤ Int32.ofInt v ∧ Int32.ofInt v ≤ Int32.ofInt hi) ↔ (lo ≤ v ∧ v ≤ hi) := by rw [zle hlo hv, zle hv hhi]
  by_cases c : lo ≤ v ∧ v ≤ hi
  · rw [if_pos (e.mpr c)]
    rw [if_pos c] at h
    exact h
  · rw [if_neg (fun q => c (e.mp q))]
    rw [if_neg c] at h
    exact h
set_option maxRecDepth 100000 in
theorem s_isThere (d : Nat) (Q : am_Q) {v : Int} {N : Nat} (hv : zr v) (hN : N ≤ 7) (hn : σ 5 4 = Int32.ofInt (N : Int)) (h : Q (some (.int (if 0 ≤ v ∧ v < N then 1 else 0))) (lo_M n w3 g σ τ r1 r2)) : am_d (d + 2) 92 [.ref 4, .int (Int32.ofInt v)] 0 0 (lo_M n w3 g σ τ r1 r2) Q := by
  refine am_goT T_X9_isThere [.ref 4, .int (Int32.ofInt v)] rfl rfl (fun _ => false) 30 ?_
  show am_d (d + 1) 88 [.int (Int32.ofInt v), .int (Int32.ofInt 0), .int (σ 5 4 - Int32.ofInt 1)] 0 0 _ _
  rw [hn, zsub]
  refine s_withinZ d hv (by unfold zr; omega) (by unfold zr; omega) _ _ ?_
  by_cases c : 0 ≤ v ∧ v < N
  · rw [if_pos (by omega)]
    rw [if_pos c] at h
    exact And.intro (Or.inr rfl) h
  · rw [if_neg (by omega)]
    rw [if_neg c] at h
    exact And.intro (Or.inl rfl) h
set_option maxRecDepth 100000 in
theorem s_minuteInside (d : Nat) (Q : am_Q) {p m w : Nat} (hp : p < 7) (hm : σ 7 p = Int32.ofInt (m : Int)) (hm2 : m ≤ 1000) (hw : w ≤ 1000) (h : Q (some (.int (Int32.ofInt ((min 59 (m + w) : Nat) : Int)))) (lo_M n w3 g σ τ r1 r2)) : am_d (d + 1) 95 [.ref 4, .int (Int32.ofInt (p : Int)), .int (Int32.ofInt (w : Int))] 0 0 (lo_M n w3 g σ τ r1 r2) Q := by
  have e : (if σ 7 p + Int32.ofInt (w : Int) < Int32.ofInt 59 then σ 7 p + Int32.ofInt (w : Int) else Int32.ofInt 59) = Int32.ofInt ((min 59 (m + w) : Nat) : Int) := by
    rw [hm, zadd, zmin (by unfold zr; omega) (by unfold zr; omega)]
    congr 1
    omega
  rw [← e] at h
  refine am_goT T_X9_minuteInside [.ref 4, .int (Int32.ofInt (p : Int)), .int (Int32.ofInt (w : Int))] rfl rfl (fun _ => false) 30 ?_
  refine ixi p 7 hp ?_
  exact h
set_option maxRecDepth 100000 in
theorem s_gather_loop (d : Nat) (Q : am_Q) {N : Nat} {ms ws : Nat → Nat} (hN : N ≤ 7) : ∀ (k p : Nat) (σ : Nat → Nat → Int32), p + k = N → σ 5 4 = Int32.ofInt (N : Int) → (∀ q, q < N → σ 7 q = Int32.ofInt (ms q : Int) ∧ ms q ≤ 1000) → (∀ q, q < N → σ 21 q = Int32.ofInt (ws q : Int) ∧ ws q ≤ 1000) →
    (∀ σ' : Nat → Nat → Int32, (∀ c, c ≠ 22 → σ' c = σ c) → (∀ q, σ' 22 q = if p ≤ q ∧ q < N then Int32.ofInt ((min 59 (ms q + ws q) : Nat) : Int) else σ 22 q) → Q none (lo_M n w3 g σ' τ r1 r2)) →
    am_wp (am_d (d + 1)) T_X9_gather Q (2, [.ref 4, .int (Int32.ofInt (p : Int))], [], 0, 0) (lo_M n w3 g σ τ r1 r2) := by
  intro k
  induction k with
  | zero =>
    intro p σ hp hn hm hw h
    refine am_wp_go (am_d_cm _) (fun pc => Nat.beq pc 2) 60 ?_
    refine And.intro (fun c1 => ?_) (fun c1 => absurd ?_ c1)
    · exact h σ (fun _ _ => rfl) (fun q => by rw [if_neg (by omega)])
    · show σ 5 4 ≤ Int32.ofInt (p : Int)
      rw [hn, zle (by unfold zr; omega) (by unfold zr; omega)]
      omega
  | succ k ih =>
    intro p σ hp hn hm hw h
    refine am_wp_go (am_d_cm _) (fun pc => Nat.beq pc 2) 60 ?_
    refine And.intro (fun c1 => ?_) (fun c1 => ?_)
    · have c1 : σ 5 4 ≤ Int32.ofInt (p : Int) := c1
      rw [hn, zle (by unfold zr; omega) (by unfold zr; omega)] at c1
      omega
    · refine ixi p 7 (by omega) ?_
      show am_d (d + 1) 95 [.ref 4, .int (Int32.ofInt (p : Int)), .int (σ 21 p)] 0 0 _ _
      rw [(hw p (by omega)).1]
      refine s_minuteInside d _ (by omega) (hm p (by omega)).1 (hm p (by omega)).2 (hw p (by omega)).2 ?_
      refine ixi p 7 (by omega) ?_
      show am_wp _ _ _ (2, [.ref 4, .int (Int32.ofInt (p : Int) + Int32.ofInt 1)], [], 0, 0) (lo_M n w3 g (am_u σ 22 p (Int32.ofInt ((min 59 (ms p + ws p) : Nat) : Int))) τ r1 r2)
      rw [zadd, show ((p : Int) + 1) = ((p + 1 : Nat) : Int) by omega]
      refine ih (p + 1) _ (by omega) hn hm hw (fun σ' k1 k2 => h σ' (fun c hc => by rw [k1 c hc, am_u_ne hc]) (fun q => ?_))
      rw [k2 q, am_u_at]
      by_cases e : q = p
      · subst e
        rw [if_neg (by omega), if_pos rfl, if_pos (by omega)]
      · by_cases e2 : p + 1 ≤ q ∧ q < N
        · rw [if_pos e2, if_pos (by omega)]
        · rw [if_neg e2, if_neg e, if_neg (by omega)]
set_option maxRecDepth 100000 in
theorem s_gather (d : Nat) (Q : am_Q) (hP : ixP A σ) (hW : ixW A σ) (hwt : ∀ p, A 4 p ≤ 59)
    (h : ∀ σ' : Nat → Nat → Int32, (∀ c, c ≠ 22 → σ' c = σ c) → (∀ q, σ' 22 q = if q < cnt A then Int32.ofInt (gin A q (A 4 q) : Int) else σ 22 q) → Q none (lo_M n w3 g σ' τ r1 r2)) : am_d (d + 2) 96 [.ref 4] 0 0 (lo_M n w3 g σ τ r1 r2) Q := by
  refine am_goT T_X9_gather [.ref 4, .null] rfl rfl (fun pc => Nat.beq pc 2) 30 ?_
  refine s_gather_loop d Q (cnt_le A) (ms := mn A) (ws := A 4) (cnt A) 0 σ (by omega) hP.2.2.1 (fun q hq => ⟨(hP.2.2.2.2 q hq).1, by have := mn_lt hq; omega⟩) (fun q hq => ⟨hW q (by have := cnt_le A; omega), by have := hwt q; omega⟩) (fun σ' k1 k2 => h σ' k1 (fun q => ?_))
  rw [k2 q]
  by_cases e : q < cnt A
  · rw [if_pos ⟨Nat.zero_le _, e⟩, if_pos e]
    rfl
  · rw [if_neg (fun z => e z.2), if_neg e]
set_option maxRecDepth 100000 in
theorem s_everybody (d : Nat) (Q : am_Q) {N : Nat} (hN : N ≤ 7) (hn : σ 5 4 = Int32.ofInt (N : Int)) (h : Q (some (.int (Int32.ofInt ((2 ^ N - 1 : Nat) : Int)))) (lo_M n w3 g σ τ r1 r2)) : am_d (d + 1) 98 [.ref 4] 0 0 (lo_M n w3 g σ τ r1 r2) Q := by
  rw [← all_eq N (by omega), ← hn] at h
  refine am_goT T_X9_everybody [.ref 4] rfl rfl (fun _ => false) 30 ?_
  exact h
/-- the church is filled by what stands in goingIn -/
theorem s_fillA (d : Nat) (Q : am_Q) {mask lw : Nat} {mem : Nat → Bool} {w : Nat → Nat} (hlw : lw ≤ 1) (hmk : mask < 128) (hmem : ∀ p, p < cnt A → bitk mask p = mem p) (hP : ixP A σ) (hS : ixS A σ) (hb60 : A 3 0 ≤ 60) (hg : ∀ q, q < cnt A → σ 22 q = Int32.ofInt (gin A q (w q) : Int))
    (h : ∀ σ' : Nat → Nat → Int32, (∀ c, c ≠ 23 → c ≠ 24 → c ≠ 25 → σ' c = σ c) → (∀ i, i ≠ 5 → σ' 23 i = σ 23 i) → σ' 23 5 = Int32.ofInt ((SL A lw mem w).length : Int) → hol σ' 25 0 (SL A lw mem w) → (∀ q, q < cnt A → σ' 24 q = Int32.ofInt (seatZ (SL A lw mem w) q)) → Q none (lo_M n w3 g σ' τ r1 r2)) :
    am_d (d + 3) 1 [.ref 23, .ref 22, .int (Int32.ofInt (mask : Int)), .int (Int32.ofInt (lw : Int))] 0 0 (lo_M n w3 g σ τ r1 r2) Q := by
  have hN := cnt_le A
  have hc : fL (lw : Int) (A 3 0 : Int) (fun q => if q < cnt A then (gin A q (w q) : Int) else (σ 22 q).toInt) mem (cnt A) = SL A lw mem w := fL_congr (cnt A) (fun q hq => ⟨if_pos hq, rfl⟩)
  have := s_fill23 d Q (N := cnt A) (mk := Int32.ofInt (mask : Int)) (lw := (lw : Int)) (bell := (A 3 0 : Int)) (gs := fun q => if q < cnt A then (gin A q (w q) : Int) else (σ 22 q).toInt) (mem := mem) (σ := σ) (n := n) (w3 := w3) (g := g) (τ := τ) (r1 := r1) (r2 := r2) hN (by unfold zr; omega) (by unfold zr; omega) (fun q _ => by
      show zr (if q < cnt A then (gin A q (w q) : Int) else (σ 22 q).toInt)
      split
      · unfold zr gin; omega
      · exact zrof _) (fun p hp => by rw [bitk_eq mask hmk p (by omega), hmem p hp]) hP.2.2.1 (hS 0 (by omega)) (fun q _ => by
      show σ 22 q = Int32.ofInt (if q < cnt A then (gin A q (w q) : Int) else (σ 22 q).toInt)
      split
      · next hq => exact hg q hq
      · exact zof _)
  rw [hc] at this
  exact this h
set_option maxRecDepth 100000 in
/-- all go in as told -/
theorem s_seatAll (d : Nat) (Q : am_Q) (hx : IX A B σ) (hwf : WF A B)
    (h : ∀ σ' : Nat → Nat → Int32, (∀ c, c ≠ 22 → c ≠ 23 → c ≠ 24 → c ≠ 25 → σ' c = σ c) → (∀ i, i ≠ 5 → σ' 23 i = σ 23 i) → (∀ q, σ' 22 q = if q < cnt A then Int32.ofInt (gin A q (A 4 q) : Int) else σ 22 q) → σ' 23 5 = Int32.ofInt ((SL A (A 3 1) (fun _ => true) (A 4)).length : Int) → hol σ' 25 0 (SL A (A 3 1) (fun _ => true) (A 4)) → (∀ q, q < cnt A → σ' 24 q = Int32.ofInt (seatZ (SL A (A 3 1) (fun _ => true) (A 4)) q)) → Q none (lo_M n w3 g σ' τ r1 r2)) : am_d (d + 4) 97 [.ref 4] 0 0 (lo_M n w3 g σ τ r1 r2) Q := by
  obtain ⟨hP, hR, hS, hL, hW, hF, hU, hH, hl⟩ := hx
  have hN := cnt_le A
  refine am_goT T_X9_seatAll [.ref 4] rfl rfl (fun _ => false) 60 ?_
  refine s_gather (d + 1) _ hP hW hwf.2.2.2.2.1 (fun σ1 k1 k2 => ?_)
  have hP1 : ixP A σ1 := by unfold ixP; rw [k1 5 (by decide), k1 6 (by decide), k1 7 (by decide), k1 8 (by decide)]; exact hP
  have hS1 : ixS A σ1 := by unfold ixS; rw [k1 12 (by decide)]; exact hS
  refine s_everybody (d + 2) _ hN hP1.2.2.1 ?_
  refine ixi 1 6 (by omega) ?_
  show am_d (d + 3) 1 [.ref 23, .ref 22, .int (Int32.ofInt ((2 ^ cnt A - 1 : Nat) : Int)), .int (σ1 12 1)] 0 0 _ _
  rw [hS1 1 (by omega)]
  have h2 : 2 ^ cnt A ≤ 2 ^ 7 := Nat.pow_le_pow_right (by omega) hN
  refine s_fillA d _ (mem := fun _ => true) (w := A 4) hwf.2.2.2.1.2.1 (by omega) (fun p hp => bitk_all _ (by omega) p hp) hP1 hS1 hwf.2.2.2.1.1 (fun q hq => by rw [k2 q, if_pos hq]) (fun σ' j1 j2 j3 j4 j5 => ?_)
  exact h σ' (fun c e1 e2 e3 e4 => by rw [j1 c e2 e3 e4, k1 c e1]) (fun i hi => by rw [j2 i hi, k1 23 (by decide)]) (fun q => by rw [j1 22 (by decide) (by decide) (by decide)]; exact k2 q) j3 j4 j5
end SE
