/-! churches: the class -/
/-- what one has who goes by a way of choosing -/
def Wc (A : aN) (way p : Nat) : Int := if chc 1 p way = 0 then HZ A 0 (fun q => !bitk way q) (A 4) p else HZ A 1 (bitk way) (A 4) p
def chS2 (A : aN) : Nat × Int := stl (fun row => ist (Wc A) 1 (fun p => p) row (cnt A) 0) (2 ^ cnt A) 0 (0, -1)
/-- the kept answer of CHURCHES -/
def KC (A : aN) (σ : Nat → Nat → Int32) : Prop := σ 32 6 = Int32.ofInt ((chS2 A).1 : Int) ∧ σ 32 7 = Int32.ofInt (chS2 A).2
def f_churches (A : aN) (z : Int) : Int := if 0 ≤ z ∧ z ≤ 1 then (if z = 0 then ((chS2 A).1 : Int) else (chS2 A).2) else -2
theorem mskC : ∀ n : Nat, n < 8 → ∀ way : Nat, way < 128 → way < 2 ^ n → (Int32.ofInt ((2 ^ n - 1 : Nat) : Int) &&& (Int32.ofInt (way : Int) ^^^ Int32.ofInt (-1))) = Int32.ofInt ((2 ^ n - 1 - way : Nat) : Int) := by decide +kernel
theorem memC : ∀ n : Nat, n < 8 → ∀ way : Nat, way < 128 → ∀ p : Nat, p < n → way < 2 ^ n → bitk (2 ^ n - 1 - way) p = !bitk way p := by decide +kernel
section CH
variable {n w3 : Nat} {g : Nat → Nat × Nat} {σ : Nat → Nat → Int32} {τ : Nat → Nat → Int64} {r1 r2 : Nat} {A : aN} {B : aZ}
theorem s_fillA26 (d : Nat) (Q : am_Q) {mask lw : Nat} {mem : Nat → Bool} {w : Nat → Nat} (hlw : lw ≤ 1) (hmk : mask < 128) (hmem : ∀ p, p < cnt A → bitk mask p = mem p) (hP : ixP A σ) (hS : ixS A σ) (hb60 : A 3 0 ≤ 60) (hg : ∀ q, q < cnt A → σ 22 q = Int32.ofInt (gin A q (w q) : Int))
    (h : ∀ σ' : Nat → Nat → Int32, (∀ c, c ≠ 26 → c ≠ 27 → c ≠ 28 → σ' c = σ c) → (∀ i, i ≠ 5 → σ' 26 i = σ 26 i) → σ' 26 5 = Int32.ofInt ((SL A lw mem w).length : Int) → hol σ' 28 0 (SL A lw mem w) → (∀ q, q < cnt A → σ' 27 q = Int32.ofInt (seatZ (SL A lw mem w) q)) → Q none (lo_M n w3 g σ' τ r1 r2)) :
    am_d (d + 3) 1 [.ref 26, .ref 22, .int (Int32.ofInt (mask : Int)), .int (Int32.ofInt (lw : Int))] 0 0 (lo_M n w3 g σ τ r1 r2) Q := by
  have hN := cnt_le A
  have hc : fL (lw : Int) (A 3 0 : Int) (fun q => if q < cnt A then (gin A q (w q) : Int) else (σ 22 q).toInt) mem (cnt A) = SL A lw mem w := fL_congr (cnt A) (fun q hq => ⟨if_pos hq, rfl⟩)
  have := s_fill26 d Q (N := cnt A) (mk := Int32.ofInt (mask : Int)) (lw := (lw : Int)) (bell := (A 3 0 : Int)) (gs := fun q => if q < cnt A then (gin A q (w q) : Int) else (σ 22 q).toInt) (mem := mem) (σ := σ) (n := n) (w3 := w3) (g := g) (τ := τ) (r1 := r1) (r2 := r2) hN (by unfold zr; omega) (by unfold zr; omega) (fun q _ => by
      show zr (if q < cnt A then (gin A q (w q) : Int) else (σ 22 q).toInt)
      split
      · unfold zr gin; omega
      · exact zrof _) (fun p hp => by rw [bitk_eq mask hmk p (by omega), hmem p hp]) hP.2.2.1 (hS 0 (by omega)) (fun q _ => by
      show σ 22 q = Int32.ofInt (if q < cnt A then (gin A q (w q) : Int) else (σ 22 q).toInt)
      split
      · next hq => exact hg q hq
      · exact zof _)
  rw [hc] at this
  exact this h
theorem s_worthA26 (d : Nat) (Q : am_Q) {L : List Nat} {st : Int} {p gg : Nat} (hwf : WF A B) (hp : p < cnt A) (hgg : gg ≤ 60) (hP : ixP A σ) (hR : ixR A σ) (hS : ixS A σ) (hL : ixL A σ) (hL7 : ∀ q ∈ L, q < 7) (hlen : L.length ≤ 7) (ht : σ 26 5 = Int32.ofInt (L.length : Int)) (h1 : hol σ 28 0 L) (hs : σ 27 p = Int32.ofInt st) (hst1 : -1 ≤ st) (hst2 : st < 7) (h : Q (some (.int (Int32.ofInt (WZ A L st p gg)))) (lo_M n w3 g σ τ r1 r2)) : am_d (d + 3) 4 [.ref 26, .int (Int32.ofInt (p : Int)), .int (Int32.ofInt (gg : Int))] 0 0 (lo_M n w3 g σ τ r1 r2) Q := by
  have hc := cnt_le A
  have hm := mn_lt hp
  have hws := wsh_lt hp
  obtain ⟨-, -, hr, ⟨-, -, ⟨w1, w4⟩, c9, s9, -⟩, -, hl, -⟩ := hwf
  exact s_worth26 d Q (wd := A 3 2) (mp := mn A p) (wp := wsh A p) (care := (A 3 3 : Int)) (soak := (A 3 4 : Int)) (lv := fun a b => (A (20 + a) b : Int)) (pr := fun m => (prz (A 2) m : Int)) (by omega) w1 w4 (by omega) (by omega) (by omega) hst1 hst2 (hP.2.2.2.2 p hp).1 (hP.2.2.2.2 p hp).2 hR (hS 4 (by omega)) (hS 3 (by omega)) (hS 2 (by omega)) hs hL7 hlen ht h1 hL h
/-- both churches are filled by a way -/
def tw (A : aN) (way : Nat) (σ : Nat → Nat → Int32) : Prop := σ 23 5 = Int32.ofInt ((SL A 0 (fun q => !bitk way q) (A 4)).length : Int) ∧ hol σ 25 0 (SL A 0 (fun q => !bitk way q) (A 4)) ∧ (∀ q, q < cnt A → σ 24 q = Int32.ofInt (seatZ (SL A 0 (fun q => !bitk way q) (A 4)) q)) ∧ σ 26 5 = Int32.ofInt ((SL A 1 (bitk way) (A 4)).length : Int) ∧ hol σ 28 0 (SL A 1 (bitk way) (A 4)) ∧ (∀ q, q < cnt A → σ 27 q = Int32.ofInt (seatZ (SL A 1 (bitk way) (A 4)) q))
set_option maxHeartbeats 1000000 in
set_option maxRecDepth 100000 in
theorem s_ch_in (d : Nat) (Q : am_Q) {row W1 W2 bc bs : Nat} (hwf : WF A B) (hz : LZ n w3 g r1 r2 W1 W2) (hrow : row < 2 ^ cnt A) (hW : 2 ^ cnt A * cnt A ≤ W2) : ∀ (k p : Nat) (σ : Nat → Nat → Int32) (x4 : Value), p + k = cnt A → IX A B σ → (∀ q, q < cnt A → σ 22 q = Int32.ofInt (gin A q (A 4 q) : Int)) → tw A row σ → σ 32 3 = Int32.ofInt (cnt A : Int) → σ 32 1 = Int32.ofInt 1 → (∀ q, q < cnt A → σ 33 q = Int32.ofInt (q : Int)) →
    (∀ (σ' : Nat → Nat → Int32) (x4 : Value), (∀ c, c < 77 → c ≠ 34 → σ' c = σ c) → (∀ i, σ' r2 i = if row * cnt A + p ≤ i ∧ i < row * cnt A + cnt A then Int32.ofInt (Wc A row (i - row * cnt A)) else σ r2 i) → am_wp (am_d (d + 3)) T_X9_findChoosing Q (31, [.ref 4, .int (Int32.ofInt (cnt A : Int)), .int (Int32.ofInt ((row + 1 : Nat) : Int)), .int (Int32.ofInt (cnt A : Int)), x4], [], bc, bs) (lo_M n w3 g σ' τ r1 r2)) →
    am_wp (am_d (d + 3)) T_X9_findChoosing Q (77, [.ref 4, .int (Int32.ofInt (cnt A : Int)), .int (Int32.ofInt (row : Int)), .int (Int32.ofInt (p : Int)), x4], [], bc, bs) (lo_M n w3 g σ τ r1 r2) := by
  have hc := cnt_le A
  have h27 : 2 ^ cnt A ≤ 2 ^ 7 := Nat.pow_le_pow_right (by omega) hc
  obtain ⟨h77, hr1, hr2, hne, hk1, hk2, hW1, hW2⟩ := id hz
  have hnr := LZ_r2 hz
  intro k
  induction k with
  | zero =>
    intro p σ x4 hp hx hg ht h3 h1 h33 h
    have hpe : p = cnt A := by omega
    subst hpe
    have h := h σ x4 (fun _ _ _ => rfl) (fun i => by rw [if_neg (by omega)])
    rw [show ((row + 1 : Nat) : Int) = (row : Int) + 1 by omega, ← zadd] at h
    refine am_wp_go (am_d_cm _) (fun pc => Nat.beq pc 77 || Nat.beq pc 31) 60 ?_
    refine And.intro (fun c1 => ?_) (fun c1 => absurd ?_ c1)
    · exact h
    · rw [zle (by unfold zr; omega) (by unfold zr; omega)]
      omega
  | succ k ih =>
    intro p σ x4 hp hx hg ht h3 h1 h33 h
    have hpc : p < cnt A := by omega
    have ch2 : chc 1 p row < 2 := Nat.mod_lt _ (by omega)
    refine am_wp_go (am_d_cm _) (fun pc => Nat.beq pc 77 || Nat.beq pc 31) 60 ?_
    refine And.intro (fun c1 => ?_) (fun c1 => ?_)
    · rw [zle (by unfold zr; omega) (by unfold zr; omega)] at c1
      omega
    · have nx : ∀ x4, am_wp (am_d (d + 3)) T_X9_findChoosing Q (77, [.ref 4, .int (Int32.ofInt (cnt A : Int)), .int (Int32.ofInt (row : Int)), .int (Int32.ofInt (p : Int) + Int32.ofInt 1), x4], [], bc, bs) (lo_M n w3 g (am_u σ r2 (row * cnt A + p) (Int32.ofInt (Wc A row p))) τ r1 r2) := by
        intro x4
        rw [zadd, show ((p : Int) + 1) = ((p + 1 : Nat) : Int) by omega]
        have fr : ∀ c, c < 77 → c ≠ 34 → am_u σ r2 (row * cnt A + p) (Int32.ofInt (Wc A row p)) c = σ c := fun c e1 e2 => am_u_ne (hnr c e1 e2)
        refine ih (p + 1) _ x4 (by omega) (IX_fr hx (fun c e1 e2 => am_u_ne (fun q => e2 (by subst q; unfold scr; rcases hr2.1 with q | q <;> omega))) (by rw [fr 4 (by omega) (by omega)])) (by rw [fr 22 (by omega) (by omega)]; exact hg) (by unfold tw hol; rw [fr 23 (by omega) (by omega), fr 24 (by omega) (by omega), fr 25 (by omega) (by omega), fr 26 (by omega) (by omega), fr 27 (by omega) (by omega), fr 28 (by omega) (by omega)]; exact ht) (by rw [fr 32 (by omega) (by omega)]; exact h3) (by rw [fr 32 (by omega) (by omega)]; exact h1) (by rw [fr 33 (by omega) (by omega)]; exact h33) (fun σ' x4 k1 k2 => h σ' x4 (fun c e1 e2 => by rw [k1 c e1 e2, fr c e1 e2]) (fun i => ?_))
        rw [k2 i, am_u_at]
        by_cases e : i = row * cnt A + p
        · subst e
          rw [if_neg (by omega), if_pos rfl, if_pos (by omega)]
          congr 2
          omega
        · by_cases e2 : row * cnt A + (p + 1) ≤ i ∧ i < row * cnt A + cnt A
          · rw [if_pos e2, if_pos (by omega)]
          · rw [if_neg e2, if_neg e, if_neg (by omega)]
      obtain ⟨t1, t2, t3, t4, t5, t6⟩ := ht
      refine s_choiceC (d + 2) _ (sh := p) (by omega) (by omega) (by omega) (h33 p hpc) h1 ?_
      obtain ⟨hP', hR', hS', hL', hW', hF', hU', hH', hl'⟩ := id hx
      refine And.intro (fun c2 => ?_) (fun c2 => ?_)
      · have c2 : Int32.ofInt (chc 1 p row : Int) = 0 := c2
        rw [zeq0 (by unfold zr; omega)] at c2
        have eW : Wc A row p = HZ A 0 (fun q => !bitk row q) (A 4) p := by
          unfold Wc
          rw [if_pos (by omega)]
        rw [eW] at nx
        refine ixi p 7 (by omega) ?_
        show am_d (d + 3) 4 [.ref 23, .int (Int32.ofInt (p : Int)), .int (σ 22 p)] 0 0 _ _
        rw [hg p hpc]
        have s7 := seat7 A 0 (fun q => !bitk row q) (A 4) p
        refine s_worthA d (L := SL A 0 (fun q => !bitk row q) (A 4)) (st := seatZ (SL A 0 (fun q => !bitk row q) (A 4)) p) _ hwf hpc (by unfold gin; omega) hP' hR' hS' hL' (fun q hq => by have := SL_lt q hq; omega) (SL_len _ _ _ _) t1 t2 (t3 p hpc) s7.1 s7.2 ?_
        refine s_noteC (d + 2) _ (row := row) (p := p) (N := cnt A) hk2 (by omega) (ixlt hrow hpc hW) h3 ?_
        exact nx _
      · have c2 : ¬ Int32.ofInt (chc 1 p row : Int) = 0 := c2
        rw [zeq0 (by unfold zr; omega)] at c2
        have eW : Wc A row p = HZ A 1 (bitk row) (A 4) p := by
          unfold Wc
          rw [if_neg (by omega)]
        rw [eW] at nx
        refine ixi p 7 (by omega) ?_
        show am_d (d + 3) 4 [.ref 26, .int (Int32.ofInt (p : Int)), .int (σ 22 p)] 0 0 _ _
        rw [hg p hpc]
        have s7 := seat7 A 1 (bitk row) (A 4) p
        refine s_worthA26 d (L := SL A 1 (bitk row) (A 4)) (st := seatZ (SL A 1 (bitk row) (A 4)) p) _ hwf hpc (by unfold gin; omega) hP' hR' hS' hL' (fun q hq => by have := SL_lt q hq; omega) (SL_len _ _ _ _) t4 t5 (t6 p hpc) s7.1 s7.2 ?_
        refine s_noteC (d + 2) _ (row := row) (p := p) (N := cnt A) hk2 (by omega) (ixlt hrow hpc hW) h3 ?_
        exact nx _
set_option maxHeartbeats 1000000 in
set_option maxRecDepth 100000 in
theorem s_ch_out (d : Nat) (Q : am_Q) {W1 W2 bc bs : Nat} (hwf : WF A B) (hz : LZ n w3 g r1 r2 W1 W2) (hW : 2 ^ cnt A * cnt A ≤ W2) : ∀ (k row : Nat) (σ : Nat → Nat → Int32) (x3 x4 : Value), row + k = 2 ^ cnt A → IX A B σ → (∀ p, p < cnt A → σ 33 p = Int32.ofInt (p : Int)) → σ 32 1 = Int32.ofInt 1 → σ 32 3 = Int32.ofInt (cnt A : Int) → σ 32 5 = Int32.ofInt ((2 ^ cnt A : Nat) : Int) → (∀ q, q < cnt A → σ 22 q = Int32.ofInt (gin A q (A 4 q) : Int)) → (∀ row', row' < row → ∀ p, p < cnt A → σ r2 (row' * cnt A + p) = Int32.ofInt (Wc A row' p)) →
    (∀ σ' : Nat → Nat → Int32, (∀ c, c < 77 → c ≠ 4 → c ≠ 23 → c ≠ 24 → c ≠ 25 → c ≠ 26 → c ≠ 27 → c ≠ 28 → c ≠ 32 → c ≠ 34 → σ' c = σ c) → (∀ i, i ≠ 15 → σ' 4 i = σ 4 i) → σ' 4 15 = Int32.ofInt 1 → (∀ i, i ≠ 6 → i ≠ 7 → σ' 32 i = σ 32 i) → KC A σ' → Q none (lo_M n w3 g σ' τ r1 r2)) →
    am_wp (am_d (d + 3)) T_X9_findChoosing Q (31, [.ref 4, .int (Int32.ofInt (cnt A : Int)), .int (Int32.ofInt (row : Int)), x3, x4], [], bc, bs) (lo_M n w3 g σ τ r1 r2) := by
  have hc := cnt_le A
  obtain ⟨h77, hr1, hr2, hne, hk1, hk2, hW1, hW2⟩ := id hz
  have hnr := LZ_r2 hz
  obtain ⟨-, e2, e3⟩ := rowsC (cnt A) (by omega)
  intro k
  induction k with
  | zero =>
    intro row σ x3 x4 hrow hx hs hl h3 h5 ho hr h
    have hre : row = 2 ^ cnt A := by omega
    refine am_wp_go (am_d_cm _) (fun pc => Nat.beq pc 77 || Nat.beq pc 31) 60 ?_
    refine And.intro (fun c1 => ?_) (fun c1 => absurd ?_ c1)
    · refine s_settleC d _ (W := Wc A) (sf := fun p => p) hnr hk2 (by omega) hW e3 (by omega) (fun p hp => by omega) (fun row hrow p hp c hc => insC_lt hp hc hrow) hs hl h3 h5 (fun a b ha hb => ⟨by
          have q1 := HZ_rng (A := A) (B := B) hwf (lw := 0) (mem := fun q => !bitk a q) (w := A 4) hb
          have q2 := HZ_rng (A := A) (B := B) hwf (lw := 1) (mem := bitk a) (w := A 4) hb
          unfold Wc zr
          split <;> omega, hr a (by omega) b hb⟩) (fun σ' k1 k2 k3 k4 => ?_)
      refine And.intro (Or.inr rfl) ?_
      refine h (am_u σ' 4 15 (Int32.ofInt 1)) (fun c e0 e4 _ _ _ _ _ _ e32 _ => by rw [am_u_ne e4, k1 c e32]) (fun i hi => by rw [am_u_at, if_neg hi, k1 4 (by decide)]) (by rw [am_u_at, if_pos rfl]) (fun i e6 e7 => by rw [am_u_ne (by decide), k2 i e6 e7]) ⟨by rw [am_u_ne (by decide)]; exact k3, by rw [am_u_ne (by decide)]; exact k4⟩
    · show σ 32 5 ≤ Int32.ofInt (row : Int)
      rw [h5, zle (by unfold zr; omega) (by unfold zr; omega)]
      omega
  | succ k ih =>
    intro row σ x3 x4 hrow hx hs hl h3 h5 ho hr h
    have hrl : row < 2 ^ cnt A := by omega
    refine am_wp_go (am_d_cm _) (fun pc => Nat.beq pc 77 || Nat.beq pc 31) 60 ?_
    refine And.intro (fun c1 => ?_) (fun c1 => ?_)
    · have c1 : σ 32 5 ≤ Int32.ofInt (row : Int) := c1
      rw [h5, zle (by unfold zr; omega) (by unfold zr; omega)] at c1
      omega
    · refine s_everybody (d + 2) _ (cnt_le A) hx.1.2.2.1 ?_
      show am_d (d + 3) 1 [.ref 23, .ref 22, .int (Int32.ofInt ((2 ^ cnt A - 1 : Nat) : Int) &&& (Int32.ofInt (row : Int) ^^^ Int32.ofInt (-1))), .int (Int32.ofInt 0)] 0 0 _ _
      rw [mskC (cnt A) (by omega) row (by omega) hrl]
      refine s_fillA d _ (lw := 0) (mem := fun q => !bitk row q) (w := A 4) (by omega) (by omega) (fun p hp => memC (cnt A) (by omega) row (by omega) p hp hrl) hx.1 hx.2.2.1 hwf.2.2.2.1.1 ho (fun σ1 k1 k2 k3 k4 k5 => ?_)
      have hx1 : IX A B σ1 := IX_fr hx (fun c e1 e2 => k1 c (fun q => e2 (by subst q; unfold scr; omega)) (fun q => e2 (by subst q; unfold scr; omega)) (fun q => e2 (by subst q; unfold scr; omega))) (by rw [k1 4 (by decide) (by decide) (by decide)])
      refine s_fillA26 d _ (mask := row) (lw := 1) (mem := bitk row) (w := A 4) (by omega) (by omega) (fun p hp => rfl) hx1.1 hx1.2.2.1 hwf.2.2.2.1.1 (by rw [k1 22 (by decide) (by decide) (by decide)]; exact ho) (fun σ2 j1 j2 j3 j4 j5 => ?_)
      have hx2 : IX A B σ2 := IX_fr hx1 (fun c e1 e2 => j1 c (fun q => e2 (by subst q; unfold scr; omega)) (fun q => e2 (by subst q; unfold scr; omega)) (fun q => e2 (by subst q; unfold scr; omega))) (by rw [j1 4 (by decide) (by decide) (by decide)])
      have f2 : ∀ c, c ≠ 23 → c ≠ 24 → c ≠ 25 → c ≠ 26 → c ≠ 27 → c ≠ 28 → σ2 c = σ c := fun c e1 e2 e3 e4 e5 e6 => by rw [j1 c e4 e5 e6, k1 c e1 e2 e3]
      have g2 : σ2 32 = σ 32 := f2 32 (by decide) (by decide) (by decide) (by decide) (by decide) (by decide)
      refine s_ch_in d Q hwf hz hrl hW (cnt A) 0 σ2 x4 (by omega) hx2 (by rw [f2 22 (by decide) (by decide) (by decide) (by decide) (by decide) (by decide)]; exact ho) ⟨by rw [j1 23 (by decide) (by decide) (by decide)]; exact k3, by unfold hol; rw [j1 25 (by decide) (by decide) (by decide)]; exact k4, by rw [j1 24 (by decide) (by decide) (by decide)]; exact k5, j3, j4, j5⟩ (by rw [g2]; exact h3) (by rw [g2]; exact hl) (by rw [f2 33 (by decide) (by decide) (by decide) (by decide) (by decide) (by decide)]; exact hs) (fun σ3 x4 m1 m2 => ?_)
      have f3 : ∀ c, c < 77 → c ≠ 23 → c ≠ 24 → c ≠ 25 → c ≠ 26 → c ≠ 27 → c ≠ 28 → c ≠ 34 → σ3 c = σ c := fun c e0 e1 e2 e3 e4 e5 e6 e7 => by rw [m1 c e0 e7, f2 c e1 e2 e3 e4 e5 e6]
      have g3 : σ3 32 = σ 32 := f3 32 (by decide) (by decide) (by decide) (by decide) (by decide) (by decide) (by decide) (by decide)
      refine ih (row + 1) σ3 _ x4 (by omega) (IX_fr2 hx2 (fun c e0 e1 e2 => m1 c e0 (fun q => e2 (by subst q; unfold scr; omega))) (by rw [m1 4 (by decide) (by decide)])) (by rw [f3 33 (by decide) (by decide) (by decide) (by decide) (by decide) (by decide) (by decide) (by decide)]; exact hs) (by rw [g3]; exact hl) (by rw [g3]; exact h3) (by rw [g3]; exact h5) (by rw [f3 22 (by decide) (by decide) (by decide) (by decide) (by decide) (by decide) (by decide) (by decide)]; exact ho) (fun row' hr' p hp => ?_) (fun σ' q1 q2 q3 q4 q5 => h σ' (fun c e0 e4 a1 a2 a3 a4 a5 a6 e32 e34 => by rw [q1 c e0 e4 a1 a2 a3 a4 a5 a6 e32 e34, f3 c e0 a1 a2 a3 a4 a5 a6 e34]) (fun i hi => by rw [q2 i hi, f3 4 (by decide) (by decide) (by decide) (by decide) (by decide) (by decide) (by decide) (by decide)]) q3 (fun i e6 e7 => by rw [q4 i e6 e7, g3]) q5)
      rw [m2]
      by_cases e : row' = row
      · subst e
        rw [if_pos (by omega)]
        congr 2
        omega
      · have hl1 : (row' + 1) * cnt A ≤ row * cnt A := Nat.mul_le_mul_right _ (by omega)
        rw [Nat.succ_mul] at hl1
        rw [if_neg (by omega)]
        have er : ∀ c, r2 = c → (c = 23 ∨ c = 24 ∨ c = 25 ∨ c = 26 ∨ c = 27 ∨ c = 28) → False := fun c e1 e2 => by rcases hr2.1 with q | q <;> omega
        rw [f2 r2 (fun e => er 23 e (by omega)) (fun e => er 24 e (by omega)) (fun e => er 25 e (by omega)) (fun e => er 26 e (by omega)) (fun e => er 27 e (by omega)) (fun e => er 28 e (by omega))]
        exact hr row' (by omega) p hp
set_option maxRecDepth 100000 in
theorem s_findChoosing (d : Nat) (Q : am_Q) {W1 W2 bc bs : Nat} (hwf : WF A B) (hz : LZ n w3 g r1 r2 W1 W2) (hx : IX A B σ) (hb : σ 32 0 = Int32.ofInt 1) (hl : σ 32 1 = Int32.ofInt 1) (hfl : σ 4 15 = Int32.ofInt 0 ∨ σ 4 15 = Int32.ofInt 1 ∧ KC A σ) (hbud : W2 < 2 ^ cnt A * cnt A → 1 ≤ bc ∧ 2 ^ cnt A * cnt A ≤ bs)
    (h : ∀ (n' : Nat) (g' : Nat → Nat × Nat) (r' W' : Nat) (σ' : Nat → Nat → Int32), ((σ 4 15 = Int32.ofInt 1 ∧ W' = W2) ∨ W' = max W2 (2 ^ cnt A * cnt A)) → LZ n' w3 g' r1 r' W1 W' → (∀ c, c < 77 → c ≠ 4 → ¬ (22 ≤ c ∧ c ≤ 28) → c ≠ 32 → c ≠ 33 → c ≠ 34 → σ' c = σ c) → (∀ i, i ≠ 15 → σ' 4 i = σ 4 i) → σ' 4 15 = Int32.ofInt 1 → σ' 32 0 = Int32.ofInt 1 → σ' 32 1 = Int32.ofInt 1 → KC A σ' → Q none (lo_M n' w3 g' σ' τ r1 r')) :
    am_d (d + 4) 102 [.ref 4] bc bs (lo_M n w3 g σ τ r1 r2) Q := by
  have hc := cnt_le A
  refine am_goT T_X9_findChoosing [.ref 4, .null, .null, .null, .null] rfl rfl (fun pc => Nat.beq pc 31) 60 ?_
  rcases hfl with hfl | ⟨hfl, hK⟩
  · refine And.intro (fun c1 => ?_) (fun c1 => absurd (show σ 4 15 = 0 from hfl) c1)
    refine s_gather (d + 1) _ hx.1 hx.2.2.2.2.1 hwf.2.2.2.2.1 (fun σ1 k1 k2 => ?_)
    have hx1 : IX A B σ1 := IX_fr hx (fun c e1 e2 => k1 c (fun q => e2 (by subst q; unfold scr; omega))) (by rw [k1 4 (by decide)])
    refine ⟨bc, bs, Nat.le_refl _, Nat.le_refl _, ?_⟩
    show am_d (d + 3) 11 [.ref 32, .int (σ1 5 4), .int (Int32.ofInt 0)] bc bs _ _
    rw [hx1.1.2.2.1]
    refine s_openC (d + 2) _ (N := cnt A) (by omega) hz hbud (by rw [k1 32 (by decide)]; exact hb) (fun n' g' r' σ' j1 j2 j3 j4 j5 j6 j7 => ?_)
    have hx' : IX A B σ' := IX_fr2 hx1 (fun c e0 e1 e2 => j3 c e0 (fun q => e2 (by subst q; unfold scr; omega)) (fun q => e2 (by subst q; unfold scr; omega))) (by rw [j3 4 (by decide) (by decide) (by decide)])
    have key := s_ch_out (n := n') (w3 := w3) (g := g') (τ := τ) (r1 := r1) (r2 := r') d Q (bc := bc - bc) (bs := bs - bs) hwf j1 j2 (2 ^ cnt A) 0 σ' .null .null (by omega) hx' j7 (by rw [j4 1 (by decide) (by decide), k1 32 (by decide)]; exact hl) j5 j6 (fun q hq => by rw [j3 22 (by decide) (by decide) (by decide), k2 q, if_pos hq]) (fun row' hr' => by omega) (fun σ2 m1 m2 m3 m4 m5 => h n' g' r' _ σ2 (Or.inr rfl) j1 (fun c e0 e4 e22 e32 e33 e34 => by rw [m1 c e0 e4 (by omega) (by omega) (by omega) (by omega) (by omega) (by omega) e32 e34, j3 c e0 e32 e33, k1 c (by omega)]) (fun i hi => by rw [m2 i hi, j3 4 (by decide) (by decide) (by decide), k1 4 (by decide)]) m3 (by rw [m4 0 (by decide) (by decide), j4 0 (by decide) (by decide), k1 32 (by decide)]; exact hb) (by rw [m4 1 (by decide) (by decide), j4 1 (by decide) (by decide), k1 32 (by decide)]; exact hl) m5)
    rw [← hx1.1.2.2.1] at key
    exact key
  · refine And.intro (fun c1 => absurd (show σ 4 15 = 0 from c1) (by rw [hfl]; decide)) (fun c1 => ?_)
    exact h n g r2 W2 σ (Or.inl ⟨hfl, rfl⟩) hz (fun _ _ _ _ _ _ _ => rfl) (fun _ _ => rfl) hfl hb hl hK
set_option maxRecDepth 100000 in
theorem c_churches (d : Nat) (Q : am_Q) {W1 W2 bc bs : Nat} {z : Int} (hzr : zr z) (hwf : WF A B) (hz : LZ n w3 g r1 r2 W1 W2) (hx : IX A B σ) (hb : σ 32 0 = Int32.ofInt 1) (hl : σ 32 1 = Int32.ofInt 1) (hfl : σ 4 15 = Int32.ofInt 0 ∨ σ 4 15 = Int32.ofInt 1 ∧ KC A σ) (hbud : W2 < 2 ^ cnt A * cnt A → 1 ≤ bc ∧ 2 ^ cnt A * cnt A ≤ bs)
    (h0 : ¬ (0 ≤ z ∧ z ≤ 1) → Q (some (.int (Int32.ofInt (f_churches A z)))) (lo_M n w3 g σ τ r1 r2))
    (h : ∀ (n' : Nat) (g' : Nat → Nat × Nat) (r' W' : Nat) (σ' : Nat → Nat → Int32), ((σ 4 15 = Int32.ofInt 1 ∧ W' = W2) ∨ W' = max W2 (2 ^ cnt A * cnt A)) → LZ n' w3 g' r1 r' W1 W' → (∀ c, c < 77 → c ≠ 4 → ¬ (22 ≤ c ∧ c ≤ 28) → c ≠ 32 → c ≠ 33 → c ≠ 34 → σ' c = σ c) → (∀ i, i ≠ 15 → σ' 4 i = σ 4 i) → σ' 4 15 = Int32.ofInt 1 → σ' 32 0 = Int32.ofInt 1 → σ' 32 1 = Int32.ofInt 1 → KC A σ' → Q (some (.int (Int32.ofInt (f_churches A z)))) (lo_M n' w3 g' σ' τ r1 r')) :
    am_d (d + 5) 68 [.ref 4, .int (Int32.ofInt z)] bc bs (lo_M n w3 g σ τ r1 r2) Q := by
  refine am_goT T_X9_churches [.ref 4, .int (Int32.ofInt z)] rfl rfl (fun _ => false) 60 ?_
  refine s_withinZ (d + 3) hzr (by unfold zr; omega) (by unfold zr; omega) _ _ ?_
  by_cases c : 0 ≤ z ∧ z ≤ 1
  · rw [if_pos c]
    refine And.intro (fun q => absurd q (by decide)) (fun _ => ?_)
    refine ⟨bc, bs, Nat.le_refl _, Nat.le_refl _, ?_⟩
    refine s_findChoosing d _ hwf hz hx hb hl hfl hbud (fun n' g' r' W' σ' k1 k2 k3 k4 k5 k6 k7 k8 => ?_)
    have h := h n' g' r' W' σ' k1 k2 k3 k4 k5 k6 k7 k8
    obtain ⟨s1, s2⟩ := k8
    unfold f_churches at h
    rw [if_pos c] at h
    refine And.intro (fun c2 => ?_) (fun c2 => ?_)
    · rw [zeq0 hzr] at c2
      rw [if_pos c2, ← s1] at h
      exact h
    · rw [zeq0 hzr] at c2
      rw [if_neg c2, ← s2] at h
      exact h
  · rw [if_neg c]
    refine And.intro (fun _ => ?_) (fun q => absurd rfl q)
    have h0 := h0 c
    unfold f_churches at h0
    rw [if_neg c] at h0
    exact h0
end CH
