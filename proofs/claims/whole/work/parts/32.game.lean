/-! Game, cell 29 -/
section GAR
variable {n w3 : Nat} {g : Nat → Nat × Nat} {σ : Nat → Nat → Int32} {τ : Nat → Nat → Int64} {r1 r2 : Nat} {A : aN} {B : aZ}
set_option maxRecDepth 100000 in
theorem s_choiceR (d : Nat) (Q : am_Q) {row p sh : Nat} (hp : p < 7) (hrow : row < 2147483648) (hsh : sh < 32) (hs : σ 30 p = Int32.ofInt (sh : Int)) (hl : σ 29 1 = Int32.ofInt 3) (h : Q (some (.int (Int32.ofInt (chc 3 sh row : Int)))) (lo_M n w3 g σ τ r1 r2)) : am_d (d + 1) 12 [.ref 29, .int (Int32.ofInt (row : Int)), .int (Int32.ofInt (p : Int))] 0 0 (lo_M n w3 g σ τ r1 r2) Q := by
  have e : (Int32.ofInt (row : Int) >>> (σ 30 p &&& 31)) &&& σ 29 1 = Int32.ofInt (chc 3 sh row : Int) := by
    rw [hs, hl]
    exact chcI (L := 3) (k := 2) hrow hsh (by decide) (by decide)
  rw [← e] at h
  refine am_goT T_X2_choice [.ref 29, .int (Int32.ofInt (row : Int)), .int (Int32.ofInt (p : Int))] rfl rfl (fun _ => false) 30 ?_
  refine ixi p 7 hp ?_
  exact h
set_option maxRecDepth 100000 in
theorem s_noteR (d : Nat) (Q : am_Q) {row p N W : Nat} {v : Int32} (hk : lo_sh w3 g r1 = (0, W)) (hW : W ≤ 2147483648) (hi : row * N + p < W) (hn : σ 29 3 = Int32.ofInt (N : Int)) (h : Q none (lo_M n w3 g (am_u σ r1 (row * N + p) v) τ r1 r2)) : am_d (d + 1) 13 [.ref 29, .int (Int32.ofInt (row : Int)), .int (Int32.ofInt (p : Int)), .int v] 0 0 (lo_M n w3 g σ τ r1 r2) Q := by
  refine am_goT T_X2_note [.ref 29, .int (Int32.ofInt (row : Int)), .int (Int32.ofInt (p : Int)), .int v] rfl rfl (fun _ => false) 30 ?_
  refine wao hk (row * N + p) hi ?_ hW ?_
  · show Int32.ofInt (row : Int) * σ 29 3 + Int32.ofInt (p : Int) = _
    rw [hn, ixrow]
  · exact h
set_option maxRecDepth 100000 in
theorem s_wouldLeave_loopR (d : Nat) (Q : am_Q) {row p N Wn R sh : Nat} {W : Nat → Nat → Int} (hk : lo_sh w3 g r1 = (0, Wn)) (hW : Wn ≤ 2147483648) (hRN : R * N ≤ Wn) (hrow : row < R) (hR : R ≤ 4096) (hp : p < N) (hsh : ∃ s, s < 6 ∧ sh = 2 * s) (hin : ∀ c, c < 3 + 1 → ins 3 sh row c < R) (hl : σ 29 1 = Int32.ofInt 3) (hn : σ 29 3 = Int32.ofInt (N : Int)) (hw : ∀ row p, row < R → p < N → zr (W row p) ∧ σ r1 (row * N + p) = Int32.ofInt (W row p)) : ∀ (k c : Nat) (x7 : Value), c + k = 3 + 1 → Q (some (.int (if wlv W 3 sh row p k c = true then 1 else 0))) (lo_M n w3 g σ τ r1 r2) →
    am_wp (am_d d) T_X2_wouldLeave Q (38, [.ref 29, .int (Int32.ofInt (row : Int)), .int (Int32.ofInt (p : Int)), .int (Int32.ofInt (W row p)), .int (Int32.ofInt (sh : Int)), .int (Int32.ofInt (row : Int) &&& ((σ 29 1 <<< (Int32.ofInt (sh : Int) &&& 31)) ^^^ Int32.ofInt (-1))), .int (Int32.ofInt (c : Int)), x7], [], 0, 0) (lo_M n w3 g σ τ r1 r2) := by
  intro k
  induction k with
  | zero =>
    intro c x7 hc h
    refine am_wp_go (am_d_cm _) (fun pc => Nat.beq pc 38) 60 ?_
    refine And.intro (fun c1 => ?_) (fun c1 => absurd ?_ c1)
    · exact And.intro (Or.inl rfl) h
    · show σ 29 1 < Int32.ofInt (c : Int)
      rw [hl, zlt (by unfold zr; omega) (by unfold zr; omega)]
      omega
  | succ k ih =>
    intro c x7 hc h
    refine am_wp_go (am_d_cm _) (fun pc => Nat.beq pc 38) 60 ?_
    refine And.intro (fun c1 => ?_) (fun c1 => ?_)
    · have c1 : σ 29 1 < Int32.ofInt (c : Int) := c1
      rw [hl, zlt (by unfold zr; omega) (by unfold zr; omega)] at c1
      omega
    · have e : (Int32.ofInt (row : Int) &&& ((σ 29 1 <<< (Int32.ofInt (sh : Int) &&& 31)) ^^^ Int32.ofInt (-1))) ||| (Int32.ofInt (c : Int) <<< (Int32.ofInt (sh : Int) &&& 31)) = Int32.ofInt (ins 3 sh row c : Int) := by
        rw [hl]
        obtain ⟨s, hs6, rfl⟩ := hsh
        exact insR (by omega) hs6 (by omega)
      have hi := hin c (by omega)
      refine wai hk (ins 3 sh row c * N + p) (ixlt hi hp hRN) ?_ hW ?_
      · show ((Int32.ofInt (row : Int) &&& ((σ 29 1 <<< (Int32.ofInt (sh : Int) &&& 31)) ^^^ Int32.ofInt (-1))) ||| (Int32.ofInt (c : Int) <<< (Int32.ofInt (sh : Int) &&& 31))) * σ 29 3 + Int32.ofInt (p : Int) = _
        rw [e, hn, ixrow]
      · unfold wlv at h
        obtain ⟨z1, w1⟩ := hw row p hrow hp
        obtain ⟨z2, w2⟩ := hw (ins 3 sh row c) p hi hp
        refine And.intro (fun c2 => ?_) (fun c2 => ?_)
        · have c2 : σ r1 (ins 3 sh row c * N + p) ≤ Int32.ofInt (W row p) := c2
          rw [w2, zle z2 z1] at c2
          rw [if_neg (show ¬ W row p < W (ins 3 sh row c) p by omega)] at h
          have key := ih (c + 1) (.int ((Int32.ofInt (row : Int) &&& ((σ 29 1 <<< (Int32.ofInt (sh : Int) &&& 31)) ^^^ Int32.ofInt (-1))) ||| (Int32.ofInt (c : Int) <<< (Int32.ofInt (sh : Int) &&& 31)))) (by omega) h
          rw [show (((c + 1 : Nat) : Int)) = (c : Int) + 1 by omega, ← zadd (c : Int)] at key
          exact key
        · have c2 : ¬ σ r1 (ins 3 sh row c * N + p) ≤ Int32.ofInt (W row p) := c2
          rw [w2, zle z2 z1] at c2
          rw [if_pos (show W row p < W (ins 3 sh row c) p by omega), if_pos rfl] at h
          exact And.intro (Or.inr rfl) h
set_option maxRecDepth 100000 in
theorem s_wouldLeaveR (d : Nat) (Q : am_Q) {row p N Wn R sh : Nat} {W : Nat → Nat → Int} (hk : lo_sh w3 g r1 = (0, Wn)) (hW : Wn ≤ 2147483648) (hRN : R * N ≤ Wn) (hrow : row < R) (hR : R ≤ 4096) (hp : p < N) (hN : N ≤ 7) (hsh : ∃ s, s < 6 ∧ sh = 2 * s) (hs : σ 30 p = Int32.ofInt (sh : Int)) (hin : ∀ c, c < 3 + 1 → ins 3 sh row c < R) (hl : σ 29 1 = Int32.ofInt 3) (hn : σ 29 3 = Int32.ofInt (N : Int)) (hw : ∀ row p, row < R → p < N → zr (W row p) ∧ σ r1 (row * N + p) = Int32.ofInt (W row p)) (h : Q (some (.int (if wlv W 3 sh row p (3 + 1) 0 = true then 1 else 0))) (lo_M n w3 g σ τ r1 r2)) : am_d (d + 1) 16 [.ref 29, .int (Int32.ofInt (row : Int)), .int (Int32.ofInt (p : Int))] 0 0 (lo_M n w3 g σ τ r1 r2) Q := by
  refine am_goT T_X2_wouldLeave [.ref 29, .int (Int32.ofInt (row : Int)), .int (Int32.ofInt (p : Int)), .null, .null, .null, .null, .null] rfl rfl (fun pc => Nat.beq pc 38) 60 ?_
  refine wai hk (row * N + p) (ixlt hrow hp hRN) ?_ hW ?_
  · show Int32.ofInt (row : Int) * σ 29 3 + Int32.ofInt (p : Int) = _
    rw [hn, ixrow]
  · refine ixi p 7 (by omega) ?_
    have key := s_wouldLeave_loopR (n := n) (τ := τ) (r1 := r1) (r2 := r2) d Q hk hW hRN hrow hR hp hsh hin hl hn hw (3 + 1) 0 .null (by omega) h
    rw [← (hw row p hrow hp).2, ← hs] at key
    exact key
set_option maxRecDepth 100000 in
theorem s_isStable_loopR (d : Nat) (Q : am_Q) {row N Wn R : Nat} {sf : Nat → Nat} {W : Nat → Nat → Int} (hk : lo_sh w3 g r1 = (0, Wn)) (hW : Wn ≤ 2147483648) (hRN : R * N ≤ Wn) (hrow : row < R) (hR : R ≤ 4096) (hN : N ≤ 7) (hsf : ∀ p, p < N → ∃ s, s < 6 ∧ sf p = 2 * s) (hs : ∀ p, p < N → σ 30 p = Int32.ofInt (sf p : Int)) (hin : ∀ p, p < N → ∀ c, c < 3 + 1 → ins 3 (sf p) row c < R) (hl : σ 29 1 = Int32.ofInt 3) (hn : σ 29 3 = Int32.ofInt (N : Int)) (hw : ∀ row p, row < R → p < N → zr (W row p) ∧ σ r1 (row * N + p) = Int32.ofInt (W row p)) : ∀ (k p : Nat), p + k = N → Q (some (.int (if ist W 3 sf row k p = true then 1 else 0))) (lo_M n w3 g σ τ r1 r2) →
    am_wp (am_d (d + 1)) T_X2_isStable Q (2, [.ref 29, .int (Int32.ofInt (row : Int)), .int (Int32.ofInt (p : Int))], [], 0, 0) (lo_M n w3 g σ τ r1 r2) := by
  intro k
  induction k with
  | zero =>
    intro p hp h
    refine am_wp_go (am_d_cm _) (fun pc => Nat.beq pc 2) 60 ?_
    refine And.intro (fun c1 => ?_) (fun c1 => absurd ?_ c1)
    · exact And.intro (Or.inr rfl) h
    · show σ 29 3 ≤ Int32.ofInt (p : Int)
      rw [hn, zle (by unfold zr; omega) (by unfold zr; omega)]
      omega
  | succ k ih =>
    intro p hp h
    refine am_wp_go (am_d_cm _) (fun pc => Nat.beq pc 2) 60 ?_
    refine And.intro (fun c1 => ?_) (fun c1 => ?_)
    · have c1 : σ 29 3 ≤ Int32.ofInt (p : Int) := c1
      rw [hn, zle (by unfold zr; omega) (by unfold zr; omega)] at c1
      omega
    · unfold ist at h
      refine s_wouldLeaveR d _ hk hW hRN hrow hR (show p < N by omega) hN (hsf p (by omega)) (hs p (by omega)) (hin p (by omega)) hl hn hw ?_
      by_cases c2 : wlv W 3 (sf p) row p (3 + 1) 0 = true
      · rw [if_pos c2]
        rw [if_pos c2] at h
        refine And.intro (fun q => absurd q (by decide)) (fun _ => ?_)
        exact And.intro (Or.inl rfl) h
      · rw [if_neg c2]
        rw [if_neg c2] at h
        refine And.intro (fun _ => ?_) (fun q => absurd rfl q)
        have key := ih (p + 1) (by omega) h
        rw [show (((p + 1 : Nat) : Int)) = (p : Int) + 1 by omega, ← zadd (p : Int)] at key
        exact key
set_option maxRecDepth 100000 in
theorem s_settle_loopR (d : Nat) (Q : am_Q) {N Wn R : Nat} {sf : Nat → Nat} {W : Nat → Nat → Int} (hgr : ∀ c, c < 77 → c ≠ 31 → c ≠ r1) (hk : lo_sh w3 g r1 = (0, Wn)) (hW : Wn ≤ 2147483648) (hRN : R * N ≤ Wn) (hR : R ≤ 4096) (hN : N ≤ 7) (hsf : ∀ p, p < N → ∃ s, s < 6 ∧ sf p = 2 * s) (hin : ∀ row, row < R → ∀ p, p < N → ∀ c, c < 3 + 1 → ins 3 (sf p) row c < R) : ∀ (k row : Nat) (x : Nat × Int) (σ : Nat → Nat → Int32), row + k = R → (∀ p, p < N → σ 30 p = Int32.ofInt (sf p : Int)) → σ 29 1 = Int32.ofInt 3 → σ 29 3 = Int32.ofInt (N : Int) → σ 29 5 = Int32.ofInt (R : Int) → (∀ row p, row < R → p < N → zr (W row p) ∧ σ r1 (row * N + p) = Int32.ofInt (W row p)) → x.1 ≤ row → σ 29 6 = Int32.ofInt (x.1 : Int) → σ 29 7 = Int32.ofInt x.2 →
    (∀ σ' : Nat → Nat → Int32, (∀ c, c ≠ 29 → σ' c = σ c) → (∀ i, i ≠ 6 → i ≠ 7 → σ' 29 i = σ 29 i) → σ' 29 6 = Int32.ofInt ((stl (fun row => ist W 3 sf row N 0) k row x).1 : Int) → σ' 29 7 = Int32.ofInt (stl (fun row => ist W 3 sf row N 0) k row x).2 → Q none (lo_M n w3 g σ' τ r1 r2)) →
    am_wp (am_d (d + 2)) T_X2_settle Q (12, [.ref 29, .int (Int32.ofInt (row : Int))], [], 0, 0) (lo_M n w3 g σ τ r1 r2) := by
  intro k
  induction k with
  | zero =>
    intro row x σ hrow hs hl hn h5 hw hx1 h6 h7 h
    refine am_wp_go (am_d_cm _) (fun pc => Nat.beq pc 12) 60 ?_
    refine And.intro (fun c1 => ?_) (fun c1 => absurd ?_ c1)
    · exact h σ (fun _ _ => rfl) (fun _ _ _ => rfl) h6 h7
    · show σ 29 5 ≤ Int32.ofInt (row : Int)
      rw [h5, zle (by unfold zr; omega) (by unfold zr; omega)]
      omega
  | succ k ih =>
    intro row x σ hrow hs hl hn h5 hw hx1 h6 h7 h
    have hG : 29 ≠ r1 := hgr 29 (by omega) (by omega)
    have hrl : row < R := by omega
    have eu : ∀ c v σ, σ r1 = (am_u σ 29 c v : Nat → Nat → Int32) r1 := fun c v σ => (am_u_ne (Ne.symm hG)).symm
    refine am_wp_go (am_d_cm _) (fun pc => Nat.beq pc 12) 60 ?_
    refine And.intro (fun c1 => ?_) (fun c1 => ?_)
    · have c1 : σ 29 5 ≤ Int32.ofInt (row : Int) := c1
      rw [h5, zle (by unfold zr; omega) (by unfold zr; omega)] at c1
      omega
    · refine am_goT (d := d + 1) (k := 15) T_X2_isStable [.ref 29, .int (Int32.ofInt (row : Int)), .null] rfl rfl (fun pc => Nat.beq pc 2) 60 ?_
      refine s_isStable_loopR d _ hk hW hRN hrl hR hN hsf hs (hin row hrl) hl hn hw N 0 (by omega) ?_
      have er : Int32.ofInt (row : Int) + Int32.ofInt 1 = Int32.ofInt ((row + 1 : Nat) : Int) := by
        rw [zadd]
        congr 1
      by_cases c2 : ist W 3 sf row N 0 = true
      · rw [if_pos c2]
        refine And.intro (fun q => absurd q (by decide)) (fun _ => ?_)
        have e1 : σ 29 6 + Int32.ofInt 1 = Int32.ofInt ((x.1 + 1 : Nat) : Int) := by
          rw [h6, zadd]
          congr 1
        have st : stl (fun row => ist W 3 sf row N 0) (k + 1) row x = stl (fun row => ist W 3 sf row N 0) k (row + 1) (x.1 + 1, if x.1 = 0 then (row : Int) else x.2) := by
          show stl _ k (row + 1) (if _ then _ else _) = _
          rw [if_pos c2]
        rw [st] at h
        refine And.intro (fun c3 => ?_) (fun c3 => ?_)
        · have c3 : σ 29 6 = 0 := c3
          rw [h6, zeq0 (by unfold zr; omega)] at c3
          have hx0 : x.1 = 0 := by omega
          rw [if_pos hx0] at h
          have key := ih (row + 1) (x.1 + 1, (row : Int)) (am_u (am_u σ 29 7 (Int32.ofInt (row : Int))) 29 6 (Int32.ofInt ((x.1 + 1 : Nat) : Int))) (by omega) hs hl hn h5 (fun a b ha hb => by rw [← eu, ← eu]; exact hw a b ha hb) (by dsimp only; omega) rfl rfl (fun σ' k1 k2 k3 k4 => h σ' (fun c e => by rw [k1 c e, am_u_ne e, am_u_ne e]) (fun i e1 e2 => by rw [k2 i e1 e2, am_u_at, if_neg e1, am_u_at, if_neg e2]) k3 k4)
          rw [← er, ← e1] at key
          exact key
        · have c3 : ¬ σ 29 6 = 0 := c3
          rw [h6, zeq0 (by unfold zr; omega)] at c3
          rw [if_neg (by omega)] at h
          have key := ih (row + 1) (x.1 + 1, x.2) (am_u σ 29 6 (Int32.ofInt ((x.1 + 1 : Nat) : Int))) (by omega) hs hl hn h5 (fun a b ha hb => by rw [← eu]; exact hw a b ha hb) (by dsimp only; omega) rfl h7 (fun σ' k1 k2 k3 k4 => h σ' (fun c e => by rw [k1 c e, am_u_ne e]) (fun i e1 e2 => by rw [k2 i e1 e2, am_u_at, if_neg e1]) k3 k4)
          rw [← er, ← e1] at key
          exact key
      · rw [if_neg c2]
        refine And.intro (fun _ => ?_) (fun q => absurd rfl q)
        have st : stl (fun row => ist W 3 sf row N 0) (k + 1) row x = stl (fun row => ist W 3 sf row N 0) k (row + 1) x := by
          show stl _ k (row + 1) (if _ then _ else _) = _
          rw [if_neg c2]
        rw [st] at h
        have key := ih (row + 1) x σ (by omega) hs hl hn h5 hw (by omega) h6 h7 h
        rw [← er] at key
        exact key
set_option maxRecDepth 100000 in
theorem s_settleR (d : Nat) (Q : am_Q) {N Wn R : Nat} {sf : Nat → Nat} {W : Nat → Nat → Int} (hgr : ∀ c, c < 77 → c ≠ 31 → c ≠ r1) (hk : lo_sh w3 g r1 = (0, Wn)) (hW : Wn ≤ 2147483648) (hRN : R * N ≤ Wn) (hR : R ≤ 4096) (hN : N ≤ 7) (hsf : ∀ p, p < N → ∃ s, s < 6 ∧ sf p = 2 * s) (hin : ∀ row, row < R → ∀ p, p < N → ∀ c, c < 3 + 1 → ins 3 (sf p) row c < R) (hs : ∀ p, p < N → σ 30 p = Int32.ofInt (sf p : Int)) (hl : σ 29 1 = Int32.ofInt 3) (hn : σ 29 3 = Int32.ofInt (N : Int)) (h5 : σ 29 5 = Int32.ofInt (R : Int)) (hw : ∀ row p, row < R → p < N → zr (W row p) ∧ σ r1 (row * N + p) = Int32.ofInt (W row p))
    (h : ∀ σ' : Nat → Nat → Int32, (∀ c, c ≠ 29 → σ' c = σ c) → (∀ i, i ≠ 6 → i ≠ 7 → σ' 29 i = σ 29 i) → σ' 29 6 = Int32.ofInt ((stl (fun row => ist W 3 sf row N 0) R 0 (0, -1)).1 : Int) → σ' 29 7 = Int32.ofInt (stl (fun row => ist W 3 sf row N 0) R 0 (0, -1)).2 → Q none (lo_M n w3 g σ' τ r1 r2)) : am_d (d + 3) 14 [.ref 29] 0 0 (lo_M n w3 g σ τ r1 r2) Q := by
  have hG : 29 ≠ r1 := hgr 29 (by omega) (by omega)
  have eu : ∀ c v σ, σ r1 = (am_u σ 29 c v : Nat → Nat → Int32) r1 := fun c v σ => (am_u_ne (Ne.symm hG)).symm
  refine am_goT T_X2_settle [.ref 29, .null] rfl rfl (fun pc => Nat.beq pc 12) 60 ?_
  exact s_settle_loopR d Q hgr hk hW hRN hR hN hsf hin R 0 (0, -1) (am_u (am_u σ 29 6 (Int32.ofInt 0)) 29 7 (Int32.ofInt (-1))) (by omega) hs hl hn h5 (fun a b ha hb => by rw [← eu, ← eu]; exact hw a b ha hb) (Nat.le_refl _) rfl rfl (fun σ' k1 k2 k3 k4 => h σ' (fun c e => by rw [k1 c e, am_u_ne e, am_u_ne e]) (fun i e1 e2 => by rw [k2 i e1 e2, am_u_at, if_neg e2, am_u_at, if_neg e1]) k3 k4)
end GAR
/-! Game, cell 32 -/
section GAC
variable {n w3 : Nat} {g : Nat → Nat × Nat} {σ : Nat → Nat → Int32} {τ : Nat → Nat → Int64} {r1 r2 : Nat} {A : aN} {B : aZ}
set_option maxRecDepth 100000 in
theorem s_choiceC (d : Nat) (Q : am_Q) {row p sh : Nat} (hp : p < 7) (hrow : row < 2147483648) (hsh : sh < 32) (hs : σ 33 p = Int32.ofInt (sh : Int)) (hl : σ 32 1 = Int32.ofInt 1) (h : Q (some (.int (Int32.ofInt (chc 1 sh row : Int)))) (lo_M n w3 g σ τ r1 r2)) : am_d (d + 1) 12 [.ref 32, .int (Int32.ofInt (row : Int)), .int (Int32.ofInt (p : Int))] 0 0 (lo_M n w3 g σ τ r1 r2) Q := by
  have e : (Int32.ofInt (row : Int) >>> (σ 33 p &&& 31)) &&& σ 32 1 = Int32.ofInt (chc 1 sh row : Int) := by
    rw [hs, hl]
    exact chcI (L := 1) (k := 1) hrow hsh (by decide) (by decide)
  rw [← e] at h
  refine am_goT T_X2_choice [.ref 32, .int (Int32.ofInt (row : Int)), .int (Int32.ofInt (p : Int))] rfl rfl (fun _ => false) 30 ?_
  refine ixi p 7 hp ?_
  exact h
set_option maxRecDepth 100000 in
theorem s_noteC (d : Nat) (Q : am_Q) {row p N W : Nat} {v : Int32} (hk : lo_sh w3 g r2 = (0, W)) (hW : W ≤ 2147483648) (hi : row * N + p < W) (hn : σ 32 3 = Int32.ofInt (N : Int)) (h : Q none (lo_M n w3 g (am_u σ r2 (row * N + p) v) τ r1 r2)) : am_d (d + 1) 13 [.ref 32, .int (Int32.ofInt (row : Int)), .int (Int32.ofInt (p : Int)), .int v] 0 0 (lo_M n w3 g σ τ r1 r2) Q := by
  refine am_goT T_X2_note [.ref 32, .int (Int32.ofInt (row : Int)), .int (Int32.ofInt (p : Int)), .int v] rfl rfl (fun _ => false) 30 ?_
  refine wao hk (row * N + p) hi ?_ hW ?_
  · show Int32.ofInt (row : Int) * σ 32 3 + Int32.ofInt (p : Int) = _
    rw [hn, ixrow]
  · exact h
set_option maxRecDepth 100000 in
theorem s_wouldLeave_loopC (d : Nat) (Q : am_Q) {row p N Wn R sh : Nat} {W : Nat → Nat → Int} (hk : lo_sh w3 g r2 = (0, Wn)) (hW : Wn ≤ 2147483648) (hRN : R * N ≤ Wn) (hrow : row < R) (hR : R ≤ 128) (hp : p < N) (hsh : sh < 7) (hin : ∀ c, c < 1 + 1 → ins 1 sh row c < R) (hl : σ 32 1 = Int32.ofInt 1) (hn : σ 32 3 = Int32.ofInt (N : Int)) (hw : ∀ row p, row < R → p < N → zr (W row p) ∧ σ r2 (row * N + p) = Int32.ofInt (W row p)) : ∀ (k c : Nat) (x7 : Value), c + k = 1 + 1 → Q (some (.int (if wlv W 1 sh row p k c = true then 1 else 0))) (lo_M n w3 g σ τ r1 r2) →
    am_wp (am_d d) T_X2_wouldLeave Q (38, [.ref 32, .int (Int32.ofInt (row : Int)), .int (Int32.ofInt (p : Int)), .int (Int32.ofInt (W row p)), .int (Int32.ofInt (sh : Int)), .int (Int32.ofInt (row : Int) &&& ((σ 32 1 <<< (Int32.ofInt (sh : Int) &&& 31)) ^^^ Int32.ofInt (-1))), .int (Int32.ofInt (c : Int)), x7], [], 0, 0) (lo_M n w3 g σ τ r1 r2) := by
  intro k
  induction k with
  | zero =>
    intro c x7 hc h
    refine am_wp_go (am_d_cm _) (fun pc => Nat.beq pc 38) 60 ?_
    refine And.intro (fun c1 => ?_) (fun c1 => absurd ?_ c1)
    · exact And.intro (Or.inl rfl) h
    · show σ 32 1 < Int32.ofInt (c : Int)
      rw [hl, zlt (by unfold zr; omega) (by unfold zr; omega)]
      omega
  | succ k ih =>
    intro c x7 hc h
    refine am_wp_go (am_d_cm _) (fun pc => Nat.beq pc 38) 60 ?_
    refine And.intro (fun c1 => ?_) (fun c1 => ?_)
    · have c1 : σ 32 1 < Int32.ofInt (c : Int) := c1
      rw [hl, zlt (by unfold zr; omega) (by unfold zr; omega)] at c1
      omega
    · have e : (Int32.ofInt (row : Int) &&& ((σ 32 1 <<< (Int32.ofInt (sh : Int) &&& 31)) ^^^ Int32.ofInt (-1))) ||| (Int32.ofInt (c : Int) <<< (Int32.ofInt (sh : Int) &&& 31)) = Int32.ofInt (ins 1 sh row c : Int) := by
        rw [hl]
        exact insC row (by omega) sh hsh c (by omega)
      have hi := hin c (by omega)
      refine wai hk (ins 1 sh row c * N + p) (ixlt hi hp hRN) ?_ hW ?_
      · show ((Int32.ofInt (row : Int) &&& ((σ 32 1 <<< (Int32.ofInt (sh : Int) &&& 31)) ^^^ Int32.ofInt (-1))) ||| (Int32.ofInt (c : Int) <<< (Int32.ofInt (sh : Int) &&& 31))) * σ 32 3 + Int32.ofInt (p : Int) = _
        rw [e, hn, ixrow]
      · unfold wlv at h
        obtain ⟨z1, w1⟩ := hw row p hrow hp
        obtain ⟨z2, w2⟩ := hw (ins 1 sh row c) p hi hp
        refine And.intro (fun c2 => ?_) (fun c2 => ?_)
        · have c2 : σ r2 (ins 1 sh row c * N + p) ≤ Int32.ofInt (W row p) := c2
          rw [w2, zle z2 z1] at c2
          rw [if_neg (show ¬ W row p < W (ins 1 sh row c) p by omega)] at h
          have key := ih (c + 1) (.int ((Int32.ofInt (row : Int) &&& ((σ 32 1 <<< (Int32.ofInt (sh : Int) &&& 31)) ^^^ Int32.ofInt (-1))) ||| (Int32.ofInt (c : Int) <<< (Int32.ofInt (sh : Int) &&& 31)))) (by omega) h
          rw [show (((c + 1 : Nat) : Int)) = (c : Int) + 1 by omega, ← zadd (c : Int)] at key
          exact key
        · have c2 : ¬ σ r2 (ins 1 sh row c * N + p) ≤ Int32.ofInt (W row p) := c2
          rw [w2, zle z2 z1] at c2
          rw [if_pos (show W row p < W (ins 1 sh row c) p by omega), if_pos rfl] at h
          exact And.intro (Or.inr rfl) h
set_option maxRecDepth 100000 in
theorem s_wouldLeaveC (d : Nat) (Q : am_Q) {row p N Wn R sh : Nat} {W : Nat → Nat → Int} (hk : lo_sh w3 g r2 = (0, Wn)) (hW : Wn ≤ 2147483648) (hRN : R * N ≤ Wn) (hrow : row < R) (hR : R ≤ 128) (hp : p < N) (hN : N ≤ 7) (hsh : sh < 7) (hs : σ 33 p = Int32.ofInt (sh : Int)) (hin : ∀ c, c < 1 + 1 → ins 1 sh row c < R) (hl : σ 32 1 = Int32.ofInt 1) (hn : σ 32 3 = Int32.ofInt (N : Int)) (hw : ∀ row p, row < R → p < N → zr (W row p) ∧ σ r2 (row * N + p) = Int32.ofInt (W row p)) (h : Q (some (.int (if wlv W 1 sh row p (1 + 1) 0 = true then 1 else 0))) (lo_M n w3 g σ τ r1 r2)) : am_d (d + 1) 16 [.ref 32, .int (Int32.ofInt (row : Int)), .int (Int32.ofInt (p : Int))] 0 0 (lo_M n w3 g σ τ r1 r2) Q := by
  refine am_goT T_X2_wouldLeave [.ref 32, .int (Int32.ofInt (row : Int)), .int (Int32.ofInt (p : Int)), .null, .null, .null, .null, .null] rfl rfl (fun pc => Nat.beq pc 38) 60 ?_
  refine wai hk (row * N + p) (ixlt hrow hp hRN) ?_ hW ?_
  · show Int32.ofInt (row : Int) * σ 32 3 + Int32.ofInt (p : Int) = _
    rw [hn, ixrow]
  · refine ixi p 7 (by omega) ?_
    have key := s_wouldLeave_loopC (n := n) (τ := τ) (r1 := r1) (r2 := r2) d Q hk hW hRN hrow hR hp hsh hin hl hn hw (1 + 1) 0 .null (by omega) h
    rw [← (hw row p hrow hp).2, ← hs] at key
    exact key
set_option maxRecDepth 100000 in
theorem s_isStable_loopC (d : Nat) (Q : am_Q) {row N Wn R : Nat} {sf : Nat → Nat} {W : Nat → Nat → Int} (hk : lo_sh w3 g r2 = (0, Wn)) (hW : Wn ≤ 2147483648) (hRN : R * N ≤ Wn) (hrow : row < R) (hR : R ≤ 128) (hN : N ≤ 7) (hsf : ∀ p, p < N → sf p < 7) (hs : ∀ p, p < N → σ 33 p = Int32.ofInt (sf p : Int)) (hin : ∀ p, p < N → ∀ c, c < 1 + 1 → ins 1 (sf p) row c < R) (hl : σ 32 1 = Int32.ofInt 1) (hn : σ 32 3 = Int32.ofInt (N : Int)) (hw : ∀ row p, row < R → p < N → zr (W row p) ∧ σ r2 (row * N + p) = Int32.ofInt (W row p)) : ∀ (k p : Nat), p + k = N → Q (some (.int (if ist W 1 sf row k p = true then 1 else 0))) (lo_M n w3 g σ τ r1 r2) →
    am_wp (am_d (d + 1)) T_X2_isStable Q (2, [.ref 32, .int (Int32.ofInt (row : Int)), .int (Int32.ofInt (p : Int))], [], 0, 0) (lo_M n w3 g σ τ r1 r2) := by
  intro k
  induction k with
  | zero =>
    intro p hp h
    refine am_wp_go (am_d_cm _) (fun pc => Nat.beq pc 2) 60 ?_
    refine And.intro (fun c1 => ?_) (fun c1 => absurd ?_ c1)
    · exact And.intro (Or.inr rfl) h
    · show σ 32 3 ≤ Int32.ofInt (p : Int)
      rw [hn, zle (by unfold zr; omega) (by unfold zr; omega)]
      omega
  | succ k ih =>
    intro p hp h
    refine am_wp_go (am_d_cm _) (fun pc => Nat.beq pc 2) 60 ?_
    refine And.intro (fun c1 => ?_) (fun c1 => ?_)
    · have c1 : σ 32 3 ≤ Int32.ofInt (p : Int) := c1
      rw [hn, zle (by unfold zr; omega) (by unfold zr; omega)] at c1
      omega
    · unfold ist at h
      refine s_wouldLeaveC d _ hk hW hRN hrow hR (show p < N by omega) hN (hsf p (by omega)) (hs p (by omega)) (hin p (by omega)) hl hn hw ?_
      by_cases c2 : wlv W 1 (sf p) row p (1 + 1) 0 = true
      · rw [if_pos c2]
        rw [if_pos c2] at h
        refine And.intro (fun q => absurd q (by decide)) (fun _ => ?_)
        exact And.intro (Or.inl rfl) h
      · rw [if_neg c2]
        rw [if_neg c2] at h
        refine And.intro (fun _ => ?_) (fun q => absurd rfl q)
        have key := ih (p + 1) (by omega) h
        rw [show (((p + 1 : Nat) : Int)) = (p : Int) + 1 by omega, ← zadd (p : Int)] at key
        exact key
set_option maxRecDepth 100000 in
theorem s_settle_loopC (d : Nat) (Q : am_Q) {N Wn R : Nat} {sf : Nat → Nat} {W : Nat → Nat → Int} (hgr : ∀ c, c < 77 → c ≠ 34 → c ≠ r2) (hk : lo_sh w3 g r2 = (0, Wn)) (hW : Wn ≤ 2147483648) (hRN : R * N ≤ Wn) (hR : R ≤ 128) (hN : N ≤ 7) (hsf : ∀ p, p < N → sf p < 7) (hin : ∀ row, row < R → ∀ p, p < N → ∀ c, c < 1 + 1 → ins 1 (sf p) row c < R) : ∀ (k row : Nat) (x : Nat × Int) (σ : Nat → Nat → Int32), row + k = R → (∀ p, p < N → σ 33 p = Int32.ofInt (sf p : Int)) → σ 32 1 = Int32.ofInt 1 → σ 32 3 = Int32.ofInt (N : Int) → σ 32 5 = Int32.ofInt (R : Int) → (∀ row p, row < R → p < N → zr (W row p) ∧ σ r2 (row * N + p) = Int32.ofInt (W row p)) → x.1 ≤ row → σ 32 6 = Int32.ofInt (x.1 : Int) → σ 32 7 = Int32.ofInt x.2 →
    (∀ σ' : Nat → Nat → Int32, (∀ c, c ≠ 32 → σ' c = σ c) → (∀ i, i ≠ 6 → i ≠ 7 → σ' 32 i = σ 32 i) → σ' 32 6 = Int32.ofInt ((stl (fun row => ist W 1 sf row N 0) k row x).1 : Int) → σ' 32 7 = Int32.ofInt (stl (fun row => ist W 1 sf row N 0) k row x).2 → Q none (lo_M n w3 g σ' τ r1 r2)) →
    am_wp (am_d (d + 2)) T_X2_settle Q (12, [.ref 32, .int (Int32.ofInt (row : Int))], [], 0, 0) (lo_M n w3 g σ τ r1 r2) := by
  intro k
  induction k with
  | zero =>
    intro row x σ hrow hs hl hn h5 hw hx1 h6 h7 h
    refine am_wp_go (am_d_cm _) (fun pc => Nat.beq pc 12) 60 ?_
    refine And.intro (fun c1 => ?_) (fun c1 => absurd ?_ c1)
    · exact h σ (fun _ _ => rfl) (fun _ _ _ => rfl) h6 h7
    · show σ 32 5 ≤ Int32.ofInt (row : Int)
      rw [h5, zle (by unfold zr; omega) (by unfold zr; omega)]
      omega
  | succ k ih =>
    intro row x σ hrow hs hl hn h5 hw hx1 h6 h7 h
    have hG : 32 ≠ r2 := hgr 32 (by omega) (by omega)
    have hrl : row < R := by omega
    have eu : ∀ c v σ, σ r2 = (am_u σ 32 c v : Nat → Nat → Int32) r2 := fun c v σ => (am_u_ne (Ne.symm hG)).symm
    refine am_wp_go (am_d_cm _) (fun pc => Nat.beq pc 12) 60 ?_
    refine And.intro (fun c1 => ?_) (fun c1 => ?_)
    · have c1 : σ 32 5 ≤ Int32.ofInt (row : Int) := c1
      rw [h5, zle (by unfold zr; omega) (by unfold zr; omega)] at c1
      omega
    · refine am_goT (d := d + 1) (k := 15) T_X2_isStable [.ref 32, .int (Int32.ofInt (row : Int)), .null] rfl rfl (fun pc => Nat.beq pc 2) 60 ?_
      refine s_isStable_loopC d _ hk hW hRN hrl hR hN hsf hs (hin row hrl) hl hn hw N 0 (by omega) ?_
      have er : Int32.ofInt (row : Int) + Int32.ofInt 1 = Int32.ofInt ((row + 1 : Nat) : Int) := by
        rw [zadd]
        congr 1
      by_cases c2 : ist W 1 sf row N 0 = true
      · rw [if_pos c2]
        refine And.intro (fun q => absurd q (by decide)) (fun _ => ?_)
        have e1 : σ 32 6 + Int32.ofInt 1 = Int32.ofInt ((x.1 + 1 : Nat) : Int) := by
          rw [h6, zadd]
          congr 1
        have st : stl (fun row => ist W 1 sf row N 0) (k + 1) row x = stl (fun row => ist W 1 sf row N 0) k (row + 1) (x.1 + 1, if x.1 = 0 then (row : Int) else x.2) := by
          show stl _ k (row + 1) (if _ then _ else _) = _
          rw [if_pos c2]
        rw [st] at h
        refine And.intro (fun c3 => ?_) (fun c3 => ?_)
        · have c3 : σ 32 6 = 0 := c3
          rw [h6, zeq0 (by unfold zr; omega)] at c3
          have hx0 : x.1 = 0 := by omega
          rw [if_pos hx0] at h
          have key := ih (row + 1) (x.1 + 1, (row : Int)) (am_u (am_u σ 32 7 (Int32.ofInt (row : Int))) 32 6 (Int32.ofInt ((x.1 + 1 : Nat) : Int))) (by omega) hs hl hn h5 (fun a b ha hb => by rw [← eu, ← eu]; exact hw a b ha hb) (by dsimp only; omega) rfl rfl (fun σ' k1 k2 k3 k4 => h σ' (fun c e => by rw [k1 c e, am_u_ne e, am_u_ne e]) (fun i e1 e2 => by rw [k2 i e1 e2, am_u_at, if_neg e1, am_u_at, if_neg e2]) k3 k4)
          rw [← er, ← e1] at key
          exact key
        · have c3 : ¬ σ 32 6 = 0 := c3
          rw [h6, zeq0 (by unfold zr; omega)] at c3
          rw [if_neg (by omega)] at h
          have key := ih (row + 1) (x.1 + 1, x.2) (am_u σ 32 6 (Int32.ofInt ((x.1 + 1 : Nat) : Int))) (by omega) hs hl hn h5 (fun a b ha hb => by rw [← eu]; exact hw a b ha hb) (by dsimp only; omega) rfl h7 (fun σ' k1 k2 k3 k4 => h σ' (fun c e => by rw [k1 c e, am_u_ne e]) (fun i e1 e2 => by rw [k2 i e1 e2, am_u_at, if_neg e1]) k3 k4)
          rw [← er, ← e1] at key
          exact key
      · rw [if_neg c2]
        refine And.intro (fun _ => ?_) (fun q => absurd rfl q)
        have st : stl (fun row => ist W 1 sf row N 0) (k + 1) row x = stl (fun row => ist W 1 sf row N 0) k (row + 1) x := by
          show stl _ k (row + 1) (if _ then _ else _) = _
          rw [if_neg c2]
        rw [st] at h
        have key := ih (row + 1) x σ (by omega) hs hl hn h5 hw (by omega) h6 h7 h
        rw [← er] at key
        exact key
set_option maxRecDepth 100000 in
theorem s_settleC (d : Nat) (Q : am_Q) {N Wn R : Nat} {sf : Nat → Nat} {W : Nat → Nat → Int} (hgr : ∀ c, c < 77 → c ≠ 34 → c ≠ r2) (hk : lo_sh w3 g r2 = (0, Wn)) (hW : Wn ≤ 2147483648) (hRN : R * N ≤ Wn) (hR : R ≤ 128) (hN : N ≤ 7) (hsf : ∀ p, p < N → sf p < 7) (hin : ∀ row, row < R → ∀ p, p < N → ∀ c, c < 1 + 1 → ins 1 (sf p) row c < R) (hs : ∀ p, p < N → σ 33 p = Int32.ofInt (sf p : Int)) (hl : σ 32 1 = Int32.ofInt 1) (hn : σ 32 3 = Int32.ofInt (N : Int)) (h5 : σ 32 5 = Int32.ofInt (R : Int)) (hw : ∀ row p, row < R → p < N → zr (W row p) ∧ σ r2 (row * N + p) = Int32.ofInt (W row p))
    (h : ∀ σ' : Nat → Nat → Int32, (∀ c, c ≠ 32 → σ' c = σ c) → (∀ i, i ≠ 6 → i ≠ 7 → σ' 32 i = σ 32 i) → σ' 32 6 = Int32.ofInt ((stl (fun row => ist W 1 sf row N 0) R 0 (0, -1)).1 : Int) → σ' 32 7 = Int32.ofInt (stl (fun row => ist W 1 sf row N 0) R 0 (0, -1)).2 → Q none (lo_M n w3 g σ' τ r1 r2)) : am_d (d + 3) 14 [.ref 32] 0 0 (lo_M n w3 g σ τ r1 r2) Q := by
  have hG : 32 ≠ r2 := hgr 32 (by omega) (by omega)
  have eu : ∀ c v σ, σ r2 = (am_u σ 32 c v : Nat → Nat → Int32) r2 := fun c v σ => (am_u_ne (Ne.symm hG)).symm
  refine am_goT T_X2_settle [.ref 32, .null] rfl rfl (fun pc => Nat.beq pc 12) 60 ?_
  exact s_settle_loopC d Q hgr hk hW hRN hR hN hsf hin R 0 (0, -1) (am_u (am_u σ 32 6 (Int32.ofInt 0)) 32 7 (Int32.ofInt (-1))) (by omega) hs hl hn h5 (fun a b ha hb => by rw [← eu, ← eu]; exact hw a b ha hb) (Nat.le_refl _) rfl rfl (fun σ' k1 k2 k3 k4 => h σ' (fun c e => by rw [k1 c e, am_u_ne e, am_u_ne e]) (fun i e1 e2 => by rw [k2 i e1 e2, am_u_at, if_neg e2, am_u_at, if_neg e1]) k3 k4)
end GAC
