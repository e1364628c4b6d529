/-! the other church -/
set_option maxHeartbeats 1000000 in
set_option maxRecDepth 100000 in
theorem s_takeIn_loop26 (d : Nat) {n w3 : Nat} {g : Nat → Nat × Nat} {τ : Nat → Nat → Int64} {r1 r2 : Nat} (Q : am_Q) {p : Nat} {lw : Int} {gs : Nat → Int} (hp : p < 7) (hlw : zr lw) (hgs : ∀ q, q < 7 → zr (gs q)) : ∀ (R L2 : List Nat) (σ : Nat → Nat → Int32), (∀ q ∈ R, q < 7) → R.length + L2.length < 7 → (∀ q, q < 7 → σ 22 q = Int32.ofInt (gs q)) → hol σ 28 0 R.reverse → hol σ 28 (R.length + 1) L2 →
    (∀ σ' : Nat → Nat → Int32, (∀ c, c ≠ 26 → c ≠ 28 → σ' c = σ c) → σ' 26 5 = σ 26 5 + Int32.ofInt 1 → (∀ i, i ≠ 5 → σ' 26 i = σ 26 i) → hol σ' 28 0 (insL (fun q => mvs lw (gs q) (gs p)) p R L2) → Q none (lo_M n w3 g σ' τ r1 r2)) →
    am_wp (am_d (d + 1)) T_X0_takeIn Q (6, [.ref 26, .int (Int32.ofInt (p : Int)), .ref 22, .int (Int32.ofInt lw), .int (Int32.ofInt (R.length : Int))], [], 0, 0) (lo_M n w3 g σ τ r1 r2) := by
  intro R
  induction R with
  | nil =>
    intro L2 σ hR hl hg h1 h2 h
    refine am_wp_go (am_d_cm _) (fun pc => Nat.beq pc 6) 60 ?_
    refine And.intro (fun c1 => ?_) (fun c1 => absurd (by rw [zle0 (by unfold zr; simp)]; simp) c1)
    refine ixi 0 7 (by omega) ?_
    refine h (am_u (am_u σ 28 0 (Int32.ofInt p)) 26 5 (σ 26 5 + Int32.ofInt 1)) ?_ ?_ ?_ ?_
    · intro c hc1 hc2
      rw [am_u_ne hc1, am_u_ne hc2]
    · rfl
    · intro i hi
      rw [am_u_at, if_neg hi]
      rfl
    · refine hol_cons rfl ?_
      refine hol_off h2 (fun i hi hi2 => ?_)
      have hi : 1 ≤ i := hi
      show (if i = 0 then _ else _) = _
      rw [if_neg (by omega)]
  | cons q R ih =>
    intro L2 σ hR hl hg h1 h2 h
    have hq7 : q < 7 := hR q List.mem_cons_self
    have hlen : (q :: R).length = R.length + 1 := rfl
    have hq : σ 28 R.length = Int32.ofInt (q : Int) := by
      have := h1 R.length q (by rw [List.reverse_cons, List.getElem?_append_right (by simp)]; simp)
      rw [Nat.zero_add] at this
      exact this
    refine am_wp_go (am_d_cm _) (fun pc => Nat.beq pc 6) 60 ?_
    refine And.intro (fun c1 => absurd c1 (by rw [zle0 (by unfold zr; simp; omega)]; simp)) (fun c1 => ?_)
    refine ixi R.length 7 (by omega) ?_ (by rw [zsub, hlen]; congr 1; omega)
    refine ixi q 7 (by omega) ?_
    refine ixi p 7 (by omega) ?_
    show am_d (d + 1) 3 [.int (σ 22 q), .int (σ 22 p), .int (Int32.ofInt lw)] 0 0 _ _
    rw [hg q hq7, hg p hp]
    refine s_movesUp d hlw (hgs q hq7) (hgs p hp) _ _ ?_
    by_cases hmv : mvs lw (gs q) (gs p) = true
    · rw [if_pos hmv]
      refine And.intro (fun c2 => absurd c2 (by decide)) (fun c2 => ?_)
      refine ixi R.length 7 (by omega) ?_ (by rw [zsub, hlen]; congr 1; omega)
      refine ixi (R.length + 1) 7 (by omega) ?_
      have hs : (Int32.ofInt ((q :: R).length : Int) + Int32.ofInt (-1)) = Int32.ofInt (R.length : Int) := by rw [zadd, hlen]; congr 1; omega
      show am_wp _ _ _ (6, [.ref 26, .int (Int32.ofInt (p : Int)), .ref 22, .int (Int32.ofInt lw), .int (Int32.ofInt ((q :: R).length : Int) + Int32.ofInt (-1))], [], 0, 0) (lo_M n w3 g (am_u σ 28 (R.length + 1) (σ 28 R.length)) τ r1 r2)
      rw [hs]
      refine ih (q :: L2) _ (fun q hq => hR q (List.mem_cons_of_mem _ hq)) (by rw [hlen] at hl; simp; omega) (fun q hq => hg q hq) ?_ ?_ (fun σ' k1 k2 k3 k4 => h σ' (fun c e1 e2 => ?_) k2 (fun i hi => k3 i hi) ?_)
      · refine hol_off (hol_left (L2 := [q]) (by rw [← List.reverse_cons]; exact h1)) (fun i _ hi => ?_)
        rw [List.length_reverse] at hi
        show (if i = R.length + 1 then _ else _) = _
        rw [if_neg (by omega)]
      · refine hol_cons ?_ (hol_off h2 (fun i hi _ => ?_))
        · show (if R.length + 1 = R.length + 1 then _ else _) = _
          rw [if_pos rfl]
          exact hq
        · have hi : R.length + 1 + 1 ≤ i := hi
          show (if i = R.length + 1 then _ else _) = _
          rw [if_neg (by omega)]
      · rw [k1 c e1 e2, am_u_ne e2]
      · unfold insL
        rw [if_pos hmv]
        exact k4
    · rw [if_neg hmv]
      refine And.intro (fun c2 => ?_) (fun c2 => absurd rfl c2)
      refine ixi (R.length + 1) 7 (by omega) ?_
      refine h (am_u (am_u σ 28 (R.length + 1) (Int32.ofInt p)) 26 5 (σ 26 5 + Int32.ofInt 1)) ?_ ?_ ?_ ?_
      · intro c hc1 hc2
        rw [am_u_ne hc1, am_u_ne hc2]
      · rfl
      · intro i hi
        rw [am_u_at, if_neg hi]
        rfl
      · unfold insL
        rw [if_neg hmv]
        refine hol_app (hol_off h1 (fun i _ hi => ?_)) ?_
        · rw [List.length_reverse, hlen] at hi
          show (if i = R.length + 1 then _ else _) = _
          rw [if_neg (by omega)]
        · rw [List.length_reverse, Nat.zero_add]
          refine hol_cons ?_ (hol_off h2 (fun i hi _ => ?_))
          · show (if R.length + 1 = R.length + 1 then _ else _) = _
            rw [if_pos rfl]
          · rw [hlen] at hi
            show (if i = R.length + 1 then _ else _) = _
            rw [if_neg (by omega)]

set_option maxRecDepth 100000 in
theorem s_takeIn26 (d : Nat) {n w3 : Nat} {g : Nat → Nat × Nat} {τ : Nat → Nat → Int64} {r1 r2 : Nat} (Q : am_Q) {p : Nat} {lw : Int} {gs : Nat → Int} (hp : p < 7) (hlw : zr lw) (hgs : ∀ q, q < 7 → zr (gs q)) (L : List Nat) (σ : Nat → Nat → Int32) (hL : ∀ q ∈ L, q < 7) (hl : L.length < 7) (hg : ∀ q, q < 7 → σ 22 q = Int32.ofInt (gs q)) (ht : σ 26 5 = Int32.ofInt (L.length : Int)) (h1 : hol σ 28 0 L)
    (h : ∀ σ' : Nat → Nat → Int32, (∀ c, c ≠ 26 → c ≠ 28 → σ' c = σ c) → σ' 26 5 = Int32.ofInt ((L.length + 1 : Nat) : Int) → (∀ i, i ≠ 5 → σ' 26 i = σ 26 i) → hol σ' 28 0 (insL (fun q => mvs lw (gs q) (gs p)) p L.reverse []) → Q none (lo_M n w3 g σ' τ r1 r2)) :
    am_d (d + 2) 2 [.ref 26, .int (Int32.ofInt (p : Int)), .ref 22, .int (Int32.ofInt lw)] 0 0 (lo_M n w3 g σ τ r1 r2) Q := by
  refine am_goT T_X0_takeIn [.ref 26, .int (Int32.ofInt (p : Int)), .ref 22, .int (Int32.ofInt lw), .null] rfl rfl (fun pc => Nat.beq pc 6) 30 ?_
  show am_wp _ _ _ (6, [.ref 26, .int (Int32.ofInt (p : Int)), .ref 22, .int (Int32.ofInt lw), .int (σ 26 5)], [], 0, 0) (lo_M n w3 g σ τ r1 r2)
  rw [ht, show (L.length : Int) = (L.reverse.length : Int) by rw [List.length_reverse]]
  refine s_takeIn_loop26 d Q hp hlw hgs L.reverse [] σ (fun q hq => hL q (List.mem_reverse.mp hq)) (by rw [List.length_reverse]; exact hl) hg (by rw [List.reverse_reverse]; exact h1) (fun i q hq => by simp at hq) (fun σ' k1 k2 k3 k4 => h σ' k1 ?_ k3 k4)
  rw [k2, ht, zadd]
  rfl
set_option maxHeartbeats 1000000 in
set_option maxRecDepth 100000 in
theorem s_fill226 (d : Nat) {n w3 : Nat} {g : Nat → Nat × Nat} {τ : Nat → Nat → Int64} {r1 r2 : Nat} (Q : am_Q) {mk lw : Int32} (L : List Nat) (hL : ∀ q ∈ L, q < 7) (hl : L.length ≤ 7) : ∀ (k j : Nat) (σ : Nat → Nat → Int32), j + k = L.length → σ 26 5 = Int32.ofInt (L.length : Int) → hol σ 28 0 L →
    (∀ σ' : Nat → Nat → Int32, (∀ c, c ≠ 27 → σ' c = σ c) → (∀ q, σ' 27 q = asg L j k (σ 27) q) → Q none (lo_M n w3 g σ' τ r1 r2)) →
    am_wp (am_d (d + 2)) T_X0_fill Q (71, [.ref 26, .ref 22, .int mk, .int lw, .int (Int32.ofInt (j : Int))], [], 0, 0) (lo_M n w3 g σ τ r1 r2) := by
  intro k
  induction k with
  | zero =>
    intro j σ hj ht h1 h
    refine am_wp_go (am_d_cm _) (fun pc => Nat.beq pc 71) 60 ?_
    refine And.intro (fun c1 => ?_) (fun c1 => absurd ?_ c1)
    · exact h σ (fun _ _ => rfl) (fun _ => rfl)
    · show σ 26 5 ≤ Int32.ofInt (j : Int)
      rw [ht, zle (by unfold zr; omega) (by unfold zr; omega)]
      omega
  | succ k ih =>
    intro j σ hj ht h1 h
    have hjl : j < L.length := by omega
    have hq := h1 j L[j] (List.getElem?_eq_getElem hjl)
    rw [Nat.zero_add] at hq
    have hq7 : L[j] < 7 := hL _ (List.getElem_mem hjl)
    refine am_wp_go (am_d_cm _) (fun pc => Nat.beq pc 71) 60 ?_
    refine And.intro (fun c1 => ?_) (fun c1 => ?_)
    · have c1 : σ 26 5 ≤ Int32.ofInt (j : Int) := c1
      rw [ht, zle (by unfold zr; omega) (by unfold zr; omega)] at c1
      omega
    · refine ixi j 7 (by omega) ?_
      refine ixi L[j] 7 hq7 ?_
      show am_wp _ _ _ (71, [.ref 26, .ref 22, .int mk, .int lw, .int (Int32.ofInt (j : Int) + Int32.ofInt 1)], [], 0, 0) (lo_M n w3 g (am_u σ 27 L[j] (Int32.ofInt (j : Int))) τ r1 r2)
      rw [zadd, show ((j : Int) + 1) = ((j + 1 : Nat) : Int) by omega]
      refine ih (j + 1) _ (by omega) ht h1 (fun σ' k1 k2 => h σ' (fun c hc => by rw [k1 c hc, am_u_ne hc]) (fun q => ?_))
      rw [k2 q, asg_succ (List.getElem?_eq_getElem hjl)]
      exact congrArg (fun f => asg L (j + 1) k f q) (funext fun q' => am_u_at)
set_option maxHeartbeats 1000000 in
set_option maxRecDepth 100000 in
theorem s_fill126 (d : Nat) {n w3 : Nat} {g : Nat → Nat × Nat} {τ : Nat → Nat → Int64} {r1 r2 : Nat} (Q : am_Q) {N : Nat} {mk : Int32} {lw bell : Int} {gs : Nat → Int} {mem : Nat → Bool} (hN : N ≤ 7) (hlw : zr lw) (hbell : zr bell) (hgs : ∀ q, q < 7 → zr (gs q)) (hmem : ∀ p, p < N → ((mk >>> (Int32.ofInt (p : Int) &&& 31)) &&& Int32.ofInt 1 = Int32.ofInt 1 ↔ mem p = true)) : ∀ (k p : Nat) (σ : Nat → Nat → Int32), p + k = N → σ 5 4 = Int32.ofInt (N : Int) → σ 12 0 = Int32.ofInt bell → (∀ q, q < 7 → σ 22 q = Int32.ofInt (gs q)) → σ 26 5 = Int32.ofInt ((fL lw bell gs mem p).length : Int) → hol σ 28 0 (fL lw bell gs mem p) → (∀ q, q < p → σ 27 q = Int32.ofInt (-1)) →
    (∀ σ' : Nat → Nat → Int32, (∀ c, c ≠ 26 → c ≠ 27 → c ≠ 28 → σ' c = σ c) → (∀ i, i ≠ 5 → σ' 26 i = σ 26 i) → σ' 26 5 = Int32.ofInt ((fL lw bell gs mem N).length : Int) → hol σ' 28 0 (fL lw bell gs mem N) → (∀ q, q < N → σ' 27 q = Int32.ofInt (seatZ (fL lw bell gs mem N) q)) → Q none (lo_M n w3 g σ' τ r1 r2)) →
    am_wp (am_d (d + 2)) T_X0_fill Q (8, [.ref 26, .ref 22, .int mk, .int (Int32.ofInt lw), .int (Int32.ofInt (p : Int))], [], 0, 0) (lo_M n w3 g σ τ r1 r2) := by
  intro k
  induction k with
  | zero =>
    intro p σ hp hn hb hg ht h1 hs h
    have hpN : p = N := by omega
    subst hpN
    refine am_wp_go (am_d_cm _) (fun pc => Nat.beq pc 8 || Nat.beq pc 71) 60 ?_
    refine And.intro (fun c1 => ?_) (fun c1 => absurd ?_ c1)
    · refine s_fill226 d Q (fL lw bell gs mem p) (fun q hq => Nat.lt_of_lt_of_le (fL_lt _ q hq) hN) (Nat.le_trans (fL_len _) hN) (fL lw bell gs mem p).length 0 σ (by omega) ht h1 (fun σ' k1 k2 => ?_)
      refine h σ' (fun c e1 e2 e3 => k1 c e2) (fun i hi => by rw [k1 26 (by decide)]) (by rw [k1 26 (by decide)]; exact ht) (hol_off h1 (fun i _ _ => by rw [k1 28 (by decide)])) (fun q hq => ?_)
      rw [k2 q]
      exact asg_seatZ _ q (hs q hq)
    · show σ 5 4 ≤ Int32.ofInt (p : Int)
      rw [hn]
      exact Int32.le_refl _
  | succ k ih =>
    intro p σ hp hn hb hg ht h1 hs h
    have hp7 : p < 7 := by omega
    have hflen := fL_len (lw := lw) (bell := bell) (gs := gs) (mem := mem) p
    have next : ∀ σ1 : Nat → Nat → Int32, (∀ c, c ≠ 26 → c ≠ 27 → c ≠ 28 → σ1 c = σ c) → (∀ i, i ≠ 5 → σ1 26 i = σ 26 i) → σ1 26 5 = Int32.ofInt ((fL lw bell gs mem (p + 1)).length : Int) → hol σ1 28 0 (fL lw bell gs mem (p + 1)) → σ1 27 = am_u σ 27 p (Int32.ofInt (-1)) 27 → am_wp (am_d (d + 2)) T_X0_fill Q (8, [.ref 26, .ref 22, .int mk, .int (Int32.ofInt lw), .int (Int32.ofInt (p : Int) + Int32.ofInt 1)], [], 0, 0) (lo_M n w3 g σ1 τ r1 r2) := by
      intro σ1 k1 k2 k3 k4 k5
      rw [zadd, show ((p : Int) + 1) = ((p + 1 : Nat) : Int) by omega]
      refine ih (p + 1) σ1 (by omega) (by rw [k1 5 (by decide) (by decide) (by decide)]; exact hn) (by rw [k1 12 (by decide) (by decide) (by decide)]; exact hb) (fun q hq => by rw [k1 22 (by decide) (by decide) (by decide)]; exact hg q hq) k3 k4 (fun q hq => ?_) (fun σ' j1 j2 j3 j4 j5 => h σ' (fun c e1 e2 e3 => by rw [j1 c e1 e2 e3, k1 c e1 e2 e3]) (fun i hi => by rw [j2 i hi, k2 i hi]) j3 j4 j5)
      rw [k5, am_u_at]
      split
      · rfl
      · exact hs q (by omega)
    refine am_wp_go (am_d_cm _) (fun pc => Nat.beq pc 8 || Nat.beq pc 71) 60 ?_
    refine And.intro (fun c1 => ?_) (fun c1 => ?_)
    · have c1 : σ 5 4 ≤ Int32.ofInt (p : Int) := c1
      rw [hn, zle (by unfold zr; omega) (by unfold zr; omega)] at c1
      omega
    · refine ixi p 7 hp7 ?_
      refine And.intro (fun c2 => ?_) (fun c2 => ?_)
      · have hm : mem p = true := (hmem p (by omega)).mp c2
        refine ixi p 7 hp7 ?_
        refine ixi 0 6 (by omega) ?_
        refine And.intro (fun c3 => ?_) (fun c3 => ?_)
        · have c3 : σ 12 0 ≤ σ 22 p := c3
          rw [hb, hg p hp7, zle hbell (hgs p hp7)] at c3
          have hf : fL lw bell gs mem (p + 1) = fL lw bell gs mem p := by
            show (if _ then _ else _) = _
            rw [if_neg (fun q => by omega)]
          refine next (am_u σ 27 p (Int32.ofInt (-1))) (fun c e1 e2 e3 => am_u_ne e2) (fun i _ => rfl) (by rw [hf]; exact ht) (by rw [hf]; exact h1) rfl
        · have c3 : ¬ σ 12 0 ≤ σ 22 p := c3
          rw [hb, hg p hp7, zle hbell (hgs p hp7)] at c3
          have hf : fL lw bell gs mem (p + 1) = insL (fun q => mvs lw (gs q) (gs p)) p (fL lw bell gs mem p).reverse [] := by
            show (if _ then _ else _) = _
            rw [if_pos ⟨hm, by omega⟩]
          have hlen : (fL lw bell gs mem (p + 1)).length = (fL lw bell gs mem p).length + 1 := by rw [hf, insL_len]; simp
          refine s_takeIn26 d _ hp7 hlw hgs (fL lw bell gs mem p) (am_u σ 27 p (Int32.ofInt (-1))) (fun q hq => Nat.lt_of_lt_of_le (fL_lt p q hq) (by omega)) (by omega) hg ht h1 (fun σ' k1 k2 k3 k4 => ?_)
          refine next σ' (fun c e1 e2 e3 => by rw [k1 c e1 e3, am_u_ne e2]) (fun i hi => by rw [k3 i hi]; rfl) (by rw [k2, hlen]) (by rw [hf]; exact k4) (k1 27 (by decide) (by decide))
      · have hm : ¬ mem p = true := fun q => c2 ((hmem p (by omega)).mpr q)
        have hf : fL lw bell gs mem (p + 1) = fL lw bell gs mem p := by
          show (if _ then _ else _) = _
          rw [if_neg (fun q => hm q.1)]
        refine next (am_u σ 27 p (Int32.ofInt (-1))) (fun c e1 e2 e3 => am_u_ne e2) (fun i _ => rfl) (by rw [hf]; exact ht) (by rw [hf]; exact h1) rfl
set_option maxRecDepth 100000 in
/-- the church is filled: who sits where -/
theorem s_fill26 (d : Nat) {n w3 : Nat} {g : Nat → Nat × Nat} {τ : Nat → Nat → Int64} {r1 r2 : Nat} (Q : am_Q) {N : Nat} {mk : Int32} {lw bell : Int} {gs : Nat → Int} {mem : Nat → Bool} {σ : Nat → Nat → Int32} (hN : N ≤ 7) (hlw : zr lw) (hbell : zr bell) (hgs : ∀ q, q < 7 → zr (gs q)) (hmem : ∀ p, p < N → ((mk >>> (Int32.ofInt (p : Int) &&& 31)) &&& Int32.ofInt 1 = Int32.ofInt 1 ↔ mem p = true)) (hn : σ 5 4 = Int32.ofInt (N : Int)) (hb : σ 12 0 = Int32.ofInt bell) (hg : ∀ q, q < 7 → σ 22 q = Int32.ofInt (gs q))
    (h : ∀ σ' : Nat → Nat → Int32, (∀ c, c ≠ 26 → c ≠ 27 → c ≠ 28 → σ' c = σ c) → (∀ i, i ≠ 5 → σ' 26 i = σ 26 i) → σ' 26 5 = Int32.ofInt ((fL lw bell gs mem N).length : Int) → hol σ' 28 0 (fL lw bell gs mem N) → (∀ q, q < N → σ' 27 q = Int32.ofInt (seatZ (fL lw bell gs mem N) q)) → Q none (lo_M n w3 g σ' τ r1 r2)) :
    am_d (d + 3) 1 [.ref 26, .ref 22, .int mk, .int (Int32.ofInt lw)] 0 0 (lo_M n w3 g σ τ r1 r2) Q := by
  refine am_goT T_X0_fill [.ref 26, .ref 22, .int mk, .int (Int32.ofInt lw), .null] rfl rfl (fun pc => Nat.beq pc 8 || Nat.beq pc 71) 30 ?_
  refine s_fill126 d Q hN hlw hbell hgs hmem N 0 (am_u σ 26 5 (Int32.ofInt 0)) (by omega) hn hb hg rfl (fun i q hq => by simp [fL] at hq) (fun q hq => by omega) (fun σ' k1 k2 k3 k4 k5 => h σ' (fun c e1 e2 e3 => by rw [k1 c e1 e2 e3, am_u_ne e1]) (fun i hi => by rw [k2 i hi, am_u_at, if_neg hi]) k3 k4 k5)
