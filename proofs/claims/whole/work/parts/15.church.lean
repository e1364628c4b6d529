/-! Church -/
/-- where the new one goes: from the last sitter on, as long as each moves up -/
def insL (mv : Nat → Bool) (p : Nat) : List Nat → List Nat → List Nat
  | [], L2 => p :: L2
  | q :: R, L2 => if mv q then insL mv p R (q :: L2) else (q :: R).reverse ++ p :: L2
def mvs (lw : Int) (gq gp : Int) : Bool := if lw = 0 then decide (gq > gp) else decide (gq ≤ gp)
set_option maxRecDepth 100000 in
theorem s_movesUp (d : Nat) {lw a b : Int} (hl : zr lw) (ha : zr a) (hb : zr b) (M : am_M) (Q : am_Q) (h : Q (some (.int (if mvs lw a b then 1 else 0))) M) : am_d (d + 1) 3 [.int (Int32.ofInt a), .int (Int32.ofInt b), .int (Int32.ofInt lw)] 0 0 M Q := by
  refine am_goT T_X0_movesUp [.int (Int32.ofInt a), .int (Int32.ofInt b), .int (Int32.ofInt lw)] rfl rfl (fun _ => false) 30 ?_
  refine And.intro (fun c1 => And.intro (fun c2 => And.intro (Or.inl rfl) ?_) (fun c2 => And.intro (Or.inr rfl) ?_)) (fun c1 => And.intro (fun c2 => And.intro (Or.inl rfl) ?_) (fun c2 => And.intro (Or.inr rfl) ?_))
  · rw [zeq0 hl] at c1
    rw [zle ha hb] at c2
    rw [if_neg (by unfold mvs; rw [if_pos c1]; simp; exact c2)] at h
    exact h
  · rw [zeq0 hl] at c1
    rw [zle ha hb] at c2
    rw [if_pos (by unfold mvs; rw [if_pos c1]; simp; omega)] at h
    exact h
  · rw [zeq0 hl] at c1
    rw [zlt hb ha] at c2
    rw [if_neg (by unfold mvs; rw [if_neg c1]; simp; exact c2)] at h
    exact h
  · rw [zeq0 hl] at c1
    rw [zlt hb ha] at c2
    rw [if_pos (by unfold mvs; rw [if_neg c1]; simp; omega)] at h
    exact h
/-- sitters hold a list -/
def hol (σ : Nat → Nat → Int32) (c i0 : Nat) (L : List Nat) : Prop := ∀ (i q : Nat), L[i]? = some q → σ c (i0 + i) = Int32.ofInt (q : Int)
theorem hol_app {σ : Nat → Nat → Int32} {c i0 : Nat} {L1 L2 : List Nat} (h1 : hol σ c i0 L1) (h2 : hol σ c (i0 + L1.length) L2) : hol σ c i0 (L1 ++ L2) := by
  intro i q h
  by_cases hi : i < L1.length
  · rw [List.getElem?_append_left hi] at h
    exact h1 i q h
  · rw [List.getElem?_append_right (by omega)] at h
    have := h2 _ q h
    rw [show i0 + L1.length + (i - L1.length) = i0 + i by omega] at this
    exact this
theorem hol_left {σ : Nat → Nat → Int32} {c i0 : Nat} {L1 L2 : List Nat} (h : hol σ c i0 (L1 ++ L2)) : hol σ c i0 L1 := by
  intro i q hq
  exact h i q (by rw [List.getElem?_append_left (List.getElem?_eq_some_iff.mp hq).1]; exact hq)
theorem hol_off {σ σ' : Nat → Nat → Int32} {c i0 : Nat} {L : List Nat} (h : hol σ c i0 L) (he : ∀ i, i0 ≤ i → i < i0 + L.length → σ' c i = σ c i) : hol σ' c i0 L := by
  intro i q hq
  have hl := (List.getElem?_eq_some_iff.mp hq).1
  rw [he _ (by omega) (by omega)]
  exact h i q hq
theorem hol_cons {σ : Nat → Nat → Int32} {c i0 q : Nat} {L : List Nat} (h1 : σ c i0 = Int32.ofInt (q : Int)) (h2 : hol σ c (i0 + 1) L) : hol σ c i0 (q :: L) := by
  intro i p hp
  cases i with
  | zero => cases hp; exact h1
  | succ i =>
    have := h2 i p hp
    rw [show i0 + 1 + i = i0 + (i + 1) by omega] at this
    exact this
set_option maxHeartbeats 1000000 in
set_option maxRecDepth 100000 in
theorem s_takeIn_loop (d : Nat) {n w3 : Nat} {g : Nat → Nat × Nat} {τ : Nat → Nat → Int64} {r1 r2 : Nat} (Q : am_Q) {p : Nat} {lw : Int} {gs : Nat → Int} (hp : p < 7) (hlw : zr lw) (hgs : ∀ q, q < 7 → zr (gs q)) : ∀ (R L2 : List Nat) (σ : Nat → Nat → Int32), (∀ q ∈ R, q < 7) → R.length + L2.length < 7 → (∀ q, q < 7 → σ 22 q = Int32.ofInt (gs q)) → hol σ 25 0 R.reverse → hol σ 25 (R.length + 1) L2 →
    (∀ σ' : Nat → Nat → Int32, (∀ c, c ≠ 23 → c ≠ 25 → σ' c = σ c) → σ' 23 5 = σ 23 5 + Int32.ofInt 1 → (∀ i, i ≠ 5 → σ' 23 i = σ 23 i) → hol σ' 25 0 (insL (fun q => mvs lw (gs q) (gs p)) p R L2) → Q none (lo_M n w3 g σ' τ r1 r2)) →
    am_wp (am_d (d + 1)) T_X0_takeIn Q (6, [.ref 23, .int (Int32.ofInt (p : Int)), .ref 22, .int (Int32.ofInt lw), .int (Int32.ofInt (R.length : Int))], [], 0, 0) (lo_M n w3 g σ τ r1 r2) := by
  intro R
  induction R with
  | nil =>
    intro L2 σ hR hl hg h1 h2 h
    refine am_wp_go (am_d_cm _) (fun pc => Nat.beq pc 6) 60 ?_
    refine And.intro (fun c1 => ?_) (fun c1 => absurd (by rw [zle0 (by unfold zr; simp)]; simp) c1)
    refine ixi 0 7 (by omega) ?_
    refine h (am_u (am_u σ 25 0 (Int32.ofInt p)) 23 5 (σ 23 5 + Int32.ofInt 1)) ?_ ?_ ?_ ?_
    · intro c hc1 hc2
      rw [am_u_ne hc1, am_u_ne hc2]
    · rfl
    · intro i hi
      rw [am_u_at, if_neg hi]
      rfl
    · refine hol_cons rfl ?_
      refine hol_off h2 (fun i hi hi2 => ?_)
      have hi : 1 ≤ i := hi
      show (if i = 0 then _ else _) = _
      rw [if_neg (by omega)]
  | cons q R ih =>
    intro L2 σ hR hl hg h1 h2 h
    have hq7 : q < 7 := hR q List.mem_cons_self
    have hlen : (q :: R).length = R.length + 1 := rfl
    have hq : σ 25 R.length = Int32.ofInt (q : Int) := by
      have := h1 R.length q (by rw [List.reverse_cons, List.getElem?_append_right (by simp)]; simp)
      rw [Nat.zero_add] at this
      exact this
    refine am_wp_go (am_d_cm _) (fun pc => Nat.beq pc 6) 60 ?_
    refine And.intro (fun c1 => absurd c1 (by rw [zle0 (by unfold zr; simp; omega)]; simp)) (fun c1 => ?_)
    refine ixi R.length 7 (by omega) ?_ (by rw [zsub, hlen]; congr 1; omega)
    refine ixi q 7 (by omega) ?_
    refine ixi p 7 (by omega) ?_
    show am_d (d + 1) 3 [.int (σ 22 q), .int (σ 22 p), .int (Int32.ofInt lw)] 0 0 _ _
    rw [hg q hq7, hg p hp]
    refine s_movesUp d hlw (hgs q hq7) (hgs p hp) _ _ ?_
    by_cases hmv : mvs lw (gs q) (gs p) = true
    · rw [if_pos hmv]
      refine And.intro (fun c2 => absurd c2 (by decide)) (fun c2 => ?_)
      refine ixi R.length 7 (by omega) ?_ (by rw [zsub, hlen]; congr 1; omega)
      refine ixi (R.length + 1) 7 (by omega) ?_
      have hs : (Int32.ofInt ((q :: R).length : Int) + Int32.ofInt (-1)) = Int32.ofInt (R.length : Int) := by rw [zadd, hlen]; congr 1; omega
      show am_wp _ _ _ (6, [.ref 23, .int (Int32.ofInt (p : Int)), .ref 22, .int (Int32.ofInt lw), .int (Int32.ofInt ((q :: R).length : Int) + Int32.ofInt (-1))], [], 0, 0) (lo_M n w3 g (am_u σ 25 (R.length + 1) (σ 25 R.length)) τ r1 r2)
      rw [hs]
      refine ih (q :: L2) _ (fun q hq => hR q (List.mem_cons_of_mem _ hq)) (by rw [hlen] at hl; simp; omega) (fun q hq => hg q hq) ?_ ?_ (fun σ' k1 k2 k3 k4 => h σ' (fun c e1 e2 => ?_) k2 (fun i hi => k3 i hi) ?_)
      · refine hol_off (hol_left (L2 := [q]) (by rw [← List.reverse_cons]; exact h1)) (fun i _ hi => ?_)
        rw [List.length_reverse] at hi
        show (if i = R.length + 1 then _ else _) = _
        rw [if_neg (by omega)]
      · refine hol_cons ?_ (hol_off h2 (fun i hi _ => ?_))
        · show (if R.length + 1 = R.length + 1 then _ else _) = _
          rw [if_pos rfl]
          exact hq
        · have hi : R.length + 1 + 1 ≤ i := hi
          show (if i = R.length + 1 then _ else _) = _
          rw [if_neg (by omega)]
      · rw [k1 c e1 e2, am_u_ne e2]
      · unfold insL
        rw [if_pos hmv]
        exact k4
    · rw [if_neg hmv]
      refine And.intro (fun c2 => ?_) (fun c2 => absurd rfl c2)
      refine ixi (R.length + 1) 7 (by omega) ?_
      refine h (am_u (am_u σ 25 (R.length + 1) (Int32.ofInt p)) 23 5 (σ 23 5 + Int32.ofInt 1)) ?_ ?_ ?_ ?_
      · intro c hc1 hc2
        rw [am_u_ne hc1, am_u_ne hc2]
      · rfl
      · intro i hi
        rw [am_u_at, if_neg hi]
        rfl
      · unfold insL
        rw [if_neg hmv]
        refine hol_app (hol_off h1 (fun i _ hi => ?_)) ?_
        · rw [List.length_reverse, hlen] at hi
          show (if i = R.length + 1 then _ else _) = _
          rw [if_neg (by omega)]
        · rw [List.length_reverse, Nat.zero_add]
          refine hol_cons ?_ (hol_off h2 (fun i hi _ => ?_))
          · show (if R.length + 1 = R.length + 1 then _ else _) = _
            rw [if_pos rfl]
          · rw [hlen] at hi
            show (if i = R.length + 1 then _ else _) = _
            rw [if_neg (by omega)]
