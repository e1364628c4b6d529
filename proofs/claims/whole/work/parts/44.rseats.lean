/-! the reference: who sits where -/
/-- by the law: q sits nearer to SEAT 0 than p -/
def rlt (lw : Int) (gs : Nat → Int) (q p : Nat) : Bool := if lw = 0 then decide (gs q < gs p ∨ (gs q = gs p ∧ q < p)) else decide (gs p < gs q ∨ (gs q = gs p ∧ p < q))
/-- how many of the first k do -/
def cR (lw bell : Int) (gs : Nat → Int) (mem : Nat → Bool) (p : Nat) : Nat → Nat
  | 0 => 0
  | k + 1 => cR lw bell gs mem p k + (if k ≠ p ∧ mem k = true ∧ gs k < bell ∧ rlt lw gs k p = true then 1 else 0)
theorem cR_le (lw bell : Int) (gs : Nat → Int) (mem : Nat → Bool) (p : Nat) : ∀ k, cR lw bell gs mem p k ≤ k
  | 0 => Nat.le_refl _
  | k + 1 => by
    have := cR_le lw bell gs mem p k
    unfold cR
    split <;> omega
theorem rlt_irr (lw : Int) (gs : Nat → Int) (p : Nat) : rlt lw gs p p = false := by
  unfold rlt
  split <;> simp
theorem rlt_tr {lw : Int} {gs : Nat → Int} {a b c : Nat} (h1 : rlt lw gs a b = true) (h2 : rlt lw gs b c = true) : rlt lw gs a c = true := by
  unfold rlt at *
  split at h1
  · next e =>
    rw [if_pos e] at h2 ⊢
    simp only [decide_eq_true_eq] at *
    omega
  · next e =>
    rw [if_neg e] at h2 ⊢
    simp only [decide_eq_true_eq] at *
    omega
theorem mvs_lt {lw : Int} {gs : Nat → Int} {q p : Nat} (h : q < p) : mvs lw (gs q) (gs p) = true → rlt lw gs p q = true := by
  unfold mvs rlt
  split
  · simp only [decide_eq_true_eq]
    omega
  · simp only [decide_eq_true_eq]
    omega
theorem mvs_ge {lw : Int} {gs : Nat → Int} {q p : Nat} (h : q < p) : mvs lw (gs q) (gs p) = false → rlt lw gs q p = true := by
  unfold mvs rlt
  split
  · simp only [decide_eq_true_eq, decide_eq_false_iff_not]
    omega
  · simp only [decide_eq_true_eq, decide_eq_false_iff_not]
    omega
theorem insL_pw {mv : Nat → Bool} {p : Nat} {rel : Nat → Nat → Prop} (tr : ∀ a b c, rel a b → rel b c → rel a c) : ∀ (R L2 : List Nat), (R.reverse ++ L2).Pairwise rel → (∀ q ∈ L2, rel p q) → (∀ q ∈ R, mv q = true → rel p q) → (∀ q ∈ R, mv q = false → rel q p) → (insL mv p R L2).Pairwise rel
  | [], L2, h, h2, _, _ => by
    unfold insL
    exact List.Pairwise.cons h2 h
  | q :: R, L2, h, h2, h3, h4 => by
    unfold insL
    split
    · next e =>
      refine insL_pw tr R (q :: L2) ?_ ?_ (fun x hx => h3 x (List.mem_cons_of_mem _ hx)) (fun x hx => h4 x (List.mem_cons_of_mem _ hx))
      · rw [List.reverse_cons, List.append_assoc] at h
        exact h
      · intro x hx
        rcases List.mem_cons.mp hx with rfl | hx
        · exact h3 x List.mem_cons_self e
        · exact h2 x hx
    · next e =>
      have e : mv q = false := by cases q1 : mv q with | true => exact absurd q1 e | false => rfl
      have hqp := h4 q List.mem_cons_self e
      rw [List.pairwise_append] at h ⊢
      obtain ⟨a1, a2, a3⟩ := h
      refine ⟨a1, List.Pairwise.cons h2 a2, ?_⟩
      intro x hx y hy
      rcases List.mem_cons.mp hy with rfl | hy
      · rw [List.reverse_cons, List.pairwise_append] at a1
        rw [List.reverse_cons, List.mem_append] at hx
        rcases hx with hx | hx
        · exact tr _ _ _ (a1.2.2 x hx q List.mem_cons_self) hqp
        · rw [List.mem_singleton] at hx
          subst hx
          exact hqp
      · exact a3 x hx y hy
theorem fL_pw {lw bell : Int} {gs : Nat → Int} {mem : Nat → Bool} : ∀ (N : Nat), (fL lw bell gs mem N).Pairwise (fun a b => rlt lw gs a b = true)
  | 0 => List.Pairwise.nil
  | N + 1 => by
    have ih := fL_pw (lw := lw) (bell := bell) (gs := gs) (mem := mem) N
    unfold fL
    split
    · refine insL_pw (rel := fun a b => rlt lw gs a b = true) (fun a b c h1 h2 => rlt_tr h1 h2) _ _ (by rw [List.reverse_reverse, List.append_nil]; exact ih) (fun q hq => absurd hq List.not_mem_nil) (fun q hq => ?_) (fun q hq => ?_)
      · exact mvs_lt (fL_lt N q (List.mem_reverse.mp hq))
      · exact mvs_ge (fL_lt N q (List.mem_reverse.mp hq))
    · exact ih
theorem fL_mem {lw bell : Int} {gs : Nat → Int} {mem : Nat → Bool} {p : Nat} : ∀ (N : Nat), p ∈ fL lw bell gs mem N ↔ p < N ∧ mem p = true ∧ gs p < bell
  | 0 => by simp [fL]
  | N + 1 => by
    have ih := fL_mem (lw := lw) (bell := bell) (gs := gs) (mem := mem) (p := p) N
    unfold fL
    split
    · next e =>
      rw [insL_mem, List.mem_reverse, ih]
      constructor
      · rintro (h | h | h)
        · subst h
          exact ⟨by omega, e⟩
        · exact ⟨by omega, h.2⟩
        · exact absurd h List.not_mem_nil
      · intro h
        by_cases q : p = N
        · exact Or.inl q
        · exact Or.inr (Or.inl ⟨by omega, h.2⟩)
    · next e =>
      rw [ih]
      constructor
      · intro h
        exact ⟨by omega, h.2⟩
      · intro h
        refine ⟨?_, h.2⟩
        rcases Nat.lt_or_ge p N with q | q
        · exact q
        · have : p = N := by omega
          subst this
          exact absurd h.2 e
theorem insL_cnt {mv f : Nat → Bool} {p : Nat} : ∀ (R L2 : List Nat), (insL mv p R L2).countP f = R.countP f + L2.countP f + (if f p = true then 1 else 0)
  | [], L2 => by
    unfold insL
    rw [List.countP_cons, List.countP_nil]
    omega
  | q :: R, L2 => by
    unfold insL
    split
    · rw [insL_cnt R (q :: L2), List.countP_cons, List.countP_cons]
      omega
    · rw [List.countP_append, List.countP_reverse, List.countP_cons, List.countP_cons]
      omega
theorem fL_cnt {lw bell : Int} {gs : Nat → Int} {mem : Nat → Bool} {p : Nat} : ∀ (N : Nat), (fL lw bell gs mem N).countP (fun q => rlt lw gs q p) = cR lw bell gs mem p N
  | 0 => rfl
  | N + 1 => by
    have ih := fL_cnt (lw := lw) (bell := bell) (gs := gs) (mem := mem) (p := p) N
    unfold fL cR
    split
    · next e =>
      rw [insL_cnt, List.countP_reverse, ih, List.countP_nil]
      by_cases c : rlt lw gs N p = true
      · have hne : N ≠ p := by
          intro q
          subst q
          rw [rlt_irr] at c
          exact absurd c (by decide)
        rw [if_pos c, if_pos ⟨hne, e.1, e.2, c⟩]
      · rw [if_neg c, if_neg (fun q => c q.2.2.2)]
    · next e =>
      rw [ih, if_neg (fun q => e ⟨q.2.1, q.2.2.1⟩)]
      omega
theorem lastZ_no {q : Nat} : ∀ (L : List Nat) (j r : Int), q ∉ L → lastZ q L j r = r
  | [], j, r, _ => rfl
  | x :: L, j, r, h => by
    unfold lastZ
    rw [lastZ_no L _ _ (fun e => h (List.mem_cons_of_mem _ e)), if_neg (fun e => h (by rw [e]; exact List.mem_cons_self))]
theorem lastZ_mid {q : Nat} : ∀ (L1 L2 : List Nat) (j r : Int), q ∉ L2 → lastZ q (L1 ++ q :: L2) j r = j + L1.length
  | [], L2, j, r, h => by
    show lastZ q L2 (j + 1) (if q = q then j else r) = _
    rw [lastZ_no _ _ _ h, if_pos rfl]
    simp
  | x :: L1, L2, j, r, h => by
    show lastZ q (L1 ++ q :: L2) (j + 1) _ = _
    rw [lastZ_mid L1 L2 _ _ h]
    simp
    omega
theorem seatZ_mid {L1 L2 : List Nat} {q : Nat} (h : q ∉ L2) : seatZ (L1 ++ q :: L2) q = L1.length := by
  unfold seatZ
  rw [lastZ_mid L1 L2 _ _ h]
  omega
theorem seatZ_no {L : List Nat} {q : Nat} (h : q ∉ L) : seatZ L q = -1 := lastZ_no L _ _ h
theorem seatZ_pw {L : List Nat} {rel : Nat → Nat → Bool} {p : Nat} (irr : ∀ a, rel a a = false) (tr : ∀ a b c, rel a b = true → rel b c = true → rel a c = true) (hp : L.Pairwise (fun a b => rel a b = true)) (h : p ∈ L) : seatZ L p = (L.countP (fun q => rel q p) : Nat) := by
  obtain ⟨L1, L2, rfl⟩ := List.append_of_mem h
  rw [List.pairwise_append] at hp
  obtain ⟨a1, a2, a3⟩ := hp
  rw [List.pairwise_cons] at a2
  have n2 : ∀ x ∈ L2, rel x p = false := by
    intro x hx
    cases e : rel x p with
    | false => rfl
    | true =>
      have := tr _ _ _ (a2.1 x hx) e
      rw [irr] at this
      exact absurd this (by decide)
  have hno : p ∉ L2 := by
    intro q
    have := a2.1 p q
    rw [irr] at this
    exact absurd this (by decide)
  rw [seatZ_mid hno, List.countP_append, List.countP_cons, irr]
  have e1 : L1.countP (fun q => rel q p) = L1.length := List.countP_eq_length.mpr (fun x hx => a3 x hx p List.mem_cons_self)
  have e2 : L2.countP (fun q => rel q p) = 0 := List.countP_eq_zero.mpr (fun x hx => by rw [n2 x hx]; decide)
  rw [e1, e2]
  simp
theorem seat_cR {lw bell : Int} {gs : Nat → Int} {mem : Nat → Bool} {p N : Nat} (hp : p < N) (hm : mem p = true) : seatZ (fL lw bell gs mem N) p = if gs p < bell then (cR lw bell gs mem p N : Int) else -1 := by
  split
  · next e => rw [seatZ_pw (rlt_irr lw gs) (fun a b c => rlt_tr) (fL_pw N) ((fL_mem N).mpr ⟨hp, hm, e⟩), fL_cnt]
  · next e => exact seatZ_no (fun q => e ((fL_mem N).mp q).2.2)
section RSE
variable {n w3 : Nat} {g : Nat → Nat × Nat} {σ : Nat → Nat → Int32} {τ : Nat → Nat → Int64} {r1 r2 : Nat} {A : aN} {B : aZ}
def gI (A : aN) (w : Nat → Nat) (q : Nat) : Int := (gin A q (w q) : Int)
theorem cR_succ {lw bell : Int} {gs : Nat → Int} {mem : Nat → Bool} {p k : Nat} (h : k ≠ p ∧ mem k = true ∧ gs k < bell ∧ rlt lw gs k p = true) : cR lw bell gs mem p (k + 1) = cR lw bell gs mem p k + 1 := by
  show _ + (if _ then 1 else 0) = _
  rw [if_pos h]
theorem cR_same {lw bell : Int} {gs : Nat → Int} {mem : Nat → Bool} {p k : Nat} (h : ¬ (k ≠ p ∧ mem k = true ∧ gs k < bell ∧ rlt lw gs k p = true)) : cR lw bell gs mem p (k + 1) = cR lw bell gs mem p k := by
  show _ + (if _ then 1 else 0) = _
  rw [if_neg h]
  omega
theorem rlt0 {gs : Nat → Int} {q p : Nat} : rlt 0 gs q p = true ↔ (gs q < gs p ∨ (gs q = gs p ∧ q < p)) := by
  unfold rlt
  rw [if_pos rfl, decide_eq_true_eq]
theorem rlt1 {gs : Nat → Int} {q p : Nat} : rlt 1 gs q p = true ↔ (gs p < gs q ∨ (gs q = gs p ∧ p < q)) := by
  unfold rlt
  rw [if_neg (by decide), decide_eq_true_eq]
set_option maxHeartbeats 2000000 in
set_option maxRecDepth 100000 in
theorem r_fs_in (d : Nat) (Q : am_Q) {w : Nat → Nat} {m p : Nat} {lw : Int32} (hw : ∀ p, w p ≤ 59) (h60 : A 3 0 ≤ 60) (hb : RB A w σ) (hm : m < 128) (hp : p < cnt A)
    (H : ∀ u : Value, am_wp (am_d (d + 3)) T_X10_findSeats Q (137, [.ref 56, .int (Int32.ofInt (m : Int)), .int lw, .int (Int32.ofInt (p : Int)), .int (Int32.ofInt (cR 0 (A 3 0 : Int) (gI A w) (bitk m) p (cnt A) : Int)), .int (Int32.ofInt (cR 1 (A 3 0 : Int) (gI A w) (bitk m) p (cnt A) : Int)), .int (Int32.ofInt (cnt A : Int)), u], [], 0, 0) (lo_M n w3 g σ τ r1 r2)) : ∀ (k q : Nat) (u : Value), q + k = cnt A →
    am_wp (am_d (d + 3)) T_X10_findSeats Q (27, [.ref 56, .int (Int32.ofInt (m : Int)), .int lw, .int (Int32.ofInt (p : Int)), .int (Int32.ofInt (cR 0 (A 3 0 : Int) (gI A w) (bitk m) p q : Int)), .int (Int32.ofInt (cR 1 (A 3 0 : Int) (gI A w) (bitk m) p q : Int)), .int (Int32.ofInt (q : Int)), u], [], 0, 0) (lo_M n w3 g σ τ r1 r2) := by
  have hc := cnt_le A
  have hn := hb.1.1
  intro k
  induction k with
  | zero =>
    intro q u hq
    have e : q = cnt A := by omega
    subst e
    refine am_wp_go (am_d_cm _) (fun pc => Nat.beq pc 27 || Nat.beq pc 99 || Nat.beq pc 137) 60 ?_
    refine And.intro (fun c1 => H u) (fun c1 => absurd ?_ c1)
    show σ 56 8 ≤ _
    rw [hn]
    exact Int32.le_refl _
  | succ k ih =>
    intro q u hq
    have hl0 := cR_le 0 (A 3 0 : Int) (gI A w) (bitk m) p q
    have hl1 := cR_le 1 (A 3 0 : Int) (gI A w) (bitk m) p q
    have gq : gin A q (w q) ≤ 59 := by unfold gin; omega
    have gp : gin A p (w p) ≤ 59 := by unfold gin; omega
    have same : ¬ (q ≠ p ∧ bitk m q = true ∧ gI A w q < (A 3 0 : Int)) → ∀ u : Value, am_wp (am_d (d + 3)) T_X10_findSeats Q (27, [.ref 56, .int (Int32.ofInt (m : Int)), .int lw, .int (Int32.ofInt (p : Int)), .int (Int32.ofInt (cR 0 (A 3 0 : Int) (gI A w) (bitk m) p q : Int)), .int (Int32.ofInt (cR 1 (A 3 0 : Int) (gI A w) (bitk m) p q : Int)), .int (Int32.ofInt (q : Int) + Int32.ofInt 1), u], [], 0, 0) (lo_M n w3 g σ τ r1 r2) := by
      intro hno u
      have ih := ih (q + 1) u (by omega)
      rw [cR_same (fun r => hno ⟨r.1, r.2.1, r.2.2.1⟩), cR_same (fun r => hno ⟨r.1, r.2.1, r.2.2.1⟩)] at ih
      rw [zadd]
      exact ih
    have first : q ≠ p ∧ bitk m q = true ∧ gI A w q < (A 3 0 : Int) → rlt 0 (gI A w) q p = true → am_wp (am_d (d + 3)) T_X10_findSeats Q (99, [.ref 56, .int (Int32.ofInt (m : Int)), .int lw, .int (Int32.ofInt (p : Int)), .int (Int32.ofInt (cR 0 (A 3 0 : Int) (gI A w) (bitk m) p q : Int)), .int (Int32.ofInt (cR 1 (A 3 0 : Int) (gI A w) (bitk m) p q : Int)), .int (Int32.ofInt (q : Int)), u], [.int (Int32.ofInt 1)], 0, 0) (lo_M n w3 g σ τ r1 r2) := by
      intro hyes hr
      have hr1 : ¬ rlt 1 (gI A w) q p = true := by
        rw [rlt1]
        rw [rlt0] at hr
        omega
      have ih := ih (q + 1) (.int (Int32.ofInt 1)) (by omega)
      rw [cR_succ ⟨hyes.1, hyes.2.1, hyes.2.2, hr⟩, cR_same (fun r => hr1 r.2.2.2)] at ih
      refine am_wp_go (am_d_cm _) (fun pc => Nat.beq pc 27 || Nat.beq pc 99 || Nat.beq pc 137) 60 ?_
      refine And.intro (fun q => absurd q (by decide)) (fun _ => ?_)
      refine And.intro (fun q => absurd q (by decide)) (fun _ => ?_)
      show am_wp _ _ _ (27, [.ref 56, .int (Int32.ofInt (m : Int)), .int lw, .int (Int32.ofInt (p : Int)), .int (Int32.ofInt (cR 0 (A 3 0 : Int) (gI A w) (bitk m) p q : Int) + Int32.ofInt 1), .int (Int32.ofInt (cR 1 (A 3 0 : Int) (gI A w) (bitk m) p q : Int) + Int32.ofInt 0), .int (Int32.ofInt (q : Int) + Int32.ofInt 1), .int (Int32.ofInt 1)], [], 0, 0) (lo_M n w3 g σ τ r1 r2)
      rw [zadd, zadd, zadd, Int.add_zero]
      exact ih
    have second : q ≠ p ∧ bitk m q = true ∧ gI A w q < (A 3 0 : Int) → ¬ rlt 0 (gI A w) q p = true → am_wp (am_d (d + 3)) T_X10_findSeats Q (99, [.ref 56, .int (Int32.ofInt (m : Int)), .int lw, .int (Int32.ofInt (p : Int)), .int (Int32.ofInt (cR 0 (A 3 0 : Int) (gI A w) (bitk m) p q : Int)), .int (Int32.ofInt (cR 1 (A 3 0 : Int) (gI A w) (bitk m) p q : Int)), .int (Int32.ofInt (q : Int)), u], [.int (Int32.ofInt 0)], 0, 0) (lo_M n w3 g σ τ r1 r2) := by
      intro hyes hr
      have hr1 : rlt 1 (gI A w) q p = true := by
        rw [rlt1]
        rw [rlt0] at hr
        have := hyes.1
        omega
      have ih := ih (q + 1) (.int (Int32.ofInt 0)) (by omega)
      rw [cR_same (fun r => hr r.2.2.2), cR_succ ⟨hyes.1, hyes.2.1, hyes.2.2, hr1⟩] at ih
      refine am_wp_go (am_d_cm _) (fun pc => Nat.beq pc 27 || Nat.beq pc 99 || Nat.beq pc 137) 60 ?_
      refine And.intro (fun _ => ?_) (fun q => absurd rfl q)
      refine And.intro (fun _ => ?_) (fun q => absurd rfl q)
      show am_wp _ _ _ (27, [.ref 56, .int (Int32.ofInt (m : Int)), .int lw, .int (Int32.ofInt (p : Int)), .int (Int32.ofInt (cR 0 (A 3 0 : Int) (gI A w) (bitk m) p q : Int) + Int32.ofInt 0), .int (Int32.ofInt (cR 1 (A 3 0 : Int) (gI A w) (bitk m) p q : Int) + Int32.ofInt 1), .int (Int32.ofInt (q : Int) + Int32.ofInt 1), .int (Int32.ofInt 0)], [], 0, 0) (lo_M n w3 g σ τ r1 r2)
      rw [zadd, zadd, zadd, Int.add_zero]
      exact ih
    refine am_wp_go (am_d_cm _) (fun pc => Nat.beq pc 27 || Nat.beq pc 99 || Nat.beq pc 137) 60 ?_
    refine And.intro (fun c1 => ?_) (fun c1 => ?_)
    · have c1 : σ 56 8 ≤ Int32.ofInt (q : Int) := c1
      rw [hn, zle (by unfold zr; omega) (by unfold zr; omega)] at c1
      omega
    refine And.intro (fun c2 => ?_) (fun c2 => ?_)
    · rw [zeq (by unfold zr; omega) (by unfold zr; omega)] at c2
      exact same (fun r => r.1 (by omega)) u
    rw [zeq (by unfold zr; omega) (by unfold zr; omega)] at c2
    refine r_isIn (d + 2) hm (by omega) _ _ ?_
    by_cases c3 : bitk m q = true
    · rw [if_pos c3]
      refine And.intro (fun q => absurd q (by decide)) (fun _ => ?_)
      refine r_isOutside d _ (by omega) hw h60 hb ?_
      by_cases c4 : A 3 0 ≤ gin A q (w q)
      · rw [if_pos c4]
        refine And.intro (fun q => absurd q (by decide)) (fun _ => ?_)
        exact same (fun r => by have := r.2.2; unfold gI at this; omega) u
      · rw [if_neg c4]
        refine And.intro (fun _ => ?_) (fun q => absurd rfl q)
        have hyes : q ≠ p ∧ bitk m q = true ∧ gI A w q < (A 3 0 : Int) := ⟨by omega, c3, by unfold gI; omega⟩
        refine r_goesIn (d + 1) _ (by omega) hw hb ?_
        refine r_goesIn (d + 1) _ hp hw hb ?_
        refine And.intro (fun c5 => ?_) (fun c5 => ?_)
        · rw [zlt (by unfold zr; omega) (by unfold zr; omega)] at c5
          exact first hyes (by rw [rlt0]; unfold gI; omega)
        rw [zlt (by unfold zr; omega) (by unfold zr; omega)] at c5
        refine r_goesIn (d + 1) _ (by omega) hw hb ?_
        refine r_goesIn (d + 1) _ hp hw hb ?_
        refine And.intro (fun c6 => ?_) (fun c6 => ?_)
        · rw [zeq (by unfold zr; omega) (by unfold zr; omega)] at c6
          refine And.intro (fun c7 => ?_) (fun c7 => ?_)
          · rw [zle (by unfold zr; omega) (by unfold zr; omega)] at c7
            exact second hyes (by rw [rlt0]; unfold gI; omega)
          · rw [zle (by unfold zr; omega) (by unfold zr; omega)] at c7
            exact first hyes (by rw [rlt0]; unfold gI; omega)
        · rw [zeq (by unfold zr; omega) (by unfold zr; omega)] at c6
          exact second hyes (by rw [rlt0]; unfold gI; omega)
    · rw [if_neg c3]
      refine And.intro (fun _ => ?_) (fun q => absurd rfl q)
      exact same (fun r => c3 r.2.1) u
theorem SL_eq (A : aN) (lw : Nat) (mem : Nat → Bool) (w : Nat → Nat) : SL A lw mem w = fL (lw : Int) (A 3 0 : Int) (gI A w) mem (cnt A) := rfl
set_option maxHeartbeats 2000000 in
set_option maxRecDepth 100000 in
theorem r_fs_loop (d : Nat) (Q : am_Q) {w : Nat → Nat} {m lw : Nat} (hw : ∀ p, w p ≤ 59) (h60 : A 3 0 ≤ 60) (hm : m < 128) (hlw : lw ≤ 1) : ∀ (k p : Nat) (σ : Nat → Nat → Int32) (u4 u5 u6 u7 : Value), p + k = cnt A → RB A w σ →
    (∀ σ' : Nat → Nat → Int32, (∀ c, c ≠ 68 → σ' c = σ c) → (∀ q, q < p → σ' 68 q = σ 68 q) → (∀ q, p ≤ q → q < cnt A → bitk m q = true → σ' 68 q = Int32.ofInt (seatZ (SL A lw (bitk m) w) q)) → Q none (lo_M n w3 g σ' τ r1 r2)) →
    am_wp (am_d (d + 3)) T_X10_findSeats Q (2, [.ref 56, .int (Int32.ofInt (m : Int)), .int (Int32.ofInt (lw : Int)), .int (Int32.ofInt (p : Int)), u4, u5, u6, u7], [], 0, 0) (lo_M n w3 g σ τ r1 r2) := by
  have hc := cnt_le A
  intro k
  induction k with
  | zero =>
    intro p σ u4 u5 u6 u7 hp hb h
    refine am_wp_go (am_d_cm _) (fun pc => Nat.beq pc 2 || Nat.beq pc 27) 60 ?_
    refine And.intro (fun c1 => ?_) (fun c1 => absurd ?_ c1)
    · exact h σ (fun _ _ => rfl) (fun _ _ => rfl) (fun q q1 q2 => by omega)
    · show σ 56 8 ≤ _
      rw [hb.1.1, zle (by unfold zr; omega) (by unfold zr; omega)]
      omega
  | succ k ih =>
    intro p σ u4 u5 u6 u7 hp hb h
    have hpc : p < cnt A := by omega
    refine am_wp_go (am_d_cm _) (fun pc => Nat.beq pc 2 || Nat.beq pc 27) 60 ?_
    refine And.intro (fun c1 => ?_) (fun c1 => ?_)
    · have c1 : σ 56 8 ≤ Int32.ofInt (p : Int) := c1
      rw [hb.1.1, zle (by unfold zr; omega) (by unfold zr; omega)] at c1
      omega
    refine r_isIn (d + 2) hm (by omega) _ _ ?_
    by_cases c3 : bitk m p = true
    · rw [if_pos c3]
      refine And.intro (fun q => absurd q (by decide)) (fun _ => ?_)
      refine r_fs_in d Q hw h60 hb hm hpc (fun u => ?_) (cnt A) 0 u7 (by omega)
      have st := seat_cR (lw := (lw : Int)) (bell := (A 3 0 : Int)) (gs := gI A w) (mem := bitk m) hpc c3
      rw [← SL_eq] at st
      have go : am_wp (am_d (d + 3)) T_X10_findSeats Q (2, [.ref 56, .int (Int32.ofInt (m : Int)), .int (Int32.ofInt (lw : Int)), .int (Int32.ofInt (p : Int) + Int32.ofInt 1), .int (Int32.ofInt (cR 0 (A 3 0 : Int) (gI A w) (bitk m) p (cnt A) : Int)), .int (Int32.ofInt (cR 1 (A 3 0 : Int) (gI A w) (bitk m) p (cnt A) : Int)), .int (Int32.ofInt (cnt A : Int)), u], [], 0, 0) (lo_M n w3 g (am_u σ 68 p (Int32.ofInt (seatZ (SL A lw (bitk m) w) p))) τ r1 r2) := by
        rw [zadd]
        refine ih (p + 1) _ _ _ _ _ (by omega) (RB_fr hb rfl (fun c e1 e2 => by rw [am_u_ne (by omega)])) (fun σ' k1 k2 k3 => ?_)
        refine h σ' (fun c e => by rw [k1 c e, am_u_ne e]) (fun q hq => by rw [k2 q (by omega), am_u_at, if_neg (by omega)]) (fun q q1 q2 q3 => ?_)
        by_cases e : q = p
        · subst e
          rw [k2 q (by omega), am_u_at, if_pos rfl]
        · exact k3 q (by omega) q2 q3
      refine am_wp_go (am_d_cm _) (fun pc => Nat.beq pc 2 || Nat.beq pc 27) 60 ?_
      refine r_isOutside d _ hpc hw h60 hb ?_
      by_cases c4 : A 3 0 ≤ gin A p (w p)
      · rw [if_pos c4]
        refine And.intro (fun q => absurd q (by decide)) (fun _ => ?_)
        rw [if_neg (by unfold gI; omega)] at st
        rw [st] at go
        refine ixi p 7 (by omega) ?_
        exact go
      · rw [if_neg c4]
        refine And.intro (fun _ => ?_) (fun q => absurd rfl q)
        rw [if_pos (by unfold gI; omega)] at st
        refine And.intro (fun c5 => ?_) (fun c5 => ?_)
        · rw [zeq0 (by unfold zr; omega)] at c5
          have e0 : (lw : Int) = 0 := by omega
          rw [st, e0] at go
          refine ixi p 7 (by omega) ?_
          rw [e0]
          exact go
        · rw [zeq0 (by unfold zr; omega)] at c5
          have e0 : (lw : Int) = 1 := by omega
          rw [st, e0] at go
          refine ixi p 7 (by omega) ?_
          rw [e0]
          exact go
    · rw [if_neg c3]
      refine And.intro (fun _ => ?_) (fun q => absurd rfl q)
      show am_wp _ _ _ (2, [.ref 56, .int (Int32.ofInt (m : Int)), .int (Int32.ofInt (lw : Int)), .int (Int32.ofInt (p : Int) + Int32.ofInt 1), u4, u5, u6, u7], [], 0, 0) (lo_M n w3 g σ τ r1 r2)
      rw [zadd]
      refine ih (p + 1) σ _ _ _ _ (by omega) hb (fun σ' k1 k2 k3 => ?_)
      refine h σ' k1 (fun q hq => k2 q (by omega)) (fun q q1 q2 q3 => ?_)
      by_cases e : q = p
      · subst e
        exact absurd q3 c3
      · exact k3 q (by omega) q2 q3
set_option maxRecDepth 100000 in
theorem r_findSeats (d : Nat) (Q : am_Q) {w : Nat → Nat} {m lw : Nat} (hw : ∀ p, w p ≤ 59) (h60 : A 3 0 ≤ 60) (hm : m < 128) (hlw : lw ≤ 1) (hb : RB A w σ)
    (h : ∀ σ' : Nat → Nat → Int32, (∀ c, c ≠ 68 → σ' c = σ c) → (∀ q, q < cnt A → bitk m q = true → σ' 68 q = Int32.ofInt (seatZ (SL A lw (bitk m) w) q)) → Q none (lo_M n w3 g σ' τ r1 r2)) : am_d (d + 4) 145 [.ref 56, .int (Int32.ofInt (m : Int)), .int (Int32.ofInt (lw : Int))] 0 0 (lo_M n w3 g σ τ r1 r2) Q := by
  refine am_goT T_X10_findSeats [.ref 56, .int (Int32.ofInt (m : Int)), .int (Int32.ofInt (lw : Int)), .null, .null, .null, .null, .null] rfl rfl (fun pc => Nat.beq pc 2) 60 ?_
  exact r_fs_loop d Q hw h60 hm hlw (cnt A) 0 σ _ _ _ _ (by omega) hb (fun σ' k1 _ k3 => h σ' k1 (fun q q1 q2 => k3 q (by omega) q1 q2))
theorem SL_all (A : aN) (lw : Nat) (w : Nat → Nat) : SL A lw (bitk (2 ^ cnt A - 1)) w = SL A lw (fun _ => true) w :=
  fL_congr (cnt A) (fun q hq => ⟨rfl, bitk_all (cnt A) (by have := cnt_le A; omega) q hq⟩)
theorem all_lt {N : Nat} (h : N ≤ 7) : 2 ^ N - 1 < 128 := by
  have : ∀ N : Nat, N < 8 → 2 ^ N - 1 < 128 := by decide
  exact this N (by omega)
set_option maxRecDepth 100000 in
theorem r_findAll (d : Nat) (Q : am_Q) {w : Nat → Nat} (hw : ∀ p, w p ≤ 59) (hwf : WF A B) (hb : RB A w σ)
    (h : ∀ σ' : Nat → Nat → Int32, (∀ c, c ≠ 68 → σ' c = σ c) → (∀ q, q < cnt A → σ' 68 q = Int32.ofInt (seatZ (SL A (A 3 1) (fun _ => true) w) q)) → Q none (lo_M n w3 g σ' τ r1 r2)) : am_d (d + 5) 147 [.ref 56] 0 0 (lo_M n w3 g σ τ r1 r2) Q := by
  have hc := cnt_le A
  refine am_goT T_X10_findAll [.ref 56] rfl rfl (fun _ => false) 60 ?_
  refine r_whole (d + 3) _ hc hb.1.1 ?_
  refine ixi 1 6 (by omega) ?_
  show am_d (d + 4) 145 [.ref 56, .int (Int32.ofInt ((2 ^ cnt A - 1 : Nat) : Int)), .int (σ 66 1)] 0 0 _ _
  rw [hb.2.2.1 1 (by omega)]
  refine r_findSeats d _ hw hwf.2.2.2.1.1 (all_lt hc) hwf.2.2.2.1.2.1 hb (fun σ' k1 k2 => ?_)
  refine h σ' k1 (fun q hq => ?_)
  rw [k2 q hq (bitk_all (cnt A) (by omega) q hq), SL_all]
end RSE
