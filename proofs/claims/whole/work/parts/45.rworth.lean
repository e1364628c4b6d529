/-! the reference: what one has -/
def lsm (f : Nat → Nat → Int) : List Nat → Nat → Int
  | [], _ => 0
  | x :: L, j => f x j + lsm f L (j + 1)
theorem sumr_add {f g : Nat → Int} : ∀ k i, sumr (fun q => f q + g q) i k = sumr f i k + sumr g i k
  | 0, i => rfl
  | k + 1, i => by
    show f i + g i + sumr (fun q => f q + g q) (i + 1) k = f i + sumr f (i + 1) k + (g i + sumr g (i + 1) k)
    rw [sumr_add k (i + 1)]
    omega
theorem sumr_congr {f g : Nat → Int} : ∀ k i, (∀ q, i ≤ q → q < i + k → f q = g q) → sumr f i k = sumr g i k
  | 0, i, _ => rfl
  | k + 1, i, h => by
    show f i + sumr f (i + 1) k = g i + sumr g (i + 1) k
    rw [sumr_congr k (i + 1) (fun q q1 q2 => h q (by omega) (by omega)), h i (by omega) (by omega)]
theorem sumr_zero {f : Nat → Int} : ∀ k i, (∀ q, i ≤ q → q < i + k → f q = 0) → sumr f i k = 0
  | 0, i, _ => rfl
  | k + 1, i, h => by
    show f i + sumr f (i + 1) k = 0
    rw [sumr_zero k (i + 1) (fun q q1 q2 => h q (by omega) (by omega)), h i (by omega) (by omega)]
    rfl
theorem sumr_one {x : Nat} {v : Int} : ∀ k i, sumr (fun q => if q = x then v else 0) i k = if i ≤ x ∧ x < i + k then v else 0
  | 0, i => by
    rw [if_neg (by omega)]
    rfl
  | k + 1, i => by
    show (if i = x then v else 0) + sumr (fun q => if q = x then v else 0) (i + 1) k = _
    rw [sumr_one k (i + 1)]
    by_cases e : i = x
    · rw [if_pos e, if_neg (by omega), if_pos (by omega)]
      omega
    · rw [if_neg e]
      by_cases e2 : i ≤ x ∧ x < i + (k + 1)
      · rw [if_pos (by omega), if_pos e2]
        omega
      · rw [if_neg (by omega), if_neg e2]
        rfl
theorem sumr_last {f : Nat → Int} : ∀ k i, sumr f i (k + 1) = sumr f i k + f (i + k)
  | 0, i => by
    show f i + 0 = 0 + f i
    omega
  | k + 1, i => by
    show f i + sumr f (i + 1) (k + 1) = f i + sumr f (i + 1) k + f (i + (k + 1))
    rw [sumr_last k (i + 1), show i + 1 + k = i + (k + 1) by omega]
    omega
theorem lsm_sumr {f : Nat → Nat → Int} {N : Nat} : ∀ (L : List Nat) (j : Nat), L.Nodup → (∀ x ∈ L, x < N) → sumr (fun q => if q ∈ L then f q (lastZ q L (j : Int) (-1)).toNat else 0) 0 N = lsm f L j
  | [], j, _, _ => sumr_zero N 0 (fun q _ _ => if_neg List.not_mem_nil)
  | x :: L, j, hn, hl => by
    have hn := List.nodup_cons.mp hn
    have e : ∀ q, 0 ≤ q → q < 0 + N → (if q ∈ x :: L then f q (lastZ q (x :: L) (j : Int) (-1)).toNat else 0) = (if q = x then f x j else 0) + (if q ∈ L then f q (lastZ q L ((j + 1 : Nat) : Int) (-1)).toNat else 0) := by
      intro q _ _
      by_cases c : q = x
      · subst c
        rw [if_pos List.mem_cons_self, if_pos rfl, if_neg hn.1]
        show f q (lastZ q L ((j : Int) + 1) (if q = q then (j : Int) else -1)).toNat = _
        rw [lastZ_no _ _ _ hn.1, if_pos rfl, Int.toNat_natCast]
        omega
      · rw [if_neg c]
        by_cases c2 : q ∈ L
        · rw [if_pos (List.mem_cons_of_mem _ c2), if_pos c2]
          show f q (lastZ q L ((j : Int) + 1) (if q = x then (j : Int) else -1)).toNat = _
          rw [if_neg c, show ((j + 1 : Nat) : Int) = (j : Int) + 1 by omega]
          omega
        · rw [if_neg c2, if_neg (fun q => by rcases List.mem_cons.mp q with q | q <;> contradiction)]
          rfl
    rw [sumr_congr N 0 e, sumr_add, sumr_one, lsm_sumr L (j + 1) hn.2 (fun y hy => hl y (List.mem_cons_of_mem _ hy)), if_pos ⟨by omega, by have := hl x List.mem_cons_self; omega⟩]
    rfl
theorem lsm_add {f g : Nat → Nat → Int} : ∀ (L : List Nat) (j : Nat), lsm (fun x i => f x i + g x i) L j = lsm f L j + lsm g L j
  | [], _ => rfl
  | x :: L, j => by
    show f x j + g x j + lsm (fun x i => f x i + g x i) L (j + 1) = f x j + lsm f L (j + 1) + (g x j + lsm g L (j + 1))
    rw [lsm_add L (j + 1)]
    omega
theorem lsm_congr {f g : Nat → Nat → Int} (h : ∀ x j, f x j = g x j) : ∀ (L : List Nat) (j : Nat), lsm f L j = lsm g L j
  | [], _ => rfl
  | x :: L, j => by
    show f x j + lsm f L (j + 1) = g x j + lsm g L (j + 1)
    rw [lsm_congr h L (j + 1), h]
theorem lsm_zero {f : Nat → Nat → Int} : ∀ (L : List Nat) (j : Nat), (∀ x i, j ≤ i → i < j + L.length → f x i = 0) → lsm f L j = 0
  | [], _, _ => rfl
  | x :: L, j, h => by
    show f x j + lsm f L (j + 1) = 0
    rw [lsm_zero L (j + 1) (fun y i h1 h2 => h y i (by omega) (by simp only [List.length_cons]; omega)), h x j (by omega) (by simp only [List.length_cons]; omega)]
    rfl
theorem lsm_at {h : Nat → Int} {i : Nat} : ∀ (L : List Nat) (j : Nat) (hi : j ≤ i ∧ i < j + L.length), lsm (fun x k => if k = i then h x else 0) L j = h (L[i - j]'(by omega))
  | [], j, hi => by
    simp at hi
    omega
  | x :: L, j, hi => by
    show (if j = i then h x else 0) + lsm (fun x k => if k = i then h x else 0) L (j + 1) = _
    simp only [List.length_cons] at hi
    by_cases e : j = i
    · subst e
      rw [if_pos rfl, lsm_zero L (j + 1) (fun y k h1 h2 => if_neg (by omega))]
      simp
    · rw [if_neg e, lsm_at L (j + 1) ⟨by omega, by omega⟩]
      have : i - j = (i - (j + 1)) + 1 := by omega
      simp only [this, List.getElem_cons_succ]
      omega
theorem lbs_s {lv : Nat → Nat → Int} {L : List Nat} {p i k : Nat} : lbs lv L p i (k + 1) = if h : i < L.length then lv p L[i] + lbs lv L p (i + 1) k else 0 := rfl
theorem zrN {k : Nat} (h : k < 2147483648) : zr (k : Int) := by
  unfold zr
  omega
theorem lbs_lsm {lv : Nat → Nat → Int} {L : List Nat} {p : Nat} : ∀ (k i : Nat), lbs lv L p i k = lsm (fun x j => if i ≤ j ∧ j < i + k then lv p x else 0) L 0
  | 0, i => by
    rw [lsm_zero L 0 (fun x j _ _ => if_neg (by omega))]
    rfl
  | k + 1, i => by
    have e : ∀ x j, (if i ≤ j ∧ j < i + (k + 1) then lv p x else 0) = (if j = i then lv p x else 0) + (if i + 1 ≤ j ∧ j < i + 1 + k then lv p x else 0) := by
      intro x j
      by_cases c : j = i
      · rw [if_pos (by omega), if_pos c, if_neg (by omega)]
        omega
      · by_cases c2 : i ≤ j ∧ j < i + (k + 1)
        · rw [if_pos c2, if_neg c, if_pos (by omega)]
          omega
        · rw [if_neg c2, if_neg c, if_neg (by omega)]
          rfl
    rw [lsm_congr e, lsm_add, ← lbs_lsm k (i + 1), lbs_s]
    split
    · next h => rw [lsm_at L 0 ⟨by omega, by omega⟩]; rfl
    · next h =>
      rw [lsm_zero L 0 (fun x j _ q => if_neg (by omega)), lbs_out (i + 1) k (by omega)]
      rfl
theorem div_pew {j s w : Nat} (hw : 0 < w) : (s - s % w ≤ j ∧ j < s - s % w + w) ↔ j / w = s / w := by
  have h1 := Nat.div_add_mod s w
  have h2 := Nat.mod_lt s hw
  have e : s - s % w = w * (s / w) := by omega
  rw [e]
  constructor
  · intro h
    exact Nat.div_eq_of_lt_le (by rw [Nat.mul_comm]; exact h.1) (by rw [Nat.succ_mul, Nat.mul_comm]; exact h.2)
  · intro h
    have h3 := Nat.div_add_mod j w
    have h4 := Nat.mod_lt j hw
    rw [h] at h3
    omega
theorem seatZ_in {L : List Nat} {q : Nat} (h : q ∈ L) : seatZ L q ≠ -1 := by
  have key : ∀ (L : List Nat) (j r : Int), q ∈ L → 0 ≤ j → 0 ≤ lastZ q L j r := by
    intro L
    induction L with
    | nil => intro j r h _; exact absurd h List.not_mem_nil
    | cons x L ih =>
      intro j r h hj
      show 0 ≤ lastZ q L (j + 1) (if q = x then j else r)
      by_cases c : q ∈ L
      · exact ih _ _ c (by omega)
      · rw [lastZ_no _ _ _ c]
        rcases List.mem_cons.mp h with e | e
        · rw [if_pos e]
          exact hj
        · contradiction
  have := key L 0 (-1) h (by omega)
  unfold seatZ
  omega
theorem lbs_near {lv : Nat → Nat → Int} {L : List Nat} {N p s w : Nat} (hw : 0 < w) (hn : L.Nodup) (hl : ∀ x ∈ L, x < N) : lbs lv L p (s - s % w) w = sumr (fun q => if q ∈ L ∧ (seatZ L q).toNat / w = s / w then lv p q else 0) 0 N := by
  rw [lbs_lsm, ← lsm_sumr L 0 hn hl]
  refine sumr_congr N 0 (fun q _ _ => ?_)
  by_cases c : q ∈ L
  · rw [if_pos c]
    show (if s - s % w ≤ (seatZ L q).toNat ∧ (seatZ L q).toNat < s - s % w + w then lv p q else 0) = _
    by_cases c2 : (seatZ L q).toNat / w = s / w
    · rw [if_pos ((div_pew hw).mpr c2), if_pos ⟨c, c2⟩]
    · rw [if_neg (fun h => c2 ((div_pew hw).mp h)), if_neg (fun h => c2 h.2)]
  · rw [if_neg c, if_neg (fun h => c h.1)]
/-- love for one who may sit in the same pew -/
def nrq (A : aN) (st : Nat → Int) (mem : Nat → Bool) (p q : Nat) : Int := if q ≠ p ∧ mem q = true ∧ st q ≠ -1 ∧ (st q).toNat / A 3 2 = (st p).toNat / A 3 2 then (A (20 + p) q : Int) else 0
/-- what one has but for the rain -/
def WRn (A : aN) (st : Nat → Int) (mem : Nat → Bool) (p : Nat) : Int := if st p = -1 then 0 else 20 - (A 3 3 : Int) * ((st p - (wsh A p : Int)).natAbs : Int) + sumr (nrq A st mem p) 0 (cnt A)
theorem WRn_WZ {A : aN} {B : aZ} (hwf : WF A B) {L : List Nat} {mem : Nat → Bool} {p gg : Nat} (hn : L.Nodup) (hl : ∀ x ∈ L, x < cnt A) (hm : ∀ x ∈ L, mem x = true) : WZ A L (seatZ L p) p gg = WRn A (seatZ L) mem p - (A 3 4 : Int) * ((prz (A 2) gg : Int) - (prz (A 2) (mn A p) : Int)) := by
  unfold WZ WRn
  split
  · omega
  · next e =>
    rw [lbs_near (lv := fun a b => (A (20 + a) b : Int)) (N := cnt A) (p := p) (s := (seatZ L p).toNat) hwf.2.2.2.1.2.2.1.1 hn hl]
    rw [sumr_congr (g := nrq A (seatZ L) mem p) (cnt A) 0 (fun q _ _ => ?_)]
    unfold nrq
    by_cases c : q ∈ L ∧ (seatZ L q).toNat / A 3 2 = (seatZ L p).toNat / A 3 2
    · rw [if_pos c]
      by_cases c2 : q = p
      · rw [if_neg (fun h => h.1 c2), c2]
        show (A (20 + p) p : Int) = 0
        rw [hwf.2.2.2.2.2.2.1 p]
        rfl
      · rw [if_pos ⟨c2, hm q c.1, seatZ_in c.1, c.2⟩]
    · rw [if_neg c, if_neg (fun h => ?_)]
      by_cases c3 : q ∈ L
      · exact c ⟨c3, h.2.2.2⟩
      · exact h.2.2.1 (seatZ_no c3)
theorem SL_nd {A : aN} {lw : Nat} {mem : Nat → Bool} {w : Nat → Nat} : (SL A lw mem w).Nodup := by
  rw [SL_eq]
  refine List.Pairwise.imp (fun {a b} h => ?_) (fL_pw (lw := (lw : Int)) (bell := (A 3 0 : Int)) (gs := gI A w) (mem := mem) (cnt A))
  intro e
  subst e
  rw [rlt_irr] at h
  exact absurd h (by decide)
theorem SL_mm {A : aN} {lw : Nat} {mem : Nat → Bool} {w : Nat → Nat} : ∀ x ∈ SL A lw mem w, mem x = true := fun x hx => ((fL_mem (cnt A)).mp hx).2.1
theorem SL_in {A : aN} {lw : Nat} {mem : Nat → Bool} {w : Nat → Nat} {x : Nat} : x ∈ SL A lw mem w ↔ x < cnt A ∧ mem x = true ∧ gin A x (w x) < A 3 0 := by
  rw [SL_eq, fL_mem]
  unfold gI
  constructor
  · intro h
    exact ⟨h.1, h.2.1, by omega⟩
  · intro h
    exact ⟨h.1, h.2.1, by omega⟩
theorem HZ_WRn {A : aN} {B : aZ} (hwf : WF A B) {lw : Nat} {mem : Nat → Bool} {w : Nat → Nat} {p : Nat} : HZ A lw mem w p = WRn A (seatZ (SL A lw mem w)) mem p - (A 3 4 : Int) * ((prz (A 2) (gin A p (w p)) : Int) - (prz (A 2) (mn A p) : Int)) := WRn_WZ hwf SL_nd SL_lt SL_mm
theorem WRn_congr {A : aN} {st st' : Nat → Int} {mem : Nat → Bool} {p : Nat} (hp : p < cnt A) (hm : mem p = true) (h : ∀ q, q < cnt A → mem q = true → st q = st' q) : WRn A st mem p = WRn A st' mem p := by
  unfold WRn
  rw [h p hp hm]
  split
  · rfl
  · rw [sumr_congr (g := nrq A st' mem p) (cnt A) 0 (fun q _ hq => ?_)]
    unfold nrq
    by_cases c : mem q = true
    · rw [h q (by omega) c, h p hp hm]
    · rw [if_neg (fun r => c r.2.1), if_neg (fun r => c r.2.1)]
section RWO
variable {n w3 : Nat} {g : Nat → Nat × Nat} {σ : Nat → Nat → Int32} {τ : Nat → Nat → Int64} {r1 r2 : Nat} {A : aN} {B : aZ}
set_option maxHeartbeats 2000000 in
set_option maxRecDepth 100000 in
theorem r_worth_loop (d : Nat) (Q : am_Q) {st : Nat → Int} {w : Nat → Nat} {m p : Nat} {s0 : Int} (hwf : WF A B) (hb : RB A w σ) (hm : m < 128) (hp : p < cnt A) (hmp : bitk m p = true) (hst : ∀ q, q < cnt A → bitk m q = true → σ 68 q = Int32.ofInt (st q) ∧ -1 ≤ st q ∧ st q ≤ 6) (hp1 : st p ≠ -1)
    (h : Q (some (.int (Int32.ofInt (s0 + sumr (nrq A st (bitk m) p) 0 (cnt A))))) (lo_M n w3 g σ τ r1 r2)) : ∀ (k q : Nat) (u : Value), q + k = cnt A →
    am_wp (am_d (d + 1)) T_X10_worth Q (42, [.ref 56, .int (Int32.ofInt (p : Int)), .int (Int32.ofInt (m : Int)), .int (Int32.ofInt (s0 + sumr (nrq A st (bitk m) p) 0 q)), .int (Int32.ofInt (q : Int)), u], [], 0, 0) (lo_M n w3 g σ τ r1 r2) := by
  have hc := cnt_le A
  have hn := hb.1.1
  have hwd := hwf.2.2.2.1.2.2.1
  have e66 : σ 66 2 = Int32.ofInt (A 3 2 : Int) := hb.2.2.1 2 (by omega)
  have nz : ¬ σ 66 2 = 0 := by
    rw [e66, zeq0 (by unfold zr; omega)]
    omega
  obtain ⟨sp1, sp2, sp3⟩ := hst p hp hmp
  have dp : σ 68 p / σ 66 2 = Int32.ofInt (((st p).toNat / A 3 2 : Nat) : Int) := by
    rw [sp1, e66, show st p = ((st p).toNat : Int) by omega, zdiv (by omega) (by omega) (by omega), Int.toNat_natCast]
  intro k
  induction k with
  | zero =>
    intro q u hq
    have e : q = cnt A := by omega
    subst e
    refine am_wp_go (am_d_cm _) (fun pc => Nat.beq pc 42 || Nat.beq pc 112) 60 ?_
    refine And.intro (fun c1 => h) (fun c1 => absurd ?_ c1)
    show σ 56 8 ≤ _
    rw [hn]
    exact Int32.le_refl _
  | succ k ih =>
    intro q u hq
    have es : sumr (nrq A st (bitk m) p) 0 (q + 1) = sumr (nrq A st (bitk m) p) 0 q + nrq A st (bitk m) p q := by
      rw [sumr_last, Nat.zero_add]
    have no : ¬ (q ≠ p ∧ bitk m q = true ∧ st q ≠ -1 ∧ (st q).toNat / A 3 2 = (st p).toNat / A 3 2) → am_wp (am_d (d + 1)) T_X10_worth Q (112, [.ref 56, .int (Int32.ofInt (p : Int)), .int (Int32.ofInt (m : Int)), .int (Int32.ofInt (s0 + sumr (nrq A st (bitk m) p) 0 q)), .int (Int32.ofInt (q : Int)), u], [.int (Int32.ofInt 0)], 0, 0) (lo_M n w3 g σ τ r1 r2) := by
      intro hno
      have ih := ih (q + 1) (.int (Int32.ofInt 0)) (by omega)
      rw [es, show nrq A st (bitk m) p q = 0 by unfold nrq; rw [if_neg hno]] at ih
      refine am_wp_go (am_d_cm _) (fun pc => Nat.beq pc 42 || Nat.beq pc 112) 60 ?_
      refine And.intro (fun _ => ?_) (fun q => absurd rfl q)
      show am_wp _ _ _ (42, [.ref 56, .int (Int32.ofInt (p : Int)), .int (Int32.ofInt (m : Int)), .int (Int32.ofInt (s0 + sumr (nrq A st (bitk m) p) 0 q) + Int32.ofInt 0), .int (Int32.ofInt (q : Int) + Int32.ofInt 1), .int (Int32.ofInt 0)], [], 0, 0) (lo_M n w3 g σ τ r1 r2)
      rw [zadd, zadd, Int.add_assoc]
      exact ih
    have yes : q ≠ p ∧ bitk m q = true ∧ st q ≠ -1 ∧ (st q).toNat / A 3 2 = (st p).toNat / A 3 2 → am_wp (am_d (d + 1)) T_X10_worth Q (112, [.ref 56, .int (Int32.ofInt (p : Int)), .int (Int32.ofInt (m : Int)), .int (Int32.ofInt (s0 + sumr (nrq A st (bitk m) p) 0 q)), .int (Int32.ofInt (q : Int)), u], [.int (Int32.ofInt 1)], 0, 0) (lo_M n w3 g σ τ r1 r2) := by
      intro hyes
      have ih := ih (q + 1) (.int (Int32.ofInt 1)) (by omega)
      rw [es, show nrq A st (bitk m) p q = (A (20 + p) q : Int) by unfold nrq; rw [if_pos hyes]] at ih
      refine am_wp_go (am_d_cm _) (fun pc => Nat.beq pc 42 || Nat.beq pc 112) 60 ?_
      refine And.intro (fun q => absurd q (by decide)) (fun _ => ?_)
      refine ixi (7 * p + q) 49 (by omega) ?_ (by rw [zmul, zadd]; congr 1)
      show am_wp _ _ _ (42, [.ref 56, .int (Int32.ofInt (p : Int)), .int (Int32.ofInt (m : Int)), .int (Int32.ofInt (s0 + sumr (nrq A st (bitk m) p) 0 q) + σ 67 (7 * p + q)), .int (Int32.ofInt (q : Int) + Int32.ofInt 1), .int (Int32.ofInt 1)], [], 0, 0) (lo_M n w3 g σ τ r1 r2)
      rw [hb.2.2.2.1 p (by omega) q (by omega), zadd, zadd, Int.add_assoc]
      exact ih
    refine am_wp_go (am_d_cm _) (fun pc => Nat.beq pc 42 || Nat.beq pc 112) 60 ?_
    refine And.intro (fun c1 => ?_) (fun c1 => ?_)
    · have c1 : σ 56 8 ≤ Int32.ofInt (q : Int) := c1
      rw [hn, zle (by unfold zr; omega) (by unfold zr; omega)] at c1
      omega
    refine And.intro (fun c2 => ?_) (fun c2 => ?_)
    · rw [zeq (by unfold zr; omega) (by unfold zr; omega)] at c2
      exact no (fun r => r.1 (by omega))
    rw [zeq (by unfold zr; omega) (by unfold zr; omega)] at c2
    refine r_isIn d hm (by omega) _ _ ?_
    by_cases c3 : bitk m q = true
    · rw [if_pos c3]
      refine And.intro (fun q => absurd q (by decide)) (fun _ => ?_)
      obtain ⟨sq1, sq2, sq3⟩ := hst q (by omega) c3
      refine ixi q 7 (by omega) ?_
      refine And.intro (fun c4 => ?_) (fun c4 => ?_)
      · have c4 : σ 68 q = Int32.ofInt (-1) := c4
        rw [sq1, zeq (by unfold zr; omega) (by unfold zr; omega)] at c4
        exact no (fun r => r.2.2.1 c4)
      · have c4 : ¬ σ 68 q = Int32.ofInt (-1) := c4
        rw [sq1, zeq (by unfold zr; omega) (by unfold zr; omega)] at c4
        have dq : σ 68 q / σ 66 2 = Int32.ofInt (((st q).toNat / A 3 2 : Nat) : Int) := by
          rw [sq1, e66, show st q = ((st q).toNat : Int) by omega, zdiv (by omega) (by omega) (by omega), Int.toNat_natCast]
        have b1 : (st q).toNat / A 3 2 ≤ (st q).toNat := Nat.div_le_self _ _
        have b2 : (st p).toNat / A 3 2 ≤ (st p).toNat := Nat.div_le_self _ _
        refine ixi q 7 (by omega) ?_
        refine ixi 2 6 (by omega) ?_
        refine And.intro nz ?_
        refine ixi p 7 (by omega) ?_
        refine ixi 2 6 (by omega) ?_
        refine And.intro nz ?_
        refine And.intro (fun c5 => ?_) (fun c5 => ?_)
        · have c5 : σ 68 q / σ 66 2 = σ 68 p / σ 66 2 := c5
          rw [dq, dp, zeq (zrN (by omega)) (zrN (by omega))] at c5
          exact yes ⟨by omega, c3, c4, Int.ofNat_inj.mp c5⟩
        · have c5 : ¬ σ 68 q / σ 66 2 = σ 68 p / σ 66 2 := c5
          rw [dq, dp, zeq (zrN (by omega)) (zrN (by omega))] at c5
          exact no (fun r => c5 (by rw [r.2.2.2]))
    · rw [if_neg c3]
      refine And.intro (fun _ => ?_) (fun q => absurd rfl q)
      exact no (fun r => c3 r.2.1)
set_option maxRecDepth 100000 in
theorem r_worth (d : Nat) (Q : am_Q) {st : Nat → Int} {w : Nat → Nat} {m p : Nat} (hwf : WF A B) (hb : RB A w σ) (hm : m < 128) (hp : p < cnt A) (hmp : bitk m p = true) (hst : ∀ q, q < cnt A → bitk m q = true → σ 68 q = Int32.ofInt (st q) ∧ -1 ≤ st q ∧ st q ≤ 6)
    (h : Q (some (.int (Int32.ofInt (WRn A st (bitk m) p)))) (lo_M n w3 g σ τ r1 r2)) :
    am_d (d + 2) 149 [.ref 56, .int (Int32.ofInt (p : Int)), .int (Int32.ofInt (m : Int))] 0 0 (lo_M n w3 g σ τ r1 r2) Q := by
  have hc := cnt_le A
  obtain ⟨sp1, sp2, sp3⟩ := hst p hp hmp
  unfold WRn at h
  refine am_goT T_X10_worth [.ref 56, .int (Int32.ofInt (p : Int)), .int (Int32.ofInt (m : Int)), .null, .null, .null] rfl rfl (fun pc => Nat.beq pc 42) 60 ?_
  refine ixi p 7 (by omega) ?_
  refine And.intro (fun c1 => ?_) (fun c1 => ?_)
  · have c1 : σ 68 p = Int32.ofInt (-1) := c1
    rw [sp1, zeq (by unfold zr; omega) (by unfold zr; omega)] at c1
    rw [if_pos c1] at h
    exact h
  · have c1 : ¬ σ 68 p = Int32.ofInt (-1) := c1
    rw [sp1, zeq (by unfold zr; omega) (by unfold zr; omega)] at c1
    rw [if_neg c1] at h
    have hwl := wsh_lt hp
    refine ixi 3 6 (by omega) ?_
    refine ixi p 7 (by omega) ?_
    refine ixi p 7 (by omega) ?_
    show am_d (d + 1) 148 [.int (σ 68 p - σ 63 p)] 0 0 _ _
    rw [sp1, (hb.1.2 p hp).2, zsub]
    refine r_amount d (by unfold zr; omega) (by omega) _ _ ?_
    show am_wp _ _ _ (42, [.ref 56, .int (Int32.ofInt (p : Int)), .int (Int32.ofInt (m : Int)), .int (Int32.ofInt 20 - σ 66 3 * Int32.ofInt (((st p - (wsh A p : Int)).natAbs : Nat) : Int)), .int (Int32.ofInt 0), .null], [], 0, 0) (lo_M n w3 g σ τ r1 r2)
    rw [hb.2.2.1 3 (by omega), zmul, zsub]
    have key := r_worth_loop (n := n) (w3 := w3) (g := g) (τ := τ) (r1 := r1) (r2 := r2) d Q hwf hb hm hp hmp hst c1 h (cnt A) 0 .null (by omega)
    rw [show sumr (nrq A st (bitk m) p) 0 0 = 0 from rfl, Int.add_zero] at key
    exact key
set_option maxRecDepth 100000 in
theorem r_hasNow (d : Nat) (Q : am_Q) {st : Nat → Int} {w : Nat → Nat} {m p : Nat} (hwf : WF A B) (hw : ∀ p, w p ≤ 59) (hb : RB A w σ) (hm : m < 128) (hp : p < cnt A) (hmp : bitk m p = true) (hst : ∀ q, q < cnt A → bitk m q = true → σ 68 q = Int32.ofInt (st q) ∧ -1 ≤ st q ∧ st q ≤ 6)
    (h : Q (some (.int (Int32.ofInt (WRn A st (bitk m) p - (A 3 4 : Int) * ((prz (A 2) (gin A p (w p)) : Int) - (prz (A 2) (mn A p) : Int)))))) (lo_M n w3 g σ τ r1 r2)) :
    am_d (d + 4) 150 [.ref 56, .int (Int32.ofInt (p : Int)), .int (Int32.ofInt (m : Int))] 0 0 (lo_M n w3 g σ τ r1 r2) Q := by
  refine am_goT T_X10_hasNow [.ref 56, .int (Int32.ofInt (p : Int)), .int (Int32.ofInt (m : Int))] rfl rfl (fun _ => false) 60 ?_
  refine r_worth (d + 1) _ hwf hb hm hp hmp hst ?_
  refine ixi 4 6 (by omega) ?_
  refine r_wet d _ hp hw hb ?_
  rw [← zsub, ← zmul, ← hb.2.2.1 4 (by omega)] at h
  exact h
theorem seat6 (A : aN) (lw : Nat) (mem : Nat → Bool) (w : Nat → Nat) (q : Nat) : -1 ≤ seatZ (SL A lw mem w) q ∧ seatZ (SL A lw mem w) q ≤ 6 := by
  have h := seatZ_rng (SL A lw mem w) q
  have h2 : (SL A lw mem w).length ≤ cnt A := fL_len (cnt A)
  have := cnt_le A
  omega
theorem WRn_all {A : aN} {st : Nat → Int} {p : Nat} (hp : p < cnt A) : WRn A st (bitk (2 ^ cnt A - 1)) p = WRn A st (fun _ => true) p := by
  unfold WRn
  split
  · rfl
  · rw [sumr_congr (g := nrq A st (fun _ => true) p) (cnt A) 0 (fun q _ hq => ?_)]
    unfold nrq
    rw [bitk_all (cnt A) (by have := cnt_le A; omega) q (by omega)]
set_option maxRecDepth 100000 in
theorem r_hasOf (d : Nat) (Q : am_Q) {w : Nat → Nat} {p : Nat} (hwf : WF A B) (hw : ∀ p, w p ≤ 59) (hb : RB A w σ) (hp : p < cnt A)
    (h : ∀ σ' : Nat → Nat → Int32, (∀ c, c ≠ 68 → σ' c = σ c) → Q (some (.int (Int32.ofInt (HZ A (A 3 1) (fun _ => true) w p)))) (lo_M n w3 g σ' τ r1 r2)) :
    am_d (d + 6) 154 [.ref 56, .int (Int32.ofInt (p : Int))] 0 0 (lo_M n w3 g σ τ r1 r2) Q := by
  have hc := cnt_le A
  refine am_goT T_X10_hasOf [.ref 56, .int (Int32.ofInt (p : Int))] rfl rfl (fun _ => false) 60 ?_
  refine r_findAll d _ hw hwf hb (fun σ' k1 k2 => ?_)
  have hb' : RB A w σ' := RB_fr hb (by rw [k1 56 (by decide)]) (fun c e1 e2 => k1 c (by omega))
  refine r_whole (d + 4) _ hc hb'.1.1 ?_
  refine r_hasNow (d + 1) _ (st := seatZ (SL A (A 3 1) (fun _ => true) w)) hwf hw hb' (all_lt hc) hp (bitk_all (cnt A) (by omega) p hp) (fun q hq _ => ⟨k2 q hq, seat6 A _ _ w q⟩) ?_
  rw [WRn_all hp, ← HZ_WRn hwf]
  exact h σ' k1
set_option maxRecDepth 100000 in
theorem q_seat (d : Nat) (Q : am_Q) {z : Int} (hz : zr z) (hm : IM A B σ) (hwf : WF A B) (h : ∀ σ', QF σ σ' → Q (some (.int (Int32.ofInt (f_seat A z)))) (lo_M n w3 g σ' τ r1 r2)) : am_d (d + 6) 151 [.ref 56, .int (Int32.ofInt z)] 0 0 (lo_M n w3 g σ τ r1 r2) Q := by
  have hc := cnt_le A
  refine am_goT T_X10_seat [.ref 56, .int (Int32.ofInt z)] rfl rfl (fun _ => false) 60 ?_
  refine r_isPerson d _ hz hwf hm.1 (fun σ' k1 k2 k3 => ?_)
  unfold f_seat at h
  by_cases c : 0 ≤ z ∧ z < cnt A
  · rw [if_pos c]
    rw [if_pos c] at h
    refine And.intro (fun q => absurd q (by decide)) (fun _ => ?_)
    refine r_findAll d _ hwf.2.2.2.2.1 hwf (RB_rd hm k1 k3) (fun σ2 m1 m2 => ?_)
    have h := h σ2 (QF_trans (QF_rd k1 k2) (QF_68 m1))
    rw [← m2 z.toNat (by omega)] at h
    refine ixi z.toNat 7 (by omega) ?_ (by congr 1; omega)
    exact h
  · rw [if_neg c]
    rw [if_neg c] at h
    exact And.intro (fun _ => h σ' (QF_rd k1 k2)) (fun q => absurd rfl q)
theorem QF_r68 {σ σ' σ2 : Nat → Nat → Int32} (k1 : ∀ c, c ≠ 56 → c ≠ 62 → c ≠ 63 → σ' c = σ c) (k2 : ∀ i, i ≠ 7 → i ≠ 8 → σ' 56 i = σ 56 i) (m1 : ∀ c, c ≠ 68 → σ2 c = σ' c) : QF σ σ2 := QF_trans (QF_rd k1 k2) (QF_68 m1)
/-- who sits on a seat, by the first whose seat it is -/
def whf (st : Nat → Int) (s : Int) : Nat → Nat → Int
  | 0, _ => -1
  | k + 1, p => if st p = s then (p : Int) else whf st s k (p + 1)
set_option maxRecDepth 100000 in
theorem r_whoOf_loop (d : Nat) (Q : am_Q) {st : Nat → Int} {s : Int} (hs : zr s) {N : Nat} (hN : N ≤ 7) (hn : σ 56 8 = Int32.ofInt (N : Int)) (hst : ∀ q, q < N → σ 68 q = Int32.ofInt (st q) ∧ zr (st q)) : ∀ (k p : Nat), p + k = N → Q (some (.int (Int32.ofInt (whf st s k p)))) (lo_M n w3 g σ τ r1 r2) →
    am_wp (am_d d) T_X10_whoOf Q (6, [.ref 56, .int (Int32.ofInt s), .int (Int32.ofInt (p : Int))], [], 0, 0) (lo_M n w3 g σ τ r1 r2) := by
  intro k
  induction k with
  | zero =>
    intro p hp h
    refine am_wp_go (am_d_cm _) (fun pc => Nat.beq pc 6) 60 ?_
    refine And.intro (fun c1 => h) (fun c1 => absurd ?_ c1)
    show σ 56 8 ≤ _
    rw [hn, zle (by unfold zr; omega) (by unfold zr; omega)]
    omega
  | succ k ih =>
    intro p hp h
    unfold whf at h
    refine am_wp_go (am_d_cm _) (fun pc => Nat.beq pc 6) 60 ?_
    refine And.intro (fun c1 => ?_) (fun c1 => ?_)
    · have c1 : σ 56 8 ≤ Int32.ofInt (p : Int) := c1
      rw [hn, zle (by unfold zr; omega) (by unfold zr; omega)] at c1
      omega
    refine ixi p 7 (by omega) ?_
    refine And.intro (fun c2 => ?_) (fun c2 => ?_)
    · have c2 : σ 68 p = Int32.ofInt s := c2
      rw [(hst p (by omega)).1, zeq (hst p (by omega)).2 hs] at c2
      rw [if_pos c2] at h
      exact h
    · have c2 : ¬ σ 68 p = Int32.ofInt s := c2
      rw [(hst p (by omega)).1, zeq (hst p (by omega)).2 hs] at c2
      rw [if_neg c2] at h
      show am_wp _ _ _ (6, [.ref 56, .int (Int32.ofInt s), .int (Int32.ofInt (p : Int) + Int32.ofInt 1)], [], 0, 0) (lo_M n w3 g σ τ r1 r2)
      rw [zadd]
      exact ih (p + 1) (by omega) h
theorem whf_no {st : Nat → Int} {s : Int} : ∀ (k p : Nat), (∀ q, p ≤ q → q < p + k → st q ≠ s) → whf st s k p = -1
  | 0, _, _ => rfl
  | k + 1, p, h => by
    unfold whf
    rw [if_neg (h p (by omega) (by omega))]
    exact whf_no k (p + 1) (fun q q1 q2 => h q (by omega) (by omega))
theorem whf_yes {st : Nat → Int} {s : Int} {x : Nat} (hx : st x = s) : ∀ (k p : Nat), p ≤ x → x < p + k → (∀ q, p ≤ q → q < p + k → st q = s → q = x) → whf st s k p = (x : Int)
  | 0, p, h1, h2, _ => by omega
  | k + 1, p, h1, h2, h => by
    unfold whf
    by_cases c : st p = s
    · rw [if_pos c, h p (by omega) (by omega) c]
    · rw [if_neg c]
      have : p ≠ x := fun e => c (by rw [e]; exact hx)
      exact whf_yes hx k (p + 1) (by omega) (by omega) (fun q q1 q2 => h q (by omega) (by omega))
theorem seatZ_get {L : List Nat} (hn : L.Nodup) {i q : Nat} (h : L[i]? = some q) : seatZ L q = (i : Int) := by
  obtain ⟨hi, hq⟩ := List.getElem?_eq_some_iff.mp h
  have e : L = L.take i ++ q :: L.drop (i + 1) := by
    rw [← hq, List.getElem_cons_drop, List.take_append_drop]
  have hnd : q ∉ L.drop (i + 1) := by
    rw [e] at hn
    exact (List.nodup_cons.mp (List.nodup_append.mp hn).2.1).1
  rw [e, seatZ_mid hnd, List.length_take]
  omega
theorem seatZ_ati {L : List Nat} {q : Nat} (h : q ∈ L) : L[(seatZ L q).toNat]? = some q := by
  obtain ⟨L1, L2, h1, h2⟩ : ∃ L1 L2, L = L1 ++ q :: L2 ∧ q ∉ L2 := by
    induction L with
    | nil => exact absurd h List.not_mem_nil
    | cons x L ih =>
      by_cases c : q ∈ L
      · obtain ⟨L1, L2, e1, e2⟩ := ih c
        exact ⟨x :: L1, L2, by rw [e1]; rfl, e2⟩
      · rcases List.mem_cons.mp h with e | e
        · exact ⟨[], L, by rw [e]; rfl, c⟩
        · contradiction
  subst h1
  rw [seatZ_mid h2, Int.toNat_natCast, List.getElem?_append_right (Nat.le_refl _), Nat.sub_self]
  rfl
theorem whf_SL {A : aN} {lw : Nat} {mem : Nat → Bool} {w : Nat → Nat} {s : Nat} : whf (seatZ (SL A lw mem w)) (s : Int) (cnt A) 0 = match (SL A lw mem w)[s]? with | some q => (q : Int) | none => -1 := by
  cases e : (SL A lw mem w)[s]? with
  | some q =>
    have hq : q ∈ SL A lw mem w := List.mem_of_getElem? e
    refine whf_yes (seatZ_get SL_nd e) (cnt A) 0 (by omega) (by have := SL_lt q hq; omega) (fun p _ _ hp => ?_)
    have hpi : p ∈ SL A lw mem w := by
      by_cases c : p ∈ SL A lw mem w
      · exact c
      · rw [seatZ_no c] at hp
        omega
    have := seatZ_ati hpi
    rw [hp, Int.toNat_natCast, e] at this
    exact (Option.some.inj this).symm
  | none =>
    refine whf_no (cnt A) 0 (fun p _ _ hp => ?_)
    have hpi : p ∈ SL A lw mem w := by
      by_cases c : p ∈ SL A lw mem w
      · exact c
      · rw [seatZ_no c] at hp
        omega
    have := seatZ_ati hpi
    rw [hp, Int.toNat_natCast, e] at this
    exact absurd this (by simp)
set_option maxRecDepth 100000 in
theorem r_whoOf (d : Nat) (Q : am_Q) {s : Nat} (hs : s < 7) (hb : RB A (A 4) σ) (hwf : WF A B) (h : ∀ σ' : Nat → Nat → Int32, (∀ c, c ≠ 68 → σ' c = σ c) → Q (some (.int (Int32.ofInt (match (SL A (A 3 1) (fun _ => true) (A 4))[s]? with | some q => (q : Int) | none => -1)))) (lo_M n w3 g σ' τ r1 r2)) : am_d (d + 6) 152 [.ref 56, .int (Int32.ofInt (s : Int))] 0 0 (lo_M n w3 g σ τ r1 r2) Q := by
  refine am_goT T_X10_whoOf [.ref 56, .int (Int32.ofInt (s : Int)), .null] rfl rfl (fun pc => Nat.beq pc 6) 60 ?_
  refine r_findAll d _ hwf.2.2.2.2.1 hwf hb (fun σ' k1 k2 => ?_)
  have h := h σ' k1
  rw [← whf_SL] at h
  exact r_whoOf_loop (d + 5) Q (by unfold zr; omega) (cnt_le A) (by rw [k1 56 (by decide)]; exact hb.1.1) (fun q hq => ⟨k2 q hq, by have := seat6 A (A 3 1) (fun _ => true) (A 4) q; unfold zr; omega⟩) (cnt A) 0 (by omega) h
set_option maxRecDepth 100000 in
theorem q_who (d : Nat) (Q : am_Q) {z : Int} (hz : zr z) (hm : IM A B σ) (hwf : WF A B) (h : ∀ σ', QF σ σ' → Q (some (.int (Int32.ofInt (f_who A z)))) (lo_M n w3 g σ' τ r1 r2)) : am_d (d + 7) 153 [.ref 56, .int (Int32.ofInt z)] 0 0 (lo_M n w3 g σ τ r1 r2) Q := by
  refine am_goT T_X10_who [.ref 56, .int (Int32.ofInt z)] rfl rfl (fun _ => false) 60 ?_
  refine r_reads (d + 2) _ hwf hm.1 (fun σ' k1 k2 k3 => ?_)
  refine r_isSeven (d + 4) hz _ _ ?_
  unfold f_who at h
  by_cases c : 0 ≤ z ∧ z ≤ 6
  · rw [if_pos c]
    rw [if_pos c] at h
    refine And.intro (fun q => absurd q (by decide)) (fun _ => ?_)
    obtain ⟨s, rfl⟩ := Int.eq_ofNat_of_zero_le c.1
    exact r_whoOf d _ (by omega) (RB_rd hm k1 k3) hwf (fun σ2 m1 => h σ2 (QF_r68 k1 k2 m1))
  · rw [if_neg c]
    rw [if_neg c] at h
    exact And.intro (fun _ => h σ' (QF_rd k1 k2)) (fun q => absurd rfl q)
set_option maxRecDepth 100000 in
theorem q_has (d : Nat) (Q : am_Q) {z : Int} (hz : zr z) (hm : IM A B σ) (hwf : WF A B) (h : ∀ σ', QF σ σ' → Q (some (.int (Int32.ofInt (f_has A z)))) (lo_M n w3 g σ' τ r1 r2)) : am_d (d + 7) 155 [.ref 56, .int (Int32.ofInt z)] 0 0 (lo_M n w3 g σ τ r1 r2) Q := by
  refine am_goT T_X10_has [.ref 56, .int (Int32.ofInt z)] rfl rfl (fun _ => false) 60 ?_
  refine r_isPerson (d + 1) _ hz hwf hm.1 (fun σ' k1 k2 k3 => ?_)
  unfold f_has at h
  by_cases c : 0 ≤ z ∧ z < cnt A
  · rw [if_pos c]
    rw [if_pos c] at h
    refine And.intro (fun q => absurd q (by decide)) (fun _ => ?_)
    obtain ⟨p, rfl⟩ := Int.eq_ofNat_of_zero_le c.1
    exact r_hasOf d _ hwf hwf.2.2.2.2.1 (RB_rd hm k1 k3) (by omega) (fun σ2 m1 => h σ2 (QF_r68 k1 k2 m1))
  · rw [if_neg c]
    rw [if_neg c] at h
    exact And.intro (fun _ => h σ' (QF_rd k1 k2)) (fun q => absurd rfl q)
end RWO
