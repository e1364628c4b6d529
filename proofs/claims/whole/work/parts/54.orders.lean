/-! orders: each is one of all, everybody in it once -/
theorem unr_s {N j c i : Nat} : unr N (j + 1) c i = (av N c).getD (i / fac j) 0 :: unr N j (c ||| 2 ^ (av N c).getD (i / fac j) 0) (i % fac j) := by
  show frc _ _ = _
  rw [frc_eq, frc_eq, frc_eq]
theorem fac_pos : ∀ n, 0 < fac n
  | 0 => by decide
  | n + 1 => Nat.mul_pos (by omega) (fac_pos n)
theorem fac_s (n : Nat) : fac (n + 1) = (n + 1) * fac n := rfl
theorem av_len : ∀ N : Nat, N < 8 → ∀ c : Nat, c < 128 → c < 2 ^ N → (av N c).length + pcn c = N := by decide +kernel
theorem bor2 : ∀ c : Nat, c < 128 → ∀ p : Nat, p < 7 → ∀ q : Nat, q < 7 → bitk (c ||| 2 ^ p) q = (bitk c q || Nat.beq q p) := by decide +kernel
theorem av_mem {N c p : Nat} : p ∈ av N c ↔ p < N ∧ bitk c p = false := by
  unfold av
  rw [List.mem_filter, List.mem_range]
  cases bitk c p <;> simp
theorem av_at {N c k : Nat} (h : k < (av N c).length) : (av N c).getD k 0 < N ∧ bitk c ((av N c).getD k 0) = false := by
  rw [List.getD_eq_getElem?_getD, List.getElem?_eq_getElem h]
  exact av_mem.mp (List.getElem_mem h)
/-- where the head of an order comes from -/
theorem unr_hd {N j c i : Nat} (hN : N ≤ 7) (hc : c < 2 ^ N) (hj : j + 1 + pcn c = N) (hi : i < fac (j + 1)) : (av N c).getD (i / fac j) 0 < N ∧ bitk c ((av N c).getD (i / fac j) 0) = false ∧ c ||| 2 ^ (av N c).getD (i / fac j) 0 < 2 ^ N ∧ j + pcn (c ||| 2 ^ (av N c).getD (i / fac j) 0) = N ∧ i % fac j < fac j := by
  have t7 := two7 hN
  have al := av_len N (by omega) c (by omega) hc
  have hk : i / fac j < j + 1 := by
    rw [Nat.div_lt_iff_lt_mul (fac_pos j)]
    exact hi
  obtain ⟨h1, h2⟩ := av_at (N := N) (c := c) (k := i / fac j) (by omega)
  have o2 := (or2 c (by omega) _ (by omega)).2 h2
  exact ⟨h1, h2, or3 N (by omega) c (by omega) _ h1 hc, by omega, Nat.mod_lt _ (fac_pos j)⟩
theorem unr_ok {N : Nat} (hN : N ≤ 7) : ∀ (j c i : Nat), c < 2 ^ N → j + pcn c = N → i < fac j → (unr N j c i).length = j ∧ (unr N j c i).Nodup ∧ ∀ q, q ∈ unr N j c i ↔ q < N ∧ bitk c q = false
  | 0, c, i, hc, hj, hi => by
    have t7 := two7 hN
    have := (pcN N (by omega) c (by omega) hc).2 (by omega)
    refine ⟨rfl, List.Pairwise.nil, fun q => ?_⟩
    constructor
    · intro h
      exact absurd h List.not_mem_nil
    · rintro ⟨h1, h2⟩
      rw [this, bitk_all N (by omega) q h1] at h2
      exact absurd h2 (by decide)
  | j + 1, c, i, hc, hj, hi => by
    have t7 := two7 hN
    obtain ⟨h1, h2, h3, h4, h5⟩ := unr_hd hN hc hj hi
    rw [unr_s]
    generalize (av N c).getD (i / fac j) 0 = a at h1 h2 h3 h4
    obtain ⟨i1, i2, i3⟩ := unr_ok hN j (c ||| 2 ^ a) (i % fac j) h3 h4 h5
    have bo := fun q (hq : q < 7) => bor2 c (by omega) a (by omega) q hq
    refine ⟨by rw [List.length_cons, i1], List.nodup_cons.mpr ⟨fun q => ?_, i2⟩, fun q => ?_⟩
    · have := (i3 a).mp q
      rw [bo a (by omega), Nat.beq_eq.mpr rfl, Bool.or_true] at this
      exact absurd this.2 (by decide)
    · rw [List.mem_cons, i3 q]
      constructor
      · rintro (e | ⟨e1, e2⟩)
        · subst e
          exact ⟨h1, h2⟩
        · rw [bo q (by omega), Bool.or_eq_false_iff] at e2
          exact ⟨e1, e2.1⟩
      · rintro ⟨e1, e2⟩
        by_cases e : q = a
        · exact Or.inl e
        · refine Or.inr ⟨e1, ?_⟩
          rw [bo q (by omega), e2]
          cases h : Nat.beq q a with
          | true => exact absurd (Nat.beq_eq.mp h) e
          | false => rfl
/-- an order and the places in it -/
def bij (N : Nat) (o ps : Nat → Nat) : Prop := (∀ k, k < N → o k < N ∧ ps (o k) = k) ∧ ∀ q, q < N → ps q < N ∧ o (ps q) = q
def oU (N i k : Nat) : Nat := (unr N N 0 i).getD k 0
def psU (N i q : Nat) : Nat := (seatZ (unr N N 0 i) q).toNat
theorem pcn0 : pcn 0 = 0 := rfl
theorem unr_all {N i : Nat} (hN : N ≤ 7) (hi : i < fac N) : (unr N N 0 i).length = N ∧ (unr N N 0 i).Nodup ∧ ∀ q, q ∈ unr N N 0 i ↔ q < N := by
  obtain ⟨h1, h2, h3⟩ := unr_ok hN N 0 i (Nat.pow_pos (by omega)) (by rw [pcn0]; omega) hi
  refine ⟨h1, h2, fun q => ?_⟩
  rw [h3 q]
  constructor
  · exact fun h => h.1
  · intro h
    have : ∀ q : Nat, q < 7 → bitk 0 q = false := by decide
    exact ⟨h, this q (by omega)⟩
theorem bijU {N i : Nat} (hN : N ≤ 7) (hi : i < fac N) : bij N (oU N i) (psU N i) := by
  obtain ⟨h1, h2, h3⟩ := unr_all hN hi
  have hget : ∀ k, k < N → (unr N N 0 i)[k]? = some (oU N i k) := by
    intro k hk
    unfold oU
    rw [List.getD_eq_getElem?_getD, List.getElem?_eq_getElem (by omega)]
    rfl
  refine ⟨fun k hk => ?_, fun q hq => ?_⟩
  · have hg := hget k hk
    have hm := (h3 _).mp (List.mem_of_getElem? hg)
    refine ⟨hm, ?_⟩
    unfold psU
    rw [seatZ_get h2 hg]
    rfl
  · have hm := (h3 q).mpr hq
    have hg := seatZ_ati hm
    have hl := (List.getElem?_eq_some_iff.mp hg).1
    refine ⟨by unfold psU; omega, ?_⟩
    have := hget (psU N i q) (by unfold psU; omega)
    unfold psU at this ⊢
    rw [hg] at this
    exact (Option.some.inj this).symm
/-- one fact, by seats -/
def soF (A : aN) (st : Nat → Int) (f : Nat) : Bool := if A 5 f = 0 then decide (A 6 f < cnt A ∧ st (A 6 f) = (A 7 f : Int)) else decide (A 6 f < cnt A ∧ A 7 f < cnt A ∧ st (A 7 f) < st (A 6 f))
def soA (A : aN) (st : Nat → Int) : Nat → Bool
  | 0 => true
  | f + 1 => soA A st f && soF A st f
/-- the seat of one who came as the k-th -/
def stP (N lw k : Nat) : Int := if lw = 0 then (k : Int) else (N : Int) - 1 - (k : Int)
def stU (A : aN) (i q : Nat) : Int := stP (cnt A) (A 3 1) (psU (cnt A) i q)
def soU (A : aN) (i : Nat) : Bool := soA A (stU A i) (A 0 1)
def cnS (so : Nat → Bool) : Nat → Nat
  | 0 => 0
  | i + 1 => cnS so i + (if so i = true then 1 else 0)
def cmS (so : Nat → Bool) (ps : Nat → Nat → Nat) (q : Nat) : Nat → Nat
  | 0 => 0
  | i + 1 => if so i = true then cmS so ps q i ||| 2 ^ ps i q else cmS so ps q i
def cbS (so : Nat → Bool) (ps : Nat → Nat → Nat) (a b : Nat) : Nat → Bool
  | 0 => false
  | i + 1 => cbS so ps a b i || (so i && decide (ps i a < ps i b))
/-- what one has, in the i-th order -/
def wU (A : aN) (p i : Nat) : Int := WRn A (stU A i) (fun _ => true) p
section RIS
variable {n w3 : Nat} {g : Nat → Nat × Nat} {σ : Nat → Nat → Int32} {τ : Nat → Nat → Int64} {r1 r2 : Nat} {A : aN} {B : aZ}
set_option maxHeartbeats 2000000 in
set_option maxRecDepth 100000 in
theorem r_isSo_loop (d : Nat) (Q : am_Q) {st : Nat → Int} (hwf : WF A B) (hn : σ 56 8 = Int32.ofInt (cnt A : Int)) (hF : rF A σ) (hst : ∀ q, q < cnt A → σ 68 q = Int32.ofInt (st q) ∧ zr (st q))
    (h : Q (some (.int (if soA A st (A 0 1) = true then 1 else 0))) (lo_M n w3 g σ τ r1 r2)) : ∀ (k f : Nat) (u3 u4 : Value), f + k = A 0 1 →
    am_wp (am_d d) T_X10_isSo Q (4, [.ref 56, .int (if soA A st f = true then Int32.ofInt 1 else Int32.ofInt 0), .int (Int32.ofInt (f : Int)), u3, u4], [], 0, 0) (lo_M n w3 g σ τ r1 r2) := by
  have hc := cnt_le A
  have h8 : A 0 1 ≤ 8 := hwf.2.2.2.2.2.2.2.1
  intro k
  induction k with
  | zero =>
    intro f u3 u4 hf
    have e : f = A 0 1 := by omega
    subst e
    refine am_wp_go (am_d_cm _) (fun pc => Nat.beq pc 4) 80 ?_
    refine And.intro (fun c1 => ?_) (fun c1 => absurd ?_ c1)
    · by_cases c : soA A st (A 0 1) = true
      · rw [if_pos c] at h ⊢
        exact And.intro (Or.inr rfl) h
      · rw [if_neg c] at h ⊢
        exact And.intro (Or.inl rfl) h
    · show σ 56 19 ≤ _
      rw [hF.1]
      exact Int32.le_refl _
  | succ k ih =>
    intro f u3 u4 hf
    obtain ⟨t0, t1, t2⟩ := hF.2 f (by omega)
    obtain ⟨w0, w1, w2⟩ := hwf.2.2.2.2.2.2.2.2.1 f
    have fin : ∀ v : Bool, v = soF A st f → am_wp (am_d d) T_X10_isSo Q (4, [.ref 56, .int (if (soA A st f && v) = true then Int32.ofInt 1 else Int32.ofInt 0), .int (Int32.ofInt (f : Int) + Int32.ofInt 1), .int (σ 70 (3 * f + 1)), .int (σ 70 (3 * f + 2))], [], 0, 0) (lo_M n w3 g σ τ r1 r2) := by
      intro v hv
      rw [zadd, hv]
      exact ih (f + 1) _ _ (by omega)
    refine am_wp_go (am_d_cm _) (fun pc => Nat.beq pc 4) 80 ?_
    refine And.intro (fun c1 => ?_) (fun c1 => ?_)
    · have c1 : σ 56 19 ≤ Int32.ofInt (f : Int) := c1
      rw [hF.1, zle (by unfold zr; omega) (by unfold zr; omega)] at c1
      omega
    refine ixi (3 * f + 1) 24 (by omega) ?_ (by rw [zmul, zadd]; congr 1)
    refine ixi (3 * f + 2) 24 (by omega) ?_ (by rw [zmul, zadd]; congr 1)
    refine ixi (3 * f) 24 (by omega) ?_ (by rw [zmul]; congr 1)
    refine And.intro (fun c2 => ?_) (fun c2 => ?_)
    · have c2 : σ 70 (3 * f) = 0 := c2
      rw [t0, zeq0 (by unfold zr; omega)] at c2
      have ef : soF A st f = decide (A 6 f < cnt A ∧ st (A 6 f) = (A 7 f : Int)) := by unfold soF; rw [if_pos (by omega)]
      by_cases cb : soA A st f = true
      · rw [cb] at fin
        rw [if_pos cb]
        refine And.intro (fun q => absurd q (by decide)) (fun _ => ?_)
        refine And.intro (fun c3 => ?_) (fun c3 => ?_)
        · have c3 : σ 56 8 ≤ σ 70 (3 * f + 1) := c3
          rw [hn, t1, zle (by unfold zr; omega) (by unfold zr; omega)] at c3
          exact fin false (by rw [ef, decide_eq_false (fun q => by omega)])
        · have c3 : ¬ σ 56 8 ≤ σ 70 (3 * f + 1) := c3
          rw [hn, t1, zle (by unfold zr; omega) (by unfold zr; omega)] at c3
          obtain ⟨s1, s2⟩ := hst (A 6 f) (by omega)
          refine ixi (A 6 f) 7 (by omega) ?_ t1
          refine And.intro (fun c4 => ?_) (fun c4 => ?_)
          · have c4 : σ 68 (A 6 f) = σ 70 (3 * f + 2) := c4
            rw [s1, t2, zeq s2 (by unfold zr; omega)] at c4
            exact fin true (by rw [ef, decide_eq_true ⟨by omega, c4⟩])
          · have c4 : ¬ σ 68 (A 6 f) = σ 70 (3 * f + 2) := c4
            rw [s1, t2, zeq s2 (by unfold zr; omega)] at c4
            exact fin false (by rw [ef, decide_eq_false (fun q => c4 q.2)])
      · have cb' : soA A st f = false := by
          cases e : soA A st f with
          | true => exact absurd e cb
          | false => rfl
        have fin := fin (soF A st f) rfl
        rw [cb', Bool.false_and] at fin
        rw [if_neg cb]
        exact And.intro (fun _ => fin) (fun q => absurd rfl q)
    · have c2 : ¬ σ 70 (3 * f) = 0 := c2
      rw [t0, zeq0 (by unfold zr; omega)] at c2
      have ef : soF A st f = decide (A 6 f < cnt A ∧ A 7 f < cnt A ∧ st (A 7 f) < st (A 6 f)) := by unfold soF; rw [if_neg (by omega)]
      by_cases cb : soA A st f = true
      · rw [cb] at fin
        rw [if_pos cb]
        refine And.intro (fun q => absurd q (by decide)) (fun _ => ?_)
        refine And.intro (fun c3 => ?_) (fun c3 => ?_)
        · have c3 : σ 56 8 ≤ σ 70 (3 * f + 1) := c3
          rw [hn, t1, zle (by unfold zr; omega) (by unfold zr; omega)] at c3
          exact fin false (by rw [ef, decide_eq_false (fun q => by omega)])
        · have c3 : ¬ σ 56 8 ≤ σ 70 (3 * f + 1) := c3
          rw [hn, t1, zle (by unfold zr; omega) (by unfold zr; omega)] at c3
          refine And.intro (fun c4 => ?_) (fun c4 => ?_)
          · have c4 : σ 56 8 ≤ σ 70 (3 * f + 2) := c4
            rw [hn, t2, zle (by unfold zr; omega) (by unfold zr; omega)] at c4
            exact fin false (by rw [ef, decide_eq_false (fun q => by omega)])
          · have c4 : ¬ σ 56 8 ≤ σ 70 (3 * f + 2) := c4
            rw [hn, t2, zle (by unfold zr; omega) (by unfold zr; omega)] at c4
            obtain ⟨s1, s2⟩ := hst (A 6 f) (by omega)
            obtain ⟨s3, s4⟩ := hst (A 7 f) (by omega)
            refine ixi (A 6 f) 7 (by omega) ?_ t1
            refine ixi (A 7 f) 7 (by omega) ?_ t2
            refine And.intro (fun c5 => ?_) (fun c5 => ?_)
            · have c5 : σ 68 (A 6 f) ≤ σ 68 (A 7 f) := c5
              rw [s1, s3, zle s2 s4] at c5
              exact fin false (by rw [ef, decide_eq_false (fun q => by omega)])
            · have c5 : ¬ σ 68 (A 6 f) ≤ σ 68 (A 7 f) := c5
              rw [s1, s3, zle s2 s4] at c5
              exact fin true (by rw [ef, decide_eq_true ⟨by omega, by omega, by omega⟩])
      · have cb' : soA A st f = false := by
          cases e : soA A st f with
          | true => exact absurd e cb
          | false => rfl
        have fin := fin (soF A st f) rfl
        rw [cb', Bool.false_and] at fin
        rw [if_neg cb]
        exact And.intro (fun _ => fin) (fun q => absurd rfl q)
set_option maxRecDepth 100000 in
theorem r_isSo (d : Nat) (Q : am_Q) {st : Nat → Int} (hwf : WF A B) (hn : σ 56 8 = Int32.ofInt (cnt A : Int)) (hF : rF A σ) (hst : ∀ q, q < cnt A → σ 68 q = Int32.ofInt (st q) ∧ zr (st q))
    (h : Q (some (.int (if soA A st (A 0 1) = true then 1 else 0))) (lo_M n w3 g σ τ r1 r2)) : am_d (d + 1) 175 [.ref 56] 0 0 (lo_M n w3 g σ τ r1 r2) Q := by
  refine am_goT T_X10_isSo [.ref 56, .null, .null, .null, .null] rfl rfl (fun pc => Nat.beq pc 4) 60 ?_
  exact r_isSo_loop d Q hwf hn hF hst h (A 0 1) 0 .null .null (by omega)
end RIS
