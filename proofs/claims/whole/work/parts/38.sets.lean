/-! Orders: how many ways lead to a set, and on from it, in whole numbers -/
theorem pc1 : ∀ c : Nat, c < 128 → ∀ q : Nat, q < 7 → bitk c q = true → 2 ^ q ≤ c ∧ pcn (c - 2 ^ q) + 1 = pcn c ∧ bitk (c - 2 ^ q) q = false ∧ (c - 2 ^ q) ||| 2 ^ q = c := by decide +kernel
theorem bor1 : ∀ c : Nat, c < 128 → ∀ p : Nat, p < 7 → bitk (c ||| 2 ^ p) p = true := by decide +kernel
theorem pc0 : ∀ c : Nat, c < 128 → pcn c = 0 → c = 0 := by decide +kernel
theorem pcN : ∀ n : Nat, n < 8 → ∀ c : Nat, c < 128 → c < 2 ^ n → pcn c ≤ n ∧ (pcn c = n → c = 2 ^ n - 1) := by decide +kernel
theorem pcA : ∀ n : Nat, n < 8 → pcn (2 ^ n - 1) = n := by decide +kernel
/-- what the facts say: who comes ahead of whom, the places, whether all are there -/
def hdf (N lw : Nat) (k a b : Nat → Nat) : Nat → ((Nat → Nat) × (Nat → Nat)) × Bool
  | 0 => ((fun _ => 0, fun _ => 2 ^ N - 1), true)
  | f + 1 => (hd1 N lw (k f) (a f) (b f) (hdf N lw k a b f).1, hd2 N (k f) (a f) (b f) && (hdf N lw k a b f).2)
theorem hdf_7 {N lw : Nat} {k a b : Nat → Nat} (hN : N ≤ 7) : ∀ f, m7 N (hdf N lw k a b f).1
  | 0 => fun q hq => by
    have := two7 hN
    constructor
    · show 0 < 128
      omega
    · show 2 ^ N - 1 < 128
      omega
  | f + 1 => hd1_7 hN (hdf_7 hN f)
def Fk (N : Nat) (x : (Nat → Nat) × (Nat → Nat)) : Nat → Nat → Nat
  | 0, _ => 1
  | k + 1, c => nsum (fun p => if mc x p c = true then Fk N x k (c ||| 2 ^ p) else 0) N
def Fw (N : Nat) (x : (Nat → Nat) × (Nat → Nat)) (c : Nat) : Nat := Fk N x (N - pcn c) c
def Gk (N : Nat) (x : (Nat → Nat) × (Nat → Nat)) (ps : Bool) : Nat → Nat → Nat
  | 0, _ => if ps = true then 1 else 0
  | k + 1, c => nsum (fun q => if (bitk c q && mc x q (c - 2 ^ q)) = true then Gk N x ps k (c - 2 ^ q) else 0) N
def Gw (N : Nat) (x : (Nat → Nat) × (Nat → Nat)) (ps : Bool) (c : Nat) : Nat := Gk N x ps (pcn c) c
theorem nsum_congr {f f' : Nat → Nat} : ∀ k, (∀ q, q < k → f q = f' q) → nsum f k = nsum f' k
  | 0, _ => rfl
  | k + 1, h => by
    unfold nsum
    rw [nsum_congr k (fun q hq => h q (by omega)), h k (by omega)]
theorem nsum_one {f f' : Nat → Nat} {p : Nat} : ∀ k, p < k → (∀ q, q < k → q ≠ p → f q = f' q) → nsum f k + f' p = nsum f' k + f p
  | 0, h, _ => by omega
  | k + 1, h, e => by
    unfold nsum
    by_cases c : p = k
    · subst c
      rw [nsum_congr p (fun q hq => e q (by omega) (by omega))]
      omega
    · have := nsum_one k (by omega) (fun q hq => e q (by omega))
      rw [e k (by omega) (by omega)]
      omega
theorem nsum_le {f : Nat → Nat} {m : Nat} : ∀ k, (∀ q, q < k → f q ≤ m) → nsum f k ≤ k * m
  | 0, _ => by unfold nsum; omega
  | k + 1, h => by
    unfold nsum
    have h1 := nsum_le k (fun q hq => h q (by omega))
    have h2 := h k (by omega)
    rw [Nat.succ_mul]
    omega
theorem onF_Fw {N : Nat} (hN : N ≤ 7) (x : (Nat → Nat) × (Nat → Nat)) : onF N x (Fw N x) := by
  have t7 := two7 hN
  refine ⟨?_, fun come hc => ?_⟩
  · unfold Fw
    rw [pcA N (by omega), Nat.sub_self]
    rfl
  · obtain ⟨h1, h2⟩ := pcN N (by omega) come (by omega) (by omega)
    obtain ⟨k, hk⟩ : ∃ k, N - pcn come = k + 1 := ⟨N - pcn come - 1, by
      have : pcn come ≠ N := fun e => by
        have := h2 e
        omega
      omega⟩
    unfold Fw
    rw [hk]
    show nsum _ N = _
    refine nsum_congr N (fun p hp => ?_)
    by_cases c : mc x p come = true
    · rw [if_pos c, if_pos c, ((or2 come (by omega) p (by omega)).2 (mc_bit c)).2, show N - (pcn come + 1) = k by omega]
    · rw [if_neg c, if_neg c]
theorem Gw_0 {N : Nat} (x : (Nat → Nat) × (Nat → Nat)) (ps : Bool) : Gw N x ps 0 = if ps = true then 1 else 0 := rfl
theorem Gw_s {N : Nat} (hN : N ≤ 7) (x : (Nat → Nat) × (Nat → Nat)) (ps : Bool) {c : Nat} (hc : c < 128) (h0 : c ≠ 0) : Gw N x ps c = nsum (fun q => if (bitk c q && mc x q (c - 2 ^ q)) = true then Gw N x ps (c - 2 ^ q) else 0) N := by
  obtain ⟨k, hk⟩ : ∃ k, pcn c = k + 1 := ⟨pcn c - 1, by
    have : pcn c ≠ 0 := fun e => h0 (pc0 c hc e)
    omega⟩
  unfold Gw
  rw [hk]
  show nsum _ N = _
  refine nsum_congr N (fun q hq => ?_)
  by_cases cc : (bitk c q && mc x q (c - 2 ^ q)) = true
  · rw [if_pos cc, if_pos cc]
    have := (pc1 c hc q (by omega) (by rw [Bool.and_eq_true] at cc; exact cc.1)).2.1
    rw [show pcn (c - 2 ^ q) = k by omega]
  · rw [if_neg cc, if_neg cc]
theorem Gk_le {N : Nat} (hN : N ≤ 7) {x : (Nat → Nat) × (Nat → Nat)} {ps : Bool} : ∀ k c, Gk N x ps k c ≤ 7 ^ k
  | 0, c => by
    unfold Gk
    split <;> omega
  | k + 1, c => by
    have h := nsum_le (f := fun q => if (bitk c q && mc x q (c - 2 ^ q)) = true then Gk N x ps k (c - 2 ^ q) else 0) (m := 7 ^ k) N (fun q hq => by
      split
      · exact Gk_le hN k _
      · exact Nat.zero_le _)
    have h2 : N * 7 ^ k ≤ 7 * 7 ^ k := Nat.mul_le_mul_right _ hN
    rw [Nat.pow_succ, Nat.mul_comm (7 ^ k) 7]
    exact Nat.le_trans h h2
theorem Gw_le {N : Nat} (hN : N ≤ 7) {x : (Nat → Nat) × (Nat → Nat)} {ps : Bool} (c : Nat) : Gw N x ps c ≤ 1000000 := by
  have h1 : Gw N x ps c ≤ 7 ^ pcn c := Gk_le hN (pcn c) c
  have h2 : 7 ^ pcn c ≤ 7 ^ 7 := Nat.pow_le_pow_right (by omega) (pcn_le c)
  have h3 : 7 ^ 7 = 823543 := rfl
  omega
/-- (c, q) has had its turn -/
def prc (come p c q : Nat) : Bool := Nat.blt c come || (Nat.beq c come && Nat.blt q p)
def wtJ (N : Nat) (x : (Nat → Nat) × (Nat → Nat)) (ps : Bool) (come p : Nat) (w : Nat → Nat) : Prop := (∀ c, c < 2 ^ N → w c = if c = 0 then (if ps = true then 1 else 0) else nsum (fun q => if (bitk c q && mc x q (c - 2 ^ q) && prc come p (c - 2 ^ q) q) = true then Gw N x ps (c - 2 ^ q) else 0) N) ∧ ∀ c, 2 ^ N ≤ c → w c = 0
theorem prc_lt {come p c q : Nat} (h : c < come) : prc come p c q = true := by
  unfold prc
  rw [show Nat.blt c come = true from Nat.blt_eq.mpr h]
  rfl
theorem wtJ_at {N : Nat} (hN : N ≤ 7) {x : (Nat → Nat) × (Nat → Nat)} {ps : Bool} {come p : Nat} {w : Nat → Nat} (h : wtJ N x ps come p w) {c : Nat} (hc : c < 2 ^ N) (hle : c ≤ come) : w c = Gw N x ps c := by
  have t7 := two7 hN
  rw [h.1 c hc]
  split
  · next e =>
    subst e
    rfl
  · next e =>
    rw [Gw_s hN x ps (by omega) e]
    refine nsum_congr N (fun q hq => ?_)
    by_cases cc : (bitk c q && mc x q (c - 2 ^ q)) = true
    · have b := (pc1 c (by omega) q (by omega) (by rw [Bool.and_eq_true] at cc; exact cc.1)).1
      have : 0 < 2 ^ q := Nat.pow_pos (by omega)
      rw [cc, prc_lt (by omega)]
      rfl
    · rw [if_neg cc, if_neg (fun e => cc (by rw [Bool.and_eq_true] at e; exact e.1))]
theorem wtJ_i1 {N : Nat} (hN : N ≤ 7) {x : (Nat → Nat) × (Nat → Nat)} {ps : Bool} : ∀ come p w, wtJ N x ps come p w → w come ≤ 1000000000 := by
  intro come p w h
  by_cases c : come < 2 ^ N
  · rw [wtJ_at hN h c (Nat.le_refl _)]
    have := Gw_le hN (x := x) (ps := ps) come
    omega
  · rw [h.2 come (by omega)]
    omega
/-- what changes when (come, p) has its turn -/
theorem prc_s {come p c q : Nat} (h : ¬ (c = come ∧ q = p)) : prc come (p + 1) c q = prc come p c q := by
  unfold prc
  by_cases e : c = come
  · have hq : q ≠ p := fun k => h ⟨e, k⟩
    have : Nat.blt q (p + 1) = Nat.blt q p := by
      by_cases k : q < p
      · rw [show Nat.blt q p = true from Nat.blt_eq.mpr k, show Nat.blt q (p + 1) = true from Nat.blt_eq.mpr (by omega)]
      · cases e1 : Nat.blt q (p + 1) with
        | true =>
          have := Nat.blt_eq.mp e1
          omega
        | false =>
          cases e2 : Nat.blt q p with
          | true =>
            have := Nat.blt_eq.mp e2
            omega
          | false => rfl
    rw [this]
  · have : Nat.beq c come = false := by
      cases e1 : Nat.beq c come with
      | true => exact absurd (Nat.eq_of_beq_eq_true e1) e
      | false => rfl
    rw [this]
    rfl
theorem prc_no (come p : Nat) : prc come p come p = false := by
  unfold prc
  have h1 : Nat.blt come come = false := by
    cases e : Nat.blt come come with
    | true =>
      have := Nat.blt_eq.mp e
      omega
    | false => rfl
  have h2 : Nat.blt p p = false := by
    cases e : Nat.blt p p with
    | true =>
      have := Nat.blt_eq.mp e
      omega
    | false => rfl
  rw [h1, h2]
  cases Nat.beq come come <;> rfl
theorem prc_yes (come p : Nat) : prc come (p + 1) come p = true := by
  unfold prc
  rw [show Nat.beq come come = true from Nat.beq_refl come, show Nat.blt p (p + 1) = true from Nat.blt_eq.mpr (by omega)]
  cases Nat.blt come come <;> rfl
theorem wtJ_i2 {N : Nat} (hN : N ≤ 7) {x : (Nat → Nat) × (Nat → Nat)} {ps : Bool} : ∀ come p w, come < 2 ^ N → p < N → wtJ N x ps come p w → 0 < w come → mc x p come = true → wtJ N x ps come (p + 1) (updw w (come ||| 2 ^ p) (w (come ||| 2 ^ p) + w come)) := by
  intro come p w hcome hp h hw hm
  have t7 := two7 hN
  have o3 := or3 N (by omega) come (by omega) p hp hcome
  have o2 := ((or2 come (by omega) p (by omega)).2 (mc_bit hm)).1
  have hb := bor1 come (by omega) p (by omega)
  have op : 0 < 2 ^ p := Nat.pow_pos (by omega)
  refine ⟨fun c hc => ?_, fun c hc => ?_⟩
  · unfold updw
    by_cases e : c = come ||| 2 ^ p
    · rw [if_pos e, if_neg (by omega), h.1 _ o3, if_neg (by omega), wtJ_at hN h hcome (Nat.le_refl _)]
      have key := nsum_one (p := p) (f := fun q => if (bitk c q && mc x q (c - 2 ^ q) && prc come (p + 1) (c - 2 ^ q) q) = true then Gw N x ps (c - 2 ^ q) else 0) (f' := fun q => if (bitk c q && mc x q (c - 2 ^ q) && prc come p (c - 2 ^ q) q) = true then Gw N x ps (c - 2 ^ q) else 0) N hp (fun q hq hqp => by
        rw [prc_s (fun k => hqp k.2)])
      have ec : c - 2 ^ p = come := by omega
      have h1 : (bitk c p && mc x p (c - 2 ^ p) && prc come p (c - 2 ^ p) p) = false := by
        rw [ec, prc_no]
        simp
      have h2 : (bitk c p && mc x p (c - 2 ^ p) && prc come (p + 1) (c - 2 ^ p) p) = true := by
        rw [ec, prc_yes, hm, e, hb]
        rfl
      rw [h1, h2, if_neg (by decide), if_pos rfl, ec] at key
      rw [← e]
      omega
    · rw [if_neg e, h.1 c hc]
      split
      · rfl
      · refine nsum_congr N (fun q hq => ?_)
        by_cases b : bitk c q = true
        · have b2 := pc1 c (by omega) q (by omega) b
          rw [prc_s (fun k => e (by
            obtain ⟨k1, k2⟩ := k
            subst k2
            rw [← k1]
            exact b2.2.2.2.symm))]
        · have : bitk c q = false := by
            cases e2 : bitk c q with
            | true => exact absurd e2 b
            | false => rfl
          rw [this]
          rfl
  · unfold updw
    rw [if_neg (by omega)]
    exact h.2 c hc
theorem wtJ_i3 {N : Nat} (hN : N ≤ 7) {x : (Nat → Nat) × (Nat → Nat)} {ps : Bool} : ∀ come p w, come < 2 ^ N → p < N → wtJ N x ps come p w → ¬ (0 < w come ∧ mc x p come = true) → wtJ N x ps come (p + 1) w := by
  intro come p w hcome hp h hn
  have t7 := two7 hN
  refine ⟨fun c hc => ?_, h.2⟩
  rw [h.1 c hc]
  split
  · rfl
  · refine nsum_congr N (fun q hq => ?_)
    by_cases k : c - 2 ^ q = come ∧ q = p
    · obtain ⟨k1, k2⟩ := k
      subst k2
      rw [k1, prc_no, prc_yes]
      by_cases m : mc x q come = true
      · have : Gw N x ps come = 0 := by
          rw [← wtJ_at hN h hcome (Nat.le_refl _)]
          rcases Nat.eq_zero_or_pos (w come) with z | z
          · exact z
          · exact absurd ⟨z, m⟩ hn
        rw [this]
        split <;> split <;> rfl
      · have m : mc x q come = false := by
          cases e : mc x q come with
          | true => exact absurd e m
          | false => rfl
        rw [m]
        simp
    · rw [prc_s k]
theorem wtJ_i4 {N : Nat} (hN : N ≤ 7) {x : (Nat → Nat) × (Nat → Nat)} {ps : Bool} : ∀ come w, come < 2 ^ N → wtJ N x ps come N w → wtJ N x ps (come + 1) 0 w := by
  intro come w hcome h
  refine ⟨fun c hc => ?_, h.2⟩
  rw [h.1 c hc]
  split
  · rfl
  · refine nsum_congr N (fun q hq => ?_)
    have : prc come N (c - 2 ^ q) q = prc (come + 1) 0 (c - 2 ^ q) q := by
      have hz : Nat.blt q 0 = false := rfl
      have hn : Nat.blt q N = true := Nat.blt_eq.mpr hq
      unfold prc
      rw [hz, hn]
      generalize c - 2 ^ q = y
      cases e1 : Nat.blt y (come + 1) with
      | true =>
        have := Nat.blt_eq.mp e1
        by_cases e2 : y = come
        · subst e2
          rw [show Nat.beq y y = true from Nat.beq_refl y]
          cases Nat.blt y y <;> rfl
        · rw [show Nat.blt y come = true from Nat.blt_eq.mpr (by omega)]
          rfl
      | false =>
        have h1 : ¬ y < come + 1 := fun q => by
          rw [Nat.blt_eq.mpr q] at e1
          exact absurd e1 (by decide)
        have h2 : Nat.blt y come = false := by
          cases e : Nat.blt y come with
          | true =>
            have := Nat.blt_eq.mp e
            omega
          | false => rfl
        have h3 : Nat.beq y come = false := by
          cases e : Nat.beq y come with
          | true =>
            have := Nat.eq_of_beq_eq_true e
            omega
          | false => rfl
        rw [h2, h3]
        cases Nat.beq y (come + 1) <;> rfl
    rw [this]
theorem wtJ_0 {N : Nat} (hN : N ≤ 7) {x : (Nat → Nat) × (Nat → Nat)} {ps : Bool} : wtJ N x ps 0 0 (fun c => if c = 0 ∧ ps = true then 1 else 0) := by
  have t7 := two7 hN
  refine ⟨fun c hc => ?_, fun c hc => ?_⟩
  · dsimp only
    by_cases e : c = 0
    · rw [if_pos e]
      by_cases k : ps = true
      · rw [if_pos ⟨e, k⟩, if_pos k]
      · rw [if_neg (fun q => k q.2), if_neg k]
    · rw [if_neg (fun q => e q.1), if_neg e]
      have : ∀ k, nsum (fun q => if (bitk c q && mc x q (c - 2 ^ q) && prc 0 0 (c - 2 ^ q) q) = true then Gw N x ps (c - 2 ^ q) else 0) k = 0 := by
        intro k
        induction k with
        | zero => rfl
        | succ k ih =>
          unfold nsum
          rw [ih]
          have : prc 0 0 (c - 2 ^ k) k = false := by
            unfold prc
            have h1 : Nat.blt (c - 2 ^ k) 0 = false := rfl
            have h2 : Nat.blt k 0 = false := rfl
            rw [h1, h2]
            cases Nat.beq (c - 2 ^ k) 0 <;> rfl
          rw [this, Bool.and_false]
          rfl
      exact (this N).symm
  · dsimp only
    rw [if_neg (fun q => by omega)]
