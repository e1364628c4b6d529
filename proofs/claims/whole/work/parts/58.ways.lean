/-! how many orders: by orders, by sets -/
theorem cnS_congr {s t : Nat → Bool} : ∀ n, (∀ i, i < n → s i = t i) → cnS s n = cnS t n
  | 0, _ => rfl
  | n + 1, h => by
    unfold cnS
    rw [cnS_congr n (fun i hi => h i (by omega)), h n (by omega)]
theorem cnS_add {s : Nat → Bool} (a : Nat) : ∀ b, cnS s (a + b) = cnS s a + cnS (fun i => s (a + i)) b
  | 0 => rfl
  | b + 1 => by
    show cnS s (a + b) + (if s (a + b) = true then 1 else 0) = cnS s a + (cnS (fun i => s (a + i)) b + (if s (a + b) = true then 1 else 0))
    rw [cnS_add a b]
    omega
theorem cnS_block {b : Nat → Nat → Bool} {f : Nat} (hf : 0 < f) : ∀ m, cnS (fun i => b (i / f) (i % f)) (m * f) = nsum (fun k => cnS (b k) f) m
  | 0 => by
    rw [Nat.zero_mul]
    rfl
  | m + 1 => by
    rw [Nat.succ_mul, cnS_add, cnS_block hf m, nsum_s]
    congr 1
    refine cnS_congr f (fun i hi => ?_)
    rw [Nat.mul_comm m f, Nat.mul_add_div hf, Nat.div_eq_of_lt hi, Nat.add_zero, Nat.mul_add_mod, Nat.mod_eq_of_lt hi]
theorem cnS_false : ∀ n, cnS (fun _ => false) n = 0
  | 0 => rfl
  | n + 1 => by
    show cnS (fun _ => false) n + 0 = 0
    rw [cnS_false n]
theorem av_succ (N c : Nat) : av (N + 1) c = av N c ++ (if bitk c N = true then [] else [N]) := by
  unfold av
  rw [List.range_succ, List.filter_append]
  congr 1
  cases e : bitk c N with
  | true => simp [e]
  | false => simp [e]
/-- a sum over a list, by its places -/
def lsN (F : Nat → Nat) (L : List Nat) : Nat := nsum (fun k => F (L.getD k 0)) L.length
theorem lsN_app (F : Nat → Nat) (L : List Nat) (a : Nat) : lsN F (L ++ [a]) = lsN F L + F a := by
  unfold lsN
  rw [List.length_append, List.length_singleton, nsum_s]
  congr 1
  · refine nsum_congr _ (fun q hq => ?_)
    rw [List.getD_eq_getElem?_getD, List.getD_eq_getElem?_getD, List.getElem?_append_left hq]
  · rw [List.getD_eq_getElem?_getD, List.getElem?_append_right (Nat.le_refl _), Nat.sub_self]
    rfl
theorem av_sum {F : Nat → Nat} {c : Nat} (h : ∀ p, bitk c p = true → F p = 0) : ∀ N, lsN F (av N c) = nsum F N
  | 0 => rfl
  | N + 1 => by
    rw [av_succ, nsum_s]
    by_cases e : bitk c N = true
    · rw [if_pos e, List.append_nil, av_sum h N, h N e]
      omega
    · rw [if_neg e, lsN_app, av_sum h N]
theorem cnS_gd {N : Nat} (hN : N ≤ 7) {x : (Nat → Nat) × (Nat → Nat)} : ∀ (j c : Nat), c < 2 ^ N → j + pcn c = N → cnS (fun i => gd x c (unr N j c i)) (fac j) = Fk N x j c
  | 0, c, _, _ => rfl
  | j + 1, c, hc, hj => by
    have t7 := two7 hN
    have al := av_len N (by omega) c (by omega) hc
    have e1 : cnS (fun i => gd x c (unr N (j + 1) c i)) (fac (j + 1)) = cnS (fun i => (fun k i => mc x ((av N c).getD k 0) c && gd x (c ||| 2 ^ (av N c).getD k 0) (unr N j (c ||| 2 ^ (av N c).getD k 0) i)) (i / fac j) (i % fac j)) ((j + 1) * fac j) := by
      rw [fac_s]
      refine cnS_congr _ (fun i _ => ?_)
      rw [unr_s]
      rfl
    rw [e1.trans (cnS_block (b := fun k i => mc x ((av N c).getD k 0) c && gd x (c ||| 2 ^ (av N c).getD k 0) (unr N j (c ||| 2 ^ (av N c).getD k 0) i)) (fac_pos j) (j + 1))]
    show _ = nsum (fun p => if mc x p c = true then Fk N x j (c ||| 2 ^ p) else 0) N
    rw [← av_sum (F := fun p => if mc x p c = true then Fk N x j (c ||| 2 ^ p) else 0) (c := c) (fun p hp => if_neg (fun q => by rw [mc_bit q] at hp; exact absurd hp (by decide))) N]
    unfold lsN
    rw [show (av N c).length = j + 1 by omega]
    refine nsum_congr _ (fun k hk => ?_)
    obtain ⟨a1, a2⟩ := av_at (N := N) (c := c) (k := k) (by omega)
    dsimp only
    generalize (av N c).getD k 0 = a at a1 a2
    have epc := ((or2 c (by omega) a (by omega)).2 a2).2
    by_cases e : mc x a c = true
    · rw [if_pos e, ← cnS_gd hN j (c ||| 2 ^ a) (or3 N (by omega) c (by omega) a a1 hc) (by omega)]
      refine cnS_congr _ (fun i _ => ?_)
      rw [e, Bool.true_and]
    · rw [if_neg e]
      have e : mc x a c = false := by
        cases h : mc x a c with
        | true => exact absurd h e
        | false => rfl
      rw [cnS_congr (t := fun _ => false) _ (fun i _ => by rw [e, Bool.false_and])]
      exact cnS_false _
theorem nsum_zero {f : Nat → Nat} : ∀ n, (∀ q, q < n → f q = 0) → nsum f n = 0
  | 0, _ => rfl
  | n + 1, h => by
    rw [nsum_s, nsum_zero n (fun q hq => h q (by omega)), h n (by omega)]
theorem nsum_single {f : Nat → Nat} {a n : Nat} (ha : a < n) (h : ∀ q, q < n → q ≠ a → f q = 0) : nsum f n = f a := by
  have := nsum_one (f := f) (f' := fun _ => 0) (p := a) n ha h
  rw [nsum_zero n (fun _ _ => rfl)] at this
  omega
theorem nsum_add {f g : Nat → Nat} : ∀ n, nsum (fun i => f i + g i) n = nsum f n + nsum g n
  | 0 => rfl
  | n + 1 => by
    rw [nsum_s, nsum_s, nsum_s, nsum_add n]
    omega
theorem nsum_swap {f : Nat → Nat → Nat} {m : Nat} : ∀ n, nsum (fun a => nsum (f a) m) n = nsum (fun b => nsum (fun a => f a b) n) m
  | 0 => (nsum_zero m (fun _ _ => rfl)).symm
  | n + 1 => by
    rw [nsum_s, nsum_swap n, ← nsum_add]
    rfl
theorem nsum_mul {f : Nat → Nat} (c : Nat) : ∀ n, c * nsum f n = nsum (fun i => c * f i) n
  | 0 => Nat.mul_zero c
  | n + 1 => by
    rw [nsum_s, nsum_s, Nat.mul_add, nsum_mul c n]
/-- a sum over a part of the numbers, as a list -/
theorem nsum_fil {b : Nat → Bool} {h : Nat → Nat} : ∀ n, nsum (fun c => if b c = true then h c else 0) n = (((List.range n).filter b).map h).sum
  | 0 => rfl
  | n + 1 => by
    rw [nsum_s, nsum_fil n, List.range_succ, List.filter_append, List.map_append, List.sum_append_nat]
    congr 1
    cases e : b n with
    | true => simp [e]
    | false => simp [e]
theorem halves : ∀ N : Nat, N < 8 → ∀ p : Nat, p < N → (List.range (2 ^ N)).filter (fun c => !bitk c p) = ((List.range (2 ^ N)).filter (fun c => bitk c p)).map (fun c => c - 2 ^ p) := by decide +kernel
theorem reindex {N p : Nat} (hN : N ≤ 7) (hp : p < N) {h : Nat → Nat} : nsum (fun c => if bitk c p = true then 0 else h c) (2 ^ N) = nsum (fun c => if bitk c p = true then h (c - 2 ^ p) else 0) (2 ^ N) := by
  have e1 : nsum (fun c => if bitk c p = true then 0 else h c) (2 ^ N) = nsum (fun c => if (!bitk c p) = true then h c else 0) (2 ^ N) := nsum_congr _ (fun c _ => by cases bitk c p <;> rfl)
  rw [e1, nsum_fil, nsum_fil (b := fun c => bitk c p) (h := fun c => h (c - 2 ^ p)), halves N (by omega) p hp, List.map_map]
  rfl
/-- as many ways lead to all as lead on from nobody -/
def HH (N : Nat) (x : (Nat → Nat) × (Nat → Nat)) (ps : Bool) (k : Nat) : Nat := nsum (fun c => if pcn c = k then Gw N x ps c * Fw N x c else 0) (2 ^ N)
theorem HH_step {N : Nat} (hN : N ≤ 7) (x : (Nat → Nat) × (Nat → Nat)) (ps : Bool) {k : Nat} (hk : k < N) : HH N x ps k = HH N x ps (k + 1) := by
  have t7 := two7 hN
  have hF := onF_Fw hN x
  have e1 : HH N x ps k = nsum (fun c => nsum (fun p => if pcn c = k ∧ mc x p c = true then Gw N x ps c * Fw N x (c ||| 2 ^ p) else 0) N) (2 ^ N) := by
    refine nsum_congr _ (fun c hc => ?_)
    by_cases e : pcn c = k
    · rw [if_pos e, hF.2 c (by
        have : c ≠ 2 ^ N - 1 := fun q => by
          rw [q, pcA N (by omega)] at e
          omega
        omega), nsum_mul]
      refine nsum_congr _ (fun p _ => ?_)
      by_cases e2 : mc x p c = true
      · rw [if_pos e2, if_pos ⟨e, e2⟩]
      · rw [if_neg e2, if_neg (fun q => e2 q.2), Nat.mul_zero]
    · rw [if_neg e]
      exact (nsum_zero _ (fun p _ => if_neg (fun q => e q.1))).symm
  have e2 : HH N x ps (k + 1) = nsum (fun c => nsum (fun p => if pcn c = k + 1 ∧ (bitk c p && mc x p (c - 2 ^ p)) = true then Gw N x ps (c - 2 ^ p) * Fw N x c else 0) N) (2 ^ N) := by
    refine nsum_congr _ (fun c hc => ?_)
    by_cases e : pcn c = k + 1
    · rw [if_pos e, Gw_s hN x ps (by omega) (fun q => by rw [q, pcn0] at e; omega), Nat.mul_comm, nsum_mul]
      refine nsum_congr _ (fun p _ => ?_)
      by_cases e2 : (bitk c p && mc x p (c - 2 ^ p)) = true
      · rw [if_pos e2, if_pos ⟨e, e2⟩, Nat.mul_comm]
      · rw [if_neg e2, if_neg (fun q => e2 q.2), Nat.mul_zero]
    · rw [if_neg e]
      exact (nsum_zero _ (fun p _ => if_neg (fun q => e q.1))).symm
  rw [e1, e2]
  refine (nsum_swap _).trans (Eq.trans ?_ (nsum_swap _).symm)
  refine nsum_congr _ (fun p hp => ?_)
  have r := reindex hN hp (h := fun c => if pcn c = k ∧ mc x p c = true then Gw N x ps c * Fw N x (c ||| 2 ^ p) else 0)
  rw [nsum_congr (f' := fun c => if bitk c p = true then 0 else if pcn c = k ∧ mc x p c = true then Gw N x ps c * Fw N x (c ||| 2 ^ p) else 0) _ (fun c _ => ?_), r]
  · refine nsum_congr _ (fun c hc => ?_)
    by_cases e : bitk c p = true
    · obtain ⟨h1, h2, h3, h4⟩ := pc1 c (by omega) p (by omega) e
      rw [if_pos e, h4, e, Bool.true_and]
      by_cases e3 : pcn (c - 2 ^ p) = k ∧ mc x p (c - 2 ^ p) = true
      · rw [if_pos e3, if_pos ⟨by omega, e3.2⟩]
      · rw [if_neg e3, if_neg (fun q => e3 ⟨by omega, q.2⟩)]
    · rw [if_neg e, if_neg (fun q => by rw [Bool.and_eq_true] at q; exact e q.2.1)]
  · by_cases e : bitk c p = true
    · rw [if_pos e, if_neg (fun q => by rw [mc_bit q.2] at e; exact absurd e (by decide))]
    · rw [if_neg e]
theorem HH_all {N : Nat} (hN : N ≤ 7) (x : (Nat → Nat) × (Nat → Nat)) (ps : Bool) : ∀ k, k ≤ N → HH N x ps 0 = HH N x ps k
  | 0, _ => rfl
  | k + 1, h => by rw [HH_all hN x ps k (by omega), HH_step hN x ps (by omega)]
theorem Gw_all {N : Nat} (hN : N ≤ 7) (x : (Nat → Nat) × (Nat → Nat)) (ps : Bool) : Gw N x ps (2 ^ N - 1) = if ps = true then Fw N x 0 else 0 := by
  have t7 := two7 hN
  have h0 : HH N x ps 0 = Gw N x ps 0 * Fw N x 0 := by
    unfold HH
    rw [nsum_single (a := 0) t7.2 (fun q hq h => if_neg (fun e => h (pc0 q (by omega) e))), if_pos pcn0]
  have hN' : HH N x ps N = Gw N x ps (2 ^ N - 1) * Fw N x (2 ^ N - 1) := by
    unfold HH
    rw [nsum_single (a := 2 ^ N - 1) (by omega) (fun q hq h => if_neg (fun e => h ((pcN N (by omega) q (by omega) hq).2 e))), if_pos (pcA N (by omega))]
  rw [HH_all hN x ps N (Nat.le_refl _), hN', (onF_Fw hN x).1, Nat.mul_one, Gw_0] at h0
  rw [h0]
  split <;> omega
theorem came_all {A : aN} {B : aZ} (hwf : WF A B) : cnS (soU A) (fac (cnt A)) = Gw (cnt A) (hdA A).1 (hdA A).2 (2 ^ cnt A - 1) := by
  have hc := cnt_le A
  have h0 : 0 < 2 ^ cnt A := Nat.pow_pos (by omega)
  rw [Gw_all hc]
  by_cases e : (hdA A).2 = true
  · rw [if_pos e]
    have h2 := cnS_gd hc (x := (hdA A).1) (cnt A) 0 h0 (by rw [pcn0]; omega)
    unfold Fw
    rw [pcn0, Nat.sub_zero, ← h2]
    refine cnS_congr _ (fun i hi => ?_)
    have := soU_gd hwf hi
    cases h : soU A i with
    | true => exact (this.mp h).2.symm
    | false =>
      cases h3 : gd (hdA A).1 0 (unr (cnt A) (cnt A) 0 i) with
      | false => rfl
      | true => rw [this.mpr ⟨e, h3⟩] at h; exact absurd h (by decide)
  · rw [if_neg e, cnS_congr (t := fun _ => false) _ (fun i hi => ?_), cnS_false]
    cases h : soU A i with
    | false => rfl
    | true => exact absurd ((soU_gd hwf hi).mp h).1 e
