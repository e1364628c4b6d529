/-! fair: all orders together -/
theorem sumr_shift {f : Nat → Int} : ∀ k i, sumr f (i + 1) k = sumr (fun s => f (s + 1)) i k
  | 0, _ => rfl
  | k + 1, i => by
    show f (i + 1) + sumr f (i + 1 + 1) k = f (i + 1) + sumr (fun s => f (s + 1)) (i + 1) k
    rw [sumr_shift k (i + 1)]
theorem sumr_s0 (f : Nat → Int) (k : Nat) : sumr f 0 (k + 1) = f 0 + sumr (fun s => f (s + 1)) 0 k := by
  show f 0 + sumr f (0 + 1) k = _
  rw [sumr_shift]
theorem sumr_mul {f : Nat → Int} (c : Int) : ∀ k i, c * sumr f i k = sumr (fun s => c * f s) i k
  | 0, _ => Int.mul_zero c
  | k + 1, i => by
    show c * (f i + sumr f (i + 1) k) = c * f i + sumr (fun s => c * f s) (i + 1) k
    rw [Int.mul_add, sumr_mul c k (i + 1)]
theorem sumr_const (v : Int) : ∀ k i, sumr (fun _ => v) i k = k * v
  | 0, _ => (Int.zero_mul v).symm
  | k + 1, i => by
    show v + sumr (fun _ => v) (i + 1) k = _
    rw [sumr_const v k (i + 1), Int.natCast_add, Int.add_mul, Int.natCast_one, Int.one_mul, Int.add_comm]
theorem sumr_swap {f : Nat → Nat → Int} {m : Nat} : ∀ n, sumr (fun a => sumr (f a) 0 m) 0 n = sumr (fun b => sumr (fun a => f a b) 0 n) 0 m
  | 0 => (sumr_zero m 0 (fun _ _ _ => rfl)).symm
  | n + 1 => by
    rw [sumr_last, sumr_swap n, Nat.zero_add, ← sumr_add]
    refine sumr_congr _ _ (fun b _ _ => ?_)
    rw [sumr_last, Nat.zero_add]
theorem sumr_rev {f : Nat → Int} : ∀ n, sumr (fun s => f (n - 1 - s)) 0 n = sumr f 0 n
  | 0 => rfl
  | n + 1 => by
    rw [sumr_s0, sumr_last, Nat.zero_add]
    rw [sumr_congr (g := fun s => f (n - 1 - s)) n 0 (fun s _ _ => by rw [show n + 1 - 1 - (s + 1) = n - 1 - s by omega]), sumr_rev n]
    rw [show n + 1 - 1 - 0 = n by omega]
    omega
theorem sumr_app {f : Nat → Int} (a : Nat) : ∀ b, sumr f 0 (a + b) = sumr f 0 a + sumr (fun i => f (a + i)) 0 b
  | 0 => by
    show sumr f 0 a = sumr f 0 a + 0
    omega
  | b + 1 => by
    rw [← Nat.add_assoc, sumr_last, sumr_app a b, sumr_last, Nat.zero_add, Nat.zero_add]
    omega
theorem sumr_block {b : Nat → Nat → Int} {f : Nat} (hf : 0 < f) : ∀ m, sumr (fun i => b (i / f) (i % f)) 0 (m * f) = sumr (fun k => sumr (b k) 0 f) 0 m
  | 0 => by
    rw [Nat.zero_mul]
    rfl
  | m + 1 => by
    rw [Nat.succ_mul, sumr_app, sumr_block hf m, sumr_last, Nat.zero_add]
    congr 1
    refine sumr_congr f 0 (fun i _ hi => ?_)
    rw [Nat.mul_comm m f, Nat.mul_add_div hf, Nat.div_eq_of_lt (by omega), Nat.add_zero, Nat.mul_add_mod, Nat.mod_eq_of_lt (by omega)]
def lsZ (F : Nat → Int) (L : List Nat) : Int := sumr (fun k => F (L.getD k 0)) 0 L.length
theorem lsZ_app (F : Nat → Int) (L : List Nat) (a : Nat) : lsZ F (L ++ [a]) = lsZ F L + F a := by
  unfold lsZ
  rw [List.length_append, List.length_singleton, sumr_last, Nat.zero_add]
  congr 1
  · refine sumr_congr _ _ (fun q _ hq => ?_)
    rw [List.getD_eq_getElem?_getD, List.getD_eq_getElem?_getD, List.getElem?_append_left (by omega)]
  · rw [List.getD_eq_getElem?_getD, List.getElem?_append_right (Nat.le_refl _), Nat.sub_self]
    rfl
theorem lsZ_add (F G : Nat → Int) (L : List Nat) : lsZ (fun a => F a + G a) L = lsZ F L + lsZ G L := sumr_add _ _
theorem lsZ_const (v : Int) (L : List Nat) : lsZ (fun _ => v) L = (L.length : Int) * v := sumr_const v _ _
theorem av_sumZ {F : Nat → Int} {c : Nat} : ∀ N, lsZ F (av N c) = sumr (fun p => if bitk c p = true then 0 else F p) 0 N
  | 0 => rfl
  | N + 1 => by
    rw [av_succ, sumr_last, Nat.zero_add]
    by_cases e : bitk c N = true
    · rw [if_pos e, if_pos e, List.append_nil, av_sumZ N]
      omega
    · rw [if_neg e, if_neg e, lsZ_app, av_sumZ N]
theorem av_one {N c p : Nat} {v : Int} (hp : p < N) (hb : bitk c p = false) : lsZ (fun a => if a = p then v else 0) (av N c) = v := by
  rw [av_sumZ, sumr_congr (g := fun q => if q = p then v else 0) N 0 (fun q _ _ => ?_), sumr_one, if_pos ⟨by omega, by omega⟩]
  by_cases e : q = p
  · rw [if_pos e, e, hb]
    rfl
  · rw [if_neg e]
    split <;> rfl
theorem lsZ_congr {F G : Nat → Int} {L : List Nat} (h : ∀ a ∈ L, F a = G a) : lsZ F L = lsZ G L := by
  unfold lsZ
  refine sumr_congr _ _ (fun k _ hk => ?_)
  rw [List.getD_eq_getElem?_getD, List.getElem?_eq_getElem (by omega)]
  exact h _ (List.getElem_mem _)
/-- the place of one in a list -/
def psL (L : List Nat) (q : Nat) : Nat := (seatZ L q).toNat
theorem psL_hd {a : Nat} {t : List Nat} (h : a ∉ t) : psL (a :: t) a = 0 := by
  unfold psL
  rw [show a :: t = [] ++ a :: t from rfl, seatZ_mid h]
  rfl
theorem psL_tl {a q : Nat} {t : List Nat} (hn : (a :: t).Nodup) (h : q ∈ t) : psL (a :: t) q = psL t q + 1 := by
  have h1 := seatZ_ati h
  have hn2 := (List.nodup_cons.mp hn).2
  have h2 := seatZ_get hn (i := (seatZ t q).toNat + 1) (q := q) h1
  unfold psL
  rw [h2]
  rfl
/-- the sum over all orders behind c, by the first of them -/
theorem unr_sum {N : Nat} (hN : N ≤ 7) {F : List Nat → Int} {j c : Nat} (hc : c < 2 ^ N) (hj : j + 1 + pcn c = N) : sumr (fun i => F (unr N (j + 1) c i)) 0 (fac (j + 1)) = lsZ (fun a => sumr (fun i => F (a :: unr N j (c ||| 2 ^ a) i)) 0 (fac j)) (av N c) := by
  have t7 := two7 hN
  have al := av_len N (by omega) c (by omega) hc
  rw [fac_s]
  have e : ∀ i, 0 ≤ i → i < 0 + (j + 1) * fac j → F (unr N (j + 1) c i) = (fun k i => F ((av N c).getD k 0 :: unr N j (c ||| 2 ^ (av N c).getD k 0) i)) (i / fac j) (i % fac j) := by
    intro i _ _
    rw [unr_s]
  rw [sumr_congr _ _ e]
  refine (sumr_block (b := fun k i => F ((av N c).getD k 0 :: unr N j (c ||| 2 ^ (av N c).getD k 0) i)) (fac_pos j) (j + 1)).trans ?_
  unfold lsZ
  rw [show (av N c).length = j + 1 by omega]
theorem facZ (j : Nat) (h : 0 < j) : (j : Int) * (fac (j - 1) : Int) = (fac j : Int) := by
  obtain ⟨k, rfl⟩ : ∃ k, j = k + 1 := ⟨j - 1, by omega⟩
  rw [fac_s, Nat.add_sub_cancel, Int.natCast_mul]
/-- one: each place as often as any other -/
theorem U1 {N : Nat} (hN : N ≤ 7) {p : Nat} (hp : p < N) : ∀ (j c : Nat) (g : Nat → Int), c < 2 ^ N → j + pcn c = N → bitk c p = false → sumr (fun i => g (psL (unr N j c i) p)) 0 (fac j) = (fac (j - 1) : Int) * sumr g 0 j
  | 0, c, g, hc, hj, hb => by
    have t7 := two7 hN
    have := (pcN N (by omega) c (by omega) hc).2 (by omega)
    rw [this, bitk_all N (by omega) p hp] at hb
    exact absurd hb (by decide)
  | j + 1, c, g, hc, hj, hb => by
    have t7 := two7 hN
    have al := av_len N (by omega) c (by omega) hc
    rw [unr_sum hN (F := fun L => g (psL L p)) hc hj, Nat.add_sub_cancel]
    have e : ∀ a ∈ av N c, sumr (fun i => g (psL (a :: unr N j (c ||| 2 ^ a) i) p)) 0 (fac j) = (fac (j - 1) : Int) * sumr (fun s => g (s + 1)) 0 j + (if a = p then (fac j : Int) * g 0 - (fac (j - 1) : Int) * sumr (fun s => g (s + 1)) 0 j else 0) := by
      intro a ha
      obtain ⟨a1, a2⟩ := av_mem.mp ha
      have epc := ((or2 c (by omega) a (by omega)).2 a2).2
      have hlt := or3 N (by omega) c (by omega) a a1 hc
      have bo := fun q (hq : q < 7) => bor2 c (by omega) a (by omega) q hq
      by_cases e : a = p
      · subst e
        rw [if_pos rfl, sumr_congr (g := fun _ => g 0) _ _ (fun i _ hi => ?_), sumr_const]
        · omega
        · obtain ⟨u1, u2, u3⟩ := unr_ok hN j (c ||| 2 ^ a) i hlt (by omega) (by omega)
          rw [psL_hd (fun q => ?_)]
          have := ((u3 a).mp q).2
          rw [bo a (by omega), Nat.beq_eq.mpr rfl, Bool.or_true] at this
          exact absurd this (by decide)
      · have hb2 : bitk (c ||| 2 ^ a) p = false := by
          rw [bo p (by omega), hb]
          cases h : Nat.beq p a with
          | true => exact absurd (Nat.beq_eq.mp h).symm e
          | false => rfl
        rw [if_neg e, Int.add_zero, ← U1 hN hp j (c ||| 2 ^ a) (fun s => g (s + 1)) hlt (by omega) hb2]
        refine sumr_congr _ _ (fun i _ hi => ?_)
        obtain ⟨u1, u2, u3⟩ := unr_ok hN j (c ||| 2 ^ a) i hlt (by omega) (by omega)
        rw [psL_tl (List.nodup_cons.mpr ⟨fun q => ?_, u2⟩) ((u3 p).mpr ⟨hp, hb2⟩)]
        have := ((u3 a).mp q).2
        rw [bo a (by omega), Nat.beq_eq.mpr rfl, Bool.or_true] at this
        exact absurd this (by decide)
    rw [lsZ_congr e, lsZ_add, lsZ_const, av_one hp hb, show (av N c).length = j + 1 by omega, sumr_s0]
    by_cases hj0 : j = 0
    · subst hj0
      rw [show sumr (fun s => g (s + 1)) 0 0 = 0 from rfl]
      show ((0 + 1 : Nat) : Int) * (1 * 0) + (1 * g 0 - 1 * 0) = 1 * (g 0 + 0)
      omega
    · have fz := facZ j (by omega)
      have e2 : (fac j : Int) * sumr (fun s => g (s + 1)) 0 j = (j : Int) * ((fac (j - 1) : Int) * sumr (fun s => g (s + 1)) 0 j) := by rw [← Int.mul_assoc, fz]
      rw [Int.mul_add, e2, Int.natCast_add, Int.add_mul, Int.natCast_one, Int.one_mul]
      omega
/-- pairs of places that differ -/
def DD (g : Nat → Nat → Int) (j : Nat) : Int := sumr (fun s => sumr (fun t => if t = s then 0 else g s t) 0 j) 0 j
theorem DD_s (g : Nat → Nat → Int) (j : Nat) : DD g (j + 1) = sumr (fun t => g 0 (t + 1)) 0 j + sumr (fun s => g (s + 1) 0) 0 j + DD (fun s t => g (s + 1) (t + 1)) j := by
  unfold DD
  rw [sumr_s0, sumr_s0, if_pos rfl]
  have e1 : sumr (fun s => if s + 1 = 0 then 0 else g 0 (s + 1)) 0 j = sumr (fun t => g 0 (t + 1)) 0 j := sumr_congr _ _ (fun s _ _ => if_neg (by omega))
  have e2 : sumr (fun s => sumr (fun t => if t = s + 1 then 0 else g (s + 1) t) 0 (j + 1)) 0 j = sumr (fun s => g (s + 1) 0 + sumr (fun t => if t = s then 0 else g (s + 1) (t + 1)) 0 j) 0 j := by
    refine sumr_congr _ _ (fun s _ _ => ?_)
    rw [sumr_s0, if_neg (by omega)]
    congr 1
    refine sumr_congr _ _ (fun t _ _ => ?_)
    by_cases c : t = s
    · rw [if_pos c, if_pos (by omega)]
    · rw [if_neg c, if_neg (by omega)]
  rw [e1, e2, sumr_add]
  dsimp only
  omega
/-- two: each pair of places as often as any other -/
theorem U2 {N : Nat} (hN : N ≤ 7) {p q : Nat} (hp : p < N) (hq : q < N) (hpq : p ≠ q) : ∀ (j c : Nat) (g : Nat → Nat → Int), c < 2 ^ N → j + pcn c = N → bitk c p = false → bitk c q = false → sumr (fun i => g (psL (unr N j c i) p) (psL (unr N j c i) q)) 0 (fac j) = (fac (j - 2) : Int) * DD g j
  | 0, c, g, hc, hj, hb, _ => by
    have t7 := two7 hN
    have := (pcN N (by omega) c (by omega) hc).2 (by omega)
    rw [this, bitk_all N (by omega) p hp] at hb
    exact absurd hb (by decide)
  | j + 1, c, g, hc, hj, hb, hbq => by
    have t7 := two7 hN
    have al := av_len N (by omega) c (by omega) hc
    rw [unr_sum hN (F := fun L => g (psL L p) (psL L q)) hc hj]
    have e : ∀ a ∈ av N c, sumr (fun i => g (psL (a :: unr N j (c ||| 2 ^ a) i) p) (psL (a :: unr N j (c ||| 2 ^ a) i) q)) 0 (fac j) = (fac (j - 2) : Int) * DD (fun s t => g (s + 1) (t + 1)) j + ((if a = p then (fac (j - 1) : Int) * sumr (fun t => g 0 (t + 1)) 0 j - (fac (j - 2) : Int) * DD (fun s t => g (s + 1) (t + 1)) j else 0) + (if a = q then (fac (j - 1) : Int) * sumr (fun s => g (s + 1) 0) 0 j - (fac (j - 2) : Int) * DD (fun s t => g (s + 1) (t + 1)) j else 0)) := by
      intro a ha
      obtain ⟨a1, a2⟩ := av_mem.mp ha
      have epc := ((or2 c (by omega) a (by omega)).2 a2).2
      have hlt := or3 N (by omega) c (by omega) a a1 hc
      have bo := fun q (hq : q < 7) => bor2 c (by omega) a (by omega) q hq
      have ban : ∀ i, i < fac j → a ∉ unr N j (c ||| 2 ^ a) i := by
        intro i hi r
        obtain ⟨u1, u2, u3⟩ := unr_ok hN j (c ||| 2 ^ a) i hlt (by omega) hi
        have := ((u3 a).mp r).2
        rw [bo a (by omega), Nat.beq_eq.mpr rfl, Bool.or_true] at this
        exact absurd this (by decide)
      have bfr : ∀ r, r < N → r ≠ a → bitk c r = false → bitk (c ||| 2 ^ a) r = false := by
        intro r hr hne hbr
        rw [bo r (by omega), hbr]
        cases h : Nat.beq r a with
        | true => exact absurd (Nat.beq_eq.mp h) hne
        | false => rfl
      by_cases e1 : a = p
      · have hb2 := bfr q hq (fun r => hpq (by rw [← e1, r])) hbq
        rw [if_pos e1, if_neg (fun r => hpq (by rw [← e1, r])), ← U1 hN hq j (c ||| 2 ^ a) (fun t => g 0 (t + 1)) hlt (by omega) hb2]
        rw [sumr_congr (g := fun i => g 0 (psL (unr N j (c ||| 2 ^ a) i) q + 1)) _ _ (fun i _ hi => ?_)]
        · omega
        · obtain ⟨u1, u2, u3⟩ := unr_ok hN j (c ||| 2 ^ a) i hlt (by omega) (by omega)
          rw [psL_tl (List.nodup_cons.mpr ⟨ban i (by omega), u2⟩) ((u3 q).mpr ⟨hq, hb2⟩), ← e1, psL_hd (ban i (by omega))]
      · rw [if_neg e1]
        have hbp := bfr p hp (fun r => e1 r.symm) hb
        by_cases e2 : a = q
        · rw [if_pos e2, ← U1 hN hp j (c ||| 2 ^ a) (fun s => g (s + 1) 0) hlt (by omega) hbp]
          rw [sumr_congr (g := fun i => g (psL (unr N j (c ||| 2 ^ a) i) p + 1) 0) _ _ (fun i _ hi => ?_)]
          · omega
          · obtain ⟨u1, u2, u3⟩ := unr_ok hN j (c ||| 2 ^ a) i hlt (by omega) (by omega)
            rw [psL_tl (List.nodup_cons.mpr ⟨ban i (by omega), u2⟩) ((u3 p).mpr ⟨hp, hbp⟩), ← e2, psL_hd (ban i (by omega))]
        · have hb2 := bfr q hq (fun r => e2 r.symm) hbq
          rw [if_neg e2, ← U2 hN hp hq hpq j (c ||| 2 ^ a) (fun s t => g (s + 1) (t + 1)) hlt (by omega) hbp hb2]
          rw [sumr_congr (g := fun i => g (psL (unr N j (c ||| 2 ^ a) i) p + 1) (psL (unr N j (c ||| 2 ^ a) i) q + 1)) _ _ (fun i _ hi => ?_)]
          · omega
          · obtain ⟨u1, u2, u3⟩ := unr_ok hN j (c ||| 2 ^ a) i hlt (by omega) (by omega)
            rw [psL_tl (List.nodup_cons.mpr ⟨ban i (by omega), u2⟩) ((u3 p).mpr ⟨hp, hbp⟩), psL_tl (List.nodup_cons.mpr ⟨ban i (by omega), u2⟩) ((u3 q).mpr ⟨hq, hb2⟩)]
    rw [lsZ_congr e, lsZ_add, lsZ_add, lsZ_const, av_one hp hb, av_one hq hbq, show (av N c).length = j + 1 by omega, DD_s]
    by_cases hj1 : j ≤ 1
    · rcases (show j = 0 ∨ j = 1 by omega) with h | h
      · subst h
        rw [show DD (fun s t => g (s + 1) (t + 1)) 0 = 0 from rfl, show sumr (fun t => g 0 (t + 1)) 0 0 = 0 from rfl, show sumr (fun s => g (s + 1) 0) 0 0 = 0 from rfl]
        show ((0 + 1 : Nat) : Int) * (1 * 0) + ((1 * 0 - 1 * 0) + (1 * 0 - 1 * 0)) = 1 * (0 + 0 + 0)
        omega
      · subst h
        rw [show DD (fun s t => g (s + 1) (t + 1)) 1 = 0 from rfl]
        show ((1 + 1 : Nat) : Int) * (1 * 0) + ((1 * sumr (fun t => g 0 (t + 1)) 0 1 - 1 * 0) + (1 * sumr (fun s => g (s + 1) 0) 0 1 - 1 * 0)) = 1 * (sumr (fun t => g 0 (t + 1)) 0 1 + sumr (fun s => g (s + 1) 0) 0 1 + 0)
        omega
    · have fz := facZ (j - 1) (by omega)
      rw [show j - 1 - 1 = j - 2 by omega] at fz
      rw [show j + 1 - 2 = j - 1 by omega]
      have e2 : (fac (j - 1) : Int) * DD (fun s t => g (s + 1) (t + 1)) j = ((j - 1 : Nat) : Int) * ((fac (j - 2) : Int) * DD (fun s t => g (s + 1) (t + 1)) j) := by rw [← Int.mul_assoc, fz]
      rw [Int.mul_add, Int.mul_add, e2, show ((j + 1 : Nat) : Int) = ((j - 1 : Nat) : Int) + 2 by omega, Int.add_mul]
      omega
