/-! which orders fit the facts: by places, by sets -/
theorem bitk_tb (a k : Nat) : bitk a k = a.testBit k := by
  rw [Nat.testBit_eq_decide_div_mod_eq]
  unfold bitk
  cases e : Nat.beq (a / 2 ^ k % 2) 1 with
  | true => exact (decide_eq_true (Nat.beq_eq.mp e)).symm
  | false => exact (decide_eq_false (fun q => by rw [Nat.beq_eq.mpr q] at e; exact absurd e (by decide))).symm
theorem bitk_and (a b k : Nat) : bitk (a &&& b) k = (bitk a k && bitk b k) := by rw [bitk_tb, bitk_tb, bitk_tb, Nat.testBit_and]
theorem bitk_or (a b k : Nat) : bitk (a ||| b) k = (bitk a k || bitk b k) := by rw [bitk_tb, bitk_tb, bitk_tb, Nat.testBit_or]
theorem bitk_pow (j k : Nat) : bitk (2 ^ j) k = decide (j = k) := by rw [bitk_tb, Nat.testBit_two_pow]
theorem bitk_0 (k : Nat) : bitk 0 k = false := by rw [bitk_tb, Nat.zero_testBit]
theorem bitk_hi {a k : Nat} (h : a < 128) (hk : 7 ≤ k) : bitk a k = false := by
  rw [bitk_tb]
  refine Nat.testBit_lt_two_pow (Nat.lt_of_lt_of_le h ?_)
  have : 2 ^ 7 ≤ 2 ^ k := Nat.pow_le_pow_right (by omega) hk
  exact this
theorem and0 {a c : Nat} (ha : a < 128) (hc : c < 128) : a &&& (127 - c) = 0 ↔ ∀ q, q < 7 → bitk a q = true → bitk c q = true := by
  have e : ∀ q, bitk (127 - c) q = (decide (q < 7) && !bitk c q) := by
    intro q
    rw [bitk_tb, bitk_tb, show 127 - c = 2 ^ 7 - (c + 1) by omega]
    exact Nat.testBit_two_pow_sub_succ hc q
  constructor
  · intro h q hq hb
    have := bitk_and a (127 - c) q
    rw [h, bitk_0, hb, e q, decide_eq_true hq, Bool.true_and, Bool.true_and] at this
    cases h2 : bitk c q with
    | true => rfl
    | false => rw [h2] at this; exact absurd this (by decide)
  · intro h
    apply Nat.eq_of_testBit_eq
    intro q
    rw [← bitk_tb, ← bitk_tb, bitk_and, bitk_0, e q]
    by_cases hq : q < 7
    · cases h2 : bitk a q with
      | false => rfl
      | true => rw [h q hq h2, Bool.not_true, Bool.and_false, Bool.and_false]
    · rw [decide_eq_false hq, Bool.false_and, Bool.and_false]
/-- the facts as masks, by the places -/
def PR (N : Nat) (x : (Nat → Nat) × (Nat → Nat)) (pos : Nat → Nat) : Prop := ∀ p, p < N → (∀ q, q < 7 → bitk (x.1 p) q = true → q < N ∧ pos q < pos p) ∧ bitk (x.2 p) (pos p) = true
theorem stP_eq {N lw k s : Nat} (hk : k < N) (hs : s < N) : stP N lw k = (s : Int) ↔ k = (if lw = 0 then s else N - 1 - s) := by
  unfold stP
  split <;> omega
theorem hd_step {N lw kd pe ot : Nat} {x : (Nat → Nat) × (Nat → Nat)} {pos : Nat → Nat} (hot : ot < 7) (hpe : pe < 7) (hpos : ∀ q, q < N → pos q < N) (hN : N ≤ 7) :
    (hd2 N kd pe ot = true ∧ PR N (hd1 N lw kd pe ot x) pos) ↔ (PR N x pos ∧ (if kd = 0 then pe < N ∧ stP N lw (pos pe) = (ot : Int) else pe < N ∧ ot < N ∧ stP N lw (pos ot) < stP N lw (pos pe))) := by
  unfold hd1 hd2
  by_cases c1 : N ≤ pe
  · rw [if_pos c1]
    constructor
    · intro h
      exact absurd h.1 (by decide)
    · intro h
      exfalso
      have := h.2
      split at this <;> omega
  · rw [if_neg c1, if_neg c1]
    have hpp := hpos pe (by omega)
    by_cases c2 : kd = 0
    · rw [if_pos c2, if_pos c2, if_pos c2]
      have key : bitk (x.2 pe &&& (if ot < N then 2 ^ (if lw = 0 then ot else N - 1 - ot) else 0)) (pos pe) = true ↔ (bitk (x.2 pe) (pos pe) = true ∧ stP N lw (pos pe) = (ot : Int)) := by
        rw [bitk_and, Bool.and_eq_true]
        by_cases c3 : ot < N
        · rw [if_pos c3, bitk_pow, decide_eq_true_eq, stP_eq hpp c3]
          constructor
          · exact fun h => ⟨h.1, h.2.symm⟩
          · exact fun h => ⟨h.1, h.2.symm⟩
        · rw [if_neg c3, bitk_0]
          constructor
          · intro h
            exact absurd h.2 (by decide)
          · intro h
            exfalso
            have := h.2
            unfold stP at this
            split at this <;> omega
      constructor
      · intro h
        have hp := h.2 pe (by omega)
        dsimp only at hp
        rw [if_pos rfl] at hp
        have k2 := key.mp hp.2
        refine ⟨fun p hpN => ?_, by omega, k2.2⟩
        have hq := h.2 p hpN
        dsimp only at hq
        refine ⟨hq.1, ?_⟩
        by_cases e : p = pe
        · rw [e]
          exact k2.1
        · rw [if_neg e] at hq
          exact hq.2
      · intro h
        refine ⟨rfl, fun p hpN => ?_⟩
        obtain ⟨a1, a2⟩ := h.1 p hpN
        refine ⟨a1, ?_⟩
        dsimp only
        by_cases e : p = pe
        · rw [if_pos e, e]
          exact key.mpr ⟨by rw [← e]; exact a2, h.2.2⟩
        · rw [if_neg e]
          exact a2
    · rw [if_neg c2, if_neg c2, if_neg c2]
      by_cases c3 : N ≤ ot
      · rw [if_pos c3, if_pos c3]
        constructor
        · intro h
          exact absurd h.1 (by decide)
        · intro h
          omega
      · rw [if_neg c3, if_neg c3]
        have hpo := hpos ot (by omega)
        by_cases c4 : lw = 0
        · rw [if_pos c4]
          have es : stP N lw (pos ot) < stP N lw (pos pe) ↔ pos ot < pos pe := by
            unfold stP
            rw [if_pos c4, if_pos c4]
            omega
          rw [es]
          constructor
          · intro h
            have hp := h.2 pe (by omega)
            dsimp only at hp
            rw [if_pos rfl] at hp
            refine ⟨fun p hpN => ?_, by omega, by omega, (hp.1 ot hot (by rw [bitk_or, bitk_pow, decide_eq_true rfl, Bool.or_true])).2⟩
            have hq := h.2 p hpN
            dsimp only at hq
            refine ⟨fun q hq7 hb => hq.1 q hq7 ?_, hq.2⟩
            by_cases e : p = pe
            · rw [if_pos e, ← e, bitk_or, hb, Bool.true_or]
            · rw [if_neg e]
              exact hb
          · intro h
            refine ⟨rfl, fun p hpN => ?_⟩
            obtain ⟨a1, a2⟩ := h.1 p hpN
            refine ⟨fun q hq7 hb => ?_, a2⟩
            dsimp only at hb
            by_cases e : p = pe
            · rw [if_pos e, bitk_or, Bool.or_eq_true, bitk_pow, decide_eq_true_eq] at hb
              rcases hb with hb | hb
              · exact a1 q hq7 (by rw [e]; exact hb)
              · rw [← hb, e]
                exact ⟨by omega, h.2.2.2⟩
            · rw [if_neg e] at hb
              exact a1 q hq7 hb
        · rw [if_neg c4]
          have es : stP N lw (pos ot) < stP N lw (pos pe) ↔ pos pe < pos ot := by
            unfold stP
            rw [if_neg c4, if_neg c4]
            omega
          rw [es]
          constructor
          · intro h
            have hp := h.2 ot (by omega)
            dsimp only at hp
            rw [if_pos rfl] at hp
            refine ⟨fun p hpN => ?_, by omega, by omega, (hp.1 pe hpe (by rw [bitk_or, bitk_pow, decide_eq_true rfl, Bool.or_true])).2⟩
            have hq := h.2 p hpN
            dsimp only at hq
            refine ⟨fun q hq7 hb => hq.1 q hq7 ?_, hq.2⟩
            by_cases e : p = ot
            · rw [if_pos e, ← e, bitk_or, hb, Bool.true_or]
            · rw [if_neg e]
              exact hb
          · intro h
            refine ⟨rfl, fun p hpN => ?_⟩
            obtain ⟨a1, a2⟩ := h.1 p hpN
            refine ⟨fun q hq7 hb => ?_, a2⟩
            dsimp only at hb
            by_cases e : p = ot
            · rw [if_pos e, bitk_or, Bool.or_eq_true, bitk_pow, decide_eq_true_eq] at hb
              rcases hb with hb | hb
              · exact a1 q hq7 (by rw [e]; exact hb)
              · rw [← hb, e]
                exact ⟨by omega, h.2.2.2⟩
            · rw [if_neg e] at hb
              exact a1 q hq7 hb
theorem soF_iff {A : aN} {st : Nat → Int} {f : Nat} : soF A st f = true ↔ (if A 5 f = 0 then A 6 f < cnt A ∧ st (A 6 f) = (A 7 f : Int) else A 6 f < cnt A ∧ A 7 f < cnt A ∧ st (A 7 f) < st (A 6 f)) := by
  unfold soF
  split <;> rw [decide_eq_true_eq]
theorem soA_PR {A : aN} {B : aZ} (hwf : WF A B) {pos : Nat → Nat} (hpos : ∀ q, q < cnt A → pos q < cnt A) : ∀ f, soA A (fun q => stP (cnt A) (A 3 1) (pos q)) f = true ↔ ((hdf (cnt A) (A 3 1) (A 5) (A 6) (A 7) f).2 = true ∧ PR (cnt A) (hdf (cnt A) (A 3 1) (A 5) (A 6) (A 7) f).1 pos)
  | 0 => by
    have hc := cnt_le A
    constructor
    · intro _
      refine ⟨rfl, fun p hp => ⟨fun q _ hb => ?_, ?_⟩⟩
      · have hb : bitk 0 q = true := hb
        rw [bitk_0] at hb
        exact absurd hb (by decide)
      · exact bitk_all (cnt A) (by omega) (pos p) (hpos p hp)
    · intro _
      rfl
  | f + 1 => by
    have hc := cnt_le A
    obtain ⟨w0, w1, w2⟩ := hwf.2.2.2.2.2.2.2.2.1 f
    have ih := soA_PR hwf hpos f
    have hs := hd_step (lw := A 3 1) (kd := A 5 f) (pe := A 6 f) (ot := A 7 f) (x := (hdf (cnt A) (A 3 1) (A 5) (A 6) (A 7) f).1) (pos := pos) w2 w1 hpos hc
    show (soA A _ f && soF A _ f) = true ↔ (hd2 _ _ _ _ && (hdf (cnt A) (A 3 1) (A 5) (A 6) (A 7) f).2) = true ∧ PR (cnt A) (hd1 _ _ _ _ _ _) pos
    rw [Bool.and_eq_true, Bool.and_eq_true, ih, soF_iff]
    constructor
    · rintro ⟨⟨a1, a2⟩, a3⟩
      have := hs.mpr ⟨a2, a3⟩
      exact ⟨⟨this.1, a1⟩, this.2⟩
    · rintro ⟨⟨a1, a2⟩, a3⟩
      have := hs.mp ⟨a1, a3⟩
      exact ⟨⟨a2, this.1⟩, this.2⟩
/-- each may come when it does -/
def gd (x : (Nat → Nat) × (Nat → Nat)) : Nat → List Nat → Bool
  | _, [] => true
  | c, p :: t => mc x p c && gd x (c ||| 2 ^ p) t
/-- the set behind those of the list -/
def es : Nat → List Nat → Nat
  | c, [] => c
  | c, p :: t => es (c ||| 2 ^ p) t
theorem gd_app {x : (Nat → Nat) × (Nat → Nat)} : ∀ (L1 L2 : List Nat) (c : Nat), gd x c (L1 ++ L2) = (gd x c L1 && gd x (es c L1) L2)
  | [], L2, c => by
    show gd x c L2 = (true && gd x c L2)
    rw [Bool.true_and]
  | p :: t, L2, c => by
    show (mc x p c && gd x (c ||| 2 ^ p) (t ++ L2)) = ((mc x p c && gd x (c ||| 2 ^ p) t) && gd x (es (c ||| 2 ^ p) t) L2)
    rw [gd_app t L2, Bool.and_assoc]
theorem es_bit : ∀ (L : List Nat) (c q : Nat), bitk (es c L) q = true ↔ bitk c q = true ∨ q ∈ L
  | [], c, q => by
    show bitk c q = true ↔ _
    simp
  | p :: t, c, q => by
    show bitk (es (c ||| 2 ^ p) t) q = true ↔ _
    rw [es_bit t, bitk_or, Bool.or_eq_true, bitk_pow, decide_eq_true_eq, List.mem_cons]
    constructor
    · rintro ((h | h) | h)
      · exact Or.inl h
      · exact Or.inr (Or.inl h.symm)
      · exact Or.inr (Or.inr h)
    · rintro (h | h | h)
      · exact Or.inl (Or.inl h)
      · exact Or.inl (Or.inr h.symm)
      · exact Or.inr h
theorem es_lt {N : Nat} (hN : N ≤ 7) : ∀ (L : List Nat) (c : Nat), (∀ q ∈ L, q < N) → c < 2 ^ N → es c L < 2 ^ N
  | [], c, _, h => h
  | p :: t, c, hl, h => by
    have t7 := two7 hN
    exact es_lt hN t (c ||| 2 ^ p) (fun q hq => hl q (List.mem_cons_of_mem _ hq)) (or3 N (by omega) c (by omega) p (hl p List.mem_cons_self) h)
theorem es_app : ∀ (L1 L2 : List Nat) (c : Nat), es c (L1 ++ L2) = es (es c L1) L2
  | [], _, _ => rfl
  | p :: t, L2, c => es_app t L2 (c ||| 2 ^ p)
/-- who comes is new each time -/
def fre : Nat → List Nat → Bool
  | _, [] => true
  | c, p :: t => !bitk c p && fre (c ||| 2 ^ p) t
theorem gd_fre {x : (Nat → Nat) × (Nat → Nat)} : ∀ (L : List Nat) (c : Nat), gd x c L = true → fre c L = true
  | [], _, _ => rfl
  | p :: t, c, h => by
    unfold gd at h
    rw [Bool.and_eq_true] at h
    unfold fre
    rw [mc_bit h.1, gd_fre t _ h.2]
    rfl
theorem es_pcn {N : Nat} (hN : N ≤ 7) : ∀ (L : List Nat) (c : Nat), (∀ q ∈ L, q < N) → c < 2 ^ N → fre c L = true → pcn (es c L) = pcn c + L.length
  | [], c, _, h, _ => rfl
  | p :: t, c, hl, h, hf => by
    have t7 := two7 hN
    have hp := hl p List.mem_cons_self
    unfold fre at hf
    rw [Bool.and_eq_true] at hf
    have hb : bitk c p = false := by
      cases e : bitk c p with
      | false => rfl
      | true => rw [e] at hf; exact absurd hf.1 (by decide)
    have := es_pcn hN t (c ||| 2 ^ p) (fun q hq => hl q (List.mem_cons_of_mem _ hq)) (or3 N (by omega) c (by omega) p hp h) hf.2
    show pcn (es (c ||| 2 ^ p) t) = _
    rw [this, ((or2 c (by omega) p (by omega)).2 hb).2, List.length_cons]
    omega
/-- the same, by places in the list -/
def PRl (x : (Nat → Nat) × (Nat → Nat)) (c : Nat) (L : List Nat) : Prop := ∀ k p : Nat, L[k]? = some p → (∀ q, q < 7 → bitk (x.1 p) q = true → bitk c q = true ∨ ∃ j, j < k ∧ L[j]? = some q) ∧ bitk (x.2 p) (pcn c + k) = true
theorem gd_PRl {N : Nat} (hN : N ≤ 7) {x : (Nat → Nat) × (Nat → Nat)} (h7 : m7 N x) : ∀ (L : List Nat) (c : Nat), (∀ q ∈ L, q < N) → c < 2 ^ N → fre c L = true → (gd x c L = true ↔ PRl x c L)
  | [], c, _, _, _ => by
    constructor
    · intro _ k p h
      exact absurd h (by simp)
    · intro _
      rfl
  | p :: t, c, hl, hc, hf => by
    have t7 := two7 hN
    have hp := hl p List.mem_cons_self
    unfold fre at hf
    rw [Bool.and_eq_true] at hf
    have hb : bitk c p = false := by
      cases e : bitk c p with
      | false => rfl
      | true => rw [e] at hf; exact absurd hf.1 (by decide)
    have epc := ((or2 c (by omega) p (by omega)).2 hb).2
    have ih := gd_PRl hN h7 t (c ||| 2 ^ p) (fun q hq => hl q (List.mem_cons_of_mem _ hq)) (or3 N (by omega) c (by omega) p hp hc) hf.2
    have hmc : mc x p c = true ↔ ((∀ q, q < 7 → bitk (x.1 p) q = true → bitk c q = true) ∧ bitk (x.2 p) (pcn c) = true) := by
      unfold mc
      rw [hb, Bool.and_eq_true, Bool.and_eq_true, Nat.beq_eq, and0 (h7 p hp).1 (by omega)]
      constructor
      · exact fun h => ⟨h.1.2, h.2⟩
      · exact fun h => ⟨⟨rfl, h.1⟩, h.2⟩
    show (mc x p c && gd x (c ||| 2 ^ p) t) = true ↔ _
    rw [Bool.and_eq_true, ih, hmc]
    constructor
    · rintro ⟨⟨a1, a2⟩, a3⟩ k y hk
      cases k with
      | zero =>
        cases hk
        exact ⟨fun q hq hb => Or.inl (a1 q hq hb), a2⟩
      | succ k =>
        have hk : t[k]? = some y := hk
        obtain ⟨b1, b2⟩ := a3 k y hk
        refine ⟨fun q hq hbq => ?_, ?_⟩
        · rcases b1 q hq hbq with h | ⟨j, h1, h2⟩
          · rw [bitk_or, Bool.or_eq_true, bitk_pow, decide_eq_true_eq] at h
            rcases h with h | h
            · exact Or.inl h
            · exact Or.inr ⟨0, by omega, by rw [← h]; rfl⟩
          · exact Or.inr ⟨j + 1, by omega, h2⟩
        · rw [epc] at b2
          rw [show pcn c + (k + 1) = pcn c + 1 + k by omega]
          exact b2
    · intro h
      refine ⟨?_, fun k y hk => ?_⟩
      · obtain ⟨a1, a2⟩ := h 0 p rfl
        refine ⟨fun q hq hb => ?_, a2⟩
        rcases a1 q hq hb with r | ⟨j, hj, -⟩
        · exact r
        · omega
      · obtain ⟨a1, a2⟩ := h (k + 1) y hk
        refine ⟨fun q hq hbq => ?_, ?_⟩
        · rcases a1 q hq hbq with r | ⟨j, h1, h2⟩
          · exact Or.inl (by rw [bitk_or, r, Bool.true_or])
          · cases j with
            | zero =>
              cases h2
              exact Or.inl (by rw [bitk_or, bitk_pow, decide_eq_true rfl, Bool.or_true])
            | succ j => exact Or.inr ⟨j, by omega, h2⟩
        · rw [epc]
          rw [show pcn c + 1 + k = pcn c + (k + 1) by omega]
          exact a2
theorem unr_fre {N : Nat} (hN : N ≤ 7) : ∀ (j c i : Nat), c < 2 ^ N → j + pcn c = N → i < fac j → fre c (unr N j c i) = true
  | 0, _, _, _, _, _ => rfl
  | j + 1, c, i, hc, hj, hi => by
    obtain ⟨h1, h2, h3, h4, h5⟩ := unr_hd hN hc hj hi
    rw [unr_s]
    unfold fre
    rw [h2, unr_fre hN j _ _ h3 h4 h5]
    rfl
/-- an order fits the facts if each may come when it does -/
theorem soU_gd {A : aN} {B : aZ} (hwf : WF A B) {i : Nat} (hi : i < fac (cnt A)) : soU A i = true ↔ ((hdA A).2 = true ∧ gd (hdA A).1 0 (unr (cnt A) (cnt A) 0 i) = true) := by
  have hc := cnt_le A
  have hbj := bijU (N := cnt A) (i := i) hc hi
  obtain ⟨u1, u2, u3⟩ := unr_all hc hi
  have h0 : 0 < 2 ^ cnt A := Nat.pow_pos (by omega)
  have hg := gd_PRl hc (x := (hdA A).1) (hdf_7 hc (A 0 1)) (unr (cnt A) (cnt A) 0 i) 0 (fun q hq => (u3 q).mp hq) h0 (unr_fre hc (cnt A) 0 i h0 (by rw [pcn0]; omega) hi)
  have hs := soA_PR hwf (pos := psU (cnt A) i) (fun q hq => (hbj.2 q hq).1) (A 0 1)
  have hget : ∀ k, k < cnt A → (unr (cnt A) (cnt A) 0 i)[k]? = some (oU (cnt A) i k) := by
    intro k hk
    unfold oU
    rw [List.getD_eq_getElem?_getD, List.getElem?_eq_getElem (by omega)]
    rfl
  have hgi : ∀ k p, (unr (cnt A) (cnt A) 0 i)[k]? = some p → k < cnt A ∧ p < cnt A ∧ psU (cnt A) i p = k := by
    intro k p h
    have hk := (List.getElem?_eq_some_iff.mp h).1
    have hp := (u3 p).mp (List.mem_of_getElem? h)
    refine ⟨by omega, hp, ?_⟩
    unfold psU
    rw [seatZ_get u2 h]
    rfl
  unfold soU
  show soA A (fun q => stP (cnt A) (A 3 1) (psU (cnt A) i q)) (A 0 1) = true ↔ _
  rw [hs, hg]
  show (hdA A).2 = true ∧ PR (cnt A) (hdA A).1 (psU (cnt A) i) ↔ _
  have e : PR (cnt A) (hdA A).1 (psU (cnt A) i) ↔ PRl (hdA A).1 0 (unr (cnt A) (cnt A) 0 i) := by
    constructor
    · intro h k p hk
      obtain ⟨g1, g2, g3⟩ := hgi k p hk
      obtain ⟨a1, a2⟩ := h p g2
      rw [g3] at a1 a2
      refine ⟨fun q hq hb => ?_, by rw [pcn0, Nat.zero_add]; exact a2⟩
      obtain ⟨b1, b2⟩ := a1 q hq hb
      refine Or.inr ⟨psU (cnt A) i q, b2, ?_⟩
      have := hget (psU (cnt A) i q) (by omega)
      rw [(hbj.2 q b1).2] at this
      exact this
    · intro h p hp
      have hk := hget (psU (cnt A) i p) (hbj.2 p hp).1
      rw [(hbj.2 p hp).2] at hk
      obtain ⟨a1, a2⟩ := h _ _ hk
      rw [pcn0, Nat.zero_add] at a2
      refine ⟨fun q hq hb => ?_, a2⟩
      rcases a1 q hq hb with r | ⟨j, h1, h2⟩
      · rw [bitk_0] at r
        exact absurd r (by decide)
      · obtain ⟨g1, g2, g3⟩ := hgi j q h2
        exact ⟨g2, by omega⟩
  rw [e]
