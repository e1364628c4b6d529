/-! as which one can have come, who ahead of whom: by orders, by sets -/
theorem fre_no : ∀ (L : List Nat) (c q : Nat), fre c L = true → q ∈ L → bitk c q = false
  | [], _, _, _, h => absurd h List.not_mem_nil
  | p :: t, c, q, hf, hq => by
    unfold fre at hf
    rw [Bool.and_eq_true] at hf
    rcases List.mem_cons.mp hq with e | e
    · subst e
      cases h : bitk c q with
      | false => rfl
      | true => rw [h] at hf; exact absurd hf.1 (by decide)
    · have := fre_no t (c ||| 2 ^ p) q hf.2 e
      rw [bitk_or, Bool.or_eq_false_iff] at this
      exact this.1
theorem unr_surj {N : Nat} (hN : N ≤ 7) : ∀ (j c : Nat) (L : List Nat), c < 2 ^ N → j + pcn c = N → L.length = j → (∀ q ∈ L, q < N) → fre c L = true → ∃ i, i < fac j ∧ unr N j c i = L
  | 0, c, [], _, _, _, _, _ => ⟨0, by decide, rfl⟩
  | 0, c, _ :: _, _, _, h, _, _ => by
    rw [List.length_cons] at h
    omega
  | j + 1, c, [], _, _, h, _, _ => by
    rw [List.length_nil] at h
    omega
  | j + 1, c, a :: t, hc, hj, hlen, hl, hf => by
    have t7 := two7 hN
    have al := av_len N (by omega) c (by omega) hc
    have ha := hl a List.mem_cons_self
    have hb := fre_no (a :: t) c a hf List.mem_cons_self
    unfold fre at hf
    rw [Bool.and_eq_true] at hf
    have epc := ((or2 c (by omega) a (by omega)).2 hb).2
    rw [List.length_cons] at hlen
    obtain ⟨i', h1, h2⟩ := unr_surj hN j (c ||| 2 ^ a) t (or3 N (by omega) c (by omega) a ha hc) (by omega) (by omega) (fun q hq => hl q (List.mem_cons_of_mem _ hq)) hf.2
    obtain ⟨k, hk⟩ := List.getElem?_of_mem (av_mem.mpr ⟨ha, hb⟩ : a ∈ av N c)
    have hkl := (List.getElem?_eq_some_iff.mp hk).1
    have fp := fac_pos j
    refine ⟨fac j * k + i', ?_, ?_⟩
    · rw [fac_s, Nat.mul_comm (j + 1)]
      have : fac j * k + fac j ≤ fac j * (j + 1) := by
        rw [← Nat.mul_succ]
        exact Nat.mul_le_mul_left _ (by omega)
      omega
    · rw [unr_s, Nat.mul_add_div fp, Nat.div_eq_of_lt h1, Nat.add_zero, Nat.mul_add_mod, Nat.mod_eq_of_lt h1, List.getD_eq_getElem?_getD, hk]
      show a :: unr N j (c ||| 2 ^ a) i' = a :: t
      rw [h2]
theorem nsum_pos {f : Nat → Nat} : ∀ n, 0 < nsum f n ↔ ∃ q, q < n ∧ 0 < f q
  | 0 => by
    constructor
    · intro h
      exact absurd h (by unfold nsum; omega)
    · rintro ⟨q, h, -⟩
      omega
  | n + 1 => by
    have ih := nsum_pos (f := f) n
    rw [nsum_s]
    constructor
    · intro h
      by_cases c : 0 < f n
      · exact ⟨n, by omega, c⟩
      · obtain ⟨q, h1, h2⟩ := ih.mp (by omega)
        exact ⟨q, by omega, h2⟩
    · rintro ⟨q, h1, h2⟩
      by_cases c : q = n
      · subst c
        omega
      · have := ih.mpr ⟨q, by omega, h2⟩
        omega
theorem Fk_pos {N : Nat} {x : (Nat → Nat) × (Nat → Nat)} : ∀ (j c : Nat), 0 < Fk N x j c ↔ ∃ L : List Nat, L.length = j ∧ (∀ q ∈ L, q < N) ∧ gd x c L = true
  | 0, c => by
    constructor
    · intro _
      exact ⟨[], rfl, fun q hq => absurd hq List.not_mem_nil, rfl⟩
    · intro _
      show 0 < 1
      omega
  | j + 1, c => by
    show 0 < nsum _ N ↔ _
    rw [nsum_pos]
    constructor
    · rintro ⟨p, hp, h⟩
      by_cases e : mc x p c = true
      · rw [if_pos e] at h
        obtain ⟨L, h1, h2, h3⟩ := (Fk_pos j _).mp h
        refine ⟨p :: L, by rw [List.length_cons, h1], fun q hq => ?_, ?_⟩
        · rcases List.mem_cons.mp hq with e | e
          · rw [e]
            exact hp
          · exact h2 q e
        · show (mc x p c && gd x (c ||| 2 ^ p) L) = true
          rw [e, h3]
          rfl
      · rw [if_neg e] at h
        omega
    · rintro ⟨L, h1, h2, h3⟩
      cases L with
      | nil =>
        rw [List.length_nil] at h1
        omega
      | cons p t =>
        have h3 : (mc x p c && gd x (c ||| 2 ^ p) t) = true := h3
        rw [Bool.and_eq_true] at h3
        rw [List.length_cons] at h1
        refine ⟨p, h2 p List.mem_cons_self, ?_⟩
        rw [if_pos h3.1]
        exact (Fk_pos j _).mpr ⟨t, by omega, fun q hq => h2 q (List.mem_cons_of_mem _ hq), h3.2⟩
theorem Gw_path {N : Nat} (hN : N ≤ 7) {x : (Nat → Nat) × (Nat → Nat)} {ps : Bool} : ∀ (k c : Nat), pcn c = k → c < 2 ^ N → 0 < Gw N x ps c → ps = true ∧ ∃ L : List Nat, (∀ q ∈ L, q < N) ∧ gd x 0 L = true ∧ es 0 L = c
  | 0, c, hk, hc, h => by
    have t7 := two7 hN
    have e := pc0 c (by omega) hk
    subst e
    rw [Gw_0] at h
    refine ⟨?_, [], fun q hq => absurd hq List.not_mem_nil, rfl, rfl⟩
    cases ps with
    | true => rfl
    | false => exact absurd h (by decide)
  | k + 1, c, hk, hc, h => by
    have t7 := two7 hN
    rw [Gw_s hN x ps (by omega) (fun q => by rw [q, pcn0] at hk; omega), nsum_pos] at h
    obtain ⟨q, hq, h⟩ := h
    by_cases e : (bitk c q && mc x q (c - 2 ^ q)) = true
    · rw [if_pos e] at h
      rw [Bool.and_eq_true] at e
      obtain ⟨a1, a2, a3, a4⟩ := pc1 c (by omega) q (by omega) e.1
      obtain ⟨b1, L, b2, b3, b4⟩ := Gw_path hN k (c - 2 ^ q) (by omega) (Nat.lt_of_le_of_lt (Nat.sub_le c (2 ^ q)) hc) h
      refine ⟨b1, L ++ [q], fun y hy => ?_, ?_, ?_⟩
      · rcases List.mem_append.mp hy with hy | hy
        · exact b2 y hy
        · rw [List.mem_singleton] at hy
          rw [hy]
          exact hq
      · rw [gd_app, b3, b4]
        show (true && (mc x q (c - 2 ^ q) && true)) = true
        rw [e.2]
        rfl
      · rw [es_app, b4]
        exact a4
    · rw [if_neg e] at h
      omega
theorem Gw_on {N : Nat} (hN : N ≤ 7) {x : (Nat → Nat) × (Nat → Nat)} {ps : Bool} : ∀ (L : List Nat) (c : Nat), (∀ q ∈ L, q < N) → c < 2 ^ N → gd x c L = true → 0 < Gw N x ps c → 0 < Gw N x ps (es c L)
  | [], _, _, _, _, h => h
  | p :: t, c, hl, hc, hg, h => by
    have t7 := two7 hN
    have hp := hl p List.mem_cons_self
    have hg : (mc x p c && gd x (c ||| 2 ^ p) t) = true := hg
    rw [Bool.and_eq_true] at hg
    have hb := mc_bit hg.1
    obtain ⟨o1, o2⟩ := (or2 c (by omega) p (by omega)).2 hb
    have hlt := or3 N (by omega) c (by omega) p hp hc
    refine Gw_on hN t (c ||| 2 ^ p) (fun q hq => hl q (List.mem_cons_of_mem _ hq)) hlt hg.2 ?_
    rw [Gw_s hN x ps (by omega) (fun q => by rw [q, pcn0] at o2; omega), nsum_pos]
    refine ⟨p, hp, ?_⟩
    rw [show (c ||| 2 ^ p) - 2 ^ p = c by omega, bor1 c (by omega) p (by omega), hg.1]
    exact h
theorem plf_bit {N : Nat} {x : (Nat → Nat) × (Nat → Nat)} {ps : Bool} {p k : Nat} : ∀ I, bitk (plf N x ps p I) k = true ↔ ∃ c, c < I ∧ 0 < Gw N x ps c ∧ mc x p c = true ∧ 0 < Fw N x (c ||| 2 ^ p) ∧ pcn c = k
  | 0 => by
    constructor
    · intro h
      have h : bitk 0 k = true := h
      rw [bitk_0] at h
      exact absurd h (by decide)
    · rintro ⟨c, h, -⟩
      omega
  | I + 1 => by
    have ih := plf_bit (N := N) (x := x) (ps := ps) (p := p) (k := k) I
    unfold plf
    split
    · next e =>
      rw [bitk_or, Bool.or_eq_true, ih, bitk_pow, decide_eq_true_eq]
      constructor
      · rintro (⟨c, h1, h2⟩ | h)
        · exact ⟨c, by omega, h2⟩
        · exact ⟨I, by omega, e.1, e.2.1, e.2.2, h⟩
      · rintro ⟨c, h1, h2, h3, h4, h5⟩
        by_cases q : c = I
        · subst q
          exact Or.inr h5
        · exact Or.inl ⟨c, by omega, h2, h3, h4, h5⟩
    · next e =>
      rw [ih]
      constructor
      · rintro ⟨c, h1, h2⟩
        exact ⟨c, by omega, h2⟩
      · rintro ⟨c, h1, h2, h3, h4, h5⟩
        by_cases q : c = I
        · subst q
          exact absurd ⟨h2, h3, h4⟩ e
        · exact ⟨c, by omega, h2, h3, h4, h5⟩
theorem cmS_bit {so : Nat → Bool} {ps : Nat → Nat → Nat} {q k : Nat} : ∀ I, bitk (cmS so ps q I) k = true ↔ ∃ i, i < I ∧ so i = true ∧ ps i q = k
  | 0 => by
    constructor
    · intro h
      have h : bitk 0 k = true := h
      rw [bitk_0] at h
      exact absurd h (by decide)
    · rintro ⟨c, h, -⟩
      omega
  | I + 1 => by
    have ih := cmS_bit (so := so) (ps := ps) (q := q) (k := k) I
    unfold cmS
    split
    · next e =>
      rw [bitk_or, Bool.or_eq_true, ih, bitk_pow, decide_eq_true_eq]
      constructor
      · rintro (⟨c, h1, h2⟩ | h)
        · exact ⟨c, by omega, h2⟩
        · exact ⟨I, by omega, e, h⟩
      · rintro ⟨c, h1, h2, h3⟩
        by_cases r : c = I
        · subst r
          exact Or.inr h3
        · exact Or.inl ⟨c, by omega, h2, h3⟩
    · next e =>
      rw [ih]
      constructor
      · rintro ⟨c, h1, h2⟩
        exact ⟨c, by omega, h2⟩
      · rintro ⟨c, h1, h2, h3⟩
        by_cases r : c = I
        · subst r
          exact absurd h2 e
        · exact ⟨c, by omega, h2, h3⟩
theorem cbS_iff {so : Nat → Bool} {ps : Nat → Nat → Nat} {a b : Nat} : ∀ I, cbS so ps a b I = true ↔ ∃ i, i < I ∧ so i = true ∧ ps i a < ps i b
  | 0 => by
    constructor
    · intro h
      exact absurd (show false = true from h) (by decide)
    · rintro ⟨c, h, -⟩
      omega
  | I + 1 => by
    have ih := cbS_iff (so := so) (ps := ps) (a := a) (b := b) I
    unfold cbS
    rw [Bool.or_eq_true, ih, Bool.and_eq_true, decide_eq_true_eq]
    constructor
    · rintro (⟨c, h1, h2⟩ | h)
      · exact ⟨c, by omega, h2⟩
      · exact ⟨I, by omega, h⟩
    · rintro ⟨c, h1, h2⟩
      by_cases r : c = I
      · subst r
        exact Or.inr h2
      · exact Or.inl ⟨c, by omega, h2⟩
theorem cbf_iff {N : Nat} {x : (Nat → Nat) × (Nat → Nat)} {ps : Bool} {a b : Nat} : ∀ k c, cbf N x ps a b k c = true ↔ ∃ e, c ≤ e ∧ e < c + k ∧ (bitk e a = true ∧ bitk e b = false) ∧ 0 < Gw N x ps e ∧ 0 < Fw N x e
  | 0, c => by
    constructor
    · intro h
      exact absurd (show false = true from h) (by decide)
    · rintro ⟨e, h1, h2, -⟩
      omega
  | k + 1, c => by
    have ih := cbf_iff (N := N) (x := x) (ps := ps) (a := a) (b := b) k (c + 1)
    unfold cbf
    split
    · next h =>
      constructor
      · intro _
        exact ⟨c, by omega, by omega, h⟩
      · intro _
        rfl
    · next h =>
      rw [ih]
      constructor
      · rintro ⟨e, h1, h2, h3⟩
        exact ⟨e, by omega, by omega, h3⟩
      · rintro ⟨e, h1, h2, h3⟩
        by_cases r : e = c
        · subst r
          exact absurd h3 h
        · exact ⟨e, by omega, by omega, h3⟩
theorem seatZ_l {L1 L2 : List Nat} {q : Nat} (hn : (L1 ++ L2).Nodup) (h : q ∈ L1) : seatZ (L1 ++ L2) q < L1.length := by
  obtain ⟨i, hi⟩ := List.getElem?_of_mem h
  have hl := (List.getElem?_eq_some_iff.mp hi).1
  have := seatZ_get hn (i := i) (q := q) (by rw [List.getElem?_append_left hl]; exact hi)
  omega
theorem seatZ_r {L1 L2 : List Nat} {q : Nat} (hn : (L1 ++ L2).Nodup) (h : q ∈ L2) : L1.length ≤ seatZ (L1 ++ L2) q := by
  obtain ⟨i, hi⟩ := List.getElem?_of_mem h
  have := seatZ_get hn (i := L1.length + i) (q := q) (by rw [List.getElem?_append_right (by omega), Nat.add_sub_cancel_left]; exact hi)
  omega
section EX
variable {A : aN} {B : aZ}
/-- an order that fits, cut at a place -/
theorem cutU (hwf : WF A B) {i k : Nat} (hi : i < fac (cnt A)) (hs : soU A i = true) (hk : k ≤ cnt A) : ∃ c, c < 2 ^ cnt A ∧ pcn c = k ∧ 0 < Gw (cnt A) (hdA A).1 (hdA A).2 c ∧ gd (hdA A).1 c ((unr (cnt A) (cnt A) 0 i).drop k) = true ∧ ∀ q, bitk c q = true ↔ q ∈ (unr (cnt A) (cnt A) 0 i).take k := by
  have hc := cnt_le A
  have h0 : 0 < 2 ^ cnt A := Nat.pow_pos (by omega)
  obtain ⟨s1, s2⟩ := (soU_gd hwf hi).mp hs
  obtain ⟨u1, u2, u3⟩ := unr_all hc hi
  rw [← List.take_append_drop k (unr (cnt A) (cnt A) 0 i), gd_app, Bool.and_eq_true] at s2
  have hl : ∀ q ∈ (unr (cnt A) (cnt A) 0 i).take k, q < cnt A := fun q hq => (u3 q).mp (List.mem_of_mem_take hq)
  refine ⟨es 0 ((unr (cnt A) (cnt A) 0 i).take k), es_lt hc _ 0 hl h0, ?_, ?_, s2.2, fun q => ?_⟩
  · rw [es_pcn hc _ 0 hl h0 (gd_fre _ _ s2.1), pcn0, List.length_take]
    omega
  · refine Gw_on hc _ 0 hl h0 s2.1 ?_
    rw [Gw_0, if_pos s1]
    omega
  · rw [es_bit, bitk_0]
    constructor
    · rintro (h | h)
      · exact absurd h (by decide)
      · exact h
    · exact Or.inr
/-- two parts that fit make an order -/
theorem joinU (hwf : WF A B) {c : Nat} {L2 : List Nat} (hc2 : c < 2 ^ cnt A) (hg : 0 < Gw (cnt A) (hdA A).1 (hdA A).2 c) (hl : L2.length + pcn c = cnt A) (hq : ∀ q ∈ L2, q < cnt A) (hgd : gd (hdA A).1 c L2 = true) : ∃ (i : Nat) (L1 : List Nat), i < fac (cnt A) ∧ soU A i = true ∧ unr (cnt A) (cnt A) 0 i = L1 ++ L2 ∧ L1.length = pcn c ∧ ∀ q, bitk c q = true ↔ q ∈ L1 := by
  have hc := cnt_le A
  have h0 : 0 < 2 ^ cnt A := Nat.pow_pos (by omega)
  obtain ⟨hp, L1, a1, a2, a3⟩ := Gw_path hc _ c rfl hc2 hg
  have a4 := es_pcn hc L1 0 a1 h0 (gd_fre _ _ a2)
  rw [a3, pcn0, Nat.zero_add] at a4
  have hgg : gd (hdA A).1 0 (L1 ++ L2) = true := by rw [gd_app, a2, a3, hgd]; rfl
  obtain ⟨i, b1, b2⟩ := unr_surj hc (cnt A) 0 (L1 ++ L2) h0 (by rw [pcn0]; omega) (by rw [List.length_append]; omega) (fun q hqm => by
    rcases List.mem_append.mp hqm with h | h
    · exact a1 q h
    · exact hq q h) (gd_fre _ _ hgg)
  refine ⟨i, L1, b1, (soU_gd hwf b1).mpr ⟨hp, by rw [b2]; exact hgg⟩, b2, a4.symm, fun q => ?_⟩
  rw [← a3, es_bit, bitk_0]
  constructor
  · rintro (h | h)
    · exact absurd h (by decide)
    · exact h
  · exact Or.inr
theorem came_bits (hwf : WF A B) {p : Nat} (hp : p < cnt A) : cmS (soU A) (psU (cnt A)) p (fac (cnt A)) = plf (cnt A) (hdA A).1 (hdA A).2 p (2 ^ cnt A) := by
  have hc := cnt_le A
  have t7 := two7 hc
  apply Nat.eq_of_testBit_eq
  intro k
  rw [← bitk_tb, ← bitk_tb]
  rw [Bool.eq_iff_iff, cmS_bit, plf_bit]
  constructor
  · rintro ⟨i, hi, hs, hk⟩
    have hbj := bijU (N := cnt A) (i := i) hc hi
    have hkN : k < cnt A := by rw [← hk]; exact (hbj.2 p hp).1
    obtain ⟨u1, u2, u3⟩ := unr_all hc hi
    obtain ⟨c, c1, c2, c3, c4, c5⟩ := cutU hwf hi hs (k := k) (by omega)
    have hat : (unr (cnt A) (cnt A) 0 i)[k]? = some p := by
      have := seatZ_ati ((u3 p).mpr hp)
      unfold psU at hk
      rw [hk] at this
      exact this
    have hd : (unr (cnt A) (cnt A) 0 i).drop k = p :: (unr (cnt A) (cnt A) 0 i).drop (k + 1) := by
      obtain ⟨h1, h2⟩ := List.getElem?_eq_some_iff.mp hat
      rw [List.drop_eq_getElem_cons h1, h2]
    rw [hd] at c4
    have c4 : (mc (hdA A).1 p c && gd (hdA A).1 (c ||| 2 ^ p) ((unr (cnt A) (cnt A) 0 i).drop (k + 1))) = true := c4
    rw [Bool.and_eq_true] at c4
    refine ⟨c, c1, c3, c4.1, ?_, c2⟩
    unfold Fw
    have o2 := ((or2 c (by omega) p (by omega)).2 (mc_bit c4.1)).2
    exact (Fk_pos _ _).mpr ⟨_, by rw [List.length_drop]; omega, fun q hq => (u3 q).mp (List.mem_of_mem_drop hq), c4.2⟩
  · rintro ⟨c, c1, c2, c3, c4, c5⟩
    have o2 := ((or2 c (by omega) p (by omega)).2 (mc_bit c3)).2
    have pl := (pcN (cnt A) (by omega) (c ||| 2 ^ p) (or2 c (by omega) p (by omega)).1 (or3 (cnt A) (by omega) c (by omega) p hp c1)).1
    unfold Fw at c4
    obtain ⟨L2, l1, l2, l3⟩ := (Fk_pos _ _).mp c4
    obtain ⟨i, L1, i1, i2, i3, i4, i5⟩ := joinU hwf (c := c) (L2 := p :: L2) c1 c2 (by rw [List.length_cons]; omega) (fun q hq => by
      rcases List.mem_cons.mp hq with e | e
      · rw [e]
        exact hp
      · exact l2 q e) (by
      show (mc (hdA A).1 p c && gd (hdA A).1 (c ||| 2 ^ p) L2) = true
      rw [c3, l3]
      rfl)
    refine ⟨i, i1, i2, ?_⟩
    have hno : p ∉ L2 := fun q => by
      have := fre_no L2 _ p (gd_fre _ _ l3) q
      rw [bor1 c (by omega) p (by omega)] at this
      exact absurd this (by decide)
    unfold psU
    rw [i3, seatZ_mid hno, i4, c5]
    rfl
theorem first_iff (hwf : WF A B) {a b : Nat} (ha : a < cnt A) (hb : b < cnt A) : cbS (soU A) (psU (cnt A)) a b (fac (cnt A)) = cbA A a b := by
  have hc := cnt_le A
  have t7 := two7 hc
  unfold cbA
  rw [Bool.eq_iff_iff, cbS_iff, cbf_iff]
  constructor
  · rintro ⟨i, hi, hs, hk⟩
    have hbj := bijU (N := cnt A) (i := i) hc hi
    have hpa := (hbj.2 a ha).1
    have hpb := (hbj.2 b hb).1
    obtain ⟨u1, u2, u3⟩ := unr_all hc hi
    obtain ⟨c, c1, c2, c3, c4, c5⟩ := cutU hwf hi hs (k := psU (cnt A) i b) (by omega)
    have hata := seatZ_ati ((u3 a).mpr ha)
    have hatb := seatZ_ati ((u3 b).mpr hb)
    refine ⟨c, by omega, by omega, ⟨?_, ?_⟩, c3, ?_⟩
    · rw [c5]
      refine List.mem_of_getElem? (i := psU (cnt A) i a) ?_
      rw [List.getElem?_take_of_lt hk]
      exact hata
    · cases e : bitk c b with
      | false => rfl
      | true =>
        rw [c5] at e
        obtain ⟨j, hj⟩ := List.getElem?_of_mem e
        have hjl := (List.getElem?_eq_some_iff.mp hj).1
        rw [List.length_take] at hjl
        rw [List.getElem?_take_of_lt (by omega)] at hj
        have := nd_inj u2 hj hatb
        unfold psU at hjl
        omega
    · unfold Fw
      exact (Fk_pos _ _).mpr ⟨_, by rw [List.length_drop]; omega, fun q hq => (u3 q).mp (List.mem_of_mem_drop hq), c4⟩
  · rintro ⟨c, -, c1, ⟨c2, c3⟩, c4, c5⟩
    have pl := (pcN (cnt A) (by omega) c (by omega) (by omega)).1
    unfold Fw at c5
    obtain ⟨L2, l1, l2, l3⟩ := (Fk_pos _ _).mp c5
    obtain ⟨i, L1, i1, i2, i3, i4, i5⟩ := joinU hwf (c := c) (L2 := L2) (by omega) c4 (by omega) l2 l3
    obtain ⟨u1, u2, u3⟩ := unr_all hc i1
    refine ⟨i, i1, i2, ?_⟩
    unfold psU
    rw [i3] at u2 u3 ⊢
    have hbm := (u3 b).mpr hb
    have hb2 : b ∈ L2 := by
      rcases List.mem_append.mp hbm with h | h
      · have := (i5 b).mpr h
        rw [c3] at this
        exact absurd this (by decide)
      · exact h
    have h1 := seatZ_l u2 ((i5 a).mp c2)
    have h2 := seatZ_r u2 hb2
    have h3 := seatZ_rng (L1 ++ L2) a
    have h4 := seatZ_in (List.mem_append_left L2 ((i5 a).mp c2))
    omega
theorem g_came_eq (hwf : WF A B) {z : Int} (hz : z = -1 ∨ (0 ≤ z ∧ z < cnt A)) : g_came A z = f_came A z := by
  unfold g_came f_came
  rw [if_neg (show ¬ (z ≠ -1 ∧ ¬ (0 ≤ z ∧ z < cnt A)) by omega)]
  by_cases c : z = -1
  · rw [if_pos c, if_pos c, came_all hwf]
  · rw [if_neg c, if_neg c, came_bits hwf (by omega)]
theorem g_sure_eq (hwf : WF A B) : g_sure A = f_sure A := by
  unfold g_sure f_sure
  rw [tri (f := g_spr A) (fun a b => by
    unfold g_spr
    by_cases e : cbS (soU A) (psU (cnt A)) a b (fac (cnt A)) = cbS (soU A) (psU (cnt A)) b a (fac (cnt A))
    · rw [if_pos e, if_pos e.symm]
    · rw [if_neg e, if_neg (fun q => e q.symm)])]
  refine sumr_congr _ _ (fun a _ ha => sumr_congr _ _ (fun b hb1 hb2 => ?_))
  unfold g_spr spr
  rw [first_iff hwf (by omega) (by omega), first_iff hwf (by omega) (by omega)]
end EX
