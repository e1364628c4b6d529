/-! the reference: two who would change -/
theorem nd_inj {L : List Nat} (hn : L.Nodup) {i j q : Nat} (h1 : L[i]? = some q) (h2 : L[j]? = some q) : i = j := by
  have a := seatZ_get hn h1
  have b := seatZ_get hn h2
  omega
theorem nd_of {L : List Nat} (h : ∀ i j q : Nat, L[i]? = some q → L[j]? = some q → i = j) : L.Nodup := by
  refine List.pairwise_iff_getElem.mpr (fun i j hi hj hij e => ?_)
  have := h i j L[i] (List.getElem?_eq_getElem hi) (by rw [List.getElem?_eq_getElem hj, e])
  omega
/-- two places change -/
def swi (sa sb i : Nat) : Nat := if i = sb then sa else if i = sa then sb else i
theorem swi_swi (sa sb i : Nat) : swi sa sb (swi sa sb i) = i := by
  unfold swi
  split
  · next e =>
    by_cases c : sa = sb
    · rw [if_pos c]
      omega
    · rw [if_neg c, if_pos rfl]
      omega
  · next e =>
    split
    · next e2 => rw [if_pos rfl]; omega
    · next e2 => rfl
theorem swp_get {L : List Nat} {a b sa sb : Nat} (ha : L[sa]? = some a) (hb : L[sb]? = some b) (i : Nat) : (swp L a b sa sb)[i]? = L[swi sa sb i]? := by
  have la := (List.getElem?_eq_some_iff.mp ha).1
  have lb := (List.getElem?_eq_some_iff.mp hb).1
  unfold swp swi
  rw [List.getElem?_set, List.getElem?_set, List.length_set]
  by_cases e : i = sb
  · rw [if_pos e.symm, if_pos lb, if_pos e, ha]
  · rw [if_neg (fun q => e q.symm), if_neg e]
    by_cases e2 : i = sa
    · rw [if_pos e2.symm, if_pos la, if_pos e2, hb]
    · rw [if_neg (fun q => e2 q.symm), if_neg e2]
theorem swp_nd {L : List Nat} (hn : L.Nodup) {a b sa sb : Nat} (ha : L[sa]? = some a) (hb : L[sb]? = some b) : (swp L a b sa sb).Nodup := by
  refine nd_of (fun i j q h1 h2 => ?_)
  rw [swp_get ha hb] at h1 h2
  have := nd_inj hn h1 h2
  rw [← swi_swi sa sb i, this, swi_swi]
theorem swp_mem {L : List Nat} {a b sa sb : Nat} (ha : L[sa]? = some a) (hb : L[sb]? = some b) {q : Nat} (h : q ∈ swp L a b sa sb) : q ∈ L := by
  obtain ⟨i, hi⟩ := List.getElem?_of_mem h
  rw [swp_get ha hb] at hi
  exact List.mem_of_getElem? hi
theorem swp_seat {L : List Nat} (hn : L.Nodup) {a b sa sb : Nat} (ha : L[sa]? = some a) (hb : L[sb]? = some b) (q : Nat) : seatZ (swp L a b sa sb) q = if q = b then (sa : Int) else if q = a then (sb : Int) else seatZ L q := by
  have key : ∀ j, L[j]? = some q → seatZ (swp L a b sa sb) q = (swi sa sb j : Nat) := by
    intro j hj
    refine seatZ_get (swp_nd hn ha hb) ?_
    rw [swp_get ha hb, swi_swi]
    exact hj
  by_cases e : q = b
  · subst e
    rw [if_pos rfl, key sb hb]
    unfold swi
    rw [if_pos rfl]
  · rw [if_neg e]
    by_cases e2 : q = a
    · subst e2
      rw [if_pos rfl, key sa ha]
      unfold swi
      by_cases c : sa = sb
      · subst c
        rw [ha] at hb
        exact absurd (Option.some.inj hb) e
      · rw [if_neg c, if_pos rfl]
    · rw [if_neg e2]
      by_cases c : q ∈ L
      · have hq := seatZ_ati c
        rw [key _ hq]
        unfold swi
        rw [if_neg (fun r => by rw [r, hb] at hq; exact e (Option.some.inj hq).symm), if_neg (fun r => by rw [r, ha] at hq; exact e2 (Option.some.inj hq).symm)]
        have := seatZ_in c
        have := seatZ_rng L q
        omega
      · rw [seatZ_no c, seatZ_no (fun r => c (swp_mem ha hb r))]
theorem tri {f : Nat → Nat → Int} (hs : ∀ a b, f a b = f b a) : ∀ n, sumr (fun a => sumr (f a) 0 a) 0 n = sumr (fun a => sumr (f a) (a + 1) (n - (a + 1))) 0 n
  | 0 => rfl
  | n + 1 => by
    rw [sumr_last, sumr_last, tri hs n, Nat.zero_add, show n + 1 - (n + 1) = 0 by omega]
    show _ + _ = _ + 0
    rw [Int.add_zero]
    have e : ∀ a, 0 ≤ a → a < 0 + n → sumr (f a) (a + 1) (n + 1 - (a + 1)) = sumr (f a) (a + 1) (n - (a + 1)) + f a n := by
      intro a _ ha
      rw [show n + 1 - (a + 1) = (n - (a + 1)) + 1 by omega, sumr_last, show a + 1 + (n - (a + 1)) = n by omega]
    rw [sumr_congr n 0 e, sumr_add, sumr_congr (f := f n) (g := fun a => f a n) n 0 (fun q _ _ => hs n q)]
theorem cpair_comm (A : aN) (L : List Nat) (a b : Nat) : cpair A L a b = cpair A L b a := by
  by_cases e : a = b
  · rw [e]
  by_cases c : seatZ L a ≠ -1 ∧ seatZ L b ≠ -1
  · have ia : a ∈ L := by
      by_cases q : a ∈ L
      · exact q
      · exact absurd (seatZ_no q) c.1
    have ib : b ∈ L := by
      by_cases q : b ∈ L
      · exact q
      · exact absurd (seatZ_no q) c.2
    have ga := seatZ_ati ia
    have gb := seatZ_ati ib
    have hne : (seatZ L a).toNat ≠ (seatZ L b).toNat := by
      intro q
      rw [q, gb] at ga
      exact e (Option.some.inj ga).symm
    have es : swp L a b (seatZ L a).toNat (seatZ L b).toNat = swp L b a (seatZ L b).toNat (seatZ L a).toNat := by
      unfold swp
      rw [List.set_comm _ _ hne]
    have ec : CZ A L a b (gin A a (A 4 a)) (gin A b (A 4 b)) = CZ A L b a (gin A b (A 4 b)) (gin A a (A 4 a)) := by
      unfold CZ
      rw [es, Bool.and_comm]
    unfold cpair
    rw [ec]
    by_cases r : CZ A L b a (gin A b (A 4 b)) (gin A a (A 4 a)) = true
    · rw [if_pos ⟨c.1, c.2, r⟩, if_pos ⟨c.2, c.1, r⟩]
    · rw [if_neg (fun q => r q.2.2), if_neg (fun q => r q.2.2)]
  · unfold cpair
    rw [if_neg (fun q => c ⟨q.1, q.2.1⟩), if_neg (fun q => c ⟨q.2.1, q.1⟩)]
section RCH
variable {n w3 : Nat} {g : Nat → Nat × Nat} {σ : Nat → Nat → Int32} {τ : Nat → Nat → Int64} {r1 r2 : Nat} {A : aN} {B : aZ}
theorem out_seat (A : aN) (w : Nat → Nat) {p : Nat} (hp : p < cnt A) : A 3 0 ≤ gin A p (w p) ↔ seatZ (SL A (A 3 1) (fun _ => true) w) p = -1 := by
  constructor
  · intro h
    exact seatZ_no (fun q => by have := (SL_in.mp q).2.2; omega)
  · intro h
    rcases Nat.lt_or_ge (gin A p (w p)) (A 3 0) with q | q
    · exact absurd h (seatZ_in (SL_in.mpr ⟨hp, rfl, q⟩))
    · exact q
set_option maxHeartbeats 2000000 in
set_option maxRecDepth 100000 in
theorem r_wouldChange (d : Nat) (Q : am_Q) {a b : Nat} (hwf : WF A B) (hb : RB A (A 4) σ) (ha : a < cnt A) (hbc : b < cnt A) (hab : a ≠ b) (na : seatZ (SL A (A 3 1) (fun _ => true) (A 4)) a ≠ -1) (nb : seatZ (SL A (A 3 1) (fun _ => true) (A 4)) b ≠ -1)
    (h : ∀ σ' : Nat → Nat → Int32, (∀ c, c ≠ 68 → σ' c = σ c) → Q (some (.int (if CZ A (SL A (A 3 1) (fun _ => true) (A 4)) a b (gin A a (A 4 a)) (gin A b (A 4 b)) = true then 1 else 0))) (lo_M n w3 g σ' τ r1 r2)) : am_d (d + 6) 162 [.ref 56, .int (Int32.ofInt (a : Int)), .int (Int32.ofInt (b : Int))] 0 0 (lo_M n w3 g σ τ r1 r2) Q := by
  have hc := cnt_le A
  have hal := all_lt hc
  have bka : ∀ p, p < cnt A → bitk (2 ^ cnt A - 1) p = true := fun p hp => bitk_all (cnt A) (by omega) p hp
  generalize hL : SL A (A 3 1) (fun _ => true) (A 4) = L at h na nb
  have hnd : L.Nodup := by rw [← hL]; exact SL_nd
  have hlt : ∀ x ∈ L, x < cnt A := by rw [← hL]; exact SL_lt
  have s6 : ∀ q, -1 ≤ seatZ L q ∧ seatZ L q ≤ 6 := by rw [← hL]; exact fun q => seat6 A _ _ _ q
  have ia : a ∈ L := by
    by_cases q : a ∈ L
    · exact q
    · exact absurd (seatZ_no q) na
  have ib : b ∈ L := by
    by_cases q : b ∈ L
    · exact q
    · exact absurd (seatZ_no q) nb
  have ga := seatZ_ati ia
  have gb := seatZ_ati ib
  have sa6 := s6 a
  have sb6 := s6 b
  have gga : gin A a (A 4 a) ≤ 60 := by unfold gin; omega
  have ggb : gin A b (A 4 b) ≤ 60 := by unfold gin; omega
  have hnd' := swp_nd hnd ga gb
  have hlt' : ∀ x ∈ swp L a b (seatZ L a).toNat (seatZ L b).toNat, x < cnt A := fun x hx => hlt x (swp_mem ga gb hx)
  have hs' := swp_seat hnd ga gb
  have xa := WRn_WZ (mem := fun _ => true) (p := a) (gg := gin A a (A 4 a)) hwf hnd hlt (fun _ _ => rfl)
  have xb := WRn_WZ (mem := fun _ => true) (p := b) (gg := gin A b (A 4 b)) hwf hnd hlt (fun _ _ => rfl)
  have ya := WRn_WZ (mem := fun _ => true) (p := a) (gg := gin A a (A 4 a)) hwf hnd' hlt' (fun _ _ => rfl)
  have yb := WRn_WZ (mem := fun _ => true) (p := b) (gg := gin A b (A 4 b)) hwf hnd' hlt' (fun _ _ => rfl)
  rw [hs' a, if_neg hab, if_pos rfl, show (((seatZ L b).toNat : Nat) : Int) = seatZ L b by omega] at ya
  rw [hs' b, if_pos rfl, show (((seatZ L a).toNat : Nat) : Int) = seatZ L a by omega] at yb
  have ra := WZ_rng (L := L) hwf ha gga sa6.1 (by omega)
  have rb := WZ_rng (L := L) hwf hbc ggb sb6.1 (by omega)
  have ra' := WZ_rng (L := swp L a b (seatZ L a).toNat (seatZ L b).toNat) hwf ha gga sb6.1 (by omega)
  have rb' := WZ_rng (L := swp L a b (seatZ L a).toNat (seatZ L b).toNat) hwf hbc ggb sa6.1 (by omega)
  unfold CZ at h
  refine am_goT T_X10_wouldChange [.ref 56, .int (Int32.ofInt (a : Int)), .int (Int32.ofInt (b : Int)), .null, .null, .null] rfl rfl (fun _ => false) 80 ?_
  refine r_findAll d _ hwf.2.2.2.2.1 hwf hb (fun σ1 k1 k2 => ?_)
  rw [hL] at k2
  have hb1 := RB_68 hb k1
  refine r_whole (d + 4) _ hc hb1.1.1 ?_
  refine r_hasNow (d + 1) _ (st := seatZ L) hwf hwf.2.2.2.2.1 hb1 hal ha (bka a ha) (fun q hq _ => ⟨k2 q hq, s6 q⟩) ?_
  refine r_whole (d + 4) _ hc hb1.1.1 ?_
  refine r_hasNow (d + 1) _ (st := seatZ L) hwf hwf.2.2.2.2.1 hb1 hal hbc (bka b hbc) (fun q hq _ => ⟨k2 q hq, s6 q⟩) ?_
  rw [WRn_all ha, WRn_all hbc, ← xa, ← xb]
  refine ixi a 7 (by omega) ?_
  refine ixi b 7 (by omega) ?_
  refine ixi a 7 (by omega) ?_
  refine ixi b 7 (by omega) ?_
  have fr : ∀ c, c ≠ 68 → am_u (am_u σ1 68 a (σ1 68 b)) 68 b (σ1 68 a) c = σ c := fun c e => by rw [am_u_ne e, am_u_ne e, k1 c e]
  have hb2 := RB_68 hb fr
  have st2 : ∀ q, q < cnt A → bitk (2 ^ cnt A - 1) q = true → am_u (am_u σ1 68 a (σ1 68 b)) 68 b (σ1 68 a) 68 q = Int32.ofInt (seatZ (swp L a b (seatZ L a).toNat (seatZ L b).toNat) q) ∧ -1 ≤ seatZ (swp L a b (seatZ L a).toNat (seatZ L b).toNat) q ∧ seatZ (swp L a b (seatZ L a).toNat (seatZ L b).toNat) q ≤ 6 := by
    intro q hq _
    have s6q := s6 q
    rw [hs' q, am_u_at, am_u_at]
    by_cases e : q = b
    · rw [if_pos e, if_pos e, k2 a ha]
      exact ⟨by congr 1; omega, by omega, by omega⟩
    · rw [if_neg e, if_neg e]
      by_cases e2 : q = a
      · rw [if_pos e2, if_pos e2, k2 b hbc]
        exact ⟨by congr 1; omega, by omega, by omega⟩
      · rw [if_neg e2, if_neg e2, k2 q hq]
        exact ⟨rfl, s6q⟩
  have h := h _ fr
  show am_d (d + 5) 146 [.ref 56] 0 0 (lo_M n w3 g (am_u (am_u σ1 68 a (σ1 68 b)) 68 b (σ1 68 a)) τ r1 r2) _
  refine r_whole (d + 4) _ hc hb2.1.1 ?_
  refine r_hasNow (d + 1) _ (st := seatZ (swp L a b (seatZ L a).toNat (seatZ L b).toNat)) hwf hwf.2.2.2.2.1 hb2 hal ha (bka a ha) st2 ?_
  rw [WRn_all ha, ← ya]
  refine And.intro (fun c1 => ?_) (fun c1 => ?_)
  · rw [zle (by unfold zr; omega) (by unfold zr; omega)] at c1
    rw [if_neg (fun q => by rw [Bool.and_eq_true, decide_eq_true_eq, decide_eq_true_eq] at q; omega)] at h
    exact And.intro (Or.inl rfl) h
  rw [zle (by unfold zr; omega) (by unfold zr; omega)] at c1
  refine r_whole (d + 4) _ hc hb2.1.1 ?_
  refine r_hasNow (d + 1) _ (st := seatZ (swp L a b (seatZ L a).toNat (seatZ L b).toNat)) hwf hwf.2.2.2.2.1 hb2 hal hbc (bka b hbc) st2 ?_
  rw [WRn_all hbc, ← yb]
  refine And.intro (fun c2 => ?_) (fun c2 => ?_)
  · rw [zle (by unfold zr; omega) (by unfold zr; omega)] at c2
    rw [if_neg (fun q => by rw [Bool.and_eq_true, decide_eq_true_eq, decide_eq_true_eq] at q; omega)] at h
    exact And.intro (Or.inl rfl) h
  · rw [zle (by unfold zr; omega) (by unfold zr; omega)] at c2
    rw [if_pos (by rw [Bool.and_eq_true, decide_eq_true_eq, decide_eq_true_eq]; omega)] at h
    exact And.intro (Or.inr rfl) h
set_option maxHeartbeats 1000000 in
set_option maxRecDepth 100000 in
theorem q_change (d : Nat) (Q : am_Q) {z y : Int} (hz : zr z) (hy : zr y) (hm : IM A B σ) (hwf : WF A B) (h : ∀ σ', QF σ σ' → Q (some (.int (Int32.ofInt (f_change A z y)))) (lo_M n w3 g σ' τ r1 r2)) : am_d (d + 7) 163 [.ref 56, .int (Int32.ofInt z), .int (Int32.ofInt y)] 0 0 (lo_M n w3 g σ τ r1 r2) Q := by
  have bad : ¬ ((0 ≤ z ∧ z < cnt A) ∧ (0 ≤ y ∧ y < cnt A) ∧ z ≠ y) → ∀ σ', QF σ σ' → Q (some (.int (Int32.ofInt (-2)))) (lo_M n w3 g σ' τ r1 r2) := by
    intro c σ' k
    have h := h σ' k
    unfold f_change at h
    rw [if_neg c] at h
    exact h
  refine am_goT T_X10_change [.ref 56, .int (Int32.ofInt z), .int (Int32.ofInt y)] rfl rfl (fun _ => false) 60 ?_
  refine r_isPerson (d + 1) _ hz hwf hm.1 (fun σ1 k1 k2 k3 => ?_)
  have q1 := QF_rd k1 k2
  by_cases c : 0 ≤ z ∧ z < cnt A
  · rw [if_pos c]
    refine And.intro (fun q => absurd q (by decide)) (fun _ => ?_)
    have hm1 := IM_QF hm q1
    refine r_isPerson (d + 1) _ hy hwf hm1.1 (fun σ2 m1 m2 m3 => ?_)
    have q2 := QF_trans q1 (QF_rd m1 m2)
    by_cases c2 : 0 ≤ y ∧ y < cnt A
    · rw [if_pos c2]
      refine And.intro (fun q => absurd q (by decide)) (fun _ => ?_)
      refine And.intro (fun c3 => ?_) (fun c3 => ?_)
      · rw [zeq hz hy] at c3
        exact bad (fun q => q.2.2 c3) σ2 q2
      · rw [zeq hz hy] at c3
        obtain ⟨a, rfl⟩ := Int.eq_ofNat_of_zero_le c.1
        obtain ⟨b, rfl⟩ := Int.eq_ofNat_of_zero_le c2.1
        have hb := RB_rd hm1 m1 m3
        have ha : a < cnt A := by omega
        have hbc : b < cnt A := by omega
        unfold f_change at h
        rw [if_pos ⟨c, c2, c3⟩, Int.toNat_natCast, Int.toNat_natCast] at h
        have oa := out_seat A (A 4) ha
        have ob := out_seat A (A 4) hbc
        refine r_isOutside (d + 3) _ ha hwf.2.2.2.2.1 hwf.2.2.2.1.1 hb ?_
        by_cases c4 : A 3 0 ≤ gin A a (A 4 a)
        · rw [if_pos c4]
          refine And.intro (fun q => absurd q (by decide)) (fun _ => ?_)
          rw [if_pos (Or.inl (oa.mp c4))] at h
          exact h σ2 q2
        · rw [if_neg c4]
          refine And.intro (fun _ => ?_) (fun q => absurd rfl q)
          refine r_isOutside (d + 3) _ hbc hwf.2.2.2.2.1 hwf.2.2.2.1.1 hb ?_
          by_cases c5 : A 3 0 ≤ gin A b (A 4 b)
          · rw [if_pos c5]
            refine And.intro (fun q => absurd q (by decide)) (fun _ => ?_)
            rw [if_pos (Or.inr (ob.mp c5))] at h
            exact h σ2 q2
          · rw [if_neg c5]
            refine And.intro (fun _ => ?_) (fun q => absurd rfl q)
            have na := fun q => c4 (oa.mpr q)
            have nb := fun q => c5 (ob.mpr q)
            rw [if_neg (fun q => q.elim na nb)] at h
            refine r_wouldChange d _ hwf hb ha hbc (by omega) na nb (fun σ3 j1 => ?_)
            have h := h σ3 (QF_trans q2 (QF_68 j1))
            by_cases c6 : CZ A (SL A (A 3 1) (fun _ => true) (A 4)) a b (gin A a (A 4 a)) (gin A b (A 4 b)) = true
            · rw [if_pos c6] at h ⊢
              exact And.intro (fun q => absurd q (by decide)) (fun _ => h)
            · rw [if_neg c6] at h ⊢
              exact And.intro (fun _ => h) (fun q => absurd rfl q)
    · rw [if_neg c2]
      exact And.intro (fun _ => bad (fun q => c2 q.2.1) σ2 q2) (fun q => absurd rfl q)
  · rw [if_neg c]
    exact And.intro (fun _ => bad (fun q => c q.1) σ1 q1) (fun q => absurd rfl q)
set_option maxHeartbeats 2000000 in
set_option maxRecDepth 100000 in
theorem r_chg_in (d : Nat) (Q : am_Q) {a : Nat} (hwf : WF A B) (ha : a < cnt A) : ∀ (k b : Nat) (s : Int) (σ : Nat → Nat → Int32), b + k = a → RB A (A 4) σ →
    (∀ σ' : Nat → Nat → Int32, (∀ c, c ≠ 68 → σ' c = σ c) → am_wp (am_d (d + 6)) T_X10_changesNow Q (58, [.ref 56, .int (Int32.ofInt (s + sumr (cpair A (SL A (A 3 1) (fun _ => true) (A 4)) a) b k)), .int (Int32.ofInt (a : Int)), .int (Int32.ofInt (a : Int))], [], 0, 0) (lo_M n w3 g σ' τ r1 r2)) →
    am_wp (am_d (d + 6)) T_X10_changesNow Q (14, [.ref 56, .int (Int32.ofInt s), .int (Int32.ofInt (a : Int)), .int (Int32.ofInt (b : Int))], [], 0, 0) (lo_M n w3 g σ τ r1 r2) := by
  have hc := cnt_le A
  intro k
  induction k with
  | zero =>
    intro b s σ hk hb h
    have e : b = a := by omega
    subst e
    have h := h σ (fun _ _ => rfl)
    rw [show sumr (cpair A (SL A (A 3 1) (fun _ => true) (A 4)) b) b 0 = 0 from rfl, Int.add_zero] at h
    refine am_wp_go (am_d_cm _) (fun pc => Nat.beq pc 14 || Nat.beq pc 50 || Nat.beq pc 58) 60 ?_
    exact And.intro (fun c1 => h) (fun c1 => absurd (Int32.le_refl _) c1)
  | succ k ih =>
    intro b s σ hk hb h
    have hbc : b < cnt A := by omega
    have oa := out_seat A (A 4) ha
    have ob := out_seat A (A 4) hbc
    have fin : ∀ (v : Int) (σ1 : Nat → Nat → Int32), (∀ c, c ≠ 68 → σ1 c = σ c) → v = cpair A (SL A (A 3 1) (fun _ => true) (A 4)) a b → am_wp (am_d (d + 6)) T_X10_changesNow Q (50, [.ref 56, .int (Int32.ofInt s), .int (Int32.ofInt (a : Int)), .int (Int32.ofInt (b : Int))], [.int (Int32.ofInt v), .int (Int32.ofInt s)], 0, 0) (lo_M n w3 g σ1 τ r1 r2) := by
      intro v σ1 j1 hv
      refine am_wp_go (am_d_cm _) (fun pc => Nat.beq pc 14 || Nat.beq pc 50 || Nat.beq pc 58) 60 ?_
      show am_wp _ _ _ (14, [.ref 56, .int (Int32.ofInt s + Int32.ofInt v), .int (Int32.ofInt (a : Int)), .int (Int32.ofInt (b : Int) + Int32.ofInt 1)], [], 0, 0) (lo_M n w3 g σ1 τ r1 r2)
      rw [zadd, zadd]
      refine ih (b + 1) (s + v) σ1 (by omega) (RB_68 hb j1) (fun σ2 m1 => ?_)
      have h := h σ2 (fun c e => by rw [m1 c e, j1 c e])
      rw [show sumr (cpair A (SL A (A 3 1) (fun _ => true) (A 4)) a) b (k + 1) = cpair A (SL A (A 3 1) (fun _ => true) (A 4)) a b + sumr (cpair A (SL A (A 3 1) (fun _ => true) (A 4)) a) (b + 1) k from rfl, ← hv, ← Int.add_assoc] at h
      exact h
    refine am_wp_go (am_d_cm _) (fun pc => Nat.beq pc 14 || Nat.beq pc 50 || Nat.beq pc 58) 60 ?_
    refine And.intro (fun c1 => ?_) (fun c1 => ?_)
    · rw [zle (by unfold zr; omega) (by unfold zr; omega)] at c1
      omega
    refine r_isOutside (d + 3) _ ha hwf.2.2.2.2.1 hwf.2.2.2.1.1 hb ?_
    by_cases c4 : A 3 0 ≤ gin A a (A 4 a)
    · rw [if_pos c4]
      refine And.intro (fun q => absurd q (by decide)) (fun _ => ?_)
      exact fin 0 σ (fun _ _ => rfl) (by unfold cpair; rw [if_neg (fun q => q.1 (oa.mp c4))])
    rw [if_neg c4]
    refine And.intro (fun _ => ?_) (fun q => absurd rfl q)
    refine r_isOutside (d + 3) _ hbc hwf.2.2.2.2.1 hwf.2.2.2.1.1 hb ?_
    by_cases c5 : A 3 0 ≤ gin A b (A 4 b)
    · rw [if_pos c5]
      refine And.intro (fun q => absurd q (by decide)) (fun _ => ?_)
      exact fin 0 σ (fun _ _ => rfl) (by unfold cpair; rw [if_neg (fun q => q.2.1 (ob.mp c5))])
    rw [if_neg c5]
    refine And.intro (fun _ => ?_) (fun q => absurd rfl q)
    have na := fun q => c4 (oa.mpr q)
    have nb := fun q => c5 (ob.mpr q)
    refine r_wouldChange d _ hwf hb ha hbc (by omega) na nb (fun σ3 j1 => ?_)
    by_cases c6 : CZ A (SL A (A 3 1) (fun _ => true) (A 4)) a b (gin A a (A 4 a)) (gin A b (A 4 b)) = true
    · rw [if_pos c6]
      refine And.intro (fun q => absurd q (by decide)) (fun _ => ?_)
      exact fin 1 σ3 j1 (by unfold cpair; rw [if_pos ⟨na, nb, c6⟩])
    · rw [if_neg c6]
      refine And.intro (fun _ => ?_) (fun q => absurd rfl q)
      exact fin 0 σ3 j1 (by unfold cpair; rw [if_neg (fun q => c6 q.2.2)])
set_option maxHeartbeats 1000000 in
set_option maxRecDepth 100000 in
theorem r_chg_loop (d : Nat) (Q : am_Q) (hwf : WF A B) : ∀ (k a : Nat) (s : Int) (σ : Nat → Nat → Int32) (u : Value), a + k = cnt A → RB A (A 4) σ →
    (∀ σ' : Nat → Nat → Int32, (∀ c, c ≠ 68 → σ' c = σ c) → Q (some (.int (Int32.ofInt (s + sumr (fun a => sumr (cpair A (SL A (A 3 1) (fun _ => true) (A 4)) a) 0 a) a k)))) (lo_M n w3 g σ' τ r1 r2)) →
    am_wp (am_d (d + 6)) T_X10_changesNow Q (4, [.ref 56, .int (Int32.ofInt s), .int (Int32.ofInt (a : Int)), u], [], 0, 0) (lo_M n w3 g σ τ r1 r2) := by
  have hc := cnt_le A
  intro k
  induction k with
  | zero =>
    intro a s σ u hk hb h
    have h := h σ (fun _ _ => rfl)
    rw [show ∀ f, sumr f a 0 = 0 from fun _ => rfl, Int.add_zero] at h
    refine am_wp_go (am_d_cm _) (fun pc => Nat.beq pc 4 || Nat.beq pc 14) 60 ?_
    refine And.intro (fun c1 => h) (fun c1 => absurd ?_ c1)
    show σ 56 8 ≤ _
    rw [hb.1.1, zle (by unfold zr; omega) (by unfold zr; omega)]
    omega
  | succ k ih =>
    intro a s σ u hk hb h
    refine am_wp_go (am_d_cm _) (fun pc => Nat.beq pc 4 || Nat.beq pc 14) 60 ?_
    refine And.intro (fun c1 => ?_) (fun c1 => ?_)
    · have c1 : σ 56 8 ≤ Int32.ofInt (a : Int) := c1
      rw [hb.1.1, zle (by unfold zr; omega) (by unfold zr; omega)] at c1
      omega
    refine r_chg_in d Q hwf (by omega) a 0 s σ (by omega) hb (fun σ1 k1 => ?_)
    refine am_wp_go (am_d_cm _) (fun pc => Nat.beq pc 4 || Nat.beq pc 14) 60 ?_
    show am_wp _ _ _ (4, [.ref 56, .int (Int32.ofInt (s + sumr (cpair A (SL A (A 3 1) (fun _ => true) (A 4)) a) 0 a)), .int (Int32.ofInt (a : Int) + Int32.ofInt 1), .int (Int32.ofInt (a : Int))], [], 0, 0) (lo_M n w3 g σ1 τ r1 r2)
    rw [zadd]
    refine ih (a + 1) _ σ1 _ (by omega) (RB_68 hb k1) (fun σ2 m1 => ?_)
    have h := h σ2 (fun c e => by rw [m1 c e, k1 c e])
    rw [show ∀ f : Nat → Int, sumr f a (k + 1) = f a + sumr f (a + 1) k from fun _ => rfl, ← Int.add_assoc] at h
    exact h
set_option maxRecDepth 100000 in
theorem r_changesNow (d : Nat) (Q : am_Q) (hwf : WF A B) (hb : RB A (A 4) σ) (h : ∀ σ' : Nat → Nat → Int32, (∀ c, c ≠ 68 → σ' c = σ c) → Q (some (.int (Int32.ofInt (f_changes A)))) (lo_M n w3 g σ' τ r1 r2)) : am_d (d + 7) 164 [.ref 56] 0 0 (lo_M n w3 g σ τ r1 r2) Q := by
  refine am_goT T_X10_changesNow [.ref 56, .null, .null, .null] rfl rfl (fun pc => Nat.beq pc 4) 60 ?_
  refine r_chg_loop d Q hwf (cnt A) 0 0 σ .null (by omega) hb (fun σ1 k1 => ?_)
  rw [tri (cpair_comm A _), Int.zero_add]
  exact h σ1 k1
set_option maxRecDepth 100000 in
theorem q_changes (d : Nat) (Q : am_Q) (hm : IM A B σ) (hwf : WF A B) (h : ∀ σ', QF σ σ' → Q (some (.int (Int32.ofInt (f_changes A)))) (lo_M n w3 g σ' τ r1 r2)) : am_d (d + 8) 165 [.ref 56] 0 0 (lo_M n w3 g σ τ r1 r2) Q := by
  refine am_goT T_X10_changes [.ref 56] rfl rfl (fun _ => false) 60 ?_
  refine r_reads (d + 3) _ hwf hm.1 (fun σ1 k1 k2 k3 => ?_)
  exact r_changesNow d _ hwf (RB_rd hm k1 k3) (fun σ2 m1 => h σ2 (QF_r68 k1 k2 m1))
end RCH
