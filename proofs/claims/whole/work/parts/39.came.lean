/-! Orders: found, asked; came, sure: the class -/
theorem pc6 : ∀ c : Nat, c < 128 → ∀ p : Nat, p < 7 → bitk c p = false → pcn c < 7 := by decide +kernel
theorem Fk_le {N : Nat} (hN : N ≤ 7) {x : (Nat → Nat) × (Nat → Nat)} : ∀ k c, Fk N x k c ≤ 7 ^ k
  | 0, c => by
    unfold Fk
    omega
  | k + 1, c => by
    have h := nsum_le (f := fun p => if mc x p c = true then Fk N x k (c ||| 2 ^ p) else 0) (m := 7 ^ k) N (fun q hq => by

      split
      · exact Fk_le hN k _
      · exact Nat.zero_le _)
    have h2 : N * 7 ^ k ≤ 7 * 7 ^ k := Nat.mul_le_mul_right _ hN
    rw [Nat.pow_succ, Nat.mul_comm (7 ^ k) 7]
    exact Nat.le_trans h h2
theorem Fw_le {N : Nat} (hN : N ≤ 7) {x : (Nat → Nat) × (Nat → Nat)} (c : Nat) : Fw N x c ≤ 1000000 := by
  have h1 : Fw N x c ≤ 7 ^ (N - pcn c) := Fk_le hN _ c
  have h2 : 7 ^ (N - pcn c) ≤ 7 ^ 7 := Nat.pow_le_pow_right (by omega) (by omega)
  have h3 : 7 ^ 7 = 823543 := rfl
  omega
/-- as which one can have come -/
def plf (N : Nat) (x : (Nat → Nat) × (Nat → Nat)) (ps : Bool) (p : Nat) : Nat → Nat
  | 0 => 0
  | c + 1 => if 0 < Gw N x ps c ∧ mc x p c = true ∧ 0 < Fw N x (c ||| 2 ^ p) then plf N x ps p c ||| 2 ^ pcn c else plf N x ps p c
/-- whether a can have come ahead of b -/
def cbf (N : Nat) (x : (Nat → Nat) × (Nat → Nat)) (ps : Bool) (a b : Nat) : Nat → Nat → Bool
  | 0, _ => false
  | k + 1, c => if (bitk c a = true ∧ bitk c b = false) ∧ 0 < Gw N x ps c ∧ 0 < Fw N x c then true else cbf N x ps a b k (c + 1)
theorem plf_lt {N : Nat} {x : (Nat → Nat) × (Nat → Nat)} {ps : Bool} {p : Nat} (hp : p < 7) : ∀ k, k ≤ 128 → plf N x ps p k < 128
  | 0, _ => by unfold plf; omega
  | c + 1, h => by
    have ih := plf_lt (N := N) (x := x) (ps := ps) hp c (by omega)
    unfold plf
    split
    · next q => exact (or2 _ ih _ (pc6 c (by omega) p hp (mc_bit q.2.1))).1
    · exact ih
def hdA (A : aN) : ((Nat → Nat) × (Nat → Nat)) × Bool := hdf (cnt A) (A 3 1) (A 5) (A 6) (A 7) (A 0 1)
def KO (A : aN) (σ : Nat → Nat → Int32) : Prop := σ 39 4 = Int32.ofInt (cnt A : Int) ∧ σ 39 5 = Int32.ofInt ((2 ^ cnt A - 1 : Nat) : Int) ∧ hdS (cnt A) (hdA A).1 σ ∧ (∀ c, c < 2 ^ cnt A → σ 40 c = Int32.ofInt (Gw (cnt A) (hdA A).1 (hdA A).2 c : Int)) ∧ ∀ c, c < 2 ^ cnt A → σ 41 c = Int32.ofInt (Fw (cnt A) (hdA A).1 c : Int)
def cbA (A : aN) (a b : Nat) : Bool := cbf (cnt A) (hdA A).1 (hdA A).2 a b (2 ^ cnt A) 0
def spr (A : aN) (a b : Nat) : Int := if cbA A a b = cbA A b a then 0 else 1
def f_came (A : aN) (z : Int) : Int := if z ≠ -1 ∧ ¬ (0 ≤ z ∧ z < cnt A) then -2 else if z = -1 then (Gw (cnt A) (hdA A).1 (hdA A).2 (2 ^ cnt A - 1) : Int) else (plf (cnt A) (hdA A).1 (hdA A).2 z.toNat (2 ^ cnt A) : Int)
def f_sure (A : aN) : Int := sumr (fun a => sumr (spr A a) (a + 1) (cnt A - (a + 1))) 0 (cnt A)
section CM
variable {n w3 : Nat} {g : Nat → Nat × Nat} {σ : Nat → Nat → Int32} {τ : Nat → Nat → Int64} {r1 r2 : Nat} {A : aN} {B : aZ}
set_option maxRecDepth 100000 in
theorem s_find1 (d : Nat) (Q : am_Q) {N : Nat} {x3 : Int32} {x5 : Value} (hN : N ≤ 7) : ∀ (k p : Nat) (σ : Nat → Nat → Int32), p + k = N → σ 39 4 = Int32.ofInt (N : Int) → σ 39 5 = Int32.ofInt ((2 ^ N - 1 : Nat) : Int) → (∀ q, q < p → σ 42 q = Int32.ofInt 0 ∧ σ 43 q = Int32.ofInt ((2 ^ N - 1 : Nat) : Int)) →
    (∀ σ' : Nat → Nat → Int32, (∀ c, c ≠ 42 → c ≠ 43 → σ' c = σ c) → (∀ q, q < N → σ' 42 q = Int32.ofInt 0 ∧ σ' 43 q = Int32.ofInt ((2 ^ N - 1 : Nat) : Int)) → am_wp (am_d d) T_X3_find Q (60, [.ref 39, .ref 35, .int (Int32.ofInt (N : Int)), .int x3, .int (Int32.ofInt 1), .int (Int32.ofInt 0)], [], 0, 0) (lo_M n w3 g σ' τ r1 r2)) →
    am_wp (am_d d) T_X3_find Q (20, [.ref 39, .ref 35, .int (Int32.ofInt (N : Int)), .int x3, .int (Int32.ofInt (p : Int)), x5], [], 0, 0) (lo_M n w3 g σ τ r1 r2) := by
  intro k
  induction k with
  | zero =>
    intro p σ hp hn ha hs h
    refine am_wp_go (am_d_cm _) (fun pc => Nat.beq pc 20 || Nat.beq pc 60) 60 ?_
    refine And.intro (fun c1 => ?_) (fun c1 => absurd ?_ c1)
    · exact h σ (fun _ _ _ => rfl) (fun q hq => hs q (by omega))
    · show σ 39 4 ≤ _
      rw [hn, zle (by unfold zr; omega) (by unfold zr; omega)]
      omega
  | succ k ih =>
    intro p σ hp hn ha hs h
    refine am_wp_go (am_d_cm _) (fun pc => Nat.beq pc 20 || Nat.beq pc 60) 60 ?_
    refine And.intro (fun c1 => ?_) (fun c1 => ?_)
    · have c1 : σ 39 4 ≤ Int32.ofInt (p : Int) := c1
      rw [hn, zle (by unfold zr; omega) (by unfold zr; omega)] at c1
      omega
    · refine ixi p 7 (by omega) ?_
      refine ixi p 7 (by omega) ?_
      show am_wp _ _ _ (20, [.ref 39, .ref 35, .int (Int32.ofInt (N : Int)), .int x3, .int (Int32.ofInt (p : Int) + Int32.ofInt 1), x5], [], 0, 0) (lo_M n w3 g (am_u (am_u σ 42 p (Int32.ofInt 0)) 43 p (σ 39 5)) τ r1 r2)
      rw [zadd, show ((p : Int) + 1) = ((p + 1 : Nat) : Int) by omega]
      refine ih (p + 1) _ (by omega) hn ha (fun q hq => ?_) (fun σ' k1 k2 => h σ' (fun c e1 e2 => by rw [k1 c e1 e2, am_u_ne e2, am_u_ne e1]) k2)
      rw [am_u_at, am_u_ne (by decide), am_u_at]
      by_cases e : q = p
      · rw [if_pos e, if_pos e]
        exact ⟨rfl, ha⟩
      · rw [if_neg e, if_neg e]
        exact hs q (by omega)
set_option maxHeartbeats 1000000 in
set_option maxRecDepth 100000 in
theorem s_find2 (d : Nat) (Q : am_Q) {N lw S : Nat} {kd pe ot : Nat → Nat} (hN : N ≤ 7) (hlw : lw ≤ 1) (hS : S ≤ 8) (hf : ∀ f, kd f ≤ 1 ∧ pe f < 7 ∧ ot f < 7) : ∀ (k f : Nat) (σ : Nat → Nat → Int32) (x4 : Int32), f + k = S → σ 39 4 = Int32.ofInt (N : Int) → σ 39 5 = Int32.ofInt ((2 ^ N - 1 : Nat) : Int) → σ 35 3 = Int32.ofInt (S : Int) → (∀ f, f < S → σ 36 f = Int32.ofInt (kd f : Int) ∧ σ 37 f = Int32.ofInt (pe f : Int) ∧ σ 38 f = Int32.ofInt (ot f : Int)) → hdS N (hdf N lw kd pe ot f).1 σ → x4 = (if (hdf N lw kd pe ot f).2 = true then 1 else 0) →
    (∀ σ' : Nat → Nat → Int32, (∀ c, c ≠ 40 → c ≠ 41 → c ≠ 42 → c ≠ 43 → σ' c = σ c) → hdS N (hdf N lw kd pe ot S).1 σ' → (∀ c, c < 2 ^ N → σ' 40 c = Int32.ofInt (Gw N (hdf N lw kd pe ot S).1 (hdf N lw kd pe ot S).2 c : Int)) → (∀ c, c < 2 ^ N → σ' 41 c = Int32.ofInt (Fw N (hdf N lw kd pe ot S).1 c : Int)) → Q none (lo_M n w3 g σ' τ r1 r2)) →
    am_wp (am_d (d + 3)) T_X3_find Q (60, [.ref 39, .ref 35, .int (Int32.ofInt (N : Int)), .int (Int32.ofInt (lw : Int)), .int x4, .int (Int32.ofInt (f : Int))], [], 0, 0) (lo_M n w3 g σ τ r1 r2) := by
  intro k
  induction k with
  | zero =>
    intro f σ x4 hfk hn ha h5 h6 hs hx4 h
    have hfe : f = S := by omega
    subst hfe
    refine am_wp_go (am_d_cm _) (fun pc => Nat.beq pc 60) 60 ?_
    refine And.intro (fun c1 => ?_) (fun c1 => absurd ?_ c1)
    · show am_d (d + 3) 21 [.ref 39, .int x4] 0 0 _ _
      rw [hx4]
      refine s_waysTo d _ hN (hdf_7 hN f) (wtJ_i1 hN) (wtJ_i2 hN) (wtJ_i3 hN) (wtJ_i4 hN) (wtJ_0 hN) hs hn ha (fun w' σ' k1 k2 k3 => ?_)
      have hs' : hdS N (hdf N lw kd pe ot f).1 σ' := by
        unfold hdS
        rw [k1 42 (by decide), k1 43 (by decide)]
        exact hs
      refine s_waysOn d _ hN (hdf_7 hN f) (onF_Fw hN _) hs' (by rw [k1 39 (by decide)]; exact hn) (by rw [k1 39 (by decide)]; exact ha) (fun σ2 m1 m2 => ?_)
      refine h σ2 (fun c e1 e2 e3 e4 => by rw [m1 c e2, k1 c e1]) ?_ (fun c hc => ?_) m2
      · unfold hdS
        rw [m1 42 (by decide), m1 43 (by decide)]
        exact hs'
      · rw [m1 40 (by decide), k2 c hc, wtJ_at hN k3 hc (by omega)]
    · show σ 35 3 ≤ _
      rw [h5, zle (by unfold zr; omega) (by unfold zr; omega)]
      omega
  | succ k ih =>
    intro f σ x4 hfk hn ha h5 h6 hs hx4 h
    obtain ⟨y1, y2, y3⟩ := h6 f (by omega)
    obtain ⟨v1, v2, v3⟩ := hf f
    have next : ∀ (σ' : Nat → Nat → Int32) (v : Int32), (∀ c, c ≠ 42 → c ≠ 43 → σ' c = σ c) → hdS N (hd1 N lw (kd f) (pe f) (ot f) (hdf N lw kd pe ot f).1) σ' → v = (if (hd2 N (kd f) (pe f) (ot f) && (hdf N lw kd pe ot f).2) = true then 1 else 0) → am_wp (am_d (d + 3)) T_X3_find Q (60, [.ref 39, .ref 35, .int (Int32.ofInt (N : Int)), .int (Int32.ofInt (lw : Int)), .int v, .int (Int32.ofInt (f : Int) + Int32.ofInt 1)], [], 0, 0) (lo_M n w3 g σ' τ r1 r2) := by
      intro σ' v k1 k2 hv
      rw [zadd, show ((f : Int) + 1) = ((f + 1 : Nat) : Int) by omega]
      refine ih (f + 1) σ' v (by omega) (by rw [k1 39 (by decide) (by decide)]; exact hn) (by rw [k1 39 (by decide) (by decide)]; exact ha) (by rw [k1 35 (by decide) (by decide)]; exact h5) (by rw [k1 36 (by decide) (by decide), k1 37 (by decide) (by decide), k1 38 (by decide) (by decide)]; exact h6) k2 hv (fun σ2 m1 m2 m3 m4 => h σ2 (fun c e1 e2 e3 e4 => by rw [m1 c e1 e2 e3 e4, k1 c e3 e4]) m2 m3 m4)
    refine am_wp_go (am_d_cm _) (fun pc => Nat.beq pc 60) 60 ?_
    refine And.intro (fun c1 => ?_) (fun c1 => ?_)
    · have c1 : σ 35 3 ≤ Int32.ofInt (f : Int) := c1
      rw [h5, zle (by unfold zr; omega) (by unfold zr; omega)] at c1
      omega
    · refine ixi f 8 (by omega) ?_
      refine ixi f 8 (by omega) ?_
      refine ixi f 8 (by omega) ?_
      show am_d (d + 3) 19 [.ref 39, .int (σ 36 f), .int (σ 37 f), .int (σ 38 f), .int (Int32.ofInt (lw : Int))] 0 0 _ _
      rw [y1, y2, y3]
      refine s_heed (d + 1) _ hN hlw v1 v2 v3 (hdf_7 hN f) hn hs (fun σ' k1 k2 => ?_)
      by_cases c3 : hd2 N (kd f) (pe f) (ot f) = true
      · rw [if_pos c3]
        refine And.intro (fun q => absurd q (by decide)) (fun _ => ?_)
        by_cases c4 : (hdf N lw kd pe ot f).2 = true
        · rw [if_pos c4] at hx4
          subst hx4
          refine And.intro (fun q => absurd q (by decide)) (fun _ => ?_)
          exact next σ' 1 k1 k2 (by rw [c3, c4]; rfl)
        · rw [if_neg c4] at hx4
          subst hx4
          refine And.intro (fun _ => ?_) (fun q => absurd rfl q)
          exact next σ' 0 k1 k2 (by rw [if_neg (fun q => c4 (by rw [Bool.and_eq_true] at q; exact q.2))])
      · rw [if_neg c3]
        refine And.intro (fun _ => ?_) (fun q => absurd rfl q)
        exact next σ' 0 k1 k2 (by rw [if_neg (fun q => c3 (by rw [Bool.and_eq_true] at q; exact q.1))])
set_option maxRecDepth 100000 in
theorem s_find (d : Nat) (Q : am_Q) (hx : IX A B σ) (hwf : WF A B) (h : ∀ σ' : Nat → Nat → Int32, (∀ c, ¬ (39 ≤ c ∧ c ≤ 43) → σ' c = σ c) → KO A σ' → Q none (lo_M n w3 g σ' τ r1 r2)) : am_d (d + 4) 18 [.ref 39, .ref 35, .int (Int32.ofInt (cnt A : Int)), .int (Int32.ofInt (A 3 1 : Int))] 0 0 (lo_M n w3 g σ τ r1 r2) Q := by
  have hc := cnt_le A
  obtain ⟨f1, f2⟩ := hx.2.2.2.2.2.1
  have hall := all_eq (cnt A) (by omega)
  have go := s_find1 (n := n) (w3 := w3) (g := g) (τ := τ) (r1 := r1) (r2 := r2) (d + 3) Q (x3 := Int32.ofInt (A 3 1 : Int)) (x5 := .null) hc (cnt A) 0 (am_u (am_u σ 39 4 (Int32.ofInt (cnt A : Int))) 39 5 ((Int32.ofInt 1 <<< (Int32.ofInt (cnt A : Int) &&& 31)) - Int32.ofInt 1)) (by omega) (by rw [am_u_at, if_neg (by decide), am_u_at, if_pos rfl]) (by rw [am_u_at, if_pos rfl]; exact hall) (fun q hq => by omega) (fun σ' k1 k2 => by
    have e39 : σ' 39 = am_u (am_u σ 39 4 (Int32.ofInt (cnt A : Int))) 39 5 ((Int32.ofInt 1 <<< (Int32.ofInt (cnt A : Int) &&& 31)) - Int32.ofInt 1) 39 := k1 39 (by decide) (by decide)
    have eo : ∀ c, c ≠ 39 → c ≠ 42 → c ≠ 43 → σ' c = σ c := fun c e1 e2 e3 => by rw [k1 c e2 e3, am_u_ne e1, am_u_ne e1]
    refine s_find2 d Q (lw := A 3 1) (S := A 0 1) (kd := A 5) (pe := A 6) (ot := A 7) hc hwf.2.2.2.1.2.1 hwf.2.2.2.2.2.2.2.1 hwf.2.2.2.2.2.2.2.2.1 (A 0 1) 0 σ' _ (by omega) (by rw [e39, am_u_at, if_neg (by decide), am_u_at, if_pos rfl]) (by rw [e39, am_u_at, if_pos rfl]; exact hall) (by rw [eo 35 (by decide) (by decide) (by decide)]; exact f1) (by rw [eo 36 (by decide) (by decide) (by decide), eo 37 (by decide) (by decide) (by decide), eo 38 (by decide) (by decide) (by decide)]; exact f2) (fun q hq => k2 q hq) rfl (fun σ2 m1 m2 m3 m4 => ?_)
    refine h σ2 (fun c e => by rw [m1 c (by omega) (by omega) (by omega) (by omega), eo c (by omega) (by omega) (by omega)]) ⟨?_, ?_, m2, m3, m4⟩
    · rw [m1 39 (by decide) (by decide) (by decide) (by decide), e39, am_u_at, if_neg (by decide), am_u_at, if_pos rfl]
    · rw [m1 39 (by decide) (by decide) (by decide) (by decide), e39, am_u_at, if_pos rfl]
      exact hall)
  refine am_goT T_X3_find [.ref 39, .ref 35, .int (Int32.ofInt (cnt A : Int)), .int (Int32.ofInt (A 3 1 : Int)), .null, .null] rfl rfl (fun pc => Nat.beq pc 20) 60 ?_
  exact go
set_option maxRecDepth 100000 in
theorem s_findOrders (d : Nat) (Q : am_Q) (hx : IX A B σ) (hwf : WF A B) (hfl : σ 4 16 = Int32.ofInt 0 ∨ σ 4 16 = Int32.ofInt 1 ∧ KO A σ) (h : ∀ σ' : Nat → Nat → Int32, (∀ c, c ≠ 4 → ¬ (39 ≤ c ∧ c ≤ 43) → σ' c = σ c) → (∀ i, i ≠ 16 → σ' 4 i = σ 4 i) → σ' 4 16 = Int32.ofInt 1 → KO A σ' → Q none (lo_M n w3 g σ' τ r1 r2)) : am_d (d + 5) 104 [.ref 4] 0 0 (lo_M n w3 g σ τ r1 r2) Q := by
  refine am_goT T_X9_findOrders [.ref 4] rfl rfl (fun _ => false) 60 ?_
  rcases hfl with hfl | ⟨hfl, hK⟩
  · refine And.intro (fun _ => ?_) (fun c1 => absurd (show σ 4 16 = 0 from hfl) c1)
    refine ixi 1 6 (by omega) ?_
    show am_d (d + 4) 18 [.ref 39, .ref 35, .int (σ 5 4), .int (σ 12 1)] 0 0 _ _
    rw [hx.1.2.2.1, hx.2.2.1 1 (by omega)]
    refine s_find d _ hx hwf (fun σ' k1 k2 => ?_)
    refine And.intro (Or.inr rfl) ?_
    refine h (am_u σ' 4 16 (Int32.ofInt 1)) (fun c e1 e2 => by rw [am_u_ne e1, k1 c e2]) (fun i hi => by rw [am_u_at, if_neg hi, k1 4 (by omega)]) (by rw [am_u_at, if_pos rfl]) k2
  · refine And.intro (fun c1 => absurd (show σ 4 16 = 0 from c1) (by rw [hfl]; decide)) (fun _ => ?_)
    exact h σ (fun _ _ _ => rfl) (fun _ _ => rfl) hfl hK
set_option maxHeartbeats 1000000 in
set_option maxRecDepth 100000 in
theorem s_places (d : Nat) (Q : am_Q) {N p : Nat} {x : (Nat → Nat) × (Nat → Nat)} {ps : Bool} (hN : N ≤ 7) (hp : p < N) (h7 : m7 N x) (hs : hdS N x σ) (ha : σ 39 5 = Int32.ofInt ((2 ^ N - 1 : Nat) : Int)) (hG : ∀ c, c < 2 ^ N → σ 40 c = Int32.ofInt (Gw N x ps c : Int)) (hF : ∀ c, c < 2 ^ N → σ 41 c = Int32.ofInt (Fw N x c : Int)) (h : Q (some (.int (Int32.ofInt (plf N x ps p (2 ^ N) : Int)))) (lo_M n w3 g σ τ r1 r2)) : ∀ (k come : Nat), come + k = 2 ^ N →
    am_wp (am_d (d + 2)) T_X3_placesOf Q (4, [.ref 39, .int (Int32.ofInt (p : Int)), .int (Int32.ofInt (plf N x ps p come : Int)), .int (Int32.ofInt (come : Int))], [], 0, 0) (lo_M n w3 g σ τ r1 r2) := by
  have t7 := two7 hN
  intro k
  induction k with
  | zero =>
    intro come hc
    have hce : come = 2 ^ N := by omega
    subst hce
    refine am_wp_go (am_d_cm _) (fun pc => Nat.beq pc 4) 60 ?_
    refine And.intro (fun c1 => ?_) (fun c1 => absurd ?_ c1)
    · exact h
    · show σ 39 5 < _
      rw [ha, zlt (by unfold zr; omega) (by unfold zr; omega)]
      omega
  | succ k ih =>
    intro come hc
    have ih := ih (come + 1) (by omega)
    rw [show ((come + 1 : Nat) : Int) = (come : Int) + 1 by omega, ← zadd (come : Int)] at ih
    have gl := Gw_le hN (x := x) (ps := ps) come
    have pl := plf_lt (N := N) (x := x) (ps := ps) (show p < 7 by omega) come (by omega)
    have skip : ¬ (0 < Gw N x ps come ∧ mc x p come = true ∧ 0 < Fw N x (come ||| 2 ^ p)) → am_wp (am_d (d + 2)) T_X3_placesOf Q (4, [.ref 39, .int (Int32.ofInt (p : Int)), .int (Int32.ofInt (plf N x ps p come : Int)), .int (Int32.ofInt (come : Int) + Int32.ofInt 1)], [], 0, 0) (lo_M n w3 g σ τ r1 r2) := by
      intro e
      have ih := ih
      rw [show plf N x ps p (come + 1) = plf N x ps p come from if_neg e] at ih
      exact ih
    refine am_wp_go (am_d_cm _) (fun pc => Nat.beq pc 4) 60 ?_
    refine And.intro (fun c1 => ?_) (fun c1 => ?_)
    · have c1 : σ 39 5 < Int32.ofInt (come : Int) := c1
      rw [ha, zlt (by unfold zr; omega) (by unfold zr; omega)] at c1
      omega
    · refine ixi come 128 (by omega) ?_
      refine And.intro (fun c2 => ?_) (fun c2 => ?_)
      · have c2 : σ 40 come ≤ 0 := c2
        rw [hG come (by omega), zle0 (by unfold zr; omega)] at c2
        exact skip (fun q => by omega)
      · have c2 : ¬ σ 40 come ≤ 0 := c2
        rw [hG come (by omega), zle0 (by unfold zr; omega)] at c2
        refine s_mayCome d _ hN hp (by omega) h7 hs ?_
        by_cases c3 : mc x p come = true
        · rw [if_pos c3]
          refine And.intro (fun q => absurd q (by decide)) (fun _ => ?_)
          have o3 := or3 N (by omega) come (by omega) p hp (by omega)
          have eo := (orv come (by omega) p (by omega)).1
          have fl := Fw_le hN (x := x) (come ||| 2 ^ p)
          refine ixi (come ||| 2 ^ p) 128 (by omega) ?_ eo
          refine And.intro (fun c4 => ?_) (fun c4 => ?_)
          · have c4 : σ 41 (come ||| 2 ^ p) ≤ 0 := c4
            rw [hF _ o3, zle0 (by unfold zr; omega)] at c4
            exact skip (fun q => by omega)
          · have c4 : ¬ σ 41 (come ||| 2 ^ p) ≤ 0 := c4
            rw [hF _ o3, zle0 (by unfold zr; omega)] at c4
            refine s_bitCount (d + 1) (show come < 128 by omega) _ _ ?_
            rw [show plf N x ps p (come + 1) = plf N x ps p come ||| 2 ^ pcn come from if_pos ⟨by omega, c3, by omega⟩, ← (orv _ pl (pcn come) (pc6 come (by omega) p (by omega) (mc_bit c3))).1] at ih
            exact ih
        · rw [if_neg c3]
          refine And.intro (fun _ => ?_) (fun q => absurd rfl q)
          exact skip (fun q => c3 q.2.1)
set_option maxHeartbeats 1000000 in
set_option maxRecDepth 100000 in
theorem s_cbf_loop (d : Nat) (Q : am_Q) {N a b : Nat} {x : (Nat → Nat) × (Nat → Nat)} {ps : Bool} (hN : N ≤ 7) (haN : a < N) (hbN : b < N) (ha : σ 39 5 = Int32.ofInt ((2 ^ N - 1 : Nat) : Int)) (hG : ∀ c, c < 2 ^ N → σ 40 c = Int32.ofInt (Gw N x ps c : Int)) (hF : ∀ c, c < 2 ^ N → σ 41 c = Int32.ofInt (Fw N x c : Int)) : ∀ (k come : Nat) (x4 : Value), come + k = 2 ^ N → Q (some (.int (if cbf N x ps a b k come = true then 1 else 0))) (lo_M n w3 g σ τ r1 r2) →
    am_wp (am_d d) T_X3_canBeFirst Q (2, [.ref 39, .int (Int32.ofInt (a : Int)), .int (Int32.ofInt (b : Int)), .int (Int32.ofInt (come : Int)), x4], [], 0, 0) (lo_M n w3 g σ τ r1 r2) := by
  have t7 := two7 hN
  intro k
  induction k with
  | zero =>
    intro come x4 hc h
    refine am_wp_go (am_d_cm _) (fun pc => Nat.beq pc 2) 60 ?_
    refine And.intro (fun c1 => ?_) (fun c1 => absurd ?_ c1)
    · exact And.intro (Or.inl rfl) h
    · show σ 39 5 < _
      rw [ha, zlt (by unfold zr; omega) (by unfold zr; omega)]
      omega
  | succ k ih =>
    intro come x4 hc h
    have gl := Gw_le hN (x := x) (ps := ps) come
    have fl := Fw_le hN (x := x) come
    have next : ∀ v : Value, ¬ ((bitk come a = true ∧ bitk come b = false) ∧ 0 < Gw N x ps come ∧ 0 < Fw N x come) → am_wp (am_d d) T_X3_canBeFirst Q (2, [.ref 39, .int (Int32.ofInt (a : Int)), .int (Int32.ofInt (b : Int)), .int (Int32.ofInt (come : Int) + Int32.ofInt 1), v], [], 0, 0) (lo_M n w3 g σ τ r1 r2) := by
      intro v e
      rw [zadd, show ((come : Int) + 1) = ((come + 1 : Nat) : Int) by omega]
      rw [show cbf N x ps a b (k + 1) come = cbf N x ps a b k (come + 1) from if_neg e] at h
      exact ih (come + 1) v (by omega) h
    refine am_wp_go (am_d_cm _) (fun pc => Nat.beq pc 2) 60 ?_
    refine And.intro (fun c1 => ?_) (fun c1 => ?_)
    · have c1 : σ 39 5 < Int32.ofInt (come : Int) := c1
      rw [ha, zlt (by unfold zr; omega) (by unfold zr; omega)] at c1
      omega
    · refine And.intro (fun c2 => ?_) (fun c2 => ?_)
      · have c2 : (Int32.ofInt (come : Int) >>> (Int32.ofInt (a : Int) &&& 31)) &&& Int32.ofInt 1 = Int32.ofInt 1 := c2
        rw [bitv7 come (by omega) a (by omega)] at c2
        have b1 : bitk come a = true := by
          cases e : bitk come a with
          | true => rfl
          | false =>
            rw [e] at c2
            exact absurd c2 (by decide)
        refine And.intro (fun c3 => ?_) (fun c3 => ?_)
        · have c3 : (Int32.ofInt (come : Int) >>> (Int32.ofInt (b : Int) &&& 31)) &&& Int32.ofInt 1 = 0 := c3
          rw [bitv7 come (by omega) b (by omega)] at c3
          have b2 : bitk come b = false := by
            cases e : bitk come b with
            | false => rfl
            | true =>
              rw [e] at c3
              exact absurd c3 (by decide)
          refine And.intro (fun q => absurd q (by decide)) (fun _ => ?_)
          refine ixi come 128 (by omega) ?_
          refine And.intro (fun c4 => ?_) (fun c4 => ?_)
          · have c4 : σ 40 come ≤ 0 := c4
            rw [hG come (by omega), zle0 (by unfold zr; omega)] at c4
            exact next _ (fun q => by omega)
          · have c4 : ¬ σ 40 come ≤ 0 := c4
            rw [hG come (by omega), zle0 (by unfold zr; omega)] at c4
            refine ixi come 128 (by omega) ?_
            refine And.intro (fun c5 => ?_) (fun c5 => ?_)
            · have c5 : σ 41 come ≤ 0 := c5
              rw [hF come (by omega), zle0 (by unfold zr; omega)] at c5
              exact next _ (fun q => by omega)
            · have c5 : ¬ σ 41 come ≤ 0 := c5
              rw [hF come (by omega), zle0 (by unfold zr; omega)] at c5
              rw [show cbf N x ps a b (k + 1) come = true from if_pos ⟨⟨b1, b2⟩, by omega, by omega⟩, if_pos rfl] at h
              exact And.intro (Or.inr rfl) h
        · have c3 : ¬ (Int32.ofInt (come : Int) >>> (Int32.ofInt (b : Int) &&& 31)) &&& Int32.ofInt 1 = 0 := c3
          rw [bitv7 come (by omega) b (by omega)] at c3
          refine And.intro (fun _ => ?_) (fun q => absurd rfl q)
          exact next _ (fun q => by
            rw [q.1.2] at c3
            exact absurd rfl c3)
      · have c2 : ¬ (Int32.ofInt (come : Int) >>> (Int32.ofInt (a : Int) &&& 31)) &&& Int32.ofInt 1 = Int32.ofInt 1 := c2
        rw [bitv7 come (by omega) a (by omega)] at c2
        refine And.intro (fun _ => ?_) (fun q => absurd rfl q)
        exact next _ (fun q => by
          rw [q.1.1] at c2
          exact absurd rfl c2)
set_option maxRecDepth 100000 in
theorem s_cbA (d : Nat) (Q : am_Q) {a b : Nat} (haN : a < cnt A) (hbN : b < cnt A) (hK : KO A σ) (h : Q (some (.int (if cbA A a b = true then 1 else 0))) (lo_M n w3 g σ τ r1 r2)) : am_d (d + 1) 26 [.ref 39, .int (Int32.ofInt (a : Int)), .int (Int32.ofInt (b : Int))] 0 0 (lo_M n w3 g σ τ r1 r2) Q := by
  obtain ⟨k1, k2, k3, k4, k5⟩ := hK
  refine am_goT T_X3_canBeFirst [.ref 39, .int (Int32.ofInt (a : Int)), .int (Int32.ofInt (b : Int)), .null, .null] rfl rfl (fun pc => Nat.beq pc 2) 60 ?_
  exact s_cbf_loop d Q (cnt_le A) haN hbN k2 k4 k5 (2 ^ cnt A) 0 .null (by omega) h
theorem spr01 (A : aN) (a b : Nat) : 0 ≤ spr A a b ∧ spr A a b ≤ 1 := by
  unfold spr
  split <;> omega
set_option maxHeartbeats 1000000 in
set_option maxRecDepth 100000 in
theorem s_sure_in (d : Nat) (Q : am_Q) {a : Nat} (hK : KO A σ) (ha : a < cnt A) : ∀ (k b : Nat) (acc : Int), b + k = cnt A → a < b → 0 ≤ acc → acc + k ≤ 1000 →
    (am_wp (am_d (d + 1)) T_X3_surePairs Q (4, [.ref 39, .int (Int32.ofInt (acc + sumr (spr A a) b k)), .int (Int32.ofInt ((a + 1 : Nat) : Int)), .int (Int32.ofInt (cnt A : Int))], [], 0, 0) (lo_M n w3 g σ τ r1 r2)) →
    am_wp (am_d (d + 1)) T_X3_surePairs Q (16, [.ref 39, .int (Int32.ofInt acc), .int (Int32.ofInt (a : Int)), .int (Int32.ofInt (b : Int))], [], 0, 0) (lo_M n w3 g σ τ r1 r2) := by
  have hc := cnt_le A
  intro k
  induction k with
  | zero =>
    intro b acc hb hab h0 hacc h
    have hbe : b = cnt A := by omega
    subst hbe
    refine am_wp_go (am_d_cm _) (fun pc => Nat.beq pc 4 || Nat.beq pc 16) 60 ?_
    refine And.intro (fun c1 => ?_) (fun c1 => absurd ?_ c1)
    · unfold sumr at h
      rw [Int.add_zero, show ((a + 1 : Nat) : Int) = (a : Int) + 1 by omega, ← zadd (a : Int)] at h
      exact h
    · show σ 39 4 ≤ Int32.ofInt (cnt A : Int)
      rw [hK.1]
      exact Int32.le_refl _
  | succ k ih =>
    intro b acc hb hab h0 hacc h
    have c01 := spr01 A a b
    unfold sumr at h
    rw [← Int.add_assoc] at h
    have ih := ih (b + 1) (acc + spr A a b) (by omega) (by omega) (by omega) (by omega) h
    rw [show ((b + 1 : Nat) : Int) = (b : Int) + 1 by omega, ← zadd (b : Int)] at ih
    refine am_wp_go (am_d_cm _) (fun pc => Nat.beq pc 4 || Nat.beq pc 16) 60 ?_
    refine And.intro (fun c1 => ?_) (fun c1 => ?_)
    · have c1 : σ 39 4 ≤ Int32.ofInt (b : Int) := c1
      rw [hK.1, zle (by unfold zr; omega) (by unfold zr; omega)] at c1
      omega
    · refine s_cbA d _ (by omega) (by omega) hK ?_
      refine s_cbA d _ (by omega) (by omega) hK ?_
      by_cases e : cbA A a b = cbA A b a
      · rw [show spr A a b = 0 from if_pos e, Int.add_zero] at ih
        refine And.intro (fun _ => ?_) (fun q => absurd (show (if cbA A a b = true then (1 : Int32) else 0) = if cbA A b a = true then 1 else 0 by rw [e]) q)
        exact ih
      · rw [show spr A a b = 1 from if_neg e, ← zadd acc] at ih
        refine And.intro (fun q => ?_) (fun _ => ih)
        have q : (if cbA A a b = true then (1 : Int32) else 0) = if cbA A b a = true then 1 else 0 := q
        exfalso
        revert q e
        cases cbA A a b <;> cases cbA A b a <;> decide
set_option maxHeartbeats 1000000 in
set_option maxRecDepth 100000 in
theorem s_sure_out (d : Nat) (Q : am_Q) (hK : KO A σ) : ∀ (k a : Nat) (acc : Int) (x3 : Value), a + k = cnt A → 0 ≤ acc → acc + 7 * k ≤ 900 →
    Q (some (.int (Int32.ofInt (acc + sumr (fun a => sumr (spr A a) (a + 1) (cnt A - (a + 1))) a k)))) (lo_M n w3 g σ τ r1 r2) →
    am_wp (am_d (d + 1)) T_X3_surePairs Q (4, [.ref 39, .int (Int32.ofInt acc), .int (Int32.ofInt (a : Int)), x3], [], 0, 0) (lo_M n w3 g σ τ r1 r2) := by
  have hc := cnt_le A
  intro k
  induction k with
  | zero =>
    intro a acc x3 ha h0 hacc h
    have hae : a = cnt A := by omega
    subst hae
    refine am_wp_go (am_d_cm _) (fun pc => Nat.beq pc 4 || Nat.beq pc 16) 60 ?_
    refine And.intro (fun c1 => ?_) (fun c1 => absurd ?_ c1)
    · unfold sumr at h
      rw [Int.add_zero] at h
      exact h
    · show σ 39 4 ≤ Int32.ofInt (cnt A : Int)
      rw [hK.1]
      exact Int32.le_refl _
  | succ k ih =>
    intro a acc x3 ha h0 hacc h
    refine am_wp_go (am_d_cm _) (fun pc => Nat.beq pc 4 || Nat.beq pc 16) 60 ?_
    refine And.intro (fun c1 => ?_) (fun c1 => ?_)
    · have c1 : σ 39 4 ≤ Int32.ofInt (a : Int) := c1
      rw [hK.1, zle (by unfold zr; omega) (by unfold zr; omega)] at c1
      omega
    · show am_wp _ _ _ (16, [.ref 39, .int (Int32.ofInt acc), .int (Int32.ofInt (a : Int)), .int (Int32.ofInt (a : Int) + Int32.ofInt 1)], [], 0, 0) _
      rw [zadd, show ((a : Int) + 1) = ((a + 1 : Nat) : Int) by omega]
      have sr := sumr_rng (f := spr A a) (M := 1) (spr01 A a) (cnt A - (a + 1)) (a + 1)
      refine s_sure_in d Q hK (by omega) (cnt A - (a + 1)) (a + 1) acc (by omega) (by omega) h0 (by omega) ?_
      refine ih (a + 1) _ _ (by omega) (by omega) (by omega) ?_
      rw [show sumr (fun a => sumr (spr A a) (a + 1) (cnt A - (a + 1))) a (k + 1) = sumr (spr A a) (a + 1) (cnt A - (a + 1)) + sumr (fun a => sumr (spr A a) (a + 1) (cnt A - (a + 1))) (a + 1) k from rfl, ← Int.add_assoc] at h
      exact h
set_option maxRecDepth 100000 in
theorem c_sure (d : Nat) (Q : am_Q) (hx : IX A B σ) (hwf : WF A B) (hfl : σ 4 16 = Int32.ofInt 0 ∨ σ 4 16 = Int32.ofInt 1 ∧ KO A σ) (h : ∀ σ' : Nat → Nat → Int32, (∀ c, c ≠ 4 → ¬ (39 ≤ c ∧ c ≤ 43) → σ' c = σ c) → (∀ i, i ≠ 16 → σ' 4 i = σ 4 i) → σ' 4 16 = Int32.ofInt 1 → KO A σ' → Q (some (.int (Int32.ofInt (f_sure A)))) (lo_M n w3 g σ' τ r1 r2)) : am_d (d + 6) 73 [.ref 4] 0 0 (lo_M n w3 g σ τ r1 r2) Q := by
  have hc := cnt_le A
  refine am_goT T_X9_sure [.ref 4] rfl rfl (fun _ => false) 60 ?_
  refine s_findOrders d _ hx hwf hfl (fun σ' k1 k2 k3 k4 => ?_)
  refine am_goT (d := d + 4) (k := 25) T_X3_surePairs [.ref 39, .null, .null, .null] rfl rfl (fun pc => Nat.beq pc 4) 60 ?_
  refine s_sure_out (d + 3) _ k4 (cnt A) 0 0 .null (by omega) (by omega) (by omega) ?_
  rw [Int.zero_add]
  exact h σ' k1 k2 k3 k4
set_option maxRecDepth 100000 in
theorem c_came (d : Nat) (Q : am_Q) {z : Int} (hz : zr z) (hx : IX A B σ) (hwf : WF A B) (hfl : σ 4 16 = Int32.ofInt 0 ∨ σ 4 16 = Int32.ofInt 1 ∧ KO A σ)
    (h0 : ¬ (z = -1 ∨ (0 ≤ z ∧ z < cnt A)) → Q (some (.int (Int32.ofInt (f_came A z)))) (lo_M n w3 g σ τ r1 r2))
    (h : ∀ σ' : Nat → Nat → Int32, (∀ c, c ≠ 4 → ¬ (39 ≤ c ∧ c ≤ 43) → σ' c = σ c) → (∀ i, i ≠ 16 → σ' 4 i = σ 4 i) → σ' 4 16 = Int32.ofInt 1 → KO A σ' → Q (some (.int (Int32.ofInt (f_came A z)))) (lo_M n w3 g σ' τ r1 r2)) : am_d (d + 6) 72 [.ref 4, .int (Int32.ofInt z)] 0 0 (lo_M n w3 g σ τ r1 r2) Q := by
  have hc := cnt_le A
  have t7 := two7 hc
  have go : (z = -1 ∨ (0 ≤ z ∧ z < cnt A)) → am_run (am_d (d + 5)) T_X9_came Q (fun _ => false) (am_wp (am_d (d + 5)) T_X9_came Q) 40 (16, [.ref 4, .int (Int32.ofInt z)], [], 0, 0) (lo_M n w3 g σ τ r1 r2) := by
    intro cz
    refine s_findOrders d _ hx hwf hfl (fun σ' k1 k2 k3 k4 => ?_)
    have h := h σ' k1 k2 k3 k4
    unfold f_came at h
    rw [if_neg (fun q => by omega)] at h
    refine And.intro (fun c2 => ?_) (fun c2 => ?_)
    · rw [zeq hz (by unfold zr; omega)] at c2
      rw [if_pos c2] at h
      refine am_goT (d := d + 4) (k := 23) T_X3_howMany [.ref 39] rfl rfl (fun _ => false) 60 ?_
      refine ixi (2 ^ cnt A - 1) 128 (by omega) ?_ k4.2.1
      rw [← k4.2.2.2.1 _ (by omega)] at h
      exact h
    · rw [zeq hz (by unfold zr; omega)] at c2
      rw [if_neg c2] at h
      show am_d (d + 5) 24 [.ref 39, .int (Int32.ofInt z)] 0 0 _ _
      rw [show Int32.ofInt z = Int32.ofInt (z.toNat : Int) by congr 1; omega]
      refine am_goT (d := d + 4) (k := 24) T_X3_placesOf [.ref 39, .int (Int32.ofInt (z.toNat : Int)), .null, .null] rfl rfl (fun pc => Nat.beq pc 4) 60 ?_
      refine s_places (d + 2) _ hc (show z.toNat < cnt A by omega) (hdf_7 hc _) k4.2.2.1 k4.2.1 k4.2.2.2.1 k4.2.2.2.2 ?_ (2 ^ cnt A) 0 (by omega)
      exact h
  refine am_goT T_X9_came [.ref 4, .int (Int32.ofInt z)] rfl rfl (fun pc => Nat.beq pc 16) 60 ?_
  refine And.intro (fun c1 => ?_) (fun c1 => ?_)
  · rw [zeq hz (by unfold zr; omega)] at c1
    exact am_wp_run (am_d_cm _) _ 40 (go (Or.inl c1))
  · rw [zeq hz (by unfold zr; omega)] at c1
    refine s_isThere (d + 3) _ hz hc hx.1.2.2.1 ?_
    by_cases c : 0 ≤ z ∧ z < cnt A
    · rw [if_pos c]
      refine And.intro (fun q => absurd q (by decide)) (fun _ => ?_)
      exact am_wp_run (am_d_cm _) _ 40 (go (Or.inr c))
    · rw [if_neg c]
      refine And.intro (fun _ => ?_) (fun q => absurd rfl q)
      have h0 := h0 (fun q => by omega)
      unfold f_came at h0
      rw [if_pos ⟨c1, c⟩] at h0
      exact h0
end CM
