/-! best, change, changes: the class -/
/-- the best of the first k of f: the first place of the most -/
def bst (f : Nat → Int) : Nat → Nat × Int
  | 0 => (0, 0)
  | k + 1 => if k = 0 ∨ f k > (bst f k).2 then (k, f k) else bst f k
theorem bst_keep {f : Nat → Int} {k : Nat} (h0 : k ≠ 0) (h : f k ≤ (bst f k).2) : bst f (k + 1) = bst f k := by
  show (if _ then _ else _) = _
  rw [if_neg (fun q => by rcases q with q | q <;> omega)]
theorem bst_take {f : Nat → Int} {k : Nat} (h : k = 0 ∨ (bst f k).2 < f k) : bst f (k + 1) = (k, f k) := by
  show (if _ then _ else _) = _
  rw [if_pos h]
/-- as told, but one waits v -/
def upw (w : Nat → Nat) (p v : Nat) : Nat → Nat := fun q => if q = p then v else w q
def f_best (A : aN) (z y : Int) : Int := if (0 ≤ z ∧ z < cnt A) ∧ 0 ≤ y ∧ y ≤ 1 then (if y = 0 then ((bst (fun v => HZ A (A 3 1) (fun _ => true) (upw (A 4) z.toNat v) z.toNat) (60 - mn A z.toNat)).1 : Int) else (bst (fun v => HZ A (A 3 1) (fun _ => true) (upw (A 4) z.toNat v) z.toNat) (60 - mn A z.toNat)).2) else -10002
section BE
variable {n w3 : Nat} {g : Nat → Nat × Nat} {σ : Nat → Nat → Int32} {τ : Nat → Nat → Int64} {r1 r2 : Nat} {A : aN} {B : aZ}
theorem bst_rng {f : Nat → Int} {lo hi : Int} (h0 : lo ≤ 0 ∧ 0 ≤ hi) (h : ∀ v, lo ≤ f v ∧ f v ≤ hi) : ∀ k, (bst f k).1 ≤ k ∧ lo ≤ (bst f k).2 ∧ (bst f k).2 ≤ hi
  | 0 => by simp [bst]; omega
  | k + 1 => by
    have ih := bst_rng h0 h k
    have := h k
    unfold bst
    split
    · simp; omega
    · omega
theorem HZ_rng (hwf : WF A B) {lw : Nat} {mem : Nat → Bool} {w : Nat → Nat} {p : Nat} (hp : p < cnt A) : -1000 ≤ HZ A lw mem w p ∧ HZ A lw mem w p ≤ 1000 := by
  have s7 := seat7 A lw mem w p
  exact WZ_rng hwf hp (by unfold gin; omega) s7.1 s7.2
set_option maxHeartbeats 1000000 in
set_option maxRecDepth 100000 in
theorem s_best_loop (d : Nat) (Q : am_Q) {p : Nat} {x2 : Int32} (hwf : WF A B) (hp : p < cnt A) : ∀ (k v : Nat) (σ : Nat → Nat → Int32) (x6 : Value), v + k = 60 - mn A p → IX A B σ → (∀ q, q < cnt A → q ≠ p → σ 22 q = Int32.ofInt (gin A q (A 4 q) : Int)) →
    (∀ σ' : Nat → Nat → Int32, (∀ c, c ≠ 22 → c ≠ 23 → c ≠ 24 → c ≠ 25 → σ' c = σ c) → (∀ i, i ≠ 5 → σ' 23 i = σ 23 i) → (x2 = 0 → Q (some (.int (Int32.ofInt ((bst (fun v => HZ A (A 3 1) (fun _ => true) (upw (A 4) p v) p) (60 - mn A p)).1 : Int)))) (lo_M n w3 g σ' τ r1 r2)) ∧ (¬ x2 = 0 → Q (some (.int (Int32.ofInt (bst (fun v => HZ A (A 3 1) (fun _ => true) (upw (A 4) p v) p) (60 - mn A p)).2))) (lo_M n w3 g σ' τ r1 r2))) →
    am_wp (am_d (d + 4)) T_X9_best Q (33, [.ref 4, .int (Int32.ofInt (p : Int)), .int x2, .int (Int32.ofInt ((bst (fun v => HZ A (A 3 1) (fun _ => true) (upw (A 4) p v) p) v).1 : Int)), .int (Int32.ofInt (bst (fun v => HZ A (A 3 1) (fun _ => true) (upw (A 4) p v) p) v).2), .int (Int32.ofInt (v : Int)), x6], [], 0, 0) (lo_M n w3 g σ τ r1 r2) := by
  have hc := cnt_le A
  have hm := mn_lt hp
  intro k
  induction k with
  | zero =>
    intro v σ x6 hv hx hg h
    have hve : v = 60 - mn A p := by omega
    subst hve
    refine am_wp_go (am_d_cm _) (fun pc => Nat.beq pc 33) 60 ?_
    refine ixi p 7 (by omega) ?_
    refine And.intro (fun c1 => ?_) (fun c1 => absurd ?_ c1)
    · have h := h σ (fun _ _ _ _ _ => rfl) (fun _ _ => rfl)
      exact And.intro (fun c2 => h.1 c2) (fun c2 => h.2 c2)
    · show Int32.ofInt 59 - σ 7 p < Int32.ofInt ((60 - mn A p : Nat) : Int)
      rw [(hx.1.2.2.2.2 p hp).1, zsub, zlt (by unfold zr; omega) (by unfold zr; omega)]
      omega
  | succ k ih =>
    intro v σ x6 hv hx hg h
    refine am_wp_go (am_d_cm _) (fun pc => Nat.beq pc 33) 60 ?_
    refine ixi p 7 (by omega) ?_
    refine And.intro (fun c1 => ?_) (fun c1 => ?_)
    · have c1 : Int32.ofInt 59 - σ 7 p < Int32.ofInt (v : Int) := c1
      rw [(hx.1.2.2.2.2 p hp).1, zsub, zlt (by unfold zr; omega) (by unfold zr; omega)] at c1
      omega
    · refine ixi p 7 (by omega) ?_
      refine ixi p 7 (by omega) ?_
      have hgp : σ 7 p + Int32.ofInt (v : Int) = Int32.ofInt (gin A p v : Int) := by
        rw [(hx.1.2.2.2.2 p hp).1, zadd]
        congr 1
        unfold gin
        omega
      have hP := hx.1
      have hS := hx.2.2.1
      refine s_everybody (d + 3) (σ := am_u σ 22 p (σ 7 p + Int32.ofInt (v : Int))) _ hc hP.2.2.1 ?_
      refine ixi 1 6 (by omega) ?_
      show am_d (d + 4) 1 [.ref 23, .ref 22, .int (Int32.ofInt ((2 ^ cnt A - 1 : Nat) : Int)), .int (σ 12 1)] 0 0 (lo_M n w3 g (am_u σ 22 p (σ 7 p + Int32.ofInt (v : Int))) τ r1 r2) _
      rw [hS 1 (by omega), hgp]
      have h2 : 2 ^ cnt A ≤ 2 ^ 7 := Nat.pow_le_pow_right (by omega) hc
      refine s_fillA (d + 1) _ (mem := fun _ => true) (w := upw (A 4) p v) hwf.2.2.2.1.2.1 (by omega) (fun p hp => bitk_all _ (by omega) p hp) (A := A) hP hS hwf.2.2.2.1.1 (fun q hq => ?_) (fun σ' j1 j2 j3 j4 j5 => ?_)
      · rw [am_u_at]
        by_cases e : q = p
        · subst e
          rw [if_pos rfl]
          unfold upw
          rw [if_pos rfl]
        · rw [if_neg e, hg q hq e]
          unfold upw
          rw [if_neg e]
      · have hx' : IX A B σ' := IX_fr hx (fun c e1 e2 => by
            rw [j1 c (fun q => e2 (by subst q; unfold scr; omega)) (fun q => e2 (by subst q; unfold scr; omega)) (fun q => e2 (by subst q; unfold scr; omega)), am_u_ne (fun q => e2 (by subst q; unfold scr; omega))]) (by rw [j1 4 (by decide) (by decide) (by decide), am_u_ne (by decide)])
        have e22 : σ' 22 p = Int32.ofInt (gin A p v : Int) := by rw [j1 22 (by decide) (by decide) (by decide), am_u_at, if_pos rfl]
        refine ixi p 7 (by omega) ?_
        show am_d (d + 4) 4 [.ref 23, .int (Int32.ofInt (p : Int)), .int (σ' 22 p)] 0 0 _ _
        rw [e22]
        have s7 := seat7 A (A 3 1) (fun _ => true) (upw (A 4) p v) p
        obtain ⟨hP', hR', hS', hL', hW', hF', hU', hH', hl'⟩ := id hx'
        refine s_worthA (d + 1) (L := SL A (A 3 1) (fun _ => true) (upw (A 4) p v)) (st := seatZ (SL A (A 3 1) (fun _ => true) (upw (A 4) p v)) p) _ hwf hp (by unfold gin; omega) hP' hR' hS' hL' (fun q hq => by have := SL_lt q hq; omega) (SL_len _ _ _ _) j3 j4 (j5 p hp) s7.1 s7.2 ?_
        have hHZ : WZ A (SL A (A 3 1) (fun _ => true) (upw (A 4) p v)) (seatZ (SL A (A 3 1) (fun _ => true) (upw (A 4) p v)) p) p (gin A p v) = HZ A (A 3 1) (fun _ => true) (upw (A 4) p v) p := by
          unfold HZ upw
          rw [if_pos rfl]
        rw [hHZ]
        have next : ∀ x6, am_wp (am_d (d + 4)) T_X9_best Q (33, [.ref 4, .int (Int32.ofInt (p : Int)), .int x2, .int (Int32.ofInt ((bst (fun v => HZ A (A 3 1) (fun _ => true) (upw (A 4) p v) p) (v + 1)).1 : Int)), .int (Int32.ofInt (bst (fun v => HZ A (A 3 1) (fun _ => true) (upw (A 4) p v) p) (v + 1)).2), .int (Int32.ofInt (v : Int) + Int32.ofInt 1), x6], [], 0, 0) (lo_M n w3 g σ' τ r1 r2) := by
          intro x6
          rw [zadd, show ((v : Int) + 1) = ((v + 1 : Nat) : Int) by omega]
          refine ih (v + 1) σ' x6 (by omega) hx' (fun q hq e => by rw [j1 22 (by decide) (by decide) (by decide), am_u_at, if_neg e]; exact hg q hq e) (fun σ2 m1 m2 => h σ2 (fun c e1 e2 e3 e4 => by rw [m1 c e1 e2 e3 e4, j1 c e2 e3 e4, am_u_ne e1]) (fun i hi => by rw [m2 i hi, j2 i hi]; rfl))
        have hr1 := HZ_rng (A := A) (B := B) hwf (lw := A 3 1) (mem := fun _ => true) (w := upw (A 4) p v) hp
        have hr2 := bst_rng (f := fun v => HZ A (A 3 1) (fun _ => true) (upw (A 4) p v) p) (lo := -1000) (hi := 1000) (by omega) (fun v => HZ_rng hwf hp) v
        refine And.intro (fun c2 => ?_) (fun c2 => And.intro (fun c3 => ?_) (fun c3 => ?_))
        · rw [zeq0 (by unfold zr; omega)] at c2
          have hb : bst (fun v => HZ A (A 3 1) (fun _ => true) (upw (A 4) p v) p) (v + 1) = (v, HZ A (A 3 1) (fun _ => true) (upw (A 4) p v) p) := by
            show (if _ then _ else _) = _
            rw [if_pos (Or.inl (by omega))]
          rw [hb] at next
          exact next _
        · rw [zeq0 (by unfold zr; omega)] at c2
          rw [zle (by unfold zr; omega) (by unfold zr; omega)] at c3
          have hb : bst (fun v => HZ A (A 3 1) (fun _ => true) (upw (A 4) p v) p) (v + 1) = bst (fun v => HZ A (A 3 1) (fun _ => true) (upw (A 4) p v) p) v := by
            exact bst_keep (by omega) c3
          rw [hb] at next
          exact next _
        · rw [zeq0 (by unfold zr; omega)] at c2
          rw [zle (by unfold zr; omega) (by unfold zr; omega)] at c3
          have hb : bst (fun v => HZ A (A 3 1) (fun _ => true) (upw (A 4) p v) p) (v + 1) = (v, HZ A (A 3 1) (fun _ => true) (upw (A 4) p v) p) := by
            exact bst_take (Or.inr (Int.not_le.mp c3))
          rw [hb] at next
          exact next _
set_option maxRecDepth 100000 in
theorem c_best (d : Nat) (Q : am_Q) {z y : Int} (hz : zr z) (hy : zr y) (hx : IX A B σ) (hwf : WF A B)
    (h : ∀ σ' : Nat → Nat → Int32, (∀ c, c ≠ 22 → c ≠ 23 → c ≠ 24 → c ≠ 25 → σ' c = σ c) → (∀ i, i ≠ 5 → σ' 23 i = σ 23 i) → Q (some (.int (Int32.ofInt (f_best A z y)))) (lo_M n w3 g σ' τ r1 r2)) : am_d (d + 5) 64 [.ref 4, .int (Int32.ofInt z), .int (Int32.ofInt y)] 0 0 (lo_M n w3 g σ τ r1 r2) Q := by
  have hc := cnt_le A
  have bad : ¬ ((0 ≤ z ∧ z < cnt A) ∧ 0 ≤ y ∧ y ≤ 1) → Q (some (.int (Int32.ofInt (-10002)))) (lo_M n w3 g σ τ r1 r2) := by
    intro c
    have h := h σ (fun _ _ _ _ _ => rfl) (fun _ _ => rfl)
    unfold f_best at h
    rw [if_neg c] at h
    exact h
  refine am_goT T_X9_best [.ref 4, .int (Int32.ofInt z), .int (Int32.ofInt y), .null, .null, .null, .null] rfl rfl (fun pc => Nat.beq pc 33) 60 ?_
  refine s_isThere (d + 2) _ hz hc hx.1.2.2.1 ?_
  by_cases c : 0 ≤ z ∧ z < cnt A
  · rw [if_pos c]
    refine And.intro (fun q => absurd q (by decide)) (fun _ => ?_)
    refine s_withinZ (d + 3) hy (by unfold zr; omega) (by unfold zr; omega) _ _ ?_
    by_cases cy : 0 ≤ y ∧ y ≤ 1
    · rw [if_pos cy]
      refine And.intro (fun q => absurd q (by decide)) (fun _ => ?_)
      refine s_gather (d + 2) _ hx.1 hx.2.2.2.2.1 hwf.2.2.2.2.1 (fun σ1 k1 k2 => ?_)
      have hx1 : IX A B σ1 := IX_fr hx (fun c e1 e2 => k1 c (fun q => e2 (by subst q; unfold scr; omega))) (by rw [k1 4 (by decide)])
      have key := s_best_loop (n := n) (w3 := w3) (g := g) (τ := τ) (r1 := r1) (r2 := r2) d Q (p := z.toNat) (x2 := Int32.ofInt y) hwf (by omega) (60 - mn A z.toNat) 0 σ1 .null (by omega) hx1 (fun q hq _ => by rw [k2 q, if_pos hq]) (fun σ' m1 m2 => ?_)
      · rw [show ((z.toNat : Nat) : Int) = z by omega] at key
        exact key
      · have h := h σ' (fun c e1 e2 e3 e4 => by rw [m1 c e1 e2 e3 e4, k1 c e1]) (fun i hi => by rw [m2 i hi, k1 23 (by decide)])
        unfold f_best at h
        rw [if_pos ⟨c, cy⟩] at h
        refine ⟨fun e => ?_, fun e => ?_⟩
        · rw [zeq0 hy] at e
          rw [if_pos e] at h
          exact h
        · rw [zeq0 hy] at e
          rw [if_neg e] at h
          exact h
    · rw [if_neg cy]
      exact And.intro (fun _ => bad (fun q => cy q.2)) (fun q => absurd rfl q)
  · rw [if_neg c]
    exact And.intro (fun _ => bad (fun q => c q.1)) (fun q => absurd rfl q)
end BE
