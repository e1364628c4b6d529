/-! the reference: the best minute; rest -/
theorem bst_lt {f : Nat → Int} : ∀ k, 0 < k → (bst f k).1 < k
  | 0, h => absurd h (by omega)
  | k + 1, _ => by
    unfold bst
    split
    · show k < k + 1
      omega
    · next e =>
      have := bst_lt (f := f) k (by omega)
      omega
theorem bst_max {f : Nat → Int} : ∀ (k j : Nat), j < k → f j ≤ (bst f k).2
  | 0, j, h => absurd h (by omega)
  | k + 1, j, h => by
    unfold bst
    split
    · next e =>
      show f j ≤ f k
      by_cases c : j = k
      · rw [c]
        exact Int.le_refl _
      · have := bst_max (f := f) k j (by omega)
        rcases e with e | e <;> omega
    · next e =>
      by_cases c : j = k
      · subst c
        omega
      · exact bst_max k j (by omega)
theorem bst_flat {f : Nat → Int} {m : Nat} (hm : 0 < m) (h : ∀ v, m ≤ v → f v = f (m - 1)) : ∀ k, bst f (m + k) = bst f m
  | 0 => rfl
  | k + 1 => by
    show bst f (m + k + 1) = _
    have ih := bst_flat hm h k
    rw [bst_keep (by omega) (by rw [h (m + k) (by omega)]; exact bst_max _ _ (by omega)), ih]
theorem SL_gin {A : aN} {lw : Nat} {mem : Nat → Bool} {w w' : Nat → Nat} (h : ∀ q, q < cnt A → gin A q (w q) = gin A q (w' q)) : SL A lw mem w = SL A lw mem w' :=
  fL_congr (cnt A) (fun q hq => ⟨by rw [h q hq], rfl⟩)
theorem HZ_gin {A : aN} {lw : Nat} {mem : Nat → Bool} {w w' : Nat → Nat} {p : Nat} (hp : p < cnt A) (h : ∀ q, q < cnt A → gin A q (w q) = gin A q (w' q)) : HZ A lw mem w p = HZ A lw mem w' p := by
  unfold HZ
  rw [SL_gin h, h p hp]
theorem HZ_w {A : aN} {lw : Nat} {mem : Nat → Bool} {w w' : Nat → Nat} {p : Nat} (hp : p < cnt A) (h : ∀ q, q < cnt A → w q = w' q) : HZ A lw mem w p = HZ A lw mem w' p := HZ_gin hp (fun q hq => by rw [h q hq])
theorem best60 {A : aN} {w : Nat → Nat} {p : Nat} (hp : p < cnt A) : bst (fun v => HZ A (A 3 1) (fun _ => true) (upw w p v) p) 60 = bst (fun v => HZ A (A 3 1) (fun _ => true) (upw w p v) p) (60 - mn A p) := by
  have hm := mn_lt hp
  have := bst_flat (f := fun v => HZ A (A 3 1) (fun _ => true) (upw w p v) p) (m := 60 - mn A p) (by omega) (fun v hv => ?_) (mn A p)
  · rw [show 60 - mn A p + mn A p = 60 by omega] at this
    exact this
  · refine HZ_gin hp (fun q hq => ?_)
    unfold upw
    by_cases e : q = p
    · subst e
      rw [if_pos rfl, if_pos rfl]
      unfold gin
      omega
    · rw [if_neg e, if_neg e]
section RBE
variable {n w3 : Nat} {g : Nat → Nat × Nat} {σ : Nat → Nat → Int32} {τ : Nat → Nat → Int64} {r1 r2 : Nat} {A : aN} {B : aZ}
theorem RB_up {w : Nat → Nat} {p x v : Nat} (h : RB A (upw w p x) σ) : RB A (upw w p v) (am_u σ 64 p (Int32.ofInt (v : Int))) := by
  obtain ⟨⟨p1, p2⟩, hR, hS, hL, hW⟩ := h
  refine ⟨⟨?_, ?_⟩, ?_, ?_, ?_, ?_⟩
  · rw [am_u_ne (by decide)]; exact p1
  · rw [am_u_ne (by decide), am_u_ne (by decide)]; exact p2
  · unfold rR; rw [am_u_ne (by decide)]; exact hR
  · unfold rS; rw [am_u_ne (by decide)]; exact hS
  · unfold rL; rw [am_u_ne (by decide)]; exact hL
  · intro q hq
    have := hW q hq
    rw [am_u_at]
    unfold upw at this ⊢
    by_cases e : q = p
    · rw [if_pos e, if_pos e]
    · rw [if_neg e] at this
      rw [if_neg e, if_neg e]
      exact this
theorem upw_same (w : Nat → Nat) (p : Nat) : upw w p (w p) = w := by
  funext q
  unfold upw
  by_cases e : q = p
  · rw [if_pos e, e]
  · rw [if_neg e]
theorem upw_le {w : Nat → Nat} {p v : Nat} (hw : ∀ p, w p ≤ 59) (hv : v ≤ 59) : ∀ q, upw w p v q ≤ 59 := by
  intro q
  unfold upw
  split
  · exact hv
  · exact hw q
theorem RB_68 {w : Nat → Nat} {σ' : Nat → Nat → Int32} (h : RB A w σ) (k : ∀ c, c ≠ 68 → σ' c = σ c) : RB A w σ' := RB_fr h (by rw [k 56 (by decide)]) (fun c e1 e2 => k c (by omega))
theorem u64 {σ σ' : Nat → Nat → Int32} {p : Nat} (h1 : ∀ q, q ≠ p → σ' 64 q = σ 64 q) (h2 : σ' 64 p = σ 64 p) : σ' 64 = σ 64 := by
  funext q
  by_cases e : q = p
  · rw [e]
    exact h2
  · exact h1 q e
set_option maxHeartbeats 2000000 in
set_option maxRecDepth 100000 in
theorem r_best_loop (d : Nat) (Q : am_Q) {w : Nat → Nat} {p : Nat} {x2 was : Int32} (hwf : WF A B) (hw : ∀ p, w p ≤ 59) (hp : p < cnt A) : ∀ (k v x : Nat) (σ : Nat → Nat → Int32) (u : Value), v + k = 60 → RB A (upw w p x) σ →
    (∀ σ' : Nat → Nat → Int32, (∀ c, c ≠ 64 → c ≠ 68 → σ' c = σ c) → (∀ q, q ≠ p → σ' 64 q = σ 64 q) → σ' 64 p = was → (x2 = 0 → Q (some (.int (Int32.ofInt ((bst (fun v => HZ A (A 3 1) (fun _ => true) (upw w p v) p) 60).1 : Int)))) (lo_M n w3 g σ' τ r1 r2)) ∧ (¬ x2 = 0 → Q (some (.int (Int32.ofInt (bst (fun v => HZ A (A 3 1) (fun _ => true) (upw w p v) p) 60).2))) (lo_M n w3 g σ' τ r1 r2))) →
    am_wp (am_d (d + 6)) T_X10_bestOf Q (16, [.ref 56, .int (Int32.ofInt (p : Int)), .int x2, .int was, .int (Int32.ofInt ((bst (fun v => HZ A (A 3 1) (fun _ => true) (upw w p v) p) v).1 : Int)), .int (Int32.ofInt (bst (fun v => HZ A (A 3 1) (fun _ => true) (upw w p v) p) v).2), .int (Int32.ofInt (v : Int)), u], [], 0, 0) (lo_M n w3 g σ τ r1 r2) := by
  have hc := cnt_le A
  intro k
  induction k with
  | zero =>
    intro v x σ u hv hb h
    have e : v = 60 := by omega
    subst e
    refine am_wp_go (am_d_cm _) (fun pc => Nat.beq pc 16) 60 ?_
    refine And.intro (fun c1 => ?_) (fun c1 => absurd (by decide) c1)
    refine ixi p 7 (by omega) ?_
    have h := h (am_u σ 64 p was) (fun c e1 e2 => am_u_ne e1) (fun q hq => by rw [am_u_at, if_neg hq]) (by rw [am_u_at, if_pos rfl])
    exact And.intro (fun c2 => h.1 c2) (fun c2 => h.2 c2)
  | succ k ih =>
    intro v x σ u hv hb h
    refine am_wp_go (am_d_cm _) (fun pc => Nat.beq pc 16) 60 ?_
    refine And.intro (fun c1 => ?_) (fun c1 => ?_)
    · rw [zle (by unfold zr; omega) (by unfold zr; omega)] at c1
      omega
    refine ixi p 7 (by omega) ?_
    have hb1 := RB_up (v := v) hb
    refine r_hasOf d _ hwf (upw_le hw (by omega)) hb1 hp (fun σ' k1 => ?_)
    have next : ∀ u, am_wp (am_d (d + 6)) T_X10_bestOf Q (16, [.ref 56, .int (Int32.ofInt (p : Int)), .int x2, .int was, .int (Int32.ofInt ((bst (fun v => HZ A (A 3 1) (fun _ => true) (upw w p v) p) (v + 1)).1 : Int)), .int (Int32.ofInt (bst (fun v => HZ A (A 3 1) (fun _ => true) (upw w p v) p) (v + 1)).2), .int (Int32.ofInt (v : Int) + Int32.ofInt 1), u], [], 0, 0) (lo_M n w3 g σ' τ r1 r2) := by
      intro u
      rw [zadd]
      refine ih (v + 1) v σ' u (by omega) (RB_68 hb1 k1) (fun σ2 m1 m2 m3 => h σ2 (fun c e1 e2 => by rw [m1 c e1 e2, k1 c e2, am_u_ne e1]) (fun q hq => by rw [m2 q hq, k1 64 (by decide), am_u_at, if_neg hq]) m3)
    have hr1 := HZ_rng (A := A) (B := B) hwf (lw := A 3 1) (mem := fun _ => true) (w := upw w p v) hp
    have hr2 := bst_rng (f := fun v => HZ A (A 3 1) (fun _ => true) (upw w p v) p) (lo := -1000) (hi := 1000) (by omega) (fun v => HZ_rng hwf hp) v
    refine And.intro (fun c2 => ?_) (fun c2 => And.intro (fun c3 => ?_) (fun c3 => ?_))
    · rw [zeq0 (by unfold zr; omega)] at c2
      rw [bst_take (Or.inl (by omega))] at next
      exact And.intro (fun _ => next _) (fun q => absurd rfl q)
    · rw [zeq0 (by unfold zr; omega)] at c2
      rw [zle (by unfold zr; omega) (by unfold zr; omega)] at c3
      have hlt := bst_lt (f := fun v => HZ A (A 3 1) (fun _ => true) (upw w p v) p) v (by omega)
      rw [bst_keep (by omega) c3] at next
      refine And.intro (fun c4 => ?_) (fun _ => next _)
      rw [zeq (by unfold zr; omega) (by unfold zr; omega)] at c4
      omega
    · rw [zeq0 (by unfold zr; omega)] at c2
      rw [zle (by unfold zr; omega) (by unfold zr; omega)] at c3
      rw [bst_take (Or.inr (Int.not_le.mp c3))] at next
      exact And.intro (fun _ => next _) (fun q => absurd rfl q)
def f_bOf (A : aN) (p : Nat) (y : Int) : Int := if y = 0 then ((bst (fun v => HZ A (A 3 1) (fun _ => true) (upw (A 4) p v) p) (60 - mn A p)).1 : Int) else (bst (fun v => HZ A (A 3 1) (fun _ => true) (upw (A 4) p v) p) (60 - mn A p)).2
set_option maxRecDepth 100000 in
theorem r_bestOf (d : Nat) (Q : am_Q) {p : Nat} {y : Int} (hy : zr y) (hwf : WF A B) (hb : RB A (A 4) σ) (hp : p < cnt A)
    (h : ∀ σ' : Nat → Nat → Int32, (∀ c, c ≠ 68 → σ' c = σ c) → Q (some (.int (Int32.ofInt (f_bOf A p y)))) (lo_M n w3 g σ' τ r1 r2)) :
    am_d (d + 7) 156 [.ref 56, .int (Int32.ofInt (p : Int)), .int (Int32.ofInt y)] 0 0 (lo_M n w3 g σ τ r1 r2) Q := by
  have hc := cnt_le A
  refine am_goT T_X10_bestOf [.ref 56, .int (Int32.ofInt (p : Int)), .int (Int32.ofInt y), .null, .null, .null, .null, .null] rfl rfl (fun pc => Nat.beq pc 16) 60 ?_
  refine ixi p 7 (by omega) ?_
  refine r_best_loop d Q (w := A 4) hwf hwf.2.2.2.2.1 hp 60 0 (A 4 p) σ .null (by omega) (by rw [upw_same]; exact hb) (fun σ' k1 k2 k3 => ?_)
  have e64 := u64 k2 k3
  have h := h σ' (fun c e => by
    by_cases c2 : c = 64
    · rw [c2, e64]
    · exact k1 c c2 e)
  unfold f_bOf at h
  rw [best60 hp]
  refine ⟨fun e => ?_, fun e => ?_⟩
  · rw [zeq0 hy] at e
    rw [if_pos e] at h
    exact h
  · rw [zeq0 hy] at e
    rw [if_neg e] at h
    exact h
set_option maxRecDepth 100000 in
theorem q_best (d : Nat) (Q : am_Q) {z y : Int} (hz : zr z) (hy : zr y) (hm : IM A B σ) (hwf : WF A B) (h : ∀ σ', QF σ σ' → Q (some (.int (Int32.ofInt (f_best A z y)))) (lo_M n w3 g σ' τ r1 r2)) : am_d (d + 8) 157 [.ref 56, .int (Int32.ofInt z), .int (Int32.ofInt y)] 0 0 (lo_M n w3 g σ τ r1 r2) Q := by
  refine am_goT T_X10_best [.ref 56, .int (Int32.ofInt z), .int (Int32.ofInt y)] rfl rfl (fun _ => false) 60 ?_
  refine r_isPerson (d + 2) _ hz hwf hm.1 (fun σ' k1 k2 k3 => ?_)
  have h0 := h σ' (QF_rd k1 k2)
  unfold f_best at h h0
  by_cases c : 0 ≤ z ∧ z < cnt A
  · rw [if_pos c]
    refine And.intro (fun q => absurd q (by decide)) (fun _ => ?_)
    refine r_isTwo (d + 5) hy _ _ ?_
    by_cases c2 : 0 ≤ y ∧ y ≤ 1
    · rw [if_pos ⟨c, c2⟩] at h
      rw [if_pos c2]
      refine And.intro (fun q => absurd q (by decide)) (fun _ => ?_)
      obtain ⟨p, rfl⟩ := Int.eq_ofNat_of_zero_le c.1
      exact r_bestOf d _ hy hwf (RB_rd hm k1 k3) (by omega) (fun σ2 m1 => h σ2 (QF_r68 k1 k2 m1))
    · rw [if_neg (fun q => c2 q.2)] at h0
      rw [if_neg c2]
      exact And.intro (fun _ => h0) (fun q => absurd rfl q)
  · rw [if_neg (fun q => c q.1)] at h0
    rw [if_neg c]
    exact And.intro (fun _ => h0) (fun q => absurd rfl q)
end RBE
