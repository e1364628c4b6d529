/-! the reference: the next order -/
theorem sw_b {o : Nat → Nat} {a b i : Nat} : sw o a b i = if i = b then o a else if i = a then o b else o i := by
  unfold sw
  by_cases e : i = b
  · rw [if_pos e, show Nat.beq i b = true from Nat.beq_eq.mpr e]
    rfl
  · have h1 : Nat.beq i b = false := by
      cases h : Nat.beq i b with
      | true => exact absurd (Nat.beq_eq.mp h) e
      | false => rfl
    rw [if_neg e, h1]
    by_cases e2 : i = a
    · rw [if_pos e2, show Nat.beq i a = true from Nat.beq_eq.mpr e2]
      rfl
    · have h2 : Nat.beq i a = false := by
        cases h : Nat.beq i a with
        | true => exact absurd (Nat.beq_eq.mp h) e2
        | false => rfl
      rw [if_neg e2, h2]
      rfl
theorem blt_t {a b : Nat} (h : a < b) : Nat.blt a b = true := Nat.ble_eq.mpr h
theorem blt_f {a b : Nat} (h : ¬ a < b) : Nat.blt a b = false := by
  cases e : Nat.blt a b with
  | true => exact absurd (Nat.ble_eq.mp e) h
  | false => rfl
theorem pk_s {o : Nat → Nat} {k : Nat} : pk o (k + 1) = if o (k + 1) < o k then pk o k else some k := by
  show cond _ _ _ = _
  by_cases c : o (k + 1) < o k
  · rw [blt_t c, if_pos c]
    rfl
  · rw [blt_f c, if_neg c]
    rfl
theorem pj_s {o : Nat → Nat} {x j : Nat} : pj o x (j + 1) = if o (j + 1) < x then pj o x j else j + 1 := by
  show cond _ _ _ = _
  by_cases c : o (j + 1) < x
  · rw [blt_t c, if_pos c]
    rfl
  · rw [blt_f c, if_neg c]
    rfl
theorem rv_s {f : Nat} {o : Nat → Nat} {a b : Nat} : rv (f + 1) o a b = if a < b then rv f (sw o a b) (a + 1) (b - 1) else o := by
  show cond _ _ _ = _
  by_cases c : a < b
  · rw [blt_t c, if_pos c]
    rfl
  · rw [blt_f c, if_neg c]
    rfl
theorem pk_some {o : Nat → Nat} : ∀ {kk k : Nat}, pk o kk = some k → k < kk ∧ ¬ o (k + 1) < o k
  | 0, k, h => absurd (show (none : Option Nat) = some k from h) (by simp)
  | kk + 1, k, h => by
    rw [pk_s] at h
    split at h
    · have := pk_some h
      exact ⟨by omega, this.2⟩
    · next c =>
      have e := Option.some.inj h
      subst e
      exact ⟨by omega, c⟩
/-- the reference's order -/
def hor (σ : Nat → Nat → Int32) (N : Nat) (o : Nat → Nat) : Prop := ∀ k, k < N → σ 71 k = Int32.ofInt (o k : Int) ∧ o k < 7
theorem hor_sw {σ : Nat → Nat → Int32} {N : Nat} {o : Nat → Nat} {a b : Nat} (h : hor σ N o) (ha : a < N) (hb : b < N) : hor (am_u (am_u σ 71 a (σ 71 b)) 71 b (σ 71 a)) N (sw o a b) := by
  intro k hk
  rw [am_u_at, am_u_at, sw_b]
  by_cases e : k = b
  · rw [if_pos e, if_pos e]
    exact h a ha
  · rw [if_neg e, if_neg e]
    by_cases e2 : k = a
    · rw [if_pos e2, if_pos e2]
      exact h b hb
    · rw [if_neg e2, if_neg e2]
      exact h k hk
section RGO
variable {n w3 : Nat} {g : Nat → Nat × Nat} {σ : Nat → Nat → Int32} {τ : Nat → Nat → Int64} {r1 r2 : Nat} {A : aN} {B : aZ}
set_option maxRecDepth 100000 in
theorem r_swaps (d : Nat) (Q : am_Q) {a b : Nat} (ha : a < 7) (hb : b < 7) (h : Q none (lo_M n w3 g (am_u (am_u σ 71 a (σ 71 b)) 71 b (σ 71 a)) τ r1 r2)) : am_d (d + 1) 174 [.ref 56, .int (Int32.ofInt (a : Int)), .int (Int32.ofInt (b : Int))] 0 0 (lo_M n w3 g σ τ r1 r2) Q := by
  refine am_goT T_X10_swaps [.ref 56, .int (Int32.ofInt (a : Int)), .int (Int32.ofInt (b : Int)), .null] rfl rfl (fun _ => false) 60 ?_
  refine ixi a 7 ha ?_
  refine ixi b 7 hb ?_
  refine ixi a 7 ha ?_
  refine ixi b 7 hb ?_
  exact h
set_option maxRecDepth 100000 in
theorem r_go_k (d : Nat) (Q : am_Q) {N : Nat} {o : Nat → Nat} {u2 u3 u4 : Value} (hN : N ≤ 7) (ho : hor σ N o) : ∀ kk, kk < N →
    (pk o kk = none → am_wp (am_d d) T_X10_goesOn Q (34, [.ref 56, .int (Int32.ofInt (-1)), u2, u3, u4], [], 0, 0) (lo_M n w3 g σ τ r1 r2)) →
    (∀ k, pk o kk = some k → am_wp (am_d d) T_X10_goesOn Q (34, [.ref 56, .int (Int32.ofInt (k : Int)), u2, u3, u4], [], 0, 0) (lo_M n w3 g σ τ r1 r2)) →
    am_wp (am_d d) T_X10_goesOn Q (7, [.ref 56, .int (Int32.ofInt ((kk : Int) - 1)), u2, u3, u4], [], 0, 0) (lo_M n w3 g σ τ r1 r2) := by
  intro kk
  induction kk with
  | zero =>
    intro hk h0 h1
    refine am_wp_go (am_d_cm _) (fun pc => Nat.beq pc 7 || Nat.beq pc 34) 60 ?_
    exact And.intro (fun c1 => h0 rfl) (fun c1 => absurd (by decide) c1)
  | succ kk ih =>
    intro hk h0 h1
    obtain ⟨a1, a2⟩ := ho kk (by omega)
    obtain ⟨b1, b2⟩ := ho (kk + 1) (by omega)
    rw [show ((kk + 1 : Nat) : Int) - 1 = (kk : Int) by omega]
    refine am_wp_go (am_d_cm _) (fun pc => Nat.beq pc 7 || Nat.beq pc 34) 60 ?_
    refine And.intro (fun c1 => ?_) (fun c1 => ?_)
    · rw [zlt0 (by unfold zr; omega)] at c1
      omega
    refine ixi kk 7 (by omega) ?_
    refine ixi (kk + 1) 7 (by omega) ?_ (by rw [zadd]; congr 1)
    refine And.intro (fun c2 => ?_) (fun c2 => ?_)
    · have c2 : σ 71 kk ≤ σ 71 (kk + 1) := c2
      rw [a1, b1, zle (by unfold zr; omega) (by unfold zr; omega)] at c2
      exact h1 kk (by rw [pk_s, if_neg (by omega)])
    · have c2 : ¬ σ 71 kk ≤ σ 71 (kk + 1) := c2
      rw [a1, b1, zle (by unfold zr; omega) (by unfold zr; omega)] at c2
      have e : pk o (kk + 1) = pk o kk := by rw [pk_s, if_pos (by omega)]
      rw [e] at h0 h1
      have key := ih (by omega) h0 h1
      rw [show (kk : Int) - 1 = (kk : Int) + (-1) by omega, ← zadd] at key
      exact key
set_option maxRecDepth 100000 in
theorem r_go_j (d : Nat) (Q : am_Q) {N k : Nat} {o : Nat → Nat} {u3 u4 : Value} (hN : N ≤ 7) (ho : hor σ N o) (hkk : ¬ o (k + 1) < o k) : ∀ j, k + 1 ≤ j → j < N →
    (k + 1 ≤ pj o (o k) j → pj o (o k) j < N → am_wp (am_d d) T_X10_goesOn Q (68, [.ref 56, .int (Int32.ofInt (k : Int)), .int (Int32.ofInt (pj o (o k) j : Int)), u3, u4], [], 0, 0) (lo_M n w3 g σ τ r1 r2)) →
    am_wp (am_d d) T_X10_goesOn Q (47, [.ref 56, .int (Int32.ofInt (k : Int)), .int (Int32.ofInt (j : Int)), u3, u4], [], 0, 0) (lo_M n w3 g σ τ r1 r2) := by
  intro j
  induction j with
  | zero =>
    intro h1
    omega
  | succ j ih =>
    intro h1 h2 H
    obtain ⟨a1, a2⟩ := ho k (by omega)
    obtain ⟨b1, b2⟩ := ho (j + 1) (by omega)
    refine am_wp_go (am_d_cm _) (fun pc => Nat.beq pc 47 || Nat.beq pc 68) 60 ?_
    refine ixi (j + 1) 7 (by omega) ?_
    refine ixi k 7 (by omega) ?_
    refine And.intro (fun c2 => ?_) (fun c2 => ?_)
    · have c2 : σ 71 k ≤ σ 71 (j + 1) := c2
      rw [a1, b1, zle (by unfold zr; omega) (by unfold zr; omega)] at c2
      have e : pj o (o k) (j + 1) = j + 1 := by rw [pj_s, if_neg (by omega)]
      rw [e] at H
      exact H h1 h2
    · have c2 : ¬ σ 71 k ≤ σ 71 (j + 1) := c2
      rw [a1, b1, zle (by unfold zr; omega) (by unfold zr; omega)] at c2
      have e : pj o (o k) (j + 1) = pj o (o k) j := by rw [pj_s, if_pos (by omega)]
      rw [e] at H
      have hne : j ≠ k := fun q => by subst q; omega
      have key := ih (by omega) (by omega) H
      rw [show (j : Int) = ((j + 1 : Nat) : Int) + (-1) by omega, ← zadd] at key
      exact key
set_option maxHeartbeats 1000000 in
set_option maxRecDepth 100000 in
theorem r_go_r (d : Nat) (Q : am_Q) {N : Nat} {x1 x2 : Int32} (hN : N ≤ 7) : ∀ (f a b : Nat) (o : Nat → Nat) (σ : Nat → Nat → Int32), hor σ N o → a ≤ 20 → b < N → b < a + f →
    (∀ σ' : Nat → Nat → Int32, (∀ c, c ≠ 71 → σ' c = σ c) → hor σ' N (rv f o a b) → Q (some (.int 1)) (lo_M n w3 g σ' τ r1 r2)) →
    am_wp (am_d (d + 1)) T_X10_goesOn Q (86, [.ref 56, .int x1, .int x2, .int (Int32.ofInt (a : Int)), .int (Int32.ofInt (b : Int))], [], 0, 0) (lo_M n w3 g σ τ r1 r2) := by
  intro f
  induction f with
  | zero =>
    intro a b o σ ho ha hb hf h
    refine am_wp_go (am_d_cm _) (fun pc => Nat.beq pc 86) 60 ?_
    refine And.intro (fun c1 => ?_) (fun c1 => ?_)
    · exact And.intro (Or.inr rfl) (h σ (fun _ _ => rfl) ho)
    · rw [zle (by unfold zr; omega) (by unfold zr; omega)] at c1
      omega
  | succ f ih =>
    intro a b o σ ho ha hb hf h
    rw [rv_s] at h
    refine am_wp_go (am_d_cm _) (fun pc => Nat.beq pc 86) 60 ?_
    refine And.intro (fun c1 => ?_) (fun c1 => ?_)
    · rw [zle (by unfold zr; omega) (by unfold zr; omega)] at c1
      rw [if_neg (by omega)] at h
      exact And.intro (Or.inr rfl) (h σ (fun _ _ => rfl) ho)
    · rw [zle (by unfold zr; omega) (by unfold zr; omega)] at c1
      rw [if_pos (by omega)] at h
      refine r_swaps d _ (by omega) (by omega) ?_
      show am_wp _ _ _ (86, [.ref 56, .int x1, .int x2, .int (Int32.ofInt (a : Int) + Int32.ofInt 1), .int (Int32.ofInt (b : Int) + Int32.ofInt (-1))], [], 0, 0) (lo_M n w3 g (am_u (am_u σ 71 a (σ 71 b)) 71 b (σ 71 a)) τ r1 r2)
      rw [zadd, zadd, show (b : Int) + (-1) = ((b - 1 : Nat) : Int) by omega]
      exact ih (a + 1) (b - 1) _ _ (hor_sw ho (by omega) hb) (by omega) (by omega) (by omega) (fun σ' k1 k2 => h σ' (fun c e => by rw [k1 c e, am_u_ne e, am_u_ne e]) k2)
set_option maxHeartbeats 1000000 in
set_option maxRecDepth 100000 in
theorem r_goesOn (d : Nat) (Q : am_Q) {N : Nat} {o : Nat → Nat} (hN : N ≤ 7) (hn : σ 56 8 = Int32.ofInt (N : Int)) (ho : hor σ N o)
    (h0 : pk o (N - 1) = none → Q (some (.int 0)) (lo_M n w3 g σ τ r1 r2))
    (h1 : ∀ k, pk o (N - 1) = some k → ∀ σ' : Nat → Nat → Int32, (∀ c, c ≠ 71 → σ' c = σ c) → hor σ' N (nxO N o k) → Q (some (.int 1)) (lo_M n w3 g σ' τ r1 r2)) : am_d (d + 2) 173 [.ref 56] 0 0 (lo_M n w3 g σ τ r1 r2) Q := by
  refine am_goT T_X10_goesOn [.ref 56, .null, .null, .null, .null] rfl rfl (fun pc => Nat.beq pc 7) 60 ?_
  show am_wp _ _ _ (7, [.ref 56, .int (σ 56 8 - Int32.ofInt 2), .null, .null, .null], [], 0, 0) (lo_M n w3 g σ τ r1 r2)
  rw [hn, zsub]
  by_cases z : N = 0
  · subst z
    refine am_wp_go (am_d_cm _) (fun pc => Nat.beq pc 7) 60 ?_
    refine And.intro (fun c1 => ?_) (fun c1 => absurd (by decide) c1)
    refine And.intro (fun q => absurd q (by decide)) (fun _ => ?_)
    exact And.intro (Or.inl rfl) (h0 rfl)
  rw [show (N : Int) - 2 = ((N - 1 : Nat) : Int) - 1 by omega]
  refine r_go_k (d + 1) Q hN ho (N - 1) (by omega) (fun e => ?_) (fun k e => ?_)
  · refine am_wp_go (am_d_cm _) (fun pc => Nat.beq pc 7) 60 ?_
    refine And.intro (fun q => absurd q (by decide)) (fun _ => ?_)
    exact And.intro (Or.inl rfl) (h0 e)
  · obtain ⟨k1, k2⟩ := pk_some e
    refine am_wp_go (am_d_cm _) (fun pc => Nat.beq pc 47) 60 ?_
    refine And.intro (fun c1 => ?_) (fun c1 => ?_)
    · show am_wp _ _ _ (47, [.ref 56, .int (Int32.ofInt (k : Int)), .int (σ 56 8 - Int32.ofInt 1), .null, .null], [], 0, 0) (lo_M n w3 g σ τ r1 r2)
      rw [hn, zsub, show (N : Int) - 1 = ((N - 1 : Nat) : Int) by omega]
      refine r_go_j (d + 1) Q hN ho k2 (N - 1) (by omega) (by omega) (fun j1 j2 => ?_)
      refine am_wp_go (am_d_cm _) (fun pc => Nat.beq pc 86) 60 ?_
      refine r_swaps d _ (by omega) (by omega) ?_
      show am_wp _ _ _ (86, [.ref 56, .int (Int32.ofInt (k : Int)), .int (Int32.ofInt (pj o (o k) (N - 1) : Int)), .int (Int32.ofInt (k : Int) + Int32.ofInt 1), .int (σ 56 8 - Int32.ofInt 1)], [], 0, 0) (lo_M n w3 g (am_u (am_u σ 71 k (σ 71 (pj o (o k) (N - 1)))) 71 (pj o (o k) (N - 1)) (σ 71 k)) τ r1 r2)
      rw [hn, zsub, zadd, show (N : Int) - 1 = ((N - 1 : Nat) : Int) by omega]
      exact r_go_r d Q hN N (k + 1) (N - 1) _ _ (hor_sw ho (by omega) j2) (by omega) (by omega) (by omega) (fun σ' m1 m2 => h1 k e σ' (fun c e => by rw [m1 c e, am_u_ne e, am_u_ne e]) m2)
    · rw [z0le (by unfold zr; omega)] at c1
      omega
/-- the i-th order stands -/
def hoU (σ : Nat → Nat → Int32) (N i : Nat) : Prop := hor σ N (fun k => (unr N N 0 i).getD k 0)
theorem r_goesU (d : Nat) (Q : am_Q) {N i : Nat} (hN : N ≤ 7) (hi : i < fac N) (hn : σ 56 8 = Int32.ofInt (N : Int)) (ho : hoU σ N i)
    (h0 : i + 1 = fac N → Q (some (.int 0)) (lo_M n w3 g σ τ r1 r2))
    (h1 : i + 1 < fac N → ∀ σ' : Nat → Nat → Int32, (∀ c, c ≠ 71 → σ' c = σ c) → hoU σ' N (i + 1) → Q (some (.int 1)) (lo_M n w3 g σ' τ r1 r2)) : am_d (d + 2) 173 [.ref 56] 0 0 (lo_M n w3 g σ τ r1 r2) Q := by
  have ck := chkA hN hi
  unfold chkN at ck
  refine r_goesOn d Q hN hn ho (fun e => ?_) (fun k e σ' k1 k2 => ?_)
  · rw [e] at ck
    exact h0 (Nat.beq_eq.mp ck)
  · rw [e] at ck
    have ck : (Nat.blt (i + 1) (fac N) && eqL ((List.range N).map (nxO N (fun k => (unr N N 0 i).getD k 0) k)) (unr N N 0 (i + 1))) = true := ck
    rw [Bool.and_eq_true] at ck
    refine h1 (Nat.ble_eq.mp ck.1) σ' k1 (fun j hj => ?_)
    have := eqL_eq _ _ ck.2
    show σ' 71 j = Int32.ofInt (((unr N N 0 (i + 1)).getD j 0 : Nat) : Int) ∧ (unr N N 0 (i + 1)).getD j 0 < 7
    rw [← this, List.getD_eq_getElem?_getD, List.getElem?_map, List.getElem?_range hj]
    exact k2 j hj
end RGO
