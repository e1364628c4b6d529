/-! the reference: two churches -/
theorem xorC : ∀ way : Nat, way < 128 → ∀ p : Nat, p < 7 → Int32.ofInt (way : Int) ^^^ (Int32.ofInt 1 <<< (Int32.ofInt (p : Int) &&& 31)) = Int32.ofInt ((way ^^^ 2 ^ p : Nat) : Int) := by decide +kernel
theorem insX : ∀ way : Nat, way < 128 → ∀ p : Nat, p < 7 → (ins 1 p way 0 = way ∧ ins 1 p way 1 = way ^^^ 2 ^ p) ∨ (ins 1 p way 0 = way ^^^ 2 ^ p ∧ ins 1 p way 1 = way) := by decide +kernel
theorem chc_bit (p way : Nat) : chc 1 p way = 0 ↔ ¬ bitk way p = true := by
  unfold chc bitk
  have := Nat.mod_lt (way / 2 ^ p) (show 0 < 2 by omega)
  rw [Nat.beq_eq]
  omega
theorem wlvC (A : aN) {way p : Nat} (hw : way < 128) (hp : p < 7) : wlv (Wc A) 1 p way p 2 0 = decide (Wc A way p < Wc A (way ^^^ 2 ^ p) p) := by
  show (if Wc A way p < Wc A (ins 1 p way 0) p then true else if Wc A way p < Wc A (ins 1 p way 1) p then true else false) = _
  rcases insX way hw p hp with ⟨e1, e2⟩ | ⟨e1, e2⟩
  · rw [e1, e2, if_neg (by omega)]
    by_cases c : Wc A way p < Wc A (way ^^^ 2 ^ p) p
    · rw [if_pos c, decide_eq_true c]
    · rw [if_neg c, decide_eq_false c]
  · rw [e1, e2]
    by_cases c : Wc A way p < Wc A (way ^^^ 2 ^ p) p
    · rw [if_pos c, decide_eq_true c]
    · rw [if_neg c, if_neg (by omega), decide_eq_false c]
theorem HZ_mem {A : aN} {lw : Nat} {mem mem' : Nat → Bool} {w : Nat → Nat} {p : Nat} (h : ∀ q, q < cnt A → mem q = mem' q) : HZ A lw mem w p = HZ A lw mem' w p := by
  have e : SL A lw mem w = SL A lw mem' w := fL_congr (cnt A) (fun q hq => ⟨rfl, h q hq⟩)
  unfold HZ
  rw [e]
theorem Wc_rng {A : aN} {B : aZ} (hwf : WF A B) {way p : Nat} (hp : p < cnt A) : -1000 ≤ Wc A way p ∧ Wc A way p ≤ 1000 := by
  unfold Wc
  split
  · exact HZ_rng hwf hp
  · exact HZ_rng hwf hp
def lvC (A : aN) (way p : Nat) : Bool := decide (Wc A way p < Wc A (way ^^^ 2 ^ p) p)
def chB (A : aN) (way : Nat) : Bool := ist (Wc A) 1 (fun p => p) way (cnt A) 0
theorem chS2_eq (A : aN) : chS2 A = stl (chB A) (2 ^ cnt A) 0 (0, -1) := rfl
theorem chB_all (A : aN) {way : Nat} (hw : way < 128) : chB A way = allN (lvC A way) (cnt A) 0 := ist_allN (cnt A) 0 (fun q _ hq => wlvC A hw (by have := cnt_le A; omega))
theorem pow_le7 {N : Nat} (h : N ≤ 7) : 2 ^ N ≤ 128 := by
  have : 2 ^ N ≤ 2 ^ 7 := Nat.pow_le_pow_right (by omega) h
  exact this
section RCU
variable {n w3 : Nat} {g : Nat → Nat × Nat} {σ : Nat → Nat → Int32} {τ : Nat → Nat → Int64} {r1 r2 : Nat} {A : aN} {B : aZ}
set_option maxHeartbeats 1000000 in
set_option maxRecDepth 100000 in
theorem r_hasIn (d : Nat) (Q : am_Q) {p way : Nat} (hwf : WF A B) (hb : RB A (A 4) σ) (hp : p < cnt A) (hway : way < 2 ^ cnt A)
    (h : ∀ σ' : Nat → Nat → Int32, (∀ c, c ≠ 68 → σ' c = σ c) → Q (some (.int (Int32.ofInt (Wc A way p)))) (lo_M n w3 g σ' τ r1 r2)) : am_d (d + 5) 166 [.ref 56, .int (Int32.ofInt (p : Int)), .int (Int32.ofInt (way : Int))] 0 0 (lo_M n w3 g σ τ r1 r2) Q := by
  have hc := cnt_le A
  have h128 := pow_le7 hc
  have bv := bitv7 way (by omega) p (by omega)
  refine am_goT T_X10_hasIn [.ref 56, .int (Int32.ofInt (p : Int)), .int (Int32.ofInt (way : Int)), .null, .null] rfl rfl (fun _ => false) 60 ?_
  unfold Wc at h
  by_cases c : bitk way p = true
  · rw [if_pos c] at bv
    rw [if_neg (fun q => (chc_bit p way).mp q c)] at h
    refine And.intro (fun _ => ?_) (fun q => absurd bv q)
    show am_d (d + 4) 145 [.ref 56, .int (Int32.ofInt (way : Int)), .int ((Int32.ofInt (way : Int) >>> (Int32.ofInt (p : Int) &&& 31)) &&& Int32.ofInt 1)] 0 0 _ _
    rw [bv]
    refine r_findSeats d _ (lw := 1) hwf.2.2.2.2.1 hwf.2.2.2.1.1 (by omega) (by omega) hb (fun σ1 k1 k2 => ?_)
    refine r_hasNow d _ (st := seatZ (SL A 1 (bitk way) (A 4))) hwf hwf.2.2.2.2.1 (RB_68 hb k1) (by omega) hp c (fun q hq hm => ⟨k2 q hq hm, seat6 A _ _ _ q⟩) ?_
    rw [← HZ_WRn hwf]
    exact h σ1 k1
  · rw [if_neg c] at bv
    rw [if_pos ((chc_bit p way).mpr c)] at h
    refine And.intro (fun q => ?_) (fun _ => ?_)
    · have q : (Int32.ofInt (way : Int) >>> (Int32.ofInt (p : Int) &&& 31)) &&& Int32.ofInt 1 = Int32.ofInt 1 := q
      rw [bv] at q
      exact absurd q (by decide)
    refine r_whole (d + 3) _ hc hb.1.1 ?_
    have em := mskC (cnt A) (by omega) way (by omega) hway
    have mm := fun q hq => memC (cnt A) (by omega) way (by omega) q hq hway
    have e128 : 2 ^ cnt A - 1 - way < 128 := by omega
    show am_d (d + 4) 145 [.ref 56, .int (Int32.ofInt ((2 ^ cnt A - 1 : Nat) : Int) &&& (Int32.ofInt (way : Int) ^^^ Int32.ofInt (-1))), .int ((Int32.ofInt (way : Int) >>> (Int32.ofInt (p : Int) &&& 31)) &&& Int32.ofInt 1)] 0 0 _ _
    rw [bv, em]
    refine r_findSeats d _ (lw := 0) hwf.2.2.2.2.1 hwf.2.2.2.1.1 e128 (by omega) hb (fun σ1 k1 k2 => ?_)
    have hmp : bitk (2 ^ cnt A - 1 - way) p = true := by
      rw [mm p hp]
      cases e : bitk way p with
      | true => exact absurd e c
      | false => rfl
    refine r_hasNow d _ (st := seatZ (SL A 0 (bitk (2 ^ cnt A - 1 - way)) (A 4))) hwf hwf.2.2.2.2.1 (RB_68 hb k1) e128 hp hmp (fun q hq hm => ⟨k2 q hq hm, seat6 A _ _ _ q⟩) ?_
    rw [← HZ_WRn hwf, HZ_mem (mem' := fun q => !bitk way q) (fun q hq => mm q hq)]
    exact h σ1 k1
set_option maxHeartbeats 2000000 in
set_option maxRecDepth 100000 in
theorem r_cu_in (d : Nat) (Q : am_Q) {way : Nat} {x1 x2 x3 : Int32} (hwf : WF A B) (hway : way < 2 ^ cnt A) : ∀ (k p : Nat) (b : Bool) (σ : Nat → Nat → Int32), p + k = cnt A → RB A (A 4) σ →
    (∀ σ' : Nat → Nat → Int32, (∀ c, c ≠ 68 → σ' c = σ c) → am_wp (am_d (d + 5)) T_X10_churchesOf Q (73, [.ref 56, .int x1, .int x2, .int x3, .int (Int32.ofInt (way : Int)), .int (if (b && allN (lvC A way) k p) = true then Int32.ofInt 1 else Int32.ofInt 0), .int (Int32.ofInt (cnt A : Int))], [], 0, 0) (lo_M n w3 g σ' τ r1 r2)) →
    am_wp (am_d (d + 5)) T_X10_churchesOf Q (22, [.ref 56, .int x1, .int x2, .int x3, .int (Int32.ofInt (way : Int)), .int (if b = true then Int32.ofInt 1 else Int32.ofInt 0), .int (Int32.ofInt (p : Int))], [], 0, 0) (lo_M n w3 g σ τ r1 r2) := by
  have hc := cnt_le A
  have h128 := pow_le7 hc
  intro k
  induction k with
  | zero =>
    intro p b σ hk hb h
    have e : p = cnt A := by omega
    subst e
    have h := h σ (fun _ _ => rfl)
    rw [show (b && allN (lvC A way) 0 (cnt A)) = b by cases b <;> rfl] at h
    refine am_wp_go (am_d_cm _) (fun pc => Nat.beq pc 22 || Nat.beq pc 65 || Nat.beq pc 73) 60 ?_
    refine And.intro (fun c1 => h) (fun c1 => absurd ?_ c1)
    show σ 56 8 ≤ _
    rw [hb.1.1]
    exact Int32.le_refl _
  | succ k ih =>
    intro p b σ hk hb h
    have hp : p < cnt A := by omega
    have fin : ∀ (b' : Bool) (v : Int) (σ1 : Nat → Nat → Int32) (y : Int32), (∀ c, c ≠ 68 → σ1 c = σ c) → Int32.ofInt v = (if b' = true then Int32.ofInt 1 else Int32.ofInt 0) → (b' && allN (lvC A way) k (p + 1)) = (b && allN (lvC A way) (k + 1) p) → am_wp (am_d (d + 5)) T_X10_churchesOf Q (65, [.ref 56, .int x1, .int x2, .int x3, .int (Int32.ofInt (way : Int)), .int y, .int (Int32.ofInt (p : Int))], [.int (Int32.ofInt v)], 0, 0) (lo_M n w3 g σ1 τ r1 r2) := by
      intro b' v σ1 y j1 hv hbb
      refine am_wp_go (am_d_cm _) (fun pc => Nat.beq pc 22 || Nat.beq pc 65 || Nat.beq pc 73) 60 ?_
      show am_wp _ _ _ (22, [.ref 56, .int x1, .int x2, .int x3, .int (Int32.ofInt (way : Int)), .int (Int32.ofInt v), .int (Int32.ofInt (p : Int) + Int32.ofInt 1)], [], 0, 0) (lo_M n w3 g σ1 τ r1 r2)
      rw [zadd, hv]
      refine ih (p + 1) b' σ1 (by omega) (RB_68 hb j1) (fun σ2 m1 => ?_)
      rw [hbb]
      exact h σ2 (fun c e => by rw [m1 c e, j1 c e])
    refine am_wp_go (am_d_cm _) (fun pc => Nat.beq pc 22 || Nat.beq pc 65 || Nat.beq pc 73) 60 ?_
    refine And.intro (fun c1 => ?_) (fun c1 => ?_)
    · have c1 : σ 56 8 ≤ Int32.ofInt (p : Int) := c1
      rw [hb.1.1, zle (by unfold zr; omega) (by unfold zr; omega)] at c1
      omega
    cases b with
    | false =>
      refine And.intro (fun _ => ?_) (fun q => absurd rfl q)
      exact fin false 0 σ _ (fun _ _ => rfl) rfl rfl
    | true =>
      refine And.intro (fun q => absurd q (by decide)) (fun _ => ?_)
      have hx : way ^^^ 2 ^ p < 2 ^ cnt A := Nat.xor_lt_two_pow hway (Nat.pow_lt_pow_right (by omega) hp)
      show am_d (d + 5) 166 [.ref 56, .int (Int32.ofInt (p : Int)), .int (Int32.ofInt (way : Int) ^^^ (Int32.ofInt 1 <<< (Int32.ofInt (p : Int) &&& 31)))] 0 0 _ _
      rw [xorC way (by omega) p (by omega)]
      refine r_hasIn d _ hwf hb hp hx (fun σ1 k1 => ?_)
      refine r_hasIn d _ hwf (RB_68 hb k1) hp hway (fun σ2 k2 => ?_)
      have ra := Wc_rng (A := A) (B := B) hwf (way := way) hp
      have rb := Wc_rng (A := A) (B := B) hwf (way := way ^^^ 2 ^ p) hp
      have fr : ∀ c, c ≠ 68 → σ2 c = σ c := fun c e => by rw [k2 c e, k1 c e]
      refine And.intro (fun c2 => ?_) (fun c2 => ?_)
      · rw [zlt (by unfold zr; omega) (by unfold zr; omega)] at c2
        refine fin false 0 σ2 _ fr rfl ?_
        show false = (if lvC A way p = true then false else allN (lvC A way) k (p + 1))
        rw [if_pos (show lvC A way p = true from decide_eq_true c2)]
      · rw [zlt (by unfold zr; omega) (by unfold zr; omega)] at c2
        refine fin true 1 σ2 _ fr rfl ?_
        show allN (lvC A way) k (p + 1) = (if lvC A way p = true then false else allN (lvC A way) k (p + 1))
        rw [if_neg (fun q : lvC A way p = true => c2 (of_decide_eq_true q))]
set_option maxHeartbeats 2000000 in
set_option maxRecDepth 100000 in
theorem r_cu_loop (d : Nat) (Q : am_Q) {x1 : Int32} (hwf : WF A B) : ∀ (k way : Nat) (x : Nat × Int) (σ : Nat → Nat → Int32) (u5 u6 : Value), way + k = 2 ^ cnt A → RB A (A 4) σ → (x.1 = 0 ↔ x.2 = -1) → (-1 ≤ x.2 ∧ x.2 ≤ way) → x.1 ≤ way →
    (∀ σ' : Nat → Nat → Int32, (∀ c, c ≠ 68 → σ' c = σ c) → (x1 = 0 → Q (some (.int (Int32.ofInt ((stl (chB A) k way x).1 : Int)))) (lo_M n w3 g σ' τ r1 r2)) ∧ (¬ x1 = 0 → Q (some (.int (Int32.ofInt (stl (chB A) k way x).2))) (lo_M n w3 g σ' τ r1 r2))) →
    am_wp (am_d (d + 5)) T_X10_churchesOf Q (7, [.ref 56, .int x1, .int (Int32.ofInt (x.1 : Int)), .int (Int32.ofInt x.2), .int (Int32.ofInt (way : Int)), u5, u6], [], 0, 0) (lo_M n w3 g σ τ r1 r2) := by
  have hc := cnt_le A
  have h128 := pow_le7 hc
  have hpos : 0 < 2 ^ cnt A := Nat.pow_pos (by omega)
  intro k
  induction k with
  | zero =>
    intro way x σ u5 u6 hk hb hx hx2 hx1 h
    have h := h σ (fun _ _ => rfl)
    refine am_wp_go (am_d_cm _) (fun pc => Nat.beq pc 7 || Nat.beq pc 22) 60 ?_
    refine r_whole (d + 4) _ hc hb.1.1 ?_
    refine And.intro (fun c1 => ?_) (fun c1 => absurd ?_ c1)
    · exact And.intro (fun c2 => h.1 c2) (fun c2 => h.2 c2)
    · rw [zlt (zrN (by omega)) (zrN (by omega)), Int.ofNat_lt]
      omega
  | succ k ih =>
    intro way x σ u5 u6 hk hb hx hx2 hx1 h
    have hway : way < 2 ^ cnt A := by omega
    refine am_wp_go (am_d_cm _) (fun pc => Nat.beq pc 7 || Nat.beq pc 22) 60 ?_
    refine r_whole (d + 4) _ hc hb.1.1 ?_
    refine And.intro (fun c1 => ?_) (fun c1 => ?_)
    · rw [zlt (zrN (by omega)) (zrN (by omega)), Int.ofNat_lt] at c1
      omega
    refine r_cu_in d Q hwf hway (cnt A) 0 true σ (by omega) hb (fun σ1 k1 => ?_)
    rw [show (true && allN (lvC A way) (cnt A) 0) = chB A way by rw [chB_all A (by omega), Bool.true_and]]
    have fin : ∀ (x' : Nat × Int) (u5 u6 : Value), x' = (if chB A way = true then (x.1 + 1, if x.1 = 0 then (way : Int) else x.2) else x) → am_wp (am_d (d + 5)) T_X10_churchesOf Q (7, [.ref 56, .int x1, .int (Int32.ofInt (x'.1 : Int)), .int (Int32.ofInt x'.2), .int (Int32.ofInt (way : Int) + Int32.ofInt 1), u5, u6], [], 0, 0) (lo_M n w3 g σ1 τ r1 r2) := by
      intro x' u5 u6 hx'
      rw [zadd]
      have h : ∀ σ' : Nat → Nat → Int32, (∀ c, c ≠ 68 → σ' c = σ c) → (x1 = 0 → Q (some (.int (Int32.ofInt ((stl (chB A) k (way + 1) x').1 : Int)))) (lo_M n w3 g σ' τ r1 r2)) ∧ (¬ x1 = 0 → Q (some (.int (Int32.ofInt (stl (chB A) k (way + 1) x').2))) (lo_M n w3 g σ' τ r1 r2)) := by
        rw [hx']
        exact h
      refine ih (way + 1) x' σ1 u5 u6 (by omega) (RB_68 hb k1) ?_ ?_ ?_ (fun σ2 m1 => h σ2 (fun c e => by rw [m1 c e, k1 c e]))
      · rw [hx']
        split
        · dsimp only
          constructor
          · intro q
            omega
          · intro q
            split at q <;> omega
        · exact hx
      · rw [hx']
        split
        · dsimp only
          split <;> omega
        · omega
      · rw [hx']
        split
        · dsimp only
          omega
        · omega
    refine am_wp_go (am_d_cm _) (fun pc => Nat.beq pc 7 || Nat.beq pc 22) 60 ?_
    by_cases c2 : chB A way = true
    · rw [if_pos c2]
      refine And.intro (fun q => absurd q (by decide)) (fun _ => ?_)
      refine And.intro (fun c3 => ?_) (fun c3 => ?_)
      · rw [zeq (by unfold zr; omega) (by unfold zr; omega)] at c3
        refine And.intro (fun q => absurd q (by decide)) (fun _ => ?_)
        have fin := fin (x.1 + 1, (way : Int)) (.int (Int32.ofInt 1)) (.int (Int32.ofInt (cnt A : Int))) (by rw [if_pos c2, if_pos (hx.mpr c3)])
        rw [show (((x.1 + 1, (way : Int)).1 : Nat) : Int) = (x.1 : Int) + 1 from rfl, ← zadd (x.1 : Int)] at fin
        exact fin
      · rw [zeq (by unfold zr; omega) (by unfold zr; omega)] at c3
        refine And.intro (fun q => absurd q (by decide)) (fun _ => ?_)
        have fin := fin (x.1 + 1, x.2) (.int (Int32.ofInt 1)) (.int (Int32.ofInt (cnt A : Int))) (by rw [if_pos c2, if_neg (fun q => c3 (hx.mp q))])
        rw [show (((x.1 + 1, x.2).1 : Nat) : Int) = (x.1 : Int) + 1 from rfl, ← zadd (x.1 : Int)] at fin
        exact fin
    · rw [if_neg c2]
      refine And.intro (fun _ => ?_) (fun q => absurd rfl q)
      refine And.intro (fun _ => ?_) (fun q => absurd rfl q)
      have fin := fin x (.int (Int32.ofInt 0)) (.int (Int32.ofInt (cnt A : Int))) (by rw [if_neg c2])
      rw [← Int.add_zero (x.1 : Int), ← zadd (x.1 : Int)] at fin
      exact fin
def f_cOf (A : aN) (y : Int) : Int := if y = 0 then ((chS2 A).1 : Int) else (chS2 A).2
set_option maxRecDepth 100000 in
theorem r_churchesOf (d : Nat) (Q : am_Q) {y : Int} (hy : zr y) (hwf : WF A B) (hb : RB A (A 4) σ) (h : ∀ σ' : Nat → Nat → Int32, (∀ c, c ≠ 68 → σ' c = σ c) → Q (some (.int (Int32.ofInt (f_cOf A y)))) (lo_M n w3 g σ' τ r1 r2)) : am_d (d + 6) 167 [.ref 56, .int (Int32.ofInt y)] 0 0 (lo_M n w3 g σ τ r1 r2) Q := by
  refine am_goT T_X10_churchesOf [.ref 56, .int (Int32.ofInt y), .null, .null, .null, .null, .null] rfl rfl (fun pc => Nat.beq pc 7) 60 ?_
  refine r_cu_loop d Q hwf (2 ^ cnt A) 0 (0, -1) σ .null .null (by omega) hb (by simp) (by simp) (by simp) (fun σ1 k1 => ?_)
  have h := h σ1 k1
  unfold f_cOf at h
  rw [← chS2_eq]
  refine ⟨fun e => ?_, fun e => ?_⟩
  · rw [zeq0 hy] at e
    rw [if_pos e] at h
    exact h
  · rw [zeq0 hy] at e
    rw [if_neg e] at h
    exact h
set_option maxRecDepth 100000 in
theorem q_churches (d : Nat) (Q : am_Q) {z : Int} (hz : zr z) (hm : IM A B σ) (hwf : WF A B) (h : ∀ σ', QF σ σ' → Q (some (.int (Int32.ofInt (f_churches A z)))) (lo_M n w3 g σ' τ r1 r2)) : am_d (d + 7) 168 [.ref 56, .int (Int32.ofInt z)] 0 0 (lo_M n w3 g σ τ r1 r2) Q := by
  refine am_goT T_X10_churches [.ref 56, .int (Int32.ofInt z)] rfl rfl (fun _ => false) 60 ?_
  refine r_reads (d + 2) _ hwf hm.1 (fun σ1 k1 k2 k3 => ?_)
  refine r_isTwo (d + 4) hz _ _ ?_
  unfold f_churches at h
  by_cases c : 0 ≤ z ∧ z ≤ 1
  · rw [if_pos c]
    rw [if_pos c] at h
    refine And.intro (fun q => absurd q (by decide)) (fun _ => ?_)
    exact r_churchesOf d _ hz hwf (RB_rd hm k1 k3) (fun σ2 m1 => h σ2 (QF_r68 k1 k2 m1))
  · rw [if_neg c]
    rw [if_neg c] at h
    exact And.intro (fun _ => h σ1 (QF_rd k1 k2)) (fun q => absurd rfl q)
end RCU
