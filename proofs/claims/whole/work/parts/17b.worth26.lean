/-! what one has in the other church -/
set_option maxHeartbeats 2000000 in
set_option maxRecDepth 100000 in
theorem s_love_loop26 (d : Nat) {n w3 : Nat} {g : Nat → Nat × Nat} {σ : Nat → Nat → Int32} {τ : Nat → Nat → Int64} {r1 r2 : Nat} (Q : am_Q) {p st : Nat} {wd : Nat} {x2 : Int32} {lv : Nat → Nat → Int} {L : List Nat} (hp : p < 7) (hw : wd ≤ 4) (hst : st < 7) (hL : ∀ q ∈ L, q < 7) (hl : L.length ≤ 7) (ht : σ 26 5 = Int32.ofInt (L.length : Int)) (h1 : hol σ 28 0 L) (hlv : ∀ a, a < 7 → ∀ b, b < 7 → σ (14 + a) b = Int32.ofInt (lv a b)) : ∀ (k i : Nat) (acc : Int), i + k = st + wd →
    Q (some (.int (Int32.ofInt (acc + lbs lv L p i k)))) (lo_M n w3 g σ τ r1 r2) →
    am_wp (am_d (d + 1)) T_X0_loveBeside Q (28, [.ref 26, .int (Int32.ofInt (p : Int)), .int x2, .int (Int32.ofInt (wd : Int)), .int (Int32.ofInt (st : Int)), .int (Int32.ofInt acc), .int (Int32.ofInt (i : Int))], [], 0, 0) (lo_M n w3 g σ τ r1 r2) := by
  intro k
  induction k with
  | zero =>
    intro i acc hi h
    refine am_wp_go (am_d_cm _) (fun pc => Nat.beq pc 28) 60 ?_
    refine And.intro (fun c1 => ?_) (fun c1 => absurd ?_ c1)
    · unfold lbs at h
      rw [Int.add_zero] at h
      exact h
    · show Int32.ofInt (st : Int) + Int32.ofInt (wd : Int) ≤ Int32.ofInt (i : Int)
      rw [zadd, zle (by unfold zr; omega) (by unfold zr; omega)]
      omega
  | succ k ih =>
    intro i acc hi h
    refine am_wp_go (am_d_cm _) (fun pc => Nat.beq pc 28) 60 ?_
    refine And.intro (fun c1 => ?_) (fun c1 => And.intro (fun c2 => ?_) (fun c2 => ?_))
    · have c1 : Int32.ofInt (st : Int) + Int32.ofInt (wd : Int) ≤ Int32.ofInt (i : Int) := c1
      rw [zadd, zle (by unfold zr; omega) (by unfold zr; omega)] at c1
      omega
    · have c2 : σ 26 5 ≤ Int32.ofInt (i : Int) := c2
      rw [ht, zle (by unfold zr; omega) (by unfold zr; omega)] at c2
      rw [lbs_out _ _ (by omega), Int.add_zero] at h
      exact h
    · have c2 : ¬ σ 26 5 ≤ Int32.ofInt (i : Int) := c2
      rw [ht, zle (by unfold zr; omega) (by unfold zr; omega)] at c2
      have hil : i < L.length := by omega
      have hq := h1 i L[i] (List.getElem?_eq_getElem hil)
      rw [Nat.zero_add] at hq
      have hq7 : L[i] < 7 := hL _ (List.getElem_mem hil)
      unfold lbs at h
      rw [dif_pos hil, ← Int.add_assoc] at h
      have key := ih (i + 1) (acc + lv p L[i]) (by omega) h
      rw [← zadd acc, ← hlv p hp _ hq7, show (((i + 1 : Nat) : Int)) = (i : Int) + 1 by omega, ← zadd (i : Int)] at key
      refine ixi p 7 hp ?_
      rcases (show p = 0 ∨ p = 1 ∨ p = 2 ∨ p = 3 ∨ p = 4 ∨ p = 5 ∨ p = 6 by omega) with rfl | rfl | rfl | rfl | rfl | rfl | rfl
      all_goals
        refine ixi i 7 (by omega) ?_
        refine ixi L[i] 7 hq7 ?_
        exact key
set_option maxRecDepth 100000 in
theorem s_loveBeside26 (d : Nat) {n w3 : Nat} {g : Nat → Nat × Nat} {σ : Nat → Nat → Int32} {τ : Nat → Nat → Int64} {r1 r2 : Nat} (Q : am_Q) {p seat wd : Nat} {lv : Nat → Nat → Int} {L : List Nat} (hp : p < 7) (hw1 : 1 ≤ wd) (hw : wd ≤ 4) (hse : seat < 7) (hwd : σ 12 2 = Int32.ofInt (wd : Int)) (hL : ∀ q ∈ L, q < 7) (hl : L.length ≤ 7) (ht : σ 26 5 = Int32.ofInt (L.length : Int)) (h1 : hol σ 28 0 L) (hlv : ∀ a, a < 7 → ∀ b, b < 7 → σ (14 + a) b = Int32.ofInt (lv a b))
    (h : Q (some (.int (Int32.ofInt (lbs lv L p (seat - seat % wd) wd)))) (lo_M n w3 g σ τ r1 r2)) : am_d (d + 2) 5 [.ref 26, .int (Int32.ofInt (p : Int)), .int (Int32.ofInt (seat : Int))] 0 0 (lo_M n w3 g σ τ r1 r2) Q := by
  refine am_goT T_X0_loveBeside [.ref 26, .int (Int32.ofInt (p : Int)), .int (Int32.ofInt (seat : Int)), .null, .null, .null, .null] rfl rfl (fun pc => Nat.beq pc 28) 60 ?_
  refine ixi 2 6 (by omega) ?_
  have e : (if Int32.ofInt 1 < σ 12 2 then σ 12 2 else Int32.ofInt 1) = Int32.ofInt (wd : Int) := by rw [hwd, zmax (by unfold zr; omega) (by unfold zr; omega), show max 1 (wd : Int) = wd by omega]
  show ¬ (if Int32.ofInt 1 < σ 12 2 then σ 12 2 else Int32.ofInt 1) = 0 ∧ _
  refine And.intro (by rw [e, zeq0 (by unfold zr; omega)]; omega) ?_
  have hsm : seat % wd ≤ seat := Nat.mod_le _ _
  have hst : Int32.ofInt (seat : Int) - (Int32.ofInt (seat : Int) - Int32.ofInt (seat : Int) / Int32.ofInt (wd : Int) * Int32.ofInt (wd : Int)) = Int32.ofInt ((seat - seat % wd : Nat) : Int) := by
    rw [zrem (by omega) (by omega) (by omega), zsub]
    congr 1
    omega
  have key := s_love_loop26 d Q (x2 := Int32.ofInt (seat : Int)) hp hw (show seat - seat % wd < 7 by omega) hL hl ht h1 hlv wd (seat - seat % wd) 0 rfl (by rw [Int.zero_add]; exact h)
  rw [← hst, ← e] at key
  exact key
set_option maxRecDepth 100000 in
/-- what one has in this church: seat, love beside, wet -/
theorem s_worth26 (d : Nat) {n w3 : Nat} {g : Nat → Nat × Nat} {σ : Nat → Nat → Int32} {τ : Nat → Nat → Int64} {r1 r2 : Nat} (Q : am_Q) {p wd gg mp wp : Nat} {st care soak : Int} {lv : Nat → Nat → Int} {pr : Nat → Int} {L : List Nat} (hp : p < 7) (hw1 : 1 ≤ wd) (hw : wd ≤ 4) (hgg : gg < 61) (hmp : mp < 61) (hwp : wp < 100) (hst : -1 ≤ st) (hst7 : st < 7) (hm : σ 7 p = Int32.ofInt (mp : Int)) (hwi : σ 8 p = Int32.ofInt (wp : Int)) (hpr : ∀ i, i < 61 → σ 10 i = Int32.ofInt (pr i)) (hso : σ 12 4 = Int32.ofInt soak) (hca : σ 12 3 = Int32.ofInt care) (hwd : σ 12 2 = Int32.ofInt (wd : Int)) (hs : σ 27 p = Int32.ofInt st) (hL : ∀ q ∈ L, q < 7) (hl : L.length ≤ 7) (ht : σ 26 5 = Int32.ofInt (L.length : Int)) (h1 : hol σ 28 0 L) (hlv : ∀ a, a < 7 → ∀ b, b < 7 → σ (14 + a) b = Int32.ofInt (lv a b))
    (h : Q (some (.int (Int32.ofInt (if st = -1 then -(soak * (pr gg - pr mp)) else 20 - care * ((st - wp).natAbs : Int) + lbs lv L p (st.toNat - st.toNat % wd) wd - soak * (pr gg - pr mp))))) (lo_M n w3 g σ τ r1 r2)) : am_d (d + 3) 4 [.ref 26, .int (Int32.ofInt (p : Int)), .int (Int32.ofInt (gg : Int))] 0 0 (lo_M n w3 g σ τ r1 r2) Q := by
  refine am_goT T_X0_worth [.ref 26, .int (Int32.ofInt (p : Int)), .int (Int32.ofInt (gg : Int)), .null, .null] rfl rfl (fun _ => false) 60 ?_
  refine ixi 4 6 (by omega) ?_
  refine ixi p 7 hp ?_
  show am_d (d + 2) 35 [.ref 9, .int (σ 7 p), .int (Int32.ofInt (gg : Int))] 0 0 _ _
  rw [hm]
  refine s_between (d + 1) _ _ _ ⟨rfl, hmp⟩ ⟨rfl, hgg⟩ ?_
  rw [hpr gg hgg, hpr mp hmp, zsub]
  refine ixi p 7 hp ?_
  by_cases hn : st = -1
  · rw [if_pos hn, ← zneg, ← zmul, ← hso] at h
    refine And.intro (fun c1 => ?_) (fun c1 => absurd (by show σ 27 p = Int32.ofInt (-1); rw [hs, hn]) c1)
    exact h
  · rw [if_neg hn] at h
    refine And.intro (fun c1 => absurd (show σ 27 p = Int32.ofInt (-1) from c1) (by rw [hs, zeq (by unfold zr; omega) (by unfold zr; omega)]; exact hn)) (fun c1 => ?_)
    refine ixi p 7 hp ?_
    show am_d (d + 2) 38 [.ref 11, .int (σ 27 p), .int (σ 8 p)] 0 0 _ _
    rw [hs, hwi]
    refine s_seatWorth (d + 1) _ hca (by omega) (by omega) ?_
    show am_d (d + 2) 5 [.ref 26, .int (Int32.ofInt (p : Int)), .int (σ 27 p)] 0 0 _ _
    rw [hs, show st = (st.toNat : Int) by omega]
    refine s_loveBeside26 d _ hp hw1 hw (by omega) hwd hL hl ht h1 hlv ?_
    rw [← zsub, ← zadd, ← zmul, ← hso] at h
    rw [show st = (st.toNat : Int) by omega] at h
    exact h
