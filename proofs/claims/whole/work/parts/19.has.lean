/-! seat, who, has, best: the class -/
theorem prz_le {rn : Nat → Nat} (h : ∀ j, rn j ≤ 1) : ∀ m, prz rn m ≤ m
  | 0 => Nat.le_refl _
  | m + 1 => by
    have := prz_le h m
    have := h m
    unfold prz
    omega
theorem prz_mono {rn : Nat → Nat} {a : Nat} : ∀ b, a ≤ b → prz rn a ≤ prz rn b
  | 0, h => by
    have : a = 0 := by omega
    subst this
    exact Nat.le_refl _
  | b + 1, h => by
    by_cases e : a = b + 1
    · subst e; exact Nat.le_refl _
    · have := prz_mono (rn := rn) b (show a ≤ b by omega)
      show prz rn a ≤ prz rn b + rn b
      omega
theorem lbs_rng {lv : Nat → Nat → Int} {L : List Nat} {p : Nat} (h : ∀ a b, 0 ≤ lv a b ∧ lv a b ≤ 20) : ∀ (k i : Nat), 0 ≤ lbs lv L p i k ∧ lbs lv L p i k ≤ 20 * k
  | 0, i => by simp [lbs]
  | k + 1, i => by
    unfold lbs
    split
    · next hi =>
      have := lbs_rng (L := L) (p := p) h k (i + 1)
      have := h p L[i]
      omega
    · omega
theorem mul9 (a : Nat) (h : a ≤ 9) (x K : Int) (h1 : -K ≤ x) (h2 : x ≤ K) : -(9 * K) ≤ (a : Int) * x ∧ (a : Int) * x ≤ 9 * K := by
  rcases (show a = 0 ∨ a = 1 ∨ a = 2 ∨ a = 3 ∨ a = 4 ∨ a = 5 ∨ a = 6 ∨ a = 7 ∨ a = 8 ∨ a = 9 by omega) with rfl | rfl | rfl | rfl | rfl | rfl | rfl | rfl | rfl | rfl
  all_goals omega
theorem WZ_rng {A : aN} {B : aZ} (hwf : WF A B) {L : List Nat} {st : Int} {p gg : Nat} (hp : p < cnt A) (hgg : gg ≤ 60) (h1 : -1 ≤ st) (h2 : st < 7) : -1000 ≤ WZ A L st p gg ∧ WZ A L st p gg ≤ 1000 := by
  obtain ⟨-, -, hr, ⟨-, -, ⟨-, w4⟩, c9, s9, -⟩, -, hl, -⟩ := hwf
  have a1 := prz_le hr gg
  have a2 := prz_le hr (mn A p)
  have a3 := mn_lt hp
  have a4 := wsh_lt hp
  have b1 := mul9 (A 3 4) s9 ((prz (A 2) gg : Int) - (prz (A 2) (mn A p) : Int)) 60 (by omega) (by omega)
  have b3 := mul9 (A 3 3) c9 ((st - (wsh A p : Int)).natAbs : Int) 10 (by omega) (by omega)
  have b5 := lbs_rng (lv := fun a b => (A (20 + a) b : Int)) (L := L) (p := p) (fun a b => by have := hl a b; omega) (A 3 2) (st.toNat - st.toNat % A 3 2)
  unfold WZ
  split <;> omega
theorem SL_lt {A : aN} {lw : Nat} {mem : Nat → Bool} {w : Nat → Nat} : ∀ q ∈ SL A lw mem w, q < cnt A := fun q hq => fL_lt _ q hq
theorem SL_len (A : aN) (lw : Nat) (mem : Nat → Bool) (w : Nat → Nat) : (SL A lw mem w).length ≤ 7 := Nat.le_trans (fL_len _) (cnt_le A)
theorem seat7 (A : aN) (lw : Nat) (mem : Nat → Bool) (w : Nat → Nat) (q : Nat) : -1 ≤ seatZ (SL A lw mem w) q ∧ seatZ (SL A lw mem w) q < 7 := by
  have h1 := seatZ_rng (SL A lw mem w) q
  have h2 := SL_len A lw mem w
  omega
theorem lastZ_at {q : Nat} : ∀ (L : List Nat) (j r : Int), lastZ q L j r = r ∨ ∃ k : Nat, L[k]? = some q ∧ lastZ q L j r = j + k
  | [], j, r => Or.inl rfl
  | x :: L, j, r => by
    unfold lastZ
    rcases lastZ_at (q := q) L (j + 1) (if q = x then j else r) with h | ⟨k, h1, h2⟩
    · by_cases e : q = x
      · right
        refine ⟨0, by rw [e]; rfl, ?_⟩
        rw [h, if_pos e]
        simp
      · left
        rw [h, if_neg e]
    · right
      refine ⟨k + 1, h1, ?_⟩
      rw [h2]
      omega
theorem seatZ_at {L : List Nat} {q : Nat} (h : seatZ L q ≠ -1) : L[(seatZ L q).toNat]? = some q := by
  rcases lastZ_at (q := q) L 0 (-1) with h1 | ⟨k, h1, h2⟩
  · exact absurd h1 h
  · unfold seatZ
    rw [h2]
    simpa using h1
section HA
variable {n w3 : Nat} {g : Nat → Nat × Nat} {σ : Nat → Nat → Int32} {τ : Nat → Nat → Int64} {r1 r2 : Nat} {A : aN} {B : aZ}
/-- what one has in the church as it is filled now -/
theorem s_worthA (d : Nat) (Q : am_Q) {L : List Nat} {st : Int} {p gg : Nat} (hwf : WF A B) (hp : p < cnt A) (hgg : gg ≤ 60) (hP : ixP A σ) (hR : ixR A σ) (hS : ixS A σ) (hL : ixL A σ) (hL7 : ∀ q ∈ L, q < 7) (hlen : L.length ≤ 7) (ht : σ 23 5 = Int32.ofInt (L.length : Int)) (h1 : hol σ 25 0 L) (hs : σ 24 p = Int32.ofInt st) (hst1 : -1 ≤ st) (hst2 : st < 7) (h : Q (some (.int (Int32.ofInt (WZ A L st p gg)))) (lo_M n w3 g σ τ r1 r2)) : am_d (d + 3) 4 [.ref 23, .int (Int32.ofInt (p : Int)), .int (Int32.ofInt (gg : Int))] 0 0 (lo_M n w3 g σ τ r1 r2) Q := by
  have hc := cnt_le A
  have hm := mn_lt hp
  have hws := wsh_lt hp
  obtain ⟨-, -, hr, ⟨-, -, ⟨w1, w4⟩, c9, s9, -⟩, -, hl, -⟩ := hwf
  exact s_worth23 d Q (wd := A 3 2) (mp := mn A p) (wp := wsh A p) (care := (A 3 3 : Int)) (soak := (A 3 4 : Int)) (lv := fun a b => (A (20 + a) b : Int)) (pr := fun m => (prz (A 2) m : Int)) (by omega) w1 w4 (by omega) (by omega) (by omega) hst1 hst2 (hP.2.2.2.2 p hp).1 (hP.2.2.2.2 p hp).2 hR (hS 4 (by omega)) (hS 3 (by omega)) (hS 2 (by omega)) hs hL7 hlen ht h1 hL h
def f_seat (A : aN) (z : Int) : Int := if 0 ≤ z ∧ z < cnt A then seatZ (SL A (A 3 1) (fun _ => true) (A 4)) z.toNat else -2
set_option maxRecDepth 100000 in
theorem c_seat (d : Nat) (Q : am_Q) {z : Int} (hz : zr z) (hx : IX A B σ) (hwf : WF A B)
    (h : ∀ σ' : Nat → Nat → Int32, (∀ c, c ≠ 22 → c ≠ 23 → c ≠ 24 → c ≠ 25 → σ' c = σ c) → (∀ i, i ≠ 5 → σ' 23 i = σ 23 i) → Q (some (.int (Int32.ofInt (f_seat A z)))) (lo_M n w3 g σ' τ r1 r2)) : am_d (d + 5) 61 [.ref 4, .int (Int32.ofInt z)] 0 0 (lo_M n w3 g σ τ r1 r2) Q := by
  have hc := cnt_le A
  refine am_goT T_X9_seat [.ref 4, .int (Int32.ofInt z)] rfl rfl (fun _ => false) 60 ?_
  refine s_isThere (d + 2) _ hz hc hx.1.2.2.1 ?_
  by_cases c : 0 ≤ z ∧ z < cnt A
  · rw [if_pos c]
    refine And.intro (fun q => absurd q (by decide)) (fun _ => ?_)
    refine s_seatAll d _ hx hwf (fun σ' k1 k2 k3 k4 k5 k6 => ?_)
    refine ixi z.toNat 7 (by omega) ?_ (by congr 1; omega)
    have h := h σ' k1 k2
    unfold f_seat at h
    rw [if_pos c, ← k6 _ (by omega)] at h
    exact h
  · rw [if_neg c]
    refine And.intro (fun _ => ?_) (fun q => absurd rfl q)
    have h := h σ (fun _ _ _ _ _ => rfl) (fun _ _ => rfl)
    unfold f_seat at h
    rw [if_neg c] at h
    exact h
def f_who (A : aN) (z : Int) : Int := if 0 ≤ z ∧ z ≤ 6 then (match (SL A (A 3 1) (fun _ => true) (A 4))[z.toNat]? with | some q => (q : Int) | none => -1) else -2
set_option maxRecDepth 100000 in
theorem c_who (d : Nat) (Q : am_Q) {z : Int} (hz : zr z) (hx : IX A B σ) (hwf : WF A B)
    (h : ∀ σ' : Nat → Nat → Int32, (∀ c, c ≠ 22 → c ≠ 23 → c ≠ 24 → c ≠ 25 → σ' c = σ c) → (∀ i, i ≠ 5 → σ' 23 i = σ 23 i) → Q (some (.int (Int32.ofInt (f_who A z)))) (lo_M n w3 g σ' τ r1 r2)) : am_d (d + 5) 62 [.ref 4, .int (Int32.ofInt z)] 0 0 (lo_M n w3 g σ τ r1 r2) Q := by
  have hlen := SL_len A (A 3 1) (fun _ => true) (A 4)
  refine am_goT T_X9_who [.ref 4, .int (Int32.ofInt z)] rfl rfl (fun _ => false) 60 ?_
  refine s_withinZ (d + 3) hz (by unfold zr; omega) (by unfold zr; omega) _ _ ?_
  by_cases c : 0 ≤ z ∧ z ≤ 6
  · rw [if_pos c]
    refine And.intro (fun q => absurd q (by decide)) (fun _ => ?_)
    refine s_seatAll d _ hx hwf (fun σ' k1 k2 k3 k4 k5 k6 => ?_)
    have h := h σ' k1 k2
    unfold f_who at h
    rw [if_pos c] at h
    refine And.intro (fun c2 => ?_) (fun c2 => ?_)
    · have c2 : σ' 23 5 ≤ Int32.ofInt z := c2
      rw [k4, zle (by unfold zr; omega) hz] at c2
      rw [List.getElem?_eq_none (by omega)] at h
      exact h
    · have c2 : ¬ σ' 23 5 ≤ Int32.ofInt z := c2
      rw [k4, zle (by unfold zr; omega) hz] at c2
      have hl : z.toNat < (SL A (A 3 1) (fun _ => true) (A 4)).length := by omega
      rw [List.getElem?_eq_getElem hl] at h
      have hq := k5 z.toNat _ (List.getElem?_eq_getElem hl)
      rw [Nat.zero_add] at hq
      refine ixi z.toNat 7 (by omega) ?_ (by congr 1; omega)
      rw [← hq] at h
      exact h
  · rw [if_neg c]
    refine And.intro (fun _ => ?_) (fun q => absurd rfl q)
    have h := h σ (fun _ _ _ _ _ => rfl) (fun _ _ => rfl)
    unfold f_who at h
    rw [if_neg c] at h
    exact h
def f_has (A : aN) (z : Int) : Int := if 0 ≤ z ∧ z < cnt A then HZ A (A 3 1) (fun _ => true) (A 4) z.toNat else -10002
set_option maxRecDepth 100000 in
theorem c_has (d : Nat) (Q : am_Q) {z : Int} (hz : zr z) (hx : IX A B σ) (hwf : WF A B)
    (h : ∀ σ' : Nat → Nat → Int32, (∀ c, c ≠ 22 → c ≠ 23 → c ≠ 24 → c ≠ 25 → σ' c = σ c) → (∀ i, i ≠ 5 → σ' 23 i = σ 23 i) → Q (some (.int (Int32.ofInt (f_has A z)))) (lo_M n w3 g σ' τ r1 r2)) : am_d (d + 5) 63 [.ref 4, .int (Int32.ofInt z)] 0 0 (lo_M n w3 g σ τ r1 r2) Q := by
  have hc := cnt_le A
  refine am_goT T_X9_has [.ref 4, .int (Int32.ofInt z)] rfl rfl (fun _ => false) 60 ?_
  refine s_isThere (d + 2) _ hz hc hx.1.2.2.1 ?_
  by_cases c : 0 ≤ z ∧ z < cnt A
  · rw [if_pos c]
    refine And.intro (fun q => absurd q (by decide)) (fun _ => ?_)
    refine s_seatAll d _ hx hwf (fun σ' k1 k2 k3 k4 k5 k6 => ?_)
    have hx' : IX A B σ' := IX_fr hx (fun c e1 e2 => k1 c (fun q => e2 (by subst q; unfold scr; omega)) (fun q => e2 (by subst q; unfold scr; omega)) (fun q => e2 (by subst q; unfold scr; omega)) (fun q => e2 (by subst q; unfold scr; omega))) (by rw [k1 4 (by decide) (by decide) (by decide) (by decide)])
    refine ixi z.toNat 7 (by omega) ?_ (by congr 1; omega)
    show am_d (d + 4) 4 [.ref 23, .int (Int32.ofInt z), .int (σ' 22 z.toNat)] 0 0 _ _
    rw [k3, if_pos (by omega), show Int32.ofInt z = Int32.ofInt (z.toNat : Int) by congr 1; omega]
    have h := h σ' k1 k2
    unfold f_has at h
    rw [if_pos c] at h
    obtain ⟨hP, hR, hS, hL, hW, hF, hU, hH, hl⟩ := hx'
    have s7 := seat7 A (A 3 1) (fun _ => true) (A 4) z.toNat
    exact s_worthA (d + 1) _ hwf (by omega) (by unfold gin; omega) hP hR hS hL (fun q hq => by have := SL_lt q hq; omega) (SL_len _ _ _ _) k4 k5 (k6 _ (by omega)) s7.1 s7.2 h
  · rw [if_neg c]
    refine And.intro (fun _ => ?_) (fun q => absurd rfl q)
    have h := h σ (fun _ _ _ _ _ => rfl) (fun _ _ => rfl)
    unfold f_has at h
    rw [if_neg c] at h
    exact h
end HA
