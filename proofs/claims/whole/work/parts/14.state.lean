/-! what is told, in whole numbers: A holds numbers from 0 on, B may hold others
  A 0 0 bytes, A 0 1 facts, A 0 2 Sundays, A 0 3 the latest finding; A 1 the text; A 2 rain; A 3 settings; A 4 waiting;
  A 5, 6, 7 facts; A 8 told, A 9 late; A 11 sizes; A (20 + a) love of a; B 0 forms; B (1 + s) items -/
abbrev aN : Type := Nat → Nat → Nat
abbrev aZ : Type := Nat → Nat → Int
def fitc (b c : Nat) : Bool := match c with
  | 0 => Nat.ble 48 b && Nat.ble b 53
  | 1 => Nat.ble 48 b && Nat.ble b 57
  | 2 => Nat.ble 48 b && Nat.ble b 54
  | _ => Nat.beq b 59
/-- the first place with which the text cannot go on, from i on, k bytes being left -/
def flz (tx : Nat → Nat) (ln : Nat) : Nat → Nat → Int
  | 0, _ => if ln = 0 ∨ ln % 4 = 3 then -1 else (ln : Int)
  | k + 1, i => if 28 ≤ i ∨ fitc (tx i) (i % 4) = false then (i : Int) else flz tx ln k (i + 1)
def flt (A : aN) : Int := flz (A 1) (A 0 0) (A 0 0) 0
def cnt (A : aN) : Nat := if flt A = -1 then (A 0 0 + 1) / 4 else 0
def mn (A : aN) (p : Nat) : Nat := 10 * (A 1 (4 * p) - 48) + (A 1 (4 * p + 1) - 48)
def wsh (A : aN) (p : Nat) : Nat := A 1 (4 * p + 2) - 48
/-- rain ahead of a minute -/
def prz (rn : Nat → Nat) : Nat → Nat
  | 0 => 0
  | m + 1 => prz rn m + rn m
/-- when one goes in who waits w minutes -/
def gin (A : aN) (p w : Nat) : Nat := min 59 (mn A p + w)
def WF (A : aN) (B : aZ) : Prop := A 0 0 ≤ 40 ∧ (∀ i, A 1 i ≤ 255) ∧ (∀ j, A 2 j ≤ 1) ∧ (A 3 0 ≤ 60 ∧ A 3 1 ≤ 1 ∧ (1 ≤ A 3 2 ∧ A 3 2 ≤ 4) ∧ A 3 3 ≤ 9 ∧ A 3 4 ≤ 9 ∧ 1 ≤ A 3 5 ∧ A 3 5 ≤ 15) ∧ (∀ p, A 4 p ≤ 59) ∧ (∀ a b, A (20 + a) b ≤ 20) ∧ (∀ a, A (20 + a) a = 0) ∧ A 0 1 ≤ 8 ∧ (∀ f, A 5 f ≤ 1 ∧ A 6 f < 7 ∧ A 7 f < 7) ∧ A 0 2 ≤ 60 ∧ (∀ p, A 9 p ≤ A 8 p ∧ A 8 p ≤ A 0 2) ∧ A 8 0 + A 8 1 + A 8 2 + A 8 3 + A 8 4 + A 8 5 + A 8 6 = A 0 2 ∧ (∀ s, A 11 s ≤ 60) ∧ (∀ s, -1 ≤ B 0 s ∧ B 0 s ≤ 2) ∧ (∀ s i, zr (B (1 + s) i)) ∧ A 0 3 ≤ 5
/-- the first fault is -1, or a place -/
theorem flz_ge {tx : Nat → Nat} {ln : Nat} : ∀ (k i : Nat), i + k = ln → flz tx ln k i = -1 ∨ ((i : Int) ≤ flz tx ln k i ∧ flz tx ln k i ≤ ln)
  | 0, i, h => by
    unfold flz
    split
    · exact Or.inl rfl
    · right; omega
  | k + 1, i, h => by
    unfold flz
    split
    · right; omega
    · rcases flz_ge (tx := tx) (ln := ln) k (i + 1) (by omega) with h1 | h1
      · exact Or.inl h1
      · right; omega
theorem flz_ok {tx : Nat → Nat} {ln : Nat} : ∀ (k i : Nat), i + k = ln → flz tx ln k i = -1 → (∀ j, i ≤ j → j < ln → j < 28 ∧ fitc (tx j) (j % 4) = true) ∧ (ln = 0 ∨ ln % 4 = 3)
  | 0, i, h, e => by
    unfold flz at e
    split at e
    · next q => exact ⟨fun j h1 h2 => by omega, q⟩
    · omega
  | k + 1, i, h, e => by
    unfold flz at e
    split at e
    · omega
    · next q =>
      obtain ⟨h1, h2⟩ := flz_ok (tx := tx) (ln := ln) k (i + 1) (by omega) e
      refine ⟨fun j j1 j2 => ?_, h2⟩
      by_cases hj : j = i
      · subst hj
        refine ⟨by omega, ?_⟩
        cases hf : fitc (tx j) (j % 4) with
        | true => rfl
        | false => exact absurd (Or.inr hf) q
      · exact h1 j (by omega) j2
theorem flt_ok {A : aN} (h : flt A = -1) : (∀ j, j < A 0 0 → j < 28 ∧ fitc (A 1 j) (j % 4) = true) ∧ (A 0 0 = 0 ∨ A 0 0 % 4 = 3) := by
  obtain ⟨h1, h2⟩ := flz_ok _ 0 (by omega) h
  exact ⟨fun j hj => h1 j (Nat.zero_le _) hj, h2⟩
theorem flt_rng {A : aN} (h : A 0 0 ≤ 40) : -1 ≤ flt A ∧ flt A ≤ 40 := by
  rcases flz_ge (tx := A 1) (ln := A 0 0) (A 0 0) 0 (by omega) with h1 | h1
  · unfold flt; omega
  · unfold flt; omega
theorem cnt_le (A : aN) : cnt A ≤ 7 := by
  unfold cnt
  split
  · next h =>
    obtain ⟨h1, h2⟩ := flt_ok h
    have : A 0 0 ≤ 28 := by
      rcases Nat.lt_or_ge 28 (A 0 0) with q | q
      · have := (h1 28 q).1
        omega
      · exact q
    omega
  · omega
theorem cnt_at {A : aN} {p : Nat} (h : p < cnt A) : flt A = -1 ∧ 4 * p + 2 < A 0 0 := by
  unfold cnt at h
  split at h
  · next e =>
    obtain ⟨h1, h2⟩ := flt_ok e
    exact ⟨e, by omega⟩
  · omega
theorem mn_lt {A : aN} {p : Nat} (h : p < cnt A) : mn A p ≤ 59 := by
  obtain ⟨e, hl⟩ := cnt_at h
  obtain ⟨h1, -⟩ := flt_ok e
  have a0 := (h1 (4 * p) (by omega)).2
  have a1 := (h1 (4 * p + 1) (by omega)).2
  rw [show 4 * p % 4 = 0 by omega] at a0
  rw [show (4 * p + 1) % 4 = 1 by omega] at a1
  unfold fitc at a0 a1
  simp only [Bool.and_eq_true] at a0 a1
  have b0 := Nat.le_of_ble_eq_true a0.2
  have b1 := Nat.le_of_ble_eq_true a1.2
  unfold mn
  omega
theorem wsh_lt {A : aN} {p : Nat} (h : p < cnt A) : wsh A p ≤ 6 := by
  obtain ⟨e, hl⟩ := cnt_at h
  obtain ⟨h1, -⟩ := flt_ok e
  have a0 := (h1 (4 * p + 2) (by omega)).2
  rw [show (4 * p + 2) % 4 = 2 by omega] at a0
  unfold fitc at a0
  simp only [Bool.and_eq_true] at a0
  have b0 := Nat.le_of_ble_eq_true a0.2
  unfold wsh
  omega
/-! the class's memory holds what is told -/
def ixP (A : aN) (σ : Nat → Nat → Int32) : Prop := σ 5 3 = Int32.ofInt (A 0 0 : Int) ∧ (∀ i, i < 40 → σ 6 i = Int32.ofInt (A 1 i : Int)) ∧ σ 5 4 = Int32.ofInt (cnt A : Int) ∧ σ 5 5 = Int32.ofInt (flt A) ∧ ∀ p, p < cnt A → σ 7 p = Int32.ofInt (mn A p : Int) ∧ σ 8 p = Int32.ofInt (wsh A p : Int)
def ixR (A : aN) (σ : Nat → Nat → Int32) : Prop := ∀ m, m < 61 → σ 10 m = Int32.ofInt (prz (A 2) m : Int)
def ixS (A : aN) (σ : Nat → Nat → Int32) : Prop := ∀ i, i < 6 → σ 12 i = Int32.ofInt (A 3 i : Int)
def ixL (A : aN) (σ : Nat → Nat → Int32) : Prop := ∀ a, a < 7 → ∀ b, b < 7 → σ (14 + a) b = Int32.ofInt (A (20 + a) b : Int)
def ixW (A : aN) (σ : Nat → Nat → Int32) : Prop := ∀ p, p < 7 → σ 21 p = Int32.ofInt (A 4 p : Int)
def ixF (A : aN) (σ : Nat → Nat → Int32) : Prop := σ 35 3 = Int32.ofInt (A 0 1 : Int) ∧ ∀ f, f < A 0 1 → σ 36 f = Int32.ofInt (A 5 f : Int) ∧ σ 37 f = Int32.ofInt (A 6 f : Int) ∧ σ 38 f = Int32.ofInt (A 7 f : Int)
def ixU (A : aN) (σ : Nat → Nat → Int32) : Prop := σ 44 2 = Int32.ofInt (A 0 2 : Int) ∧ ∀ p, p < 7 → σ 45 p = Int32.ofInt (A 8 p : Int) ∧ σ 46 p = Int32.ofInt (A 9 p : Int)
def ixH (A : aN) (B : aZ) (σ : Nat → Nat → Int32) : Prop := ∀ s, s < 4 → σ (48 + 2 * s) 1 = Int32.ofInt (B 0 s) ∧ σ (48 + 2 * s) 2 = Int32.ofInt (A 11 s : Int) ∧ ∀ i, i < A 11 s → σ (49 + 2 * s) i = Int32.ofInt (B (1 + s) i)
def IX (A : aN) (B : aZ) (σ : Nat → Nat → Int32) : Prop := ixP A σ ∧ ixR A σ ∧ ixS A σ ∧ ixL A σ ∧ ixW A σ ∧ ixF A σ ∧ ixU A σ ∧ ixH A B σ ∧ σ 4 13 = Int32.ofInt (A 0 3 : Int)
/-- rows that hold nothing told: goingIn, the churches, the games, the orders -/
def scr (c : Nat) : Prop := (22 ≤ c ∧ c ≤ 34) ∨ (39 ≤ c ∧ c ≤ 43) ∨ 56 ≤ c
theorem IX_fr {A : aN} {B : aZ} {σ σ' : Nat → Nat → Int32} (h : IX A B σ) (hf : ∀ c, c ≠ 4 → ¬ scr c → σ' c = σ c) (h4 : σ' 4 13 = σ 4 13) : IX A B σ' := by
  obtain ⟨⟨p1, p2, p3, p4, p5⟩, hR, hS, hL, hW, ⟨f1, f2⟩, ⟨u1, u2⟩, hH, hl⟩ := h
  have e : ∀ c, c < 56 → c ≠ 4 → ¬ (22 ≤ c ∧ c ≤ 34) → ¬ (39 ≤ c ∧ c ≤ 43) → σ' c = σ c := fun c h1 h2 h3 h5 => hf c h2 (fun q => by rcases q with q | q | q <;> omega)
  refine ⟨⟨?_, ?_, ?_, ?_, ?_⟩, ?_, ?_, ?_, ?_, ⟨?_, ?_⟩, ⟨?_, ?_⟩, ?_, by rw [h4]; exact hl⟩
  · rw [e 5 (by omega) (by omega) (by omega) (by omega)]; exact p1
  · rw [e 6 (by omega) (by omega) (by omega) (by omega)]; exact p2
  · rw [e 5 (by omega) (by omega) (by omega) (by omega)]; exact p3
  · rw [e 5 (by omega) (by omega) (by omega) (by omega)]; exact p4
  · rw [e 7 (by omega) (by omega) (by omega) (by omega), e 8 (by omega) (by omega) (by omega) (by omega)]; exact p5
  · unfold ixR; rw [e 10 (by omega) (by omega) (by omega) (by omega)]; exact hR
  · unfold ixS; rw [e 12 (by omega) (by omega) (by omega) (by omega)]; exact hS
  · intro a ha; rw [e (14 + a) (by omega) (by omega) (by omega) (by omega)]; exact hL a ha
  · unfold ixW; rw [e 21 (by omega) (by omega) (by omega) (by omega)]; exact hW
  · rw [e 35 (by omega) (by omega) (by omega) (by omega)]; exact f1
  · rw [e 36 (by omega) (by omega) (by omega) (by omega), e 37 (by omega) (by omega) (by omega) (by omega), e 38 (by omega) (by omega) (by omega) (by omega)]; exact f2
  · rw [e 44 (by omega) (by omega) (by omega) (by omega)]; exact u1
  · rw [e 45 (by omega) (by omega) (by omega) (by omega), e 46 (by omega) (by omega) (by omega) (by omega)]; exact u2
  · intro s hs; rw [e (48 + 2 * s) (by omega) (by omega) (by omega) (by omega), e (49 + 2 * s) (by omega) (by omega) (by omega) (by omega)]; exact hH s hs
