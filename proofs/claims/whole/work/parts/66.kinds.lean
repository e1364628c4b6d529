/-! tellings: the state behind each, as the class and as the reference has it -/
def ST (σ : Nat → Nat → Int32) : Prop := (∀ i, i < 6 → σ 0 i = Int32.ofInt (leastS i)) ∧ ∀ i, i < 6 → σ 1 i = Int32.ofInt (mostS i)
theorem ST_fr {σ σ' : Nat → Nat → Int32} (h : ST σ) (h0 : σ' 0 = σ 0) (h1 : σ' 1 = σ 1) : ST σ' := by
  unfold ST
  rw [h0, h1]
  exact h
theorem am_u_if {α : Type} {f : Nat → Nat → α} {c i c' j : Nat} {v : α} : am_u f c i v c' j = if c' = c ∧ j = i then v else f c' j := by
  unfold am_u
  by_cases h : c' = c
  · subst h
    by_cases e : j = i
    · rw [if_pos rfl, if_pos e, if_pos ⟨rfl, e⟩]
    · rw [if_pos rfl, if_neg e, if_neg (fun q => e q.2)]
  · rw [if_neg h, if_neg (fun q => h q.1)]
section KND
variable {A : aN} {B : aZ} {σ σ' : Nat → Nat → Int32} {n w3 : Nat} {g : Nat → Nat × Nat} {r1 r2 W1 W2 : Nat}

theorem AG_4 {f : Nat → Nat} : AG A (am_ur A 4 f) := ⟨rfl, rfl, rfl, rfl, fun a => am_ur_ne (by omega)⟩
theorem AG_0 {i v : Nat} (h : i ≠ 0) : AG A (am_u A 0 i v) := ⟨by rw [am_u_at, if_neg (fun q => h q.symm)], rfl, rfl, rfl, fun a => am_u_ne (by omega)⟩
theorem AG_11 {f : Nat → Nat} : AG A (am_ur A 11 f) := ⟨rfl, rfl, rfl, rfl, fun a => am_ur_ne (by omega)⟩
def A_fact (A : aN) (f k a b : Nat) : aN := am_u (am_u (am_u (am_u A 5 f k) 6 f a) 7 f b) 0 1 (f + 1)
theorem A_fact_20 {f k a b : Nat} (c : Nat) : A_fact A f k a b (20 + c) = A (20 + c) := by
  unfold A_fact
  rw [am_u_ne (by omega), am_u_ne (by omega), am_u_ne (by omega), am_u_ne (by omega)]
theorem AG_fact {f k a b : Nat} : AG A (A_fact A f k a b) := ⟨rfl, rfl, rfl, rfl, A_fact_20⟩
def A_sun (A : aN) (p y : Nat) : aN := am_u (am_u (am_u A 8 p (A 8 p + 1)) 9 p (A 9 p + y)) 0 2 (A 0 2 + 1)
theorem A_sun_20 {p y : Nat} (c : Nat) : A_sun A p y (20 + c) = A (20 + c) := by
  unfold A_sun
  rw [am_u_ne (by omega), am_u_ne (by omega), am_u_ne (by omega)]
theorem AG_sun {p y : Nat} : AG A (A_sun A p y) := ⟨rfl, rfl, rfl, rfl, A_sun_20⟩
def A_love (A : aN) (a b v : Nat) : aN := am_u (am_u A (20 + a) b v) (20 + b) a v
theorem A_love_ne {a b v c : Nat} (h : c < 20) : A_love A a b v c = A c := by
  unfold A_love
  rw [am_u_ne (by omega), am_u_ne (by omega)]
theorem A_love_20 {a b v c j : Nat} : A_love A a b v (20 + c) j = if (c = b ∧ j = a) ∨ (c = a ∧ j = b) then v else A (20 + c) j := by
  unfold A_love
  rw [am_u_if, am_u_if]
  by_cases h1 : c = b ∧ j = a
  · rw [if_pos (by omega), if_pos (Or.inl h1)]
  · rw [if_neg (by omega)]
    by_cases h2 : c = a ∧ j = b
    · rw [if_pos (by omega), if_pos (Or.inr h2)]
    · rw [if_neg (by omega), if_neg (fun q => q.elim h1 h2)]
theorem A_type_20 {b : Nat} (c : Nat) : A_type A b (20 + c) = A (20 + c) := by
  unfold A_type
  rw [am_u_ne (by omega), am_u_ne (by omega)]
theorem A_wipe_20 (c : Nat) : A_wipe A (20 + c) = A (20 + c) := by
  unfold A_wipe
  rw [am_u_ne (by omega)]

theorem WF_4 (h : WF A B) {f : Nat → Nat} (hf : ∀ p, f p ≤ 59) : WF (am_ur A 4 f) B := by
  obtain ⟨w1, w2, w3, w4, w5, w6, w7, w8, w9, w10, w11, w12, w13, w14, w15, w16⟩ := h
  exact ⟨w1, w2, w3, w4, hf, fun a b => by rw [am_ur_ne (by omega)]; exact w6 a b, fun a => by rw [am_ur_ne (by omega)]; exact w7 a, w8, w9, w10, w11, w12, w13, w14, w15, w16⟩

theorem WF_2 (h : WF A B) {f : Nat → Nat} (hf : ∀ p, f p ≤ 1) : WF (am_ur A 2 f) B := by
  obtain ⟨w1, w2, w3, w4, w5, w6, w7, w8, w9, w10, w11, w12, w13, w14, w15, w16⟩ := h
  exact ⟨w1, w2, hf, w4, w5, fun a b => by rw [am_ur_ne (by omega)]; exact w6 a b, fun a => by rw [am_ur_ne (by omega)]; exact w7 a, w8, w9, w10, w11, w12, w13, w14, w15, w16⟩

theorem WF_3 (h : WF A B) {f : Nat → Nat} (hf : f 0 ≤ 60 ∧ f 1 ≤ 1 ∧ (1 ≤ f 2 ∧ f 2 ≤ 4) ∧ f 3 ≤ 9 ∧ f 4 ≤ 9 ∧ 1 ≤ f 5 ∧ f 5 ≤ 15) : WF (am_ur A 3 f) B := by
  obtain ⟨w1, w2, w3, w4, w5, w6, w7, w8, w9, w10, w11, w12, w13, w14, w15, w16⟩ := h
  exact ⟨w1, w2, w3, hf, w5, fun a b => by rw [am_ur_ne (by omega)]; exact w6 a b, fun a => by rw [am_ur_ne (by omega)]; exact w7 a, w8, w9, w10, w11, w12, w13, w14, w15, w16⟩

theorem WF_11 (h : WF A B) {f : Nat → Nat} (hf : ∀ p, f p ≤ 60) : WF (am_ur A 11 f) B := by
  obtain ⟨w1, w2, w3, w4, w5, w6, w7, w8, w9, w10, w11, w12, w13, w14, w15, w16⟩ := h
  exact ⟨w1, w2, w3, w4, w5, fun a b => by rw [am_ur_ne (by omega)]; exact w6 a b, fun a => by rw [am_ur_ne (by omega)]; exact w7 a, w8, w9, w10, w11, w12, hf, w14, w15, w16⟩

theorem WF_l (h : WF A B) {v : Nat} (hv : v ≤ 5) : WF (am_u A 0 3 v) B := by
  obtain ⟨w1, w2, w3, w4, w5, w6, w7, w8, w9, w10, w11, w12, w13, w14, w15, w16⟩ := h
  exact ⟨w1, w2, w3, w4, w5, fun a b => by rw [am_u_ne (by omega)]; exact w6 a b, fun a => by rw [am_u_ne (by omega)]; exact w7 a, w8, w9, w10, w11, w12, w13, w14, w15, hv⟩

theorem WF_forget (h : WF A B)  : WF (am_u A 0 1 0) B := by
  obtain ⟨w1, w2, w3, w4, w5, w6, w7, w8, w9, w10, w11, w12, w13, w14, w15, w16⟩ := h
  exact ⟨w1, w2, w3, w4, w5, fun a b => by rw [am_u_ne (by omega)]; exact w6 a b, fun a => by rw [am_u_ne (by omega)]; exact w7 a, Nat.zero_le _, w9, w10, w11, w12, w13, w14, w15, w16⟩

theorem WF_wipe (h : WF A B)  : WF (A_wipe A) B := by
  obtain ⟨w1, w2, w3, w4, w5, w6, w7, w8, w9, w10, w11, w12, w13, w14, w15, w16⟩ := h
  exact ⟨Nat.zero_le _, w2, w3, w4, w5, fun a b => by rw [A_wipe_20]; exact w6 a b, fun a => by rw [A_wipe_20]; exact w7 a, w8, w9, w10, w11, w12, w13, w14, w15, w16⟩

theorem WF_type (h : WF A B) {b : Nat} (hb : b ≤ 255) (h4 : A 0 0 < 40) : WF (A_type A b) B := by
  obtain ⟨w1, w2, w3, w4, w5, w6, w7, w8, w9, w10, w11, w12, w13, w14, w15, w16⟩ := h
  exact ⟨h4, fun i => by
    show (if i = A 0 0 then b else A 1 i) ≤ 255
    split
    · exact hb
    · exact w2 i, w3, w4, w5, fun a b => by rw [A_type_20]; exact w6 a b, fun a => by rw [A_type_20]; exact w7 a, w8, w9, w10, w11, w12, w13, w14, w15, w16⟩

theorem WF_fact (h : WF A B) {k a b : Nat} (hk : k ≤ 1) (ha : a < 7) (hb : b < 7) (h8 : A 0 1 < 8) : WF (A_fact A (A 0 1) k a b) B := by
  obtain ⟨w1, w2, w3, w4, w5, w6, w7, w8, w9, w10, w11, w12, w13, w14, w15, w16⟩ := h
  exact ⟨w1, w2, w3, w4, w5, fun a b => by rw [A_fact_20]; exact w6 a b, fun a => by rw [A_fact_20]; exact w7 a, h8, fun f => by
    show (if f = A 0 1 then k else A 5 f) ≤ 1 ∧ (if f = A 0 1 then a else A 6 f) < 7 ∧ (if f = A 0 1 then b else A 7 f) < 7
    by_cases e : f = A 0 1
    · rw [if_pos e, if_pos e, if_pos e]; exact ⟨hk, ha, hb⟩
    · rw [if_neg e, if_neg e, if_neg e]; exact w9 f, w10, w11, w12, w13, w14, w15, w16⟩

theorem WF_sun (h : WF A B) {p y : Nat} (hp : p < 7) (hy : y ≤ 1) (h6 : A 0 2 < 60) : WF (A_sun A p y) B := by
  obtain ⟨w1, w2, w3, w4, w5, w6, w7, w8, w9, w10, w11, w12, w13, w14, w15, w16⟩ := h
  exact ⟨w1, w2, w3, w4, w5, fun a b => by rw [A_sun_20]; exact w6 a b, fun a => by rw [A_sun_20]; exact w7 a, w8, w9, h6, fun q => by
    show (if q = p then A 9 p + y else A 9 q) ≤ (if q = p then A 8 p + 1 else A 8 q) ∧ (if q = p then A 8 p + 1 else A 8 q) ≤ A 0 2 + 1
    have h1 := w11 q
    have h2 := w11 p
    by_cases e : q = p
    · rw [if_pos e, if_pos e]; omega
    · rw [if_neg e, if_neg e]; omega, by
    show (if 0 = p then A 8 p + 1 else A 8 0) + (if 1 = p then A 8 p + 1 else A 8 1) + (if 2 = p then A 8 p + 1 else A 8 2) + (if 3 = p then A 8 p + 1 else A 8 3) + (if 4 = p then A 8 p + 1 else A 8 4) + (if 5 = p then A 8 p + 1 else A 8 5) + (if 6 = p then A 8 p + 1 else A 8 6) = A 0 2 + 1
    rcases (show p = 0 ∨ p = 1 ∨ p = 2 ∨ p = 3 ∨ p = 4 ∨ p = 5 ∨ p = 6 by omega) with e | e | e | e | e | e | e <;> subst e <;> simp only [reduceIte, Nat.reduceEqDiff, Nat.succ_ne_self] <;> omega, w13, w14, w15, w16⟩

theorem WF_love (h : WF A B) {a b v : Nat} (hab : a ≠ b) (hv : v ≤ 20) : WF (A_love A a b v) B := by
  obtain ⟨w1, w2, w3, w4, w5, w6, w7, w8, w9, w10, w11, w12, w13, w14, w15, w16⟩ := h
  unfold WF
  rw [A_love_ne (c := 0) (by omega), A_love_ne (c := 1) (by omega), A_love_ne (c := 2) (by omega), A_love_ne (c := 3) (by omega), A_love_ne (c := 4) (by omega), A_love_ne (c := 5) (by omega), A_love_ne (c := 6) (by omega), A_love_ne (c := 7) (by omega), A_love_ne (c := 8) (by omega), A_love_ne (c := 9) (by omega), A_love_ne (c := 11) (by omega)]
  refine ⟨w1, w2, w3, w4, w5, fun c j => ?_, fun c => ?_, w8, w9, w10, w11, w12, w13, w14, w15, w16⟩
  · rw [A_love_20]
    split
    · exact hv
    · exact w6 c j
  · rw [A_love_20, if_neg (by omega)]
    exact w7 c
theorem WF_B0 (h : WF A B) {s : Nat} {v : Int} (hv : -1 ≤ v ∧ v ≤ 2) : WF A (am_u B 0 s v) := by
  obtain ⟨w1, w2, w3, w4, w5, w6, w7, w8, w9, w10, w11, w12, w13, w14, w15, w16⟩ := h
  refine ⟨w1, w2, w3, w4, w5, w6, w7, w8, w9, w10, w11, w12, w13, fun t => ?_, fun t i => ?_, w16⟩
  · rw [am_u_at]
    split
    · exact hv
    · exact w14 t
  · rw [am_u_ne (by omega)]
    exact w15 t i
theorem WF_B1 (h : WF A B) {s : Nat} {f : Nat → Int} (hf : ∀ i, zr (f i)) : WF A (am_ur B (1 + s) f) := by
  obtain ⟨w1, w2, w3, w4, w5, w6, w7, w8, w9, w10, w11, w12, w13, w14, w15, w16⟩ := h
  refine ⟨w1, w2, w3, w4, w5, w6, w7, w8, w9, w10, w11, w12, w13, fun t => ?_, fun t i => ?_, w16⟩
  · rw [am_ur_ne (by omega)]
    exact w14 t
  · by_cases e : t = s
    · rw [e, am_ur_at]
      exact hf i
    · rw [am_ur_ne (by omega)]
      exact w15 t i

theorem CS_4 {f : Nat → Nat} (hs : CS A B n w3 g σ r1 r2 W1 W2) (k : ∀ c, ¬ (c = 21 ∨ c = 4) → σ' c = σ c) (hr : ∀ p, p < 7 → σ' 21 p = Int32.ofInt (f p : Int)) (m : ∀ i, i ≠ 15 → σ' 4 i = σ 4 i) (m5 : σ' 4 15 = Int32.ofInt 0) : CS (am_ur A 4 f) B n w3 g σ' r1 r2 W1 W2 := by
  have hx := hs.1
  have k4 := m 13 (by decide)
  exact CS_mk hs (IX_mk hx (Or.inr ⟨rfl, rfl, k 5 (by omega), k 6 (by omega), k 7 (by omega), k 8 (by omega)⟩) (Or.inr ⟨rfl, k 10 (by omega)⟩) (Or.inr ⟨rfl, k 12 (by omega)⟩) (Or.inr ⟨fun a => am_ur_ne (by omega), fun a ha => k (14 + a) (by omega)⟩) (Or.inl hr) (Or.inr ⟨rfl, rfl, rfl, rfl, k 35 (by omega), k 36 (by omega), k 37 (by omega), k 38 (by omega)⟩) (Or.inr ⟨rfl, rfl, rfl, k 44 (by omega), k 45 (by omega), k 46 (by omega)⟩) (Or.inr ⟨rfl, rfl, fun s hs => ⟨k (48 + 2 * s) (by omega), k (49 + 2 * s) (by omega)⟩⟩) (Or.inr ⟨rfl, k4⟩)) (fun c e => k c (by omega)) (Or.inr ⟨m 14 (by decide), AG_4⟩) (Or.inl m5) (Or.inr ⟨m 16 (by decide), AG_4, rfl, rfl, rfl, rfl⟩)
theorem CS_2 {f : Nat → Nat} (hs : CS A B n w3 g σ r1 r2 W1 W2) (k : ∀ c, ¬ c = 10 → σ' c = σ c) (hr : ∀ p, p < 61 → σ' 10 p = Int32.ofInt (prz f p : Int)) : CS (am_ur A 2 f) B n w3 g (drp σ') r1 r2 W1 W2 := by
  have hx := hs.1
  have k4 : σ' 4 13 = σ 4 13 := by rw [k 4 (by omega)]
  exact CS_drp hs (IX_mk hx (Or.inr ⟨rfl, rfl, k 5 (by omega), k 6 (by omega), k 7 (by omega), k 8 (by omega)⟩) (Or.inl hr) (Or.inr ⟨rfl, k 12 (by omega)⟩) (Or.inr ⟨fun a => am_ur_ne (by omega), fun a ha => k (14 + a) (by omega)⟩) (Or.inr ⟨rfl, k 21 (by omega)⟩) (Or.inr ⟨rfl, rfl, rfl, rfl, k 35 (by omega), k 36 (by omega), k 37 (by omega), k 38 (by omega)⟩) (Or.inr ⟨rfl, rfl, rfl, k 44 (by omega), k 45 (by omega), k 46 (by omega)⟩) (Or.inr ⟨rfl, rfl, fun s hs => ⟨k (48 + 2 * s) (by omega), k (49 + 2 * s) (by omega)⟩⟩) (Or.inr ⟨rfl, k4⟩)) (fun c e => k c (by omega))
theorem CS_3 {f : Nat → Nat} (hs : CS A B n w3 g σ r1 r2 W1 W2) (k : ∀ c, ¬ c = 12 → σ' c = σ c) (hr : ∀ p, p < 6 → σ' 12 p = Int32.ofInt (f p : Int)) : CS (am_ur A 3 f) B n w3 g (drp σ') r1 r2 W1 W2 := by
  have hx := hs.1
  have k4 : σ' 4 13 = σ 4 13 := by rw [k 4 (by omega)]
  exact CS_drp hs (IX_mk hx (Or.inr ⟨rfl, rfl, k 5 (by omega), k 6 (by omega), k 7 (by omega), k 8 (by omega)⟩) (Or.inr ⟨rfl, k 10 (by omega)⟩) (Or.inl hr) (Or.inr ⟨fun a => am_ur_ne (by omega), fun a ha => k (14 + a) (by omega)⟩) (Or.inr ⟨rfl, k 21 (by omega)⟩) (Or.inr ⟨rfl, rfl, rfl, rfl, k 35 (by omega), k 36 (by omega), k 37 (by omega), k 38 (by omega)⟩) (Or.inr ⟨rfl, rfl, rfl, k 44 (by omega), k 45 (by omega), k 46 (by omega)⟩) (Or.inr ⟨rfl, rfl, fun s hs => ⟨k (48 + 2 * s) (by omega), k (49 + 2 * s) (by omega)⟩⟩) (Or.inr ⟨rfl, k4⟩)) (fun c e => k c (by omega))
theorem CS_type {b : Nat} (hs : CS A B n w3 g σ r1 r2 W1 W2) (k : ∀ c, ¬ (5 ≤ c ∧ c ≤ 8) → σ' c = σ c) (hr : ixP (A_type A b) σ') : CS (A_type A b) B n w3 g (drp σ') r1 r2 W1 W2 := by
  have hx := hs.1
  have k4 : σ' 4 13 = σ 4 13 := by rw [k 4 (by omega)]
  exact CS_drp hs (IX_mk hx (Or.inl hr) (Or.inr ⟨rfl, k 10 (by omega)⟩) (Or.inr ⟨rfl, k 12 (by omega)⟩) (Or.inr ⟨fun a => A_type_20 a, fun a ha => k (14 + a) (by omega)⟩) (Or.inr ⟨rfl, k 21 (by omega)⟩) (Or.inr ⟨rfl, rfl, rfl, rfl, k 35 (by omega), k 36 (by omega), k 37 (by omega), k 38 (by omega)⟩) (Or.inr ⟨rfl, rfl, rfl, k 44 (by omega), k 45 (by omega), k 46 (by omega)⟩) (Or.inr ⟨rfl, rfl, fun s hs => ⟨k (48 + 2 * s) (by omega), k (49 + 2 * s) (by omega)⟩⟩) (Or.inr ⟨rfl, k4⟩)) (fun c e => k c (by omega))
theorem CS_wipe (hs : CS A B n w3 g σ r1 r2 W1 W2) (k : ∀ c, ¬ (5 ≤ c ∧ c ≤ 8) → σ' c = σ c) (hr : ixP (A_wipe A) σ') : CS (A_wipe A) B n w3 g (drp σ') r1 r2 W1 W2 := by
  have hx := hs.1
  have k4 : σ' 4 13 = σ 4 13 := by rw [k 4 (by omega)]
  exact CS_drp hs (IX_mk hx (Or.inl hr) (Or.inr ⟨rfl, k 10 (by omega)⟩) (Or.inr ⟨rfl, k 12 (by omega)⟩) (Or.inr ⟨fun a => A_wipe_20 a, fun a ha => k (14 + a) (by omega)⟩) (Or.inr ⟨rfl, k 21 (by omega)⟩) (Or.inr ⟨rfl, rfl, rfl, rfl, k 35 (by omega), k 36 (by omega), k 37 (by omega), k 38 (by omega)⟩) (Or.inr ⟨rfl, rfl, rfl, k 44 (by omega), k 45 (by omega), k 46 (by omega)⟩) (Or.inr ⟨rfl, rfl, fun s hs => ⟨k (48 + 2 * s) (by omega), k (49 + 2 * s) (by omega)⟩⟩) (Or.inr ⟨rfl, k4⟩)) (fun c e => k c (by omega))
theorem CS_love {a b v : Nat} (hs : CS A B n w3 g σ r1 r2 W1 W2) (k : ∀ c, ¬ (14 ≤ c ∧ c ≤ 20) → σ' c = σ c) (hr : ixL (A_love A a b v) σ') : CS (A_love A a b v) B n w3 g (drp σ') r1 r2 W1 W2 := by
  have hx := hs.1
  have k4 : σ' 4 13 = σ 4 13 := by rw [k 4 (by omega)]
  have e0 : A_love A a b v 0 = A 0 := A_love_ne (by omega)
  have e1 : A_love A a b v 1 = A 1 := A_love_ne (by omega)
  have e2 : A_love A a b v 2 = A 2 := A_love_ne (by omega)
  have e3 : A_love A a b v 3 = A 3 := A_love_ne (by omega)
  have e4 : A_love A a b v 4 = A 4 := A_love_ne (by omega)
  have e5 : A_love A a b v 5 = A 5 := A_love_ne (by omega)
  have e6 : A_love A a b v 6 = A 6 := A_love_ne (by omega)
  have e7 : A_love A a b v 7 = A 7 := A_love_ne (by omega)
  have e8 : A_love A a b v 8 = A 8 := A_love_ne (by omega)
  have e9 : A_love A a b v 9 = A 9 := A_love_ne (by omega)
  have e11 : A_love A a b v 11 = A 11 := A_love_ne (by omega)
  exact CS_drp hs (IX_mk hx (Or.inr ⟨by rw [e0], e1, k 5 (by omega), k 6 (by omega), k 7 (by omega), k 8 (by omega)⟩) (Or.inr ⟨e2, k 10 (by omega)⟩) (Or.inr ⟨e3, k 12 (by omega)⟩) (Or.inl hr) (Or.inr ⟨e4, k 21 (by omega)⟩) (Or.inr ⟨by rw [e0], e5, e6, e7, k 35 (by omega), k 36 (by omega), k 37 (by omega), k 38 (by omega)⟩) (Or.inr ⟨by rw [e0], e8, e9, k 44 (by omega), k 45 (by omega), k 46 (by omega)⟩) (Or.inr ⟨e11, rfl, fun s hs => ⟨k (48 + 2 * s) (by omega), k (49 + 2 * s) (by omega)⟩⟩) (Or.inr ⟨by rw [e0], k4⟩)) (fun c e => k c (by omega))
theorem CS_fact {a b v : Nat} (hs : CS A B n w3 g σ r1 r2 W1 W2) (k : ∀ c, ¬ ((35 ≤ c ∧ c ≤ 38) ∨ c = 4) → σ' c = σ c) (m : ∀ i, i ≠ 16 → σ' 4 i = σ 4 i) (m6 : σ' 4 16 = Int32.ofInt 0) (hr : ixF (A_fact A (A 0 1) a b v) σ') : CS (A_fact A (A 0 1) a b v) B n w3 g σ' r1 r2 W1 W2 := by
  have hx := hs.1
  have k4 := m 13 (by decide)
  exact CS_mk hs (IX_mk hx (Or.inr ⟨rfl, rfl, k 5 (by omega), k 6 (by omega), k 7 (by omega), k 8 (by omega)⟩) (Or.inr ⟨rfl, k 10 (by omega)⟩) (Or.inr ⟨rfl, k 12 (by omega)⟩) (Or.inr ⟨fun a => A_fact_20 a, fun a ha => k (14 + a) (by omega)⟩) (Or.inr ⟨rfl, k 21 (by omega)⟩) (Or.inl hr) (Or.inr ⟨rfl, rfl, rfl, k 44 (by omega), k 45 (by omega), k 46 (by omega)⟩) (Or.inr ⟨rfl, rfl, fun s hs => ⟨k (48 + 2 * s) (by omega), k (49 + 2 * s) (by omega)⟩⟩) (Or.inr ⟨rfl, k4⟩)) (fun c e => k c (by omega)) (Or.inr ⟨m 14 (by decide), AG_fact⟩) (Or.inr ⟨m 15 (by decide), AG_fact, rfl⟩) (Or.inl m6)
theorem CS_forget (hs : CS A B n w3 g σ r1 r2 W1 W2) (k : ∀ c, ¬ (c = 35 ∨ c = 4) → σ' c = σ c) (m : ∀ i, i ≠ 16 → σ' 4 i = σ 4 i) (m6 : σ' 4 16 = Int32.ofInt 0) (hr : ixF (am_u A 0 1 0) σ') : CS (am_u A 0 1 0) B n w3 g σ' r1 r2 W1 W2 := by
  have hx := hs.1
  have k4 := m 13 (by decide)
  exact CS_mk hs (IX_mk hx (Or.inr ⟨rfl, rfl, k 5 (by omega), k 6 (by omega), k 7 (by omega), k 8 (by omega)⟩) (Or.inr ⟨rfl, k 10 (by omega)⟩) (Or.inr ⟨rfl, k 12 (by omega)⟩) (Or.inr ⟨fun a => am_u_ne (by omega), fun a ha => k (14 + a) (by omega)⟩) (Or.inr ⟨rfl, k 21 (by omega)⟩) (Or.inl hr) (Or.inr ⟨rfl, rfl, rfl, k 44 (by omega), k 45 (by omega), k 46 (by omega)⟩) (Or.inr ⟨rfl, rfl, fun s hs => ⟨k (48 + 2 * s) (by omega), k (49 + 2 * s) (by omega)⟩⟩) (Or.inr ⟨rfl, k4⟩)) (fun c e => k c (by omega)) (Or.inr ⟨m 14 (by decide), AG_0 (by decide)⟩) (Or.inr ⟨m 15 (by decide), AG_0 (by decide), rfl⟩) (Or.inl m6)
theorem CS_sun {p y : Nat} (hs : CS A B n w3 g σ r1 r2 W1 W2) (k : ∀ c, ¬ (44 ≤ c ∧ c ≤ 46) → σ' c = σ c) (hr : ixU (A_sun A p y) σ') : CS (A_sun A p y) B n w3 g σ' r1 r2 W1 W2 := by
  have hx := hs.1
  have m := k 4 (by omega)
  have k4 : σ' 4 13 = σ 4 13 := by rw [m]
  exact CS_mk hs (IX_mk hx (Or.inr ⟨rfl, rfl, k 5 (by omega), k 6 (by omega), k 7 (by omega), k 8 (by omega)⟩) (Or.inr ⟨rfl, k 10 (by omega)⟩) (Or.inr ⟨rfl, k 12 (by omega)⟩) (Or.inr ⟨fun a => A_sun_20 a, fun a ha => k (14 + a) (by omega)⟩) (Or.inr ⟨rfl, k 21 (by omega)⟩) (Or.inr ⟨rfl, rfl, rfl, rfl, k 35 (by omega), k 36 (by omega), k 37 (by omega), k 38 (by omega)⟩) (Or.inl hr) (Or.inr ⟨rfl, rfl, fun s hs => ⟨k (48 + 2 * s) (by omega), k (49 + 2 * s) (by omega)⟩⟩) (Or.inr ⟨rfl, k4⟩)) (fun c e => k c (by omega)) (Or.inr ⟨by rw [m], AG_sun⟩) (Or.inr ⟨by rw [m], AG_sun, rfl⟩) (Or.inr ⟨by rw [m], AG_sun, rfl, rfl, rfl, rfl⟩)
theorem CS_l {v : Nat} (hs : CS A B n w3 g σ r1 r2 W1 W2) : CS (am_u A 0 3 v) B n w3 g (am_u σ 4 13 (Int32.ofInt (v : Int))) r1 r2 W1 W2 := by
  have hx := hs.1
  have k : ∀ c, ¬ c = 4 → am_u σ 4 13 (Int32.ofInt (v : Int)) c = σ c := fun c e => am_u_ne e
  exact CS_mk hs (IX_mk hx (Or.inr ⟨rfl, rfl, k 5 (by omega), k 6 (by omega), k 7 (by omega), k 8 (by omega)⟩) (Or.inr ⟨rfl, k 10 (by omega)⟩) (Or.inr ⟨rfl, k 12 (by omega)⟩) (Or.inr ⟨fun a => am_u_ne (by omega), fun a ha => k (14 + a) (by omega)⟩) (Or.inr ⟨rfl, k 21 (by omega)⟩) (Or.inr ⟨rfl, rfl, rfl, rfl, k 35 (by omega), k 36 (by omega), k 37 (by omega), k 38 (by omega)⟩) (Or.inr ⟨rfl, rfl, rfl, k 44 (by omega), k 45 (by omega), k 46 (by omega)⟩) (Or.inr ⟨rfl, rfl, fun s hs => ⟨k (48 + 2 * s) (by omega), k (49 + 2 * s) (by omega)⟩⟩) (Or.inl rfl)) (fun c e => k c (by omega)) (Or.inr ⟨rfl, AG_0 (by decide)⟩) (Or.inr ⟨rfl, AG_0 (by decide), rfl⟩) (Or.inr ⟨rfl, AG_0 (by decide), rfl, rfl, rfl, rfl⟩)
theorem CS_H {f : Nat → Nat} {B' : aZ} (hs : CS A B n w3 g σ r1 r2 W1 W2) (k : ∀ c, ¬ ((48 ≤ c ∧ c ≤ 55) ∨ (22 ≤ c ∧ c ≤ 25)) → σ' c = σ c) (hr : ixH (am_ur A 11 f) B' σ') : CS (am_ur A 11 f) B' n w3 g σ' r1 r2 W1 W2 := by
  have hx := hs.1
  have m := k 4 (by omega)
  have k4 : σ' 4 13 = σ 4 13 := by rw [m]
  exact CS_mk hs (IX_mk hx (Or.inr ⟨rfl, rfl, k 5 (by omega), k 6 (by omega), k 7 (by omega), k 8 (by omega)⟩) (Or.inr ⟨rfl, k 10 (by omega)⟩) (Or.inr ⟨rfl, k 12 (by omega)⟩) (Or.inr ⟨fun a => am_ur_ne (by omega), fun a ha => k (14 + a) (by omega)⟩) (Or.inr ⟨rfl, k 21 (by omega)⟩) (Or.inr ⟨rfl, rfl, rfl, rfl, k 35 (by omega), k 36 (by omega), k 37 (by omega), k 38 (by omega)⟩) (Or.inr ⟨rfl, rfl, rfl, k 44 (by omega), k 45 (by omega), k 46 (by omega)⟩) (Or.inl hr) (Or.inr ⟨rfl, k4⟩)) (fun c e => k c (by omega)) (Or.inr ⟨by rw [m], AG_11⟩) (Or.inr ⟨by rw [m], AG_11, rfl⟩) (Or.inr ⟨by rw [m], AG_11, rfl, rfl, rfl, rfl⟩)
theorem IM_4 {f : Nat → Nat} (hm : IM A B σ) (k : ∀ c, ¬ (c = 64 ∨ c = 56) → σ' c = σ c) (m : ∀ i, ¬ i = 100 → σ' 56 i = σ 56 i) (hr : rW f σ') : IM (am_ur A 4 f) B σ' := by
  exact IM_mk hm (Or.inr ⟨rfl, rfl, m 6 (by omega), k 61 (by omega)⟩) (Or.inr ⟨rfl, k 65 (by omega)⟩) (Or.inr ⟨rfl, k 66 (by omega)⟩) (Or.inr ⟨fun a => am_ur_ne (by omega), k 67 (by omega)⟩) (Or.inl hr) (Or.inr ⟨rfl, rfl, rfl, rfl, m 19 (by omega), k 70 (by omega)⟩) (Or.inr ⟨rfl, rfl, rfl, m 27 (by omega), k 75 (by omega), k 76 (by omega)⟩) (Or.inr ⟨rfl, rfl, k 57 (by omega), k 58 (by omega), k 59 (by omega)⟩) (Or.inr ⟨rfl, m 4 (by omega)⟩)
theorem IM_2 {f : Nat → Nat} (hm : IM A B σ) (k : ∀ c, ¬ (c = 65 ∨ c = 56) → σ' c = σ c) (m : ∀ i, ¬ i = 100 → σ' 56 i = σ 56 i) (hr : ∀ p, p < 60 → σ' 65 p = Int32.ofInt (f p : Int)) : IM (am_ur A 2 f) B σ' := by
  exact IM_mk hm (Or.inr ⟨rfl, rfl, m 6 (by omega), k 61 (by omega)⟩) (Or.inl hr) (Or.inr ⟨rfl, k 66 (by omega)⟩) (Or.inr ⟨fun a => am_ur_ne (by omega), k 67 (by omega)⟩) (Or.inr ⟨rfl, k 64 (by omega)⟩) (Or.inr ⟨rfl, rfl, rfl, rfl, m 19 (by omega), k 70 (by omega)⟩) (Or.inr ⟨rfl, rfl, rfl, m 27 (by omega), k 75 (by omega), k 76 (by omega)⟩) (Or.inr ⟨rfl, rfl, k 57 (by omega), k 58 (by omega), k 59 (by omega)⟩) (Or.inr ⟨rfl, m 4 (by omega)⟩)
theorem IM_3 {f : Nat → Nat} (hm : IM A B σ) (k : ∀ c, ¬ (c = 66 ∨ c = 56) → σ' c = σ c) (m : ∀ i, ¬ i = 100 → σ' 56 i = σ 56 i) (hr : ∀ p, p < 6 → σ' 66 p = Int32.ofInt (f p : Int)) : IM (am_ur A 3 f) B σ' := by
  exact IM_mk hm (Or.inr ⟨rfl, rfl, m 6 (by omega), k 61 (by omega)⟩) (Or.inr ⟨rfl, k 65 (by omega)⟩) (Or.inl hr) (Or.inr ⟨fun a => am_ur_ne (by omega), k 67 (by omega)⟩) (Or.inr ⟨rfl, k 64 (by omega)⟩) (Or.inr ⟨rfl, rfl, rfl, rfl, m 19 (by omega), k 70 (by omega)⟩) (Or.inr ⟨rfl, rfl, rfl, m 27 (by omega), k 75 (by omega), k 76 (by omega)⟩) (Or.inr ⟨rfl, rfl, k 57 (by omega), k 58 (by omega), k 59 (by omega)⟩) (Or.inr ⟨rfl, m 4 (by omega)⟩)
theorem IM_type {b : Nat} (hm : IM A B σ) (k : ∀ c, ¬ (c = 61 ∨ c = 56) → σ' c = σ c) (m : ∀ i, ¬ i = 6 → σ' 56 i = σ 56 i) (hr : rT (A_type A b) σ') : IM (A_type A b) B σ' := by
  exact IM_mk hm (Or.inl hr) (Or.inr ⟨rfl, k 65 (by omega)⟩) (Or.inr ⟨rfl, k 66 (by omega)⟩) (Or.inr ⟨fun a => A_type_20 a, k 67 (by omega)⟩) (Or.inr ⟨rfl, k 64 (by omega)⟩) (Or.inr ⟨rfl, rfl, rfl, rfl, m 19 (by omega), k 70 (by omega)⟩) (Or.inr ⟨rfl, rfl, rfl, m 27 (by omega), k 75 (by omega), k 76 (by omega)⟩) (Or.inr ⟨rfl, rfl, k 57 (by omega), k 58 (by omega), k 59 (by omega)⟩) (Or.inr ⟨rfl, m 4 (by omega)⟩)
theorem IM_wipe  (hm : IM A B σ) (k : ∀ c, ¬ (c = 56) → σ' c = σ c) (m : ∀ i, ¬ i = 6 → σ' 56 i = σ 56 i) (hr : rT (A_wipe A) σ') : IM (A_wipe A) B σ' := by
  exact IM_mk hm (Or.inl hr) (Or.inr ⟨rfl, k 65 (by omega)⟩) (Or.inr ⟨rfl, k 66 (by omega)⟩) (Or.inr ⟨fun a => A_wipe_20 a, k 67 (by omega)⟩) (Or.inr ⟨rfl, k 64 (by omega)⟩) (Or.inr ⟨rfl, rfl, rfl, rfl, m 19 (by omega), k 70 (by omega)⟩) (Or.inr ⟨rfl, rfl, rfl, m 27 (by omega), k 75 (by omega), k 76 (by omega)⟩) (Or.inr ⟨rfl, rfl, k 57 (by omega), k 58 (by omega), k 59 (by omega)⟩) (Or.inr ⟨rfl, m 4 (by omega)⟩)
theorem IM_fact {a b v : Nat} (hm : IM A B σ) (k : ∀ c, ¬ (c = 70 ∨ c = 56) → σ' c = σ c) (m : ∀ i, ¬ i = 19 → σ' 56 i = σ 56 i) (hr : rF (A_fact A (A 0 1) a b v) σ') : IM (A_fact A (A 0 1) a b v) B σ' := by
  exact IM_mk hm (Or.inr ⟨rfl, rfl, m 6 (by omega), k 61 (by omega)⟩) (Or.inr ⟨rfl, k 65 (by omega)⟩) (Or.inr ⟨rfl, k 66 (by omega)⟩) (Or.inr ⟨fun a => A_fact_20 a, k 67 (by omega)⟩) (Or.inr ⟨rfl, k 64 (by omega)⟩) (Or.inl hr) (Or.inr ⟨rfl, rfl, rfl, m 27 (by omega), k 75 (by omega), k 76 (by omega)⟩) (Or.inr ⟨rfl, rfl, k 57 (by omega), k 58 (by omega), k 59 (by omega)⟩) (Or.inr ⟨rfl, m 4 (by omega)⟩)
theorem IM_forget  (hm : IM A B σ) (k : ∀ c, ¬ (c = 56) → σ' c = σ c) (m : ∀ i, ¬ i = 19 → σ' 56 i = σ 56 i) (hr : rF (am_u A 0 1 0) σ') : IM (am_u A 0 1 0) B σ' := by
  exact IM_mk hm (Or.inr ⟨rfl, rfl, m 6 (by omega), k 61 (by omega)⟩) (Or.inr ⟨rfl, k 65 (by omega)⟩) (Or.inr ⟨rfl, k 66 (by omega)⟩) (Or.inr ⟨fun a => am_u_ne (by omega), k 67 (by omega)⟩) (Or.inr ⟨rfl, k 64 (by omega)⟩) (Or.inl hr) (Or.inr ⟨rfl, rfl, rfl, m 27 (by omega), k 75 (by omega), k 76 (by omega)⟩) (Or.inr ⟨rfl, rfl, k 57 (by omega), k 58 (by omega), k 59 (by omega)⟩) (Or.inr ⟨rfl, m 4 (by omega)⟩)
theorem IM_sun {p y : Nat} (hm : IM A B σ) (k : ∀ c, ¬ (c = 75 ∨ c = 76 ∨ c = 56) → σ' c = σ c) (m : ∀ i, ¬ i = 27 → σ' 56 i = σ 56 i) (hr : rU (A_sun A p y) σ') : IM (A_sun A p y) B σ' := by
  exact IM_mk hm (Or.inr ⟨rfl, rfl, m 6 (by omega), k 61 (by omega)⟩) (Or.inr ⟨rfl, k 65 (by omega)⟩) (Or.inr ⟨rfl, k 66 (by omega)⟩) (Or.inr ⟨fun a => A_sun_20 a, k 67 (by omega)⟩) (Or.inr ⟨rfl, k 64 (by omega)⟩) (Or.inr ⟨rfl, rfl, rfl, rfl, m 19 (by omega), k 70 (by omega)⟩) (Or.inl hr) (Or.inr ⟨rfl, rfl, k 57 (by omega), k 58 (by omega), k 59 (by omega)⟩) (Or.inr ⟨rfl, m 4 (by omega)⟩)
theorem IM_H {f : Nat → Nat} {B' : aZ} (hm : IM A B σ) (k : ∀ c, ¬ ((57 ≤ c ∧ c ≤ 60) ∨ c = 56) → σ' c = σ c) (m : ∀ i, ¬ i = 100 → σ' 56 i = σ 56 i) (hr : rH (am_ur A 11 f) B' σ') : IM (am_ur A 11 f) B' σ' := by
  exact IM_mk hm (Or.inr ⟨rfl, rfl, m 6 (by omega), k 61 (by omega)⟩) (Or.inr ⟨rfl, k 65 (by omega)⟩) (Or.inr ⟨rfl, k 66 (by omega)⟩) (Or.inr ⟨fun a => am_ur_ne (by omega), k 67 (by omega)⟩) (Or.inr ⟨rfl, k 64 (by omega)⟩) (Or.inr ⟨rfl, rfl, rfl, rfl, m 19 (by omega), k 70 (by omega)⟩) (Or.inr ⟨rfl, rfl, rfl, m 27 (by omega), k 75 (by omega), k 76 (by omega)⟩) (Or.inl hr) (Or.inr ⟨rfl, m 4 (by omega)⟩)
theorem IM_l {v : Nat} (hm : IM A B σ) : IM (am_u A 0 3 v) B (am_u σ 56 4 (Int32.ofInt (v : Int))) := by
  have k : ∀ c, ¬ c = 56 → am_u σ 56 4 (Int32.ofInt (v : Int)) c = σ c := fun c e => am_u_ne e
  have m : ∀ i, ¬ i = 4 → am_u σ 56 4 (Int32.ofInt (v : Int)) 56 i = σ 56 i := fun i e => by rw [am_u_at, if_neg e]
  exact IM_mk hm (Or.inr ⟨rfl, rfl, m 6 (by omega), k 61 (by omega)⟩) (Or.inr ⟨rfl, k 65 (by omega)⟩) (Or.inr ⟨rfl, k 66 (by omega)⟩) (Or.inr ⟨fun a => am_u_ne (by omega), k 67 (by omega)⟩) (Or.inr ⟨rfl, k 64 (by omega)⟩) (Or.inr ⟨rfl, rfl, rfl, rfl, m 19 (by omega), k 70 (by omega)⟩) (Or.inr ⟨rfl, rfl, rfl, m 27 (by omega), k 75 (by omega), k 76 (by omega)⟩) (Or.inr ⟨rfl, rfl, k 57 (by omega), k 58 (by omega), k 59 (by omega)⟩) (Or.inl rfl)
theorem IM_love {a b v : Nat} (hm : IM A B σ) (k : ∀ c, ¬ (c = 67 ∨ c = 56) → σ' c = σ c) (m : ∀ i, ¬ i = 100 → σ' 56 i = σ 56 i) (hr : rL (A_love A a b v) σ') : IM (A_love A a b v) B σ' := by
  have e0 : A_love A a b v 0 = A 0 := A_love_ne (by omega)
  have e1 : A_love A a b v 1 = A 1 := A_love_ne (by omega)
  have e2 : A_love A a b v 2 = A 2 := A_love_ne (by omega)
  have e3 : A_love A a b v 3 = A 3 := A_love_ne (by omega)
  have e4 : A_love A a b v 4 = A 4 := A_love_ne (by omega)
  have e5 : A_love A a b v 5 = A 5 := A_love_ne (by omega)
  have e6 : A_love A a b v 6 = A 6 := A_love_ne (by omega)
  have e7 : A_love A a b v 7 = A 7 := A_love_ne (by omega)
  have e8 : A_love A a b v 8 = A 8 := A_love_ne (by omega)
  have e9 : A_love A a b v 9 = A 9 := A_love_ne (by omega)
  have e11 : A_love A a b v 11 = A 11 := A_love_ne (by omega)
  exact IM_mk hm (Or.inr ⟨by rw [e0], e1, m 6 (by omega), k 61 (by omega)⟩) (Or.inr ⟨e2, k 65 (by omega)⟩) (Or.inr ⟨e3, k 66 (by omega)⟩) (Or.inl hr) (Or.inr ⟨e4, k 64 (by omega)⟩) (Or.inr ⟨by rw [e0], e5, e6, e7, m 19 (by omega), k 70 (by omega)⟩) (Or.inr ⟨by rw [e0], e8, e9, m 27 (by omega), k 75 (by omega), k 76 (by omega)⟩) (Or.inr ⟨e11, rfl, k 57 (by omega), k 58 (by omega), k 59 (by omega)⟩) (Or.inr ⟨by rw [e0], m 4 (by omega)⟩)
end KND
