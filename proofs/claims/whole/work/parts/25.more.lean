/-! type, wipe, love, facts, Sundays: the class -/
section MO
variable {n w3 : Nat} {g : Nat → Nat × Nat} {σ : Nat → Nat → Int32} {τ : Nat → Nat → Int64} {r1 r2 : Nat} {A : aN} {B : aZ}
/-- a byte more -/
def A_type (A : aN) (b : Nat) : aN := am_u (am_u A 1 (A 0 0) b) 0 0 (A 0 0 + 1)
def A_wipe (A : aN) : aN := am_u A 0 0 0
set_option maxRecDepth 100000 in
theorem c_type (d : Nat) (Q : am_Q) {z : Int} (hz : zr z) (hx : IX A B σ) (hwf : WF A B)
    (hbad : ¬ (0 ≤ z ∧ z ≤ 255) → Q (some (.int (Int32.ofInt (-2)))) (lo_M n w3 g σ τ r1 r2))
    (hfull : (0 ≤ z ∧ z ≤ 255) → 40 ≤ A 0 0 → Q (some (.int (Int32.ofInt (-4)))) (lo_M n w3 g σ τ r1 r2))
    (hok : (0 ≤ z ∧ z ≤ 255) → A 0 0 < 40 → ∀ σ' : Nat → Nat → Int32, (∀ c, c ≠ 5 → c ≠ 6 → c ≠ 7 → c ≠ 8 → σ' c = σ c) → ixP (A_type A z.toNat) σ' → Q (some (.int (Int32.ofInt ((A 0 0 + 1 : Nat) : Int)))) (lo_M n w3 g (drp σ') τ r1 r2)) : am_d (d + 6) 52 [.ref 4, .int (Int32.ofInt z)] 0 0 (lo_M n w3 g σ τ r1 r2) Q := by
  obtain ⟨p1, p2, -⟩ := hx.1
  have h40 := hwf.1
  refine am_goT T_X9_type [.ref 4, .int (Int32.ofInt z)] rfl rfl (fun _ => false) 60 ?_
  refine s_withinZ (d + 4) hz (by unfold zr; omega) (by unfold zr; omega) _ _ ?_
  by_cases c : 0 ≤ z ∧ z ≤ 255
  · rw [if_pos c]
    refine And.intro (fun q => absurd q (by decide)) (fun _ => ?_)
    refine And.intro (fun c1 => ?_) (fun c1 => ?_)
    · have c1 : σ 5 3 < Int32.ofInt 40 := c1
      rw [p1, zlt (by unfold zr; omega) (by unfold zr; omega)] at c1
      refine am_goT (d := d + 4) (k := 28) T_X4_append [.ref 5, .int (Int32.ofInt z)] rfl rfl (fun _ => false) 60 ?_
      refine And.intro (fun c2 => ?_) (fun c2 => ?_)
      · have c2 : Int32.ofInt 40 ≤ σ 5 3 := c2
        rw [p1, zle (by unfold zr; omega) (by unfold zr; omega)] at c2
        omega
      · refine ixi (A 0 0) 40 (by omega) ?_ p1
        have hA0 : A_type A z.toNat 0 0 = A 0 0 + 1 := by
          unfold A_type
          rw [am_u_at, if_pos rfl]
        have hA1 : ∀ i, A_type A z.toNat 1 i = if i = A 0 0 then z.toNat else A 1 i := by
          intro i
          unfold A_type
          rw [am_u_ne (by decide), am_u_at]
        refine s_understand d (A := A_type A z.toNat) (σ := am_u (am_u σ 6 (A 0 0) (Int32.ofInt z)) 5 3 (σ 5 3 + Int32.ofInt 1)) _ (by omega) (fun i => by rw [hA1]; split; omega; exact hwf.2.1 i) ?_ ?_ (fun σ' k1 k2 => ?_)
        · rw [am_u_at, if_pos rfl, hA0, p1, zadd]
          congr 1
        · intro i hi
          rw [am_u_ne (by decide), am_u_at, hA1]
          split
          · congr 1
            omega
          · exact p2 i hi
        · refine s_drop (d + 4) _ ?_
          have h := hok c (by omega) σ' (fun c e1 e2 e3 e4 => by rw [k1 c e1 e3 e4, am_u_ne e1, am_u_ne e2]) k2
          rw [show ((A 0 0 + 1 : Nat) : Int) = ((A_type A z.toNat 0 0 : Nat) : Int) by rw [hA0], ← k2.1] at h
          exact h
    · have c1 : ¬ σ 5 3 < Int32.ofInt 40 := c1
      rw [p1, zlt (by unfold zr; omega) (by unfold zr; omega)] at c1
      exact hfull c (by omega)
  · rw [if_neg c]
    exact And.intro (fun _ => hbad c) (fun q => absurd rfl q)
set_option maxRecDepth 100000 in
theorem c_wipe (d : Nat) (Q : am_Q) (hx : IX A B σ) (hwf : WF A B)
    (h : ∀ σ' : Nat → Nat → Int32, (∀ c, c ≠ 5 → c ≠ 7 → c ≠ 8 → σ' c = σ c) → ixP (A_wipe A) σ' → Q (some (.int (Int32.ofInt (A 0 0 : Int)))) (lo_M n w3 g (drp σ') τ r1 r2)) : am_d (d + 6) 53 [.ref 4] 0 0 (lo_M n w3 g σ τ r1 r2) Q := by
  obtain ⟨p1, p2, -⟩ := hx.1
  refine am_goT T_X9_wipe [.ref 4, .null] rfl rfl (fun _ => false) 60 ?_
  refine am_goT (d := d + 4) (k := 29) T_X4_clear [.ref 5] rfl rfl (fun _ => false) 60 ?_
  have hA0 : A_wipe A 0 0 = 0 := by
    unfold A_wipe
    rw [am_u_at, if_pos rfl]
  have hA1 : A_wipe A 1 = A 1 := by
    unfold A_wipe
    rw [am_u_ne (by decide)]
  refine s_understand d (A := A_wipe A) (σ := am_u σ 5 3 (Int32.ofInt 0)) _ (by omega) (by rw [hA1]; exact hwf.2.1) ?_ (by rw [hA1, am_u_ne (by decide)]; exact p2) (fun σ' k1 k2 => ?_)
  · rw [am_u_at, if_pos rfl, hA0]
    rfl
  · refine s_drop (d + 4) _ ?_
    have h := h σ' (fun c e1 e2 e3 => by rw [k1 c e1 e2 e3, am_u_ne e1]) k2
    rw [← p1] at h
    exact h
set_option maxRecDepth 100000 in
theorem c_forget (d : Nat) (Q : am_Q) (hx : IX A B σ) (h : Q (some (.int (Int32.ofInt (A 0 1 : Int)))) (lo_M n w3 g (am_u (am_u σ 35 3 (Int32.ofInt 0)) 4 16 (Int32.ofInt 0)) τ r1 r2)) : am_d (d + 1) 71 [.ref 4] 0 0 (lo_M n w3 g σ τ r1 r2) Q := by
  rw [← hx.2.2.2.2.2.1.1] at h
  refine am_goT T_X9_forget [.ref 4, .null] rfl rfl (fun _ => false) 60 ?_
  exact And.intro (Or.inl rfl) h
/-- a fact more -/
def fcM (σ : Nat → Nat → Int32) (f : Nat) (k a b : Int32) : Nat → Nat → Int32 := am_u (am_u (am_u (am_u (am_u σ 36 f k) 37 f a) 38 f b) 35 3 (Int32.ofInt ((f + 1 : Nat) : Int))) 4 16 (Int32.ofInt 0)
set_option maxRecDepth 100000 in
theorem s_addFact (d : Nat) (Q : am_Q) {k a b : Int32} (hx : IX A B σ) (hwf : WF A B)
    (hfull : 8 ≤ A 0 1 → Q (some (.int (Int32.ofInt (-4)))) (lo_M n w3 g σ τ r1 r2))
    (hok : A 0 1 < 8 → Q (some (.int (Int32.ofInt ((A 0 1 + 1 : Nat) : Int)))) (lo_M n w3 g (fcM σ (A 0 1) k a b) τ r1 r2)) : am_d (d + 2) 103 [.ref 4, .int k, .int a, .int b] 0 0 (lo_M n w3 g σ τ r1 r2) Q := by
  have f1 := hx.2.2.2.2.2.1.1
  have f8 := hwf.2.2.2.2.2.2.2.1
  refine am_goT T_X9_addFact [.ref 4, .int k, .int a, .int b] rfl rfl (fun _ => false) 60 ?_
  refine And.intro (fun c1 => ?_) (fun c1 => ?_)
  · have c1 : σ 35 3 < Int32.ofInt 8 := c1
    rw [f1, zlt (by unfold zr; omega) (by unfold zr; omega)] at c1
    have hok := hok (by omega)
    have e1 : Int32.ofInt ((A 0 1 + 1 : Nat) : Int) = σ 35 3 + Int32.ofInt 1 := by rw [f1, zadd]; congr 1
    unfold fcM at hok
    rw [e1] at hok
    refine am_goT (d := d) (k := 9) T_X1_add [.ref 35, .int k, .int a, .int b] rfl rfl (fun _ => false) 60 ?_
    refine And.intro (fun c2 => ?_) (fun c2 => ?_)
    · have c2 : Int32.ofInt 8 ≤ σ 35 3 := c2
      rw [f1, zle (by unfold zr; omega) (by unfold zr; omega)] at c2
      omega
    · refine ixi (A 0 1) 8 (by omega) ?_ f1
      refine ixi (A 0 1) 8 (by omega) ?_ f1
      refine ixi (A 0 1) 8 (by omega) ?_ f1
      exact And.intro (Or.inl rfl) hok
  · have c1 : ¬ σ 35 3 < Int32.ofInt 8 := c1
    rw [f1, zlt (by unfold zr; omega) (by unfold zr; omega)] at c1
    exact hfull (by omega)
set_option maxRecDepth 100000 in
theorem c_sat (d : Nat) (Q : am_Q) {z y : Int} (hz : zr z) (hy : zr y) (hx : IX A B σ) (hwf : WF A B)
    (hbad : ¬ ((0 ≤ z ∧ z ≤ 6) ∧ 0 ≤ y ∧ y ≤ 6) → Q (some (.int (Int32.ofInt (-2)))) (lo_M n w3 g σ τ r1 r2))
    (hfull : (0 ≤ z ∧ z ≤ 6) ∧ 0 ≤ y ∧ y ≤ 6 → 8 ≤ A 0 1 → Q (some (.int (Int32.ofInt (-4)))) (lo_M n w3 g σ τ r1 r2))
    (hok : (0 ≤ z ∧ z ≤ 6) ∧ 0 ≤ y ∧ y ≤ 6 → A 0 1 < 8 → Q (some (.int (Int32.ofInt ((A 0 1 + 1 : Nat) : Int)))) (lo_M n w3 g (fcM σ (A 0 1) (Int32.ofInt 0) (Int32.ofInt z) (Int32.ofInt y)) τ r1 r2)) : am_d (d + 3) 69 [.ref 4, .int (Int32.ofInt z), .int (Int32.ofInt y)] 0 0 (lo_M n w3 g σ τ r1 r2) Q := by
  refine am_goT T_X9_sat [.ref 4, .int (Int32.ofInt z), .int (Int32.ofInt y)] rfl rfl (fun _ => false) 60 ?_
  refine s_isNumber d _ _ hz ?_
  by_cases c : 0 ≤ z ∧ z ≤ 6
  · rw [if_pos c]
    refine And.intro (fun q => absurd q (by decide)) (fun _ => ?_)
    refine s_withinZ (d + 1) hy (by unfold zr; omega) (by unfold zr; omega) _ _ ?_
    by_cases cy : 0 ≤ y ∧ y ≤ 6
    · rw [if_pos cy]
      refine And.intro (fun q => absurd q (by decide)) (fun _ => ?_)
      exact s_addFact d _ hx hwf (fun e => hfull ⟨c, cy⟩ e) (fun e => hok ⟨c, cy⟩ e)
    · rw [if_neg cy]
      exact And.intro (fun _ => hbad (fun q => cy q.2)) (fun q => absurd rfl q)
  · rw [if_neg c]
    exact And.intro (fun _ => hbad (fun q => c q.1)) (fun q => absurd rfl q)
set_option maxRecDepth 100000 in
theorem c_front (d : Nat) (Q : am_Q) {z y : Int} (hz : zr z) (hy : zr y) (hx : IX A B σ) (hwf : WF A B)
    (hbad : ¬ ((0 ≤ z ∧ z ≤ 6) ∧ (0 ≤ y ∧ y ≤ 6) ∧ z ≠ y) → Q (some (.int (Int32.ofInt (-2)))) (lo_M n w3 g σ τ r1 r2))
    (hfull : (0 ≤ z ∧ z ≤ 6) ∧ (0 ≤ y ∧ y ≤ 6) ∧ z ≠ y → 8 ≤ A 0 1 → Q (some (.int (Int32.ofInt (-4)))) (lo_M n w3 g σ τ r1 r2))
    (hok : (0 ≤ z ∧ z ≤ 6) ∧ (0 ≤ y ∧ y ≤ 6) ∧ z ≠ y → A 0 1 < 8 → Q (some (.int (Int32.ofInt ((A 0 1 + 1 : Nat) : Int)))) (lo_M n w3 g (fcM σ (A 0 1) (Int32.ofInt 1) (Int32.ofInt z) (Int32.ofInt y)) τ r1 r2)) : am_d (d + 3) 70 [.ref 4, .int (Int32.ofInt z), .int (Int32.ofInt y)] 0 0 (lo_M n w3 g σ τ r1 r2) Q := by
  refine am_goT T_X9_front [.ref 4, .int (Int32.ofInt z), .int (Int32.ofInt y)] rfl rfl (fun _ => false) 60 ?_
  refine s_isNumber d _ _ hz ?_
  by_cases c : 0 ≤ z ∧ z ≤ 6
  · rw [if_pos c]
    refine And.intro (fun q => absurd q (by decide)) (fun _ => ?_)
    refine s_isNumber d _ _ hy ?_
    by_cases cy : 0 ≤ y ∧ y ≤ 6
    · rw [if_pos cy]
      refine And.intro (fun q => absurd q (by decide)) (fun _ => ?_)
      refine And.intro (fun e => ?_) (fun e => ?_)
      · rw [zeq hz hy] at e
        exact hbad (fun q => q.2.2 e)
      · rw [zeq hz hy] at e
        exact s_addFact d _ hx hwf (fun e2 => hfull ⟨c, cy, e⟩ e2) (fun e2 => hok ⟨c, cy, e⟩ e2)
    · rw [if_neg cy]
      exact And.intro (fun _ => hbad (fun q => cy q.2.1)) (fun q => absurd rfl q)
  · rw [if_neg c]
    exact And.intro (fun _ => hbad (fun q => c q.1)) (fun q => absurd rfl q)
/-- a Sunday more -/
def suM (σ : Nat → Nat → Int32) (p : Nat) (y : Int32) : Nat → Nat → Int32 := am_u (am_u (am_u σ 45 p (σ 45 p + Int32.ofInt 1)) 46 p (σ 46 p + y)) 44 2 (σ 44 2 + Int32.ofInt 1)
set_option maxRecDepth 100000 in
theorem c_sunday (d : Nat) (Q : am_Q) {z y : Int} (hz : zr z) (hy : zr y) (hx : IX A B σ) (hwf : WF A B)
    (hbad : ¬ ((0 ≤ z ∧ z ≤ 6) ∧ 0 ≤ y ∧ y ≤ 1) → Q (some (.int (Int32.ofInt (-2)))) (lo_M n w3 g σ τ r1 r2))
    (hfull : (0 ≤ z ∧ z ≤ 6) ∧ 0 ≤ y ∧ y ≤ 1 → 60 ≤ A 0 2 → Q (some (.int (Int32.ofInt (-4)))) (lo_M n w3 g σ τ r1 r2))
    (hok : (0 ≤ z ∧ z ≤ 6) ∧ 0 ≤ y ∧ y ≤ 1 → A 0 2 < 60 → Q (some (.int (Int32.ofInt ((A 8 z.toNat + 1 : Nat) : Int)))) (lo_M n w3 g (suM σ z.toNat (Int32.ofInt y)) τ r1 r2)) : am_d (d + 3) 76 [.ref 4, .int (Int32.ofInt z), .int (Int32.ofInt y)] 0 0 (lo_M n w3 g σ τ r1 r2) Q := by
  obtain ⟨u1, u2⟩ := hx.2.2.2.2.2.2.1
  have u60 := hwf.2.2.2.2.2.2.2.2.2.1
  refine am_goT T_X9_sunday [.ref 4, .int (Int32.ofInt z), .int (Int32.ofInt y)] rfl rfl (fun _ => false) 60 ?_
  refine s_isNumber d _ _ hz ?_
  by_cases c : 0 ≤ z ∧ z ≤ 6
  · rw [if_pos c]
    refine And.intro (fun q => absurd q (by decide)) (fun _ => ?_)
    refine s_withinZ (d + 1) hy (by unfold zr; omega) (by unfold zr; omega) _ _ ?_
    by_cases cy : 0 ≤ y ∧ y ≤ 1
    · rw [if_pos cy]
      refine And.intro (fun q => absurd q (by decide)) (fun _ => ?_)
      refine And.intro (fun c1 => ?_) (fun c1 => ?_)
      · have c1 : σ 44 2 < Int32.ofInt 60 := c1
        rw [u1, zlt (by unfold zr; omega) (by unfold zr; omega)] at c1
        have hok := hok ⟨c, cy⟩ (by omega)
        have e1 : Int32.ofInt ((A 8 z.toNat + 1 : Nat) : Int) = (suM σ z.toNat (Int32.ofInt y)) 45 z.toNat := by
          unfold suM
          rw [am_u_ne (by decide), am_u_ne (by decide), am_u_at, if_pos rfl, (u2 z.toNat (by omega)).1, zadd]
          congr 1
        rw [e1] at hok
        refine am_goT (d := d + 1) (k := 48) T_X8_add [.ref 44, .int (Int32.ofInt z), .int (Int32.ofInt y)] rfl rfl (fun _ => false) 60 ?_
        refine ixi z.toNat 7 (by omega) ?_ (by congr 1; omega)
        refine ixi z.toNat 7 (by omega) ?_ (by congr 1; omega)
        refine ixi z.toNat 7 (by omega) ?_ (by congr 1; omega)
        refine ixi z.toNat 7 (by omega) ?_ (by congr 1; omega)
        refine ixi z.toNat 7 (by omega) ?_ (by congr 1; omega)
        exact hok
      · have c1 : ¬ σ 44 2 < Int32.ofInt 60 := c1
        rw [u1, zlt (by unfold zr; omega) (by unfold zr; omega)] at c1
        exact hfull ⟨c, cy⟩ (by omega)
    · rw [if_neg cy]
      exact And.intro (fun _ => hbad (fun q => cy q.2)) (fun q => absurd rfl q)
  · rw [if_neg c]
    exact And.intro (fun _ => hbad (fun q => c q.1)) (fun q => absurd rfl q)
/-- love of two, both ways -/
def loM (σ : Nat → Nat → Int32) (a b : Nat) (v : Int32) : Nat → Nat → Int32 := am_u (am_u σ (14 + a) b v) (14 + b) a v
set_option maxHeartbeats 4000000 in
set_option maxRecDepth 100000 in
theorem c_love (d : Nat) (Q : am_Q) {z y v : Int} (hz : zr z) (hy : zr y) (hv : zr v) (hx : IX A B σ)
    (hbad : ¬ ((0 ≤ z ∧ z ≤ 6) ∧ (0 ≤ y ∧ y ≤ 6) ∧ z ≠ y ∧ 0 ≤ v ∧ v ≤ 20) → Q (some (.int (Int32.ofInt (-2)))) (lo_M n w3 g σ τ r1 r2))
    (hok : (0 ≤ z ∧ z ≤ 6) ∧ (0 ≤ y ∧ y ≤ 6) ∧ z ≠ y ∧ 0 ≤ v ∧ v ≤ 20 → Q (some (.int (Int32.ofInt (A (20 + z.toNat) y.toNat : Int)))) (lo_M n w3 g (drp (loM σ z.toNat y.toNat (Int32.ofInt v))) τ r1 r2)) : am_d (d + 3) 59 [.ref 4, .int (Int32.ofInt z), .int (Int32.ofInt y), .int (Int32.ofInt v)] 0 0 (lo_M n w3 g σ τ r1 r2) Q := by
  have hL := hx.2.2.2.1
  refine am_goT T_X9_love [.ref 4, .int (Int32.ofInt z), .int (Int32.ofInt y), .int (Int32.ofInt v), .null] rfl rfl (fun _ => false) 60 ?_
  refine s_isNumber d _ _ hz ?_
  by_cases c : 0 ≤ z ∧ z ≤ 6
  · rw [if_pos c]
    refine And.intro (fun q => absurd q (by decide)) (fun _ => ?_)
    refine s_isNumber d _ _ hy ?_
    by_cases cy : 0 ≤ y ∧ y ≤ 6
    · rw [if_pos cy]
      refine And.intro (fun q => absurd q (by decide)) (fun _ => ?_)
      refine And.intro (fun e => ?_) (fun e => ?_)
      · rw [zeq hz hy] at e
        exact hbad (fun q => q.2.2.1 e)
      · rw [zeq hz hy] at e
        refine s_withinZ (d + 1) hv (by unfold zr; omega) (by unfold zr; omega) _ _ ?_
        by_cases cv : 0 ≤ v ∧ v ≤ 20
        · rw [if_pos cv]
          refine And.intro (fun q => absurd q (by decide)) (fun _ => ?_)
          have hok := hok ⟨c, cy, e, cv⟩
          rw [← hL z.toNat (by omega) y.toNat (by omega)] at hok
          obtain ⟨a, ha⟩ : ∃ a : Nat, z = (a : Int) := ⟨z.toNat, by omega⟩
          obtain ⟨b, hb⟩ : ∃ b : Nat, y = (b : Int) := ⟨y.toNat, by omega⟩
          subst ha
          subst hb
          rw [Int.toNat_natCast, Int.toNat_natCast] at hok
          refine ixi a 7 (by omega) ?_
          rcases (show a = 0 ∨ a = 1 ∨ a = 2 ∨ a = 3 ∨ a = 4 ∨ a = 5 ∨ a = 6 by omega) with rfl | rfl | rfl | rfl | rfl | rfl | rfl
          · refine ixi b 7 (by omega) ?_
            refine ixi 0 7 (by omega) ?_
            refine ixi b 7 (by omega) ?_
            refine ixi b 7 (by omega) ?_
            rcases (show b = 0 ∨ b = 1 ∨ b = 2 ∨ b = 3 ∨ b = 4 ∨ b = 5 ∨ b = 6 by omega) with rfl | rfl | rfl | rfl | rfl | rfl | rfl
            all_goals first
              | exact absurd rfl e
              | exact ixi 0 7 (by omega) (s_drop (d + 1) _ hok)
          · refine ixi b 7 (by omega) ?_
            refine ixi 1 7 (by omega) ?_
            refine ixi b 7 (by omega) ?_
            refine ixi b 7 (by omega) ?_
            rcases (show b = 0 ∨ b = 1 ∨ b = 2 ∨ b = 3 ∨ b = 4 ∨ b = 5 ∨ b = 6 by omega) with rfl | rfl | rfl | rfl | rfl | rfl | rfl
            all_goals first
              | exact absurd rfl e
              | exact ixi 1 7 (by omega) (s_drop (d + 1) _ hok)
          · refine ixi b 7 (by omega) ?_
            refine ixi 2 7 (by omega) ?_
            refine ixi b 7 (by omega) ?_
            refine ixi b 7 (by omega) ?_
            rcases (show b = 0 ∨ b = 1 ∨ b = 2 ∨ b = 3 ∨ b = 4 ∨ b = 5 ∨ b = 6 by omega) with rfl | rfl | rfl | rfl | rfl | rfl | rfl
            all_goals first
              | exact absurd rfl e
              | exact ixi 2 7 (by omega) (s_drop (d + 1) _ hok)
          · refine ixi b 7 (by omega) ?_
            refine ixi 3 7 (by omega) ?_
            refine ixi b 7 (by omega) ?_
            refine ixi b 7 (by omega) ?_
            rcases (show b = 0 ∨ b = 1 ∨ b = 2 ∨ b = 3 ∨ b = 4 ∨ b = 5 ∨ b = 6 by omega) with rfl | rfl | rfl | rfl | rfl | rfl | rfl
            all_goals first
              | exact absurd rfl e
              | exact ixi 3 7 (by omega) (s_drop (d + 1) _ hok)
          · refine ixi b 7 (by omega) ?_
            refine ixi 4 7 (by omega) ?_
            refine ixi b 7 (by omega) ?_
            refine ixi b 7 (by omega) ?_
            rcases (show b = 0 ∨ b = 1 ∨ b = 2 ∨ b = 3 ∨ b = 4 ∨ b = 5 ∨ b = 6 by omega) with rfl | rfl | rfl | rfl | rfl | rfl | rfl
            all_goals first
              | exact absurd rfl e
              | exact ixi 4 7 (by omega) (s_drop (d + 1) _ hok)
          · refine ixi b 7 (by omega) ?_
            refine ixi 5 7 (by omega) ?_
            refine ixi b 7 (by omega) ?_
            refine ixi b 7 (by omega) ?_
            rcases (show b = 0 ∨ b = 1 ∨ b = 2 ∨ b = 3 ∨ b = 4 ∨ b = 5 ∨ b = 6 by omega) with rfl | rfl | rfl | rfl | rfl | rfl | rfl
            all_goals first
              | exact absurd rfl e
              | exact ixi 5 7 (by omega) (s_drop (d + 1) _ hok)
          · refine ixi b 7 (by omega) ?_
            refine ixi 6 7 (by omega) ?_
            refine ixi b 7 (by omega) ?_
            refine ixi b 7 (by omega) ?_
            rcases (show b = 0 ∨ b = 1 ∨ b = 2 ∨ b = 3 ∨ b = 4 ∨ b = 5 ∨ b = 6 by omega) with rfl | rfl | rfl | rfl | rfl | rfl | rfl
            all_goals first
              | exact absurd rfl e
              | exact ixi 6 7 (by omega) (s_drop (d + 1) _ hok)
        · rw [if_neg cv]
          exact And.intro (fun _ => hbad (fun q => cv q.2.2.2)) (fun q => absurd rfl q)
    · rw [if_neg cy]
      exact And.intro (fun _ => hbad (fun q => cy q.2.1)) (fun q => absurd rfl q)
  · rw [if_neg c]
    exact And.intro (fun _ => hbad (fun q => c q.1)) (fun q => absurd rfl q)
end MO
