/-! the reference: where things stand, small things -/
def rT (A : aN) (σ : Nat → Nat → Int32) : Prop := σ 56 6 = Int32.ofInt (A 0 0 : Int) ∧ ∀ i, i < 40 → σ 61 i = Int32.ofInt (A 1 i : Int)
def rR (A : aN) (σ : Nat → Nat → Int32) : Prop := ∀ m, m < 60 → σ 65 m = Int32.ofInt (A 2 m : Int)
def rS (A : aN) (σ : Nat → Nat → Int32) : Prop := ∀ i, i < 6 → σ 66 i = Int32.ofInt (A 3 i : Int)
def rL (A : aN) (σ : Nat → Nat → Int32) : Prop := ∀ a, a < 7 → ∀ b, b < 7 → σ 67 (7 * a + b) = Int32.ofInt (A (20 + a) b : Int)
def rW (w : Nat → Nat) (σ : Nat → Nat → Int32) : Prop := ∀ p, p < 7 → σ 64 p = Int32.ofInt (w p : Int)
def rF (A : aN) (σ : Nat → Nat → Int32) : Prop := σ 56 19 = Int32.ofInt (A 0 1 : Int) ∧ ∀ f, f < A 0 1 → σ 70 (3 * f) = Int32.ofInt (A 5 f : Int) ∧ σ 70 (3 * f + 1) = Int32.ofInt (A 6 f : Int) ∧ σ 70 (3 * f + 2) = Int32.ofInt (A 7 f : Int)
def rU (A : aN) (σ : Nat → Nat → Int32) : Prop := σ 56 27 = Int32.ofInt (A 0 2 : Int) ∧ ∀ p, p < 7 → σ 75 p = Int32.ofInt (A 8 p : Int) ∧ σ 76 p = Int32.ofInt (A 9 p : Int)
def rH (A : aN) (B : aZ) (σ : Nat → Nat → Int32) : Prop := ∀ s, s < 4 → σ 57 s = Int32.ofInt (B 0 s) ∧ σ 58 s = Int32.ofInt (A 11 s : Int) ∧ ∀ i, i < A 11 s → σ 59 (60 * s + i) = Int32.ofInt (B (1 + s) i)
def IM (A : aN) (B : aZ) (σ : Nat → Nat → Int32) : Prop := rT A σ ∧ rR A σ ∧ rS A σ ∧ rL A σ ∧ rW (A 4) σ ∧ rF A σ ∧ rU A σ ∧ rH A B σ ∧ σ 56 4 = Int32.ofInt (A 0 3 : Int)
/-- who is there, as read -/
def RD (A : aN) (σ : Nat → Nat → Int32) : Prop := σ 56 8 = Int32.ofInt (cnt A : Int) ∧ ∀ p, p < cnt A → σ 62 p = Int32.ofInt (mn A p : Int) ∧ σ 63 p = Int32.ofInt (wsh A p : Int)
/-- all on which seats hang, w the waiting -/
def RB (A : aN) (w : Nat → Nat) (σ : Nat → Nat → Int32) : Prop := RD A σ ∧ rR A σ ∧ rS A σ ∧ rL A σ ∧ rW w σ
def rscr (c : Nat) : Prop := c = 60 ∨ c = 62 ∨ c = 63 ∨ c = 68 ∨ c = 69 ∨ (71 ≤ c ∧ c ≤ 74)
theorem RB_fr {A : aN} {w : Nat → Nat} {σ σ' : Nat → Nat → Int32} (h : RB A w σ) (h8 : σ' 56 8 = σ 56 8) (hf : ∀ c, 62 ≤ c → c ≤ 67 → σ' c = σ c) : RB A w σ' := by
  obtain ⟨⟨p1, p2⟩, hR, hS, hL, hW⟩ := h
  refine ⟨⟨?_, ?_⟩, ?_, ?_, ?_, ?_⟩
  · rw [h8]; exact p1
  · rw [hf 62 (by omega) (by omega), hf 63 (by omega) (by omega)]; exact p2
  · unfold rR; rw [hf 65 (by omega) (by omega)]; exact hR
  · unfold rS; rw [hf 66 (by omega) (by omega)]; exact hS
  · unfold rL; rw [hf 67 (by omega) (by omega)]; exact hL
  · unfold rW; rw [hf 64 (by omega) (by omega)]; exact hW
theorem IM_fr {A : aN} {B : aZ} {σ σ' : Nat → Nat → Int32} (h : IM A B σ) (hf : ∀ c, 57 ≤ c → c < 77 → ¬ rscr c → σ' c = σ c) (h4 : ∀ i, i = 4 ∨ i = 6 ∨ i = 19 ∨ i = 27 → σ' 56 i = σ 56 i) : IM A B σ' := by
  obtain ⟨⟨t1, t2⟩, hR, hS, hL, hW, ⟨f1, f2⟩, ⟨u1, u2⟩, hH, hl⟩ := h
  have e : ∀ c, 57 ≤ c → c < 77 → c ≠ 60 → c ≠ 62 → c ≠ 63 → c ≠ 68 → c ≠ 69 → ¬ (71 ≤ c ∧ c ≤ 74) → σ' c = σ c := fun c h1 h2 h3 h4 h5 h6 h7 h8 => hf c h1 h2 (fun q => by rcases q with q | q | q | q | q | q <;> omega)
  refine ⟨⟨?_, ?_⟩, ?_, ?_, ?_, ?_, ⟨?_, ?_⟩, ⟨?_, ?_⟩, ?_, ?_⟩
  · rw [h4 6 (by omega)]; exact t1
  · rw [e 61 (by omega) (by omega) (by omega) (by omega) (by omega) (by omega) (by omega) (by omega)]; exact t2
  · unfold rR; rw [e 65 (by omega) (by omega) (by omega) (by omega) (by omega) (by omega) (by omega) (by omega)]; exact hR
  · unfold rS; rw [e 66 (by omega) (by omega) (by omega) (by omega) (by omega) (by omega) (by omega) (by omega)]; exact hS
  · unfold rL; rw [e 67 (by omega) (by omega) (by omega) (by omega) (by omega) (by omega) (by omega) (by omega)]; exact hL
  · unfold rW; rw [e 64 (by omega) (by omega) (by omega) (by omega) (by omega) (by omega) (by omega) (by omega)]; exact hW
  · rw [h4 19 (by omega)]; exact f1
  · rw [e 70 (by omega) (by omega) (by omega) (by omega) (by omega) (by omega) (by omega) (by omega)]; exact f2
  · rw [h4 27 (by omega)]; exact u1
  · rw [e 75 (by omega) (by omega) (by omega) (by omega) (by omega) (by omega) (by omega) (by omega), e 76 (by omega) (by omega) (by omega) (by omega) (by omega) (by omega) (by omega) (by omega)]; exact u2
  · unfold rH; rw [e 57 (by omega) (by omega) (by omega) (by omega) (by omega) (by omega) (by omega) (by omega), e 58 (by omega) (by omega) (by omega) (by omega) (by omega) (by omega) (by omega) (by omega), e 59 (by omega) (by omega) (by omega) (by omega) (by omega) (by omega) (by omega) (by omega)]; exact hH
  · rw [h4 4 (by omega)]; exact hl
theorem prz_s (rn : Nat → Nat) (m : Nat) : prz rn (m + 1) = prz rn m + rn m := rfl
theorem yrz {a : Int} (h : zr a) : yr a := by
  unfold zr at h
  unfold yr
  omega
set_option maxRecDepth 100000 in
theorem r_in (d : Nat) {v lo hi : Int} (hv : yr v) (hlo : yr lo) (hhi : yr hi) (M : am_M) (Q : am_Q) (h : Q (some (.int (if lo ≤ v ∧ v ≤ hi then 1 else 0))) M) : am_d (d + 1) 109 [.long (Int64.ofInt v), .long (Int64.ofInt lo), .long (Int64.ofInt hi)] 0 0 M Q := by
  refine am_goT T_X10_in [.long (Int64.ofInt v), .null, .long (Int64.ofInt lo), .null, .long (Int64.ofInt hi), .null] rfl rfl (fun _ => false) 30 ?_
  refine And.intro (fun c1 => And.intro (Or.inl rfl) ?_) (fun c1 => And.intro (fun c2 => And.intro (Or.inl rfl) ?_) (fun c2 => And.intro (Or.inr rfl) ?_))
  · have c1 : lg_cmp (Int64.ofInt v) (Int64.ofInt lo) < 0 := c1
    rw [lg_cmp_lt, ylt hv hlo] at c1
    rw [if_neg (fun q => by omega)] at h
    exact h
  · have c2 : 0 < lg_cmp (Int64.ofInt v) (Int64.ofInt hi) := c2
    rw [lg_cmp_gt, ylt hhi hv] at c2
    rw [if_neg (fun q => by omega)] at h
    exact h
  · have c1 : ¬ lg_cmp (Int64.ofInt v) (Int64.ofInt lo) < 0 := c1
    have c2 : ¬ 0 < lg_cmp (Int64.ofInt v) (Int64.ofInt hi) := c2
    rw [lg_cmp_lt, ylt hv hlo] at c1
    rw [lg_cmp_gt, ylt hhi hv] at c2
    rw [if_pos ⟨by omega, by omega⟩] at h
    exact h
theorem r_inZ (d : Nat) {v lo hi : Int} (hv : zr v) (hlo : zr lo) (hhi : zr hi) (M : am_M) (Q : am_Q) (h : Q (some (.int (if lo ≤ v ∧ v ≤ hi then 1 else 0))) M) : am_d (d + 1) 109 [.long (Int32.ofInt v).toInt64, .long (Int64.ofInt lo), .long (Int64.ofInt hi)] 0 0 M Q := by
  rw [yofz hv]
  exact r_in d (yrz hv) (yrz hlo) (yrz hhi) M Q h
theorem r_inI (d : Nat) {v lo hi : Int} (hv : zr v) (hlo : zr lo) (hhi : zr hi) (M : am_M) (Q : am_Q) (h : Q (some (.int (if lo ≤ v ∧ v ≤ hi then 1 else 0))) M) : am_d (d + 1) 109 [.long (Int32.ofInt v).toInt64, .long (Int64.ofInt lo), .long (Int32.ofInt hi).toInt64] 0 0 M Q := by
  rw [yofz hv, yofz hhi]
  exact r_in d (yrz hv) (yrz hlo) (yrz hhi) M Q h
set_option maxRecDepth 100000 in
theorem r_isTwo (d : Nat) {v : Int} (hv : zr v) (M : am_M) (Q : am_Q) (h : Q (some (.int (if 0 ≤ v ∧ v ≤ 1 then 1 else 0))) M) : am_d (d + 2) 111 [.int (Int32.ofInt v)] 0 0 M Q := by
  refine am_goT T_X10_isTwo [.int (Int32.ofInt v)] rfl rfl (fun _ => false) 30 ?_
  refine r_inZ d (lo := 0) (hi := 1) hv (by unfold zr; omega) (by unfold zr; omega) _ _ ?_
  by_cases c : 0 ≤ v ∧ v ≤ 1
  · rw [if_pos c] at h ⊢
    exact And.intro (Or.inr rfl) h
  · rw [if_neg c] at h ⊢
    exact And.intro (Or.inl rfl) h
set_option maxRecDepth 100000 in
theorem r_isSeven (d : Nat) {v : Int} (hv : zr v) (M : am_M) (Q : am_Q) (h : Q (some (.int (if 0 ≤ v ∧ v ≤ 6 then 1 else 0))) M) : am_d (d + 2) 112 [.int (Int32.ofInt v)] 0 0 M Q := by
  refine am_goT T_X10_isSeven [.int (Int32.ofInt v)] rfl rfl (fun _ => false) 30 ?_
  refine r_inZ d (lo := 0) (hi := 6) hv (by unfold zr; omega) (by unfold zr; omega) _ _ ?_
  by_cases c : 0 ≤ v ∧ v ≤ 6
  · rw [if_pos c] at h ⊢
    exact And.intro (Or.inr rfl) h
  · rw [if_neg c] at h ⊢
    exact And.intro (Or.inl rfl) h
set_option maxRecDepth 100000 in
theorem r_isSheet (d : Nat) {v : Int} (hv : zr v) (M : am_M) (Q : am_Q) (h : Q (some (.int (if 0 ≤ v ∧ v ≤ 3 then 1 else 0))) M) : am_d (d + 2) 115 [.int (Int32.ofInt v)] 0 0 M Q := by
  refine am_goT T_X10_isSheet [.int (Int32.ofInt v)] rfl rfl (fun _ => false) 30 ?_
  refine r_inZ d (lo := 0) (hi := 3) hv (by unfold zr; omega) (by unfold zr; omega) _ _ ?_
  by_cases c : 0 ≤ v ∧ v ≤ 3
  · rw [if_pos c] at h ⊢
    exact And.intro (Or.inr rfl) h
  · rw [if_neg c] at h ⊢
    exact And.intro (Or.inl rfl) h
set_option maxRecDepth 100000 in
theorem r_isIn (d : Nat) {m p : Nat} (hm : m < 128) (hp : p < 8) (M : am_M) (Q : am_Q) (h : Q (some (.int (if bitk m p = true then 1 else 0))) M) : am_d (d + 1) 113 [.int (Int32.ofInt (m : Int)), .int (Int32.ofInt (p : Int))] 0 0 M Q := by
  have b := bitv7 m hm p hp
  refine am_goT T_X10_isIn [.int (Int32.ofInt (m : Int)), .int (Int32.ofInt (p : Int))] rfl rfl (fun _ => false) 30 ?_
  refine And.intro (fun c1 => And.intro (Or.inr rfl) ?_) (fun c1 => And.intro (Or.inl rfl) ?_)
  · have c1 : (Int32.ofInt (m : Int) >>> (Int32.ofInt (p : Int) &&& 31)) &&& Int32.ofInt 1 = Int32.ofInt 1 := c1
    rw [b] at c1
    by_cases e : bitk m p = true
    · rw [if_pos e] at h
      exact h
    · rw [if_neg e] at c1
      exact absurd c1 (by decide)
  · have c1 : ¬ (Int32.ofInt (m : Int) >>> (Int32.ofInt (p : Int) &&& 31)) &&& Int32.ofInt 1 = Int32.ofInt 1 := c1
    rw [b] at c1
    by_cases e : bitk m p = true
    · rw [if_pos e] at c1
      exact absurd rfl c1
    · rw [if_neg e] at h
      exact h
set_option maxRecDepth 100000 in
theorem r_least (d : Nat) {a b : Int} (ha : zr a) (hb : zr b) (M : am_M) (Q : am_Q) (h : Q (some (.int (Int32.ofInt (min a b)))) M) : am_d (d + 1) 132 [.int (Int32.ofInt a), .int (Int32.ofInt b)] 0 0 M Q := by
  refine am_goT T_X10_least [.int (Int32.ofInt a), .int (Int32.ofInt b)] rfl rfl (fun _ => false) 30 ?_
  refine And.intro (fun c1 => ?_) (fun c1 => ?_)
  · rw [zle hb ha] at c1
    rw [show min a b = b by omega] at h
    exact h
  · rw [zle hb ha] at c1
    rw [show min a b = a by omega] at h
    exact h
set_option maxRecDepth 100000 in
theorem r_amount (d : Nat) {a : Int} (ha : zr a) (h3 : -2147483648 < a) (M : am_M) (Q : am_Q) (h : Q (some (.int (Int32.ofInt (a.natAbs : Int)))) M) : am_d (d + 1) 148 [.int (Int32.ofInt a)] 0 0 M Q := by
  refine am_goT T_X10_amount [.int (Int32.ofInt a)] rfl rfl (fun _ => false) 30 ?_
  refine And.intro (fun c1 => ?_) (fun c1 => ?_)
  · rw [z0le ha] at c1
    rw [show (a.natAbs : Int) = a by omega] at h
    exact h
  · rw [z0le ha] at c1
    rw [show (a.natAbs : Int) = -a by omega, ← zneg] at h
    exact h
set_option maxRecDepth 100000 in
theorem r_cut (d : Nat) {f : Int} {v : Int32} (hf : zr f) (M : am_M) (Q : am_Q) (h : Q (some (.int (cutI f v))) M) : am_d (d + 1) 119 [.int (Int32.ofInt f), .int v] 0 0 M Q := by
  unfold cutI at h
  refine am_goT T_X10_cut [.int (Int32.ofInt f), .int v] rfl rfl (fun _ => false) 30 ?_
  refine And.intro (fun c1 => ?_) (fun c1 => And.intro (fun c2 => ?_) (fun c2 => ?_))
  · rw [zeq0 hf] at c1
    rw [if_pos c1] at h
    exact h
  · rw [zeq0 hf] at c1
    rw [zeq hf (by unfold zr; omega)] at c2
    rw [if_neg c1, if_pos c2] at h
    exact h
  · rw [zeq0 hf] at c1
    rw [zeq hf (by unfold zr; omega)] at c2
    rw [if_neg c1, if_neg c2] at h
    exact h
section RL
variable {n w3 : Nat} {g : Nat → Nat × Nat} {σ : Nat → Nat → Int32} {τ : Nat → Nat → Int64} {r1 r2 : Nat} {A : aN} {B : aZ}
set_option maxRecDepth 100000 in
theorem r_met (d : Nat) (Q : am_Q) {k : Int} (h : Q (some (.int (Int32.ofInt (-10 - k)))) (lo_M n w3 g (am_u σ 56 4 (Int32.ofInt k)) τ r1 r2)) : am_d (d + 1) 114 [.ref 56, .int (Int32.ofInt k)] 0 0 (lo_M n w3 g σ τ r1 r2) Q := by
  rw [← zsub] at h
  exact am_goT T_X10_met [.ref 56, .int (Int32.ofInt k)] rfl rfl (fun _ => false) 30 h
set_option maxRecDepth 100000 in
theorem r_no (d : Nat) (M : am_M) (Q : am_Q) (h : Q (some (.long (Int64.ofInt (-9223372036854775806)))) M) : am_d (d + 1) 110 [.int (Int32.ofInt (-2))] 0 0 M Q := by
  refine am_goT T_X10_no [.int (Int32.ofInt (-2))] rfl rfl (fun _ => false) 30 ?_
  exact h
set_option maxRecDepth 100000 in
theorem r_here (d : Nat) (Q : am_Q) {i ln : Nat} {tx : Nat → Nat} (hi : i ≤ 40) (hln : ln ≤ 40) (h7 : σ 56 7 = Int32.ofInt (i : Int)) (h6 : σ 56 6 = Int32.ofInt (ln : Int)) (ht : ∀ i, i < 40 → σ 61 i = Int32.ofInt (tx i : Int)) (h1 : i < ln → Q (some (.int (Int32.ofInt (tx i : Int)))) (lo_M n w3 g σ τ r1 r2)) (h0 : ¬ i < ln → Q (some (.int (Int32.ofInt (-1)))) (lo_M n w3 g σ τ r1 r2)) : am_d (d + 1) 125 [.ref 56] 0 0 (lo_M n w3 g σ τ r1 r2) Q := by
  refine am_goT T_X10_here [.ref 56] rfl rfl (fun _ => false) 30 ?_
  refine And.intro (fun c1 => ?_) (fun c1 => ?_)
  · have c1 : σ 56 6 ≤ σ 56 7 := c1
    rw [h6, h7, zle (by unfold zr; omega) (by unfold zr; omega)] at c1
    exact h0 (by omega)
  · have c1 : ¬ σ 56 6 ≤ σ 56 7 := c1
    rw [h6, h7, zle (by unfold zr; omega) (by unfold zr; omega)] at c1
    refine ixi i 40 (by omega) ?_ h7
    have h1 := h1 (by omega)
    rw [← ht i (by omega)] at h1
    exact h1
set_option maxRecDepth 100000 in
theorem r_figure (d : Nat) (Q : am_Q) {i ln most : Nat} {tx : Nat → Nat} (hi : i ≤ 40) (hln : ln ≤ 40) (hmo : most ≤ 9) (htx : ∀ i, tx i ≤ 255) (h7 : σ 56 7 = Int32.ofInt (i : Int)) (h6 : σ 56 6 = Int32.ofInt (ln : Int)) (ht : ∀ i, i < 40 → σ 61 i = Int32.ofInt (tx i : Int)) (h1 : i < ln → 48 ≤ tx i → tx i ≤ 48 + most → Q (some (.int (Int32.ofInt ((tx i : Int) - 48)))) (lo_M n w3 g (am_u σ 56 7 (Int32.ofInt ((i + 1 : Nat) : Int))) τ r1 r2)) (h0 : ¬ (i < ln ∧ 48 ≤ tx i ∧ tx i ≤ 48 + most) → Q (some (.int (Int32.ofInt (-1)))) (lo_M n w3 g σ τ r1 r2)) : am_d (d + 2) 127 [.ref 56, .int (Int32.ofInt (most : Int))] 0 0 (lo_M n w3 g σ τ r1 r2) Q := by
  have hb := htx i
  refine am_goT T_X10_figure [.ref 56, .int (Int32.ofInt (most : Int)), .null] rfl rfl (fun _ => false) 60 ?_
  refine r_here d _ hi hln h7 h6 ht (fun c => ?_) (fun c => ?_)
  · show am_d (d + 1) 109 [.long (Int32.ofInt (tx i : Int) - Int32.ofInt 48).toInt64, .long (Int64.ofInt 0), .long (Int32.ofInt (most : Int)).toInt64] 0 0 _ _
    rw [zsub]
    refine r_inI d (lo := 0) (by unfold zr; omega) (by unfold zr; omega) (by unfold zr; omega) _ _ ?_
    by_cases c2 : 0 ≤ (tx i : Int) - 48 ∧ (tx i : Int) - 48 ≤ (most : Int)
    · rw [if_pos c2]
      refine And.intro (fun q => absurd q (by decide)) (fun _ => ?_)
      have h1 := h1 c (by omega) (by omega)
      rw [show ((i + 1 : Nat) : Int) = (i : Int) + 1 by omega, ← zadd, ← h7] at h1
      exact h1
    · rw [if_neg c2]
      refine And.intro (fun _ => ?_) (fun q => absurd rfl q)
      exact h0 (fun q => by omega)
  · show am_d (d + 1) 109 [.long (Int32.ofInt (-1) - Int32.ofInt 48).toInt64, .long (Int64.ofInt 0), .long (Int32.ofInt (most : Int)).toInt64] 0 0 _ _
    rw [zsub]
    refine r_inI d (lo := 0) (by unfold zr; omega) (by unfold zr; omega) (by unfold zr; omega) _ _ ?_
    rw [if_neg (by omega)]
    refine And.intro (fun _ => ?_) (fun q => absurd rfl q)
    exact h0 (fun q => c q.1)
set_option maxRecDepth 100000 in
theorem r_goesIn (d : Nat) (Q : am_Q) {w : Nat → Nat} {p : Nat} (hp : p < cnt A) (hw : ∀ p, w p ≤ 59) (hb : RB A w σ) (h : Q (some (.int (Int32.ofInt (gin A p (w p) : Int)))) (lo_M n w3 g σ τ r1 r2)) : am_d (d + 2) 133 [.ref 56, .int (Int32.ofInt (p : Int))] 0 0 (lo_M n w3 g σ τ r1 r2) Q := by
  have hc := cnt_le A
  have hm := mn_lt hp
  have hwp := hw p
  refine am_goT T_X10_goesIn [.ref 56, .int (Int32.ofInt (p : Int))] rfl rfl (fun _ => false) 60 ?_
  refine ixi p 7 (by omega) ?_
  refine ixi p 7 (by omega) ?_
  show am_d (d + 1) 132 [.int (Int32.ofInt 59), .int (σ 62 p + σ 64 p)] 0 0 _ _
  rw [(hb.1.2 p hp).1, hb.2.2.2.2 p (by omega), zadd]
  refine r_least d (by unfold zr; omega) (by unfold zr; omega) _ _ ?_
  rw [show min (59 : Int) ((mn A p : Int) + (w p : Int)) = (gin A p (w p) : Int) by unfold gin; omega]
  exact h
set_option maxHeartbeats 1000000 in
set_option maxRecDepth 100000 in
theorem r_wet_loop (d : Nat) (Q : am_Q) {w : Nat → Nat} {p : Nat} (hp : p < cnt A) (hw : ∀ p, w p ≤ 59) (hb : RB A w σ) (h : Q (some (.int (Int32.ofInt ((prz (A 2) (gin A p (w p)) : Int) - (prz (A 2) (mn A p) : Int))))) (lo_M n w3 g σ τ r1 r2)) : ∀ (k m : Nat), m + k = gin A p (w p) →
    am_wp (am_d (d + 2)) T_X10_wet Q (9, [.ref 56, .int (Int32.ofInt (p : Int)), .int (Int32.ofInt ((prz (A 2) m : Int) - (prz (A 2) (mn A p) : Int))), .int (Int32.ofInt (m : Int))], [], 0, 0) (lo_M n w3 g σ τ r1 r2) := by
  have hg : gin A p (w p) ≤ 59 := by unfold gin; omega
  intro k
  induction k with
  | zero =>
    intro m hm
    have hme : m = gin A p (w p) := by omega
    subst hme
    refine am_wp_go (am_d_cm _) (fun pc => Nat.beq pc 9) 60 ?_
    refine r_goesIn d _ hp hw hb ?_
    refine And.intro (fun c1 => ?_) (fun c1 => absurd (Int32.le_refl _) c1)
    exact h
  | succ k ih =>
    intro m hm
    have ih := ih (m + 1) (by omega)
    refine am_wp_go (am_d_cm _) (fun pc => Nat.beq pc 9) 60 ?_
    refine r_goesIn d _ hp hw hb ?_
    refine And.intro (fun c1 => ?_) (fun c1 => ?_)
    · rw [zle (by unfold zr; omega) (by unfold zr; omega)] at c1
      omega
    · refine ixi m 60 (by omega) ?_
      rw [show ((prz (A 2) (m + 1) : Nat) : Int) - (prz (A 2) (mn A p) : Int) = ((prz (A 2) m : Int) - (prz (A 2) (mn A p) : Int)) + (A 2 m : Int) by rw [prz_s]; omega, show ((m + 1 : Nat) : Int) = (m : Int) + 1 by omega, ← zadd (m : Int), ← zadd ((prz (A 2) m : Int) - (prz (A 2) (mn A p) : Int)), ← hb.2.1 m (by omega)] at ih
      exact ih
set_option maxRecDepth 100000 in
theorem r_wet (d : Nat) (Q : am_Q) {w : Nat → Nat} {p : Nat} (hp : p < cnt A) (hw : ∀ p, w p ≤ 59) (hb : RB A w σ) (h : Q (some (.int (Int32.ofInt ((prz (A 2) (gin A p (w p)) : Int) - (prz (A 2) (mn A p) : Int))))) (lo_M n w3 g σ τ r1 r2)) : am_d (d + 3) 134 [.ref 56, .int (Int32.ofInt (p : Int))] 0 0 (lo_M n w3 g σ τ r1 r2) Q := by
  have hc := cnt_le A
  have hm := mn_lt hp
  refine am_goT T_X10_wet [.ref 56, .int (Int32.ofInt (p : Int)), .null, .null] rfl rfl (fun pc => Nat.beq pc 9) 60 ?_
  refine ixi p 7 (by omega) ?_
  have key := r_wet_loop (σ := σ) (n := n) (w3 := w3) (g := g) (τ := τ) (r1 := r1) (r2 := r2) d Q hp hw hb h (gin A p (w p) - mn A p) (mn A p) (by unfold gin; omega)
  rw [Int.sub_self, ← (hb.1.2 p hp).1] at key
  exact key
set_option maxRecDepth 100000 in
theorem r_isOutside (d : Nat) (Q : am_Q) {w : Nat → Nat} {p : Nat} (hp : p < cnt A) (hw : ∀ p, w p ≤ 59) (h60 : A 3 0 ≤ 60) (hb : RB A w σ) (h : Q (some (.int (if A 3 0 ≤ gin A p (w p) then 1 else 0))) (lo_M n w3 g σ τ r1 r2)) : am_d (d + 3) 144 [.ref 56, .int (Int32.ofInt (p : Int))] 0 0 (lo_M n w3 g σ τ r1 r2) Q := by
  have hg : gin A p (w p) ≤ 59 := by unfold gin; omega
  refine am_goT T_X10_isOutside [.ref 56, .int (Int32.ofInt (p : Int))] rfl rfl (fun _ => false) 60 ?_
  refine r_goesIn d _ hp hw hb ?_
  refine ixi 0 6 (by omega) ?_
  refine And.intro (fun c1 => ?_) (fun c1 => ?_)
  · have c1 : Int32.ofInt (gin A p (w p) : Int) < σ 66 0 := c1
    rw [hb.2.2.1 0 (by omega), zlt (by unfold zr; omega) (by unfold zr; omega)] at c1
    rw [if_neg (by omega)] at h
    exact And.intro (Or.inl rfl) h
  · have c1 : ¬ Int32.ofInt (gin A p (w p) : Int) < σ 66 0 := c1
    rw [hb.2.2.1 0 (by omega), zlt (by unfold zr; omega) (by unfold zr; omega)] at c1
    rw [if_pos (by omega)] at h
    exact And.intro (Or.inr rfl) h
set_option maxRecDepth 100000 in
theorem r_whole (d : Nat) (Q : am_Q) {N : Nat} (hN : N ≤ 7) (hn : σ 56 8 = Int32.ofInt (N : Int)) (h : Q (some (.int (Int32.ofInt ((2 ^ N - 1 : Nat) : Int)))) (lo_M n w3 g σ τ r1 r2)) : am_d (d + 1) 146 [.ref 56] 0 0 (lo_M n w3 g σ τ r1 r2) Q := by
  rw [← all_eq N (by omega), ← hn] at h
  exact am_goT T_X10_whole [.ref 56] rfl rfl (fun _ => false) 30 h
end RL
