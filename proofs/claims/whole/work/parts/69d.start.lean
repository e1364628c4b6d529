/-! the law, from its start -/
def stF : Nat → Nat
  | 0 => 60
  | 2 => 2
  | 3 => 2
  | 4 => 1
  | 5 => 5
  | _ => 0
/-- told nothing -/
def A0 : aN := fun c i => if c = 3 then stF i else 0
def B0 : aZ := fun c _ => if c = 0 then -1 else 0
def sF (σ : Nat → Nat → Int32) : Nat → Nat → Int32 := sR (am_ur (sC (am_ur σ 4 (fun _ => 0))) 56 (fun _ => 0))
def pF : Nat → Nat → Option Nat := pR (am_ur (pC (am_ur (fun _ _ => none) 4 (fun _ => none))) 56 (fun _ => none))
section START
variable {w3 : Nat} {σ : Nat → Nat → Int32} {τ : Nat → Nat → Int64}
theorem shP_77 : shP w3 77 = lo_sh w3 (fun _ => (99, 0)) := by
  funext c
  unfold shP
  cases h : Nat.blt c 77 with
  | true => rfl
  | false =>
    unfold lo_sh
    rw [h]
theorem A0_ne {c : Nat} (h : c ≠ 3) : A0 c = fun _ => 0 := by
  funext i
  unfold A0
  rw [if_neg h]
theorem WF_0 : WF A0 B0 := by
  have e20 : ∀ a, A0 (20 + a) = fun _ => 0 := fun a => A0_ne (by omega)
  refine ⟨by decide, fun i => Nat.zero_le 255, fun i => Nat.zero_le 1, by decide, fun i => Nat.zero_le 59, fun a b => by rw [e20]; exact Nat.zero_le 20, fun a => by rw [e20], by decide, fun f => ⟨Nat.zero_le 1, by show 0 < 7; decide, by show 0 < 7; decide⟩, by decide, fun p => ⟨Nat.le_refl 0, Nat.le_refl 0⟩, by decide, fun s => Nat.zero_le 60, fun s => by show -1 ≤ (-1 : Int) ∧ (-1 : Int) ≤ 2; omega, fun s i => ?_, by decide⟩
  unfold B0
  rw [if_neg (by omega)]
  unfold zr
  omega
theorem prz_0 : ∀ m : Nat, prz (A0 2) m = 0
  | 0 => rfl
  | m + 1 => by
    unfold prz
    rw [prz_0 m]
    rfl
theorem cnt_0 : cnt A0 = 0 := rfl
theorem flt_0 : flt A0 = -1 := rfl
theorem c7 {a : Nat} (h : a < 7) : a = 0 ∨ a = 1 ∨ a = 2 ∨ a = 3 ∨ a = 4 ∨ a = 5 ∨ a = 6 := by omega
set_option maxRecDepth 100000 in
theorem IX_0 (h2 : ∀ i, i < 6 → σ 2 i = Int32.ofInt (stF i : Int)) : IX A0 B0 (sF σ) := by
  refine ⟨⟨rfl, fun i _ => rfl, rfl, rfl, fun p hp => ?_⟩, fun m hm => ?_, fun i hi => h2 i hi, fun a ha b hb => ?_, fun p hp => rfl, ⟨rfl, fun f hf => ?_⟩, ⟨rfl, fun p hp => ⟨rfl, rfl⟩⟩, fun s hs => ?_, rfl⟩
  · rw [cnt_0] at hp
    omega
  · rw [prz_0]
    rfl
  · rcases c7 ha with e | e | e | e | e | e | e <;> subst e <;> rfl
  · exact absurd (show f < 0 from hf) (Nat.not_lt_zero f)
  · rcases (show s = 0 ∨ s = 1 ∨ s = 2 ∨ s = 3 by omega) with e | e | e | e <;> subst e <;> exact ⟨rfl, rfl, fun i hi => absurd (show i < 0 from hi) (Nat.not_lt_zero i)⟩
set_option maxRecDepth 100000 in
theorem CS_0 (h2 : ∀ i, i < 6 → σ 2 i = Int32.ofInt (stF i : Int)) : CS A0 B0 77 w3 (fun _ => (99, 0)) (sF σ) 31 34 0 0 :=
  ⟨IX_0 h2, ⟨by decide, ⟨Or.inl rfl, by decide⟩, ⟨Or.inl rfl, by decide⟩, by decide, rfl, rfl, by decide, by decide⟩, ⟨⟨0, by decide, rfl⟩, ⟨0, by decide, rfl⟩⟩, ⟨rfl, by show Int32.ofInt 1 <<< (Int32.ofInt 2 &&& 31) - Int32.ofInt 1 = Int32.ofInt 3; decide, rfl, by show Int32.ofInt 1 <<< (Int32.ofInt 1 &&& 31) - Int32.ofInt 1 = Int32.ofInt 1; decide⟩, Or.inl rfl, Or.inl rfl, Or.inl rfl⟩
set_option maxRecDepth 100000 in
theorem IM_0 : IM A0 B0 (sF σ) := by
  refine ⟨⟨rfl, fun i _ => rfl⟩, fun m _ => rfl, fun i hi => ?_, fun a ha b hb => ?_, fun p hp => rfl, ⟨rfl, fun f hf => ?_⟩, ⟨rfl, fun p hp => ⟨rfl, rfl⟩⟩, fun s hs => ?_, rfl⟩
  · rcases (show i = 0 ∨ i = 1 ∨ i = 2 ∨ i = 3 ∨ i = 4 ∨ i = 5 by omega) with e | e | e | e | e | e <;> subst e <;> rfl
  · rw [A0_ne (by omega)]
    rfl
  · exact absurd (show f < 0 from hf) (Nat.not_lt_zero f)
  · rcases (show s = 0 ∨ s = 1 ∨ s = 2 ∨ s = 3 by omega) with e | e | e | e <;> subst e <;> exact ⟨rfl, rfl, fun i hi => absurd (show i < 0 from hi) (Nat.not_lt_zero i)⟩
set_option maxRecDepth 100000 in
theorem ST_0 (h : ST σ) : ST (sF σ) := ST_fr h rfl rfl
theorem JS_0 (h : ST σ) (h2 : ∀ i, i < 6 → σ 2 i = Int32.ofInt (stF i : Int)) : JS A0 B0 77 w3 (fun _ => (99, 0)) (sF σ) 31 34 0 0 := ⟨WF_0, CS_0 h2, IM_0, ST_0 h⟩
set_option maxRecDepth 100000 in
theorem ms_0 (Q : am_Q) {ρ : Nat → Nat → Option Nat} (h : am_wp (am_d 10) T_L_law Q (8, [.ref 3, .ref 4, .null, .null], [], 25493, 51580) (56, shP w3 56, sC (am_ur σ 4 (fun _ => 0)), τ, pC (am_ur ρ 4 (fun _ => none)))) : am_wp (am_d 10) T_L_law Q (0, [.ref 3, .null, .null, .null], [], 25545, 52444) (4, shP w3 4, σ, τ, ρ) := by
  refine am_wp_go (am_d_cm _) (fun pc => Nat.beq pc 8) 60 ?_
  refine And.intro (by decide) ?_
  refine And.intro (by decide) ?_
  refine ⟨51, 847, by decide, by decide, ?_⟩
  refine n_class 8 _ (shP_s 4 5 rfl).symm ?_
  exact h
set_option maxRecDepth 100000 in
theorem ms_1 (Q : am_Q) {ρ : Nat → Nat → Option Nat} (h : am_wp (am_d 10) T_L_law Q (18, [.ref 3, .ref 4, .ref 56, .int (Int32.ofInt 0)], [], 25472, 50944) (77, shP w3 77, sR (am_ur σ 56 (fun _ => 0)), am_ur τ 74 (fun _ => 0), pR (am_ur ρ 56 (fun _ => none)))) : am_wp (am_d 10) T_L_law Q (8, [.ref 3, .ref 4, .null, .null], [], 25493, 51580) (56, shP w3 56, σ, τ, ρ) := by
  refine am_wp_go (am_d_cm _) (fun pc => Nat.beq pc 18) 60 ?_
  refine And.intro (by decide) ?_
  refine And.intro (by decide) ?_
  refine ⟨20, 606, by decide, by decide, ?_⟩
  refine n_ref 9 _ (shP_s 56 57 rfl).symm ?_
  exact h

set_option maxRecDepth 100000 in
theorem pF_at : ∀ c, c < 77 → ∀ i, pF c i = lo_rho 31 34 c i := by
  intro c hc i
  match c, hc with
  | 0, _ => rfl
  | 1, _ => rfl
  | 2, _ => rfl
  | 3, _ => rfl
  | 4, _ =>
    match i with
    | 0 => rfl
    | 1 => rfl
    | 2 => rfl
    | 3 => rfl
    | 4 => rfl
    | 5 => rfl
    | 6 => rfl
    | 7 => rfl
    | 8 => rfl
    | 9 => rfl
    | 10 => rfl
    | 11 => rfl
    | 12 => rfl
    | i + 13 => rfl
  | 5, _ =>
    match i with
    | 0 => rfl
    | 1 => rfl
    | 2 => rfl
    | i + 3 => rfl
  | 6, _ => rfl
  | 7, _ => rfl
  | 8, _ => rfl
  | 9, _ =>
    match i with
    | 0 => rfl
    | i + 1 => rfl
  | 10, _ => rfl
  | 11, _ =>
    match i with
    | 0 => rfl
    | 1 => rfl
    | i + 2 => rfl
  | 12, _ => rfl
  | 13, _ =>
    match i with
    | 0 => rfl
    | 1 => rfl
    | 2 => rfl
    | 3 => rfl
    | 4 => rfl
    | 5 => rfl
    | 6 => rfl
    | i + 7 => rfl
  | 14, _ => rfl
  | 15, _ => rfl
  | 16, _ => rfl
  | 17, _ => rfl
  | 18, _ => rfl
  | 19, _ => rfl
  | 20, _ => rfl
  | 21, _ => rfl
  | 22, _ => rfl
  | 23, _ =>
    match i with
    | 0 => rfl
    | 1 => rfl
    | 2 => rfl
    | 3 => rfl
    | 4 => rfl
    | i + 5 => rfl
  | 24, _ => rfl
  | 25, _ => rfl
  | 26, _ =>
    match i with
    | 0 => rfl
    | 1 => rfl
    | 2 => rfl
    | 3 => rfl
    | 4 => rfl
    | i + 5 => rfl
  | 27, _ => rfl
  | 28, _ => rfl
  | 29, _ =>
    match i with
    | 0 => rfl
    | 1 => rfl
    | 2 => rfl
    | 3 => rfl
    | 4 => rfl
    | i + 5 => rfl
  | 30, _ => rfl
  | 31, _ => rfl
  | 32, _ =>
    match i with
    | 0 => rfl
    | 1 => rfl
    | 2 => rfl
    | 3 => rfl
    | 4 => rfl
    | i + 5 => rfl
  | 33, _ => rfl
  | 34, _ => rfl
  | 35, _ =>
    match i with
    | 0 => rfl
    | 1 => rfl
    | 2 => rfl
    | i + 3 => rfl
  | 36, _ => rfl
  | 37, _ => rfl
  | 38, _ => rfl
  | 39, _ =>
    match i with
    | 0 => rfl
    | 1 => rfl
    | 2 => rfl
    | 3 => rfl
    | i + 4 => rfl
  | 40, _ => rfl
  | 41, _ => rfl
  | 42, _ => rfl
  | 43, _ => rfl
  | 44, _ =>
    match i with
    | 0 => rfl
    | 1 => rfl
    | i + 2 => rfl
  | 45, _ => rfl
  | 46, _ => rfl
  | 47, _ =>
    match i with
    | 0 => rfl
    | 1 => rfl
    | 2 => rfl
    | 3 => rfl
    | i + 4 => rfl
  | 48, _ =>
    match i with
    | 0 => rfl
    | i + 1 => rfl
  | 49, _ => rfl
  | 50, _ =>
    match i with
    | 0 => rfl
    | i + 1 => rfl
  | 51, _ => rfl
  | 52, _ =>
    match i with
    | 0 => rfl
    | i + 1 => rfl
  | 53, _ => rfl
  | 54, _ =>
    match i with
    | 0 => rfl
    | i + 1 => rfl
  | 55, _ => rfl
  | 56, _ =>
    match i with
    | 0 => rfl
    | 1 => rfl
    | 2 => rfl
    | 3 => rfl
    | 4 => rfl
    | 5 => rfl
    | 6 => rfl
    | 7 => rfl
    | 8 => rfl
    | 9 => rfl
    | 10 => rfl
    | 11 => rfl
    | 12 => rfl
    | 13 => rfl
    | 14 => rfl
    | 15 => rfl
    | 16 => rfl
    | 17 => rfl
    | 18 => rfl
    | 19 => rfl
    | 20 => rfl
    | 21 => rfl
    | 22 => rfl
    | 23 => rfl
    | 24 => rfl
    | 25 => rfl
    | 26 => rfl
    | 27 => rfl
    | 28 => rfl
    | 29 => rfl
    | i + 30 => rfl
  | 57, _ => rfl
  | 58, _ => rfl
  | 59, _ => rfl
  | 60, _ => rfl
  | 61, _ => rfl
  | 62, _ => rfl
  | 63, _ => rfl
  | 64, _ => rfl
  | 65, _ => rfl
  | 66, _ => rfl
  | 67, _ => rfl
  | 68, _ => rfl
  | 69, _ => rfl
  | 70, _ => rfl
  | 71, _ => rfl
  | 72, _ => rfl
  | 73, _ => rfl
  | 74, _ => rfl
  | 75, _ => rfl
  | 76, _ => rfl
  | c + 77, h => omega
set_option maxRecDepth 100000 in
theorem pF_out {c : Nat} (h : 77 ≤ c) : pF c = fun _ => none := by
  unfold pF pR pC
  repeat (first | rw [am_u_ne (by omega)] | rw [am_ur_ne (by omega)])
  all_goals rfl
theorem pF_eq : pF = lo_rho 31 34 := by
  funext c i
  by_cases h : c < 77
  · exact pF_at c h i
  · rw [pF_out (by omega)]
    unfold lo_rho
    have : Nat.blt c 77 = false := by
      rw [Bool.eq_false_iff, ne_eq, Nat.blt_eq]
      exact h
    rw [this]
theorem law_ok (Q : am_Q) (hw : w3 < 2147483648) (hQ : ∀ M : am_M, Q (some (.int 1)) M) (h : ST σ) (h2 : ∀ i, i < 6 → σ 2 i = Int32.ofInt (stF i : Int)) : am_wp (am_d 10) T_L_law Q (0, [.ref 3, .null, .null, .null], [], 25545, 52444) (4, shP w3 4, σ, τ, fun _ _ => none) := by
  refine ms_0 Q ?_
  refine ms_1 Q ?_
  have e := law_loop (Q := Q) hw hQ (w3 + 1) 0 (by omega) (by omega) A0 B0 77 (fun _ => (99, 0)) (sF σ) (am_ur τ 74 (fun _ => 0)) 31 34 0 0 25472 50944 (JS_0 h h2) (by decide) (by decide)
  show am_wp _ _ _ _ (77, shP w3 77, sF σ, am_ur τ 74 (fun _ => 0), pF)
  rw [shP_77, pF_eq]
  exact e
end START
