/-! the constructors -/
/-- the shape when cells below N are made -/
def shP (w3 : Nat) (N : Nat) (c : Nat) : Nat × Nat := match Nat.blt c N with
  | true => lo_sh w3 (fun _ => (99, 0)) c
  | false => (99, 0)
theorem shP_s {w3 : Nat} (N N' : Nat) (hN : N' = N + 1) : shP w3 N' = fun c => if c = N then lo_sh w3 (fun _ => (99, 0)) N else shP w3 N c := by
  subst hN
  funext c
  unfold shP
  by_cases e : c = N
  · subst e
    rw [if_pos rfl]
    have : Nat.blt c (c + 1) = true := by rw [Nat.blt_eq]; omega
    rw [this]
  · rw [if_neg e]
    have : Nat.blt c (N + 1) = Nat.blt c N := by
      rw [Bool.eq_iff_iff, Nat.blt_eq, Nat.blt_eq]
      omega
    rw [this]
theorem am_u_id {α : Type} {f : Nat → Nat → α} {c i : Nat} {v : α} (h : f c i = v) : am_u f c i v = f := by
  funext c' i'
  rw [am_u_if]
  by_cases e : c' = c ∧ i' = i
  · rw [if_pos e, e.1, e.2, h]
  · rw [if_neg e]
theorem am_inT {d k : Nat} {args : List Value} {bc bs : Nat} {M : am_M} {Q : am_Q} (T : am_T) (L : List Value) (hT : am_code k = T) (hL : am_pad (am_nl k) (am_ent args) = L) (h : am_wp (am_d d) T Q (0, L, [], bc, bs) M) : am_d (d + 1) k args bc bs M Q := by
  subst hT; subst hL; exact h
section MADE
variable {w3 : Nat} {σ : Nat → Nat → Int32} {τ : Nat → Nat → Int64} {ρ : Nat → Nat → Option Nat}

set_option maxRecDepth 100000 in
theorem n_people_0 (d : Nat) (Q : am_Q) (h : am_wp (am_d d) T_X4_init Q (12, [.ref 5], [], 2, 14) (7, shP w3 7, (am_ur σ 6 (fun _ => 0)), τ, (am_u ρ 5 0 (some 6)))) : am_wp (am_d d) T_X4_init Q (0, [.ref 5], [], 3, 54) (6, shP w3 6, σ, τ, ρ) := by
  rw [shP_s 6 7 rfl] at h
  refine am_wp_go (am_d_cm _) (fun pc => Nat.beq pc 12) 60 ?_
  refine And.intro (by decide) ?_
  refine And.intro (by decide) ?_
  refine And.intro (by decide) ?_
  refine And.intro (by decide) ?_
  exact h
set_option maxRecDepth 100000 in
theorem n_people_1 (d : Nat) (Q : am_Q) (h : am_wp (am_d d) T_X4_init Q (20, [.ref 5], [], 1, 7) (8, shP w3 8, (am_ur σ 7 (fun _ => 0)), τ, (am_u ρ 5 1 (some 7)))) : am_wp (am_d d) T_X4_init Q (12, [.ref 5], [], 2, 14) (7, shP w3 7, σ, τ, ρ) := by
  rw [shP_s 7 8 rfl] at h
  refine am_wp_go (am_d_cm _) (fun pc => Nat.beq pc 20) 60 ?_
  refine And.intro (by decide) ?_
  refine And.intro (by decide) ?_
  refine And.intro (by decide) ?_
  refine And.intro (by decide) ?_
  exact h
set_option maxRecDepth 100000 in
theorem n_people_2 (d : Nat) (Q : am_Q) (h : am_wp (am_d d) T_X4_init Q (28, [.ref 5], [], 0, 0) (9, shP w3 9, (am_ur σ 8 (fun _ => 0)), τ, (am_u ρ 5 2 (some 8)))) : am_wp (am_d d) T_X4_init Q (20, [.ref 5], [], 1, 7) (8, shP w3 8, σ, τ, ρ) := by
  rw [shP_s 8 9 rfl] at h
  refine am_wp_go (am_d_cm _) (fun pc => Nat.beq pc 28) 60 ?_
  refine And.intro (by decide) ?_
  refine And.intro (by decide) ?_
  refine And.intro (by decide) ?_
  refine And.intro (by decide) ?_
  exact h
set_option maxRecDepth 100000 in
theorem n_people_3 (d : Nat) (Q : am_Q) (h : Q none (9, shP w3 9, (am_u (am_u (am_u σ 5 3 (Int32.ofInt 0)) 5 4 (Int32.ofInt 0)) 5 5 (Int32.ofInt (-1))), τ, ρ)) : am_wp (am_d d) T_X4_init Q (28, [.ref 5], [], 0, 0) (9, shP w3 9, σ, τ, ρ) := by
  refine am_wp_go (am_d_cm _) (fun pc => Nat.beq pc 9999) 60 ?_
  exact h
theorem n_people (d : Nat) (Q : am_Q) {S : Nat → Nat × Nat} (hS : S = shP w3 6) (h : Q none (9, shP w3 9, (am_u (am_u (am_u (am_ur (am_ur (am_ur σ 6 (fun _ => 0)) 7 (fun _ => 0)) 8 (fun _ => 0)) 5 3 (Int32.ofInt 0)) 5 4 (Int32.ofInt 0)) 5 5 (Int32.ofInt (-1))), τ, (am_u (am_u (am_u ρ 5 0 (some 6)) 5 1 (some 7)) 5 2 (some 8)))) : am_d (d + 1) 27 [.ref 5] 3 54 (6, S, σ, τ, ρ) Q := by
  subst hS
  exact am_inT T_X4_init [.ref 5] rfl rfl (n_people_0 d Q (n_people_1 d Q (n_people_2 d Q (n_people_3 d Q h))))
set_option maxRecDepth 100000 in
theorem n_rain_0 (d : Nat) (Q : am_Q) (h : Q none (11, shP w3 11, (am_ur σ 10 (fun _ => 0)), τ, (am_u ρ 9 0 (some 10)))) : am_wp (am_d d) T_X5_init Q (0, [.ref 9], [], 1, 61) (10, shP w3 10, σ, τ, ρ) := by
  rw [shP_s 10 11 rfl] at h
  refine am_wp_go (am_d_cm _) (fun pc => Nat.beq pc 9999) 60 ?_
  refine And.intro (by decide) ?_
  refine And.intro (by decide) ?_
  refine And.intro (by decide) ?_
  refine And.intro (by decide) ?_
  exact h
theorem n_rain (d : Nat) (Q : am_Q) {S : Nat → Nat × Nat} (hS : S = shP w3 10) (h : Q none (11, shP w3 11, (am_ur σ 10 (fun _ => 0)), τ, (am_u ρ 9 0 (some 10)))) : am_d (d + 1) 34 [.ref 9] 1 61 (10, S, σ, τ, ρ) Q := by
  subst hS
  exact am_inT T_X5_init [.ref 9] rfl rfl (n_rain_0 d Q h)
set_option maxRecDepth 100000 in
theorem n_church_0 (d : Nat) (Q : am_Q) (h : am_wp (am_d d) T_X0_init Q (12, [.ref 23, .ref 5, .ref 9, .ref 11], [], 1, 7) (25, shP w3 25, (am_ur σ 24 (fun _ => 0)), τ, (am_u ρ 23 3 (some 24)))) : am_wp (am_d d) T_X0_init Q (0, [.ref 23, .ref 5, .ref 9, .ref 11], [], 2, 14) (24, shP w3 24, σ, τ, ρ) := by
  rw [shP_s 24 25 rfl] at h
  refine am_wp_go (am_d_cm _) (fun pc => Nat.beq pc 12) 60 ?_
  refine And.intro (by decide) ?_
  refine And.intro (by decide) ?_
  refine And.intro (by decide) ?_
  refine And.intro (by decide) ?_
  exact h
set_option maxRecDepth 100000 in
theorem n_church_1 (d : Nat) (Q : am_Q) (h : am_wp (am_d d) T_X0_init Q (20, [.ref 23, .ref 5, .ref 9, .ref 11], [], 0, 0) (26, shP w3 26, (am_ur σ 25 (fun _ => 0)), τ, (am_u ρ 23 4 (some 25)))) : am_wp (am_d d) T_X0_init Q (12, [.ref 23, .ref 5, .ref 9, .ref 11], [], 1, 7) (25, shP w3 25, σ, τ, ρ) := by
  rw [shP_s 25 26 rfl] at h
  refine am_wp_go (am_d_cm _) (fun pc => Nat.beq pc 20) 60 ?_
  refine And.intro (by decide) ?_
  refine And.intro (by decide) ?_
  refine And.intro (by decide) ?_
  refine And.intro (by decide) ?_
  exact h
set_option maxRecDepth 100000 in
theorem n_church_2 (d : Nat) (Q : am_Q) (h : Q none (26, shP w3 26, (am_u σ 23 5 (Int32.ofInt 0)), τ, (am_u (am_u (am_u ρ 23 0 (some 5)) 23 1 (some 9)) 23 2 (some 11)))) : am_wp (am_d d) T_X0_init Q (20, [.ref 23, .ref 5, .ref 9, .ref 11], [], 0, 0) (26, shP w3 26, σ, τ, ρ) := by
  refine am_wp_go (am_d_cm _) (fun pc => Nat.beq pc 9999) 60 ?_
  exact h
theorem n_church (d : Nat) (Q : am_Q) {S : Nat → Nat × Nat} (hS : S = shP w3 24) (h : Q none (26, shP w3 26, (am_u (am_ur (am_ur σ 24 (fun _ => 0)) 25 (fun _ => 0)) 23 5 (Int32.ofInt 0)), τ, (am_u (am_u (am_u (am_u (am_u ρ 23 3 (some 24)) 23 4 (some 25)) 23 0 (some 5)) 23 1 (some 9)) 23 2 (some 11)))) : am_d (d + 1) 0 [.ref 23, .ref 5, .ref 9, .ref 11] 2 14 (24, S, σ, τ, ρ) Q := by
  subst hS
  exact am_inT T_X0_init [.ref 23, .ref 5, .ref 9, .ref 11] rfl rfl (n_church_0 d Q (n_church_1 d Q (n_church_2 d Q h)))
set_option maxRecDepth 100000 in
theorem n_other_0 (d : Nat) (Q : am_Q) (h : am_wp (am_d d) T_X0_init Q (12, [.ref 26, .ref 5, .ref 9, .ref 11], [], 1, 7) (28, shP w3 28, (am_ur σ 27 (fun _ => 0)), τ, (am_u ρ 26 3 (some 27)))) : am_wp (am_d d) T_X0_init Q (0, [.ref 26, .ref 5, .ref 9, .ref 11], [], 2, 14) (27, shP w3 27, σ, τ, ρ) := by
  rw [shP_s 27 28 rfl] at h
  refine am_wp_go (am_d_cm _) (fun pc => Nat.beq pc 12) 60 ?_
  refine And.intro (by decide) ?_
  refine And.intro (by decide) ?_
  refine And.intro (by decide) ?_
  refine And.intro (by decide) ?_
  exact h
set_option maxRecDepth 100000 in
theorem n_other_1 (d : Nat) (Q : am_Q) (h : am_wp (am_d d) T_X0_init Q (20, [.ref 26, .ref 5, .ref 9, .ref 11], [], 0, 0) (29, shP w3 29, (am_ur σ 28 (fun _ => 0)), τ, (am_u ρ 26 4 (some 28)))) : am_wp (am_d d) T_X0_init Q (12, [.ref 26, .ref 5, .ref 9, .ref 11], [], 1, 7) (28, shP w3 28, σ, τ, ρ) := by
  rw [shP_s 28 29 rfl] at h
  refine am_wp_go (am_d_cm _) (fun pc => Nat.beq pc 20) 60 ?_
  refine And.intro (by decide) ?_
  refine And.intro (by decide) ?_
  refine And.intro (by decide) ?_
  refine And.intro (by decide) ?_
  exact h
set_option maxRecDepth 100000 in
theorem n_other_2 (d : Nat) (Q : am_Q) (h : Q none (29, shP w3 29, (am_u σ 26 5 (Int32.ofInt 0)), τ, (am_u (am_u (am_u ρ 26 0 (some 5)) 26 1 (some 9)) 26 2 (some 11)))) : am_wp (am_d d) T_X0_init Q (20, [.ref 26, .ref 5, .ref 9, .ref 11], [], 0, 0) (29, shP w3 29, σ, τ, ρ) := by
  refine am_wp_go (am_d_cm _) (fun pc => Nat.beq pc 9999) 60 ?_
  exact h
theorem n_other (d : Nat) (Q : am_Q) {S : Nat → Nat × Nat} (hS : S = shP w3 27) (h : Q none (29, shP w3 29, (am_u (am_ur (am_ur σ 27 (fun _ => 0)) 28 (fun _ => 0)) 26 5 (Int32.ofInt 0)), τ, (am_u (am_u (am_u (am_u (am_u ρ 26 3 (some 27)) 26 4 (some 28)) 26 0 (some 5)) 26 1 (some 9)) 26 2 (some 11)))) : am_d (d + 1) 0 [.ref 26, .ref 5, .ref 9, .ref 11] 2 14 (27, S, σ, τ, ρ) Q := by
  subst hS
  exact am_inT T_X0_init [.ref 26, .ref 5, .ref 9, .ref 11] rfl rfl (n_other_0 d Q (n_other_1 d Q (n_other_2 d Q h)))
set_option maxRecDepth 100000 in
theorem n_rest_0 (d : Nat) (Q : am_Q) (h : am_wp (am_d d) T_X2_init Q (12, [.ref 29, .int (Int32.ofInt 2)], [], 1, 0) (31, shP w3 31, (am_ur σ 30 (fun _ => 0)), τ, (am_u ρ 29 2 (some 30)))) : am_wp (am_d d) T_X2_init Q (0, [.ref 29, .int (Int32.ofInt 2)], [], 2, 7) (30, shP w3 30, σ, τ, ρ) := by
  rw [shP_s 30 31 rfl] at h
  refine am_wp_go (am_d_cm _) (fun pc => Nat.beq pc 12) 60 ?_
  refine And.intro (by decide) ?_
  refine And.intro (by decide) ?_
  refine And.intro (by decide) ?_
  refine And.intro (by decide) ?_
  exact h
set_option maxRecDepth 100000 in
theorem n_rest_1 (d : Nat) (Q : am_Q) (h : am_wp (am_d d) T_X2_init Q (17, [.ref 29, .int (Int32.ofInt 2)], [], 1, 0) (31, shP w3 31, (am_u σ 29 3 (Int32.ofInt 0)), τ, ρ)) : am_wp (am_d d) T_X2_init Q (12, [.ref 29, .int (Int32.ofInt 2)], [], 1, 0) (31, shP w3 31, σ, τ, ρ) := by
  refine am_wp_go (am_d_cm _) (fun pc => Nat.beq pc 17) 60 ?_
  exact h
set_option maxRecDepth 100000 in
theorem n_rest_2 (d : Nat) (Q : am_Q) (h : am_wp (am_d d) T_X2_init Q (24, [.ref 29, .int (Int32.ofInt 2)], [], 0, 0) (32, shP w3 32, (am_ur σ 31 (fun _ => 0)), τ, (am_u ρ 29 4 (some 31)))) : am_wp (am_d d) T_X2_init Q (17, [.ref 29, .int (Int32.ofInt 2)], [], 1, 0) (31, shP w3 31, σ, τ, ρ) := by
  rw [shP_s 31 32 rfl] at h
  refine am_wp_go (am_d_cm _) (fun pc => Nat.beq pc 24) 60 ?_
  refine And.intro (by decide) ?_
  refine And.intro (by decide) ?_
  refine And.intro (by decide) ?_
  refine And.intro (by decide) ?_
  exact h
set_option maxRecDepth 100000 in
theorem n_rest_3 (d : Nat) (Q : am_Q) (h : Q none (32, shP w3 32, (am_u (am_u (am_u (am_u (am_u σ 29 5 (Int32.ofInt 1)) 29 6 (Int32.ofInt 0)) 29 7 (Int32.ofInt (-1))) 29 0 (Int32.ofInt 2)) 29 1 (Int32.ofInt 1 <<< (Int32.ofInt 2 &&& 31) - Int32.ofInt 1)), τ, ρ)) : am_wp (am_d d) T_X2_init Q (24, [.ref 29, .int (Int32.ofInt 2)], [], 0, 0) (32, shP w3 32, σ, τ, ρ) := by
  refine am_wp_go (am_d_cm _) (fun pc => Nat.beq pc 9999) 60 ?_
  exact h
theorem n_rest (d : Nat) (Q : am_Q) {S : Nat → Nat × Nat} (hS : S = shP w3 30) (h : Q none (32, shP w3 32, (am_u (am_u (am_u (am_u (am_u (am_ur (am_u (am_ur σ 30 (fun _ => 0)) 29 3 (Int32.ofInt 0)) 31 (fun _ => 0)) 29 5 (Int32.ofInt 1)) 29 6 (Int32.ofInt 0)) 29 7 (Int32.ofInt (-1))) 29 0 (Int32.ofInt 2)) 29 1 (Int32.ofInt 1 <<< (Int32.ofInt 2 &&& 31) - Int32.ofInt 1)), τ, (am_u (am_u ρ 29 2 (some 30)) 29 4 (some 31)))) : am_d (d + 1) 10 [.ref 29, .int (Int32.ofInt 2)] 2 7 (30, S, σ, τ, ρ) Q := by
  subst hS
  exact am_inT T_X2_init [.ref 29, .int (Int32.ofInt 2)] rfl rfl (n_rest_0 d Q (n_rest_1 d Q (n_rest_2 d Q (n_rest_3 d Q h))))
set_option maxRecDepth 100000 in
theorem n_choose_0 (d : Nat) (Q : am_Q) (h : am_wp (am_d d) T_X2_init Q (12, [.ref 32, .int (Int32.ofInt 1)], [], 1, 0) (34, shP w3 34, (am_ur σ 33 (fun _ => 0)), τ, (am_u ρ 32 2 (some 33)))) : am_wp (am_d d) T_X2_init Q (0, [.ref 32, .int (Int32.ofInt 1)], [], 2, 7) (33, shP w3 33, σ, τ, ρ) := by
  rw [shP_s 33 34 rfl] at h
  refine am_wp_go (am_d_cm _) (fun pc => Nat.beq pc 12) 60 ?_
  refine And.intro (by decide) ?_
  refine And.intro (by decide) ?_
  refine And.intro (by decide) ?_
  refine And.intro (by decide) ?_
  exact h
set_option maxRecDepth 100000 in
theorem n_choose_1 (d : Nat) (Q : am_Q) (h : am_wp (am_d d) T_X2_init Q (17, [.ref 32, .int (Int32.ofInt 1)], [], 1, 0) (34, shP w3 34, (am_u σ 32 3 (Int32.ofInt 0)), τ, ρ)) : am_wp (am_d d) T_X2_init Q (12, [.ref 32, .int (Int32.ofInt 1)], [], 1, 0) (34, shP w3 34, σ, τ, ρ) := by
  refine am_wp_go (am_d_cm _) (fun pc => Nat.beq pc 17) 60 ?_
  exact h
set_option maxRecDepth 100000 in
theorem n_choose_2 (d : Nat) (Q : am_Q) (h : am_wp (am_d d) T_X2_init Q (24, [.ref 32, .int (Int32.ofInt 1)], [], 0, 0) (35, shP w3 35, (am_ur σ 34 (fun _ => 0)), τ, (am_u ρ 32 4 (some 34)))) : am_wp (am_d d) T_X2_init Q (17, [.ref 32, .int (Int32.ofInt 1)], [], 1, 0) (34, shP w3 34, σ, τ, ρ) := by
  rw [shP_s 34 35 rfl] at h
  refine am_wp_go (am_d_cm _) (fun pc => Nat.beq pc 24) 60 ?_
  refine And.intro (by decide) ?_
  refine And.intro (by decide) ?_
  refine And.intro (by decide) ?_
  refine And.intro (by decide) ?_
  exact h
set_option maxRecDepth 100000 in
theorem n_choose_3 (d : Nat) (Q : am_Q) (h : Q none (35, shP w3 35, (am_u (am_u (am_u (am_u (am_u σ 32 5 (Int32.ofInt 1)) 32 6 (Int32.ofInt 0)) 32 7 (Int32.ofInt (-1))) 32 0 (Int32.ofInt 1)) 32 1 (Int32.ofInt 1 <<< (Int32.ofInt 1 &&& 31) - Int32.ofInt 1)), τ, ρ)) : am_wp (am_d d) T_X2_init Q (24, [.ref 32, .int (Int32.ofInt 1)], [], 0, 0) (35, shP w3 35, σ, τ, ρ) := by
  refine am_wp_go (am_d_cm _) (fun pc => Nat.beq pc 9999) 60 ?_
  exact h
theorem n_choose (d : Nat) (Q : am_Q) {S : Nat → Nat × Nat} (hS : S = shP w3 33) (h : Q none (35, shP w3 35, (am_u (am_u (am_u (am_u (am_u (am_ur (am_u (am_ur σ 33 (fun _ => 0)) 32 3 (Int32.ofInt 0)) 34 (fun _ => 0)) 32 5 (Int32.ofInt 1)) 32 6 (Int32.ofInt 0)) 32 7 (Int32.ofInt (-1))) 32 0 (Int32.ofInt 1)) 32 1 (Int32.ofInt 1 <<< (Int32.ofInt 1 &&& 31) - Int32.ofInt 1)), τ, (am_u (am_u ρ 32 2 (some 33)) 32 4 (some 34)))) : am_d (d + 1) 10 [.ref 32, .int (Int32.ofInt 1)] 2 7 (33, S, σ, τ, ρ) Q := by
  subst hS
  exact am_inT T_X2_init [.ref 32, .int (Int32.ofInt 1)] rfl rfl (n_choose_0 d Q (n_choose_1 d Q (n_choose_2 d Q (n_choose_3 d Q h))))
set_option maxRecDepth 100000 in
theorem n_facts_0 (d : Nat) (Q : am_Q) (h : am_wp (am_d d) T_X1_init Q (12, [.ref 35], [], 2, 16) (37, shP w3 37, (am_ur σ 36 (fun _ => 0)), τ, (am_u ρ 35 0 (some 36)))) : am_wp (am_d d) T_X1_init Q (0, [.ref 35], [], 3, 24) (36, shP w3 36, σ, τ, ρ) := by
  rw [shP_s 36 37 rfl] at h
  refine am_wp_go (am_d_cm _) (fun pc => Nat.beq pc 12) 60 ?_
  refine And.intro (by decide) ?_
  refine And.intro (by decide) ?_
  refine And.intro (by decide) ?_
  refine And.intro (by decide) ?_
  exact h
set_option maxRecDepth 100000 in
theorem n_facts_1 (d : Nat) (Q : am_Q) (h : am_wp (am_d d) T_X1_init Q (20, [.ref 35], [], 1, 8) (38, shP w3 38, (am_ur σ 37 (fun _ => 0)), τ, (am_u ρ 35 1 (some 37)))) : am_wp (am_d d) T_X1_init Q (12, [.ref 35], [], 2, 16) (37, shP w3 37, σ, τ, ρ) := by
  rw [shP_s 37 38 rfl] at h
  refine am_wp_go (am_d_cm _) (fun pc => Nat.beq pc 20) 60 ?_
  refine And.intro (by decide) ?_
  refine And.intro (by decide) ?_
  refine And.intro (by decide) ?_
  refine And.intro (by decide) ?_
  exact h
set_option maxRecDepth 100000 in
theorem n_facts_2 (d : Nat) (Q : am_Q) (h : am_wp (am_d d) T_X1_init Q (28, [.ref 35], [], 0, 0) (39, shP w3 39, (am_ur σ 38 (fun _ => 0)), τ, (am_u ρ 35 2 (some 38)))) : am_wp (am_d d) T_X1_init Q (20, [.ref 35], [], 1, 8) (38, shP w3 38, σ, τ, ρ) := by
  rw [shP_s 38 39 rfl] at h
  refine am_wp_go (am_d_cm _) (fun pc => Nat.beq pc 28) 60 ?_
  refine And.intro (by decide) ?_
  refine And.intro (by decide) ?_
  refine And.intro (by decide) ?_
  refine And.intro (by decide) ?_
  exact h
set_option maxRecDepth 100000 in
theorem n_facts_3 (d : Nat) (Q : am_Q) (h : Q none (39, shP w3 39, (am_u σ 35 3 (Int32.ofInt 0)), τ, ρ)) : am_wp (am_d d) T_X1_init Q (28, [.ref 35], [], 0, 0) (39, shP w3 39, σ, τ, ρ) := by
  refine am_wp_go (am_d_cm _) (fun pc => Nat.beq pc 9999) 60 ?_
  exact h
theorem n_facts (d : Nat) (Q : am_Q) {S : Nat → Nat × Nat} (hS : S = shP w3 36) (h : Q none (39, shP w3 39, (am_u (am_ur (am_ur (am_ur σ 36 (fun _ => 0)) 37 (fun _ => 0)) 38 (fun _ => 0)) 35 3 (Int32.ofInt 0)), τ, (am_u (am_u (am_u ρ 35 0 (some 36)) 35 1 (some 37)) 35 2 (some 38)))) : am_d (d + 1) 8 [.ref 35] 3 24 (36, S, σ, τ, ρ) Q := by
  subst hS
  exact am_inT T_X1_init [.ref 35] rfl rfl (n_facts_0 d Q (n_facts_1 d Q (n_facts_2 d Q (n_facts_3 d Q h))))
set_option maxRecDepth 100000 in
theorem n_orders_0 (d : Nat) (Q : am_Q) (h : am_wp (am_d d) T_X3_init Q (13, [.ref 39], [], 3, 142) (41, shP w3 41, (am_ur σ 40 (fun _ => 0)), τ, (am_u ρ 39 0 (some 40)))) : am_wp (am_d d) T_X3_init Q (0, [.ref 39], [], 4, 270) (40, shP w3 40, σ, τ, ρ) := by
  rw [shP_s 40 41 rfl] at h
  refine am_wp_go (am_d_cm _) (fun pc => Nat.beq pc 13) 60 ?_
  refine And.intro (by decide) ?_
  refine And.intro (by decide) ?_
  refine And.intro (by decide) ?_
  refine And.intro (by decide) ?_
  exact h
set_option maxRecDepth 100000 in
theorem n_orders_1 (d : Nat) (Q : am_Q) (h : am_wp (am_d d) T_X3_init Q (22, [.ref 39], [], 2, 14) (42, shP w3 42, (am_ur σ 41 (fun _ => 0)), τ, (am_u ρ 39 1 (some 41)))) : am_wp (am_d d) T_X3_init Q (13, [.ref 39], [], 3, 142) (41, shP w3 41, σ, τ, ρ) := by
  rw [shP_s 41 42 rfl] at h
  refine am_wp_go (am_d_cm _) (fun pc => Nat.beq pc 22) 60 ?_
  refine And.intro (by decide) ?_
  refine And.intro (by decide) ?_
  refine And.intro (by decide) ?_
  refine And.intro (by decide) ?_
  exact h
set_option maxRecDepth 100000 in
theorem n_orders_2 (d : Nat) (Q : am_Q) (h : am_wp (am_d d) T_X3_init Q (30, [.ref 39], [], 1, 7) (43, shP w3 43, (am_ur σ 42 (fun _ => 0)), τ, (am_u ρ 39 2 (some 42)))) : am_wp (am_d d) T_X3_init Q (22, [.ref 39], [], 2, 14) (42, shP w3 42, σ, τ, ρ) := by
  rw [shP_s 42 43 rfl] at h
  refine am_wp_go (am_d_cm _) (fun pc => Nat.beq pc 30) 60 ?_
  refine And.intro (by decide) ?_
  refine And.intro (by decide) ?_
  refine And.intro (by decide) ?_
  refine And.intro (by decide) ?_
  exact h
set_option maxRecDepth 100000 in
theorem n_orders_3 (d : Nat) (Q : am_Q) (h : am_wp (am_d d) T_X3_init Q (38, [.ref 39], [], 0, 0) (44, shP w3 44, (am_ur σ 43 (fun _ => 0)), τ, (am_u ρ 39 3 (some 43)))) : am_wp (am_d d) T_X3_init Q (30, [.ref 39], [], 1, 7) (43, shP w3 43, σ, τ, ρ) := by
  rw [shP_s 43 44 rfl] at h
  refine am_wp_go (am_d_cm _) (fun pc => Nat.beq pc 38) 60 ?_
  refine And.intro (by decide) ?_
  refine And.intro (by decide) ?_
  refine And.intro (by decide) ?_
  refine And.intro (by decide) ?_
  exact h
set_option maxRecDepth 100000 in
theorem n_orders_4 (d : Nat) (Q : am_Q) (h : Q none (44, shP w3 44, (am_u (am_u σ 39 4 (Int32.ofInt 0)) 39 5 (Int32.ofInt 0)), τ, ρ)) : am_wp (am_d d) T_X3_init Q (38, [.ref 39], [], 0, 0) (44, shP w3 44, σ, τ, ρ) := by
  refine am_wp_go (am_d_cm _) (fun pc => Nat.beq pc 9999) 60 ?_
  exact h
theorem n_orders (d : Nat) (Q : am_Q) {S : Nat → Nat × Nat} (hS : S = shP w3 40) (h : Q none (44, shP w3 44, (am_u (am_u (am_ur (am_ur (am_ur (am_ur σ 40 (fun _ => 0)) 41 (fun _ => 0)) 42 (fun _ => 0)) 43 (fun _ => 0)) 39 4 (Int32.ofInt 0)) 39 5 (Int32.ofInt 0)), τ, (am_u (am_u (am_u (am_u ρ 39 0 (some 40)) 39 1 (some 41)) 39 2 (some 42)) 39 3 (some 43)))) : am_d (d + 1) 17 [.ref 39] 4 270 (40, S, σ, τ, ρ) Q := by
  subst hS
  exact am_inT T_X3_init [.ref 39] rfl rfl (n_orders_0 d Q (n_orders_1 d Q (n_orders_2 d Q (n_orders_3 d Q (n_orders_4 d Q h)))))
set_option maxRecDepth 100000 in
theorem n_sundays_0 (d : Nat) (Q : am_Q) (h : am_wp (am_d d) T_X8_init Q (12, [.ref 44], [], 1, 7) (46, shP w3 46, (am_ur σ 45 (fun _ => 0)), τ, (am_u ρ 44 0 (some 45)))) : am_wp (am_d d) T_X8_init Q (0, [.ref 44], [], 2, 14) (45, shP w3 45, σ, τ, ρ) := by
  rw [shP_s 45 46 rfl] at h
  refine am_wp_go (am_d_cm _) (fun pc => Nat.beq pc 12) 60 ?_
  refine And.intro (by decide) ?_
  refine And.intro (by decide) ?_
  refine And.intro (by decide) ?_
  refine And.intro (by decide) ?_
  exact h
set_option maxRecDepth 100000 in
theorem n_sundays_1 (d : Nat) (Q : am_Q) (h : am_wp (am_d d) T_X8_init Q (20, [.ref 44], [], 0, 0) (47, shP w3 47, (am_ur σ 46 (fun _ => 0)), τ, (am_u ρ 44 1 (some 46)))) : am_wp (am_d d) T_X8_init Q (12, [.ref 44], [], 1, 7) (46, shP w3 46, σ, τ, ρ) := by
  rw [shP_s 46 47 rfl] at h
  refine am_wp_go (am_d_cm _) (fun pc => Nat.beq pc 20) 60 ?_
  refine And.intro (by decide) ?_
  refine And.intro (by decide) ?_
  refine And.intro (by decide) ?_
  refine And.intro (by decide) ?_
  exact h
set_option maxRecDepth 100000 in
theorem n_sundays_2 (d : Nat) (Q : am_Q) (h : Q none (47, shP w3 47, (am_u σ 44 2 (Int32.ofInt 0)), τ, ρ)) : am_wp (am_d d) T_X8_init Q (20, [.ref 44], [], 0, 0) (47, shP w3 47, σ, τ, ρ) := by
  refine am_wp_go (am_d_cm _) (fun pc => Nat.beq pc 9999) 60 ?_
  exact h
theorem n_sundays (d : Nat) (Q : am_Q) {S : Nat → Nat × Nat} (hS : S = shP w3 45) (h : Q none (47, shP w3 47, (am_u (am_ur (am_ur σ 45 (fun _ => 0)) 46 (fun _ => 0)) 44 2 (Int32.ofInt 0)), τ, (am_u (am_u ρ 44 0 (some 45)) 44 1 (some 46)))) : am_d (d + 1) 47 [.ref 44] 2 14 (45, S, σ, τ, ρ) Q := by
  subst hS
  exact am_inT T_X8_init [.ref 44] rfl rfl (n_sundays_0 d Q (n_sundays_1 d Q (n_sundays_2 d Q h)))
set_option maxRecDepth 100000 in
theorem n_sheet0_0 (d : Nat) (Q : am_Q) (h : am_wp (am_d d) T_X7_init Q (12, [.ref 48], [], 0, 0) (50, shP w3 50, (am_ur σ 49 (fun _ => 0)), τ, (am_u ρ 48 0 (some 49)))) : am_wp (am_d d) T_X7_init Q (0, [.ref 48], [], 1, 60) (49, shP w3 49, σ, τ, ρ) := by
  rw [shP_s 49 50 rfl] at h
  refine am_wp_go (am_d_cm _) (fun pc => Nat.beq pc 12) 60 ?_
  refine And.intro (by decide) ?_
  refine And.intro (by decide) ?_
  refine And.intro (by decide) ?_
  refine And.intro (by decide) ?_
  exact h
set_option maxRecDepth 100000 in
theorem n_sheet0_1 (d : Nat) (Q : am_Q) (h : Q none (50, shP w3 50, (am_u (am_u σ 48 1 (Int32.ofInt (-1))) 48 2 (Int32.ofInt 0)), τ, ρ)) : am_wp (am_d d) T_X7_init Q (12, [.ref 48], [], 0, 0) (50, shP w3 50, σ, τ, ρ) := by
  refine am_wp_go (am_d_cm _) (fun pc => Nat.beq pc 9999) 60 ?_
  exact h
theorem n_sheet0 (d : Nat) (Q : am_Q) {S : Nat → Nat × Nat} (hS : S = shP w3 49) (h : Q none (50, shP w3 50, (am_u (am_u (am_ur σ 49 (fun _ => 0)) 48 1 (Int32.ofInt (-1))) 48 2 (Int32.ofInt 0)), τ, (am_u ρ 48 0 (some 49)))) : am_d (d + 1) 41 [.ref 48] 1 60 (49, S, σ, τ, ρ) Q := by
  subst hS
  exact am_inT T_X7_init [.ref 48] rfl rfl (n_sheet0_0 d Q (n_sheet0_1 d Q h))
set_option maxRecDepth 100000 in
theorem n_sheet1_0 (d : Nat) (Q : am_Q) (h : am_wp (am_d d) T_X7_init Q (12, [.ref 50], [], 0, 0) (52, shP w3 52, (am_ur σ 51 (fun _ => 0)), τ, (am_u ρ 50 0 (some 51)))) : am_wp (am_d d) T_X7_init Q (0, [.ref 50], [], 1, 60) (51, shP w3 51, σ, τ, ρ) := by
  rw [shP_s 51 52 rfl] at h
  refine am_wp_go (am_d_cm _) (fun pc => Nat.beq pc 12) 60 ?_
  refine And.intro (by decide) ?_
  refine And.intro (by decide) ?_
  refine And.intro (by decide) ?_
  refine And.intro (by decide) ?_
  exact h
set_option maxRecDepth 100000 in
theorem n_sheet1_1 (d : Nat) (Q : am_Q) (h : Q none (52, shP w3 52, (am_u (am_u σ 50 1 (Int32.ofInt (-1))) 50 2 (Int32.ofInt 0)), τ, ρ)) : am_wp (am_d d) T_X7_init Q (12, [.ref 50], [], 0, 0) (52, shP w3 52, σ, τ, ρ) := by
  refine am_wp_go (am_d_cm _) (fun pc => Nat.beq pc 9999) 60 ?_
  exact h
theorem n_sheet1 (d : Nat) (Q : am_Q) {S : Nat → Nat × Nat} (hS : S = shP w3 51) (h : Q none (52, shP w3 52, (am_u (am_u (am_ur σ 51 (fun _ => 0)) 50 1 (Int32.ofInt (-1))) 50 2 (Int32.ofInt 0)), τ, (am_u ρ 50 0 (some 51)))) : am_d (d + 1) 41 [.ref 50] 1 60 (51, S, σ, τ, ρ) Q := by
  subst hS
  exact am_inT T_X7_init [.ref 50] rfl rfl (n_sheet1_0 d Q (n_sheet1_1 d Q h))
set_option maxRecDepth 100000 in
theorem n_sheet2_0 (d : Nat) (Q : am_Q) (h : am_wp (am_d d) T_X7_init Q (12, [.ref 52], [], 0, 0) (54, shP w3 54, (am_ur σ 53 (fun _ => 0)), τ, (am_u ρ 52 0 (some 53)))) : am_wp (am_d d) T_X7_init Q (0, [.ref 52], [], 1, 60) (53, shP w3 53, σ, τ, ρ) := by
  rw [shP_s 53 54 rfl] at h
  refine am_wp_go (am_d_cm _) (fun pc => Nat.beq pc 12) 60 ?_
  refine And.intro (by decide) ?_
  refine And.intro (by decide) ?_
  refine And.intro (by decide) ?_
  refine And.intro (by decide) ?_
  exact h
set_option maxRecDepth 100000 in
theorem n_sheet2_1 (d : Nat) (Q : am_Q) (h : Q none (54, shP w3 54, (am_u (am_u σ 52 1 (Int32.ofInt (-1))) 52 2 (Int32.ofInt 0)), τ, ρ)) : am_wp (am_d d) T_X7_init Q (12, [.ref 52], [], 0, 0) (54, shP w3 54, σ, τ, ρ) := by
  refine am_wp_go (am_d_cm _) (fun pc => Nat.beq pc 9999) 60 ?_
  exact h
theorem n_sheet2 (d : Nat) (Q : am_Q) {S : Nat → Nat × Nat} (hS : S = shP w3 53) (h : Q none (54, shP w3 54, (am_u (am_u (am_ur σ 53 (fun _ => 0)) 52 1 (Int32.ofInt (-1))) 52 2 (Int32.ofInt 0)), τ, (am_u ρ 52 0 (some 53)))) : am_d (d + 1) 41 [.ref 52] 1 60 (53, S, σ, τ, ρ) Q := by
  subst hS
  exact am_inT T_X7_init [.ref 52] rfl rfl (n_sheet2_0 d Q (n_sheet2_1 d Q h))
set_option maxRecDepth 100000 in
theorem n_sheet3_0 (d : Nat) (Q : am_Q) (h : am_wp (am_d d) T_X7_init Q (12, [.ref 54], [], 0, 0) (56, shP w3 56, (am_ur σ 55 (fun _ => 0)), τ, (am_u ρ 54 0 (some 55)))) : am_wp (am_d d) T_X7_init Q (0, [.ref 54], [], 1, 60) (55, shP w3 55, σ, τ, ρ) := by
  rw [shP_s 55 56 rfl] at h
  refine am_wp_go (am_d_cm _) (fun pc => Nat.beq pc 12) 60 ?_
  refine And.intro (by decide) ?_
  refine And.intro (by decide) ?_
  refine And.intro (by decide) ?_
  refine And.intro (by decide) ?_
  exact h
set_option maxRecDepth 100000 in
theorem n_sheet3_1 (d : Nat) (Q : am_Q) (h : Q none (56, shP w3 56, (am_u (am_u σ 54 1 (Int32.ofInt (-1))) 54 2 (Int32.ofInt 0)), τ, ρ)) : am_wp (am_d d) T_X7_init Q (12, [.ref 54], [], 0, 0) (56, shP w3 56, σ, τ, ρ) := by
  refine am_wp_go (am_d_cm _) (fun pc => Nat.beq pc 9999) 60 ?_
  exact h
theorem n_sheet3 (d : Nat) (Q : am_Q) {S : Nat → Nat × Nat} (hS : S = shP w3 55) (h : Q none (56, shP w3 56, (am_u (am_u (am_ur σ 55 (fun _ => 0)) 54 1 (Int32.ofInt (-1))) 54 2 (Int32.ofInt 0)), τ, (am_u ρ 54 0 (some 55)))) : am_d (d + 1) 41 [.ref 54] 1 60 (55, S, σ, τ, ρ) Q := by
  subst hS
  exact am_inT T_X7_init [.ref 54] rfl rfl (n_sheet3_0 d Q (n_sheet3_1 d Q h))
theorem shP_m : shP w3 21 = fun c => if c = 13 then (5, 7) else if 13 < c ∧ c < 13 + 8 then (0, 7) else shP w3 13 c := by
  funext c
  by_cases e : c = 13
  · subst e
    rfl
  · rw [if_neg e]
    by_cases e2 : 13 < c ∧ c < 13 + 8
    · rw [if_pos e2]
      rcases (show c = 14 ∨ c = 15 ∨ c = 16 ∨ c = 17 ∨ c = 18 ∨ c = 19 ∨ c = 20 by omega) with q | q | q | q | q | q | q <;> subst q <;> rfl
    · rw [if_neg e2]
      unfold shP
      have : Nat.blt c 21 = Nat.blt c 13 := by
        rw [Bool.eq_iff_iff, Nat.blt_eq, Nat.blt_eq]
        omega
      rw [this]
set_option maxRecDepth 100000 in
theorem n_rules_0 (d : Nat) (Q : am_Q) (h : am_wp (am_d d) T_X6_init Q (17, [.ref 11], [], 8, 56) (13, shP w3 13, am_ur σ 12 (σ 2), τ, am_u ρ 11 0 (some 12))) : am_wp (am_d d) T_X6_init Q (0, [.ref 11], [], 9, 62) (12, shP w3 12, σ, τ, ρ) := by
  rw [shP_s 12 13 rfl] at h
  refine am_wp_go (am_d_cm _) (fun pc => Nat.beq pc 17) 60 ?_
  refine And.intro (by decide) ?_
  refine And.intro (by decide) ?_
  refine And.intro (show 6 ≤ 62 by decide) ?_
  exact h
set_option maxRecDepth 100000 in
theorem n_rules_1 (d : Nat) (Q : am_Q) (h : Q none (21, shP w3 21, (fun c => if 13 < c ∧ c < 13 + 8 then (fun _ => 0) else σ c), τ, am_u (am_ur ρ 13 (fun i => if i < 7 then some (13 + 1 + i) else none)) 11 1 (some 13))) : am_wp (am_d d) T_X6_init Q (17, [.ref 11], [], 8, 56) (13, shP w3 13, σ, τ, ρ) := by
  rw [shP_m] at h
  refine am_wp_go (am_d_cm _) (fun pc => Nat.beq pc 9999) 60 ?_
  refine And.intro (by decide) ?_
  refine And.intro (by decide) ?_
  refine And.intro (by decide) ?_
  refine And.intro (by decide) ?_
  exact h
theorem n_rules (d : Nat) (Q : am_Q) {S : Nat → Nat × Nat} (hS : S = shP w3 12) (h : Q none (21, shP w3 21, (fun c => if 13 < c ∧ c < 13 + 8 then (fun _ => 0) else (am_ur σ 12 (σ 2)) c), τ, (am_u (am_ur (am_u ρ 11 0 (some 12)) 13 (fun i => if i < 7 then some (13 + 1 + i) else none)) 11 1 (some 13)))) : am_d (d + 1) 37 [.ref 11] 9 62 (12, S, σ, τ, ρ) Q := by
  subst hS
  exact am_inT T_X6_init [.ref 11] rfl rfl (n_rules_0 d Q (n_rules_1 d Q h))
set_option maxRecDepth 100000 in
theorem m9_0 (d : Nat) (Q : am_Q) (h : am_wp (am_d (d + 1)) T_X9_init Q (15, [.ref 4, .null], [], 47, 787) (9, shP w3 9, (am_u (am_u (am_u (am_ur (am_ur (am_ur (am_ur σ 5 (fun _ => 0)) 6 (fun _ => 0)) 7 (fun _ => 0)) 8 (fun _ => 0)) 5 3 (Int32.ofInt 0)) 5 4 (Int32.ofInt 0)) 5 5 (Int32.ofInt (-1))), τ, (am_u (am_u (am_u (am_u (am_ur ρ 5 (fun _ => none)) 5 0 (some 6)) 5 1 (some 7)) 5 2 (some 8)) 4 0 (some 5)))) : am_wp (am_d (d + 1)) T_X9_init Q (0, [.ref 4, .null], [], 51, 847) (5, shP w3 5, σ, τ, ρ) := by
  refine am_wp_go (am_d_cm _) (fun pc => Nat.beq pc 15) 60 ?_
  refine And.intro (by decide) ?_
  refine And.intro (by decide) ?_
  refine ⟨3, 54, by decide, by decide, ?_⟩
  refine n_people d _ (shP_s 5 6 rfl).symm ?_
  exact h
set_option maxRecDepth 100000 in
theorem m9_1 (d : Nat) (Q : am_Q) (h : am_wp (am_d (d + 1)) T_X9_init Q (26, [.ref 4, .null], [], 45, 725) (11, shP w3 11, (am_ur (am_ur σ 9 (fun _ => 0)) 10 (fun _ => 0)), τ, (am_u (am_u (am_ur ρ 9 (fun _ => none)) 9 0 (some 10)) 4 1 (some 9)))) : am_wp (am_d (d + 1)) T_X9_init Q (15, [.ref 4, .null], [], 47, 787) (9, shP w3 9, σ, τ, ρ) := by
  refine am_wp_go (am_d_cm _) (fun pc => Nat.beq pc 26) 60 ?_
  refine And.intro (by decide) ?_
  refine And.intro (by decide) ?_
  refine ⟨1, 61, by decide, by decide, ?_⟩
  refine n_rain d _ (shP_s 9 10 rfl).symm ?_
  exact h
set_option maxRecDepth 100000 in
theorem m9_2 (d : Nat) (Q : am_Q) (h : am_wp (am_d (d + 1)) T_X9_init Q (37, [.ref 4, .null], [], 35, 661) (21, shP w3 21, (fun c => if 13 < c ∧ c < 13 + 8 then (fun _ => 0) else (am_ur (am_ur σ 11 (fun _ => 0)) 12 ((am_ur σ 11 (fun _ => 0)) 2)) c), τ, (am_u (am_u (am_ur (am_u (am_ur ρ 11 (fun _ => none)) 11 0 (some 12)) 13 (fun i => if i < 7 then some (13 + 1 + i) else none)) 11 1 (some 13)) 4 2 (some 11)))) : am_wp (am_d (d + 1)) T_X9_init Q (26, [.ref 4, .null], [], 45, 725) (11, shP w3 11, σ, τ, ρ) := by
  refine am_wp_go (am_d_cm _) (fun pc => Nat.beq pc 37) 60 ?_
  refine And.intro (by decide) ?_
  refine And.intro (by decide) ?_
  refine ⟨9, 62, by decide, by decide, ?_⟩
  refine n_rules d _ (shP_s 11 12 rfl).symm ?_
  exact h
set_option maxRecDepth 100000 in
theorem m9_3 (d : Nat) (Q : am_Q) (h : am_wp (am_d (d + 1)) T_X9_init Q (45, [.ref 4, .null], [], 34, 654) (22, shP w3 22, (am_ur σ 21 (fun _ => 0)), τ, (am_u ρ 4 3 (some 21)))) : am_wp (am_d (d + 1)) T_X9_init Q (37, [.ref 4, .null], [], 35, 661) (21, shP w3 21, σ, τ, ρ) := by
  rw [shP_s 21 22 rfl] at h
  refine am_wp_go (am_d_cm _) (fun pc => Nat.beq pc 45) 60 ?_
  refine And.intro (by decide) ?_
  refine And.intro (by decide) ?_
  refine And.intro (by decide) ?_
  refine And.intro (by decide) ?_
  exact h
set_option maxRecDepth 100000 in
theorem m9_4 (d : Nat) (Q : am_Q) (h : am_wp (am_d (d + 1)) T_X9_init Q (53, [.ref 4, .null], [], 33, 647) (23, shP w3 23, (am_ur σ 22 (fun _ => 0)), τ, (am_u ρ 4 4 (some 22)))) : am_wp (am_d (d + 1)) T_X9_init Q (45, [.ref 4, .null], [], 34, 654) (22, shP w3 22, σ, τ, ρ) := by
  rw [shP_s 22 23 rfl] at h
  refine am_wp_go (am_d_cm _) (fun pc => Nat.beq pc 53) 60 ?_
  refine And.intro (by decide) ?_
  refine And.intro (by decide) ?_
  refine And.intro (by decide) ?_
  refine And.intro (by decide) ?_
  exact h
set_option maxRecDepth 100000 in
theorem m9_5 (d : Nat) (Q : am_Q) (h0 : ρ 4 0 = some 5) (h1 : ρ 4 1 = some 9) (h2 : ρ 4 2 = some 11) (h : am_wp (am_d (d + 1)) T_X9_init Q (76, [.ref 4, .null], [], 30, 627) (26, shP w3 26, (am_u (am_ur (am_ur (am_ur σ 23 (fun _ => 0)) 24 (fun _ => 0)) 25 (fun _ => 0)) 23 5 (Int32.ofInt 0)), τ, (am_u (am_u (am_u (am_u (am_u (am_u (am_ur ρ 23 (fun _ => none)) 23 3 (some 24)) 23 4 (some 25)) 23 0 (some 5)) 23 1 (some 9)) 23 2 (some 11)) 4 5 (some 23)))) : am_wp (am_d (d + 1)) T_X9_init Q (53, [.ref 4, .null], [], 33, 647) (23, shP w3 23, σ, τ, ρ) := by
  have e : ρ = am_u (am_u (am_u ρ 4 0 (some 5)) 4 1 (some 9)) 4 2 (some 11) := by rw [am_u_id h0, am_u_id h1, am_u_id h2]
  clear h0 h1 h2
  rw [e] at h ⊢
  refine am_wp_go (am_d_cm _) (fun pc => Nat.beq pc 76) 60 ?_
  refine And.intro (by decide) ?_
  refine And.intro (by decide) ?_
  refine ⟨2, 14, by decide, by decide, ?_⟩
  refine n_church d _ (shP_s 23 24 rfl).symm ?_
  exact h
set_option maxRecDepth 100000 in
theorem m9_6 (d : Nat) (Q : am_Q) (h0 : ρ 4 0 = some 5) (h1 : ρ 4 1 = some 9) (h2 : ρ 4 2 = some 11) (h : am_wp (am_d (d + 1)) T_X9_init Q (99, [.ref 4, .null], [], 27, 607) (29, shP w3 29, (am_u (am_ur (am_ur (am_ur σ 26 (fun _ => 0)) 27 (fun _ => 0)) 28 (fun _ => 0)) 26 5 (Int32.ofInt 0)), τ, (am_u (am_u (am_u (am_u (am_u (am_u (am_ur ρ 26 (fun _ => none)) 26 3 (some 27)) 26 4 (some 28)) 26 0 (some 5)) 26 1 (some 9)) 26 2 (some 11)) 4 6 (some 26)))) : am_wp (am_d (d + 1)) T_X9_init Q (76, [.ref 4, .null], [], 30, 627) (26, shP w3 26, σ, τ, ρ) := by
  have e : ρ = am_u (am_u (am_u ρ 4 0 (some 5)) 4 1 (some 9)) 4 2 (some 11) := by rw [am_u_id h0, am_u_id h1, am_u_id h2]
  clear h0 h1 h2
  rw [e] at h ⊢
  refine am_wp_go (am_d_cm _) (fun pc => Nat.beq pc 99) 60 ?_
  refine And.intro (by decide) ?_
  refine And.intro (by decide) ?_
  refine ⟨2, 14, by decide, by decide, ?_⟩
  refine n_other d _ (shP_s 26 27 rfl).symm ?_
  exact h
set_option maxRecDepth 100000 in
theorem m9_7 (d : Nat) (Q : am_Q) (h : am_wp (am_d (d + 1)) T_X9_init Q (111, [.ref 4, .null], [], 24, 592) (32, shP w3 32, (am_u (am_u (am_u (am_u (am_u (am_ur (am_u (am_ur (am_ur σ 29 (fun _ => 0)) 30 (fun _ => 0)) 29 3 (Int32.ofInt 0)) 31 (fun _ => 0)) 29 5 (Int32.ofInt 1)) 29 6 (Int32.ofInt 0)) 29 7 (Int32.ofInt (-1))) 29 0 (Int32.ofInt 2)) 29 1 (Int32.ofInt 1 <<< (Int32.ofInt 2 &&& 31) - Int32.ofInt 1)), τ, (am_u (am_u (am_u (am_ur ρ 29 (fun _ => none)) 29 2 (some 30)) 29 4 (some 31)) 4 7 (some 29)))) : am_wp (am_d (d + 1)) T_X9_init Q (99, [.ref 4, .null], [], 27, 607) (29, shP w3 29, σ, τ, ρ) := by
  refine am_wp_go (am_d_cm _) (fun pc => Nat.beq pc 111) 60 ?_
  refine And.intro (by decide) ?_
  refine And.intro (by decide) ?_
  refine ⟨2, 7, by decide, by decide, ?_⟩
  refine n_rest d _ (shP_s 29 30 rfl).symm ?_
  exact h
set_option maxRecDepth 100000 in
theorem m9_8 (d : Nat) (Q : am_Q) (h : am_wp (am_d (d + 1)) T_X9_init Q (123, [.ref 4, .null], [], 21, 577) (35, shP w3 35, (am_u (am_u (am_u (am_u (am_u (am_ur (am_u (am_ur (am_ur σ 32 (fun _ => 0)) 33 (fun _ => 0)) 32 3 (Int32.ofInt 0)) 34 (fun _ => 0)) 32 5 (Int32.ofInt 1)) 32 6 (Int32.ofInt 0)) 32 7 (Int32.ofInt (-1))) 32 0 (Int32.ofInt 1)) 32 1 (Int32.ofInt 1 <<< (Int32.ofInt 1 &&& 31) - Int32.ofInt 1)), τ, (am_u (am_u (am_u (am_ur ρ 32 (fun _ => none)) 32 2 (some 33)) 32 4 (some 34)) 4 8 (some 32)))) : am_wp (am_d (d + 1)) T_X9_init Q (111, [.ref 4, .null], [], 24, 592) (32, shP w3 32, σ, τ, ρ) := by
  refine am_wp_go (am_d_cm _) (fun pc => Nat.beq pc 123) 60 ?_
  refine And.intro (by decide) ?_
  refine And.intro (by decide) ?_
  refine ⟨2, 7, by decide, by decide, ?_⟩
  refine n_choose d _ (shP_s 32 33 rfl).symm ?_
  exact h
set_option maxRecDepth 100000 in
theorem m9_9 (d : Nat) (Q : am_Q) (h : am_wp (am_d (d + 1)) T_X9_init Q (134, [.ref 4, .null], [], 17, 549) (39, shP w3 39, (am_u (am_ur (am_ur (am_ur (am_ur σ 35 (fun _ => 0)) 36 (fun _ => 0)) 37 (fun _ => 0)) 38 (fun _ => 0)) 35 3 (Int32.ofInt 0)), τ, (am_u (am_u (am_u (am_u (am_ur ρ 35 (fun _ => none)) 35 0 (some 36)) 35 1 (some 37)) 35 2 (some 38)) 4 9 (some 35)))) : am_wp (am_d (d + 1)) T_X9_init Q (123, [.ref 4, .null], [], 21, 577) (35, shP w3 35, σ, τ, ρ) := by
  refine am_wp_go (am_d_cm _) (fun pc => Nat.beq pc 134) 60 ?_
  refine And.intro (by decide) ?_
  refine And.intro (by decide) ?_
  refine ⟨3, 24, by decide, by decide, ?_⟩
  refine n_facts d _ (shP_s 35 36 rfl).symm ?_
  exact h
set_option maxRecDepth 100000 in
theorem m9_10 (d : Nat) (Q : am_Q) (h : am_wp (am_d (d + 1)) T_X9_init Q (145, [.ref 4, .null], [], 12, 273) (44, shP w3 44, (am_u (am_u (am_ur (am_ur (am_ur (am_ur (am_ur σ 39 (fun _ => 0)) 40 (fun _ => 0)) 41 (fun _ => 0)) 42 (fun _ => 0)) 43 (fun _ => 0)) 39 4 (Int32.ofInt 0)) 39 5 (Int32.ofInt 0)), τ, (am_u (am_u (am_u (am_u (am_u (am_ur ρ 39 (fun _ => none)) 39 0 (some 40)) 39 1 (some 41)) 39 2 (some 42)) 39 3 (some 43)) 4 10 (some 39)))) : am_wp (am_d (d + 1)) T_X9_init Q (134, [.ref 4, .null], [], 17, 549) (39, shP w3 39, σ, τ, ρ) := by
  refine am_wp_go (am_d_cm _) (fun pc => Nat.beq pc 145) 60 ?_
  refine And.intro (by decide) ?_
  refine And.intro (by decide) ?_
  refine ⟨4, 270, by decide, by decide, ?_⟩
  refine n_orders d _ (shP_s 39 40 rfl).symm ?_
  exact h
set_option maxRecDepth 100000 in
theorem m9_11 (d : Nat) (Q : am_Q) (h : am_wp (am_d (d + 1)) T_X9_init Q (156, [.ref 4, .null], [], 9, 256) (47, shP w3 47, (am_u (am_ur (am_ur (am_ur σ 44 (fun _ => 0)) 45 (fun _ => 0)) 46 (fun _ => 0)) 44 2 (Int32.ofInt 0)), τ, (am_u (am_u (am_u (am_ur ρ 44 (fun _ => none)) 44 0 (some 45)) 44 1 (some 46)) 4 11 (some 44)))) : am_wp (am_d (d + 1)) T_X9_init Q (145, [.ref 4, .null], [], 12, 273) (44, shP w3 44, σ, τ, ρ) := by
  refine am_wp_go (am_d_cm _) (fun pc => Nat.beq pc 156) 60 ?_
  refine And.intro (by decide) ?_
  refine And.intro (by decide) ?_
  refine ⟨2, 14, by decide, by decide, ?_⟩
  refine n_sundays d _ (shP_s 44 45 rfl).symm ?_
  exact h
set_option maxRecDepth 100000 in
theorem m9_12 (d : Nat) (Q : am_Q) (h : am_wp (am_d (d + 1)) T_X9_init Q (164, [.ref 4, .null], [], 8, 252) (48, shP w3 48, σ, τ, (am_u (am_ur ρ 47 (fun _ => none)) 4 12 (some 47)))) : am_wp (am_d (d + 1)) T_X9_init Q (156, [.ref 4, .null], [], 9, 256) (47, shP w3 47, σ, τ, ρ) := by
  rw [shP_s 47 48 rfl] at h
  refine am_wp_go (am_d_cm _) (fun pc => Nat.beq pc 164) 60 ?_
  refine And.intro (by decide) ?_
  refine And.intro (by decide) ?_
  refine And.intro (by decide) ?_
  refine And.intro (by decide) ?_
  exact h
set_option maxRecDepth 100000 in
theorem m9_13 (d : Nat) (Q : am_Q) (h : am_wp (am_d (d + 1)) T_X9_init Q (186, [.ref 4, .int (Int32.ofInt 0)], [], 8, 252) (48, shP w3 48, (am_u (am_u (am_u (am_u σ 4 13 (Int32.ofInt 0)) 4 14 (Int32.ofInt 0)) 4 15 (Int32.ofInt 0)) 4 16 (Int32.ofInt 0)), τ, ρ)) : am_wp (am_d (d + 1)) T_X9_init Q (164, [.ref 4, .null], [], 8, 252) (48, shP w3 48, σ, τ, ρ) := by
  refine am_wp_go (am_d_cm _) (fun pc => Nat.beq pc 186) 60 ?_
  refine And.intro (Or.inl rfl) ?_
  refine And.intro (Or.inl rfl) ?_
  refine And.intro (Or.inl rfl) ?_
  exact h
set_option maxRecDepth 100000 in
theorem m9_14 (d : Nat) (Q : am_Q) (h0 : ρ 4 12 = some 47) (h : am_wp (am_d (d + 1)) T_X9_init Q (203, [.ref 4, .int (Int32.ofInt 0)], [.ref 48, .int (Int32.ofInt 0), .ref 47], 6, 189) (50, shP w3 50, (am_u (am_u (am_ur (am_ur σ 48 (fun _ => 0)) 49 (fun _ => 0)) 48 1 (Int32.ofInt (-1))) 48 2 (Int32.ofInt 0)), τ, (am_u (am_ur ρ 48 (fun _ => none)) 48 0 (some 49)))) : am_wp (am_d (d + 1)) T_X9_init Q (186, [.ref 4, .int (Int32.ofInt 0)], [], 8, 252) (48, shP w3 48, σ, τ, ρ) := by
  have e : ρ = am_u ρ 4 12 (some 47) := (am_u_id h0).symm
  rw [e] at h ⊢
  refine am_wp_go (am_d_cm _) (fun pc => Nat.beq pc 203) 60 ?_
  refine And.intro (fun c => absurd c (by decide)) (fun _ => ?_)
  refine And.intro (by decide) ?_
  refine And.intro (by decide) ?_
  refine ⟨1, 60, by decide, by decide, ?_⟩
  refine n_sheet0 d _ (shP_s 48 49 rfl).symm ?_
  exact h
set_option maxRecDepth 100000 in
theorem m9_15 (d : Nat) (Q : am_Q) (h : am_wp (am_d (d + 1)) T_X9_init Q (186, [.ref 4, .int (Int32.ofInt 1)], [], 6, 189) (50, shP w3 50, σ, τ, (am_u ρ 47 0 (some 48)))) : am_wp (am_d (d + 1)) T_X9_init Q (203, [.ref 4, .int (Int32.ofInt 0)], [.ref 48, .int (Int32.ofInt 0), .ref 47], 6, 189) (50, shP w3 50, σ, τ, ρ) := by
  refine am_wp_go (am_d_cm _) (fun pc => Nat.beq pc 186) 60 ?_
  refine ixi 0 4 (by decide) ?_ rfl
  exact h
set_option maxRecDepth 100000 in
theorem m9_16 (d : Nat) (Q : am_Q) (h0 : ρ 4 12 = some 47) (h : am_wp (am_d (d + 1)) T_X9_init Q (203, [.ref 4, .int (Int32.ofInt 1)], [.ref 50, .int (Int32.ofInt 1), .ref 47], 4, 126) (52, shP w3 52, (am_u (am_u (am_ur (am_ur σ 50 (fun _ => 0)) 51 (fun _ => 0)) 50 1 (Int32.ofInt (-1))) 50 2 (Int32.ofInt 0)), τ, (am_u (am_ur ρ 50 (fun _ => none)) 50 0 (some 51)))) : am_wp (am_d (d + 1)) T_X9_init Q (186, [.ref 4, .int (Int32.ofInt 1)], [], 6, 189) (50, shP w3 50, σ, τ, ρ) := by
  have e : ρ = am_u ρ 4 12 (some 47) := (am_u_id h0).symm
  rw [e] at h ⊢
  refine am_wp_go (am_d_cm _) (fun pc => Nat.beq pc 203) 60 ?_
  refine And.intro (fun c => absurd c (by decide)) (fun _ => ?_)
  refine And.intro (by decide) ?_
  refine And.intro (by decide) ?_
  refine ⟨1, 60, by decide, by decide, ?_⟩
  refine n_sheet1 d _ (shP_s 50 51 rfl).symm ?_
  exact h
set_option maxRecDepth 100000 in
theorem m9_17 (d : Nat) (Q : am_Q) (h : am_wp (am_d (d + 1)) T_X9_init Q (186, [.ref 4, .int (Int32.ofInt 2)], [], 4, 126) (52, shP w3 52, σ, τ, (am_u ρ 47 1 (some 50)))) : am_wp (am_d (d + 1)) T_X9_init Q (203, [.ref 4, .int (Int32.ofInt 1)], [.ref 50, .int (Int32.ofInt 1), .ref 47], 4, 126) (52, shP w3 52, σ, τ, ρ) := by
  refine am_wp_go (am_d_cm _) (fun pc => Nat.beq pc 186) 60 ?_
  refine ixi 1 4 (by decide) ?_ rfl
  exact h
set_option maxRecDepth 100000 in
theorem m9_18 (d : Nat) (Q : am_Q) (h0 : ρ 4 12 = some 47) (h : am_wp (am_d (d + 1)) T_X9_init Q (203, [.ref 4, .int (Int32.ofInt 2)], [.ref 52, .int (Int32.ofInt 2), .ref 47], 2, 63) (54, shP w3 54, (am_u (am_u (am_ur (am_ur σ 52 (fun _ => 0)) 53 (fun _ => 0)) 52 1 (Int32.ofInt (-1))) 52 2 (Int32.ofInt 0)), τ, (am_u (am_ur ρ 52 (fun _ => none)) 52 0 (some 53)))) : am_wp (am_d (d + 1)) T_X9_init Q (186, [.ref 4, .int (Int32.ofInt 2)], [], 4, 126) (52, shP w3 52, σ, τ, ρ) := by
  have e : ρ = am_u ρ 4 12 (some 47) := (am_u_id h0).symm
  rw [e] at h ⊢
  refine am_wp_go (am_d_cm _) (fun pc => Nat.beq pc 203) 60 ?_
  refine And.intro (fun c => absurd c (by decide)) (fun _ => ?_)
  refine And.intro (by decide) ?_
  refine And.intro (by decide) ?_
  refine ⟨1, 60, by decide, by decide, ?_⟩
  refine n_sheet2 d _ (shP_s 52 53 rfl).symm ?_
  exact h
set_option maxRecDepth 100000 in
theorem m9_19 (d : Nat) (Q : am_Q) (h : am_wp (am_d (d + 1)) T_X9_init Q (186, [.ref 4, .int (Int32.ofInt 3)], [], 2, 63) (54, shP w3 54, σ, τ, (am_u ρ 47 2 (some 52)))) : am_wp (am_d (d + 1)) T_X9_init Q (203, [.ref 4, .int (Int32.ofInt 2)], [.ref 52, .int (Int32.ofInt 2), .ref 47], 2, 63) (54, shP w3 54, σ, τ, ρ) := by
  refine am_wp_go (am_d_cm _) (fun pc => Nat.beq pc 186) 60 ?_
  refine ixi 2 4 (by decide) ?_ rfl
  exact h
set_option maxRecDepth 100000 in
theorem m9_20 (d : Nat) (Q : am_Q) (h0 : ρ 4 12 = some 47) (h : am_wp (am_d (d + 1)) T_X9_init Q (203, [.ref 4, .int (Int32.ofInt 3)], [.ref 54, .int (Int32.ofInt 3), .ref 47], 0, 0) (56, shP w3 56, (am_u (am_u (am_ur (am_ur σ 54 (fun _ => 0)) 55 (fun _ => 0)) 54 1 (Int32.ofInt (-1))) 54 2 (Int32.ofInt 0)), τ, (am_u (am_ur ρ 54 (fun _ => none)) 54 0 (some 55)))) : am_wp (am_d (d + 1)) T_X9_init Q (186, [.ref 4, .int (Int32.ofInt 3)], [], 2, 63) (54, shP w3 54, σ, τ, ρ) := by
  have e : ρ = am_u ρ 4 12 (some 47) := (am_u_id h0).symm
  rw [e] at h ⊢
  refine am_wp_go (am_d_cm _) (fun pc => Nat.beq pc 203) 60 ?_
  refine And.intro (fun c => absurd c (by decide)) (fun _ => ?_)
  refine And.intro (by decide) ?_
  refine And.intro (by decide) ?_
  refine ⟨1, 60, by decide, by decide, ?_⟩
  refine n_sheet3 d _ (shP_s 54 55 rfl).symm ?_
  exact h
set_option maxRecDepth 100000 in
theorem m9_21 (d : Nat) (Q : am_Q) (h : am_wp (am_d (d + 1)) T_X9_init Q (186, [.ref 4, .int (Int32.ofInt 4)], [], 0, 0) (56, shP w3 56, σ, τ, (am_u ρ 47 3 (some 54)))) : am_wp (am_d (d + 1)) T_X9_init Q (203, [.ref 4, .int (Int32.ofInt 3)], [.ref 54, .int (Int32.ofInt 3), .ref 47], 0, 0) (56, shP w3 56, σ, τ, ρ) := by
  refine am_wp_go (am_d_cm _) (fun pc => Nat.beq pc 186) 60 ?_
  refine ixi 3 4 (by decide) ?_ rfl
  exact h
set_option maxRecDepth 100000 in
theorem m9_22 (d : Nat) (Q : am_Q) (h : Q none (56, shP w3 56, σ, τ, ρ)) : am_wp (am_d (d + 1)) T_X9_init Q (186, [.ref 4, .int (Int32.ofInt 4)], [], 0, 0) (56, shP w3 56, σ, τ, ρ) := by
  refine am_wp_go (am_d_cm _) (fun pc => Nat.beq pc 9999) 60 ?_
  refine And.intro (fun _ => ?_) (fun c => absurd (by decide) c)
  exact h
end MADE
/-- the class, newly made: its rows, its references -/
def sC (σ : Nat → Nat → Int32) : Nat → Nat → Int32 := (am_u (am_u (am_ur (am_ur (am_u (am_u (am_ur (am_ur (am_u (am_u (am_ur (am_ur (am_u (am_u (am_ur (am_ur (am_u (am_u (am_u (am_u (am_u (am_ur (am_ur (am_ur (am_u (am_u (am_ur (am_ur (am_ur (am_ur (am_ur (am_u (am_ur (am_ur (am_ur (am_ur (am_u (am_u (am_u (am_u (am_u (am_ur (am_u (am_ur (am_ur (am_u (am_u (am_u (am_u (am_u (am_ur (am_u (am_ur (am_ur (am_u (am_ur (am_ur (am_ur (am_u (am_ur (am_ur (am_ur (am_ur (am_ur (fun c => if 13 < c ∧ c < 13 + 8 then (fun _ => 0) else (am_ur (am_ur (am_ur (am_ur (am_u (am_u (am_u (am_ur (am_ur (am_ur (am_ur σ 5 (fun _ => 0)) 6 (fun _ => 0)) 7 (fun _ => 0)) 8 (fun _ => 0)) 5 3 (Int32.ofInt 0)) 5 4 (Int32.ofInt 0)) 5 5 (Int32.ofInt (-1))) 9 (fun _ => 0)) 10 (fun _ => 0)) 11 (fun _ => 0)) 12 ((am_ur (am_ur (am_ur (am_u (am_u (am_u (am_ur (am_ur (am_ur (am_ur σ 5 (fun _ => 0)) 6 (fun _ => 0)) 7 (fun _ => 0)) 8 (fun _ => 0)) 5 3 (Int32.ofInt 0)) 5 4 (Int32.ofInt 0)) 5 5 (Int32.ofInt (-1))) 9 (fun _ => 0)) 10 (fun _ => 0)) 11 (fun _ => 0)) 2)) c) 21 (fun _ => 0)) 22 (fun _ => 0)) 23 (fun _ => 0)) 24 (fun _ => 0)) 25 (fun _ => 0)) 23 5 (Int32.ofInt 0)) 26 (fun _ => 0)) 27 (fun _ => 0)) 28 (fun _ => 0)) 26 5 (Int32.ofInt 0)) 29 (fun _ => 0)) 30 (fun _ => 0)) 29 3 (Int32.ofInt 0)) 31 (fun _ => 0)) 29 5 (Int32.ofInt 1)) 29 6 (Int32.ofInt 0)) 29 7 (Int32.ofInt (-1))) 29 0 (Int32.ofInt 2)) 29 1 (Int32.ofInt 1 <<< (Int32.ofInt 2 &&& 31) - Int32.ofInt 1)) 32 (fun _ => 0)) 33 (fun _ => 0)) 32 3 (Int32.ofInt 0)) 34 (fun _ => 0)) 32 5 (Int32.ofInt 1)) 32 6 (Int32.ofInt 0)) 32 7 (Int32.ofInt (-1))) 32 0 (Int32.ofInt 1)) 32 1 (Int32.ofInt 1 <<< (Int32.ofInt 1 &&& 31) - Int32.ofInt 1)) 35 (fun _ => 0)) 36 (fun _ => 0)) 37 (fun _ => 0)) 38 (fun _ => 0)) 35 3 (Int32.ofInt 0)) 39 (fun _ => 0)) 40 (fun _ => 0)) 41 (fun _ => 0)) 42 (fun _ => 0)) 43 (fun _ => 0)) 39 4 (Int32.ofInt 0)) 39 5 (Int32.ofInt 0)) 44 (fun _ => 0)) 45 (fun _ => 0)) 46 (fun _ => 0)) 44 2 (Int32.ofInt 0)) 4 13 (Int32.ofInt 0)) 4 14 (Int32.ofInt 0)) 4 15 (Int32.ofInt 0)) 4 16 (Int32.ofInt 0)) 48 (fun _ => 0)) 49 (fun _ => 0)) 48 1 (Int32.ofInt (-1))) 48 2 (Int32.ofInt 0)) 50 (fun _ => 0)) 51 (fun _ => 0)) 50 1 (Int32.ofInt (-1))) 50 2 (Int32.ofInt 0)) 52 (fun _ => 0)) 53 (fun _ => 0)) 52 1 (Int32.ofInt (-1))) 52 2 (Int32.ofInt 0)) 54 (fun _ => 0)) 55 (fun _ => 0)) 54 1 (Int32.ofInt (-1))) 54 2 (Int32.ofInt 0))
def pC (ρ : Nat → Nat → Option Nat) : Nat → Nat → Option Nat := (am_u (am_u (am_ur (am_u (am_u (am_ur (am_u (am_u (am_ur (am_u (am_u (am_ur (am_u (am_ur (am_u (am_u (am_u (am_ur (am_u (am_u (am_u (am_u (am_u (am_ur (am_u (am_u (am_u (am_u (am_ur (am_u (am_u (am_u (am_ur (am_u (am_u (am_u (am_ur (am_u (am_u (am_u (am_u (am_u (am_u (am_ur (am_u (am_u (am_u (am_u (am_u (am_u (am_ur (am_u (am_u (am_u (am_u (am_ur (am_u (am_ur (am_u (am_u (am_ur (am_u (am_u (am_u (am_u (am_ur ρ 5 (fun _ => none)) 5 0 (some 6)) 5 1 (some 7)) 5 2 (some 8)) 4 0 (some 5)) 9 (fun _ => none)) 9 0 (some 10)) 4 1 (some 9)) 11 (fun _ => none)) 11 0 (some 12)) 13 (fun i => if i < 7 then some (13 + 1 + i) else none)) 11 1 (some 13)) 4 2 (some 11)) 4 3 (some 21)) 4 4 (some 22)) 23 (fun _ => none)) 23 3 (some 24)) 23 4 (some 25)) 23 0 (some 5)) 23 1 (some 9)) 23 2 (some 11)) 4 5 (some 23)) 26 (fun _ => none)) 26 3 (some 27)) 26 4 (some 28)) 26 0 (some 5)) 26 1 (some 9)) 26 2 (some 11)) 4 6 (some 26)) 29 (fun _ => none)) 29 2 (some 30)) 29 4 (some 31)) 4 7 (some 29)) 32 (fun _ => none)) 32 2 (some 33)) 32 4 (some 34)) 4 8 (some 32)) 35 (fun _ => none)) 35 0 (some 36)) 35 1 (some 37)) 35 2 (some 38)) 4 9 (some 35)) 39 (fun _ => none)) 39 0 (some 40)) 39 1 (some 41)) 39 2 (some 42)) 39 3 (some 43)) 4 10 (some 39)) 44 (fun _ => none)) 44 0 (some 45)) 44 1 (some 46)) 4 11 (some 44)) 47 (fun _ => none)) 4 12 (some 47)) 48 (fun _ => none)) 48 0 (some 49)) 47 0 (some 48)) 50 (fun _ => none)) 50 0 (some 51)) 47 1 (some 50)) 52 (fun _ => none)) 52 0 (some 53)) 47 2 (some 52)) 54 (fun _ => none)) 54 0 (some 55)) 47 3 (some 54))
section MADE2
variable {w3 : Nat} {σ : Nat → Nat → Int32} {τ : Nat → Nat → Int64} {ρ : Nat → Nat → Option Nat}
set_option maxRecDepth 100000 in
theorem n_class (d : Nat) (Q : am_Q) {S : Nat → Nat × Nat} (hS : S = shP w3 5) (h : Q none (56, shP w3 56, sC σ, τ, pC ρ)) : am_d (d + 2) 51 [.ref 4] 51 847 (5, S, σ, τ, ρ) Q := by
  subst hS
  refine am_inT T_X9_init [.ref 4, .null] rfl rfl ?_
  refine m9_0 d Q ?_
  refine m9_1 d Q ?_
  refine m9_2 d Q ?_
  refine m9_3 d Q ?_
  refine m9_4 d Q ?_
  refine m9_5 d Q rfl rfl rfl ?_
  refine m9_6 d Q rfl rfl rfl ?_
  refine m9_7 d Q ?_
  refine m9_8 d Q ?_
  refine m9_9 d Q ?_
  refine m9_10 d Q ?_
  refine m9_11 d Q ?_
  refine m9_12 d Q ?_
  refine m9_13 d Q ?_
  refine m9_14 d Q rfl ?_
  refine m9_15 d Q ?_
  refine m9_16 d Q rfl ?_
  refine m9_17 d Q ?_
  refine m9_18 d Q rfl ?_
  refine m9_19 d Q ?_
  refine m9_20 d Q rfl ?_
  refine m9_21 d Q ?_
  exact m9_22 d Q h
set_option maxRecDepth 100000 in
theorem m10_0 (d : Nat) (Q : am_Q) (h : am_wp (am_d d) T_X10_init Q (11, [.ref 56, .null], [], 19, 602) (58, shP w3 58, (am_ur σ 57 (fun _ => 0)), τ, (am_u ρ 56 0 (some 57)))) : am_wp (am_d d) T_X10_init Q (0, [.ref 56, .null], [], 20, 606) (57, shP w3 57, σ, τ, ρ) := by
  rw [shP_s 57 58 rfl] at h
  refine am_wp_go (am_d_cm _) (fun pc => Nat.beq pc 11) 60 ?_
  refine And.intro (by decide) ?_
  refine And.intro (by decide) ?_
  refine And.intro (by decide) ?_
  refine And.intro (by decide) ?_
  exact h
set_option maxRecDepth 100000 in
theorem m10_1 (d : Nat) (Q : am_Q) (h : am_wp (am_d d) T_X10_init Q (18, [.ref 56, .null], [], 18, 598) (59, shP w3 59, (am_ur σ 58 (fun _ => 0)), τ, (am_u ρ 56 1 (some 58)))) : am_wp (am_d d) T_X10_init Q (11, [.ref 56, .null], [], 19, 602) (58, shP w3 58, σ, τ, ρ) := by
  rw [shP_s 58 59 rfl] at h
  refine am_wp_go (am_d_cm _) (fun pc => Nat.beq pc 18) 60 ?_
  refine And.intro (by decide) ?_
  refine And.intro (by decide) ?_
  refine And.intro (by decide) ?_
  refine And.intro (by decide) ?_
  exact h
set_option maxRecDepth 100000 in
theorem m10_2 (d : Nat) (Q : am_Q) (h : am_wp (am_d d) T_X10_init Q (27, [.ref 56, .null], [], 17, 358) (60, shP w3 60, (am_ur σ 59 (fun _ => 0)), τ, (am_u ρ 56 2 (some 59)))) : am_wp (am_d d) T_X10_init Q (18, [.ref 56, .null], [], 18, 598) (59, shP w3 59, σ, τ, ρ) := by
  rw [shP_s 59 60 rfl] at h
  refine am_wp_go (am_d_cm _) (fun pc => Nat.beq pc 27) 60 ?_
  refine And.intro (by decide) ?_
  refine And.intro (by decide) ?_
  refine And.intro (by decide) ?_
  refine And.intro (by decide) ?_
  exact h
set_option maxRecDepth 100000 in
theorem m10_3 (d : Nat) (Q : am_Q) (h : am_wp (am_d d) T_X10_init Q (35, [.ref 56, .null], [], 16, 298) (61, shP w3 61, (am_ur σ 60 (fun _ => 0)), τ, (am_u ρ 56 3 (some 60)))) : am_wp (am_d d) T_X10_init Q (27, [.ref 56, .null], [], 17, 358) (60, shP w3 60, σ, τ, ρ) := by
  rw [shP_s 60 61 rfl] at h
  refine am_wp_go (am_d_cm _) (fun pc => Nat.beq pc 35) 60 ?_
  refine And.intro (by decide) ?_
  refine And.intro (by decide) ?_
  refine And.intro (by decide) ?_
  refine And.intro (by decide) ?_
  exact h
set_option maxRecDepth 100000 in
theorem m10_4 (d : Nat) (Q : am_Q) (h : am_wp (am_d d) T_X10_init Q (43, [.ref 56, .null], [], 15, 258) (62, shP w3 62, (am_ur σ 61 (fun _ => 0)), τ, (am_u ρ 56 5 (some 61)))) : am_wp (am_d d) T_X10_init Q (35, [.ref 56, .null], [], 16, 298) (61, shP w3 61, σ, τ, ρ) := by
  rw [shP_s 61 62 rfl] at h
  refine am_wp_go (am_d_cm _) (fun pc => Nat.beq pc 43) 60 ?_
  refine And.intro (by decide) ?_
  refine And.intro (by decide) ?_
  refine And.intro (by decide) ?_
  refine And.intro (by decide) ?_
  exact h
set_option maxRecDepth 100000 in
theorem m10_5 (d : Nat) (Q : am_Q) (h : am_wp (am_d d) T_X10_init Q (51, [.ref 56, .null], [], 14, 251) (63, shP w3 63, (am_ur σ 62 (fun _ => 0)), τ, (am_u ρ 56 9 (some 62)))) : am_wp (am_d d) T_X10_init Q (43, [.ref 56, .null], [], 15, 258) (62, shP w3 62, σ, τ, ρ) := by
  rw [shP_s 62 63 rfl] at h
  refine am_wp_go (am_d_cm _) (fun pc => Nat.beq pc 51) 60 ?_
  refine And.intro (by decide) ?_
  refine And.intro (by decide) ?_
  refine And.intro (by decide) ?_
  refine And.intro (by decide) ?_
  exact h
set_option maxRecDepth 100000 in
theorem m10_6 (d : Nat) (Q : am_Q) (h : am_wp (am_d d) T_X10_init Q (59, [.ref 56, .null], [], 13, 244) (64, shP w3 64, (am_ur σ 63 (fun _ => 0)), τ, (am_u ρ 56 10 (some 63)))) : am_wp (am_d d) T_X10_init Q (51, [.ref 56, .null], [], 14, 251) (63, shP w3 63, σ, τ, ρ) := by
  rw [shP_s 63 64 rfl] at h
  refine am_wp_go (am_d_cm _) (fun pc => Nat.beq pc 59) 60 ?_
  refine And.intro (by decide) ?_
  refine And.intro (by decide) ?_
  refine And.intro (by decide) ?_
  refine And.intro (by decide) ?_
  exact h
set_option maxRecDepth 100000 in
theorem m10_7 (d : Nat) (Q : am_Q) (h : am_wp (am_d d) T_X10_init Q (67, [.ref 56, .null], [], 12, 237) (65, shP w3 65, (am_ur σ 64 (fun _ => 0)), τ, (am_u ρ 56 11 (some 64)))) : am_wp (am_d d) T_X10_init Q (59, [.ref 56, .null], [], 13, 244) (64, shP w3 64, σ, τ, ρ) := by
  rw [shP_s 64 65 rfl] at h
  refine am_wp_go (am_d_cm _) (fun pc => Nat.beq pc 67) 60 ?_
  refine And.intro (by decide) ?_
  refine And.intro (by decide) ?_
  refine And.intro (by decide) ?_
  refine And.intro (by decide) ?_
  exact h
set_option maxRecDepth 100000 in
theorem m10_8 (d : Nat) (Q : am_Q) (h : am_wp (am_d d) T_X10_init Q (75, [.ref 56, .null], [], 11, 177) (66, shP w3 66, (am_ur σ 65 (fun _ => 0)), τ, (am_u ρ 56 12 (some 65)))) : am_wp (am_d d) T_X10_init Q (67, [.ref 56, .null], [], 12, 237) (65, shP w3 65, σ, τ, ρ) := by
  rw [shP_s 65 66 rfl] at h
  refine am_wp_go (am_d_cm _) (fun pc => Nat.beq pc 75) 60 ?_
  refine And.intro (by decide) ?_
  refine And.intro (by decide) ?_
  refine And.intro (by decide) ?_
  refine And.intro (by decide) ?_
  exact h
set_option maxRecDepth 100000 in
theorem m10_9 (d : Nat) (Q : am_Q) (h : am_wp (am_d d) T_X10_init Q (83, [.ref 56, .null], [], 10, 171) (67, shP w3 67, (am_ur σ 66 (fun _ => 0)), τ, (am_u ρ 56 13 (some 66)))) : am_wp (am_d d) T_X10_init Q (75, [.ref 56, .null], [], 11, 177) (66, shP w3 66, σ, τ, ρ) := by
  rw [shP_s 66 67 rfl] at h
  refine am_wp_go (am_d_cm _) (fun pc => Nat.beq pc 83) 60 ?_
  refine And.intro (by decide) ?_
  refine And.intro (by decide) ?_
  refine And.intro (by decide) ?_
  refine And.intro (by decide) ?_
  exact h
set_option maxRecDepth 100000 in
theorem m10_10 (d : Nat) (Q : am_Q) (h : am_wp (am_d d) T_X10_init Q (91, [.ref 56, .null], [], 9, 122) (68, shP w3 68, (am_ur σ 67 (fun _ => 0)), τ, (am_u ρ 56 14 (some 67)))) : am_wp (am_d d) T_X10_init Q (83, [.ref 56, .null], [], 10, 171) (67, shP w3 67, σ, τ, ρ) := by
  rw [shP_s 67 68 rfl] at h
  refine am_wp_go (am_d_cm _) (fun pc => Nat.beq pc 91) 60 ?_
  refine And.intro (by decide) ?_
  refine And.intro (by decide) ?_
  refine And.intro (by decide) ?_
  refine And.intro (by decide) ?_
  exact h
set_option maxRecDepth 100000 in
theorem m10_11 (d : Nat) (Q : am_Q) (h : am_wp (am_d d) T_X10_init Q (99, [.ref 56, .null], [], 8, 115) (69, shP w3 69, (am_ur σ 68 (fun _ => 0)), τ, (am_u ρ 56 15 (some 68)))) : am_wp (am_d d) T_X10_init Q (91, [.ref 56, .null], [], 9, 122) (68, shP w3 68, σ, τ, ρ) := by
  rw [shP_s 68 69 rfl] at h
  refine am_wp_go (am_d_cm _) (fun pc => Nat.beq pc 99) 60 ?_
  refine And.intro (by decide) ?_
  refine And.intro (by decide) ?_
  refine And.intro (by decide) ?_
  refine And.intro (by decide) ?_
  exact h
set_option maxRecDepth 100000 in
theorem m10_12 (d : Nat) (Q : am_Q) (h : am_wp (am_d d) T_X10_init Q (107, [.ref 56, .null], [], 7, 108) (70, shP w3 70, (am_ur σ 69 (fun _ => 0)), τ, (am_u ρ 56 16 (some 69)))) : am_wp (am_d d) T_X10_init Q (99, [.ref 56, .null], [], 8, 115) (69, shP w3 69, σ, τ, ρ) := by
  rw [shP_s 69 70 rfl] at h
  refine am_wp_go (am_d_cm _) (fun pc => Nat.beq pc 107) 60 ?_
  refine And.intro (by decide) ?_
  refine And.intro (by decide) ?_
  refine And.intro (by decide) ?_
  refine And.intro (by decide) ?_
  exact h
set_option maxRecDepth 100000 in
theorem m10_13 (d : Nat) (Q : am_Q) (h : am_wp (am_d d) T_X10_init Q (115, [.ref 56, .null], [], 6, 84) (71, shP w3 71, (am_ur σ 70 (fun _ => 0)), τ, (am_u ρ 56 20 (some 70)))) : am_wp (am_d d) T_X10_init Q (107, [.ref 56, .null], [], 7, 108) (70, shP w3 70, σ, τ, ρ) := by
  rw [shP_s 70 71 rfl] at h
  refine am_wp_go (am_d_cm _) (fun pc => Nat.beq pc 115) 60 ?_
  refine And.intro (by decide) ?_
  refine And.intro (by decide) ?_
  refine And.intro (by decide) ?_
  refine And.intro (by decide) ?_
  exact h
set_option maxRecDepth 100000 in
theorem m10_14 (d : Nat) (Q : am_Q) (h : am_wp (am_d d) T_X10_init Q (123, [.ref 56, .null], [], 5, 77) (72, shP w3 72, (am_ur σ 71 (fun _ => 0)), τ, (am_u ρ 56 21 (some 71)))) : am_wp (am_d d) T_X10_init Q (115, [.ref 56, .null], [], 6, 84) (71, shP w3 71, σ, τ, ρ) := by
  rw [shP_s 71 72 rfl] at h
  refine am_wp_go (am_d_cm _) (fun pc => Nat.beq pc 123) 60 ?_
  refine And.intro (by decide) ?_
  refine And.intro (by decide) ?_
  refine And.intro (by decide) ?_
  refine And.intro (by decide) ?_
  exact h
set_option maxRecDepth 100000 in
theorem m10_15 (d : Nat) (Q : am_Q) (h : am_wp (am_d d) T_X10_init Q (131, [.ref 56, .null], [], 4, 70) (73, shP w3 73, (am_ur σ 72 (fun _ => 0)), τ, (am_u ρ 56 22 (some 72)))) : am_wp (am_d d) T_X10_init Q (123, [.ref 56, .null], [], 5, 77) (72, shP w3 72, σ, τ, ρ) := by
  rw [shP_s 72 73 rfl] at h
  refine am_wp_go (am_d_cm _) (fun pc => Nat.beq pc 131) 60 ?_
  refine And.intro (by decide) ?_
  refine And.intro (by decide) ?_
  refine And.intro (by decide) ?_
  refine And.intro (by decide) ?_
  exact h
set_option maxRecDepth 100000 in
theorem m10_16 (d : Nat) (Q : am_Q) (h : am_wp (am_d d) T_X10_init Q (139, [.ref 56, .null], [], 3, 21) (74, shP w3 74, (am_ur σ 73 (fun _ => 0)), τ, (am_u ρ 56 23 (some 73)))) : am_wp (am_d d) T_X10_init Q (131, [.ref 56, .null], [], 4, 70) (73, shP w3 73, σ, τ, ρ) := by
  rw [shP_s 73 74 rfl] at h
  refine am_wp_go (am_d_cm _) (fun pc => Nat.beq pc 139) 60 ?_
  refine And.intro (by decide) ?_
  refine And.intro (by decide) ?_
  refine And.intro (by decide) ?_
  refine And.intro (by decide) ?_
  exact h
set_option maxRecDepth 100000 in
theorem m10_17 (d : Nat) (Q : am_Q) (h : am_wp (am_d d) T_X10_init Q (147, [.ref 56, .null], [], 2, 14) (75, shP w3 75, σ, (am_ur τ 74 (fun _ => 0)), (am_u ρ 56 24 (some 74)))) : am_wp (am_d d) T_X10_init Q (139, [.ref 56, .null], [], 3, 21) (74, shP w3 74, σ, τ, ρ) := by
  rw [shP_s 74 75 rfl] at h
  refine am_wp_go (am_d_cm _) (fun pc => Nat.beq pc 147) 60 ?_
  refine And.intro (by decide) ?_
  refine And.intro (by decide) ?_
  refine And.intro (by decide) ?_
  refine And.intro (by decide) ?_
  exact h
set_option maxRecDepth 100000 in
theorem m10_18 (d : Nat) (Q : am_Q) (h : am_wp (am_d d) T_X10_init Q (155, [.ref 56, .null], [], 1, 7) (76, shP w3 76, (am_ur σ 75 (fun _ => 0)), τ, (am_u ρ 56 28 (some 75)))) : am_wp (am_d d) T_X10_init Q (147, [.ref 56, .null], [], 2, 14) (75, shP w3 75, σ, τ, ρ) := by
  rw [shP_s 75 76 rfl] at h
  refine am_wp_go (am_d_cm _) (fun pc => Nat.beq pc 155) 60 ?_
  refine And.intro (by decide) ?_
  refine And.intro (by decide) ?_
  refine And.intro (by decide) ?_
  refine And.intro (by decide) ?_
  exact h
set_option maxRecDepth 100000 in
theorem m10_19 (d : Nat) (Q : am_Q) (h : am_wp (am_d d) T_X10_init Q (163, [.ref 56, .null], [], 0, 0) (77, shP w3 77, (am_ur σ 76 (fun _ => 0)), τ, (am_u ρ 56 29 (some 76)))) : am_wp (am_d d) T_X10_init Q (155, [.ref 56, .null], [], 1, 7) (76, shP w3 76, σ, τ, ρ) := by
  rw [shP_s 76 77 rfl] at h
  refine am_wp_go (am_d_cm _) (fun pc => Nat.beq pc 163) 60 ?_
  refine And.intro (by decide) ?_
  refine And.intro (by decide) ?_
  refine And.intro (by decide) ?_
  refine And.intro (by decide) ?_
  exact h
set_option maxRecDepth 100000 in
theorem m10_20 (d : Nat) (Q : am_Q) (h : am_wp (am_d d) T_X10_init Q (165, [.ref 56, .int (Int32.ofInt 0)], [], 0, 0) (77, shP w3 77, σ, τ, ρ)) : am_wp (am_d d) T_X10_init Q (163, [.ref 56, .null], [], 0, 0) (77, shP w3 77, σ, τ, ρ) := by
  refine am_wp_go (am_d_cm _) (fun pc => Nat.beq pc 165) 60 ?_
  exact h
set_option maxRecDepth 100000 in
theorem m10_21 (d : Nat) (Q : am_Q) (h0 : ρ 56 0 = some 57) (h : am_wp (am_d d) T_X10_init Q (165, [.ref 56, .int (Int32.ofInt 1)], [], 0, 0) (77, shP w3 77, (am_u σ 57 0 (Int32.ofInt (-1))), τ, ρ)) : am_wp (am_d d) T_X10_init Q (165, [.ref 56, .int (Int32.ofInt 0)], [], 0, 0) (77, shP w3 77, σ, τ, ρ) := by
  have e : ρ = am_u ρ 56 0 (some 57) := (am_u_id h0).symm
  rw [e] at h ⊢
  refine am_wp_go (am_d_cm _) (fun pc => Nat.beq pc 165) 60 ?_
  refine And.intro (fun c => absurd c (by decide)) (fun _ => ?_)
  refine ixi 0 4 (by decide) ?_ rfl
  exact h
set_option maxRecDepth 100000 in
theorem m10_22 (d : Nat) (Q : am_Q) (h0 : ρ 56 0 = some 57) (h : am_wp (am_d d) T_X10_init Q (165, [.ref 56, .int (Int32.ofInt 2)], [], 0, 0) (77, shP w3 77, (am_u σ 57 1 (Int32.ofInt (-1))), τ, ρ)) : am_wp (am_d d) T_X10_init Q (165, [.ref 56, .int (Int32.ofInt 1)], [], 0, 0) (77, shP w3 77, σ, τ, ρ) := by
  have e : ρ = am_u ρ 56 0 (some 57) := (am_u_id h0).symm
  rw [e] at h ⊢
  refine am_wp_go (am_d_cm _) (fun pc => Nat.beq pc 165) 60 ?_
  refine And.intro (fun c => absurd c (by decide)) (fun _ => ?_)
  refine ixi 1 4 (by decide) ?_ rfl
  exact h
set_option maxRecDepth 100000 in
theorem m10_23 (d : Nat) (Q : am_Q) (h0 : ρ 56 0 = some 57) (h : am_wp (am_d d) T_X10_init Q (165, [.ref 56, .int (Int32.ofInt 3)], [], 0, 0) (77, shP w3 77, (am_u σ 57 2 (Int32.ofInt (-1))), τ, ρ)) : am_wp (am_d d) T_X10_init Q (165, [.ref 56, .int (Int32.ofInt 2)], [], 0, 0) (77, shP w3 77, σ, τ, ρ) := by
  have e : ρ = am_u ρ 56 0 (some 57) := (am_u_id h0).symm
  rw [e] at h ⊢
  refine am_wp_go (am_d_cm _) (fun pc => Nat.beq pc 165) 60 ?_
  refine And.intro (fun c => absurd c (by decide)) (fun _ => ?_)
  refine ixi 2 4 (by decide) ?_ rfl
  exact h
set_option maxRecDepth 100000 in
theorem m10_24 (d : Nat) (Q : am_Q) (h0 : ρ 56 0 = some 57) (h : am_wp (am_d d) T_X10_init Q (165, [.ref 56, .int (Int32.ofInt 4)], [], 0, 0) (77, shP w3 77, (am_u σ 57 3 (Int32.ofInt (-1))), τ, ρ)) : am_wp (am_d d) T_X10_init Q (165, [.ref 56, .int (Int32.ofInt 3)], [], 0, 0) (77, shP w3 77, σ, τ, ρ) := by
  have e : ρ = am_u ρ 56 0 (some 57) := (am_u_id h0).symm
  rw [e] at h ⊢
  refine am_wp_go (am_d_cm _) (fun pc => Nat.beq pc 165) 60 ?_
  refine And.intro (fun c => absurd c (by decide)) (fun _ => ?_)
  refine ixi 3 4 (by decide) ?_ rfl
  exact h
set_option maxRecDepth 100000 in
theorem m10_25 (d : Nat) (Q : am_Q) (h0 : ρ 56 13 = some 66) (h : Q none (77, shP w3 77, (am_u (am_u (am_u (am_u (am_u σ 66 0 (Int32.ofInt 60)) 66 2 (Int32.ofInt 2)) 66 3 (Int32.ofInt 2)) 66 4 (Int32.ofInt 1)) 66 5 (Int32.ofInt 5)), τ, ρ)) : am_wp (am_d d) T_X10_init Q (165, [.ref 56, .int (Int32.ofInt 4)], [], 0, 0) (77, shP w3 77, σ, τ, ρ) := by
  have e : ρ = am_u ρ 56 13 (some 66) := (am_u_id h0).symm
  rw [e] at h ⊢
  refine am_wp_go (am_d_cm _) (fun pc => Nat.beq pc 9999) 60 ?_
  refine And.intro (fun _ => ?_) (fun c => absurd (by decide) c)
  refine ixi 0 6 (by decide) ?_ rfl
  refine ixi 2 6 (by decide) ?_ rfl
  refine ixi 3 6 (by decide) ?_ rfl
  refine ixi 4 6 (by decide) ?_ rfl
  refine ixi 5 6 (by decide) ?_ rfl
  exact h
end MADE2
/-- the reference, newly made -/
def sR (σ : Nat → Nat → Int32) : Nat → Nat → Int32 := (am_u (am_u (am_u (am_u (am_u (am_u (am_u (am_u (am_u (am_ur (am_ur (am_ur (am_ur (am_ur (am_ur (am_ur (am_ur (am_ur (am_ur (am_ur (am_ur (am_ur (am_ur (am_ur (am_ur (am_ur (am_ur (am_ur σ 57 (fun _ => 0)) 58 (fun _ => 0)) 59 (fun _ => 0)) 60 (fun _ => 0)) 61 (fun _ => 0)) 62 (fun _ => 0)) 63 (fun _ => 0)) 64 (fun _ => 0)) 65 (fun _ => 0)) 66 (fun _ => 0)) 67 (fun _ => 0)) 68 (fun _ => 0)) 69 (fun _ => 0)) 70 (fun _ => 0)) 71 (fun _ => 0)) 72 (fun _ => 0)) 73 (fun _ => 0)) 75 (fun _ => 0)) 76 (fun _ => 0)) 57 0 (Int32.ofInt (-1))) 57 1 (Int32.ofInt (-1))) 57 2 (Int32.ofInt (-1))) 57 3 (Int32.ofInt (-1))) 66 0 (Int32.ofInt 60)) 66 2 (Int32.ofInt 2)) 66 3 (Int32.ofInt 2)) 66 4 (Int32.ofInt 1)) 66 5 (Int32.ofInt 5))
def pR (ρ : Nat → Nat → Option Nat) : Nat → Nat → Option Nat := (am_u (am_u (am_u (am_u (am_u (am_u (am_u (am_u (am_u (am_u (am_u (am_u (am_u (am_u (am_u (am_u (am_u (am_u (am_u (am_u ρ 56 0 (some 57)) 56 1 (some 58)) 56 2 (some 59)) 56 3 (some 60)) 56 5 (some 61)) 56 9 (some 62)) 56 10 (some 63)) 56 11 (some 64)) 56 12 (some 65)) 56 13 (some 66)) 56 14 (some 67)) 56 15 (some 68)) 56 16 (some 69)) 56 20 (some 70)) 56 21 (some 71)) 56 22 (some 72)) 56 23 (some 73)) 56 24 (some 74)) 56 28 (some 75)) 56 29 (some 76))
section MADE3
variable {w3 : Nat} {σ : Nat → Nat → Int32} {τ : Nat → Nat → Int64} {ρ : Nat → Nat → Option Nat}
set_option maxRecDepth 100000 in
theorem n_ref (d : Nat) (Q : am_Q) {S : Nat → Nat × Nat} (hS : S = shP w3 57) (h : Q none (77, shP w3 77, sR σ, (am_ur τ 74 (fun _ => 0)), pR ρ)) : am_d (d + 1) 108 [.ref 56] 20 606 (57, S, σ, τ, ρ) Q := by
  subst hS
  refine am_inT T_X10_init [.ref 56, .null] rfl rfl ?_
  refine m10_0 d Q ?_
  refine m10_1 d Q ?_
  refine m10_2 d Q ?_
  refine m10_3 d Q ?_
  refine m10_4 d Q ?_
  refine m10_5 d Q ?_
  refine m10_6 d Q ?_
  refine m10_7 d Q ?_
  refine m10_8 d Q ?_
  refine m10_9 d Q ?_
  refine m10_10 d Q ?_
  refine m10_11 d Q ?_
  refine m10_12 d Q ?_
  refine m10_13 d Q ?_
  refine m10_14 d Q ?_
  refine m10_15 d Q ?_
  refine m10_16 d Q ?_
  refine m10_17 d Q ?_
  refine m10_18 d Q ?_
  refine m10_19 d Q ?_
  refine m10_20 d Q ?_
  refine m10_21 d Q rfl ?_
  refine m10_22 d Q rfl ?_
  refine m10_23 d Q rfl ?_
  refine m10_24 d Q rfl ?_
  exact m10_25 d Q rfl h
end MADE3
