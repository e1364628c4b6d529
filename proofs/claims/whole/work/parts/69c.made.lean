/-! the constructors -/
/-- the shape when cells below N are made -/
def shP (w3 : Nat) (N : Nat) (c : Nat) : Nat × Nat := match Nat.blt c N with
  | true => lo_sh w3 (fun _ => (99, 0)) c
  | false => (99, 0)
theorem shP_s {w3 : Nat} (N N' : Nat) (hN : N' = N + 1) : shP w3 N' = fun c => if c = N then lo_sh w3 (fun _ => (99, 0)) N else shP w3 N c := by
  subst hN
  funext c
  unfold shP
  by_cases e : c = N
  · subst e
    rw [if_pos rfl]
    have : Nat.blt c (c + 1) = true := by rw [Nat.blt_eq]; omega
    rw [this]
  · rw [if_neg e]
    have : Nat.blt c (N + 1) = Nat.blt c N := by
      rw [Bool.eq_iff_iff, Nat.blt_eq, Nat.blt_eq]
      omega
    rw [this]
theorem am_mt {o : Option Nat} {q : Nat} {f : Nat → Prop} (h : o = some q) (k : f q) : (match o with | some q => f q | none => False) := by
  subst h
  exact k
theorem am_inT {d k : Nat} {args : List Value} {bc bs : Nat} {M : am_M} {Q : am_Q} (T : am_T) (L : List Value) (hT : am_code k = T) (hL : am_pad (am_nl k) (am_ent args) = L) (h : am_wp (am_d d) T Q (0, L, [], bc, bs) M) : am_d (d + 1) k args bc bs M Q := by
  subst hT; subst hL; exact h
section MADE
variable {w3 : Nat} {σ : Nat → Nat → Int32} {τ : Nat → Nat → Int64} {ρ : Nat → Nat → Option Nat}

set_option maxRecDepth 100000 in
theorem n_people_0 (d : Nat) (Q : am_Q) (h : am_wp (am_d d) T_X4_init Q (12, [.ref 5], [], 2, 14) (7, shP w3 7, (am_ur σ 6 (fun _ => 0)), τ, (am_u ρ 5 0 (some 6)))) : am_wp (am_d d) T_X4_init Q (0, [.ref 5], [], 3, 54) (6, shP w3 6, σ, τ, ρ) := by
  rw [shP_s 6 7 rfl] at h
  refine am_wp_go (am_d_cm _) (fun pc => Nat.beq pc 12) 60 ?_
  refine And.intro (by decide) ?_
  refine And.intro (by decide) ?_
  refine And.intro (by decide) ?_
  refine And.intro (by decide) ?_
  exact h
set_option maxRecDepth 100000 in
theorem n_people_1 (d : Nat) (Q : am_Q) (h : am_wp (am_d d) T_X4_init Q (20, [.ref 5], [], 1, 7) (8, shP w3 8, (am_ur σ 7 (fun _ => 0)), τ, (am_u ρ 5 1 (some 7)))) : am_wp (am_d d) T_X4_init Q (12, [.ref 5], [], 2, 14) (7, shP w3 7, σ, τ, ρ) := by
  rw [shP_s 7 8 rfl] at h
  refine am_wp_go (am_d_cm _) (fun pc => Nat.beq pc 20) 60 ?_
  refine And.intro (by decide) ?_
  refine And.intro (by decide) ?_
  refine And.intro (by decide) ?_
  refine And.intro (by decide) ?_
  exact h
set_option maxRecDepth 100000 in
theorem n_people_2 (d : Nat) (Q : am_Q) (h : am_wp (am_d d) T_X4_init Q (28, [.ref 5], [], 0, 0) (9, shP w3 9, (am_ur σ 8 (fun _ => 0)), τ, (am_u ρ 5 2 (some 8)))) : am_wp (am_d d) T_X4_init Q (20, [.ref 5], [], 1, 7) (8, shP w3 8, σ, τ, ρ) := by
  rw [shP_s 8 9 rfl] at h
  refine am_wp_go (am_d_cm _) (fun pc => Nat.beq pc 28) 60 ?_
  refine And.intro (by decide) ?_
  refine And.intro (by decide) ?_
  refine And.intro (by decide) ?_
  refine And.intro (by decide) ?_
  exact h
set_option maxRecDepth 100000 in
theorem n_people_3 (d : Nat) (Q : am_Q) (h : Q none (9, shP w3 9, (am_u (am_u (am_u σ 5 3 (Int32.ofInt 0)) 5 4 (Int32.ofInt 0)) 5 5 (Int32.ofInt (-1))), τ, ρ)) : am_wp (am_d d) T_X4_init Q (28, [.ref 5], [], 0, 0) (9, shP w3 9, σ, τ, ρ) := by
  refine am_wp_go (am_d_cm _) (fun pc => Nat.beq pc 9999) 60 ?_
  exact h
theorem n_people (d : Nat) (Q : am_Q) (h : Q none (9, shP w3 9, (am_u (am_u (am_u (am_ur (am_ur (am_ur σ 6 (fun _ => 0)) 7 (fun _ => 0)) 8 (fun _ => 0)) 5 3 (Int32.ofInt 0)) 5 4 (Int32.ofInt 0)) 5 5 (Int32.ofInt (-1))), τ, (am_u (am_u (am_u ρ 5 0 (some 6)) 5 1 (some 7)) 5 2 (some 8)))) : am_d (d + 1) 27 [.ref 5] 3 54 (6, shP w3 6, σ, τ, ρ) Q :=
  am_inT T_X4_init [.ref 5] rfl rfl (n_people_0 d Q (n_people_1 d Q (n_people_2 d Q (n_people_3 d Q h))))
set_option maxRecDepth 100000 in
theorem n_rain_0 (d : Nat) (Q : am_Q) (h : Q none (11, shP w3 11, (am_ur σ 10 (fun _ => 0)), τ, (am_u ρ 9 0 (some 10)))) : am_wp (am_d d) T_X5_init Q (0, [.ref 9], [], 1, 61) (10, shP w3 10, σ, τ, ρ) := by
  rw [shP_s 10 11 rfl] at h
  refine am_wp_go (am_d_cm _) (fun pc => Nat.beq pc 9999) 60 ?_
  refine And.intro (by decide) ?_
  refine And.intro (by decide) ?_
  refine And.intro (by decide) ?_
  refine And.intro (by decide) ?_
  exact h
theorem n_rain (d : Nat) (Q : am_Q) (h : Q none (11, shP w3 11, (am_ur σ 10 (fun _ => 0)), τ, (am_u ρ 9 0 (some 10)))) : am_d (d + 1) 34 [.ref 9] 1 61 (10, shP w3 10, σ, τ, ρ) Q :=
  am_inT T_X5_init [.ref 9] rfl rfl (n_rain_0 d Q h)
set_option maxRecDepth 100000 in
theorem n_church_0 (d : Nat) (Q : am_Q) (h : am_wp (am_d d) T_X0_init Q (12, [.ref 23, .ref 5, .ref 9, .ref 11], [], 1, 7) (25, shP w3 25, (am_ur σ 24 (fun _ => 0)), τ, (am_u ρ 23 3 (some 24)))) : am_wp (am_d d) T_X0_init Q (0, [.ref 23, .ref 5, .ref 9, .ref 11], [], 2, 14) (24, shP w3 24, σ, τ, ρ) := by
  rw [shP_s 24 25 rfl] at h
  refine am_wp_go (am_d_cm _) (fun pc => Nat.beq pc 12) 60 ?_
  refine And.intro (by decide) ?_
  refine And.intro (by decide) ?_
  refine And.intro (by decide) ?_
  refine And.intro (by decide) ?_
  exact h
set_option maxRecDepth 100000 in
theorem n_church_1 (d : Nat) (Q : am_Q) (h : am_wp (am_d d) T_X0_init Q (20, [.ref 23, .ref 5, .ref 9, .ref 11], [], 0, 0) (26, shP w3 26, (am_ur σ 25 (fun _ => 0)), τ, (am_u ρ 23 4 (some 25)))) : am_wp (am_d d) T_X0_init Q (12, [.ref 23, .ref 5, .ref 9, .ref 11], [], 1, 7) (25, shP w3 25, σ, τ, ρ) := by
  rw [shP_s 25 26 rfl] at h
  refine am_wp_go (am_d_cm _) (fun pc => Nat.beq pc 20) 60 ?_
  refine And.intro (by decide) ?_
  refine And.intro (by decide) ?_
  refine And.intro (by decide) ?_
  refine And.intro (by decide) ?_
  exact h
set_option maxRecDepth 100000 in
theorem n_church_2 (d : Nat) (Q : am_Q) (h : Q none (26, shP w3 26, (am_u σ 23 5 (Int32.ofInt 0)), τ, (am_u (am_u (am_u ρ 23 0 (some 5)) 23 1 (some 9)) 23 2 (some 11)))) : am_wp (am_d d) T_X0_init Q (20, [.ref 23, .ref 5, .ref 9, .ref 11], [], 0, 0) (26, shP w3 26, σ, τ, ρ) := by
  refine am_wp_go (am_d_cm _) (fun pc => Nat.beq pc 9999) 60 ?_
  exact h
theorem n_church (d : Nat) (Q : am_Q) (h : Q none (26, shP w3 26, (am_u (am_ur (am_ur σ 24 (fun _ => 0)) 25 (fun _ => 0)) 23 5 (Int32.ofInt 0)), τ, (am_u (am_u (am_u (am_u (am_u ρ 23 3 (some 24)) 23 4 (some 25)) 23 0 (some 5)) 23 1 (some 9)) 23 2 (some 11)))) : am_d (d + 1) 0 [.ref 23, .ref 5, .ref 9, .ref 11] 2 14 (24, shP w3 24, σ, τ, ρ) Q :=
  am_inT T_X0_init [.ref 23, .ref 5, .ref 9, .ref 11] rfl rfl (n_church_0 d Q (n_church_1 d Q (n_church_2 d Q h)))
set_option maxRecDepth 100000 in
theorem n_other_0 (d : Nat) (Q : am_Q) (h : am_wp (am_d d) T_X0_init Q (12, [.ref 26, .ref 5, .ref 9, .ref 11], [], 1, 7) (28, shP w3 28, (am_ur σ 27 (fun _ => 0)), τ, (am_u ρ 26 3 (some 27)))) : am_wp (am_d d) T_X0_init Q (0, [.ref 26, .ref 5, .ref 9, .ref 11], [], 2, 14) (27, shP w3 27, σ, τ, ρ) := by
  rw [shP_s 27 28 rfl] at h
  refine am_wp_go (am_d_cm _) (fun pc => Nat.beq pc 12) 60 ?_
  refine And.intro (by decide) ?_
  refine And.intro (by decide) ?_
  refine And.intro (by decide) ?_
  refine And.intro (by decide) ?_
  exact h
set_option maxRecDepth 100000 in
theorem n_other_1 (d : Nat) (Q : am_Q) (h : am_wp (am_d d) T_X0_init Q (20, [.ref 26, .ref 5, .ref 9, .ref 11], [], 0, 0) (29, shP w3 29, (am_ur σ 28 (fun _ => 0)), τ, (am_u ρ 26 4 (some 28)))) : am_wp (am_d d) T_X0_init Q (12, [.ref 26, .ref 5, .ref 9, .ref 11], [], 1, 7) (28, shP w3 28, σ, τ, ρ) := by
  rw [shP_s 28 29 rfl] at h
  refine am_wp_go (am_d_cm _) (fun pc => Nat.beq pc 20) 60 ?_
  refine And.intro (by decide) ?_
  refine And.intro (by decide) ?_
  refine And.intro (by decide) ?_
  refine And.intro (by decide) ?_
  exact h
set_option maxRecDepth 100000 in
theorem n_other_2 (d : Nat) (Q : am_Q) (h : Q none (29, shP w3 29, (am_u σ 26 5 (Int32.ofInt 0)), τ, (am_u (am_u (am_u ρ 26 0 (some 5)) 26 1 (some 9)) 26 2 (some 11)))) : am_wp (am_d d) T_X0_init Q (20, [.ref 26, .ref 5, .ref 9, .ref 11], [], 0, 0) (29, shP w3 29, σ, τ, ρ) := by
  refine am_wp_go (am_d_cm _) (fun pc => Nat.beq pc 9999) 60 ?_
  exact h
theorem n_other (d : Nat) (Q : am_Q) (h : Q none (29, shP w3 29, (am_u (am_ur (am_ur σ 27 (fun _ => 0)) 28 (fun _ => 0)) 26 5 (Int32.ofInt 0)), τ, (am_u (am_u (am_u (am_u (am_u ρ 26 3 (some 27)) 26 4 (some 28)) 26 0 (some 5)) 26 1 (some 9)) 26 2 (some 11)))) : am_d (d + 1) 0 [.ref 26, .ref 5, .ref 9, .ref 11] 2 14 (27, shP w3 27, σ, τ, ρ) Q :=
  am_inT T_X0_init [.ref 26, .ref 5, .ref 9, .ref 11] rfl rfl (n_other_0 d Q (n_other_1 d Q (n_other_2 d Q h)))
set_option maxRecDepth 100000 in
theorem n_rest_0 (d : Nat) (Q : am_Q) (h : am_wp (am_d d) T_X2_init Q (12, [.ref 29, .int (Int32.ofInt 2)], [], 1, 0) (31, shP w3 31, (am_ur σ 30 (fun _ => 0)), τ, (am_u ρ 29 2 (some 30)))) : am_wp (am_d d) T_X2_init Q (0, [.ref 29, .int (Int32.ofInt 2)], [], 2, 7) (30, shP w3 30, σ, τ, ρ) := by
  rw [shP_s 30 31 rfl] at h
  refine am_wp_go (am_d_cm _) (fun pc => Nat.beq pc 12) 60 ?_
  refine And.intro (by decide) ?_
  refine And.intro (by decide) ?_
  refine And.intro (by decide) ?_
  refine And.intro (by decide) ?_
  exact h
set_option maxRecDepth 100000 in
theorem n_rest_1 (d : Nat) (Q : am_Q) (h : am_wp (am_d d) T_X2_init Q (17, [.ref 29, .int (Int32.ofInt 2)], [], 1, 0) (31, shP w3 31, (am_u σ 29 3 (Int32.ofInt 0)), τ, ρ)) : am_wp (am_d d) T_X2_init Q (12, [.ref 29, .int (Int32.ofInt 2)], [], 1, 0) (31, shP w3 31, σ, τ, ρ) := by
  refine am_wp_go (am_d_cm _) (fun pc => Nat.beq pc 17) 60 ?_
  exact h
set_option maxRecDepth 100000 in
theorem n_rest_2 (d : Nat) (Q : am_Q) (h : am_wp (am_d d) T_X2_init Q (24, [.ref 29, .int (Int32.ofInt 2)], [], 0, 0) (32, shP w3 32, (am_ur σ 31 (fun _ => 0)), τ, (am_u ρ 29 4 (some 31)))) : am_wp (am_d d) T_X2_init Q (17, [.ref 29, .int (Int32.ofInt 2)], [], 1, 0) (31, shP w3 31, σ, τ, ρ) := by
  rw [shP_s 31 32 rfl] at h
  refine am_wp_go (am_d_cm _) (fun pc => Nat.beq pc 24) 60 ?_
  refine And.intro (by decide) ?_
  refine And.intro (by decide) ?_
  refine And.intro (by decide) ?_
  refine And.intro (by decide) ?_
  exact h
set_option maxRecDepth 100000 in
theorem n_rest_3 (d : Nat) (Q : am_Q) (h : Q none (32, shP w3 32, (am_u (am_u (am_u (am_u (am_u σ 29 5 (Int32.ofInt 1)) 29 6 (Int32.ofInt 0)) 29 7 (Int32.ofInt (-1))) 29 0 (Int32.ofInt 2)) 29 1 (Int32.ofInt 1 <<< (Int32.ofInt 2 &&& 31) - Int32.ofInt 1)), τ, ρ)) : am_wp (am_d d) T_X2_init Q (24, [.ref 29, .int (Int32.ofInt 2)], [], 0, 0) (32, shP w3 32, σ, τ, ρ) := by
  refine am_wp_go (am_d_cm _) (fun pc => Nat.beq pc 9999) 60 ?_
  exact h
theorem n_rest (d : Nat) (Q : am_Q) (h : Q none (32, shP w3 32, (am_u (am_u (am_u (am_u (am_u (am_ur (am_u (am_ur σ 30 (fun _ => 0)) 29 3 (Int32.ofInt 0)) 31 (fun _ => 0)) 29 5 (Int32.ofInt 1)) 29 6 (Int32.ofInt 0)) 29 7 (Int32.ofInt (-1))) 29 0 (Int32.ofInt 2)) 29 1 (Int32.ofInt 1 <<< (Int32.ofInt 2 &&& 31) - Int32.ofInt 1)), τ, (am_u (am_u ρ 29 2 (some 30)) 29 4 (some 31)))) : am_d (d + 1) 10 [.ref 29, .int (Int32.ofInt 2)] 2 7 (30, shP w3 30, σ, τ, ρ) Q :=
  am_inT T_X2_init [.ref 29, .int (Int32.ofInt 2)] rfl rfl (n_rest_0 d Q (n_rest_1 d Q (n_rest_2 d Q (n_rest_3 d Q h))))
set_option maxRecDepth 100000 in
theorem n_choose_0 (d : Nat) (Q : am_Q) (h : am_wp (am_d d) T_X2_init Q (12, [.ref 32, .int (Int32.ofInt 1)], [], 1, 0) (34, shP w3 34, (am_ur σ 33 (fun _ => 0)), τ, (am_u ρ 32 2 (some 33)))) : am_wp (am_d d) T_X2_init Q (0, [.ref 32, .int (Int32.ofInt 1)], [], 2, 7) (33, shP w3 33, σ, τ, ρ) := by
  rw [shP_s 33 34 rfl] at h
  refine am_wp_go (am_d_cm _) (fun pc => Nat.beq pc 12) 60 ?_
  refine And.intro (by decide) ?_
  refine And.intro (by decide) ?_
  refine And.intro (by decide) ?_
  refine And.intro (by decide) ?_
  exact h
set_option maxRecDepth 100000 in
theorem n_choose_1 (d : Nat) (Q : am_Q) (h : am_wp (am_d d) T_X2_init Q (17, [.ref 32, .int (Int32.ofInt 1)], [], 1, 0) (34, shP w3 34, (am_u σ 32 3 (Int32.ofInt 0)), τ, ρ)) : am_wp (am_d d) T_X2_init Q (12, [.ref 32, .int (Int32.ofInt 1)], [], 1, 0) (34, shP w3 34, σ, τ, ρ) := by
  refine am_wp_go (am_d_cm _) (fun pc => Nat.beq pc 17) 60 ?_
  exact h
set_option maxRecDepth 100000 in
theorem n_choose_2 (d : Nat) (Q : am_Q) (h : am_wp (am_d d) T_X2_init Q (24, [.ref 32, .int (Int32.ofInt 1)], [], 0, 0) (35, shP w3 35, (am_ur σ 34 (fun _ => 0)), τ, (am_u ρ 32 4 (some 34)))) : am_wp (am_d d) T_X2_init Q (17, [.ref 32, .int (Int32.ofInt 1)], [], 1, 0) (34, shP w3 34, σ, τ, ρ) := by
  rw [shP_s 34 35 rfl] at h
  refine am_wp_go (am_d_cm _) (fun pc => Nat.beq pc 24) 60 ?_
  refine And.intro (by decide) ?_
  refine And.intro (by decide) ?_
  refine And.intro (by decide) ?_
  refine And.intro (by decide) ?_
  exact h
set_option maxRecDepth 100000 in
theorem n_choose_3 (d : Nat) (Q : am_Q) (h : Q none (35, shP w3 35, (am_u (am_u (am_u (am_u (am_u σ 32 5 (Int32.ofInt 1)) 32 6 (Int32.ofInt 0)) 32 7 (Int32.ofInt (-1))) 32 0 (Int32.ofInt 1)) 32 1 (Int32.ofInt 1 <<< (Int32.ofInt 1 &&& 31) - Int32.ofInt 1)), τ, ρ)) : am_wp (am_d d) T_X2_init Q (24, [.ref 32, .int (Int32.ofInt 1)], [], 0, 0) (35, shP w3 35, σ, τ, ρ) := by
  refine am_wp_go (am_d_cm _) (fun pc => Nat.beq pc 9999) 60 ?_
  exact h
theorem n_choose (d : Nat) (Q : am_Q) (h : Q none (35, shP w3 35, (am_u (am_u (am_u (am_u (am_u (am_ur (am_u (am_ur σ 33 (fun _ => 0)) 32 3 (Int32.ofInt 0)) 34 (fun _ => 0)) 32 5 (Int32.ofInt 1)) 32 6 (Int32.ofInt 0)) 32 7 (Int32.ofInt (-1))) 32 0 (Int32.ofInt 1)) 32 1 (Int32.ofInt 1 <<< (Int32.ofInt 1 &&& 31) - Int32.ofInt 1)), τ, (am_u (am_u ρ 32 2 (some 33)) 32 4 (some 34)))) : am_d (d + 1) 10 [.ref 32, .int (Int32.ofInt 1)] 2 7 (33, shP w3 33, σ, τ, ρ) Q :=
  am_inT T_X2_init [.ref 32, .int (Int32.ofInt 1)] rfl rfl (n_choose_0 d Q (n_choose_1 d Q (n_choose_2 d Q (n_choose_3 d Q h))))
set_option maxRecDepth 100000 in
theorem n_facts_0 (d : Nat) (Q : am_Q) (h : am_wp (am_d d) T_X1_init Q (12, [.ref 35], [], 2, 16) (37, shP w3 37, (am_ur σ 36 (fun _ => 0)), τ, (am_u ρ 35 0 (some 36)))) : am_wp (am_d d) T_X1_init Q (0, [.ref 35], [], 3, 24) (36, shP w3 36, σ, τ, ρ) := by
  rw [shP_s 36 37 rfl] at h
  refine am_wp_go (am_d_cm _) (fun pc => Nat.beq pc 12) 60 ?_
  refine And.intro (by decide) ?_
  refine And.intro (by decide) ?_
  refine And.intro (by decide) ?_
  refine And.intro (by decide) ?_
  exact h
set_option maxRecDepth 100000 in
theorem n_facts_1 (d : Nat) (Q : am_Q) (h : am_wp (am_d d) T_X1_init Q (20, [.ref 35], [], 1, 8) (38, shP w3 38, (am_ur σ 37 (fun _ => 0)), τ, (am_u ρ 35 1 (some 37)))) : am_wp (am_d d) T_X1_init Q (12, [.ref 35], [], 2, 16) (37, shP w3 37, σ, τ, ρ) := by
  rw [shP_s 37 38 rfl] at h
  refine am_wp_go (am_d_cm _) (fun pc => Nat.beq pc 20) 60 ?_
  refine And.intro (by decide) ?_
  refine And.intro (by decide) ?_
  refine And.intro (by decide) ?_
  refine And.intro (by decide) ?_
  exact h
set_option maxRecDepth 100000 in
theorem n_facts_2 (d : Nat) (Q : am_Q) (h : am_wp (am_d d) T_X1_init Q (28, [.ref 35], [], 0, 0) (39, shP w3 39, (am_ur σ 38 (fun _ => 0)), τ, (am_u ρ 35 2 (some 38)))) : am_wp (am_d d) T_X1_init Q (20, [.ref 35], [], 1, 8) (38, shP w3 38, σ, τ, ρ) := by
  rw [shP_s 38 39 rfl] at h
  refine am_wp_go (am_d_cm _) (fun pc => Nat.beq pc 28) 60 ?_
  refine And.intro (by decide) ?_
  refine And.intro (by decide) ?_
  refine And.intro (by decide) ?_
  refine And.intro (by decide) ?_
  exact h
set_option maxRecDepth 100000 in
theorem n_facts_3 (d : Nat) (Q : am_Q) (h : Q none (39, shP w3 39, (am_u σ 35 3 (Int32.ofInt 0)), τ, ρ)) : am_wp (am_d d) T_X1_init Q (28, [.ref 35], [], 0, 0) (39, shP w3 39, σ, τ, ρ) := by
  refine am_wp_go (am_d_cm _) (fun pc => Nat.beq pc 9999) 60 ?_
  exact h
theorem n_facts (d : Nat) (Q : am_Q) (h : Q none (39, shP w3 39, (am_u (am_ur (am_ur (am_ur σ 36 (fun _ => 0)) 37 (fun _ => 0)) 38 (fun _ => 0)) 35 3 (Int32.ofInt 0)), τ, (am_u (am_u (am_u ρ 35 0 (some 36)) 35 1 (some 37)) 35 2 (some 38)))) : am_d (d + 1) 8 [.ref 35] 3 24 (36, shP w3 36, σ, τ, ρ) Q :=
  am_inT T_X1_init [.ref 35] rfl rfl (n_facts_0 d Q (n_facts_1 d Q (n_facts_2 d Q (n_facts_3 d Q h))))
set_option maxRecDepth 100000 in
theorem n_orders_0 (d : Nat) (Q : am_Q) (h : am_wp (am_d d) T_X3_init Q (13, [.ref 39], [], 3, 142) (41, shP w3 41, (am_ur σ 40 (fun _ => 0)), τ, (am_u ρ 39 0 (some 40)))) : am_wp (am_d d) T_X3_init Q (0, [.ref 39], [], 4, 270) (40, shP w3 40, σ, τ, ρ) := by
  rw [shP_s 40 41 rfl] at h
  refine am_wp_go (am_d_cm _) (fun pc => Nat.beq pc 13) 60 ?_
  refine And.intro (by decide) ?_
  refine And.intro (by decide) ?_
  refine And.intro (by decide) ?_
  refine And.intro (by decide) ?_
  exact h
set_option maxRecDepth 100000 in
theorem n_orders_1 (d : Nat) (Q : am_Q) (h : am_wp (am_d d) T_X3_init Q (22, [.ref 39], [], 2, 14) (42, shP w3 42, (am_ur σ 41 (fun _ => 0)), τ, (am_u ρ 39 1 (some 41)))) : am_wp (am_d d) T_X3_init Q (13, [.ref 39], [], 3, 142) (41, shP w3 41, σ, τ, ρ) := by
  rw [shP_s 41 42 rfl] at h
  refine am_wp_go (am_d_cm _) (fun pc => Nat.beq pc 22) 60 ?_
  refine And.intro (by decide) ?_
  refine And.intro (by decide) ?_
  refine And.intro (by decide) ?_
  refine And.intro (by decide) ?_
  exact h
set_option maxRecDepth 100000 in
theorem n_orders_2 (d : Nat) (Q : am_Q) (h : am_wp (am_d d) T_X3_init Q (30, [.ref 39], [], 1, 7) (43, shP w3 43, (am_ur σ 42 (fun _ => 0)), τ, (am_u ρ 39 2 (some 42)))) : am_wp (am_d d) T_X3_init Q (22, [.ref 39], [], 2, 14) (42, shP w3 42, σ, τ, ρ) := by
  rw [shP_s 42 43 rfl] at h
  refine am_wp_go (am_d_cm _) (fun pc => Nat.beq pc 30) 60 ?_
  refine And.intro (by decide) ?_
  refine And.intro (by decide) ?_
  refine And.intro (by decide) ?_
  refine And.intro (by decide) ?_
  exact h
set_option maxRecDepth 100000 in
theorem n_orders_3 (d : Nat) (Q : am_Q) (h : am_wp (am_d d) T_X3_init Q (38, [.ref 39], [], 0, 0) (44, shP w3 44, (am_ur σ 43 (fun _ => 0)), τ, (am_u ρ 39 3 (some 43)))) : am_wp (am_d d) T_X3_init Q (30, [.ref 39], [], 1, 7) (43, shP w3 43, σ, τ, ρ) := by
  rw [shP_s 43 44 rfl] at h
  refine am_wp_go (am_d_cm _) (fun pc => Nat.beq pc 38) 60 ?_
  refine And.intro (by decide) ?_
  refine And.intro (by decide) ?_
  refine And.intro (by decide) ?_
  refine And.intro (by decide) ?_
  exact h
set_option maxRecDepth 100000 in
theorem n_orders_4 (d : Nat) (Q : am_Q) (h : Q none (44, shP w3 44, (am_u (am_u σ 39 4 (Int32.ofInt 0)) 39 5 (Int32.ofInt 0)), τ, ρ)) : am_wp (am_d d) T_X3_init Q (38, [.ref 39], [], 0, 0) (44, shP w3 44, σ, τ, ρ) := by
  refine am_wp_go (am_d_cm _) (fun pc => Nat.beq pc 9999) 60 ?_
  exact h
theorem n_orders (d : Nat) (Q : am_Q) (h : Q none (44, shP w3 44, (am_u (am_u (am_ur (am_ur (am_ur (am_ur σ 40 (fun _ => 0)) 41 (fun _ => 0)) 42 (fun _ => 0)) 43 (fun _ => 0)) 39 4 (Int32.ofInt 0)) 39 5 (Int32.ofInt 0)), τ, (am_u (am_u (am_u (am_u ρ 39 0 (some 40)) 39 1 (some 41)) 39 2 (some 42)) 39 3 (some 43)))) : am_d (d + 1) 17 [.ref 39] 4 270 (40, shP w3 40, σ, τ, ρ) Q :=
  am_inT T_X3_init [.ref 39] rfl rfl (n_orders_0 d Q (n_orders_1 d Q (n_orders_2 d Q (n_orders_3 d Q (n_orders_4 d Q h)))))
set_option maxRecDepth 100000 in
theorem n_sundays_0 (d : Nat) (Q : am_Q) (h : am_wp (am_d d) T_X8_init Q (12, [.ref 44], [], 1, 7) (46, shP w3 46, (am_ur σ 45 (fun _ => 0)), τ, (am_u ρ 44 0 (some 45)))) : am_wp (am_d d) T_X8_init Q (0, [.ref 44], [], 2, 14) (45, shP w3 45, σ, τ, ρ) := by
  rw [shP_s 45 46 rfl] at h
  refine am_wp_go (am_d_cm _) (fun pc => Nat.beq pc 12) 60 ?_
  refine And.intro (by decide) ?_
  refine And.intro (by decide) ?_
  refine And.intro (by decide) ?_
  refine And.intro (by decide) ?_
  exact h
set_option maxRecDepth 100000 in
theorem n_sundays_1 (d : Nat) (Q : am_Q) (h : am_wp (am_d d) T_X8_init Q (20, [.ref 44], [], 0, 0) (47, shP w3 47, (am_ur σ 46 (fun _ => 0)), τ, (am_u ρ 44 1 (some 46)))) : am_wp (am_d d) T_X8_init Q (12, [.ref 44], [], 1, 7) (46, shP w3 46, σ, τ, ρ) := by
  rw [shP_s 46 47 rfl] at h
  refine am_wp_go (am_d_cm _) (fun pc => Nat.beq pc 20) 60 ?_
  refine And.intro (by decide) ?_
  refine And.intro (by decide) ?_
  refine And.intro (by decide) ?_
  refine And.intro (by decide) ?_
  exact h
set_option maxRecDepth 100000 in
theorem n_sundays_2 (d : Nat) (Q : am_Q) (h : Q none (47, shP w3 47, (am_u σ 44 2 (Int32.ofInt 0)), τ, ρ)) : am_wp (am_d d) T_X8_init Q (20, [.ref 44], [], 0, 0) (47, shP w3 47, σ, τ, ρ) := by
  refine am_wp_go (am_d_cm _) (fun pc => Nat.beq pc 9999) 60 ?_
  exact h
theorem n_sundays (d : Nat) (Q : am_Q) (h : Q none (47, shP w3 47, (am_u (am_ur (am_ur σ 45 (fun _ => 0)) 46 (fun _ => 0)) 44 2 (Int32.ofInt 0)), τ, (am_u (am_u ρ 44 0 (some 45)) 44 1 (some 46)))) : am_d (d + 1) 47 [.ref 44] 2 14 (45, shP w3 45, σ, τ, ρ) Q :=
  am_inT T_X8_init [.ref 44] rfl rfl (n_sundays_0 d Q (n_sundays_1 d Q (n_sundays_2 d Q h)))
set_option maxRecDepth 100000 in
theorem n_sheet0_0 (d : Nat) (Q : am_Q) (h : am_wp (am_d d) T_X7_init Q (12, [.ref 48], [], 0, 0) (50, shP w3 50, (am_ur σ 49 (fun _ => 0)), τ, (am_u ρ 48 0 (some 49)))) : am_wp (am_d d) T_X7_init Q (0, [.ref 48], [], 1, 60) (49, shP w3 49, σ, τ, ρ) := by
  rw [shP_s 49 50 rfl] at h
  refine am_wp_go (am_d_cm _) (fun pc => Nat.beq pc 12) 60 ?_
  refine And.intro (by decide) ?_
  refine And.intro (by decide) ?_
  refine And.intro (by decide) ?_
  refine And.intro (by decide) ?_
  exact h
set_option maxRecDepth 100000 in
theorem n_sheet0_1 (d : Nat) (Q : am_Q) (h : Q none (50, shP w3 50, (am_u (am_u σ 48 1 (Int32.ofInt (-1))) 48 2 (Int32.ofInt 0)), τ, ρ)) : am_wp (am_d d) T_X7_init Q (12, [.ref 48], [], 0, 0) (50, shP w3 50, σ, τ, ρ) := by
  refine am_wp_go (am_d_cm _) (fun pc => Nat.beq pc 9999) 60 ?_
  exact h
theorem n_sheet0 (d : Nat) (Q : am_Q) (h : Q none (50, shP w3 50, (am_u (am_u (am_ur σ 49 (fun _ => 0)) 48 1 (Int32.ofInt (-1))) 48 2 (Int32.ofInt 0)), τ, (am_u ρ 48 0 (some 49)))) : am_d (d + 1) 41 [.ref 48] 1 60 (49, shP w3 49, σ, τ, ρ) Q :=
  am_inT T_X7_init [.ref 48] rfl rfl (n_sheet0_0 d Q (n_sheet0_1 d Q h))
set_option maxRecDepth 100000 in
theorem n_sheet1_0 (d : Nat) (Q : am_Q) (h : am_wp (am_d d) T_X7_init Q (12, [.ref 50], [], 0, 0) (52, shP w3 52, (am_ur σ 51 (fun _ => 0)), τ, (am_u ρ 50 0 (some 51)))) : am_wp (am_d d) T_X7_init Q (0, [.ref 50], [], 1, 60) (51, shP w3 51, σ, τ, ρ) := by
  rw [shP_s 51 52 rfl] at h
  refine am_wp_go (am_d_cm _) (fun pc => Nat.beq pc 12) 60 ?_
  refine And.intro (by decide) ?_
  refine And.intro (by decide) ?_
  refine And.intro (by decide) ?_
  refine And.intro (by decide) ?_
  exact h
set_option maxRecDepth 100000 in
theorem n_sheet1_1 (d : Nat) (Q : am_Q) (h : Q none (52, shP w3 52, (am_u (am_u σ 50 1 (Int32.ofInt (-1))) 50 2 (Int32.ofInt 0)), τ, ρ)) : am_wp (am_d d) T_X7_init Q (12, [.ref 50], [], 0, 0) (52, shP w3 52, σ, τ, ρ) := by
  refine am_wp_go (am_d_cm _) (fun pc => Nat.beq pc 9999) 60 ?_
  exact h
theorem n_sheet1 (d : Nat) (Q : am_Q) (h : Q none (52, shP w3 52, (am_u (am_u (am_ur σ 51 (fun _ => 0)) 50 1 (Int32.ofInt (-1))) 50 2 (Int32.ofInt 0)), τ, (am_u ρ 50 0 (some 51)))) : am_d (d + 1) 41 [.ref 50] 1 60 (51, shP w3 51, σ, τ, ρ) Q :=
  am_inT T_X7_init [.ref 50] rfl rfl (n_sheet1_0 d Q (n_sheet1_1 d Q h))
set_option maxRecDepth 100000 in
theorem n_sheet2_0 (d : Nat) (Q : am_Q) (h : am_wp (am_d d) T_X7_init Q (12, [.ref 52], [], 0, 0) (54, shP w3 54, (am_ur σ 53 (fun _ => 0)), τ, (am_u ρ 52 0 (some 53)))) : am_wp (am_d d) T_X7_init Q (0, [.ref 52], [], 1, 60) (53, shP w3 53, σ, τ, ρ) := by
  rw [shP_s 53 54 rfl] at h
  refine am_wp_go (am_d_cm _) (fun pc => Nat.beq pc 12) 60 ?_
  refine And.intro (by decide) ?_
  refine And.intro (by decide) ?_
  refine And.intro (by decide) ?_
  refine And.intro (by decide) ?_
  exact h
set_option maxRecDepth 100000 in
theorem n_sheet2_1 (d : Nat) (Q : am_Q) (h : Q none (54, shP w3 54, (am_u (am_u σ 52 1 (Int32.ofInt (-1))) 52 2 (Int32.ofInt 0)), τ, ρ)) : am_wp (am_d d) T_X7_init Q (12, [.ref 52], [], 0, 0) (54, shP w3 54, σ, τ, ρ) := by
  refine am_wp_go (am_d_cm _) (fun pc => Nat.beq pc 9999) 60 ?_
  exact h
theorem n_sheet2 (d : Nat) (Q : am_Q) (h : Q none (54, shP w3 54, (am_u (am_u (am_ur σ 53 (fun _ => 0)) 52 1 (Int32.ofInt (-1))) 52 2 (Int32.ofInt 0)), τ, (am_u ρ 52 0 (some 53)))) : am_d (d + 1) 41 [.ref 52] 1 60 (53, shP w3 53, σ, τ, ρ) Q :=
  am_inT T_X7_init [.ref 52] rfl rfl (n_sheet2_0 d Q (n_sheet2_1 d Q h))
set_option maxRecDepth 100000 in
theorem n_sheet3_0 (d : Nat) (Q : am_Q) (h : am_wp (am_d d) T_X7_init Q (12, [.ref 54], [], 0, 0) (56, shP w3 56, (am_ur σ 55 (fun _ => 0)), τ, (am_u ρ 54 0 (some 55)))) : am_wp (am_d d) T_X7_init Q (0, [.ref 54], [], 1, 60) (55, shP w3 55, σ, τ, ρ) := by
  rw [shP_s 55 56 rfl] at h
  refine am_wp_go (am_d_cm _) (fun pc => Nat.beq pc 12) 60 ?_
  refine And.intro (by decide) ?_
  refine And.intro (by decide) ?_
  refine And.intro (by decide) ?_
  refine And.intro (by decide) ?_
  exact h
set_option maxRecDepth 100000 in
theorem n_sheet3_1 (d : Nat) (Q : am_Q) (h : Q none (56, shP w3 56, (am_u (am_u σ 54 1 (Int32.ofInt (-1))) 54 2 (Int32.ofInt 0)), τ, ρ)) : am_wp (am_d d) T_X7_init Q (12, [.ref 54], [], 0, 0) (56, shP w3 56, σ, τ, ρ) := by
  refine am_wp_go (am_d_cm _) (fun pc => Nat.beq pc 9999) 60 ?_
  exact h
theorem n_sheet3 (d : Nat) (Q : am_Q) (h : Q none (56, shP w3 56, (am_u (am_u (am_ur σ 55 (fun _ => 0)) 54 1 (Int32.ofInt (-1))) 54 2 (Int32.ofInt 0)), τ, (am_u ρ 54 0 (some 55)))) : am_d (d + 1) 41 [.ref 54] 1 60 (55, shP w3 55, σ, τ, ρ) Q :=
  am_inT T_X7_init [.ref 54] rfl rfl (n_sheet3_0 d Q (n_sheet3_1 d Q h))
end MADE
