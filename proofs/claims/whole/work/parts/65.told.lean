/-! what is told changes: the class's state and the reference's behind a telling -/
theorem am_ur_eq {α : Type} {f : Nat → Nat → α} {c : Nat} {r : Nat → α} : am_ur f c r c = r := by
  unfold am_ur
  rw [if_pos rfl]
/-- the text, the rain, the settings and love are as they were -/
def AG (A A' : aN) : Prop := A' 0 0 = A 0 0 ∧ A' 1 = A 1 ∧ A' 2 = A 2 ∧ A' 3 = A 3 ∧ ∀ a, A' (20 + a) = A (20 + a)
section AGS
variable {A A' : aN} {B B' : aZ} {σ σ' : Nat → Nat → Int32}
theorem flt_ag (h : AG A A') : flt A' = flt A := by
  unfold flt
  rw [h.1, h.2.1]
theorem cnt_ag (h : AG A A') : cnt A' = cnt A := by
  unfold cnt
  rw [flt_ag h, h.1]
theorem mn_ag (h : AG A A') (p : Nat) : mn A' p = mn A p := by
  unfold mn
  rw [h.2.1]
theorem wsh_ag (h : AG A A') (p : Nat) : wsh A' p = wsh A p := by
  unfold wsh
  rw [h.2.1]
theorem gin_ag (h : AG A A') (p v : Nat) : gin A' p v = gin A p v := by
  unfold gin
  rw [mn_ag h]
theorem SL_ag (h : AG A A') (lw : Nat) (mem : Nat → Bool) (v : Nat → Nat) : SL A' lw mem v = SL A lw mem v := by
  unfold SL
  rw [cnt_ag h, h.2.2.2.1]
  simp only [gin_ag h]
theorem WZ_ag (h : AG A A') (L : List Nat) (st : Int) (p gg : Nat) : WZ A' L st p gg = WZ A L st p gg := by
  unfold WZ
  rw [h.2.2.1, h.2.2.2.1, mn_ag h, wsh_ag h]
  simp only [h.2.2.2.2]
theorem HZ_ag (h : AG A A') (lw : Nat) (mem : Nat → Bool) (v : Nat → Nat) (p : Nat) : HZ A' lw mem v p = HZ A lw mem v p := by
  unfold HZ
  rw [SL_ag h, gin_ag h, WZ_ag h]
theorem wr_ag (h : AG A A') (row : Nat) : wr A' row = wr A row := by
  funext q
  unfold wr
  rw [h.2.2.2.1, cnt_ag h]
theorem Wr_ag (h : AG A A') : Wr A' = Wr A := by
  funext row p
  unfold Wr
  rw [HZ_ag h, wr_ag h, h.2.2.2.1]
theorem rsf_ag (h : AG A A') : rsf A' = rsf A := by
  funext p
  unfold rsf
  rw [cnt_ag h]
theorem restS_ag (h : AG A A') : restS A' = restS A := by
  unfold restS
  rw [Wr_ag h, rsf_ag h, cnt_ag h]
theorem KR_ag (h : AG A A') (k : KR A σ) : KR A' σ := by
  unfold KR
  rw [restS_ag h, rsf_ag h, cnt_ag h]
  exact k
theorem Wc_ag (h : AG A A') (h4 : A' 4 = A 4) : Wc A' = Wc A := by
  funext way p
  unfold Wc
  rw [HZ_ag h, HZ_ag h, h4]
theorem chS2_ag (h : AG A A') (h4 : A' 4 = A 4) : chS2 A' = chS2 A := by
  unfold chS2
  rw [Wc_ag h h4, cnt_ag h]
theorem KC_ag (h : AG A A') (h4 : A' 4 = A 4) (k : KC A σ) : KC A' σ := by
  unfold KC
  rw [chS2_ag h h4]
  exact k
theorem hdA_ag (h : AG A A') (h1 : A' 0 1 = A 0 1) (h5 : A' 5 = A 5) (h6 : A' 6 = A 6) (h7 : A' 7 = A 7) : hdA A' = hdA A := by
  unfold hdA
  rw [cnt_ag h, h.2.2.2.1, h1, h5, h6, h7]
theorem KO_ag (h : AG A A') (h1 : A' 0 1 = A 0 1) (h5 : A' 5 = A 5) (h6 : A' 6 = A 6) (h7 : A' 7 = A 7) (k : KO A σ) : KO A' σ := by
  unfold KO
  rw [hdA_ag h h1 h5 h6 h7, cnt_ag h]
  exact k
/-- the class's state anew -/
theorem CS_mk {n w3 : Nat} {g : Nat → Nat × Nat} {r1 r2 W1 W2 : Nat} (hs : CS A B n w3 g σ r1 r2 W1 W2) (hx : IX A' B' σ') (k : ∀ c, (29 ≤ c ∧ c ≤ 34) ∨ (39 ≤ c ∧ c ≤ 43) → σ' c = σ c)
    (f1 : σ' 4 14 = Int32.ofInt 0 ∨ σ' 4 14 = σ 4 14 ∧ AG A A') (f2 : σ' 4 15 = Int32.ofInt 0 ∨ σ' 4 15 = σ 4 15 ∧ AG A A' ∧ A' 4 = A 4)
    (f3 : σ' 4 16 = Int32.ofInt 0 ∨ σ' 4 16 = σ 4 16 ∧ AG A A' ∧ A' 0 1 = A 0 1 ∧ A' 5 = A 5 ∧ A' 6 = A 6 ∧ A' 7 = A 7) : CS A' B' n w3 g σ' r1 r2 W1 W2 := by
  obtain ⟨-, hz, hw, ⟨a1, a2, a3, a4⟩, e1, e2, e3⟩ := hs
  refine ⟨hx, hz, hw, ?_, ?_, ?_, ?_⟩
  · rw [k 29 (by omega), k 32 (by omega)]
    exact ⟨a1, a2, a3, a4⟩
  · rcases f1 with f | ⟨f, ag⟩
    · exact Or.inl f
    · rw [f, cnt_ag ag]
      rcases e1 with e | ⟨e, q1, q2⟩
      · exact Or.inl e
      · exact Or.inr ⟨e, KR_ag ag (KR_fr q1 (k 29 (by omega)) (k 30 (by omega))), q2⟩
  · rcases f2 with f | ⟨f, ag, h4⟩
    · exact Or.inl f
    · rw [f, cnt_ag ag]
      rcases e2 with e | ⟨e, q1, q2⟩
      · exact Or.inl e
      · exact Or.inr ⟨e, KC_ag ag h4 (KC_fr q1 (k 32 (by omega))), q2⟩
  · rcases f3 with f | ⟨f, ag, h1, h5, h6, h7⟩
    · exact Or.inl f
    · rw [f]
      rcases e3 with e | ⟨e, q1⟩
      · exact Or.inl e
      · exact Or.inr ⟨e, KO_ag ag h1 h5 h6 h7 (KO_fr q1 (fun c c1 c2 => k c (Or.inr ⟨c1, c2⟩)))⟩
theorem CS_drp {n w3 : Nat} {g : Nat → Nat × Nat} {r1 r2 W1 W2 : Nat} (hs : CS A B n w3 g σ r1 r2 W1 W2) (hx : IX A' B' σ') (k : ∀ c, (29 ≤ c ∧ c ≤ 34) ∨ (39 ≤ c ∧ c ≤ 43) → σ' c = σ c) : CS A' B' n w3 g (drp σ') r1 r2 W1 W2 :=
  CS_mk hs (IX_fr hx (fun c e _ => drp_ne e) (by rw [drp_4]; rfl)) (fun c e => by rw [drp_ne (by omega)]; exact k c e) (Or.inl (by rw [drp_4]; rfl)) (Or.inl (by rw [drp_4]; rfl)) (Or.inl (by rw [drp_4]; rfl))
theorem IX_mk (hx : IX A B σ)
    (P : ixP A' σ' ∨ (A' 0 0 = A 0 0 ∧ A' 1 = A 1 ∧ σ' 5 = σ 5 ∧ σ' 6 = σ 6 ∧ σ' 7 = σ 7 ∧ σ' 8 = σ 8))
    (R : ixR A' σ' ∨ (A' 2 = A 2 ∧ σ' 10 = σ 10))
    (S : ixS A' σ' ∨ (A' 3 = A 3 ∧ σ' 12 = σ 12))
    (L : ixL A' σ' ∨ ((∀ a, A' (20 + a) = A (20 + a)) ∧ ∀ a, a < 7 → σ' (14 + a) = σ (14 + a)))
    (W : ixW A' σ' ∨ (A' 4 = A 4 ∧ σ' 21 = σ 21))
    (F : ixF A' σ' ∨ (A' 0 1 = A 0 1 ∧ A' 5 = A 5 ∧ A' 6 = A 6 ∧ A' 7 = A 7 ∧ σ' 35 = σ 35 ∧ σ' 36 = σ 36 ∧ σ' 37 = σ 37 ∧ σ' 38 = σ 38))
    (U : ixU A' σ' ∨ (A' 0 2 = A 0 2 ∧ A' 8 = A 8 ∧ A' 9 = A 9 ∧ σ' 44 = σ 44 ∧ σ' 45 = σ 45 ∧ σ' 46 = σ 46))
    (H : ixH A' B' σ' ∨ (A' 11 = A 11 ∧ B' = B ∧ ∀ s, s < 4 → σ' (48 + 2 * s) = σ (48 + 2 * s) ∧ σ' (49 + 2 * s) = σ (49 + 2 * s)))
    (l : σ' 4 13 = Int32.ofInt (A' 0 3 : Int) ∨ (A' 0 3 = A 0 3 ∧ σ' 4 13 = σ 4 13)) : IX A' B' σ' := by
  obtain ⟨h1, h2, h3, h4, h5, h6, h7, h8, h9⟩ := hx
  refine ⟨?_, ?_, ?_, ?_, ?_, ?_, ?_, ?_, ?_⟩
  · rcases P with q | ⟨e0, e1, k5, k6, k7, k8⟩
    · exact q
    · have ef : flt A' = flt A := by unfold flt; rw [e0, e1]
      have ec : cnt A' = cnt A := by unfold cnt; rw [ef, e0]
      unfold ixP mn wsh
      rw [ef, ec, e0, e1, k5, k6, k7, k8]
      exact h1
  · rcases R with q | ⟨e, k⟩
    · exact q
    · unfold ixR; rw [e, k]; exact h2
  · rcases S with q | ⟨e, k⟩
    · exact q
    · unfold ixS; rw [e, k]; exact h3
  · rcases L with q | ⟨e, k⟩
    · exact q
    · intro a ha; rw [e, k a ha]; exact h4 a ha
  · rcases W with q | ⟨e, k⟩
    · exact q
    · unfold ixW; rw [e, k]; exact h5
  · rcases F with q | ⟨e1, e5, e6, e7, k1, k2, k3, k4⟩
    · exact q
    · unfold ixF; rw [e1, e5, e6, e7, k1, k2, k3, k4]; exact h6
  · rcases U with q | ⟨e1, e5, e6, k1, k2, k3⟩
    · exact q
    · unfold ixU; rw [e1, e5, e6, k1, k2, k3]; exact h7
  · rcases H with q | ⟨e, eb, k⟩
    · exact q
    · subst eb; intro s hs; rw [e, (k s hs).1, (k s hs).2]; exact h8 s hs
  · rcases l with q | ⟨e, k⟩
    · exact q
    · rw [e, k]; exact h9
theorem IM_mk (hx : IM A B σ)
    (P : rT A' σ' ∨ (A' 0 0 = A 0 0 ∧ A' 1 = A 1 ∧ σ' 56 6 = σ 56 6 ∧ σ' 61 = σ 61))
    (R : rR A' σ' ∨ (A' 2 = A 2 ∧ σ' 65 = σ 65))
    (S : rS A' σ' ∨ (A' 3 = A 3 ∧ σ' 66 = σ 66))
    (L : rL A' σ' ∨ ((∀ a, A' (20 + a) = A (20 + a)) ∧ σ' 67 = σ 67))
    (W : rW (A' 4) σ' ∨ (A' 4 = A 4 ∧ σ' 64 = σ 64))
    (F : rF A' σ' ∨ (A' 0 1 = A 0 1 ∧ A' 5 = A 5 ∧ A' 6 = A 6 ∧ A' 7 = A 7 ∧ σ' 56 19 = σ 56 19 ∧ σ' 70 = σ 70))
    (U : rU A' σ' ∨ (A' 0 2 = A 0 2 ∧ A' 8 = A 8 ∧ A' 9 = A 9 ∧ σ' 56 27 = σ 56 27 ∧ σ' 75 = σ 75 ∧ σ' 76 = σ 76))
    (H : rH A' B' σ' ∨ (A' 11 = A 11 ∧ B' = B ∧ σ' 57 = σ 57 ∧ σ' 58 = σ 58 ∧ σ' 59 = σ 59))
    (l : σ' 56 4 = Int32.ofInt (A' 0 3 : Int) ∨ (A' 0 3 = A 0 3 ∧ σ' 56 4 = σ 56 4)) : IM A' B' σ' := by
  obtain ⟨h1, h2, h3, h4, h5, h6, h7, h8, h9⟩ := hx
  refine ⟨?_, ?_, ?_, ?_, ?_, ?_, ?_, ?_, ?_⟩
  · rcases P with q | ⟨e0, e1, k5, k6⟩
    · exact q
    · unfold rT; rw [e0, e1, k5, k6]; exact h1
  · rcases R with q | ⟨e, k⟩
    · exact q
    · unfold rR; rw [e, k]; exact h2
  · rcases S with q | ⟨e, k⟩
    · exact q
    · unfold rS; rw [e, k]; exact h3
  · rcases L with q | ⟨e, k⟩
    · exact q
    · intro a ha; rw [e, k]; exact h4 a ha
  · rcases W with q | ⟨e, k⟩
    · exact q
    · unfold rW; rw [e, k]; exact h5
  · rcases F with q | ⟨e1, e5, e6, e7, k1, k2⟩
    · exact q
    · unfold rF; rw [e1, e5, e6, e7, k1, k2]; exact h6
  · rcases U with q | ⟨e1, e5, e6, k1, k2, k3⟩
    · exact q
    · unfold rU; rw [e1, e5, e6, k1, k2, k3]; exact h7
  · rcases H with q | ⟨e, eb, k1, k2, k3⟩
    · exact q
    · subst eb; unfold rH; rw [e, k1, k2, k3]; exact h8
  · rcases l with q | ⟨e, k⟩
    · exact q
    · rw [e, k]; exact h9
/-- the reference changes its own rows alone -/
def RF (σ σ' : Nat → Nat → Int32) : Prop := ∀ c, c < 56 → σ' c = σ c
theorem CS_RF {n w3 : Nat} {g : Nat → Nat × Nat} {r1 r2 W1 W2 : Nat} (hs : CS A B n w3 g σ r1 r2 W1 W2) (k : RF σ σ') : CS A B n w3 g σ' r1 r2 W1 W2 := by
  have ag : AG A A := ⟨rfl, rfl, rfl, rfl, fun _ => rfl⟩
  have e4 := k 4 (by omega)
  refine CS_mk hs (IX_fr hs.1 (fun c _ e => k c (by unfold scr at e; omega)) (by rw [e4])) (fun c e => k c (by omega)) (Or.inr ⟨by rw [e4], ag⟩) (Or.inr ⟨by rw [e4], ag, rfl⟩) (Or.inr ⟨by rw [e4], ag, rfl, rfl, rfl, rfl⟩)
theorem IM_CF (hm : IM A B σ) (k : CF σ σ') : IM A B σ' := IM_fr hm (fun c e1 e2 _ => k c (Or.inr ⟨by omega, e2⟩)) (fun i _ => by rw [k 56 (by omega)])
end AGS
