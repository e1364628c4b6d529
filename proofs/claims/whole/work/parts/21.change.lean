/-! two who would change: the class -/
/-- two sitters change -/
def swp (L : List Nat) (a b : Nat) (sa sb : Nat) : List Nat := (L.set sa b).set sb a
/-- would both have more -/
def CZ (A : aN) (L : List Nat) (a b : Nat) (ga gb : Nat) : Bool := decide (WZ A L (seatZ L a) a ga < WZ A (swp L a b (seatZ L a).toNat (seatZ L b).toNat) (seatZ L b) a ga) && decide (WZ A L (seatZ L b) b gb < WZ A (swp L a b (seatZ L a).toNat (seatZ L b).toNat) (seatZ L a) b gb)
section CH
variable {n w3 : Nat} {g : Nat → Nat × Nat} {σ : Nat → Nat → Int32} {τ : Nat → Nat → Int64} {r1 r2 : Nat} {A : aN} {B : aZ}
/-- the memory after two have changed -/
def swM (σ : Nat → Nat → Int32) (a b : Nat) (sa sb : Nat) : Nat → Nat → Int32 := am_u (am_u (am_u (am_u σ 24 a (Int32.ofInt (sb : Int))) 24 b (Int32.ofInt (sa : Int))) 25 sa (Int32.ofInt (b : Int))) 25 sb (Int32.ofInt (a : Int))
theorem swM_ne {a b sa sb c : Nat} (h1 : c ≠ 24) (h2 : c ≠ 25) : swM σ a b sa sb c = σ c := by
  unfold swM
  rw [am_u_ne h2, am_u_ne h2, am_u_ne h1, am_u_ne h1]
theorem swM_24 {a b sa sb q : Nat} : swM σ a b sa sb 24 q = if q = b then Int32.ofInt (sa : Int) else if q = a then Int32.ofInt (sb : Int) else σ 24 q := by
  unfold swM
  rw [am_u_ne (by decide), am_u_ne (by decide), am_u_at, am_u_at]
theorem swM_25 {a b sa sb q : Nat} : swM σ a b sa sb 25 q = if q = sb then Int32.ofInt (a : Int) else if q = sa then Int32.ofInt (b : Int) else σ 25 q := by
  unfold swM
  rw [am_u_at, am_u_at, am_u_ne (by decide), am_u_ne (by decide)]
set_option maxRecDepth 100000 in
theorem s_swap (d : Nat) (Q : am_Q) {a b sa sb : Nat} (ha : a < 7) (hb : b < 7) (hsa : sa < 7) (hsb : sb < 7) (h1 : σ 24 a = Int32.ofInt (sa : Int)) (h2 : σ 24 b = Int32.ofInt (sb : Int)) (h : Q none (lo_M n w3 g (swM σ a b sa sb) τ r1 r2)) : am_d (d + 1) 6 [.ref 23, .int (Int32.ofInt (a : Int)), .int (Int32.ofInt (b : Int))] 0 0 (lo_M n w3 g σ τ r1 r2) Q := by
  refine am_goT T_X0_swap [.ref 23, .int (Int32.ofInt (a : Int)), .int (Int32.ofInt (b : Int)), .null, .null] rfl rfl (fun _ => false) 60 ?_
  refine ixi a 7 ha ?_
  refine ixi b 7 hb ?_
  refine And.intro (fun c1 => ?_) (fun c1 => And.intro (fun c2 => ?_) (fun c2 => ?_))
  · have c1 : σ 24 a = Int32.ofInt (-1) := c1
    rw [h1, zeq (by unfold zr; omega) (by unfold zr; omega)] at c1
    omega
  · have c2 : σ 24 b = Int32.ofInt (-1) := c2
    rw [h2, zeq (by unfold zr; omega) (by unfold zr; omega)] at c2
    omega
  · refine ixi a 7 ha ?_
    refine ixi b 7 hb ?_
    refine ixi sa 7 hsa ?_ h1
    refine ixi sb 7 hsb ?_ h2
    unfold swM at h
    rw [← h1, ← h2] at h
    exact h
theorem hol_swp {L : List Nat} {a b sa sb : Nat} (h : hol σ 25 0 L) (hsa : sa < L.length) (hsb : sb < L.length) : hol (swM σ a b sa sb) 25 0 (swp L a b sa sb) := by
  intro i q hq
  rw [Nat.zero_add, swM_25]
  unfold swp at hq
  by_cases e1 : i = sb
  · subst e1
    rw [List.getElem?_set_self (by simpa using hsb)] at hq
    cases hq
    rw [if_pos rfl]
  · rw [List.getElem?_set_ne (Ne.symm e1)] at hq
    rw [if_neg e1]
    by_cases e2 : i = sa
    · subst e2
      rw [List.getElem?_set_self hsa] at hq
      cases hq
      rw [if_pos rfl]
    · rw [List.getElem?_set_ne (Ne.symm e2)] at hq
      rw [if_neg e2]
      have := h i q hq
      rw [Nat.zero_add] at this
      exact this
set_option maxHeartbeats 1000000 in
set_option maxRecDepth 100000 in
theorem s_wouldChange (d : Nat) (Q : am_Q) {L : List Nat} {a b ga gb : Nat} (hwf : WF A B) (hx : IX A B σ) (ha : a < cnt A) (hb : b < cnt A) (hab : a ≠ b) (hga : ga ≤ 60) (hgb : gb ≤ 60) (g1 : σ 22 a = Int32.ofInt (ga : Int)) (g2 : σ 22 b = Int32.ofInt (gb : Int)) (hL7 : ∀ q ∈ L, q < 7) (hlen : L.length ≤ 7) (ht : σ 23 5 = Int32.ofInt (L.length : Int)) (h1 : hol σ 25 0 L) (hs : ∀ q, q < cnt A → σ 24 q = Int32.ofInt (seatZ L q)) (na : seatZ L a ≠ -1) (nb : seatZ L b ≠ -1)
    (h : ∀ σ' : Nat → Nat → Int32, (∀ c, c ≠ 24 → c ≠ 25 → σ' c = σ c) → hol σ' 25 0 L → (∀ q, q < cnt A → σ' 24 q = Int32.ofInt (seatZ L q)) → Q (some (.int (if CZ A L a b ga gb then 1 else 0))) (lo_M n w3 g σ' τ r1 r2)) : am_d (d + 4) 99 [.ref 4, .int (Int32.ofInt (a : Int)), .int (Int32.ofInt (b : Int))] 0 0 (lo_M n w3 g σ τ r1 r2) Q := by
  have hc := cnt_le A
  have ra := seatZ_rng L a
  have rb := seatZ_rng L b
  obtain ⟨sa, hsa⟩ : ∃ sa : Nat, seatZ L a = (sa : Int) := ⟨(seatZ L a).toNat, by omega⟩
  obtain ⟨sb, hsb⟩ : ∃ sb : Nat, seatZ L b = (sb : Int) := ⟨(seatZ L b).toNat, by omega⟩
  have hLa := seatZ_at na
  have hLb := seatZ_at nb
  rw [hsa, Int.toNat_natCast] at hLa
  rw [hsb, Int.toNat_natCast] at hLb
  have hsne : sa ≠ sb := by
    intro q
    subst q
    rw [hLa] at hLb
    exact hab (Option.some.inj hLb)
  have s7a : sa < 7 := by omega
  have s7b : sb < 7 := by omega
  have ea : σ 24 a = Int32.ofInt (sa : Int) := by rw [hs a ha, hsa]
  have eb : σ 24 b = Int32.ofInt (sb : Int) := by rw [hs b hb, hsb]
  obtain ⟨hP, hR, hS, hL, hW, hF, hU, hH, hl⟩ := id hx
  have hx2 : IX A B (swM σ a b sa sb) := IX_fr hx (fun c e1 e2 => swM_ne (fun q => e2 (by subst q; unfold scr; omega)) (fun q => e2 (by subst q; unfold scr; omega))) (by rw [swM_ne (by decide) (by decide)])
  have hL7' : ∀ q ∈ swp L a b sa sb, q < 7 := by
    intro q hq
    rcases List.mem_or_eq_of_mem_set hq with hq | rfl
    · rcases List.mem_or_eq_of_mem_set hq with hq | rfl
      · exact hL7 q hq
      · omega
    · omega
  have hlen' : (swp L a b sa sb).length = L.length := by unfold swp; rw [List.length_set, List.length_set]
  have w1 := WZ_rng (A := A) (B := B) hwf (L := L) (st := (sa : Int)) ha hga (by omega) (by omega)
  have w2 := WZ_rng (A := A) (B := B) hwf (L := L) (st := (sb : Int)) hb hgb (by omega) (by omega)
  have w3' := WZ_rng (A := A) (B := B) hwf (L := swp L a b sa sb) (st := (sb : Int)) ha hga (by omega) (by omega)
  have w4 := WZ_rng (A := A) (B := B) hwf (L := swp L a b sa sb) (st := (sa : Int)) hb hgb (by omega) (by omega)
  have hCZ : CZ A L a b ga gb = (decide (WZ A L (sa : Int) a ga < WZ A (swp L a b sa sb) (sb : Int) a ga) && decide (WZ A L (sb : Int) b gb < WZ A (swp L a b sa sb) (sa : Int) b gb)) := by
    unfold CZ
    rw [hsa, hsb, Int.toNat_natCast, Int.toNat_natCast]
  have hfin : Q (some (.int (if CZ A L a b ga gb then 1 else 0))) (lo_M n w3 g (swM (swM σ a b sa sb) a b sb sa) τ r1 r2) := by
    refine h _ (fun c e1 e2 => by rw [swM_ne e1 e2, swM_ne e1 e2]) ?_ ?_
    · intro i q hq
      rw [Nat.zero_add, swM_25, swM_25]
      by_cases e1 : i = sa
      · subst e1
        rw [hLa] at hq
        cases hq
        rw [if_pos rfl]
      · rw [if_neg e1]
        by_cases e2 : i = sb
        · subst e2
          rw [hLb] at hq
          cases hq
          rw [if_pos rfl]
        · rw [if_neg e2, if_neg e2, if_neg e1]
          have := h1 i q hq
          rw [Nat.zero_add] at this
          exact this
    · intro q hq
      rw [swM_24, swM_24]
      by_cases e1 : q = b
      · subst e1
        rw [if_pos rfl, hsb]
      · rw [if_neg e1]
        by_cases e2 : q = a
        · subst e2
          rw [if_pos rfl, hsa]
        · rw [if_neg e2, if_neg e1, if_neg e2]
          exact hs q hq
  refine am_goT T_X9_wouldChange [.ref 4, .int (Int32.ofInt (a : Int)), .int (Int32.ofInt (b : Int)), .null, .null, .null] rfl rfl (fun _ => false) 80 ?_
  refine ixi a 7 (by omega) ?_
  show am_d (d + 3) 4 [.ref 23, .int (Int32.ofInt (a : Int)), .int (σ 22 a)] 0 0 _ _
  rw [g1]
  refine s_worthA d (L := L) (st := (sa : Int)) _ hwf ha hga hP hR hS hL hL7 hlen ht h1 ea (by omega) (by omega) ?_
  refine ixi b 7 (by omega) ?_
  show am_d (d + 3) 4 [.ref 23, .int (Int32.ofInt (b : Int)), .int (σ 22 b)] 0 0 _ _
  rw [g2]
  refine s_worthA d (L := L) (st := (sb : Int)) _ hwf hb hgb hP hR hS hL hL7 hlen ht h1 eb (by omega) (by omega) ?_
  refine s_swap (d + 2) _ (by omega) (by omega) s7a s7b ea eb ?_
  obtain ⟨hP2, hR2, hS2, hL2, -⟩ := id hx2
  refine ixi a 7 (by omega) ?_
  show am_d (d + 3) 4 [.ref 23, .int (Int32.ofInt (a : Int)), .int (swM σ a b sa sb 22 a)] 0 0 _ _
  rw [swM_ne (by decide) (by decide), g1]
  refine s_worthA d (L := swp L a b sa sb) (st := (sb : Int)) _ hwf ha hga hP2 hR2 hS2 hL2 hL7' (by rw [hlen']; exact hlen) (by rw [swM_ne (by decide) (by decide), hlen']; exact ht) (hol_swp h1 (by omega) (by omega)) (by rw [swM_24, if_neg hab, if_pos rfl]) (by omega) (by omega) ?_
  refine And.intro (fun c1 => ?_) (fun c1 => ?_)
  · rw [zle (by unfold zr; omega) (by unfold zr; omega)] at c1
    refine s_swap (d + 2) (σ := swM σ a b sa sb) (sa := sb) (sb := sa) _ (by omega) (by omega) s7b s7a (by rw [swM_24, if_neg hab, if_pos rfl]) (by rw [swM_24, if_pos rfl]) ?_
    rw [hCZ, if_neg (by simp; intro q; omega)] at hfin
    exact And.intro (Or.inl rfl) hfin
  · rw [zle (by unfold zr; omega) (by unfold zr; omega)] at c1
    refine ixi b 7 (by omega) ?_
    show am_d (d + 3) 4 [.ref 23, .int (Int32.ofInt (b : Int)), .int (swM σ a b sa sb 22 b)] 0 0 _ _
    rw [swM_ne (by decide) (by decide), g2]
    refine s_worthA d (L := swp L a b sa sb) (st := (sa : Int)) _ hwf hb hgb hP2 hR2 hS2 hL2 hL7' (by rw [hlen']; exact hlen) (by rw [swM_ne (by decide) (by decide), hlen']; exact ht) (hol_swp h1 (by omega) (by omega)) (by rw [swM_24, if_pos rfl]) (by omega) (by omega) ?_
    refine And.intro (fun c2 => ?_) (fun c2 => ?_)
    · rw [zle (by unfold zr; omega) (by unfold zr; omega)] at c2
      refine s_swap (d + 2) (σ := swM σ a b sa sb) (sa := sb) (sb := sa) _ (by omega) (by omega) s7b s7a (by rw [swM_24, if_neg hab, if_pos rfl]) (by rw [swM_24, if_pos rfl]) ?_
      rw [hCZ, if_neg (by simp; intro q; omega)] at hfin
      exact And.intro (Or.inl rfl) hfin
    · rw [zle (by unfold zr; omega) (by unfold zr; omega)] at c2
      refine s_swap (d + 2) (σ := swM σ a b sa sb) (sa := sb) (sb := sa) _ (by omega) (by omega) s7b s7a (by rw [swM_24, if_neg hab, if_pos rfl]) (by rw [swM_24, if_pos rfl]) ?_
      rw [hCZ, if_pos (by simp; omega)] at hfin
      exact And.intro (Or.inr rfl) hfin
end CH
