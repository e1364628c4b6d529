/-! seven rows of seven, in the small machine -/
def am_mM (M : am_M) : am_M := (M.1 + 8, (fun c => if c = M.1 then (5, 7) else if M.1 < c ∧ c < M.1 + 8 then (0, 7) else M.2.1 c), (fun c => if M.1 < c ∧ c < M.1 + 8 then (fun _ => 0) else M.2.2.1 c), M.2.2.2.1, am_ur M.2.2.2.2 M.1 (fun i => if i < 7 then some (M.1 + 1 + i) else none))
def am_mad (n h : Nat) (ad : Nat → Nat) : Nat → Nat := fun c => if c < n then ad c else h + (c - n)
theorem am_w_of {tC : Nat → ClassId} {ad : Nat → Nat} {M : am_M} {k : Nat} {q : Nat × va_E} (h : (am_w tC ad M)[k]? = some q) : k < M.1 - 4 ∧ q = (ad (k + 4), am_cell tC ad M (k + 4)) := by
  have hk : k < M.1 - 4 := by
    have := (List.getElem?_eq_some_iff.mp h).1
    unfold am_w at this
    simpa using this
  refine ⟨hk, ?_⟩
  have a1 := am_w_at (tC := tC) (ad := ad) (M := M) (c := k + 4) (by omega) (by omega)
  rw [show k + 4 - 4 = k by omega] at a1
  exact Option.some.inj (h.symm.trans a1)
section AMSM
variable {p : Program} {l : Launch} {e : Env} {R : Room} {s : State} {m : MethodId} {args : Array Value} {below : List Frame} {meth : Method} {c : Code} {Qf : State → Prop}
variable {D : va_G} {tC : Nat → ClassId} {A : Nat → Prop} {ad0 : Nat → Nat} {M0 : am_M} {nL : Nat} {own : String} {cc : ByteArray} {ret : Option FieldType} {nest : List Cond}
variable {pc nx a b i : Nat} {L st : List Value} {bc bs : Nat} {M : am_M}
theorem am_mM_lt {c : Nat} (h : c < M.1) : (am_mM M).2.1 c = M.2.1 c ∧ (am_mM M).2.2.1 c = M.2.2.1 c ∧ (am_mM M).2.2.2.1 c = M.2.2.2.1 c ∧ (am_mM M).2.2.2.2 c = M.2.2.2.2 c := by
  refine ⟨?_, ?_, rfl, am_ur_ne (by omega)⟩
  · show (if c = M.1 then (5, 7) else if M.1 < c ∧ c < M.1 + 8 then (0, 7) else M.2.1 c) = _
    rw [if_neg (by omega), if_neg (by omega)]
  · show (if M.1 < c ∧ c < M.1 + 8 then (fun _ => 0) else M.2.2.1 c) = _
    rw [if_neg (by omega)]
theorem am_mM_old {ad : Nat → Nat} {h c : Nat} (hwf : am_wf M) (hc : c < M.1) : am_cell tC (am_mad M.1 h ad) (am_mM M) c = am_cell tC ad M c := by
  obtain ⟨e1, e2, e3, e4⟩ := am_mM_lt (M := M) hc
  refine am_cell_eq e1 e2 e3 (fun j => ?_)
  rw [e4]
  cases hq : M.2.2.2.2 c j with
  | none => rfl
  | some w => exact congrArg some (if_pos (hwf.2.2.2 _ _ w hq))
theorem am_mM_row {ad : Nat → Nat} {h j : Nat} (hj : j < 7) : am_cell tC (am_mad M.1 h ad) (am_mM M) (M.1 + 1 + j) = .inl (tC 0, 7, .inl (fun _ => 0)) := by
  have e1 : (am_mM M).2.1 (M.1 + 1 + j) = (0, 7) := by
    show (if M.1 + 1 + j = M.1 then (5, 7) else if M.1 < M.1 + 1 + j ∧ M.1 + 1 + j < M.1 + 8 then (0, 7) else M.2.1 (M.1 + 1 + j)) = _
    rw [if_neg (by omega), if_pos (by omega)]
  have e2 : (am_mM M).2.2.1 (M.1 + 1 + j) = (fun _ => 0) := by
    show (if M.1 < M.1 + 1 + j ∧ M.1 + 1 + j < M.1 + 8 then (fun _ => 0) else M.2.2.1 (M.1 + 1 + j)) = _
    rw [if_pos (by omega)]
  rw [am_cell_0 (by rw [e1]), e1, e2]
theorem am_mM_top {ad : Nat → Nat} {h : Nat} : am_cell tC (am_mad M.1 h ad) (am_mM M) M.1 = .inl (tC 4, 7, .inr (.inr (.inr (.inr (fun j => if j < 7 then some (h + 1 + j) else none))))) := by
  have e1 : (am_mM M).2.1 M.1 = (5, 7) := by
    show (if M.1 = M.1 then (5, 7) else _) = _
    rw [if_pos rfl]
  rw [am_cell_5 (by rw [e1]), e1]
  have e2 : (fun j => ((am_mM M).2.2.2.2 M.1 j).map (am_mad M.1 h ad)) = (fun j => if j < 7 then some (h + 1 + j) else none) := by
    funext j
    show (am_ur M.2.2.2.2 M.1 (fun i => if i < 7 then some (M.1 + 1 + i) else none) M.1 j).map (am_mad M.1 h ad) = _
    rw [am_ur_at]
    by_cases e : j < 7
    · rw [if_pos e, if_pos e]
      show some (am_mad M.1 h ad (M.1 + 1 + j)) = _
      unfold am_mad
      rw [if_neg (by omega)]
      congr 1
      omega
    · rw [if_neg e, if_neg e]
      rfl
  rw [e2]
theorem am_s_multi (C : am_Ctx p s m args c D tC A ad0 M0 nL own cc nest) (hd : decode cc pc = .ok (.multianewarray i 2, 4)) {z : Int} (hx : Cond.classLink own i "[[I" ∈ am_tb) {call : am_C} {Q : am_Q}
    (h : am_ex call Q (am_P p l e R s m args below meth c Qf D tC A ad0 M0 nL) (.multianewarray i 2, pc + 4, a, b, z) (pc, L, st, bc, bs) M) : am_P p l e R s m args below meth c Qf D tC A ad0 M0 nL (pc, L, st, bc, bs) M := by
  obtain ⟨hx1, hb, hml, hown, hts, hK, hN, hT, hZ, hA, h4, hX⟩ := C
  obtain ⟨x, y, rest, rfl, hbc, rfl, rfl, hbs, h⟩ := am_ii_at h
  replace h : am_P p l e R s m args below meth c Qf D tC A ad0 M0 nL (pc + 4, L, .ref M.1 :: rest, bc - 8, bs - 56) (am_mM M) := h
  intro ad H locs cells slots ls hw hf hs hcl hsl
  obtain ⟨hP, hD, hS, hwf, hag, hn0, hro⟩ := id hw
  replace hcl : cells + bc ≤ R.cells := hcl
  replace hsl : slots + bs ≤ R.slots := hsl
  have h4n : 4 ≤ M.1 := hwf.2.2.1
  obtain ⟨kA, comp, g1, g2, g3, g4⟩ := hX.1.2.2
  have hnm : s.vm.findClass "[I" = some (tC 0) := (hK.2 0 (tC 0, .int) rfl).2
  have hcomp : comp = tC 0 := Option.some.inj (g3.symm.trans hnm)
  obtain ⟨-, kS, hkS, compS, hkind⟩ := (hK.2 0 (tC 0, .int) rfl).1 0 (fun _ => .null)
  rw [hcomp] at g2
  refine am_multiW hx1 hb hown (hts _ hx) g1 g2 hkS hkind g4 (by omega) (by omega) hd (fun H1 z1 z2 z3 z4 => ?_)
  have hag' : ∀ c, c < M.1 → am_mad M.1 H.size ad c = ad c := fun c hc => if_pos hc
  have hnew : ∀ j, am_mad M.1 H.size ad (M.1 + j) = H.size + j := fun j => by
    unfold am_mad
    rw [if_neg (by omega)]
    omega
  have hold : ∀ (k : Nat), k < M.1 - 4 → ad (k + 4) < H.size := fun k hk => (hP k _ (by have a1 := am_w_at (tC := tC) (ad := ad) (M := M) (c := k + 4) (by omega) (by omega); rw [show k + 4 - 4 = k by omega] at a1; exact a1)).lt
  have hP1 : va_P D am_cl (am_w tC (am_mad M.1 H.size ad) (am_mM M)) H1 := by
    intro k q hk
    obtain ⟨k1, rfl⟩ := am_w_of hk
    replace k1 : k < M.1 + 8 - 4 := k1
    by_cases ho : k + 4 < M.1
    · rw [hag' _ ho, am_mM_old hwf ho]
      have a1 := am_w_at (tC := tC) (ad := ad) (M := M) (c := k + 4) (by omega) (by omega)
      rw [show k + 4 - 4 = k by omega] at a1
      exact (hP k _ a1).kept (z3 _ (hold k (by omega)))
    · by_cases ht : k + 4 = M.1
      · rw [ht, am_mM_top, show am_mad M.1 H.size ad M.1 = H.size from hnew 0]
        show H1[H.size]? = some (vp_cell _ _)
        rw [vp_cell_q, z2]
        unfold am_mo
        congr 2
        funext j
        by_cases e : j < 7
        · rw [if_pos e, if_pos e]; rfl
        · rw [if_neg e, if_neg e]; rfl
      · obtain ⟨j, hj⟩ : ∃ j, k + 4 = M.1 + 1 + j := ⟨k + 4 - (M.1 + 1), by omega⟩
        rw [hj, am_mM_row (by omega), show am_mad M.1 H.size ad (M.1 + 1 + j) = H.size + 1 + j by rw [Nat.add_assoc, hnew]; omega]
        show H1[H.size + 1 + j]? = some (vp_cell _ _)
        rw [vp_cell_i, z4 j (by omega)]
        rfl
  have hD1 : va_D A (am_w tC (am_mad M.1 H.size ad) (am_mM M)) := by
    have key : ∀ (k : Nat) (q : Nat × va_E), (am_w tC (am_mad M.1 H.size ad) (am_mM M))[k]? = some q → (k + 4 < M.1 ∧ (am_w tC ad M)[k]? = some q ∧ q.1 < H.size) ∨ (M.1 ≤ k + 4 ∧ q.1 = H.size + (k + 4 - M.1)) := by
      intro k q hk
      obtain ⟨k1, rfl⟩ := am_w_of hk
      by_cases ho : k + 4 < M.1
      · left
        have a1 := am_w_at (tC := tC) (ad := ad) (M := M) (c := k + 4) (by omega) (by omega)
        rw [show k + 4 - 4 = k by omega] at a1
        refine ⟨ho, by rw [hag' _ ho, am_mM_old hwf ho]; exact a1, by show am_mad M.1 H.size ad (k + 4) < _; rw [hag' _ ho]; exact hold k (by omega)⟩
      · right
        refine ⟨by omega, ?_⟩
        show am_mad M.1 H.size ad (k + 4) = _
        unfold am_mad
        rw [if_neg ho]
    refine ⟨fun i j p q hi hj hpq => ?_, fun k q hk => ?_⟩
    · rcases key i p hi with ⟨i1, i2, i3⟩ | ⟨i1, i2⟩ <;> rcases key j q hj with ⟨j1, j2, j3⟩ | ⟨j1, j2⟩
      · exact hD.1 i j p q i2 j2 hpq
      · omega
      · omega
      · omega
    · rcases key k q hk with ⟨i1, i2, i3⟩ | ⟨i1, i2⟩
      · exact hD.2 k q i2
      · rw [i2]
        exact hA _ (Nat.le_trans hS.1 (by omega))
  have hr := h (am_mad M.1 H.size ad) H1 locs (cells + 8) (slots + 56) ls ⟨hP1, hD1, ⟨Nat.le_trans hS.1 (by omega), fun y y1 y2 => (z3 y (Nat.lt_of_lt_of_le y1 hS.1)).trans (hS.2.1 y y1 y2), hS.2.2⟩, ⟨fun c hc => by rw [(am_mM_lt (M := M) (show c < M.1 by omega)).1]; exact hwf.1 c hc, fun c hc => by
      by_cases ho : c < M.1
      · rw [(am_mM_lt (M := M) ho).1]; exact hwf.2.1 c hc
      · show (if c = M.1 then (5, 7) else if M.1 < c ∧ c < M.1 + 8 then (0, 7) else M.2.1 c).1 ≠ 1
        split
        · exact fun q => by cases q
        · split
          · exact fun q => by cases q
          · exact hwf.2.1 c hc, by show 4 ≤ M.1 + 8; omega, fun c i w hcw => by
      show w < M.1 + 8
      by_cases e : c = M.1
      · subst e
        replace hcw : am_ur M.2.2.2.2 M.1 (fun i => if i < 7 then some (M.1 + 1 + i) else none) M.1 i = some w := hcw
        rw [am_ur_at] at hcw
        split at hcw
        · cases hcw; omega
        · cases hcw
      · replace hcw : am_ur M.2.2.2.2 M.1 (fun i => if i < 7 then some (M.1 + 1 + i) else none) c i = some w := hcw
        rw [am_ur_ne e] at hcw
        have := hwf.2.2.2 c i w hcw
        omega⟩, fun c hc => (hag' c (by omega)).trans (hag c hc), by show M0.1 ≤ M.1 + 8; omega, fun c hc => ⟨by rw [(am_mM_lt (M := M) (show c < M.1 by omega)).1]; exact (hro c hc).1, by rw [(am_mM_lt (M := M) (show c < M.1 by omega)).2.1]; exact (hro c hc).2⟩⟩ (am_fr_up (by show M.1 ≤ M.1 + 8; omega) hag' hf) ⟨by show M.1 < M.1 + 8; omega, am_oks_up (by show M.1 ≤ M.1 + 8; omega) hs.2.2⟩ (by show cells + 8 + (bc - 8) ≤ R.cells; omega) (by show slots + 56 + (bs - 56) ≤ R.slots; omega)
  have hst : (Value.ref M.1 :: rest).map (am_cv (am_mad M.1 H.size ad)) = .ref H.size :: rest.map (am_cv ad) := by
    rw [List.map_cons, am_cvs_agree hag' hs.2.2]
    show Value.ref (am_mad M.1 H.size ad M.1) :: _ = _
    rw [show am_mad M.1 H.size ad M.1 = H.size from hnew 0]
  replace hr : W p l e R s m args below meth c H1 locs (cells + 8) (slots + 56) Qf (F0 m (pc + 4) ls ((Value.ref M.1 :: rest).map (am_cv (am_mad M.1 H.size ad)))) := hr
  rw [hst] at hr
  exact hr
end AMSM
