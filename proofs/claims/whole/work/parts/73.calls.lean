section AMJ
variable {p : Program} {l : Launch} {e : Env} {R : Room} {s : State} {m : MethodId} {args : Array Value} {below : List Frame} {meth : Method} {c : Code} {Qf : State → Prop}
variable {D : va_G} {tC : Nat → ClassId} {A : Nat → Prop} {ad0 : Nat → Nat} {M0 : am_M} {nL : Nat} {own : String} {cc : ByteArray} {ret : Option FieldType} {nest : List Cond}
variable {pc nx a b i : Nat} {L st : List Value} {bc bs : Nat} {M : am_M}
theorem am_put_fs {ad : Nat → Nat} {r k j : Nat} {M' : am_M} {v : Value} (hj : j < am_nf k) (h1 : am_fv ad M' r k j = v) (h2 : ∀ i, i ≠ j → am_fv ad M' r k i = am_fv ad M r k i) : (List.range (am_nf k)).map (am_fv ad M' r k) = ((List.range (am_nf k)).map (am_fv ad M r k)).set j v := by
  apply List.ext_getElem?
  intro i
  by_cases hi : i < am_nf k
  · rw [am_fs_at hi]
    by_cases e : i = j
    · subst e
      rw [List.getElem?_set_self (by simpa using hi), h1]
    · rw [List.getElem?_set_ne (Ne.symm e), am_fs_at hi, h2 i e]
  · rw [List.getElem?_eq_none (by simpa using hi), List.getElem?_eq_none (by simpa using hi)]
/-- a field is set: the world behind it -/
theorem am_s_putv (C : am_Ctx p s m args c D tC A ad0 M0 nL own cc nest) (hd : decode cc pc = .ok (.putfield i, 3)) {z : Int} (hz : z = 0) (hx : am_okx own ret pc (.putfield i, pc + 3, a, b, z)) {r : Nat} {v : Value} {rest : List Value} {M' : am_M} (hk : (M.2.1 r).1 = 6 + a)
    (hn : M'.1 = M.1) (hsh : M'.2.1 = M.2.1) (h1 : ∀ c, c ≠ r → M'.2.2.1 c = M.2.2.1 c) (h2 : ∀ c, c ≠ r → M'.2.2.2.1 c = M.2.2.2.1 c) (h3 : ∀ c, c ≠ r → M'.2.2.2.2 c = M.2.2.2.2 c) (hq : am_wf M → am_ok M.1 v → ∀ c i q, M'.2.2.2.2 c i = some q → q < M.1)
    (hnar : ∀ ad, narrow (am_ty a b) (am_cv ad v) = am_cv ad v) (hfit : ∀ ad, fits (am_ty a b) (am_cv ad v) = true) (hv : ∀ ad, am_fv ad M' r a b = am_cv ad v) (ho : ∀ ad i, i ≠ b → am_fv ad M' r a i = am_fv ad M r a i)
    (h : am_P p l e R s m args below meth c Qf D tC A ad0 M0 nL (pc + 3, L, rest, bc, bs) M') : am_P p l e R s m args below meth c Qf D tC A ad0 M0 nL (pc, L, v :: .ref r :: rest, bc, bs) M := by
  obtain ⟨hx1, hb, hml, hown, hts, hK, hN, hT, hZ, hA, h4, hX⟩ := C
  obtain ⟨r', hc, hbN, hfin, hlink⟩ := hx hz
  have ha : a < 11 := (List.getElem?_eq_some_iff.mp hc).1
  obtain ⟨Cn, T, hc', hin, hty, hnm⟩ := am_cls a ha
  cases hc.symm.trans hc'
  intro ad H locs cells slots ls hw hf hs hcl hsl
  obtain ⟨hP, hD, hS, hwf, hag, hn0, hro⟩ := id hw
  have hr4 : 4 ≤ r := am_ge4 hwf hk (by omega)
  have hrn : r < M.1 := hs.2.1
  have he : (am_w tC ad M)[r - 4]? = some (ad r, .inr (a, (List.range (am_nf a)).map (am_fv ad M r a))) := by rw [am_w_at hr4 hrn, am_cell_ob hk]
  refine va_put hx1 hb hts hin (am_ty a) hty hnm hown hK hP hD hS (r - 4) he hc b hbN (hts _ hlink) (fun _ q => q) hfin (hty b hbN) (hnar ad) (hfit ad) (by simpa using hbN) hd (fun H1 locs1 hP1 hD1 hS1 => ?_)
  refine h ad H1 locs1 cells slots ls (am_Wn_set hn hsh hr4 hrn h1 h2 h3 (hq hwf hs.1) ?_ hw hP1 hD1 hS1) (by rw [hn]; exact hf) (by rw [hn]; exact hs.2.2) hcl hsl
  rw [am_cell_ob (by rw [hsh]; exact hk), am_put_fs hbN (hv ad) (ho ad)]
/-- the three kinds of fields, by what sets one of them -/
theorem am_s_putb {z : Int} (hput : ∀ (r : Nat) (v : Value) (rest : List Value) (M' : am_M), (M.2.1 r).1 = 6 + a → M'.1 = M.1 → M'.2.1 = M.2.1 → (∀ c, c ≠ r → M'.2.2.1 c = M.2.2.1 c) → (∀ c, c ≠ r → M'.2.2.2.1 c = M.2.2.2.1 c) → (∀ c, c ≠ r → M'.2.2.2.2 c = M.2.2.2.2 c) → (am_wf M → am_ok M.1 v → ∀ c i q, M'.2.2.2.2 c i = some q → q < M.1) → (∀ ad, narrow (am_ty a b) (am_cv ad v) = am_cv ad v) → (∀ ad, fits (am_ty a b) (am_cv ad v) = true) → (∀ ad, am_fv ad M' r a b = am_cv ad v) → (∀ ad i, i ≠ b → am_fv ad M' r a i = am_fv ad M r a i) → am_P p l e R s m args below meth c Qf D tC A ad0 M0 nL (pc + 3, L, rest, bc, bs) M' → am_P p l e R s m args below meth c Qf D tC A ad0 M0 nL (pc, L, v :: .ref r :: rest, bc, bs) M) {call : am_C} {Q : am_Q}
    (h : am_ex call Q (am_P p l e R s m args below meth c Qf D tC A ad0 M0 nL) (.putfield i, pc + 3, a, b, z) (pc, L, st, bc, bs) M) : am_P p l e R s m args below meth c Qf D tC A ad0 M0 nL (pc, L, st, bc, bs) M := by
  have key : ∀ t, am_ty a b = t → am_P p l e R s m args below meth c Qf D tC A ad0 M0 nL (pc, L, st, bc, bs) M := by
    intro t ht
    have h : (match am_fk (am_ty a b) with
      | 0 => am_i st fun x st => am_r st fun r rest => am_on (am_ob M r (6 + a)) ((am_P p l e R s m args below meth c Qf D tC A ad0 M0 nL) (pc + 3, L, rest, bc, bs) (M.1, M.2.1, am_u M.2.2.1 r b x, M.2.2.2.1, M.2.2.2.2))
      | 1 => am_i st fun x st => am_r st fun r rest => am_on (am_ob M r (6 + a)) ((x = 0 ∨ x = 1) ∧ (am_P p l e R s m args below meth c Qf D tC A ad0 M0 nL) (pc + 3, L, rest, bc, bs) (M.1, M.2.1, am_u M.2.2.1 r b x, M.2.2.2.1, M.2.2.2.2))
      | 2 => am_r st fun q st => am_r st fun r rest => am_on (am_ob M r (6 + a)) ((am_P p l e R s m args below meth c Qf D tC A ad0 M0 nL) (pc + 3, L, rest, bc, bs) (M.1, M.2.1, M.2.2.1, M.2.2.2.1, am_u M.2.2.2.2 r b (some q)))
      | _ => False) := h
    have fvi : ∀ (x : Int32) (r : Nat) (ad : Nat → Nat) (j : Nat), j ≠ b → am_fv ad (M.1, M.2.1, am_u M.2.2.1 r b x, M.2.2.2.1, M.2.2.2.2) r a j = am_fv ad M r a j := by
      intro x r ad j hj
      unfold am_fv
      split
      · rfl
      · show Value.int (am_u M.2.2.1 r b x r j) = _
        rw [am_u_at, if_neg hj]
    have fvr : ∀ (q : Nat) (r : Nat) (ad : Nat → Nat) (j : Nat), j ≠ b → am_fv ad (M.1, M.2.1, M.2.2.1, M.2.2.2.1, am_u M.2.2.2.2 r b (some q)) r a j = am_fv ad M r a j := by
      intro q r ad j hj
      unfold am_fv
      split
      · show va_rf ((am_u M.2.2.2.2 r b (some q) r j).map ad) = _
        rw [am_u_at, if_neg hj]
      · rfl
    cases t with
    | int =>
      rw [ht] at h
      obtain ⟨x, st, rfl, h⟩ := am_i_at h
      obtain ⟨r, rest, rfl, h⟩ := am_r_at h
      obtain ⟨ho, h⟩ := am_on_at h
      refine hput r (.int x) rest (M.1, M.2.1, am_u M.2.2.1 r b x, M.2.2.2.1, M.2.2.2.2) (am_ob_at ho) rfl rfl (fun c hc => am_u_ne hc) (fun _ _ => rfl) (fun _ _ => rfl) (fun w _ => w.2.2.2) (fun ad => by rw [ht]; rfl) (fun ad => by rw [ht]; rfl) (fun ad => ?_) (fun ad j hj => fvi x r ad j hj) h
      unfold am_fv
      rw [ht]
      show Value.int (am_u M.2.2.1 r b x r b) = _
      rw [am_u_at, if_pos rfl]
      rfl
    | boolean =>
      rw [ht] at h
      obtain ⟨x, st, rfl, h⟩ := am_i_at h
      obtain ⟨r, rest, rfl, h⟩ := am_r_at h
      obtain ⟨ho, h01, h⟩ := am_on_at h
      refine hput r (.int x) rest (M.1, M.2.1, am_u M.2.2.1 r b x, M.2.2.2.1, M.2.2.2.2) (am_ob_at ho) rfl rfl (fun c hc => am_u_ne hc) (fun _ _ => rfl) (fun _ _ => rfl) (fun w _ => w.2.2.2) (fun ad => by rw [ht]; rcases h01 with rfl | rfl <;> rfl) (fun ad => by rw [ht]; rcases h01 with rfl | rfl <;> rfl) (fun ad => ?_) (fun ad j hj => fvi x r ad j hj) h
      unfold am_fv
      rw [ht]
      show Value.int (am_u M.2.2.1 r b x r b) = _
      rw [am_u_at, if_pos rfl]
      rfl
    | object t =>
      rw [ht] at h
      obtain ⟨q, st2, hst, h2⟩ := am_r_at h
      clear h
      subst hst
      obtain ⟨r, rest, hst, h3⟩ := am_r_at h2
      clear h2
      subst hst
      obtain ⟨ho, h⟩ := am_on_at h3
      refine hput r (.ref q) rest (M.1, M.2.1, M.2.2.1, M.2.2.2.1, am_u M.2.2.2.2 r b (some q)) (am_ob_at ho) rfl rfl (fun _ _ => rfl) (fun _ _ => rfl) (fun c hc => am_u_ne hc) (fun w k c j q' hcq => ?_) (fun ad => by rw [ht]; rfl) (fun ad => by rw [ht]; rfl) (fun ad => ?_) (fun ad j hj => fvr q r ad j hj) h
      · by_cases e1 : c = r
        · subst e1
          replace hcq : am_u M.2.2.2.2 c b (some q) c j = some q' := hcq
          rw [am_u_at] at hcq
          split at hcq
          · cases hcq; exact k
          · exact w.2.2.2 c j q' hcq
        · replace hcq : am_u M.2.2.2.2 r b (some q) c j = some q' := hcq
          rw [am_u_ne e1] at hcq
          exact w.2.2.2 c j q' hcq
      · unfold am_fv
        rw [ht]
        show va_rf ((am_u M.2.2.2.2 r b (some q) r b).map ad) = _
        rw [am_u_at, if_pos rfl]
        rfl
    | array t =>
      rw [ht] at h
      obtain ⟨q, st2, hst, h2⟩ := am_r_at h
      clear h
      subst hst
      obtain ⟨r, rest, hst, h3⟩ := am_r_at h2
      clear h2
      subst hst
      obtain ⟨ho, h⟩ := am_on_at h3
      refine hput r (.ref q) rest (M.1, M.2.1, M.2.2.1, M.2.2.2.1, am_u M.2.2.2.2 r b (some q)) (am_ob_at ho) rfl rfl (fun _ _ => rfl) (fun _ _ => rfl) (fun c hc => am_u_ne hc) (fun w k c j q' hcq => ?_) (fun ad => by rw [ht]; rfl) (fun ad => by rw [ht]; rfl) (fun ad => ?_) (fun ad j hj => fvr q r ad j hj) h
      · by_cases e1 : c = r
        · subst e1
          replace hcq : am_u M.2.2.2.2 c b (some q) c j = some q' := hcq
          rw [am_u_at] at hcq
          split at hcq
          · cases hcq; exact k
          · exact w.2.2.2 c j q' hcq
        · replace hcq : am_u M.2.2.2.2 r b (some q) c j = some q' := hcq
          rw [am_u_ne e1] at hcq
          exact w.2.2.2 c j q' hcq
      · unfold am_fv
        rw [ht]
        show va_rf ((am_u M.2.2.2.2 r b (some q) r b).map ad) = _
        rw [am_u_at, if_pos rfl]
        rfl
    | _ =>
      rw [ht] at h
      exact h.elim
  exact key _ rfl
theorem am_s_put (C : am_Ctx p s m args c D tC A ad0 M0 nL own cc nest) (hd : decode cc pc = .ok (.putfield i, 3)) {z : Int} (hz : z = 0) (hx : am_okx own ret pc (.putfield i, pc + 3, a, b, z)) {call : am_C} {Q : am_Q}
    (h : am_ex call Q (am_P p l e R s m args below meth c Qf D tC A ad0 M0 nL) (.putfield i, pc + 3, a, b, z) (pc, L, st, bc, bs) M) : am_P p l e R s m args below meth c Qf D tC A ad0 M0 nL (pc, L, st, bc, bs) M :=
  am_s_putb (i := i) (z := z) (fun _ _ _ _ hk hn hsh h1 h2 h3 hq hnar hfit hv ho h => am_s_putv C hd hz hx hk hn hsh h1 h2 h3 hq hnar hfit hv ho h) h
/-- a new int array -/
theorem am_s_newa (C : am_Ctx p s m args c D tC A ad0 M0 nL own cc nest) (hd : decode cc pc = .ok (.newarray .int, 2)) {z : Int} (hx : am_okx own ret pc (.newarray .int, pc + 2, a, b, z)) {call : am_C} {Q : am_Q}
    (h : am_ex call Q (am_P p l e R s m args below meth c Qf D tC A ad0 M0 nL) (.newarray .int, pc + 2, a, b, z) (pc, L, st, bc, bs) M) : am_P p l e R s m args below meth c Qf D tC A ad0 M0 nL (pc, L, st, bc, bs) M := by
  obtain ⟨hx1, hb, hml, hown, hts, hK, hN, hT, hZ, hA, h4, hX⟩ := C
  obtain ⟨x, rest, rfl, hbc, hx0, hbs, hbig, h⟩ := am_i_at h
  intro ad H locs cells slots ls hw hf hs hcl hsl
  obtain ⟨hP, hD, hS, hwf, hag, hn0, hro⟩ := id hw
  replace hcl : cells + bc ≤ R.cells := hcl
  replace hsl : slots + bs ≤ R.slots := hsl
  refine va_newa (ty := .int) (N' := x.toNatClampNeg) (a0 := (x.toNatClampNeg, .inl (fun _ => 0))) (atype := .int) hx1 hb (hts (.arrayClass .int) hx) rfl hK hP hD hS hA (fun _ => rfl) hx0 rfl (by show x.toNatClampNeg * 4 ≤ 536870912; omega) (by omega) (by omega) hd (fun q cA H1 hK1 hP1 hD1 hS1 => ?_)
  have hcA : cA = tC 0 := by
    have a1 : s.vm.findClass ("[" ++ FieldType.int.toString) = some cA := (hK1.2 5 (cA, .int) rfl).2
    have a2 : s.vm.findClass ("[" ++ FieldType.int.toString) = some (tC 0) := (hK.2 0 (tC 0, .int) rfl).2
    exact Option.some.inj (a1.symm.trans a2)
  subst hcA
  have h4n : 4 ≤ M.1 := hwf.2.2.1
  have hag' : ∀ c, c < M.1 → (fun c => if c = M.1 then q else ad c) c = ad c := fun c hc => if_neg (Nat.ne_of_lt hc)
  have heq : am_w tC ad M ++ [(q, .inl (tC 0, x.toNatClampNeg, .inl (fun _ => 0)))] = am_w tC (fun c => if c = M.1 then q else ad c) (M.1 + 1, (fun c => if c = M.1 then (0, x.toNatClampNeg) else M.2.1 c), am_ur M.2.2.1 M.1 (fun _ => 0), M.2.2.2.1, M.2.2.2.2) := by
    apply List.ext_getElem?
    intro i
    have hlen : (am_w tC ad M).length = M.1 - 4 := by unfold am_w; simp
    by_cases hi : i < M.1 - 4
    · rw [List.getElem?_append_left (by rw [hlen]; exact hi)]
      have a1 := am_w_at (tC := tC) (ad := ad) (M := M) (c := i + 4) (by omega) (by omega)
      have a2 := am_w_at (tC := tC) (ad := fun c => if c = M.1 then q else ad c) (M := (M.1 + 1, (fun c => if c = M.1 then (0, x.toNatClampNeg) else M.2.1 c), am_ur M.2.2.1 M.1 (fun _ => 0), M.2.2.2.1, M.2.2.2.2)) (c := i + 4) (by omega) (by show i + 4 < M.1 + 1; omega)
      rw [show i + 4 - 4 = i by omega] at a1 a2
      have hne : i + 4 ≠ M.1 := by omega
      rw [a1, a2, if_neg hne]
      congr 2
      refine (am_cell_eq (M := M) (M' := (M.1 + 1, (fun c => if c = M.1 then (0, x.toNatClampNeg) else M.2.1 c), am_ur M.2.2.1 M.1 (fun _ => 0), M.2.2.2.1, M.2.2.2.2)) (if_neg hne) (am_ur_ne hne) rfl (fun j => ?_)).symm
      cases hq : M.2.2.2.2 (i + 4) j with
      | none => rfl
      | some w =>
        exact congrArg some (hag' w (hwf.2.2.2 _ _ w hq))
    · by_cases hi2 : i = M.1 - 4
      · subst hi2
        rw [List.getElem?_append_right (by rw [hlen]; exact Nat.le_refl _), hlen, Nat.sub_self]
        have a2 := am_w_at (tC := tC) (ad := fun c => if c = M.1 then q else ad c) (M := (M.1 + 1, (fun c => if c = M.1 then (0, x.toNatClampNeg) else M.2.1 c), am_ur M.2.2.1 M.1 (fun _ => 0), M.2.2.2.1, M.2.2.2.2)) (c := M.1) h4n (by show M.1 < M.1 + 1; omega)
        rw [a2, am_cell_0 (by show (if M.1 = M.1 then (0, x.toNatClampNeg) else M.2.1 M.1).1 = 0; rw [if_pos rfl])]
        show some _ = some (if M.1 = M.1 then q else ad M.1, Sum.inl (tC 0, (if M.1 = M.1 then (0, x.toNatClampNeg) else M.2.1 M.1).2, Sum.inl (am_ur M.2.2.1 M.1 (fun _ => 0) M.1)))
        rw [if_pos rfl, if_pos rfl, am_ur_at]
      · rw [List.getElem?_eq_none (by rw [List.length_append, hlen]; simp; omega), List.getElem?_eq_none (by unfold am_w; simp; omega)]
  rw [heq] at hP1 hD1
  have hr := h (fun c => if c = M.1 then q else ad c) H1 locs (cells + 1) (slots + x.toNatClampNeg) ls ⟨hP1, hD1, hS1, ⟨fun c hc => by show (if c = M.1 then (0, x.toNatClampNeg) else M.2.1 c).1 = 1; rw [if_neg (by omega)]; exact hwf.1 c hc, fun c hc => by
      show (if c = M.1 then (0, x.toNatClampNeg) else M.2.1 c).1 ≠ 1
      split
      · exact fun q => by cases q
      · exact hwf.2.1 c hc, by show 4 ≤ M.1 + 1; omega, fun c i w hcw => Nat.lt_succ_of_lt (hwf.2.2.2 c i w hcw)⟩, fun c hc => (hag' c (by omega)).trans (hag c hc), by show M0.1 ≤ M.1 + 1; omega, fun c hc => ⟨by show (if c = M.1 then (0, x.toNatClampNeg) else M.2.1 c) = _; rw [if_neg (by omega)]; exact (hro c hc).1, by show am_ur M.2.2.1 M.1 (fun _ => 0) c = _; rw [am_ur_ne (by omega)]; exact (hro c hc).2⟩⟩ (am_fr_up (Nat.le_succ _) hag' hf) ⟨Nat.lt_succ_self _, am_oks_up (Nat.le_succ _) hs.2⟩ (by show cells + 1 + (bc - 1) ≤ R.cells; omega) (by show slots + x.toNatClampNeg + (bs - x.toNatClampNeg) ≤ R.slots; omega)
  have hst : (Value.ref M.1 :: rest).map (am_cv (fun c => if c = M.1 then q else ad c)) = .ref q :: rest.map (am_cv ad) := by
    rw [List.map_cons, am_cvs_agree hag' hs.2]
    show Value.ref (if M.1 = M.1 then q else ad M.1) :: _ = _
    rw [if_pos rfl]
  replace hr : W p l e R s m args below meth c H1 locs (cells + 1) (slots + x.toNatClampNeg) Qf (F0 m (pc + 2) ls ((Value.ref M.1 :: rest).map (am_cv (fun c => if c = M.1 then q else ad c)))) := hr
  rw [hst] at hr
  exact hr
end AMJ
