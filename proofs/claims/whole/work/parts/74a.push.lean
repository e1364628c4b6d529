/-! what is made: a cell more -/
section AMK
variable {p : Program} {l : Launch} {e : Env} {R : Room} {s : State} {m : MethodId} {args : Array Value} {below : List Frame} {meth : Method} {c : Code} {Qf : State → Prop}
variable {D : va_G} {tC : Nat → ClassId} {A : Nat → Prop} {ad0 : Nat → Nat} {M0 : am_M} {nL : Nat} {own : String} {cc : ByteArray} {ret : Option FieldType} {nest : List Cond}
variable {pc nx a b i : Nat} {L st : List Value} {bc bs : Nat} {M : am_M}
theorem am_push {ad : Nat → Nat} {H : Heap} {locs : List Loc} {ls : Array Slot} {rest : List Value} (hw : am_Wn s D tC A ad0 M0 ad M H locs) (hf : am_fr ad M.1 nL L ls) (hs : am_oks M.1 rest) {M' : am_M} {E : va_E} {q cells slots : Nat} {H1 : Heap} {locs1 : List Loc}
    (hn : M'.1 = M.1 + 1) (hsh : ∀ c, c ≠ M.1 → M'.2.1 c = M.2.1 c) (h1 : ∀ c, c ≠ M.1 → M'.2.2.1 c = M.2.2.1 c) (h2 : ∀ c, c ≠ M.1 → M'.2.2.2.1 c = M.2.2.2.1 c) (h3 : ∀ c, c ≠ M.1 → M'.2.2.2.2 c = M.2.2.2.2 c) (hk : (M'.2.1 M.1).1 ≠ 1) (hq : ∀ i w, M'.2.2.2.2 M.1 i = some w → w < M.1 + 1)
    (hE : am_cell tC (fun c => if c = M.1 then q else ad c) M' M.1 = E) (hP1 : va_P D am_cl (am_w tC ad M ++ [(q, E)]) H1) (hD1 : va_D A (am_w tC ad M ++ [(q, E)])) (hS1 : va_S A s.heap H1 locs1)
    (h : am_P p l e R s m args below meth c Qf D tC A ad0 M0 nL (nx, L, .ref M.1 :: rest, bc, bs) M') (hc : cells + bc ≤ R.cells) (hsl : slots + bs ≤ R.slots) : W p l e R s m args below meth c H1 locs1 cells slots Qf (F0 m nx ls (.ref q :: rest.map (am_cv ad))) := by
  obtain ⟨hP, hD, hS, hwf, hag, hn0, hro⟩ := hw
  have h4n : 4 ≤ M.1 := hwf.2.2.1
  have hag' : ∀ c, c < M.1 → (fun c => if c = M.1 then q else ad c) c = ad c := fun c hc => if_neg (Nat.ne_of_lt hc)
  have heq : am_w tC ad M ++ [(q, E)] = am_w tC (fun c => if c = M.1 then q else ad c) M' := by
    apply List.ext_getElem?
    intro i
    have hlen : (am_w tC ad M).length = M.1 - 4 := by unfold am_w; simp
    by_cases hi : i < M.1 - 4
    · rw [List.getElem?_append_left (by rw [hlen]; exact hi)]
      have a1 := am_w_at (tC := tC) (ad := ad) (M := M) (c := i + 4) (by omega) (by omega)
      have a2 := am_w_at (tC := tC) (ad := fun c => if c = M.1 then q else ad c) (M := M') (c := i + 4) (by omega) (by omega)
      rw [show i + 4 - 4 = i by omega] at a1 a2
      have hne : i + 4 ≠ M.1 := by omega
      rw [a1, a2, if_neg hne]
      congr 2
      refine (am_cell_eq (M := M) (M' := M') (hsh _ hne) (h1 _ hne) (h2 _ hne) (fun j => ?_)).symm
      rw [h3 _ hne]
      cases hq : M.2.2.2.2 (i + 4) j with
      | none => rfl
      | some w =>
        exact congrArg some (hag' w (hwf.2.2.2 _ _ w hq))
    · by_cases hi2 : i = M.1 - 4
      · subst hi2
        rw [List.getElem?_append_right (by rw [hlen]; exact Nat.le_refl _), hlen, Nat.sub_self]
        have a2 := am_w_at (tC := tC) (ad := fun c => if c = M.1 then q else ad c) (M := M') (c := M.1) h4n (by omega)
        rw [a2, hE, if_pos rfl]
        rfl
      · rw [List.getElem?_eq_none (by rw [List.length_append, hlen]; simp; omega), List.getElem?_eq_none (by unfold am_w; simp; omega)]
  rw [heq] at hP1 hD1
  have hr := h (fun c => if c = M.1 then q else ad c) H1 locs1 cells slots ls ⟨hP1, hD1, hS1, ⟨fun c hc => by rw [hsh c (by omega)]; exact hwf.1 c hc, fun c hc => by
      by_cases e : c = M.1
      · rw [e]; exact hk
      · rw [hsh c e]; exact hwf.2.1 c hc, by omega, fun c i w hcw => by
      by_cases e : c = M.1
      · rw [hn]; rw [e] at hcw; exact hq i w hcw
      · rw [h3 c e] at hcw
        have := hwf.2.2.2 c i w hcw
        omega⟩, fun c hc => (hag' c (by omega)).trans (hag c hc), by omega, fun c hc => ⟨by rw [hsh c (by omega)]; exact (hro c hc).1, by rw [h1 c (by omega)]; exact (hro c hc).2⟩⟩ (by rw [hn]; exact am_fr_up (Nat.le_succ _) hag' hf) (by rw [hn]; exact ⟨Nat.lt_succ_self _, am_oks_up (Nat.le_succ _) hs⟩) hc hsl
  have hst : (Value.ref M.1 :: rest).map (am_cv (fun c => if c = M.1 then q else ad c)) = .ref q :: rest.map (am_cv ad) := by
    rw [List.map_cons, am_cvs_agree hag' hs]
    show Value.ref (if M.1 = M.1 then q else ad M.1) :: _ = _
    rw [if_pos rfl]
  replace hr : W p l e R s m args below meth c H1 locs1 cells slots Qf (F0 m nx ls ((Value.ref M.1 :: rest).map (am_cv (fun c => if c = M.1 then q else ad c)))) := hr
  rw [hst] at hr
  exact hr
theorem am_s_newz (C : am_Ctx p s m args c D tC A ad0 M0 nL own cc nest) (hd : decode cc pc = .ok (.newarray .boolean, 2)) {z : Int} (hx : Cond.arrayClass .boolean ∈ am_tb) {call : am_C} {Q : am_Q}
    (h : am_ex call Q (am_P p l e R s m args below meth c Qf D tC A ad0 M0 nL) (.newarray .boolean, pc + 2, a, b, z) (pc, L, st, bc, bs) M) : am_P p l e R s m args below meth c Qf D tC A ad0 M0 nL (pc, L, st, bc, bs) M := by
  obtain ⟨hx1, hb, hml, hown, hts, hK, hN, hT, hZ, hA, h4, hX⟩ := C
  obtain ⟨x, rest, rfl, hbc, hx0, hbs, hbig, h⟩ := am_i_at h
  intro ad H locs cells slots ls hw hf hs hcl hsl
  obtain ⟨hP, hD, hS, hwf, hag, hn0, hro⟩ := id hw
  replace hcl : cells + bc ≤ R.cells := hcl
  replace hsl : slots + bs ≤ R.slots := hsl
  refine va_newa (ty := .boolean) (N' := x.toNatClampNeg) (a0 := (x.toNatClampNeg, .inl (fun _ => 0))) (atype := .boolean) hx1 hb (hts (.arrayClass .boolean) hx) rfl hK hP hD hS hA (fun _ => rfl) hx0 rfl (by show x.toNatClampNeg * 1 ≤ 536870912; omega) (by omega) (by omega) hd (fun q cA H1 hK1 hP1 hD1 hS1 => ?_)
  have hcA : cA = tC 1 := by
    have a1 : s.vm.findClass ("[" ++ FieldType.boolean.toString) = some cA := (hK1.2 5 (cA, .boolean) rfl).2
    have a2 : s.vm.findClass ("[" ++ FieldType.boolean.toString) = some (tC 1) := (hK.2 1 (tC 1, .boolean) rfl).2
    exact Option.some.inj (a1.symm.trans a2)
  subst hcA
  refine am_push hw hf hs.2 (M' := (M.1 + 1, (fun c => if c = M.1 then (2, x.toNatClampNeg) else M.2.1 c), am_ur M.2.2.1 M.1 (fun _ => 0), M.2.2.2.1, M.2.2.2.2)) rfl (fun c e => if_neg e) (fun c e => am_ur_ne e) (fun _ _ => rfl) (fun _ _ => rfl) (by show (if M.1 = M.1 then (2, x.toNatClampNeg) else M.2.1 M.1).1 ≠ 1; rw [if_pos rfl]; exact (fun q => by cases q)) (fun j w hj => Nat.lt_succ_of_lt (hwf.2.2.2 _ j w hj)) ?_ hP1 hD1 hS1 h (by omega) (by omega)
  rw [am_cell_2 (by show (if M.1 = M.1 then (2, x.toNatClampNeg) else M.2.1 M.1).1 = 2; rw [if_pos rfl])]
  show Sum.inl (tC 1, (if M.1 = M.1 then (2, x.toNatClampNeg) else M.2.1 M.1).2, Sum.inl (am_ur M.2.2.1 M.1 (fun _ => 0) M.1)) = _
  rw [if_pos rfl, am_ur_at]
theorem am_s_newl (C : am_Ctx p s m args c D tC A ad0 M0 nL own cc nest) (hd : decode cc pc = .ok (.newarray .long, 2)) {z : Int} (hx : Cond.arrayClass .long ∈ am_tb) {call : am_C} {Q : am_Q}
    (h : am_ex call Q (am_P p l e R s m args below meth c Qf D tC A ad0 M0 nL) (.newarray .long, pc + 2, a, b, z) (pc, L, st, bc, bs) M) : am_P p l e R s m args below meth c Qf D tC A ad0 M0 nL (pc, L, st, bc, bs) M := by
  obtain ⟨hx1, hb, hml, hown, hts, hK, hN, hT, hZ, hA, h4, hX⟩ := C
  obtain ⟨x, rest, rfl, hbc, hx0, hbs, hbig, h⟩ := am_i_at h
  intro ad H locs cells slots ls hw hf hs hcl hsl
  obtain ⟨hP, hD, hS, hwf, hag, hn0, hro⟩ := id hw
  replace hcl : cells + bc ≤ R.cells := hcl
  replace hsl : slots + bs ≤ R.slots := hsl
  refine va_newa (ty := .long) (N' := x.toNatClampNeg) (a0 := (x.toNatClampNeg, .inr (.inl (fun _ => 0)))) (atype := .long) hx1 hb (hts (.arrayClass .long) hx) rfl hK hP hD hS hA (fun _ => rfl) hx0 rfl (by show x.toNatClampNeg * 8 ≤ 536870912; omega) (by omega) (by omega) hd (fun q cA H1 hK1 hP1 hD1 hS1 => ?_)
  have hcA : cA = tC 2 := by
    have a1 : s.vm.findClass ("[" ++ FieldType.long.toString) = some cA := (hK1.2 5 (cA, .long) rfl).2
    have a2 : s.vm.findClass ("[" ++ FieldType.long.toString) = some (tC 2) := (hK.2 2 (tC 2, .long) rfl).2
    exact Option.some.inj (a1.symm.trans a2)
  subst hcA
  refine am_push hw hf hs.2 (M' := (M.1 + 1, (fun c => if c = M.1 then (3, x.toNatClampNeg) else M.2.1 c), M.2.2.1, am_ur M.2.2.2.1 M.1 (fun _ => 0), M.2.2.2.2)) rfl (fun c e => if_neg e) (fun _ _ => rfl) (fun c e => am_ur_ne e) (fun _ _ => rfl) (by show (if M.1 = M.1 then (3, x.toNatClampNeg) else M.2.1 M.1).1 ≠ 1; rw [if_pos rfl]; exact (fun q => by cases q)) (fun j w hj => Nat.lt_succ_of_lt (hwf.2.2.2 _ j w hj)) ?_ hP1 hD1 hS1 h (by omega) (by omega)
  rw [am_cell_3 (by show (if M.1 = M.1 then (3, x.toNatClampNeg) else M.2.1 M.1).1 = 3; rw [if_pos rfl])]
  show Sum.inl (tC 2, (if M.1 = M.1 then (3, x.toNatClampNeg) else M.2.1 M.1).2, Sum.inr (Sum.inl (am_ur M.2.2.2.1 M.1 (fun _ => 0) M.1))) = _
  rw [if_pos rfl, am_ur_at]
theorem am_ty_ok : ∀ ci, ci < 11 → ∀ j, j < am_nf ci → am_fk (am_ty ci j) ≠ 3 := by decide
theorem am_dfl {t : FieldType} (h : am_fk t ≠ 3) : defaultValue t = match am_fk t with
    | 2 => .null
    | _ => .int 0 := by
  cases t <;> first | rfl | exact absurd rfl h
theorem am_s_new (C : am_Ctx p s m args c D tC A ad0 M0 nL own cc nest) (hd : decode cc pc = .ok (.new i, 3)) {z : Int} (ha : a < 11) (hbn : b = am_nf a) (hx : ∀ Cn T N, am_cl[a]? = some (Cn, T, N) → Cond.classLink own i Cn ∈ am_tb ∧ Cond.instantiable Cn N ∈ am_tb ∧ Cond.initialized Cn ∈ am_tb) {call : am_C} {Q : am_Q}
    (h : am_ex call Q (am_P p l e R s m args below meth c Qf D tC A ad0 M0 nL) (.new i, pc + 3, a, b, z) (pc, L, st, bc, bs) M) : am_P p l e R s m args below meth c Qf D tC A ad0 M0 nL (pc, L, st, bc, bs) M := by
  obtain ⟨hx1, hb, hml, hown, hts, hK, hN, hT, hZ, hA, h4, hX⟩ := C
  subst hbn
  obtain ⟨Cn, T, hc, hin, hty, hnm⟩ := am_cls a ha
  obtain ⟨x1, x2, x3⟩ := hx _ _ _ hc
  obtain ⟨hbc, hbs, h⟩ := h
  intro ad H locs cells slots ls hw hf hs hcl hsl
  obtain ⟨hP, hD, hS, hwf, hag, hn0, hro⟩ := id hw
  replace hcl : cells + bc ≤ R.cells := hcl
  replace hsl : slots + bs ≤ R.slots := hsl
  refine va_new (ty := am_ty a) (fs := (List.range (am_nf a)).map (fun j => match am_fk (am_ty a j) with | 2 => .null | _ => .int 0)) hx1 hb hts hin hty hown (hts _ x1) (hts _ x2) (hts _ x3) hK hP hD hS hA hc (fun j hj => ?_) (by omega) (by omega) hd (fun q H1 hP1 hD1 hS1 => ?_)
  · rw [am_dfl (am_ty_ok a ha j hj)]
    unfold vp_V
    rw [List.getD_eq_getElem?_getD, List.getElem?_map, List.getElem?_range hj]
    rfl
  · refine am_push hw hf hs (M' := (M.1 + 1, (fun c => if c = M.1 then (6 + a, 0) else M.2.1 c), am_ur M.2.2.1 M.1 (fun _ => 0), M.2.2.2.1, am_ur M.2.2.2.2 M.1 (fun _ => none))) rfl (fun c e => if_neg e) (fun c e => am_ur_ne e) (fun _ _ => rfl) (fun c e => am_ur_ne e) (by show (if M.1 = M.1 then (6 + a, 0) else M.2.1 M.1).1 ≠ 1; rw [if_pos rfl]; show 6 + a ≠ 1; omega) (fun j w hj => ?_) ?_ hP1 hD1 hS1 h (by omega) (by omega)
    · replace hj : am_ur M.2.2.2.2 M.1 (fun _ => none) M.1 j = some w := hj
      rw [am_ur_at] at hj
      cases hj
    · rw [am_cell_ob (k := a) (by show (if M.1 = M.1 then (6 + a, 0) else M.2.1 M.1).1 = 6 + a; rw [if_pos rfl])]
      congr 2
      apply List.map_congr_left
      intro j hj
      unfold am_fv
      show (match am_fk (am_ty a j) with | 2 => va_rf ((am_ur M.2.2.2.2 M.1 (fun _ => none) M.1 j).map _) | _ => .int (am_ur M.2.2.1 M.1 (fun _ => 0) M.1 j)) = _
      rw [am_ur_at, am_ur_at]
      rfl
end AMK
