section AMI
variable {p : Program} {l : Launch} {e : Env} {R : Room} {s : State} {m : MethodId} {args : Array Value} {below : List Frame} {meth : Method} {c : Code} {Qf : State → Prop}
variable {D : va_G} {tC : Nat → ClassId} {A : Nat → Prop} {ad0 : Nat → Nat} {M0 : am_M} {nL : Nat} {own : String} {cc : ByteArray} {ret : Option FieldType} {nest : List Cond}
variable {pc nx a b i : Nat} {L st : List Value} {bc bs : Nat} {M : am_M}
theorem am_ge4 {k r : Nat} (hw : am_wf M) (h : (M.2.1 r).1 = k) (hk : k ≠ 1) : 4 ≤ r := by
  rcases Nat.lt_or_ge r 4 with q | q
  · exact absurd (h.symm.trans (hw.1 r q)) hk
  · exact q
theorem am_lt4 {r : Nat} (hw : am_wf M) (h : (M.2.1 r).1 = 1) : r < 4 := by
  rcases Nat.lt_or_ge r 4 with q | q
  · exact q
  · exact absurd h (hw.2.1 r q)
theorem am_fs_at {ad : Nat → Nat} {r k j : Nat} (h : j < am_nf k) : ((List.range (am_nf k)).map (am_fv ad M r k))[j]? = some (am_fv ad M r k j) := by
  rw [List.getElem?_map, List.getElem?_range h]
  rfl
theorem am_s_get (C : am_Ctx p s m args c D tC A ad0 M0 nL own cc nest) (hd : decode cc pc = .ok (.getfield i, 3)) {z : Int} (hx : am_okx own ret pc (.getfield i, pc + 3, a, b, z)) {call : am_C} {Q : am_Q}
    (h : am_ex call Q (am_P p l e R s m args below meth c Qf D tC A ad0 M0 nL) (.getfield i, pc + 3, a, b, z) (pc, L, st, bc, bs) M) : am_P p l e R s m args below meth c Qf D tC A ad0 M0 nL (pc, L, st, bc, bs) M := by
  obtain ⟨hx1, hb, hml, hown, hts, hK, hN, hT, hZ, hA, h4, hX⟩ := C
  obtain ⟨r', hc, hbN, hlink⟩ := hx
  have ha : a < 11 := (List.getElem?_eq_some_iff.mp hc).1
  obtain ⟨Cn, T, hc', hin, hty, hnm⟩ := am_cls a ha
  cases hc.symm.trans hc'
  obtain ⟨r, rest, rfl, h⟩ := am_r_at h
  obtain ⟨ho, h⟩ := am_on_at h
  have hk := am_ob_at ho
  intro ad H locs cells slots ls hw hf hs hcl hsl
  obtain ⟨hP, hD, hS, hwf, hag, hn0, hro⟩ := id hw
  have hr4 : 4 ≤ r := am_ge4 hwf hk (by omega)
  have hrn : r < M.1 := hs.1
  have he : (am_w tC ad M)[r - 4]? = some (ad r, .inr (a, (List.range (am_nf a)).map (am_fv ad M r a))) := by rw [am_w_at hr4 hrn, am_cell_ob hk]
  refine va_get hx1 hb hts hin hown hK hP (r - 4) he hc b hbN (hts _ hlink) (fun _ q => q) (am_fs_at hbN) hd ?_
  split at h
  · next e2 =>
    split at h
    · next q hq =>
      have hv : am_fv ad M r a b = am_cv ad (.ref q) := by
        unfold am_fv
        rw [e2, hq]
        rfl
      rw [hv]
      exact h ad H locs cells slots ls hw hf ⟨hwf.2.2.2 r b q hq, hs.2⟩ hcl hsl
    · exact h.elim
  · exact h.elim
  · next e2 e3 =>
    have hv : am_fv ad M r a b = am_cv ad (.int (M.2.2.1 r b)) := by
      unfold am_fv
      split
      · next e4 => exact absurd e4 e2
      · rfl
    rw [hv]
    exact h ad H locs cells slots ls hw hf ⟨trivial, hs.2⟩ hcl hsl
theorem am_s_iald (C : am_Ctx p s m args c D tC A ad0 M0 nL own cc nest) (hd : decode cc pc = .ok (.iaload, 1)) {z : Int} {call : am_C} {Q : am_Q}
    (h : am_ex call Q (am_P p l e R s m args below meth c Qf D tC A ad0 M0 nL) (.iaload, pc + 1, a, b, z) (pc, L, st, bc, bs) M) : am_P p l e R s m args below meth c Qf D tC A ad0 M0 nL (pc, L, st, bc, bs) M := by
  obtain ⟨hx1, hb, hml, hown, hts, hK, hN, hT, hZ, hA, h4, hX⟩ := C
  obtain ⟨j, r, rest, rfl, h⟩ := am_ir_at h
  obtain ⟨ho, kk, hkk, hkN, h⟩ := am_on_at h
  have hin := zin hkk hkN.1 hkN.2
  have hcl0 := zcl hkk hkN.2
  rw [← hcl0] at h
  intro ad H locs cells slots ls hw hf hs hcl hsl
  obtain ⟨hP, hD, hS, hwf, hag, hn0, hro⟩ := id hw
  have hk := h ad H locs cells slots ls hw hf ⟨trivial, hs.2.2⟩ hcl hsl
  have hrn : r < M.1 := hs.2.1
  have hkind : (M.2.1 r).1 = 0 ∨ (M.2.1 r).1 = 1 := by
    unfold am_ia at ho
    split at ho
    · next q => exact Or.inl q
    · next q => exact Or.inr q
    · cases ho
  rcases hkind with k0 | k1
  · have hr4 : 4 ≤ r := am_ge4 hwf k0 (by omega)
    exact va_iald hx1 hb hK hP (r - 4) 0 (by rw [am_w_at hr4 hrn, am_cell_0 k0]) rfl hin hd hk
  · have hr4 := am_lt4 hwf k1
    have hTr := hT r hr4
    obtain ⟨e1, e2⟩ := hro r hr4
    rw [← e1, ← e2, ← hag r (by omega)] at hTr
    exact va_ti hx1 hb hTr hS hin rfl hd hk
theorem am_s_zald (C : am_Ctx p s m args c D tC A ad0 M0 nL own cc nest) (hd : decode cc pc = .ok (.baload, 1)) {z : Int} {call : am_C} {Q : am_Q}
    (h : am_ex call Q (am_P p l e R s m args below meth c Qf D tC A ad0 M0 nL) (.baload, pc + 1, a, b, z) (pc, L, st, bc, bs) M) : am_P p l e R s m args below meth c Qf D tC A ad0 M0 nL (pc, L, st, bc, bs) M := by
  obtain ⟨hx1, hb, hml, hown, hts, hK, hN, hT, hZ, hA, h4, hX⟩ := C
  obtain ⟨j, r, rest, rfl, h⟩ := am_ir_at h
  obtain ⟨ho, kk, hkk, hkN, h⟩ := am_on_at h
  have hin := zin hkk hkN.1 hkN.2
  have hcl0 := zcl hkk hkN.2
  rw [← hcl0] at h
  have k0 := am_ob_at ho
  intro ad H locs cells slots ls hw hf hs hcl hsl
  obtain ⟨hP, hD, hS, hwf, hag, hn0, hro⟩ := id hw
  have hr4 : 4 ≤ r := am_ge4 hwf k0 (by omega)
  exact va_zald hx1 hb hK hP (r - 4) 1 (by rw [am_w_at hr4 hs.2.1, am_cell_2 k0]) rfl hin hd (h ad H locs cells slots ls hw hf ⟨trivial, hs.2.2⟩ hcl hsl)
theorem am_s_lald (C : am_Ctx p s m args c D tC A ad0 M0 nL own cc nest) (hd : decode cc pc = .ok (.laload, 1)) {z : Int} {call : am_C} {Q : am_Q}
    (h : am_ex call Q (am_P p l e R s m args below meth c Qf D tC A ad0 M0 nL) (.laload, pc + 1, a, b, z) (pc, L, st, bc, bs) M) : am_P p l e R s m args below meth c Qf D tC A ad0 M0 nL (pc, L, st, bc, bs) M := by
  obtain ⟨hx1, hb, hml, hown, hts, hK, hN, hT, hZ, hA, h4, hX⟩ := C
  obtain ⟨j, r, rest, rfl, h⟩ := am_ir_at h
  obtain ⟨ho, kk, hkk, hkN, h⟩ := am_on_at h
  have hin := zin hkk hkN.1 hkN.2
  have hcl0 := zcl hkk hkN.2
  rw [← hcl0] at h
  have k0 := am_ob_at ho
  intro ad H locs cells slots ls hw hf hs hcl hsl
  obtain ⟨hP, hD, hS, hwf, hag, hn0, hro⟩ := id hw
  have hr4 : 4 ≤ r := am_ge4 hwf k0 (by omega)
  exact va_lald hx1 hb hK hP (r - 4) 2 (by rw [am_w_at hr4 hs.2.1, am_cell_3 k0]) rfl hin hd (h ad H locs cells slots ls hw hf ⟨trivial, hs.2.2⟩ hcl hsl)
theorem am_s_aald (C : am_Ctx p s m args c D tC A ad0 M0 nL own cc nest) (hd : decode cc pc = .ok (.aaload, 1)) {z : Int} (hx : am_okx own ret pc (.aaload, pc + 1, a, b, z)) {call : am_C} {Q : am_Q}
    (h : am_ex call Q (am_P p l e R s m args below meth c Qf D tC A ad0 M0 nL) (.aaload, pc + 1, a, b, z) (pc, L, st, bc, bs) M) : am_P p l e R s m args below meth c Qf D tC A ad0 M0 nL (pc, L, st, bc, bs) M := by
  obtain ⟨hx1, hb, hml, hown, hts, hK, hN, hT, hZ, hA, h4, hX⟩ := C
  have ha2 : a < 2 := hx
  obtain ⟨j, r, rest, rfl, h⟩ := am_ir_at h
  obtain ⟨ho, kk, hkk, hkN, h⟩ := am_on_at h
  have hin := zin hkk hkN.1 hkN.2
  have hcl0 := zcl hkk hkN.2
  rw [← hcl0] at h
  have k0 := am_ob_at ho
  intro ad H locs cells slots ls hw hf hs hcl hsl
  obtain ⟨hP, hD, hS, hwf, hag, hn0, hro⟩ := id hw
  have hr4 : 4 ≤ r := am_ge4 hwf k0 (by omega)
  split at h
  · next q hq =>
    have hk := h ad H locs cells slots ls hw hf ⟨hwf.2.2.2 _ _ q hq, hs.2.2⟩ hcl hsl
    have hv : va_rf ((M.2.2.2.2 r j.toNatClampNeg).map ad) = am_cv ad (.ref q) := by rw [hq]; rfl
    have hlt : j.toNatClampNeg < (M.2.1 r).2 := Nat.not_le.mp fun q => hin (Or.inr q)
    match a, ha2 with
    | 0, _ => exact va_aldq hx1 hb hK hP (r - 4) 3 (by rw [am_w_at hr4 hs.2.1, am_cell_4 k0]) rfl hin hd (by rw [hv]; exact hk)
    | 1, _ =>
      exact W.aald (v := va_rf ((M.2.2.2.2 r j.toNatClampNeg).map ad)) (ty := .array .int) hx1 hb (hP (r - 4) (ad r, am_cell tC ad M r) (am_w_at hr4 hs.2.1) |> fun q => by rw [am_cell_5 k0] at q; exact q) ((hK.2 4 (tC 4, .array .int) rfl).1 (M.2.1 r).2 (fun i => va_rf ((M.2.2.2.2 r i).map ad))) rfl (fun q => by cases q) (by show ¬ (j < 0 ∨ (arrV _ _ _).slots.size ≤ _); rw [arrV_size]; exact hin) (by show (arrV _ _ _).slots[_]? = _; rw [arrV_read _ _ hlt]) rfl rfl hd (by rw [hv]; exact hk)
  · exact h.elim
theorem am_Wn_set {r : Nat} {ad : Nat → Nat} {M' : am_M} {H1 : Heap} {locs1 : List Loc} {E : va_E} (hn : M'.1 = M.1) (hsh : M'.2.1 = M.2.1) (hr4 : 4 ≤ r) (hrn : r < M.1) (h1 : ∀ c, c ≠ r → M'.2.2.1 c = M.2.2.1 c) (h2 : ∀ c, c ≠ r → M'.2.2.2.1 c = M.2.2.2.1 c) (h3 : ∀ c, c ≠ r → M'.2.2.2.2 c = M.2.2.2.2 c) (hq : ∀ c i q, M'.2.2.2.2 c i = some q → q < M.1) (hE : am_cell tC ad M' r = E)
    {H : Heap} {locs : List Loc} (hw : am_Wn s D tC A ad0 M0 ad M H locs) (hP : va_P D am_cl ((am_w tC ad M).set (r - 4) (ad r, E)) H1) (hD : va_D A ((am_w tC ad M).set (r - 4) (ad r, E))) (hS : va_S A s.heap H1 locs1) : am_Wn s D tC A ad0 M0 ad M' H1 locs1 := by
  obtain ⟨-, -, -, hwf, hag, hn0, hro⟩ := hw
  rw [am_w_set (M' := M') hr4 hrn hn hE (fun c' hc' => am_cell_eq (by rw [hsh]) (h1 c' hc') (h2 c' hc') (fun i => by rw [h3 c' hc']))] at hP hD
  refine ⟨hP, hD, hS, ⟨by rw [hsh]; exact hwf.1, by rw [hsh]; exact hwf.2.1, by rw [hn]; exact hwf.2.2.1, fun c i q hcq => by rw [hn]; exact hq c i q hcq⟩, hag, by rw [hn]; exact hn0, fun c hc => ⟨by rw [hsh]; exact (hro c hc).1, by rw [h1 c (by omega)]; exact (hro c hc).2⟩⟩
theorem am_u_upd {f : Nat → Nat → Int32} {r j : Nat} {x : Int32} : am_u f r j x r = upd (f r) j x := by
  funext i
  simp [am_u, upd]
theorem am_s_iast (C : am_Ctx p s m args c D tC A ad0 M0 nL own cc nest) (hd : decode cc pc = .ok (.iastore, 1)) {z : Int} {call : am_C} {Q : am_Q}
    (h : am_ex call Q (am_P p l e R s m args below meth c Qf D tC A ad0 M0 nL) (.iastore, pc + 1, a, b, z) (pc, L, st, bc, bs) M) : am_P p l e R s m args below meth c Qf D tC A ad0 M0 nL (pc, L, st, bc, bs) M := by
  obtain ⟨hx1, hb, hml, hown, hts, hK, hN, hT, hZ, hA, h4, hX⟩ := C
  obtain ⟨x, st, rfl, h⟩ := am_i_at h
  obtain ⟨j, r, rest, rfl, h⟩ := am_ir_at h
  obtain ⟨ho, kk, hkk, hkN, h⟩ := am_on_at h
  have hin := zin hkk hkN.1 hkN.2
  have hcl0 := zcl hkk hkN.2
  rw [← hcl0] at h
  have k0 := am_ob_at ho
  intro ad H locs cells slots ls hw hf hs hcl hsl
  obtain ⟨hP, hD, hS, hwf, hag, hn0, hro⟩ := id hw
  have hr4 : 4 ≤ r := am_ge4 hwf k0 (by omega)
  have hrn : r < M.1 := hs.2.2.1
  refine va_iast hx1 hb hK hP hD hS (r - 4) 0 (by rw [am_w_at hr4 hrn, am_cell_0 k0]) rfl hin hd (fun H1 locs1 hP1 hD1 hS1 => ?_)
  exact h ad H1 locs1 cells slots ls (am_Wn_set (M := M) (M' := (M.1, M.2.1, am_u M.2.2.1 r j.toNatClampNeg x, M.2.2.2.1, M.2.2.2.2)) rfl rfl hr4 hrn (fun c hc => am_u_ne hc) (fun _ _ => rfl) (fun _ _ => rfl) hwf.2.2.2 (by rw [← am_u_upd]; exact am_cell_0 (M := (M.1, M.2.1, am_u M.2.2.1 _ _ _, M.2.2.2.1, M.2.2.2.2)) k0) hw hP1 hD1 hS1) hf hs.2.2.2 hcl hsl
theorem am_s_zast (C : am_Ctx p s m args c D tC A ad0 M0 nL own cc nest) (hd : decode cc pc = .ok (.bastore, 1)) {z : Int} {call : am_C} {Q : am_Q}
    (h : am_ex call Q (am_P p l e R s m args below meth c Qf D tC A ad0 M0 nL) (.bastore, pc + 1, a, b, z) (pc, L, st, bc, bs) M) : am_P p l e R s m args below meth c Qf D tC A ad0 M0 nL (pc, L, st, bc, bs) M := by
  obtain ⟨hx1, hb, hml, hown, hts, hK, hN, hT, hZ, hA, h4, hX⟩ := C
  obtain ⟨x, st, rfl, h⟩ := am_i_at h
  obtain ⟨j, r, rest, rfl, h⟩ := am_ir_at h
  obtain ⟨ho, kk, hkk, hkN, h⟩ := am_on_at h
  have hin := zin hkk hkN.1 hkN.2
  have hcl0 := zcl hkk hkN.2
  rw [← hcl0] at h
  have k0 := am_ob_at ho
  intro ad H locs cells slots ls hw hf hs hcl hsl
  obtain ⟨hP, hD, hS, hwf, hag, hn0, hro⟩ := id hw
  have hr4 : 4 ≤ r := am_ge4 hwf k0 (by omega)
  have hrn : r < M.1 := hs.2.2.1
  refine va_zast hx1 hb hK hP hD hS (r - 4) 1 (by rw [am_w_at hr4 hrn, am_cell_2 k0]) rfl hin hd (fun H1 locs1 hP1 hD1 hS1 => ?_)
  exact h ad H1 locs1 cells slots ls (am_Wn_set (M := M) (M' := (M.1, M.2.1, am_u M.2.2.1 r j.toNatClampNeg (vp_nar .boolean x), M.2.2.2.1, M.2.2.2.2)) rfl rfl hr4 hrn (fun c hc => am_u_ne hc) (fun _ _ => rfl) (fun _ _ => rfl) hwf.2.2.2 (by rw [← am_u_upd]; exact am_cell_2 (M := (M.1, M.2.1, am_u M.2.2.1 _ _ _, M.2.2.2.1, M.2.2.2.2)) k0) hw hP1 hD1 hS1) hf hs.2.2.2 hcl hsl
theorem am_s_last (C : am_Ctx p s m args c D tC A ad0 M0 nL own cc nest) (hd : decode cc pc = .ok (.lastore, 1)) {z : Int} {call : am_C} {Q : am_Q}
    (h : am_ex call Q (am_P p l e R s m args below meth c Qf D tC A ad0 M0 nL) (.lastore, pc + 1, a, b, z) (pc, L, st, bc, bs) M) : am_P p l e R s m args below meth c Qf D tC A ad0 M0 nL (pc, L, st, bc, bs) M := by
  obtain ⟨hx1, hb, hml, hown, hts, hK, hN, hT, hZ, hA, h4, hX⟩ := C
  obtain ⟨x, st, rfl, h⟩ := am_l_at h
  obtain ⟨j, r, rest, rfl, h⟩ := am_ir_at h
  obtain ⟨ho, kk, hkk, hkN, h⟩ := am_on_at h
  have hin := zin hkk hkN.1 hkN.2
  have hcl0 := zcl hkk hkN.2
  rw [← hcl0] at h
  have k0 := am_ob_at ho
  intro ad H locs cells slots ls hw hf hs hcl hsl
  obtain ⟨hP, hD, hS, hwf, hag, hn0, hro⟩ := id hw
  have hr4 : 4 ≤ r := am_ge4 hwf k0 (by omega)
  have hrn : r < M.1 := hs.2.2.1
  have hu : am_u M.2.2.2.1 r j.toNatClampNeg x r = vp_updL (M.2.2.2.1 r) j.toNatClampNeg x := by
    funext i
    simp [am_u, vp_updL]
  refine va_last hx1 hb hK hP hD hS (r - 4) 2 (by rw [am_w_at hr4 hrn, am_cell_3 k0]) rfl hin hd (fun H1 locs1 hP1 hD1 hS1 => ?_)
  exact h ad H1 locs1 cells slots ls (am_Wn_set (M := M) (M' := (M.1, M.2.1, M.2.2.1, am_u M.2.2.2.1 r j.toNatClampNeg x, M.2.2.2.2)) rfl rfl hr4 hrn (fun _ _ => rfl) (fun c hc => am_u_ne hc) (fun _ _ => rfl) hwf.2.2.2 (by rw [← hu]; exact am_cell_3 (M := (M.1, M.2.1, M.2.2.1, am_u M.2.2.2.1 _ _ _, M.2.2.2.2)) k0) hw hP1 hD1 hS1) hf hs.2.2.2 hcl hsl
theorem am_s_alen (C : am_Ctx p s m args c D tC A ad0 M0 nL own cc nest) (hd : decode cc pc = .ok (.arraylength, 1)) {z : Int} {call : am_C} {Q : am_Q}
    (h : am_ex call Q (am_P p l e R s m args below meth c Qf D tC A ad0 M0 nL) (.arraylength, pc + 1, a, b, z) (pc, L, st, bc, bs) M) : am_P p l e R s m args below meth c Qf D tC A ad0 M0 nL (pc, L, st, bc, bs) M := by
  obtain ⟨hx1, hb, hml, hown, hts, hK, hN, hT, hZ, hA, h4, hX⟩ := C
  obtain ⟨r, rest, rfl, h⟩ := am_r_at h
  obtain ⟨ho, h⟩ := am_on_at h
  intro ad H locs cells slots ls hw hf hs hcl hsl
  obtain ⟨hP, hD, hS, hwf, hag, hn0, hro⟩ := id hw
  have hk := h ad H locs cells slots ls hw hf ⟨trivial, hs.2⟩ hcl hsl
  have hrn : r < M.1 := hs.1
  have hkind : (M.2.1 r).1 = 0 ∨ (M.2.1 r).1 = 1 := by
    unfold am_ia at ho
    split at ho
    · next q => exact Or.inl q
    · next q => exact Or.inr q
    · cases ho
  rcases hkind with k0 | k1
  · have hr4 : 4 ≤ r := am_ge4 hwf k0 (by omega)
    exact va_alen (x := ((M.2.1 r).2, .inl (M.2.2.1 r))) hx1 hb hK hP (r - 4) 0 (by rw [am_w_at hr4 hrn, am_cell_0 k0]) rfl rfl hd hk
  · have hr4 := am_lt4 hwf k1
    have hTr := hT r hr4
    obtain ⟨e1, e2⟩ := hro r hr4
    rw [← e1, ← e2, ← hag r (by omega)] at hTr
    exact va_tlen hx1 hb hTr hS rfl hd hk
end AMI
