/-! arrays of references, casts, clones -/
section AML
variable {p : Program} {l : Launch} {e : Env} {R : Room} {s : State} {m : MethodId} {args : Array Value} {below : List Frame} {meth : Method} {c : Code} {Qf : State → Prop}
variable {D : va_G} {tC : Nat → ClassId} {A : Nat → Prop} {ad0 : Nat → Nat} {M0 : am_M} {nL : Nat} {own : String} {cc : ByteArray} {ret : Option FieldType} {nest : List Cond}
variable {pc nx a b i : Nat} {L st : List Value} {bc bs : Nat} {M : am_M}
theorem am_s_castA (C : am_Ctx p s m args c D tC A ad0 M0 nL own cc nest) (hd : decode cc pc = .ok (.checkcast i, 3)) {z : Int} (hx : Cond.classLink own i "[I" ∈ am_tb) {call : am_C} {Q : am_Q}
    (h : am_ex call Q (am_P p l e R s m args below meth c Qf D tC A ad0 M0 nL) (.checkcast i, pc + 3, a, b, z) (pc, L, st, bc, bs) M) : am_P p l e R s m args below meth c Qf D tC A ad0 M0 nL (pc, L, st, bc, bs) M := by
  obtain ⟨hx1, hb, hml, hown, hts, hK, hN, hT, hZ, hA, h4, hX⟩ := C
  obtain ⟨r, rest, rfl, h⟩ := am_r_at h
  obtain ⟨ho, h⟩ := am_on_at h
  have k0 := am_ob_at ho
  intro ad H locs cells slots ls hw hf hs hcl hsl
  obtain ⟨hP, hD, hS, hwf, hag, hn0, hro⟩ := id hw
  have hr4 : 4 ≤ r := am_ge4 hwf k0 (by omega)
  have hnm : s.vm.findClass "[I" = some (tC 0) := (hK.2 0 (tC 0, .int) rfl).2
  exact va_castA hx1 hb hown (hts _ hx) hP (r - 4) (by rw [am_w_at hr4 hs.1, am_cell_0 k0]) hnm hd (h ad H locs cells slots ls hw hf hs hcl hsl)
theorem am_s_newq (C : am_Ctx p s m args c D tC A ad0 M0 nL own cc nest) (hd : decode cc pc = .ok (.anewarray i, 3)) {z : Int} (hx : Cond.classLink own i RX7 ∈ am_tb) {call : am_C} {Q : am_Q}
    (h : am_ex call Q (am_P p l e R s m args below meth c Qf D tC A ad0 M0 nL) (.anewarray i, pc + 3, a, b, z) (pc, L, st, bc, bs) M) : am_P p l e R s m args below meth c Qf D tC A ad0 M0 nL (pc, L, st, bc, bs) M := by
  obtain ⟨hx1, hb, hml, hown, hts, hK, hN, hT, hZ, hA, h4, hX⟩ := C
  obtain ⟨x, rest, rfl, hbc, hx0, hbs, hbig, h⟩ := am_i_at h
  intro ad H locs cells slots ls hw hf hs hcl hsl
  obtain ⟨hP, hD, hS, hwf, hag, hn0, hro⟩ := id hw
  replace hcl : cells + bc ≤ R.cells := hcl
  replace hsl : slots + bs ≤ R.slots := hsl
  refine va_newq hx1 hb hown (hts _ hx) hX.1.2.1 hK hP hD hS hA hx0 rfl (by omega) (by omega) (by omega) hd (fun q cA H1 hK1 hP1 hD1 hS1 => ?_)
  have hcA : cA = tC 3 := by
    obtain ⟨kA, comp, k1, k2, k3, k4⟩ := (hK1.2 5 (cA, .object RX7) rfl).2
    obtain ⟨kA', comp', k1', k2', k3', k4'⟩ := (hK.2 3 (tC 3, .object RX7) rfl).2
    have e := Option.some.inj (k3.symm.trans k3')
    subst e
    exact Option.some.inj (k4.symm.trans k4')
  subst hcA
  refine am_push hw hf hs.2 (M' := (M.1 + 1, (fun c => if c = M.1 then (4, x.toNatClampNeg) else M.2.1 c), M.2.2.1, M.2.2.2.1, am_ur M.2.2.2.2 M.1 (fun _ => none))) rfl (fun c e => if_neg e) (fun _ _ => rfl) (fun _ _ => rfl) (fun c e => am_ur_ne e) (by show (if M.1 = M.1 then (4, x.toNatClampNeg) else M.2.1 M.1).1 ≠ 1; rw [if_pos rfl]; exact (fun q => by cases q)) (fun j w hj => ?_) ?_ hP1 hD1 hS1 h (by omega) (by omega)
  · replace hj : am_ur M.2.2.2.2 M.1 (fun _ => none) M.1 j = some w := hj
    rw [am_ur_at] at hj
    cases hj
  · rw [am_cell_4 (by show (if M.1 = M.1 then (4, x.toNatClampNeg) else M.2.1 M.1).1 = 4; rw [if_pos rfl])]
    show Sum.inl (tC 3, (if M.1 = M.1 then (4, x.toNatClampNeg) else M.2.1 M.1).2, Sum.inr (Sum.inr (Sum.inr (Sum.inr (fun i => (am_ur M.2.2.2.2 M.1 (fun _ => none) M.1 i).map _))))) = _
    rw [if_pos rfl, am_ur_at]
    rfl
theorem am_s_astq (C : am_Ctx p s m args c D tC A ad0 M0 nL own cc nest) (hd : decode cc pc = .ok (.aastore, 1)) {z : Int} {call : am_C} {Q : am_Q}
    (h : am_ex call Q (am_P p l e R s m args below meth c Qf D tC A ad0 M0 nL) (.aastore, pc + 1, a, b, z) (pc, L, st, bc, bs) M) : am_P p l e R s m args below meth c Qf D tC A ad0 M0 nL (pc, L, st, bc, bs) M := by
  obtain ⟨hx1, hb, hml, hown, hts, hK, hN, hT, hZ, hA, h4, hX⟩ := C
  obtain ⟨v, st, rfl, h⟩ := am_r_at h
  obtain ⟨j, r, rest, rfl, h⟩ := am_ir_at h
  obtain ⟨ho, kk, hkk, hkN, h⟩ := am_on_at h
  have hin := zin hkk hkN.1 hkN.2
  have hcl0 := zcl hkk hkN.2
  rw [← hcl0] at h
  rw [Bool.and_eq_true] at ho
  have k0 := am_ob_at ho.1
  have k1 := am_ob_at ho.2
  intro ad H locs cells slots ls hw hf hs hcl hsl
  obtain ⟨hP, hD, hS, hwf, hag, hn0, hro⟩ := id hw
  have hr4 : 4 ≤ r := am_ge4 hwf k0 (by omega)
  have hv4 : 4 ≤ v := am_ge4 hwf k1 (by omega)
  have hvn : v < M.1 := hs.1
  have hrn : r < M.1 := hs.2.2.1
  refine va_astq hx1 hb hK hP hD hS (r - 4) 3 (v - 4) 7 (r := (RX7, TX7, 3)) (by rw [am_w_at hr4 hrn, am_cell_4 k0]) rfl (by rw [am_w_at hv4 hvn, am_cell_ob (k := 7) k1]) rfl hin hd (fun H1 locs1 hP1 hD1 hS1 => ?_)
  refine h ad H1 locs1 cells slots ls (am_Wn_set (M := M) (M' := (M.1, M.2.1, M.2.2.1, M.2.2.2.1, am_u M.2.2.2.2 r j.toNatClampNeg (some v))) rfl rfl hr4 hrn (fun _ _ => rfl) (fun _ _ => rfl) (fun c hc => am_u_ne hc) (fun c i q hq => ?_) ?_ hw hP1 hD1 hS1) hf hs.2.2.2 hcl hsl
  · replace hq : am_u M.2.2.2.2 r j.toNatClampNeg (some v) c i = some q := hq
    rw [am_u_if] at hq
    split at hq
    · cases hq
      exact hvn
    · exact hwf.2.2.2 c i q hq
  · rw [am_cell_4 (M := (M.1, M.2.1, M.2.2.1, M.2.2.2.1, am_u M.2.2.2.2 r j.toNatClampNeg (some v))) k0]
    congr 7
    funext i
    unfold va_up
    show (am_u M.2.2.2.2 r j.toNatClampNeg (some v) r i).map ad = _
    rw [am_u_at]
    split <;> rfl
theorem am_s_stcN (C : am_Ctx p s m args c D tC A ad0 M0 nL own cc nest) (hd : decode cc pc = .ok (.getstatic i, 3)) (ha : a < 3) {host : String} (hl : (Cond.fieldLinkNest own i "LastForemost" (am_sn a) "[I" host).before args s = true)
    (h : am_P p l e R s m args below meth c Qf D tC A ad0 M0 nL (pc + 3, L, .ref a :: st, bc, bs) M) : am_P p l e R s m args below meth c Qf D tC A ad0 M0 nL (pc, L, st, bc, bs) M := by
  obtain ⟨hx1, hb, hml, hown, hts, hK, hN, hT, hZ, hA, h4, hX⟩ := C
  intro ad H locs cells slots ls hw hf hs hcl hsl
  obtain ⟨hP, hD, hS, hwf, hag, hn0, hro⟩ := id hw
  have hz := hZ a ha
  rw [← hag a (by omega)] at hz
  exact va_getsN hx1 hb hz hS hown hl (fun _ q => q) hd (h ad H locs cells slots ls hw hf ⟨by show a < M.1; omega, hs⟩ hcl hsl)
theorem am_s_putF (C : am_Ctx p s m args c D tC A ad0 M0 nL own cc nest) (hd : decode cc pc = .ok (.putfield i, 3)) (hin2 : meth.name = "<init>") {r' : vw_C} (hc : am_cl[a]? = some r') (hbN : b < r'.2.2) (hfin : (r'.2.1 b).2.2.2 = true) (hdecl : (r'.2.1 b).1 = own) (hlink : Cond.fieldLink own i (r'.2.1 b).1 (r'.2.1 b).2.1 (r'.2.1 b).2.2.1 ∈ am_tb) {r : Nat} {v : Value} {rest : List Value} {M' : am_M} (hk : (M.2.1 r).1 = 6 + a)
    (hn : M'.1 = M.1) (hsh : M'.2.1 = M.2.1) (h1 : ∀ c, c ≠ r → M'.2.2.1 c = M.2.2.1 c) (h2 : ∀ c, c ≠ r → M'.2.2.2.1 c = M.2.2.2.1 c) (h3 : ∀ c, c ≠ r → M'.2.2.2.2 c = M.2.2.2.2 c) (hq : am_wf M → am_ok M.1 v → ∀ c i q, M'.2.2.2.2 c i = some q → q < M.1)
    (hnar : ∀ ad, narrow (am_ty a b) (am_cv ad v) = am_cv ad v) (hfit : ∀ ad, fits (am_ty a b) (am_cv ad v) = true) (hv : ∀ ad, am_fv ad M' r a b = am_cv ad v) (ho : ∀ ad i, i ≠ b → am_fv ad M' r a i = am_fv ad M r a i)
    (h : am_P p l e R s m args below meth c Qf D tC A ad0 M0 nL (pc + 3, L, rest, bc, bs) M') : am_P p l e R s m args below meth c Qf D tC A ad0 M0 nL (pc, L, v :: .ref r :: rest, bc, bs) M := by
  obtain ⟨hx1, hb, hml, hown, hts, hK, hN, hT, hZ, hA, h4, hX⟩ := C
  have ha : a < 11 := (List.getElem?_eq_some_iff.mp hc).1
  obtain ⟨Cn, T, hc', hin, hty, hnm⟩ := am_cls a ha
  cases hc.symm.trans hc'
  intro ad H locs cells slots ls hw hf hs hcl hsl
  obtain ⟨hP, hD, hS, hwf, hag, hn0, hro⟩ := id hw
  have hr4 : 4 ≤ r := am_ge4 hwf hk (by omega)
  have hrn : r < M.1 := hs.2.1
  have he : (am_w tC ad M)[r - 4]? = some (ad r, .inr (a, (List.range (am_nf a)).map (am_fv ad M r a))) := by rw [am_w_at hr4 hrn, am_cell_ob hk]
  refine va_putF hx1 hb hts hin (am_ty a) hty hnm hown hK hP hD hS (r - 4) he hc b hbN (hts _ hlink) (fun _ q => q) hfin hin2 hdecl (hty b hbN) (hnar ad) (hfit ad) (by simpa using hbN) hd (fun H1 locs1 hP1 hD1 hS1 => ?_)
  refine h ad H1 locs1 cells slots ls (am_Wn_set hn hsh hr4 hrn h1 h2 h3 (hq hwf hs.1) ?_ hw hP1 hD1 hS1) (by rw [hn]; exact hf) (by rw [hn]; exact hs.2.2) hcl hsl
  rw [am_cell_ob (by rw [hsh]; exact hk), am_put_fs hbN (hv ad) (ho ad)]
theorem am_s_obj {d : Nat} (C : am_Ctx p s m args c D tC A ad0 M0 nL own cc nest) (hR : d + 1 ≤ R.frames ∧ 33 * (d + 1) ≤ R.locals) (hd : decode cc pc = .ok (.invokespecial i, 3)) (h1 : Cond.methodLink own i Lib.objectInit ∈ am_tb) (h2 : Cond.instanceMethod Lib.objectInit ∈ am_tb) (h3 : Cond.code Lib.objectInit ⟨#[0xb1]⟩ 1 none ∈ am_tb)
    (h : am_r st fun _ rest => am_on (Nat.ble (am_sum rest) 8) (am_P p l e R s m args below meth c Qf D tC A ad0 M0 nL (pc + 3, L, rest, bc, bs) M)) : am_P p l e R s m args below meth c Qf D tC A ad0 M0 nL (pc, L, st, bc, bs) M := by
  obtain ⟨hx1, hb, hml, hown, hts, hK, hN, hT, hZ, hA, h4, hX⟩ := C
  obtain ⟨r, rest, rfl, h⟩ := am_r_at h
  obtain ⟨ho, h⟩ := am_on_at h
  have hsum : am_sum rest ≤ 8 := Nat.le_of_ble_eq_true ho
  intro ad H locs cells slots ls hw hf hs hcl hsl
  have hcat : ((rest.map (am_cv ad)).map fun v => v.category).sum = am_sum rest := by
    unfold am_sum
    rw [List.map_map]
    congr 1
    apply List.map_congr_left
    intro v _
    exact am_cv_cat ad v
  refine W.objInit (a := ad r) (rest := rest.map (am_cv ad)) (g := F0 m pc ls ((Value.ref r :: rest).map (am_cv ad))) hx1 hb hown (hts _ h1) (hts _ h2) (hts _ h3) rfl (by rw [hml]; exact hf.2.1) rfl hd (by omega) (by rw [hcat]; show 2 * 0 + _ + 12 ≤ _; omega) ?_
  exact h ad H locs cells slots ls hw hf hs.2 hcl hsl
end AML
