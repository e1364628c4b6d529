/-- what the tables must say of Math's methods -/
def am_tokm (own : String) (i a b : Nat) : Prop := Cond.initialized "java/lang/Math" ∈ am_tb ∧ (
  (a = 1003 ∧ b = 0 ∧ Cond.methodLink own i Lib.Math.abs.name ∈ am_tb ∧ Cond.static Lib.Math.abs.name ∈ am_tb ∧ Cond.code Lib.Math.abs.name Lib.Math.abs.code 1 (some .int) ∈ am_tb) ∨
  (a = 1003 ∧ b = 1 ∧ Cond.methodLink own i Lib.MathLoose.abs_long.x ∈ am_tb ∧ Cond.static Lib.MathLoose.abs_long.x ∈ am_tb ∧ Cond.code Lib.MathLoose.abs_long.x Lib.MathLoose.abs_long.code 2 (some .long) ∈ am_tb) ∨
  (a = 1003 ∧ b = 2 ∧ Cond.methodLink own i Lib.Math.max.name ∈ am_tb ∧ Cond.static Lib.Math.max.name ∈ am_tb ∧ Cond.code Lib.Math.max.name Lib.Math.max.code 2 (some .int) ∈ am_tb) ∨
  (a = 1003 ∧ b = 3 ∧ Cond.methodLink own i Lib.MathLoose.max_long.x ∈ am_tb ∧ Cond.static Lib.MathLoose.max_long.x ∈ am_tb ∧ Cond.code Lib.MathLoose.max_long.x Lib.MathLoose.max_long.code 4 (some .long) ∈ am_tb) ∨
  (a = 1003 ∧ b = 4 ∧ Cond.methodLink own i Lib.Math.min.name ∈ am_tb ∧ Cond.static Lib.Math.min.name ∈ am_tb ∧ Cond.code Lib.Math.min.name Lib.Math.min.code 2 (some .int) ∈ am_tb))
/-- what the tables must say of a call, or of what is made -/
def am_okc (own nm : String) (x : am_I) : Prop := match x with
  | (ins, _, a, b, z) => match ins with
    | .getstatic i => a < 3 ∧ (Cond.fieldLink own i "LastForemost" (am_sn a) "[I" ∈ am_tb ∨ ∃ host, Cond.fieldLinkNest own i "LastForemost" (am_sn a) "[I" host ∈ am_nest)
    | .putfield i => z = 0 ∨ (nm = "<init>" ∧ ∃ r : vw_C, am_cl[a]? = some r ∧ b < r.2.2 ∧ (r.2.1 b).2.2.2 = true ∧ (r.2.1 b).1 = own ∧ Cond.fieldLink own i (r.2.1 b).1 (r.2.1 b).2.1 (r.2.1 b).2.2.1 ∈ am_tb)
    | .invokestatic i => (a = 1002 ∧ Cond.methodLink own i arraycopyName ∈ am_tb ∧ Cond.native arraycopyName ∈ am_tb ∧ Cond.static arraycopyName ∈ am_tb ∧ Cond.initialized "java/lang/System" ∈ am_tb) ∨ am_tokm own i a b ∨ (Nat.beq a 1002 = false ∧ Nat.beq a 1003 = false ∧ am_mok a b ∧ am_lok own i a ∧ Cond.static (am_y a) ∈ am_tb)
    | .invokevirtual i => (a = 1001 ∧ Cond.methodLink own i ⟨"[I", "clone", "()Ljava/lang/Object;"⟩ ∈ am_tb ∧ Cond.sameMethod "[I" "java/lang/Object" "clone" "()Ljava/lang/Object;" ∈ am_tb ∧ Cond.native ⟨"java/lang/Object", "clone", "()Ljava/lang/Object;"⟩ ∈ am_tb ∧ Cond.instanceMethod ⟨"java/lang/Object", "clone", "()Ljava/lang/Object;"⟩ ∈ am_tb ∧ Cond.selects "[I" ⟨"[I", "clone", "()Ljava/lang/Object;"⟩ ⟨"java/lang/Object", "clone", "()Ljava/lang/Object;"⟩ ∈ am_tb) ∨ (Nat.beq a 1001 = false ∧ am_mok a (b - 1) ∧ am_lok own i a ∧ Cond.instanceMethod (am_y a) ∈ am_tb ∧ Cond.selects (am_y a).cls (am_y a) (am_y a) ∈ am_tb ∧ ∃ r : vw_C, am_cl[am_kc a]? = some r ∧ r.1 = (am_y a).cls)
    | .invokespecial i => (a = 1000 ∧ Cond.methodLink own i Lib.objectInit ∈ am_tb ∧ Cond.instanceMethod Lib.objectInit ∈ am_tb ∧ Cond.code Lib.objectInit ⟨#[0xb1]⟩ 1 none ∈ am_tb) ∨ (Nat.beq a 1000 = false ∧ am_mok a (b - 1) ∧ (am_y a).name = "<init>" ∧ am_ret a = none ∧ am_lok own i a ∧ Cond.instanceMethod (am_y a) ∈ am_tb)
    | .checkcast i => Cond.classLink own i "[I" ∈ am_tb
    | .new i => a < 11 ∧ b = am_nf a ∧ ∀ Cn T N, am_cl[a]? = some (Cn, T, N) → Cond.classLink own i Cn ∈ am_tb ∧ Cond.instantiable Cn N ∈ am_tb ∧ Cond.initialized Cn ∈ am_tb
    | .newarray .boolean => Cond.arrayClass .boolean ∈ am_tb
    | .newarray .long => Cond.arrayClass .long ∈ am_tb
    | .anewarray i => Cond.classLink own i RX7 ∈ am_tb
    | .multianewarray i j => j = 2 ∧ Cond.classLink own i "[[I" ∈ am_tb
    | _ => True
def am_isT : Instr → Bool
  | .tableswitch _ _ _ _ => true
  | _ => false
def am_okI (own nm : String) (cc : ByteArray) (ret : Option FieldType) (pc : Nat) (x : am_I) : Prop := ∃ len, decode cc pc = .ok (x.1, len) ∧ (am_isT x.1 = false → len = am_len x.1 ∧ x.2.1 = pc + am_len x.1) ∧ am_okx own ret pc x ∧ am_okc own nm x
section AML
variable {p : Program} {l : Launch} {e : Env} {R : Room} {s : State} {m : MethodId} {args : Array Value} {below : List Frame} {meth : Method} {c : Code} {Qf : State → Prop}
variable {D : va_G} {tC : Nat → ClassId} {A : Nat → Prop} {ad0 : Nat → Nat} {M0 : am_M} {nL : Nat} {own : String} {cc : ByteArray} {ret : Option FieldType}
variable {pc nx a b i d : Nat} {L st : List Value} {bc bs : Nat} {M : am_M}
theorem am_s_stc (C : am_Ctx p s m args c D tC A ad0 M0 nL own cc am_nest) (hd : decode cc pc = .ok (.getstatic i, 3)) (ha : a < 3) (hl : Cond.fieldLink own i "LastForemost" (am_sn a) "[I" ∈ am_tb)
    (h : am_P p l e R s m args below meth c Qf D tC A ad0 M0 nL (pc + 3, L, .ref a :: st, bc, bs) M) : am_P p l e R s m args below meth c Qf D tC A ad0 M0 nL (pc, L, st, bc, bs) M := by
  obtain ⟨hx1, hb, hml, hown, hts, hK, hN, hT, hZ, hA, h4, hX⟩ := C
  intro ad H locs cells slots ls hw hf hs hcl hsl
  obtain ⟨hP, hD, hS, hwf, hag, hn0, hro⟩ := id hw
  have hz := hZ a ha
  rw [← hag a (by omega)] at hz
  exact va_gets hx1 hb hz hS hown (hts _ hl) (fun _ q => q) hd (h ad H locs cells slots ls hw hf ⟨by show a < M.1; omega, hs⟩ hcl hsl)
theorem am_cp_at {st : List Value} {f : Nat → Nat → Int32 → Int32 → Int32 → List Value → Prop} (h : am_cp st f) : ∃ s t sp dp n r, st = .int n :: .int dp :: .ref t :: .int sp :: .ref s :: r ∧ f s t sp dp n r := by
  unfold am_cp at h
  split at h
  · exact ⟨_, _, _, _, _, _, rfl, h⟩
  · exact h.elim
theorem am_s_copy (C : am_Ctx p s m args c D tC A ad0 M0 nL own cc am_nest) (hR : d + 1 ≤ R.frames ∧ 33 * (d + 1) ≤ R.locals) (hd : decode cc pc = .ok (.invokestatic i, 3)) (h1 : Cond.methodLink own i arraycopyName ∈ am_tb) (h2 : Cond.native arraycopyName ∈ am_tb) (h3 : Cond.static arraycopyName ∈ am_tb) (h4 : Cond.initialized "java/lang/System" ∈ am_tb)
    (h : am_cp st fun s1 t sp dp n rest => am_on (am_ob M s1 0 && am_ob M t 0 && Nat.ble (am_sum rest) 8) (¬ sp < 0 ∧ ¬ dp < 0 ∧ ¬ n < 0 ∧ sp.toNatClampNeg + n.toNatClampNeg ≤ (M.2.1 s1).2 ∧ dp.toNatClampNeg + n.toNatClampNeg ≤ (M.2.1 t).2 ∧ (am_P p l e R s m args below meth c Qf D tC A ad0 M0 nL) (pc + 3, L, rest, bc, bs) (M.1, M.2.1, am_ur M.2.2.1 t (va_cpy (M.2.2.1 s1) (M.2.2.1 t) sp.toNatClampNeg dp.toNatClampNeg n.toNatClampNeg), M.2.2.2.1, M.2.2.2.2))) : am_P p l e R s m args below meth c Qf D tC A ad0 M0 nL (pc, L, st, bc, bs) M := by
  obtain ⟨hx1, hb, hml, hown, hts, hK, hN, hT, hZ, hA, h40, hX⟩ := C
  obtain ⟨s1, t, sp, dp, n, rest, rfl, h⟩ := am_cp_at h
  obtain ⟨ho, g1, g2, g3, g4, g5, h⟩ := am_on_at h
  simp only [Bool.and_eq_true] at ho
  obtain ⟨⟨o1, o2⟩, o3⟩ := ho
  have k1 := am_ob_at o1
  have k2 := am_ob_at o2
  have hsum : am_sum rest ≤ 8 := Nat.le_of_ble_eq_true o3
  intro ad H locs cells slots ls hw hf hs hcl hsl
  obtain ⟨hP, hD, hS, hwf, hag, hn0, hro⟩ := id hw
  have r1 : 4 ≤ s1 := am_ge4 hwf k1 (by omega)
  have r2 : 4 ≤ t := am_ge4 hwf k2 (by omega)
  have n1 : s1 < M.1 := hs.2.2.2.2.1
  have n2 : t < M.1 := hs.2.2.1
  have hnf : nativeFrameWords "java/lang/System" "arraycopy" 5 + 11 ≤ 25 := by decide +kernel
  have hl1 : ((rest.map (am_cv ad)).map fun v => v.category).sum + (nativeFrameWords "java/lang/System" "arraycopy" 5 + 11) ≤ R.locals := by
    rw [am_sum_map]
    omega
  refine va_copyi hx1 hb (by rw [hml]; exact hf.2.1.symm) hown (hts _ h1) (hts _ h2) (hts _ h3) (hts _ h4) hK hP hD hS (s1 - 4) (t - 4) 0 0 (by rw [am_w_at r1 n1, am_cell_0 k1]) (by rw [am_w_at r2 n2, am_cell_0 k2]) (ty := .int) rfl rfl rfl g1 g2 g3 g4 g5 (fun _ _ => rfl) (by omega) hl1 hd (fun H1 locs1 hP1 hD1 hS1 => ?_)
  exact h ad H1 locs1 cells slots ls (am_Wn_set (M := M) (M' := (M.1, M.2.1, am_ur M.2.2.1 t (va_cpy (M.2.2.1 s1) (M.2.2.1 t) sp.toNatClampNeg dp.toNatClampNeg n.toNatClampNeg), M.2.2.2.1, M.2.2.2.2)) rfl rfl r2 n2 (fun c hc => am_ur_ne hc) (fun _ _ => rfl) (fun _ _ => rfl) hwf.2.2.2 (by rw [am_cell_0 (M := (M.1, M.2.1, am_ur M.2.2.1 t _, M.2.2.2.1, M.2.2.2.2)) k2]; show Sum.inl (tC 0, (M.2.1 t).2, Sum.inl (am_ur M.2.2.1 t _ t)) = _; rw [am_ur_at]) hw hP1 hD1 hS1) hf hs.2.2.2.2.2 hcl hsl
theorem am_sw_at {K : Nat → Prop} {x : Int32} : ∀ {lo : Int} {ts : List Nat}, am_sw K x lo ts → ∀ (j t : Nat), ts[j]? = some t → x.toInt = lo + j → K t
  | _, [], _, j, t, h, _ => by simp at h
  | lo, t0 :: ts, k, 0, t, h, hx => by
    cases h
    exact k.1 (by omega)
  | lo, t0 :: ts, k, j + 1, t, h, hx => am_sw_at k.2 j t h (by omega)
theorem am_s_switch (C : am_Ctx p s m args c D tC A ad0 M0 nL own cc am_nest) {df lo hi : Int} {offs : Array Int} {len : Nat} (hd : decode cc pc = .ok (.tableswitch df lo hi offs, len)) (hx : hi = lo + offs.size - 1 ∧ 0 ≤ (pc : Int) + df ∧ ∀ o ∈ offs.toList, 0 ≤ (pc : Int) + o)
    (h : am_i st fun x r => am_sw (fun t => (am_P p l e R s m args below meth c Qf D tC A ad0 M0 nL) (t, L, r, bc, bs) M) x lo (am_tg pc offs.toList) ∧ (x.toInt < lo ∨ hi < x.toInt → (am_P p l e R s m args below meth c Qf D tC A ad0 M0 nL) (((pc : Int) + df).toNat, L, r, bc, bs) M)) : am_P p l e R s m args below meth c Qf D tC A ad0 M0 nL (pc, L, st, bc, bs) M := by
  obtain ⟨hx1, hb, hml, hown, hts, hK, hN, hT, hZ, hA, h4, hX⟩ := C
  obtain ⟨x, r, rfl, h⟩ := am_i_at h
  obtain ⟨x1, x2, x3⟩ := hx
  intro ad H locs cells slots ls hw hf hs hcl hsl
  by_cases hin : x.toInt < lo ∨ hi < x.toInt
  · exact lv_tableOut hx1 hb hd hin (by omega) (h.2 hin ad H locs cells slots ls hw hf hs.2 hcl hsl)
  · have h1 : ¬ x.toInt < lo := fun q => hin (Or.inl q)
    have h2 : ¬ hi < x.toInt := fun q => hin (Or.inr q)
    have hj : (x.toInt - lo).toNat < offs.size := by omega
    have ho : offs[(x.toInt - lo).toNat]? = some offs[(x.toInt - lo).toNat] := Array.getElem?_eq_getElem hj
    have hm : offs[(x.toInt - lo).toNat] ∈ offs.toList := by simp
    have hp := x3 _ hm
    refine lv_tableIn (tgt := ((pc : Int) + offs[(x.toInt - lo).toNat]).toNat) hx1 hb hd h1 h2 ho (by omega) ?_
    refine am_sw_at h.1 (x.toInt - lo).toNat _ ?_ (by omega) ad H locs cells slots ls hw hf hs.2 hcl hsl
    unfold am_tg
    rw [List.getElem?_map, Array.getElem?_toList, ho]
    rfl
theorem am_s_iinc (C : am_Ctx p s m args c D tC A ad0 M0 nL own cc am_nest) {n : Int} (hd : decode cc pc = .ok (.iinc i n, 3)) {x : Int32} (hx : L[i]? = some (.int x))
    (h : am_P p l e R s m args below meth c Qf D tC A ad0 M0 nL (pc + 3, am_st1 L i (.int (x + Int32.ofInt n)), st, bc, bs) M) : am_P p l e R s m args below meth c Qf D tC A ad0 M0 nL (pc, L, st, bc, bs) M := by
  obtain ⟨hx1, hb, hml, hown, hts, hK, hN, hT, hZ, hA, h4, hX⟩ := C
  intro ad H locs cells slots ls hw hf hs hcl hsl
  have hi : i < nL := by rw [← hf.1]; exact (List.getElem?_eq_some_iff.mp hx).1
  have hm : (i, am_cv ad (.int x)) ∈ am_al ad L := am_al_mem hx (fun q => by cases q)
  obtain ⟨k, hk⟩ := List.getElem?_of_mem hm
  exact lv_iinc hx1 hb hd (am_fr_has hf) hk rfl hi rfl (fun ls' hl' => h ad H locs cells slots ls' hw (am_fr_st1 (v := .int (x + Int32.ofInt n)) hf trivial hi hl') hs hcl hsl)
theorem am_pq {st' : List Value} (h : am_P p l e R s m args below meth c Qf D tC A ad0 M0 nL (nx, L, st', bc, bs) M) (hok : ∀ n, am_oks n st → am_oks n st')
    (hW : ∀ (ad : Nat → Nat) (H : Heap) (locs : List Loc) (cells slots : Nat) (ls : Array Slot), W p l e R s m args below meth c H locs cells slots Qf (F0 m nx ls (st'.map (am_cv ad))) → W p l e R s m args below meth c H locs cells slots Qf (F0 m pc ls (st.map (am_cv ad)))) : am_P p l e R s m args below meth c Qf D tC A ad0 M0 nL (pc, L, st, bc, bs) M := am_pp hok hW h
theorem am_s_math (C : am_Ctx p s m args c D tC A ad0 M0 nL own cc am_nest) (hR : d + 1 ≤ R.frames ∧ 33 * (d + 1) ≤ R.locals) (hd : decode cc pc = .ok (.invokestatic i, 3)) (hm : am_tokm own i a b) {call : am_C} {Q : am_Q} {z : Int}
    (h : am_ex call Q (am_P p l e R s m args below meth c Qf D tC A ad0 M0 nL) (.invokestatic i, pc + 3, a, b, z) (pc, L, st, bc, bs) M) : am_P p l e R s m args below meth c Qf D tC A ad0 M0 nL (pc, L, st, bc, bs) M := by
  obtain ⟨hx1, hb, hml, hown, hts, hK, hN, hT, hZ, hA, h40, hX⟩ := C
  obtain ⟨hi, hm⟩ := hm
  rcases hm with ⟨rfl, rfl, k1, k2, k3⟩ | ⟨rfl, rfl, k1, k2, k3⟩ | ⟨rfl, rfl, k1, k2, k3⟩ | ⟨rfl, rfl, k1, k2, k3⟩ | ⟨rfl, rfl, k1, k2, k3⟩
  · obtain ⟨x, r, rfl, h⟩ := am_i_at h
    obtain ⟨ho, h⟩ := am_on_at h
    have hsum : am_sum r ≤ 8 := Nat.le_of_ble_eq_true ho
    intro ad H locs cells slots ls hw hf hs hcl hsl
    exact va_mabs hx1 hb (by rw [hml]; exact hf.2.1.symm) hown (hts _ k1) (hts _ k2) (hts _ hi) (hts _ k3) (by omega) (by rw [am_sum_map]; omega) (by omega) (by omega) hd (h ad H locs cells slots ls hw hf ⟨trivial, hs.2⟩ hcl hsl)
  · obtain ⟨x, r, rfl, h⟩ := am_l_at h
    obtain ⟨ho, h⟩ := am_on_at h
    have hsum : am_sum r ≤ 8 := Nat.le_of_ble_eq_true ho
    intro ad H locs cells slots ls hw hf hs hcl hsl
    exact va_mabs_long hx1 hb (by rw [hml]; exact hf.2.1.symm) hown (hts _ k1) (hts _ k2) (hts _ hi) (hts _ k3) (by omega) (by rw [am_sum_map]; omega) (by omega) (by omega) hd (h ad H locs cells slots ls hw hf ⟨trivial, hs.2⟩ hcl hsl)
  · obtain ⟨x, y, r, rfl, h⟩ := am_ii_at h
    obtain ⟨ho, h⟩ := am_on_at h
    have hsum : am_sum r ≤ 8 := Nat.le_of_ble_eq_true ho
    intro ad H locs cells slots ls hw hf hs hcl hsl
    exact va_mmax hx1 hb (by rw [hml]; exact hf.2.1.symm) hown (hts _ k1) (hts _ k2) (hts _ hi) (hts _ k3) (by omega) (by rw [am_sum_map]; omega) (by omega) (by omega) hd (h ad H locs cells slots ls hw hf ⟨trivial, hs.2.2⟩ hcl hsl)
  · obtain ⟨x, y, r, rfl, h⟩ := am_ll_at h
    obtain ⟨ho, h⟩ := am_on_at h
    have hsum : am_sum r ≤ 8 := Nat.le_of_ble_eq_true ho
    intro ad H locs cells slots ls hw hf hs hcl hsl
    exact va_mmax_long hx1 hb (by rw [hml]; exact hf.2.1.symm) hown (hts _ k1) (hts _ k2) (hts _ hi) (hts _ k3) (by omega) (by rw [am_sum_map]; omega) (by omega) (by omega) hd (h ad H locs cells slots ls hw hf ⟨trivial, hs.2.2⟩ hcl hsl)
  · obtain ⟨x, y, r, rfl, h⟩ := am_ii_at h
    obtain ⟨ho, h⟩ := am_on_at h
    have hsum : am_sum r ≤ 8 := Nat.le_of_ble_eq_true ho
    intro ad H locs cells slots ls hw hf hs hcl hsl
    exact va_mmin hx1 hb (by rw [hml]; exact hf.2.1.symm) hown (hts _ k1) (hts _ k2) (hts _ hi) (hts _ k3) (by omega) (by rw [am_sum_map]; omega) (by omega) (by omega) hd (h ad H locs cells slots ls hw hf ⟨trivial, hs.2.2⟩ hcl hsl)
/-- what is wanted at a method's end -/
def am_Ret (p : Program) (l : Launch) (e : Env) (R : Room) (s : State) (m : MethodId) (args : Array Value) (below : List Frame) (meth : Method) (c : Code) (Qf : State → Prop) (D : va_G) (tC : Nat → ClassId) (A : Nat → Prop) (ad0 : Nat → Nat) (M0 : am_M) (cc : ByteArray) (ret : Option FieldType) (Q : am_Q) : Prop :=
  ∀ (ad : Nat → Nat) (H : Heap) (locs : List Loc) (cells slots : Nat) (ls : Array Slot) (pc : Nat) (M : am_M), am_Wn s D tC A ad0 M0 ad M H locs → cells ≤ R.cells → slots ≤ R.slots →
    (∀ x : Int32, Q (some (.int x)) M → decode cc pc = .ok (.ireturn, 1) → (ret = some .int ∨ (ret = some .boolean ∧ (x = 0 ∨ x = 1))) → W p l e R s m args below meth c H locs cells slots Qf (F0 m pc ls [.int x])) ∧
    (∀ x : Int64, Q (some (.long x)) M → decode cc pc = .ok (.lreturn, 1) → ret = some .long → W p l e R s m args below meth c H locs cells slots Qf (F0 m pc ls [.long x])) ∧
    (Q none M → decode cc pc = .ok (.return_, 1) → ret = none → W p l e R s m args below meth c H locs cells slots Qf (F0 m pc ls []))
set_option maxHeartbeats 8000000 in
theorem am_ex_sound {nm : String} (hnm : meth.name = nm) (hnok : ∀ w ∈ am_nest, am_nok w) (C : am_Ctx p s m args c D tC A ad0 M0 nL own cc am_nest) (hR : d + 1 ≤ R.frames ∧ 33 * (d + 1) ≤ R.locals) {call : am_C} {Q : am_Q} (hcs : ∀ (k : Nat) (as : List Value) (c1 s1 : Nat) (M : am_M) (Q : am_Q), call k as c1 s1 M Q → am_Met l d k as c1 s1 M Q)
    (hret : am_Ret p l e R s m args below meth c Qf D tC A ad0 M0 cc ret Q) {x : am_I} {F : am_F} (hok : am_okI own nm cc ret F.1 x) (h : am_ex call Q (am_P p l e R s m args below meth c Qf D tC A ad0 M0 nL) x F M) : am_P p l e R s m args below meth c Qf D tC A ad0 M0 nL F M := by
  obtain ⟨pc, L, st, bc, bs⟩ := F
  obtain ⟨ins, nx, a, b, z⟩ := x
  obtain ⟨len, hd, hl, hx, hc⟩ := hok
  replace hd : decode cc pc = .ok (ins, len) := hd
  replace hl : am_isT ins = false → len = am_len ins ∧ nx = pc + am_len ins := hl
  replace hx : am_okx own ret pc (ins, nx, a, b, z) := hx
  replace hc : am_okc own nm (ins, nx, a, b, z) := hc
  have hx1 := C.1
  have hb := C.2.1
  have hown := C.2.2.2.1
  have hts := C.2.2.2.2.1
  cases ins
  case tableswitch df lo hi offs => exact am_s_switch C hd hx h
  all_goals obtain ⟨rfl, rfl⟩ := hl rfl
  case iconst n => exact am_pq h (fun _ q => ⟨trivial, q⟩) (fun ad H locs cells slots ls k => lv_iconst hx1 hb hd rfl k)
  case bipush n => exact am_pq h (fun _ q => ⟨trivial, q⟩) (fun ad H locs cells slots ls k => lv_bipush hx1 hb hd hx k)
  case sipush n => exact am_pq h (fun _ q => ⟨trivial, q⟩) (fun ad H locs cells slots ls k => lv_sipush hx1 hb hd hx k)
  case lconst n => exact am_pq h (fun _ q => ⟨trivial, q⟩) (fun ad H locs cells slots ls k => lv_lconst hx1 hb hd hx k)
  case ldc n => exact am_pq h (fun _ q => ⟨trivial, q⟩) (fun ad H locs cells slots ls k => lv_ldc hx1 hb hown (hts _ hx) hd k)
  case ldc_w n => exact am_pq h (fun _ q => ⟨trivial, q⟩) (fun ad H locs cells slots ls k => lv_ldcw hx1 hb hown (hts _ hx) hd k)
  case ldc2_w n => exact am_pq h (fun _ q => ⟨trivial, q⟩) (fun ad H locs cells slots ls k => lv_ldc2 hx1 hb hown (hts _ hx) hd k)
  case iload n =>
    obtain ⟨v, h1, h⟩ := am_iload_at (L := L) (i := n) (f := fun v => am_P p l e R s m args below meth c Qf D tC A ad0 M0 nL (_, L, v :: st, bc, bs) M) h
    exact am_pl h1 (fun q => by cases q) (fun ad H locs cells slots ls hl k => lv_iload hx1 hb hd hl k) h
  case iload_n n =>
    obtain ⟨v, h1, h⟩ := am_iload_at (L := L) (i := n) (f := fun v => am_P p l e R s m args below meth c Qf D tC A ad0 M0 nL (_, L, v :: st, bc, bs) M) h
    exact am_pl h1 (fun q => by cases q) (fun ad H locs cells slots ls hl k => lv_iload_n hx1 hb hd rfl hl k) h
  case lload n =>
    obtain ⟨v, h1, h⟩ := am_lload_at (L := L) (i := n) (f := fun v => am_P p l e R s m args below meth c Qf D tC A ad0 M0 nL (_, L, v :: st, bc, bs) M) h
    exact am_pl h1 (fun q => by cases q) (fun ad H locs cells slots ls hl k => lv_lload hx1 hb hd hl k) h
  case lload_n n =>
    obtain ⟨v, h1, h⟩ := am_lload_at (L := L) (i := n) (f := fun v => am_P p l e R s m args below meth c Qf D tC A ad0 M0 nL (_, L, v :: st, bc, bs) M) h
    exact am_pl h1 (fun q => by cases q) (fun ad H locs cells slots ls hl k => lv_lload_n hx1 hb hd rfl hl k) h
  case aload n =>
    obtain ⟨v, h1, h⟩ := am_aload_at (L := L) (i := n) (f := fun v => am_P p l e R s m args below meth c Qf D tC A ad0 M0 nL (_, L, v :: st, bc, bs) M) h
    exact am_pl h1 (fun q => by cases q) (fun ad H locs cells slots ls hl k => lv_aload hx1 hb hd hl k) h
  case aload_n n =>
    obtain ⟨v, h1, h⟩ := am_aload_at (L := L) (i := n) (f := fun v => am_P p l e R s m args below meth c Qf D tC A ad0 M0 nL (_, L, v :: st, bc, bs) M) h
    exact am_pl h1 (fun q => by cases q) (fun ad H locs cells slots ls hl k => lv_aload_n hx1 hb hd rfl hl k) h
  case istore n =>
    obtain ⟨v, r, rfl, h⟩ := am_i_at h
    obtain ⟨ho, h⟩ := am_on_at h
    exact am_ps1 ho (fun ad H locs cells slots ls lv hi hl k => lv_istore hx1 hb hd hl hi rfl k) h
  case istore_n n =>
    obtain ⟨v, r, rfl, h⟩ := am_i_at h
    obtain ⟨ho, h⟩ := am_on_at h
    exact am_ps1 ho (fun ad H locs cells slots ls lv hi hl k => lv_istore_n hx1 hb hd rfl hl hi rfl k) h
  case lstore n =>
    obtain ⟨v, r, rfl, h⟩ := am_l_at h
    obtain ⟨ho, h⟩ := am_on_at h
    exact am_ps2 ho (fun ad H locs cells slots ls lv hi hl k => lv_lstore hx1 hb hd hl hi rfl k) h
  case lstore_n n =>
    obtain ⟨v, r, rfl, h⟩ := am_l_at h
    obtain ⟨ho, h⟩ := am_on_at h
    exact am_ps2 ho (fun ad H locs cells slots ls lv hi hl k => lv_lstore_n hx1 hb hd rfl hl hi rfl k) h
  case astore n =>
    obtain ⟨v, r, rfl, h⟩ := am_r_at h
    obtain ⟨ho, h⟩ := am_on_at h
    exact am_ps1 ho (fun ad H locs cells slots ls lv hi hl k => lv_astore hx1 hb hd hl hi rfl k) h
  case astore_n n =>
    obtain ⟨v, r, rfl, h⟩ := am_r_at h
    obtain ⟨ho, h⟩ := am_on_at h
    exact am_ps1 ho (fun ad H locs cells slots ls lv hi hl k => lv_astore_n hx1 hb hd rfl hl hi rfl k) h
  case iinc n k =>
    obtain ⟨v, h1, h⟩ := am_iload_at (L := L) (i := n) (f := fun v => match v with | .int x => am_P p l e R s m args below meth c Qf D tC A ad0 M0 nL (_, am_st1 L n (.int (x + Int32.ofInt k)), st, bc, bs) M | _ => False) h
    exact am_s_iinc C hd h1 h
  case iadd => obtain ⟨x, y, r, rfl, h⟩ := am_ii_at h; exact am_pq h (fun _ q => ⟨trivial, q.2.2⟩) (fun ad H locs cells slots ls k => lv_iadd hx1 hb hd k)
  case isub => obtain ⟨x, y, r, rfl, h⟩ := am_ii_at h; exact am_pq h (fun _ q => ⟨trivial, q.2.2⟩) (fun ad H locs cells slots ls k => lv_isub hx1 hb hd k)
  case imul => obtain ⟨x, y, r, rfl, h⟩ := am_ii_at h; exact am_pq h (fun _ q => ⟨trivial, q.2.2⟩) (fun ad H locs cells slots ls k => lv_imul hx1 hb hd k)
  case iand => obtain ⟨x, y, r, rfl, h⟩ := am_ii_at h; exact am_pq h (fun _ q => ⟨trivial, q.2.2⟩) (fun ad H locs cells slots ls k => lv_iand hx1 hb hd k)
  case ior => obtain ⟨x, y, r, rfl, h⟩ := am_ii_at h; exact am_pq h (fun _ q => ⟨trivial, q.2.2⟩) (fun ad H locs cells slots ls k => lv_ior hx1 hb hd k)
  case ixor => obtain ⟨x, y, r, rfl, h⟩ := am_ii_at h; exact am_pq h (fun _ q => ⟨trivial, q.2.2⟩) (fun ad H locs cells slots ls k => lv_ixor hx1 hb hd k)
  case ishl => obtain ⟨x, y, r, rfl, h⟩ := am_ii_at h; exact am_pq h (fun _ q => ⟨trivial, q.2.2⟩) (fun ad H locs cells slots ls k => lv_ishl hx1 hb hd k)
  case ishr => obtain ⟨x, y, r, rfl, h⟩ := am_ii_at h; exact am_pq h (fun _ q => ⟨trivial, q.2.2⟩) (fun ad H locs cells slots ls k => lv_ishr hx1 hb hd k)
  case iushr => obtain ⟨x, y, r, rfl, h⟩ := am_ii_at h; exact am_pq h (fun _ q => ⟨trivial, q.2.2⟩) (fun ad H locs cells slots ls k => lv_iushr hx1 hb hd rfl k)
  case idiv => obtain ⟨x, y, r, rfl, h0, h⟩ := am_ii_at h; exact am_pq h (fun _ q => ⟨trivial, q.2.2⟩) (fun ad H locs cells slots ls k => lv_idiv hx1 hb hd h0 k)
  case irem => obtain ⟨x, y, r, rfl, h0, h⟩ := am_ii_at h; exact am_pq h (fun _ q => ⟨trivial, q.2.2⟩) (fun ad H locs cells slots ls k => lv_irem hx1 hb hd h0 k)
  case ineg => obtain ⟨x, r, rfl, h⟩ := am_i_at h; exact am_pq h (fun _ q => ⟨trivial, q.2⟩) (fun ad H locs cells slots ls k => lv_ineg hx1 hb hd k)
  case i2l => obtain ⟨x, r, rfl, h⟩ := am_i_at h; exact am_pq h (fun _ q => ⟨trivial, q.2⟩) (fun ad H locs cells slots ls k => lv_i2l hx1 hb hd rfl k)
  case i2b => obtain ⟨x, r, rfl, h⟩ := am_i_at h; exact am_pq h (fun _ q => ⟨trivial, q.2⟩) (fun ad H locs cells slots ls k => lv_i2b hx1 hb hd rfl k)
  case i2s => obtain ⟨x, r, rfl, h⟩ := am_i_at h; exact am_pq h (fun _ q => ⟨trivial, q.2⟩) (fun ad H locs cells slots ls k => lv_i2s hx1 hb hd rfl k)
  case ladd => obtain ⟨x, y, r, rfl, h⟩ := am_ll_at h; exact am_pq h (fun _ q => ⟨trivial, q.2.2⟩) (fun ad H locs cells slots ls k => lv_ladd hx1 hb hd k)
  case lsub => obtain ⟨x, y, r, rfl, h⟩ := am_ll_at h; exact am_pq h (fun _ q => ⟨trivial, q.2.2⟩) (fun ad H locs cells slots ls k => lv_lsub hx1 hb hd k)
  case lmul => obtain ⟨x, y, r, rfl, h⟩ := am_ll_at h; exact am_pq h (fun _ q => ⟨trivial, q.2.2⟩) (fun ad H locs cells slots ls k => lv_lmul hx1 hb hd k)
  case ldiv => obtain ⟨x, y, r, rfl, h0, h⟩ := am_ll_at h; exact am_pq h (fun _ q => ⟨trivial, q.2.2⟩) (fun ad H locs cells slots ls k => lv_ldiv hx1 hb hd h0 k)
  case lrem => obtain ⟨x, y, r, rfl, h0, h⟩ := am_ll_at h; exact am_pq h (fun _ q => ⟨trivial, q.2.2⟩) (fun ad H locs cells slots ls k => lv_lrem hx1 hb hd h0 k)
  case lneg => obtain ⟨x, r, rfl, h⟩ := am_l_at h; exact am_pq h (fun _ q => ⟨trivial, q.2⟩) (fun ad H locs cells slots ls k => lv_lneg hx1 hb hd k)
  case lcmp => obtain ⟨x, y, r, rfl, h⟩ := am_ll_at h; exact am_pq h (fun _ q => ⟨trivial, q.2.2⟩) (fun ad H locs cells slots ls k => W.lcmp hx1 hb hd k)
  case dup =>
    obtain ⟨v, r, rfl, h⟩ := am_v_at h
    obtain ⟨ho, h⟩ := am_on_at h
    exact am_pq h (fun _ q => ⟨q.1, q⟩) (fun ad H locs cells slots ls k => lv_dup hx1 hb hd (by rw [am_cv_cat]; exact Nat.eq_of_beq_eq_true ho) k)
  case dup2 =>
    obtain ⟨v, r, rfl, h⟩ := am_v_at h
    obtain ⟨w, r, rfl, h⟩ := am_v_at h
    obtain ⟨ho, h⟩ := am_on_at h
    simp only [Bool.and_eq_true] at ho
    exact am_pq h (fun _ q => ⟨q.1, q.2.1, q⟩) (fun ad H locs cells slots ls k => lv_dup2_11 hx1 hb hd (by rw [am_cv_cat]; exact Nat.eq_of_beq_eq_true ho.1) (by rw [am_cv_cat]; exact Nat.eq_of_beq_eq_true ho.2) k)
  case pop =>
    obtain ⟨v, r, rfl, h⟩ := am_v_at h
    obtain ⟨ho, h⟩ := am_on_at h
    exact am_pq h (fun _ q => q.2) (fun ad H locs cells slots ls k => lv_pop hx1 hb hd (by rw [am_cv_cat]; exact Nat.eq_of_beq_eq_true ho) k)
  case ifCond cd o =>
    cases cd
    · obtain ⟨x, r, rfl, h⟩ := am_i_at h; exact am_pb (fun _ q => q.2) (fun ad H locs cells slots ls k1 k2 => lv_if_eq hx1 hb hd hx k1 k2) h
    · obtain ⟨x, r, rfl, h⟩ := am_i_at h; exact am_pb (fun _ q => q.2) (fun ad H locs cells slots ls k1 k2 => lv_if_ne hx1 hb hd hx k2 k1) h
    · obtain ⟨x, r, rfl, h⟩ := am_i_at h; exact am_pb (fun _ q => q.2) (fun ad H locs cells slots ls k1 k2 => lv_if_lt hx1 hb hd hx k1 k2) h
    · obtain ⟨x, r, rfl, h⟩ := am_i_at h; exact am_pb (fun _ q => q.2) (fun ad H locs cells slots ls k1 k2 => lv_if_ge hx1 hb hd hx k1 k2) h
    · obtain ⟨x, r, rfl, h⟩ := am_i_at h; exact am_pb (fun _ q => q.2) (fun ad H locs cells slots ls k1 k2 => lv_if_gt hx1 hb hd hx k1 k2) h
    · obtain ⟨x, r, rfl, h⟩ := am_i_at h; exact am_pb (fun _ q => q.2) (fun ad H locs cells slots ls k1 k2 => lv_if_le hx1 hb hd hx k1 k2) h
  case if_icmp cd o =>
    cases cd
    · obtain ⟨x, y, r, rfl, h⟩ := am_ii_at h; exact am_pb (fun _ q => q.2.2) (fun ad H locs cells slots ls k1 k2 => lv_icmp_eq hx1 hb hd hx k1 k2) h
    · obtain ⟨x, y, r, rfl, h⟩ := am_ii_at h; exact am_pb (fun _ q => q.2.2) (fun ad H locs cells slots ls k1 k2 => lv_icmp_ne hx1 hb hd hx k2 k1) h
    · obtain ⟨x, y, r, rfl, h⟩ := am_ii_at h; exact am_pb (fun _ q => q.2.2) (fun ad H locs cells slots ls k1 k2 => lv_icmp_lt hx1 hb hd hx k1 k2) h
    · obtain ⟨x, y, r, rfl, h⟩ := am_ii_at h; exact am_pb (fun _ q => q.2.2) (fun ad H locs cells slots ls k1 k2 => lv_icmp_ge hx1 hb hd hx k1 k2) h
    · obtain ⟨x, y, r, rfl, h⟩ := am_ii_at h; exact am_pb (fun _ q => q.2.2) (fun ad H locs cells slots ls k1 k2 => lv_icmp_gt hx1 hb hd hx k1 k2) h
    · obtain ⟨x, y, r, rfl, h⟩ := am_ii_at h; exact am_pb (fun _ q => q.2.2) (fun ad H locs cells slots ls k1 k2 => lv_icmp_le hx1 hb hd hx k1 k2) h
  case goto o => exact am_pq h (fun _ q => q) (fun ad H locs cells slots ls k => lv_goto hx1 hb hd hx k)
  case getfield i => exact am_s_get C hd hx h
  case putfield i =>
    rcases hc with rfl | ⟨h0, r', k1, k2, k3, k4, k5⟩
    · exact am_s_put C hd rfl hx h
    · exact am_s_putb (i := i) (z := z) (fun _ _ _ _ hk hn hsh h1 h2 h3 hq hnar hfit hv ho h => am_s_putF C hd (hnm.trans h0) k1 k2 k3 k4 k5 hk hn hsh h1 h2 h3 hq hnar hfit hv ho h) h
  case iaload => exact am_s_iald C hd h
  case baload => exact am_s_zald C hd h
  case laload => exact am_s_lald C hd h
  case aaload => exact am_s_aald C hd hx h
  case iastore => exact am_s_iast C hd h
  case bastore => exact am_s_zast C hd h
  case lastore => exact am_s_last C hd h
  case arraylength => exact am_s_alen C hd h
  case newarray t =>
    cases t
    case int => exact am_s_newa C hd hx h
    case boolean => exact am_s_newz C hd hc h
    case long => exact am_s_newl C hd hc h
    all_goals exact False.elim (by first | exact hc | exact h)
  case getstatic i =>
    obtain ⟨h1, h2⟩ := hc
    obtain ⟨ho, h⟩ := am_on_at h
    rcases h2 with h2 | ⟨host, h2⟩
    · exact am_s_stc C hd h1 h2 h
    · exact am_s_stcN C hd h1 (va_Nw.use rfl (C.2.2.2.2.2.2.1 _ h2)) h
  case new i => exact am_s_new C hd hc.1 hc.2.1 hc.2.2 h
  case anewarray i => exact am_s_newq C hd hc h
  case aastore => exact am_s_astq C hd h
  case checkcast i => exact am_s_castA C hd hc h
  case multianewarray i j =>
    obtain ⟨rfl, h2⟩ := hc
    exact am_s_multi C hd h2 h
  case invokespecial i =>
    rcases hc with ⟨rfl, h1, h2, h3⟩ | ⟨h0, h1, h2, h3, h4, h5⟩
    · exact am_s_obj C hR hd h1 h2 h3 h
    · replace h : (match Nat.beq a 1000 with | true => _ | false => am_on (Nat.ble b st.length && Nat.ble (am_sum (st.drop b)) 8 && Nat.ble (am_ent (st.take b).reverse).length (am_nl a) && am_recv M (am_kc a) (st.take b).reverse) (am_call call (am_P p l e R s m args below meth c Qf D tC A ad0 M0 nL) (pc + 3) a b z L st bc bs M)) := h
      rw [h0] at h
      exact am_s_init hnok C hR hcs hd h1 h2 h3 h4 h5 h
  case invokestatic i =>
    rcases hc with ⟨rfl, h1, h2, h3, h4⟩ | hm | ⟨h0, h00, h1, h2, h3⟩
    · exact am_s_copy C hR hd h1 h2 h3 h4 h
    · exact am_s_math C hR hd hm h
    · replace h : (match Nat.beq a 1002 with | true => _ | false => match Nat.beq a 1003 with | true => _ | false => am_on (Nat.ble b st.length && Nat.ble (am_sum (st.drop b)) 8 && Nat.ble (am_ent (st.take b).reverse).length (am_nl a)) (am_call call (am_P p l e R s m args below meth c Qf D tC A ad0 M0 nL) (pc + 3) a b z L st bc bs M)) := h
      rw [h0, h00] at h
      exact am_s_stat hnok C hR hcs hd h1 h2 h3 h
  case invokevirtual i =>
    rcases hc with ⟨rfl, h1, h2, h3, h4, h5⟩ | ⟨h0, h1, h2, h3⟩
    · exact am_s_clone C hR hd h1 h2 h3 h4 h5 h
    · replace h : (match Nat.beq a 1001 with | true => _ | false => am_on (Nat.ble b st.length && Nat.ble (am_sum (st.drop b)) 8 && Nat.ble (am_ent (st.take b).reverse).length (am_nl a) && am_recv M (am_kc a) (st.take b).reverse) (am_call call (am_P p l e R s m args below meth c Qf D tC A ad0 M0 nL) (pc + 3) a b z L st bc bs M)) := h
      rw [h0] at h
      exact am_s_virt hnok C hR hcs hd h1 h2 h3 h
  case ireturn =>
    obtain ⟨x, r, rfl, h⟩ := am_i_at h
    obtain ⟨ho, h⟩ := am_on_at h
    cases r with
    | cons v r => cases ho
    | nil =>
      intro ad H locs cells slots ls hw hf hs hcl hsl
      cases b with
      | zero => exact (hret ad H locs cells slots ls pc M hw (by omega) (by omega)).1 x h hd (Or.inl hx)
      | succ b => exact (hret ad H locs cells slots ls pc M hw (by omega) (by omega)).1 x h.2 hd (Or.inr ⟨hx, h.1⟩)
  case lreturn =>
    obtain ⟨x, r, rfl, h⟩ := am_l_at h
    obtain ⟨ho, h⟩ := am_on_at h
    cases r with
    | cons v r => cases ho
    | nil =>
      intro ad H locs cells slots ls hw hf hs hcl hsl
      exact (hret ad H locs cells slots ls pc M hw (by omega) (by omega)).2.1 x h hd hx
  case return_ =>
    obtain ⟨ho, h⟩ := am_on_at h
    cases st with
    | cons v r => cases ho
    | nil =>
      intro ad H locs cells slots ls hw hf hs hcl hsl
      exact (hret ad H locs cells slots ls pc M hw (by omega) (by omega)).2.2 h hd hx
  all_goals exact False.elim (by first | exact hc | exact h)
end AML
