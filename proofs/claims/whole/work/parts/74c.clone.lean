/-! a clone of a row that is told, not of the world -/
section AMCL
variable {p : Program} {l : Launch} {e : Env} {R : Room} {s : State} {m : MethodId} {args : Array Value} {below : List Frame} {meth : Method} {c : Code} {Qf : State → Prop} {H : Heap} {locs : List Loc} {cells slots : Nat}
theorem am_cloneW {cc : ByteArray} {pc : Nat} {ls : Array Slot} {rest : List Value} (hexec : p.tables.exec = Jvm.exec) (hb : c.code = cc) (hml : c.maxLocals = ls.size) {own : String} {index : Nat} (hown : s.vm.findClass own = some m.cls)
    (hlink : (Cond.methodLink own index ⟨"[I", "clone", "()Ljava/lang/Object;"⟩).before args s = true) (hsame : (Cond.sameMethod "[I" "java/lang/Object" "clone" "()Ljava/lang/Object;").before args s = true)
    (hnat : (Cond.native ⟨"java/lang/Object", "clone", "()Ljava/lang/Object;"⟩).before args s = true) (hinst : (Cond.instanceMethod ⟨"java/lang/Object", "clone", "()Ljava/lang/Object;"⟩).before args s = true)
    (hsel : (Cond.selects "[I" ⟨"[I", "clone", "()Ljava/lang/Object;"⟩ ⟨"java/lang/Object", "clone", "()Ljava/lang/Object;"⟩).before args s = true) (hcl : va_Nw (.castable "[I" "java/lang/Cloneable") s)
    {a : Nat} {cell : Cell} {kS : Class} {compS : ClassId} (hH : H[a]? = some cell) (hobj : ∀ k, cell.vm ≠ .statics k) (hknown : cell.vm ≠ .unknown) (hnm : s.vm.findClass "[I" = some cell.cls) (hkS : s.vm.classes[cell.cls]? = some kS) (hkind : kS.kind = .array compS .int) (hfit : ∀ (i : Nat) (v : Value), cell.slots[i]? = some v → fits .int v = true)
    (hframes : 1 ≤ R.frames) (hlocals : (rest.map fun v => v.category).sum + 14 ≤ R.locals) (hcells : cells + 1 ≤ R.cells) (hslots : slots + cell.slots.size ≤ R.slots) (hdg : decode cc pc = .ok (.invokevirtual index, 3))
    (kk : W p l e R s m args below meth c (H.push { cls := cell.cls, slots := cell.slots }) locs (cells + 1) (slots + cell.slots.size) Qf (F0 m (pc + 3) ls (.ref H.size :: rest))) : W p l e R s m args below meth c H locs cells slots Qf (F0 m pc ls (.ref a :: rest)) := by
  intro T hT X
  subst hT
  subst hb
  obtain ⟨c0, cC, f1, f2, f3⟩ := Cond.castable_spec (va_Nw.use (A := args) rfl hcl)
  cases hnm.symm.trans f1
  obtain ⟨kT, hkT, heT⟩ := X.warmed.alike.2.2 _ _ hkS
  have hkT2 : kT.kind = .array compS .int := by rw [heT]; exact hkind
  obtain ⟨vm', X', st⟩ := X.cloneArray hexec hown hlink hsame hnat hinst hsel (a := a) (cell := cell) hH hobj hknown hnm f2 f3
    (fun i v hv => by simpa [State.fitsSlot, State.slotType?, hkT, hkT2] using hfit i v hv)
    (g := F0 m pc ls (.ref a :: rest)) rfl (by rw [hml]) rfl hdg hframes (by show 2 * 0 + _ + 14 ≤ _; omega) hcells hslots (hloader := Vm.clonesLoader_of_array hkS hkind)
  obtain ⟨t, a1, b1⟩ := kk ((T.setVm vm').pushCell { cls := cell.cls, slots := cell.slots }) (by rfl) X'
  exact ⟨t, st t a1, b1⟩
variable {D : va_G} {tC : Nat → ClassId} {A : Nat → Prop} {ad0 : Nat → Nat} {M0 : am_M} {nL : Nat} {own : String} {cc : ByteArray} {nest : List Cond} {pc i d bc bs : Nat} {L st : List Value} {M : am_M}
theorem am_s_clone (C : am_Ctx p s m args c D tC A ad0 M0 nL own cc nest) (hR : d + 1 ≤ R.frames ∧ 33 * (d + 1) ≤ R.locals) (hd : decode cc pc = .ok (.invokevirtual i, 3))
    (h1 : Cond.methodLink own i ⟨"[I", "clone", "()Ljava/lang/Object;"⟩ ∈ am_tb) (h2 : Cond.sameMethod "[I" "java/lang/Object" "clone" "()Ljava/lang/Object;" ∈ am_tb) (h3 : Cond.native ⟨"java/lang/Object", "clone", "()Ljava/lang/Object;"⟩ ∈ am_tb) (h4 : Cond.instanceMethod ⟨"java/lang/Object", "clone", "()Ljava/lang/Object;"⟩ ∈ am_tb) (h5 : Cond.selects "[I" ⟨"[I", "clone", "()Ljava/lang/Object;"⟩ ⟨"java/lang/Object", "clone", "()Ljava/lang/Object;"⟩ ∈ am_tb)
    (h : am_r st fun r rest => am_on (am_ob M r 1 && Nat.ble (am_sum rest) 8) (r < 3 ∧ 1 ≤ bc ∧ (M.2.1 r).2 ≤ bs ∧ am_P p l e R s m args below meth c Qf D tC A ad0 M0 nL (pc + 3, L, .ref M.1 :: rest, bc - 1, bs - (M.2.1 r).2) (M.1 + 1, (fun c => if c = M.1 then (0, (M.2.1 r).2) else M.2.1 c), am_ur M.2.2.1 M.1 (M.2.2.1 r), M.2.2.2.1, M.2.2.2.2))) : am_P p l e R s m args below meth c Qf D tC A ad0 M0 nL (pc, L, st, bc, bs) M := by
  obtain ⟨hx1, hb, hml, hown, hts, hK, hN, hT, hZ, hA, h40, hX⟩ := C
  obtain ⟨r, rest, rfl, h⟩ := am_r_at h
  obtain ⟨ho, hr3, hbc, hbs, h⟩ := am_on_at h
  rw [Bool.and_eq_true] at ho
  have hsum : am_sum rest ≤ 8 := Nat.le_of_ble_eq_true ho.2
  intro ad H locs cells slots ls hw hf hs hcl hsl
  obtain ⟨hP, hD, hS, hwf, hag, hn0, hro⟩ := id hw
  replace hcl : cells + bc ≤ R.cells := hcl
  replace hsl : slots + bs ≤ R.slots := hsl
  obtain ⟨cell, c1, c2, c3, c4, c5, c6, c7⟩ := hX.2 r hr3
  obtain ⟨e1, e2⟩ := hro r (by omega)
  rw [← e1] at c3
  rw [← e1, ← e2] at c4
  have hH : H[ad0 r]? = some cell := by rw [hS.2.1 _ (Array.getElem?_eq_some_iff.mp c1).1 c7]; exact c1
  have hnm : s.vm.findClass "[I" = some (tC 0) := (hK.2 0 (tC 0, .int) rfl).2
  obtain ⟨-, kS, hkS, compS, hkind⟩ := (hK.2 0 (tC 0, .int) rfl).1 0 (fun _ => .null)
  have hcat := am_sum_map ad rest
  have har : ad r = ad0 r := hag r (by omega)
  have hce : ({ cls := cell.cls, slots := cell.slots } : Cell) = arrV (tC 0) (M.2.1 r).2 (fun j => .int (M.2.2.1 r j)) := by
    have hsl2 : cell.slots = Array.ofFn (n := (M.2.1 r).2) fun j => Value.int (M.2.2.1 r j.val) := by
      apply Array.ext_getElem?
      intro j
      by_cases hj : j < (M.2.1 r).2
      · rw [c4 j hj, Array.getElem?_ofFn, dif_pos hj]
      · rw [Array.getElem?_eq_none (by omega), Array.getElem?_eq_none (by simp; omega)]
    unfold arrV
    rw [c2, hsl2]
  show W p l e R s m args below meth c H locs cells slots Qf (F0 m pc ls (.ref (ad r) :: rest.map (am_cv ad)))
  rw [har]
  refine am_cloneW hx1 hb (by rw [hml]; exact hf.2.1.symm) hown (hts _ h1) (hts _ h2) (hts _ h3) (hts _ h4) (hts _ h5) hX.1.1 hH c5 c6 (by rw [c2]; exact hnm) (by rw [c2]; exact hkS) hkind (fun j v hv => ?_) (by omega) (by rw [hcat]; omega) (by omega) (by rw [c3]; omega) hd ?_
  · have hj : j < (M.2.1 r).2 := by rw [← c3]; exact (Array.getElem?_eq_some_iff.mp hv).1
    rw [c4 j hj] at hv
    cases hv
    rfl
  · rw [hce, c3]
    generalize hH1 : H.push (arrV (tC 0) (M.2.1 r).2 (fun j => .int (M.2.2.1 r j))) = H1
    have z1 : H1.size = H.size + 1 := by rw [← hH1, Array.size_push]
    have e5 : H1[H.size]? = some (arrV (tC 0) (M.2.1 r).2 (fun j => .int (M.2.2.1 r j))) := by rw [← hH1, Array.getElem?_push_size]
    have o1 : ∀ q : Nat, q < H.size → H1[q]? = H[q]? := fun q hq => by rw [← hH1, Array.getElem?_push, if_neg (Nat.ne_of_lt hq)]
    refine am_push hw hf hs.2 (E := .inl (tC 0, (M.2.1 r).2, .inl (M.2.2.1 r))) (M' := (M.1 + 1, (fun c => if c = M.1 then (0, (M.2.1 r).2) else M.2.1 c), am_ur M.2.2.1 M.1 (M.2.2.1 r), M.2.2.2.1, M.2.2.2.2)) rfl (fun c e => if_neg e) (fun c e => am_ur_ne e) (fun _ _ => rfl) (fun _ _ => rfl) (by show (if M.1 = M.1 then (0, (M.2.1 r).2) else M.2.1 M.1).1 ≠ 1; rw [if_pos rfl]; exact (fun q => by cases q)) (fun j w hj => Nat.lt_succ_of_lt (hwf.2.2.2 _ j w hj)) ?_ ((hP.kept (fun k x hx => o1 x.1 ((hP k x hx).lt))).app (fun k x hx => ?_)) (hD.push hP rfl (hA _ hS.1)) ⟨Nat.le_trans hS.1 (by omega), fun y g1 g2 => (o1 y (Nat.lt_of_lt_of_le g1 hS.1)).trans (hS.2.1 y g1 g2), hS.2.2⟩ h (by omega) (by omega)
    · rw [am_cell_0 (by show (if M.1 = M.1 then (0, (M.2.1 r).2) else M.2.1 M.1).1 = 0; rw [if_pos rfl])]
      show Sum.inl (tC 0, (if M.1 = M.1 then (0, (M.2.1 r).2) else M.2.1 M.1).2, Sum.inl (am_ur M.2.2.1 M.1 (M.2.2.1 r) M.1)) = _
      rw [if_pos rfl, am_ur_at]
    · have hz : k < 1 := (List.getElem?_eq_some_iff.mp hx).1
      rw [show k = 0 by omega] at hx
      cases hx
      exact e5
end AMCL
