/-! a clone of a row that is told, not of the world -/
section AMCL
variable {p : Program} {l : Launch} {e : Env} {R : Room} {s : State} {m : MethodId} {args : Array Value} {below : List Frame} {meth : Method} {c : Code} {Qf : State → Prop} {H : Heap} {locs : List Loc} {cells slots : Nat}
theorem am_cloneW {cc : ByteArray} {pc : Nat} {ls : Array Slot} {rest : List Value} (hexec : p.tables.exec = Jvm.exec) (hb : c.code = cc) (hml : c.maxLocals = ls.size) {own : String} {index : Nat} (hown : s.vm.findClass own = some m.cls)
    (hlink : (Cond.methodLink own index ⟨"[I", "clone", "()Ljava/lang/Object;"⟩).before args s = true) (hsame : (Cond.sameMethod "[I" "java/lang/Object" "clone" "()Ljava/lang/Object;").before args s = true)
    (hnat : (Cond.native ⟨"java/lang/Object", "clone", "()Ljava/lang/Object;"⟩).before args s = true) (hinst : (Cond.instanceMethod ⟨"java/lang/Object", "clone", "()Ljava/lang/Object;"⟩).before args s = true)
    (hsel : (Cond.selects "[I" ⟨"[I", "clone", "()Ljava/lang/Object;"⟩ ⟨"java/lang/Object", "clone", "()Ljava/lang/Object;"⟩).before args s = true) (hcl : va_Nw (.castable "[I" "java/lang/Cloneable") s)
    {a : Nat} {cell : Cell} {kS : Class} {compS : ClassId} (hH : H[a]? = some cell) (hobj : ∀ k, cell.vm ≠ .statics k) (hknown : cell.vm ≠ .unknown) (hnm : s.vm.findClass "[I" = some cell.cls) (hkS : s.vm.classes[cell.cls]? = some kS) (hkind : kS.kind = .array compS .int) (hfit : ∀ (i : Nat) (v : Value), cell.slots[i]? = some v → fits .int v = true)
    (hframes : 1 ≤ R.frames) (hlocals : (rest.map fun v => v.category).sum + 14 ≤ R.locals) (hcells : cells + 1 ≤ R.cells) (hslots : slots + cell.slots.size ≤ R.slots) (hdg : decode cc pc = .ok (.invokevirtual index, 3))
    (kk : W p l e R s m args below meth c (H.push { cls := cell.cls, slots := cell.slots }) locs (cells + 1) (slots + cell.slots.size) Qf (F0 m (pc + 3) ls (.ref H.size :: rest))) : W p l e R s m args below meth c H locs cells slots Qf (F0 m pc ls (.ref a :: rest)) := by
  intro T hT X
  subst hT
  subst hb
  obtain ⟨c0, cC, f1, f2, f3⟩ := Cond.castable_spec (va_Nw.use (A := args) rfl hcl)
  cases hnm.symm.trans f1
  obtain ⟨kT, hkT, heT⟩ := X.warmed.alike.2.2 _ _ hkS
  have hkT2 : kT.kind = .array compS .int := by rw [heT]; exact hkind
  obtain ⟨vm', X', st⟩ := X.cloneArray hexec hown hlink hsame hnat hinst hsel (a := a) (cell := cell) hH hobj hknown hnm f2 f3
    (fun i v hv => by simpa [State.fitsSlot, State.slotType?, hkT, hkT2] using hfit i v hv)
    (g := F0 m pc ls (.ref a :: rest)) rfl (by rw [hml]) rfl hdg hframes (by show 2 * 0 + _ + 14 ≤ _; omega) hcells hslots (hloader := Vm.clonesLoader_of_array hkS hkind)
  obtain ⟨t, a1, b1⟩ := kk ((T.setVm vm').pushCell { cls := cell.cls, slots := cell.slots }) (by rfl) X'
  exact ⟨t, st t a1, b1⟩
end AMCL
