/-! a row of rows is made: seven rows of seven ints -/
def am_mo (cA : ClassId) (h i : Nat) : Cell := arrV cA 7 (fun j => if j < i then .ref (h + 1 + j) else .null)
def am_mi (comp : ClassId) : Cell := arrV comp 7 (fun _ => .int 0)
def am_mu (T : State) (cA comp : ClassId) : Nat → State
  | 0 => T.pushCell (am_mo cA T.heap.size 0)
  | i + 1 => ((am_mu T cA comp i).pushCell (am_mi comp)).setCell T.heap.size (am_mo cA T.heap.size (i + 1))
theorem am_mo_set (cA : ClassId) (h i : Nat) : (am_mo cA h i).setSlot i (.ref (h + 1 + i)) = am_mo cA h (i + 1) := by
  unfold am_mo
  rw [arrV_store]
  congr 1
  funext j
  unfold updV
  by_cases e : j = i
  · rw [if_pos e, if_pos (by omega), e]
  · rw [if_neg e]
    show (if j < i then Value.ref (h + 1 + j) else Value.null) = _
    by_cases k : j < i
    · rw [if_pos k, if_pos (by omega)]
    · rw [if_neg k, if_neg (by omega)]
theorem am_mu_at (T : State) (cA comp : ClassId) : ∀ i : Nat, (am_mu T cA comp i).heap.size = T.heap.size + 1 + i ∧ (am_mu T cA comp i).heap[T.heap.size]? = some (am_mo cA T.heap.size i) ∧ (am_mu T cA comp i).vm = T.vm ∧ (am_mu T cA comp i).slotsUsed = T.slotsUsed + 7 + i * 7 ∧ (∀ q : Nat, q < T.heap.size → (am_mu T cA comp i).heap[q]? = T.heap[q]?) ∧ ∀ j : Nat, j < i → (am_mu T cA comp i).heap[T.heap.size + 1 + j]? = some (am_mi comp)
  | 0 => ⟨by simp [am_mu], by simp [am_mu], rfl, by show T.slotsUsed + (am_mo cA T.heap.size 0).slots.size = _; unfold am_mo; rw [arrV_size], fun q hq => State.heap_pushCell_of_lt _ _ hq, fun j hj => absurd hj (Nat.not_lt_zero _)⟩
  | i + 1 => by
    obtain ⟨h1, h2, h3, h4, h5, h6⟩ := am_mu_at T cA comp i
    have hp : ∀ q : Nat, q < T.heap.size + 1 + i → ((am_mu T cA comp i).pushCell (am_mi comp)).heap[q]? = (am_mu T cA comp i).heap[q]? := fun q hq => State.heap_pushCell_of_lt _ _ (by rw [h1]; exact hq)
    have hn : ((am_mu T cA comp i).pushCell (am_mi comp)).heap[T.heap.size + 1 + i]? = some (am_mi comp) := by rw [← h1]; exact State.heap_pushCell_size _ _
    have hz : ((am_mu T cA comp i).pushCell (am_mi comp)).heap.size = T.heap.size + 1 + i + 1 := by simp [h1]
    have ho : ∀ q : Nat, q ≠ T.heap.size → (am_mu T cA comp (i + 1)).heap[q]? = ((am_mu T cA comp i).pushCell (am_mi comp)).heap[q]? := fun q hq => heapAt_setCell_ne _ (Ne.symm hq)
    have hlt : T.heap.size < ((am_mu T cA comp i).pushCell (am_mi comp)).heap.size := by rw [hz]; omega
    refine ⟨by show (((am_mu T cA comp i).pushCell (am_mi comp)).setCell T.heap.size _).heap.size = _; rw [size_setCell, hz]; omega, heapAt_setCell_self _ hlt, h3, ?_, fun q hq => ?_, fun j hj => ?_⟩
    · show (am_mu T cA comp i).slotsUsed + (am_mi comp).slots.size = _
      unfold am_mi
      rw [h4, arrV_size]
      omega
    · rw [ho q (by omega), hp q (by omega), h5 q hq]
    · rw [ho _ (by omega)]
      by_cases e : j = i
      · rw [e]; exact hn
      · rw [hp _ (by omega)]; exact h6 j (by omega)
theorem am_mu_top (T : State) (f : JFrame) (cA comp : ClassId) : ∀ i : Nat, am_mu (T.setTop f) cA comp i = (am_mu T cA comp i).setTop f
  | 0 => rfl
  | i + 1 => by
    show (((am_mu (T.setTop f) cA comp i)).pushCell (am_mi comp)).setCell T.heap.size _ = _
    rw [am_mu_top T f cA comp i]
    rfl
section AMWP
variable {E : CtlPost} {e : Env} {d : Bool} {acts : List Action} {s : State}
/-- seven places, all alike -/
theorem am_wpnew {c comp : ClassId} {k : Class} {type : FieldType} {init : Value} (hk : s.vm.classes[c]? = some k) (hkind : k.kind = .array comp type) (hl : ¬ 7 > e.platform.arrayLengthLimit) (hh : ¬ 7 * componentBytes type > e.platform.maxHeapBytes) (hfit : fits type init = true) (hdef : init.isDefault = true) {Q : Addr → Pre} (h1 : s.heap.size < e.platform.maxCells) (h2 : s.slotsUsed + 7 ≤ e.platform.maxSlots) (hq : Q s.heap.size d acts (s.pushCell (arrV c 7 (fun _ => init)))) : wp (Jvm.newArray c 7 init) Q E e d acts s := by
  have hf : ∀ (i : Nat) (v : Value), (Array.replicate 7 init)[i]? = some v → s.fitsSlot c .none i v = true := by
    intro i v hv
    have : v = init := Array.eq_of_mem_replicate (Array.mem_of_getElem? hv)
    subst this
    simp [State.fitsSlot, State.slotType?, hk, hkind, hfit]
  have ha : allocActs (Array.replicate 7 init) s.heap.size acts = acts := by
    unfold allocActs
    rw [if_pos (by rw [Array.all_replicate]; simp [hdef])]
  rw [← arrV_new] at hq
  simp only [Jvm.newArray, Jvm.arrayFits, wp_bind', W.ask, W.ite, hl, if_false, wp_pure', W.theClass, hk, hkind, hh, W.alloc, W.stop, Option.some.injEq, exists_eq_left', Array.size_replicate, ha]
  rw [if_neg (by omega)]
  exact ⟨h1, h2, hf, hq⟩
theorem am_wpmk1 {comp cc : ClassId} {kc : Class} (hk : s.vm.classes[comp]? = some kc) (hkind : kc.kind = .array cc .int) (hl : ¬ 7 > e.platform.arrayLengthLimit) (hh : ¬ 7 * 4 > e.platform.maxHeapBytes) {Q : Addr → Pre} (h1 : s.heap.size < e.platform.maxCells) (h2 : s.slotsUsed + 7 ≤ e.platform.maxSlots) (hq : Q s.heap.size d acts (s.pushCell (am_mi comp))) : wp (multianewarray.make comp [7]) Q E e d acts s := by
  rw [multianewarray.make]
  simp only [wp_bind', W.ite, show ¬ ((7 : Int32) < 0) by decide, if_false, wp_pure', W.theClass, hk, hkind, Option.some.injEq, exists_eq_left']
  exact am_wpnew hk hkind hl hh rfl rfl h1 h2 hq
theorem am_wpmk2 {cA comp cc : ClassId} {kA kc : Class} (hkA : s.vm.classes[cA]? = some kA) (hkindA : kA.kind = .array comp (.array .int)) (hk : s.vm.classes[comp]? = some kc) (hkind : kc.kind = .array cc .int) (hl : ¬ 7 > e.platform.arrayLengthLimit) (hh : ¬ 7 * 4 > e.platform.maxHeapBytes) (h1 : s.heap.size + 8 ≤ e.platform.maxCells) (h2 : s.slotsUsed + 56 ≤ e.platform.maxSlots) {Q : Addr → Pre} (hq : ∀ d' acts', Q s.heap.size d' acts' (am_mu s cA comp 7)) : wp (multianewarray.make cA [7, 7]) Q E e d acts s := by
  rw [multianewarray.make]
  simp only [wp_bind', W.ite, show ¬ ((7 : Int32) < 0) by decide, if_false, wp_pure', W.theClass, hkA, hkindA, Option.some.injEq, exists_eq_left']
  refine am_wpnew hkA hkindA hl hh rfl rfl (by omega) (by omega) ?_
  simp only [show ([7].find? fun x : Int32 => decide (x < 0)) = none by decide]
  rw [ite_self, wp_bind', Std.Legacy.Range.forIn_eq_forIn_range']
  rw [show ([:(7 : Int32).toNatClampNeg] : Std.Legacy.Range).size = 7 by decide]
  refine wp_forIn_inv (fun (rest : List Nat) s' => ∃ i : Nat, rest = List.range' i (7 - i) ∧ i ≤ 7 ∧ s' = am_mu s cA comp i) _ _ ⟨0, rfl, by omega, rfl⟩ ?_ ?_
  · rintro x rest s' d' acts' Q' ⟨i, hr, hi, rfl⟩ hn
    have hi7 : i < 7 := by
      rcases Nat.lt_or_ge i 7 with q | q
      · exact q
      · rw [show 7 - i = 0 by omega] at hr
        cases hr
    rw [show 7 - i = (6 - i) + 1 by omega, List.range'_succ] at hr
    injection hr with hx hr
    subst hx
    obtain ⟨f1, f2, f3, f4, f5, f6⟩ := am_mu_at s cA comp x
    simp only [wp_bind']
    refine am_wpmk1 (by rw [f3]; exact hk) hkind hl hh (by rw [f1]; omega) (by rw [f4]; omega) ?_
    simp only [wp_bind', W.writeLoc, wp_pure']
    refine ⟨am_mo cA s.heap.size x, ?_, (by unfold am_mo arrV; simp), (by unfold am_mo; rw [arrV_size]; exact hi7), ?_, hn _ _ _ ⟨x + 1, by rw [hr, show 6 - x = 7 - (x + 1) by omega], hi7, ?_⟩⟩
    · have hlt : s.heap.size < (am_mu s cA comp x).heap.size := by rw [f1]; omega
      rw [State.heap_pushCell_of_lt _ _ hlt]
      exact f2
    · unfold am_mo arrV
      simp [State.fitsSlot, State.slotType?, f3, hkA, hkindA, fits]
    · rw [f1, am_mo_set]
      rfl
  · rintro s' d' acts' ⟨i, hr, hi, rfl⟩
    have : i = 7 := by
      rcases Nat.lt_or_ge i 7 with q | q
      · rw [show 7 - i = (6 - i) + 1 by omega, List.range'_succ] at hr
        cases hr
      · omega
    subst this
    simp only [wp_pure']
    exact hq _ _
end AMWP
section AMMU
variable {p : Program} {l : Launch} {e : Env} {R : Room} {s : State} {m : MethodId} {args : Array Value} {below : List Frame} {meth : Method} {c : Code} {Qf : State → Prop} {T : State} {H : Heap} {locs : List Loc} {cells slots : Nat}
theorem am_mu_stand (X : Stand p l e R s m args below meth c T locs cells slots) (cA comp : ClassId) : ∀ i : Nat, Stand p l e R s m args below meth c (am_mu T cA comp i) locs (cells + 1 + i) (slots + 7 + i * 7)
  | 0 => by
    have h := X.pushed (am_mo cA T.heap.size 0)
    rw [show (am_mo cA T.heap.size 0).slots.size = 7 from arrV_size _ _ _] at h
    exact h
  | i + 1 => by
    have h := (am_mu_stand X cA comp i).pushed (am_mi comp)
    obtain ⟨f1, f2, f3, f4, f5, f6⟩ := am_mu_at T cA comp i
    have hlt : T.heap.size < (am_mu T cA comp i).heap.size := by rw [f1]; omega
    have hc : ((am_mu T cA comp i).pushCell (am_mi comp)).heap[T.heap.size]? = some (am_mo cA T.heap.size i) := by rw [State.heap_pushCell_of_lt _ _ hlt]; exact f2
    have h2 := h.stored hc i (.ref (T.heap.size + 1 + i))
    rw [am_mo_set] at h2
    have h3 := h2.dropFresh (fun x hx => by rw [List.mem_singleton.mp hx]; exact X.heapGrown)
    rw [show (am_mi comp).slots.size = 7 from arrV_size _ _ _] at h3
    rw [show cells + 1 + (i + 1) = cells + 1 + i + 1 by omega, show slots + 7 + (i + 1) * 7 = slots + 7 + i * 7 + 7 by omega]
    exact h3
theorem am_multiW {cc : ByteArray} {pc : Nat} {ls : Array Slot} {rest : List Value} (hexec : p.tables.exec = Jvm.exec) (hb : c.code = cc) {own : String} {index : Nat} (hown : s.vm.findClass own = some m.cls) (hlink : (Cond.classLink own index "[[I").before args s = true) {cA comp cc0 : ClassId} {kA kc : Class} (hkA : s.vm.classes[cA]? = some kA) (hkindA : kA.kind = .array comp (.array .int)) (hk : s.vm.classes[comp]? = some kc) (hkind : kc.kind = .array cc0 .int) (hnm : s.vm.findClass "[[I" = some cA) (hcells : cells + 8 ≤ R.cells) (hslots : slots + 56 ≤ R.slots) (hdg : decode cc pc = .ok (.multianewarray index 2, 4))
    (kk : ∀ H' : Heap, H'.size = H.size + 8 → H'[H.size]? = some (am_mo cA H.size 7) → (∀ q : Nat, q < H.size → H'[q]? = H[q]?) → (∀ j : Nat, j < 7 → H'[H.size + 1 + j]? = some (am_mi comp)) → W p l e R s m args below meth c H' locs (cells + 8) (slots + 56) Qf (F0 m (pc + 4) ls (.ref H.size :: rest))) : W p l e R s m args below meth c H locs cells slots Qf (F0 m pc ls (.int 7 :: .int 7 :: rest)) := by
  intro T hT X
  subst hT
  subst hb
  have hpl : e.platform.magicAccessors = ({} : Platform).magicAccessors := by rw [X.admits.platform]
  obtain ⟨c0, hfc0, hcl⟩ := Cond.classLink_spec hown hlink e.platform hpl
  cases hnm.symm.trans hfc0
  obtain ⟨hg₁, hwarm₁, hready₁⟩ := State.classEntry (e := e) X.warmed hcl
  generalize T.vm.noted m.cls index (.cls cA) = vm₁ at hg₁ hwarm₁ hready₁
  have hal : s.vm.Alike vm₁ := hwarm₁.alike
  obtain ⟨kA₁, hkA₁, heA⟩ := hal.2.2 _ _ hkA
  obtain ⟨kc₁, hkc₁, hec⟩ := hal.2.2 _ _ hk
  have hkindA₁ : kA₁.kind = .array comp (.array .int) := by rw [heA]; exact hkindA
  have hkind₁ : kc₁.kind = .array cc0 .int := by rw [hec]; exact hkind
  have XF := am_mu_stand (X.noted hwarm₁) cA comp 7
  obtain ⟨f1, f2, f3, f4, f5, f6⟩ := am_mu_at (T.setVm vm₁) cA comp 7
  obtain ⟨hr1, hr2⟩ := X.roomAbove hcells hslots
  obtain ⟨t, a1, b1⟩ := kk (am_mu (T.setVm vm₁) cA comp 7).heap f1 f2 f5 (fun j hj => f6 j hj) _ rfl (by rw [show cells + 8 = cells + 1 + 7 by omega, show slots + 56 = slots + 7 + 7 * 7 by omega]; exact XF)
  refine ⟨t, ?_, b1⟩
  have hl : ¬ 7 > e.platform.arrayLengthLimit := by rw [Launch.admits_arrayLengthLimit X.admits]; omega
  have hh : ¬ 7 * 4 > e.platform.maxHeapBytes := by rw [Launch.admits_maxHeapBytes X.admits]; omega
  jvm_step X.here [hexec, hdg]
  simp only [multianewarray.sem, wp_bind', W.resolveClassAt_links (State.method?_setTop (F0 m pc ls (.int 7 :: .int 7 :: rest)) X.here.top) hg₁]
  rw [W.popN, if_neg (by decide)]
  refine ⟨F0 m pc ls (.int 7 :: .int 7 :: rest), State.topJava?_setTop' (s := T.setVm vm₁) _ X.here.top, [.int 7, .int 7], rest, rfl, rfl, ?_⟩
  simp only [List.mapM_cons, List.mapM_nil, wp_bind', wp_pure']
  refine am_wpmk2 (kA := kA₁) (kc := kc₁) hkA₁ hkindA₁ hkc₁ hkind₁ hl hh (by show T.heap.size + 8 ≤ _; omega) (by show T.slotsUsed + 56 ≤ _; omega) (fun d' acts' => ?_)
  have eS : ((T.setTop (F0 m pc ls (.int 7 :: .int 7 :: rest))).setVm vm₁).setTop { F0 m pc ls (.int 7 :: .int 7 :: rest) with stack := rest } = (T.setVm vm₁).setTop { F0 m pc ls (.int 7 :: .int 7 :: rest) with stack := rest } := by
    show ((T.setVm vm₁).setTop _).setTop _ = _
    rw [State.setTop_setTop]
  rw [eS, am_mu_top]
  simp only [wp_bind', W.mark, W.pushRef, State.topJava?_setTop' _ XF.here.top, Option.some.injEq, exists_eq_left', State.setTop_setTop, State.heap_setTop]
  intro acts
  simp [jvm, XF.here.top]
  exact a1
end AMMU
