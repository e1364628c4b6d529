/-! a method of the small machine meets its contract in the machine -/
theorem am_ent_args {ad : Nat → Nat} : ∀ (as : List Value) (j i : Nat) (v : Value), (am_ent as)[i]? = some v → v ≠ .null → (j + i, am_cv ad v) ∈ lv_args j (as.map (am_cv ad))
  | [], j, i, v, h, _ => by simp [am_ent] at h
  | .long x :: vs, j, 0, v, h, hv => by
    cases h
    exact List.mem_cons_self
  | .long x :: vs, j, 1, v, h, hv => by
    cases h
    exact absurd rfl hv
  | .long x :: vs, j, i + 2, v, h, hv => by
    have := am_ent_args (ad := ad) vs (j + 2) i v h hv
    rw [show j + (i + 2) = j + 2 + i by omega]
    exact List.mem_cons_of_mem _ this
  | .double x :: vs, j, 0, v, h, hv => by
    cases h
    exact List.mem_cons_self
  | .double x :: vs, j, 1, v, h, hv => by
    cases h
    exact absurd rfl hv
  | .double x :: vs, j, i + 2, v, h, hv => by
    have := am_ent_args (ad := ad) vs (j + 2) i v h hv
    rw [show j + (i + 2) = j + 2 + i by omega]
    exact List.mem_cons_of_mem _ this
  | .int x :: vs, j, 0, v, h, hv => by cases h; exact List.mem_cons_self
  | .int x :: vs, j, i + 1, v, h, hv => by
    have := am_ent_args (ad := ad) vs (j + 1) i v h hv
    rw [show j + (i + 1) = j + 1 + i by omega]
    exact List.mem_cons_of_mem _ this
  | .float x :: vs, j, 0, v, h, hv => by cases h; exact List.mem_cons_self
  | .float x :: vs, j, i + 1, v, h, hv => by
    have := am_ent_args (ad := ad) vs (j + 1) i v h hv
    rw [show j + (i + 1) = j + 1 + i by omega]
    exact List.mem_cons_of_mem _ this
  | .null :: vs, j, 0, v, h, hv => by cases h; exact List.mem_cons_self
  | .null :: vs, j, i + 1, v, h, hv => by
    have := am_ent_args (ad := ad) vs (j + 1) i v h hv
    rw [show j + (i + 1) = j + 1 + i by omega]
    exact List.mem_cons_of_mem _ this
  | .ref x :: vs, j, 0, v, h, hv => by cases h; exact List.mem_cons_self
  | .ref x :: vs, j, i + 1, v, h, hv => by
    have := am_ent_args (ad := ad) vs (j + 1) i v h hv
    rw [show j + (i + 1) = j + 1 + i by omega]
    exact List.mem_cons_of_mem _ this
  | .retAddr x :: vs, j, 0, v, h, hv => by cases h; exact List.mem_cons_self
  | .retAddr x :: vs, j, i + 1, v, h, hv => by
    have := am_ent_args (ad := ad) vs (j + 1) i v h hv
    rw [show j + (i + 1) = j + 1 + i by omega]
    exact List.mem_cons_of_mem _ this
theorem am_ent_len {ad : Nat → Nat} : ∀ (as : List Value), (lg_sl (as.map (am_cv ad))).length = (am_ent as).length
  | [] => rfl
  | v :: vs => by
    have ih := am_ent_len (ad := ad) vs
    have hc : lg_sl ((v :: vs).map (am_cv ad)) = (if (am_cv ad v).category = 2 then [Slot.val (am_cv ad v), Slot.second] else [Slot.val (am_cv ad v)]) ++ lg_sl (vs.map (am_cv ad)) := by
      rw [List.map_cons]
      unfold lg_sl
      rw [List.flatMap_cons]
    rw [hc, List.length_append, ih]
    cases v <;> (show _ + _ = _ + _; first | exact Nat.add_comm _ _ | (show 2 + _ = _ + 2; omega))
theorem am_ent_ok {n : Nat} : ∀ (as : List Value), am_oks n as → ∀ v ∈ am_ent as, am_ok n v
  | [], _, v, h => by simp [am_ent] at h
  | w :: vs, k, v, h => by
    have ih := am_ent_ok vs k.2
    cases w with
    | long x =>
      rcases List.mem_cons.mp h with rfl | h
      · trivial
      · rcases List.mem_cons.mp h with rfl | h
        · trivial
        · exact ih v h
    | double x =>
      rcases List.mem_cons.mp h with rfl | h
      · trivial
      · rcases List.mem_cons.mp h with rfl | h
        · trivial
        · exact ih v h
    | _ =>
      rcases List.mem_cons.mp h with rfl | h
      · exact k.1
      · exact ih v h
theorem am_entry {ad : Nat → Nat} {n nl : Nat} {as : List Value} (ho : am_oks n as) (hl : (am_ent as).length ≤ nl) : am_fr ad n nl (am_pad nl (am_ent as)) (lg_sl (as.map (am_cv ad)) ++ List.replicate (nl - (lg_sl (as.map (am_cv ad))).length) Slot.unset).toArray := by
  have hh := lv_entry (as.map (am_cv ad)) (n := nl) (by rw [am_ent_len]; exact hl)
  have key : ∀ (i : Nat) (v : Value), (am_pad nl (am_ent as))[i]? = some v → v ≠ .null → (am_ent as)[i]? = some v := by
    intro i v h hv
    unfold am_pad at h
    by_cases hi : i < (am_ent as).length
    · rw [List.getElem?_append_left hi] at h
      exact h
    · rw [List.getElem?_append_right (by omega)] at h
      exact absurd (List.eq_of_mem_replicate (List.mem_of_getElem? h)) hv
  refine ⟨by unfold am_pad; simp; omega, hh.1, hh.2.1, fun i v h => ?_, fun i v h hv => ?_⟩
  · by_cases hv : v = .null
    · subst hv; trivial
    · exact am_ent_ok as ho v (List.mem_of_getElem? (key i v h hv))
  · have := am_ent_args (ad := ad) as 0 i v (key i v h hv) hv
    rw [Nat.zero_add] at this
    exact hh.2.2 _ this
def am_tok (k : Nat) : Prop := (∀ pc x, am_at (am_code k) pc = some x → am_okI (am_y k).cls (am_y k).name (am_b k) (am_ret k) pc x) ∧ plainName (am_y k).cls = true
theorem am_ret_met {p : Program} {l : Launch} {e : Env} {R : Room} {s : State} {m : MethodId} {args : Array Value} {below : List Frame} {meth : Method} {c : Code} {D : va_G} {tC : Nat → ClassId} {ad : Nat → Nat} {M : am_M} {cc : ByteArray} {ret : Option FieldType} {Q : am_Q} (hx : p.tables.exec = Jvm.exec) (hb : c.code = cc) (hr : meth.sig.returnType = ret) (hlocks : meth.locks = false) :
    am_Ret p l e R s m args below meth c (MQ below (am_Qc D tC ad s.heap.size M Q) args s R.cells R.slots (va_A (am_w tC ad M) s.heap.size)) D tC (va_A (am_w tC ad M) s.heap.size) ad M cc ret Q := by
  intro ad' H locs cells slots ls pc M' hw hc hs
  obtain ⟨hP, hD, hS, hwf, hag, hn0, hro⟩ := hw
  have hq : ∀ (r : Option Value), (∀ v, r = some v → am_ok M'.1 v) → Q r M' → ∀ t : State, t.heap = H → s.WarmedH t.vm → am_Qc D tC ad s.heap.size M Q args s (.returned (r.map (am_cv ad'))) t := by
    intro r hr hQ t ht hW
    exact ⟨⟨r, M', ad', rfl, hr, hQ, hag, hn0, by rw [ht]; exact hP, hD, hwf, hro⟩, hS.F ht⟩
  refine ⟨fun x hQ hd hret => ?_, fun x hQ hd hret => ?_, fun hQ hd hret => ?_⟩
  · refine W.widen hc hs ?_
    rcases hret with rfl | ⟨rfl, h01⟩
    · exact W.iret hx hb hr (hq (some (.int x)) (fun v hv => by cases hv; trivial) hQ) hS.2.2 hd hlocks
    · exact W.zret hx hb hr (by rcases h01 with rfl | rfl <;> rfl) (hq (some (.int x)) (fun v hv => by cases hv; trivial) hQ) hS.2.2 hd hlocks
  · subst hret
    exact W.widen hc hs (W.lret hx hb hr (hq (some (.long x)) (fun v hv => by cases hv; trivial) hQ) hS.2.2 hd hlocks)
  · subst hret
    exact W.widen hc hs (W.vret hx hb hr (hq none (fun v hv => by cases hv) hQ) hS.2.2 hd hlocks)
theorem am_d_sound (l : Launch) (hnok : ∀ w ∈ am_nest, am_nok w) (htab : ∀ k, am_tok k) : ∀ (d k : Nat) (as : List Value) (c1 s1 : Nat) (M : am_M) (Q : am_Q), am_d d k as c1 s1 M Q → am_Met l d k as c1 s1 M Q
  | 0, _, _, _, _, _, _, h => False.elim h
  | d + 1, k, as, c1, s1, M, Q, h => by
    intro D tC ad sz hoks hent
    refine Met.ofW (cc := am_b k) (maxL := am_nl k) (ret := am_ret k) (htab k).2 rfl ?_
    intro p e s m args below meth c s₁ B hml hv
    obtain ⟨rfl, hsz, hP, hK, hD0, hwf, hN, hT, hZ, hX⟩ := hv
    subst hsz
    have hts : ∀ w ∈ am_tb, w.before _ s = true := fun w hw => atoms_spec (ws := am_ws k) B.pre w (List.mem_cons_of_mem _ hw)
    have C : am_Ctx p s m (as.map (am_cv ad)).toArray c D tC (va_A (am_w tC ad M) s.heap.size) ad M (am_nl k) (am_y k).cls (am_b k) am_nest := ⟨B.exec, B.bytes, hml, findClass_of_methodNamed B.named, hts, hK, hN, hT, hZ, fun q hq => Or.inr hq, hwf.2.2.1, hX⟩
    have key := h (am_P p l e (headSpec (am_ws k) (am_rm (d + 1) c1 s1)).room s m (as.map (am_cv ad)).toArray below meth c (MQ below (am_Qc D tC ad s.heap.size M Q) (as.map (am_cv ad)).toArray s c1 s1 (va_A (am_w tC ad M) s.heap.size)) D tC (va_A (am_w tC ad M) s.heap.size) ad M (am_nl k)) (fun F M' hs => by
      obtain ⟨pc, L, st, bc, bs⟩ := F
      unfold am_step at hs
      dsimp only at hs
      split at hs
      · next x hx =>
        exact am_ex_sound (d := d) (name_of_methodNamed B.named B.method).1 hnok C ⟨Nat.le_refl _, Nat.le_refl _⟩ (fun k as c1 s1 M Q hq => am_d_sound l hnok htab d k as c1 s1 M Q hq) (am_ret_met (R := (headSpec (am_ws k) (am_rm (d + 1) c1 s1)).room) B.exec B.bytes B.returns B.notSynchronized) ((htab k).1 pc x hx) hs
      · exact hs.elim)
    rw [lg_entry_eq]
    exact key ad s.heap [] 0 0 _ ⟨hP, hD0.self, va_S.rf, hwf, fun _ _ => rfl, Nat.le_refl _, fun _ _ => ⟨rfl, rfl⟩⟩ (am_entry hoks hent) trivial (by show 0 + c1 ≤ c1; omega) (by show 0 + s1 ≤ s1; omega)
