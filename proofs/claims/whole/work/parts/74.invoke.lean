/-! contracts of methods by the small machine -/
def am_ws (k : Nat) : List Cond := Cond.code (am_y k) (am_b k) (am_nl k) (am_ret k) :: am_tb
def am_nok (w : Cond) : Prop := (∃ a i x h, w = .methodLinkNest a i x h) ∨ ∃ a i b n d h, w = .fieldLinkNest a i b n d h
theorem am_nok_on {w : Cond} (h : am_nok w) : w.onTables = true := by
  rcases h with ⟨a, i, x, h, rfl⟩ | ⟨a, i, b, n, d, h, rfl⟩ <;> rfl
theorem am_nok_warm {w : Cond} (h : am_nok w) {s U : State} (hW : s.WarmedH U.vm) (k : va_Nw w s) : va_Nw w U := by
  rcases h with ⟨a, i, x, h, rfl⟩ | ⟨a, i, b, n, d, h, rfl⟩
  · exact va_Nw.warmM hW k
  · exact va_Nw.warmF hW k
def am_Pc (D : va_G) (tC : Nat → ClassId) (ad : Nat → Nat) (sz : Nat) (as : List Value) (M : am_M) : Array Value → State → Prop := va_Pc (as.map (am_cv ad)) (fun U => U.heap.size = sz ∧ va_P D am_cl (am_w tC ad M) U.heap ∧ va_K D am_cl (am_tys tC) U ∧ va_D (fun _ => True) (am_w tC ad M) ∧ am_wf M ∧ (∀ w ∈ am_nest, va_Nw w U) ∧ (∀ c, c < 4 → va_T .int (ad c) (M.2.1 c).2 (fun i => .int (M.2.2.1 c i)) (va_A (am_w tC ad M) sz) U U.heap) ∧ (∀ j, j < 3 → va_Z "LastForemost" (am_sn j) "[I" (.ref (ad j)) (va_A (am_w tC ad M) sz) U U.heap) ∧ am_X U tC (va_A (am_w tC ad M) sz) ad M)
def am_Qc (D : va_G) (tC : Nat → ClassId) (ad : Nat → Nat) (sz : Nat) (M : am_M) (Q : am_Q) : Array Value → State → Outcome → State → Prop := fun _ st oc t => (∃ (r : Option Value) (M' : am_M) (ad' : Nat → Nat), oc = .returned (r.map (am_cv ad')) ∧ (∀ v, r = some v → am_ok M'.1 v) ∧ Q r M' ∧ (∀ c, c < M.1 → ad' c = ad c) ∧ M.1 ≤ M'.1 ∧ va_P D am_cl (am_w tC ad' M') t.heap ∧ va_D (va_A (am_w tC ad M) sz) (am_w tC ad' M') ∧ am_wf M' ∧ ∀ c, c < 4 → M'.2.1 c = M.2.1 c ∧ M'.2.2.1 c = M.2.2.1 c) ∧ va_F (va_A (am_w tC ad M) sz) st t
def am_rm (d c1 s1 : Nat) : Room := { frames := d, cells := c1, slots := s1, locals := 33 * d }
def am_Met (l : Launch) (d k : Nat) (as : List Value) (c1 s1 : Nat) (M : am_M) (Q : am_Q) : Prop := ∀ (D : va_G) (tC : Nat → ClassId) (ad : Nat → Nat) (sz : Nat), am_oks M.1 as → (am_ent as).length ≤ am_nl k → Met l (am_y k) (am_ws k) (am_rm d c1 s1) (am_Pc D tC ad sz as M) (am_Qc D tC ad sz M Q) c1 s1 (va_A (am_w tC ad M) sz)
/-- what the tables say of a callee with n parameters -/
def am_mok (k n : Nat) : Prop := Cond.code (am_y k) (am_b k) (am_nl k) (am_ret k) ∈ am_tb ∧ Cond.initialized (am_y k).cls ∈ am_tb ∧ ((am_y k).cls ≠ "java/lang/invoke/MethodHandle" ∧ (am_y k).cls ≠ "java/lang/invoke/VarHandle" ∧ (parseMethodDescriptor (am_y k).desc).map (fun d => d.parameters.length) = some n) ∧ am_nl k ≤ 14
def am_lok (own : String) (i k : Nat) : Prop := Cond.methodLink own i (am_y k) ∈ am_tb ∨ ∃ host, Cond.methodLinkNest own i (am_y k) host ∈ am_nest
section AMK
variable {p : Program} {l : Launch} {e : Env} {R : Room} {s : State} {m : MethodId} {args : Array Value} {below : List Frame} {meth : Method} {c : Code} {Qf : State → Prop}
variable {D : va_G} {tC : Nat → ClassId} {A : Nat → Prop} {ad0 : Nat → Nat} {M0 : am_M} {nL : Nat} {own : String} {cc : ByteArray} {ret : Option FieldType}
variable {pc nx a b i d : Nat} {L st : List Value} {bc bs : Nat} {M : am_M}
theorem am_Pc_blind {sz : Nat} {ad : Nat → Nat} {as : List Value} (hnok : ∀ w ∈ am_nest, am_nok w) : FrameBlind (am_Pc D tC ad sz as M) := by
  intro a U g mk q
  obtain ⟨q0, q1, q2, q3, q4, q5, q6, q7, q8, ⟨q9, q10, q11⟩, q12⟩ := q
  exact ⟨q0, q1, q2, va_K.moved (u := U) (U := U.calling g mk a) (Vm.Alike.refl U.vm) q3, q4, q5, fun w hw => va_Nw.same (u := U) (U := U.calling g mk a) (am_nok_on (hnok w hw)) rfl (q6 w hw), fun c hc => va_T.moved (u := U) (U := U.calling g mk a) (Vm.Alike.refl U.vm) (q7 c hc), fun j hj => va_Z.moved (u := U) (U := U.calling g mk a) (Vm.Alike.refl U.vm) (q8 j hj), ⟨va_Nw.same (u := U) (U := U.calling g mk a) rfl rfl q9, va_AO.moved (u := U) (U := U.calling g mk a) (Vm.Alike.refl U.vm) q10, am_RR_moved (u := U) (U := U.calling g mk a) (Vm.Alike.refl U.vm) q11⟩, q12⟩
theorem am_A_in {H : Heap} {locs : List Loc} {ad : Nat → Nat} (hA : ∀ q, s.heap.size ≤ q → A q) (hw : am_Wn s D tC A ad0 M0 ad M H locs) : ∀ q, va_A (am_w tC ad M) H.size q → A q := by
  intro q h
  rcases h with ⟨k, x, h⟩ | h
  · exact hw.2.1.2 k _ h
  · exact hA q (Nat.le_trans hw.2.2.1.1 h)
theorem am_pre (hnok : ∀ w ∈ am_nest, am_nok w) (C : am_Ctx p s m args c D tC A ad0 M0 nL own cc am_nest) {H : Heap} {locs : List Loc} {ad : Nat → Nat} (hw : am_Wn s D tC A ad0 M0 ad M H locs) (as : List Value) : PreS s H (am_Pc D tC ad H.size as M) (as.map (am_cv ad)) := by
  obtain ⟨hx1, hb, hml, hown, hts, hK, hN, hT, hZ, hA, h4, hX⟩ := C
  have hin := am_A_in hA hw
  obtain ⟨hP, hD, hS, hwf, hag, hn0, hro⟩ := hw
  refine ⟨am_Pc_blind hnok, fun U hU hW => ⟨rfl, by rw [hU], by rw [hU]; exact hP, va_K.moved hW.alike hK, hD.weaken (fun _ _ _ _ => trivial), hwf, fun w hw => am_nok_warm (hnok w hw) hW (hN w hw), fun c hc => ?_, fun j hj => ?_, ⟨va_Nw.warmC hW hX.1.1, va_AO.moved hW.alike hX.1.2.1, am_RR_moved hW.alike hX.1.2.2⟩, fun r hr => ?_⟩⟩
  · have h1 := hT c hc
    obtain ⟨e1, e2⟩ := hro c hc
    rw [← e1, ← e2, ← hag c (by omega)] at h1
    have h2 := (h1.kept (H1 := H) (fun q hq hA' => hS.2.1 q hq hA')).narrow hin
    rw [hU]
    exact va_T.moved hW.alike h2
  · have h1 := hZ j hj
    rw [← hag j (by omega)] at h1
    have h2 := (h1.kept (H1 := H) (fun q hq hA' => hS.2.1 q hq hA')).narrow hin
    rw [hU]
    exact va_Z.moved hW.alike h2
  · obtain ⟨cell, c1, c2, c3, c4, c5, c6, c7⟩ := hX.2 r hr
    obtain ⟨e1, e2⟩ := hro r (by omega)
    refine ⟨cell, ?_, c2, by rw [e1]; exact c3, fun j hj => by rw [e2]; exact c4 j (by rw [← e1]; exact hj), c5, c6, fun z => c7 ?_⟩
    · rw [hU, hag r (by omega), hS.2.1 _ (Array.getElem?_eq_some_iff.mp c1).1 c7]
      exact c1
    · rw [← hag r (by omega)]
      exact hin _ z
/-- behind a call -/
theorem am_cont (hA : ∀ q, s.heap.size ≤ q → A q) {H : Heap} {locs : List Loc} {ad : Nat → Nat} {cells slots c1 s1 : Nat} {ls : Array Slot} {rest st0 : List Value} {as : Array Value} {Q' : am_Q} (hw : am_Wn s D tC A ad0 M0 ad M H locs) (hf : am_fr ad M.1 nL L ls) (hs : am_oks M.1 rest) (hcl : cells + bc ≤ R.cells) (hsl : slots + bs ≤ R.slots) (hc1 : c1 ≤ bc) (hs1 : s1 ≤ bs)
    (hr : va_Run p l e R s m args below meth c H locs cells slots c1 s1 (F0 m pc ls st0) (rest.map (am_cv ad)) (am_Qc D tC ad H.size M Q' as) (va_A (am_w tC ad M) H.size))
    (hQ : ∀ r M', Q' r M' → am_P p l e R s m args below meth c Qf D tC A ad0 M0 nL (pc + 3, L, r.toList ++ rest, bc - c1, bs - s1) M') : W p l e R s m args below meth c H locs cells slots Qf (F0 m pc ls st0) := by
  have hin := am_A_in hA hw
  obtain ⟨hP, hD, hS, hwf, hag, hn0, hro⟩ := hw
  intro T hT X
  obtain ⟨v, st₀, t, T', L', h0, X', hL, e1, e2, ⟨⟨r, M', ad', hv, hok, hq, hag', hn', hP', hD', hwf', hro'⟩, hz, hk⟩, st⟩ := hr T hT X
  cases hv
  rw [h0] at hz hk
  have hst : r.toList.map (am_cv ad') ++ rest.map (am_cv ad) = (r.toList ++ rest).map (am_cv ad') := by rw [List.map_append, am_cvs_agree hag' hs]
  have hrt : (r.map (am_cv ad')).toList = r.toList.map (am_cv ad') := by cases r <;> rfl
  have hoks : am_oks M'.1 (r.toList ++ rest) := by
    cases r with
    | none => exact am_oks_up hn' hs
    | some v => exact ⟨hok v rfl, am_oks_up hn' hs⟩
  obtain ⟨t2, a1, b1⟩ := hQ r M' hq ad' t.heap (locs ++ L') (cells + c1) (slots + s1) ls ⟨hP', hD'.weaken (fun k q _ h => hin q.1 h), ⟨Nat.le_trans hS.1 hz, fun q h1 h2 => by rw [hk q (Nat.lt_of_lt_of_le h1 hS.1) (fun z => h2 (hin q z))]; exact hS.2.1 q h1 h2, fun q hq => by
      rcases List.mem_append.mp hq with h | h
      · exact hS.2.2 q h
      · exact hin _ (hL q h)⟩, hwf', fun c hc => (hag' c (by omega)).trans (hag c hc), by omega, fun c hc => ⟨(hro' c hc).1.trans (hro c hc).1, (hro' c hc).2.trans (hro c hc).2⟩⟩ (am_fr_up hn' hag' hf) hoks (by show cells + c1 + (bc - c1) ≤ R.cells; omega) (by show slots + s1 + (bs - s1) ≤ R.slots; omega) T' e1 X'
  refine ⟨t2, st t2 ?_, b1⟩
  rw [hrt, hst]
  exact a1
theorem am_goodws (k : Nat) (h : Cond.code (am_y k) (am_b k) (am_nl k) (am_ret k) ∈ am_tb) : GoodIn am_tb (am_ws k) := by
  intro w hw
  rcases List.mem_cons.mp hw with rfl | hw
  · exact ⟨h, good_of_word (List.mem_filter.mp h).2⟩
  · exact ⟨hw, good_of_word (List.mem_filter.mp hw).2⟩
theorem am_split (st : List Value) (b : Nat) (ad : Nat → Nat) : st.map (am_cv ad) = (((st.take b).reverse).map (am_cv ad)).reverse ++ (st.drop b).map (am_cv ad) := by
  rw [← List.map_reverse, List.reverse_reverse, ← List.map_append, List.take_append_drop]
theorem am_oks_take {n : Nat} {st : List Value} (h : am_oks n st) (b : Nat) : am_oks n (st.take b).reverse := am_oks_of fun v hv => am_oks_mem h v (List.mem_of_mem_take (List.mem_reverse.mp hv))
theorem am_oks_drop {n : Nat} {st : List Value} (h : am_oks n st) (b : Nat) : am_oks n (st.drop b) := am_oks_of fun v hv => am_oks_mem h v (List.mem_of_mem_drop hv)
theorem am_sum_map (ad : Nat → Nat) (st : List Value) : ((st.map (am_cv ad)).map fun v => v.category).sum = am_sum st := by
  unfold am_sum
  rw [List.map_map]
  congr 1
  apply List.map_congr_left
  intro v _
  exact am_cv_cat ad v
/-- a static method is called -/
theorem am_s_stat (hnok : ∀ w ∈ am_nest, am_nok w) (C : am_Ctx p s m args c D tC A ad0 M0 nL own cc am_nest) (hR : d + 1 ≤ R.frames ∧ 33 * (d + 1) ≤ R.locals) {call : am_C} (hcs : ∀ (k : Nat) (as : List Value) (c1 s1 : Nat) (M : am_M) (Q : am_Q), call k as c1 s1 M Q → am_Met l d k as c1 s1 M Q) (hd : decode cc pc = .ok (.invokestatic i, 3)) (hm : am_mok a b) (hlk : am_lok own i a) (hst : Cond.static (am_y a) ∈ am_tb) {z : Int}
    (h : am_on (Nat.ble b st.length && Nat.ble (am_sum (st.drop b)) 8 && Nat.ble (am_ent (st.take b).reverse).length (am_nl a)) (am_call call (am_P p l e R s m args below meth c Qf D tC A ad0 M0 nL) (pc + 3) a b z L st bc bs M)) : am_P p l e R s m args below meth c Qf D tC A ad0 M0 nL (pc, L, st, bc, bs) M := by
  have C' := C
  obtain ⟨hx1, hb, hml, hown, hts, hK, hN, hT, hZ, hA, h4, hX⟩ := C
  obtain ⟨ho, h⟩ := am_on_at h
  simp only [Bool.and_eq_true] at ho
  obtain ⟨⟨ho1, ho2⟩, ho3⟩ := ho
  have hbl : b ≤ st.length := Nat.le_of_ble_eq_true ho1
  have hsum : am_sum (st.drop b) ≤ 8 := Nat.le_of_ble_eq_true ho2
  have hent := Nat.le_of_ble_eq_true ho3
  obtain ⟨hm1, hm2, hm3, hm4⟩ := hm
  have key : ∀ c1 s1, c1 ≤ bc → s1 ≤ bs → call a (st.take b).reverse c1 s1 M (fun r M' => am_P p l e R s m args below meth c Qf D tC A ad0 M0 nL (pc + 3, L, r.toList ++ st.drop b, bc - c1, bs - s1) M') → am_P p l e R s m args below meth c Qf D tC A ad0 M0 nL (pc, L, st, bc, bs) M := by
    intro c1 s1 hc1 hs1 hc
    intro ad H locs cells slots ls hw hf hs hcl hsl
    have hcl' : cells + bc ≤ R.cells := hcl
    have hsl' : slots + bs ≤ R.slots := hsl
    have hM := hcs _ _ _ _ _ _ hc D tC ad H.size (am_oks_take hs b) hent
    have hrun : va_Run p l e R s m args below meth c H locs cells slots c1 s1 (F0 m pc ls (st.map (am_cv ad))) ((st.drop b).map (am_cv ad)) (am_Qc D tC ad H.size M (fun r M' => am_P p l e R s m args below meth c Qf D tC A ad0 M0 nL (pc + 3, L, r.toList ++ st.drop b, bc - c1, bs - s1) M') ((st.take b).reverse.map (am_cv ad)).toArray) (va_A (am_w tC ad M) H.size) := by
      have hlen : ((st.take b).reverse.map (am_cv ad)).length = b := by simp; omega
      rcases hlk with hl | ⟨host, hl⟩
      · exact va_runS (Ts := am_tb) ⟨hx1, hb, hml, hown, hts⟩ hM ⟨callB_of b hts (am_goodws a hm1) rfl rfl rfl (hts _ hm2) (hts _ hl) hm3 ⟨hR.1, by show 8 + (am_nl a + 11) + 33 * d ≤ R.locals; omega⟩, hts _ hst⟩ (am_pre hnok C' hw _) rfl hlen hf.2.1 (am_split st b ad) (lv_room (by rw [am_sum_map]; exact hsum)) hd ⟨by omega, by omega⟩
      · exact va_runSN (Ts := am_tb) (host := host) ⟨hx1, hb, hml, hown, hts⟩ hM ⟨va_cnB b hts (am_goodws a hm1) rfl rfl rfl (hN _ hl) (hts _ hm2) hm3 ⟨hR.1, by show 8 + (am_nl a + 11) + 33 * d ≤ R.locals; omega⟩, hts _ hst, trivial⟩ (am_pre hnok C' hw _) rfl hlen hf.2.1 (am_split st b ad) (lv_room (by rw [am_sum_map]; exact hsum)) hd ⟨by omega, by omega⟩
    exact am_cont hA hw hf (am_oks_drop hs b) hcl' hsl' hc1 hs1 hrun (fun r M' q => q)
  unfold am_call at h
  split at h
  · exact key 0 0 (Nat.zero_le _) (Nat.zero_le _) h
  · obtain ⟨c1, s1, h1, h2, h3⟩ := h
    exact key c1 s1 h1 h2 h3
/-- a method of an object is called -/
theorem am_s_virt (hnok : ∀ w ∈ am_nest, am_nok w) (C : am_Ctx p s m args c D tC A ad0 M0 nL own cc am_nest) (hR : d + 1 ≤ R.frames ∧ 33 * (d + 1) ≤ R.locals) {call : am_C} (hcs : ∀ (k : Nat) (as : List Value) (c1 s1 : Nat) (M : am_M) (Q : am_Q), call k as c1 s1 M Q → am_Met l d k as c1 s1 M Q) (hd : decode cc pc = .ok (.invokevirtual i, 3)) (hm : am_mok a (b - 1)) (hlk : am_lok own i a) (hst : Cond.instanceMethod (am_y a) ∈ am_tb ∧ Cond.selects (am_y a).cls (am_y a) (am_y a) ∈ am_tb ∧ ∃ r : vw_C, am_cl[am_kc a]? = some r ∧ r.1 = (am_y a).cls) {z : Int}
    (h : am_on (Nat.ble b st.length && Nat.ble (am_sum (st.drop b)) 8 && Nat.ble (am_ent (st.take b).reverse).length (am_nl a) && am_recv M (am_kc a) (st.take b).reverse) (am_call call (am_P p l e R s m args below meth c Qf D tC A ad0 M0 nL) (pc + 3) a b z L st bc bs M)) : am_P p l e R s m args below meth c Qf D tC A ad0 M0 nL (pc, L, st, bc, bs) M := by
  have C' := C
  obtain ⟨hx1, hb, hml, hown, hts, hK, hN, hT, hZ, hA, h4, hX⟩ := C
  obtain ⟨ho, h⟩ := am_on_at h
  simp only [Bool.and_eq_true] at ho
  obtain ⟨⟨⟨ho1, ho2⟩, ho3⟩, ho4⟩ := ho
  have hbl : b ≤ st.length := Nat.le_of_ble_eq_true ho1
  have hsum : am_sum (st.drop b) ≤ 8 := Nat.le_of_ble_eq_true ho2
  have hent := Nat.le_of_ble_eq_true ho3
  obtain ⟨hm1, hm2, hm3, hm4⟩ := hm
  obtain ⟨hi1, hi2, r', hr1, hr2⟩ := hst
  have hsp : ∀ ad : Nat → Nat, st.map (am_cv ad) = (((st.take b).reverse).map (am_cv ad)).reverse ++ (st.drop b).map (am_cv ad) := am_split st b
  have hlen0 : (st.take b).reverse.length = b := by simp; omega
  have key : ∀ c1 s1, c1 ≤ bc → s1 ≤ bs → call a (st.take b).reverse c1 s1 M (fun r M' => am_P p l e R s m args below meth c Qf D tC A ad0 M0 nL (pc + 3, L, r.toList ++ st.drop b, bc - c1, bs - s1) M') → am_P p l e R s m args below meth c Qf D tC A ad0 M0 nL (pc, L, st, bc, bs) M := by
    intro c1 s1 hc1 hs1 hc
    intro ad H locs cells slots ls hw hf hs hcl hsl
    have hcl' : cells + bc ≤ R.cells := hcl
    have hsl' : slots + bs ≤ R.slots := hsl
    have hoks := am_oks_take hs b
    have hM := hcs _ _ _ _ _ _ hc D tC ad H.size hoks hent
    have hpre := am_pre hnok C' hw (st.take b).reverse
    have hsp := hsp ad
    obtain ⟨hP, hD, hS, hwf, hag, hn0, hro⟩ := id hw
    refine am_cont (as := ((st.take b).reverse.map (am_cv ad)).toArray) (rest := st.drop b) hA hw hf (am_oks_drop hs b) hcl' hsl' hc1 hs1 ?_ (fun r M' q => q)
    show va_Run p l e R s m args below meth c H locs cells slots c1 s1 (F0 m pc ls (st.map (am_cv ad))) _ _ _
    rw [hsp]
    revert hM hpre hoks ho4 hlen0
    generalize (st.take b).reverse = as
    intro ho4 hlen0 hoks hM hpre
    cases as with
    | nil => cases ho4
    | cons v as =>
      cases v with
      | ref r =>
        have hk := am_ob_at ho4
        have hr4 : 4 ≤ r := am_ge4 hwf hk (by omega)
        have hrn : r < M.1 := hoks.1
        have hrec := va_recv hK hP hr1 (q0 := r - 4) (a := ad r) (fs := (List.range (am_nf (am_kc a))).map (am_fv ad M r (am_kc a))) (by rw [am_w_at hr4 hrn, am_cell_ob hk])
        rw [hr2] at hrec
        have hlen : (as.map (am_cv ad)).length = b - 1 := by
          rw [List.length_map]
          have : as.length + 1 = b := hlen0
          omega
        have hstk : (((Value.ref r :: as).map (am_cv ad)).reverse ++ (st.drop b).map (am_cv ad)) = (as.map (am_cv ad)).reverse ++ .ref (ad r) :: (st.drop b).map (am_cv ad) := by
          rw [List.map_cons, List.reverse_cons, List.append_assoc]
          rfl
        rw [hstk]
        rcases hlk with hl | ⟨host, hl⟩
        · exact va_runV (Ts := am_tb) (C := (am_y a).cls) ⟨hx1, hb, hml, hown, hts⟩ hM ⟨callB_of (b - 1) hts (am_goodws a hm1) rfl rfl rfl (hts _ hm2) (hts _ hl) hm3 ⟨hR.1, by show 8 + (am_nl a + 11) + 33 * d ≤ R.locals; omega⟩, hts _ hi1, hts _ hi2⟩ ⟨hpre.1, hrec, hpre.2⟩ rfl hlen hf.2.1 rfl (lv_room (by rw [am_sum_map]; exact hsum)) hd ⟨by omega, by omega⟩
        · exact va_runVN (Ts := am_tb) (C := (am_y a).cls) (host := host) ⟨hx1, hb, hml, hown, hts⟩ hM ⟨va_cnB (b - 1) hts (am_goodws a hm1) rfl rfl rfl (hN _ hl) (hts _ hm2) hm3 ⟨hR.1, by show 8 + (am_nl a + 11) + 33 * d ≤ R.locals; omega⟩, hts _ hi1, hts _ hi2⟩ ⟨hpre.1, hrec, hpre.2⟩ rfl hlen hf.2.1 rfl (lv_room (by rw [am_sum_map]; exact hsum)) hd ⟨by omega, by omega⟩
      | _ => cases ho4
  unfold am_call at h
  split at h
  · exact key 0 0 (Nat.zero_le _) (Nat.zero_le _) h
  · obtain ⟨c1, s1, h1, h2, h3⟩ := h
    exact key c1 s1 h1 h2 h3
/-- a constructor is called -/
theorem am_s_init (hnok : ∀ w ∈ am_nest, am_nok w) (C : am_Ctx p s m args c D tC A ad0 M0 nL own cc am_nest) (hR : d + 1 ≤ R.frames ∧ 33 * (d + 1) ≤ R.locals) {call : am_C} (hcs : ∀ (k : Nat) (as : List Value) (c1 s1 : Nat) (M : am_M) (Q : am_Q), call k as c1 s1 M Q → am_Met l d k as c1 s1 M Q) (hd : decode cc pc = .ok (.invokespecial i, 3)) (hm : am_mok a (b - 1)) (hb0 : (am_y a).name = "<init>") (hret : am_ret a = none) (hlk : am_lok own i a) (hst : Cond.instanceMethod (am_y a) ∈ am_tb) {z : Int}
    (h : am_on (Nat.ble b st.length && Nat.ble (am_sum (st.drop b)) 8 && Nat.ble (am_ent (st.take b).reverse).length (am_nl a) && am_recv M (am_kc a) (st.take b).reverse) (am_call call (am_P p l e R s m args below meth c Qf D tC A ad0 M0 nL) (pc + 3) a b z L st bc bs M)) : am_P p l e R s m args below meth c Qf D tC A ad0 M0 nL (pc, L, st, bc, bs) M := by
  have C' := C
  obtain ⟨hx1, hb, hml, hown, hts, hK, hN, hT, hZ, hA, h4, hX⟩ := C
  obtain ⟨ho, h⟩ := am_on_at h
  simp only [Bool.and_eq_true] at ho
  obtain ⟨⟨⟨ho1, ho2⟩, ho3⟩, ho4⟩ := ho
  have hbl : b ≤ st.length := Nat.le_of_ble_eq_true ho1
  have hsum : am_sum (st.drop b) ≤ 8 := Nat.le_of_ble_eq_true ho2
  have hent := Nat.le_of_ble_eq_true ho3
  obtain ⟨hm1, hm2, hm3, hm4⟩ := hm
  have key : ∀ c1 s1, c1 ≤ bc → s1 ≤ bs → call a (st.take b).reverse c1 s1 M (fun r M' => am_P p l e R s m args below meth c Qf D tC A ad0 M0 nL (pc + 3, L, r.toList ++ st.drop b, bc - c1, bs - s1) M') → am_P p l e R s m args below meth c Qf D tC A ad0 M0 nL (pc, L, st, bc, bs) M := by
    intro c1 s1 hc1 hs1 hc
    intro ad H locs cells slots ls hw hf hs hcl hsl
    have hcl' : cells + bc ≤ R.cells := hcl
    have hsl' : slots + bs ≤ R.slots := hsl
    have hM := hcs _ _ _ _ _ _ hc D tC ad H.size (am_oks_take hs b) hent
    have hoks := am_oks_take hs b
    have hpre := am_pre hnok C' hw (st.take b).reverse
    have hsp := am_split st b ad
    have hlen0 : (st.take b).reverse.length = b := by simp; omega
    refine am_cont (as := ((st.take b).reverse.map (am_cv ad)).toArray) (rest := st.drop b) hA hw hf (am_oks_drop hs b) hcl' hsl' hc1 hs1 ?_ (fun r M' q => q)
    show va_Run p l e R s m args below meth c H locs cells slots c1 s1 (F0 m pc ls (st.map (am_cv ad))) _ _ _
    rw [hsp]
    revert hM hpre hoks ho4 hlen0
    generalize (st.take b).reverse = as
    intro ho4 hM hoks hpre hlen0
    cases as with
    | nil => cases ho4
    | cons v as =>
      cases v with
      | ref r =>
        have hlen : (as.map (am_cv ad)).length = b - 1 := by
          rw [List.length_map]
          have : as.length + 1 = b := hlen0
          omega
        have hstk : (((Value.ref r :: as).map (am_cv ad)).reverse ++ (st.drop b).map (am_cv ad)) = (as.map (am_cv ad)).reverse ++ .ref (ad r) :: (st.drop b).map (am_cv ad) := by
          rw [List.map_cons, List.reverse_cons, List.append_assoc]
          rfl
        rw [hstk]
        rw [hret] at hm1
        have hws : am_ws a = Cond.code (am_y a) (am_b a) (am_nl a) none :: am_tb := by unfold am_ws; rw [hret]
        have hgw := am_goodws a (by rw [hret]; exact hm1)
        rcases hlk with hl | ⟨host, hl⟩
        · exact va_runI (Ts := am_tb) ⟨hx1, hb, hml, hown, hts⟩ hM ⟨callB_of (b - 1) hts hgw hws rfl rfl (hts _ hm2) (hts _ hl) hm3 ⟨hR.1, by show 8 + (am_nl a + 11) + 33 * d ≤ R.locals; omega⟩, hb0, hts _ hst⟩ hpre rfl hlen hf.2.1 rfl (lv_room (by rw [am_sum_map]; exact hsum)) hd ⟨by omega, by omega⟩
        · exact va_runIN (Ts := am_tb) (host := host) ⟨hx1, hb, hml, hown, hts⟩ hM ⟨va_cnB (b - 1) hts hgw hws rfl rfl (hN _ hl) (hts _ hm2) hm3 ⟨hR.1, by show 8 + (am_nl a + 11) + 33 * d ≤ R.locals; omega⟩, hb0, hts _ hst⟩ hpre rfl hlen hf.2.1 rfl (lv_room (by rw [am_sum_map]; exact hsum)) hd ⟨by omega, by omega⟩
      | _ => cases ho4
  unfold am_call at h
  split at h
  · exact key 0 0 (Nat.zero_le _) (Nat.zero_le _) h
  · obtain ⟨c1, s1, h1, h2, h3⟩ := h
    exact key c1 s1 h1 h2 h3
end AMK
