/-! the small machine's memory in the machine's heap -/
abbrev am_cl : List vw_C := [(RX0, TX0, 6), (RX1, TX1, 4), (RX2, TX2, 8), (RX3, TX3, 6), (RX4, TX4, 6), (RX5, TX5, 1), (RX6, TX6, 2), (RX7, TX7, 3), (RX8, TX8, 3), (RX9, TX9, 17), (RX10, TX10, 30)]
def am_nf (k : Nat) : Nat := [6, 4, 8, 6, 6, 1, 2, 3, 3, 17, 30].getD k 0
def am_tys (tC : Nat → ClassId) : List (ClassId × FieldType) := [(tC 0, .int), (tC 1, .boolean), (tC 2, .long), (tC 3, .object RX7), (tC 4, .array .int)]
def am_cv (ad : Nat → Nat) : Value → Value
  | .ref r => .ref (ad r)
  | v => v
def am_ok (n : Nat) : Value → Prop
  | .ref r => r < n
  | _ => True
def am_oks (n : Nat) : List Value → Prop
  | [] => True
  | v :: vs => am_ok n v ∧ am_oks n vs
theorem am_ok_up {n n' : Nat} (h : n ≤ n') {v : Value} (k : am_ok n v) : am_ok n' v := by
  cases v <;> first | exact Nat.lt_of_lt_of_le k h | trivial
theorem am_oks_up {n n' : Nat} (h : n ≤ n') : ∀ {st : List Value}, am_oks n st → am_oks n' st
  | [], _ => trivial
  | _ :: _, k => ⟨am_ok_up h k.1, am_oks_up h k.2⟩
theorem am_oks_mem {n : Nat} : ∀ {st : List Value}, am_oks n st → ∀ v ∈ st, am_ok n v
  | _ :: _, k, v, h => by
    rcases List.mem_cons.mp h with rfl | h
    · exact k.1
    · exact am_oks_mem k.2 v h
theorem am_oks_of {n : Nat} : ∀ {st : List Value}, (∀ v ∈ st, am_ok n v) → am_oks n st
  | [], _ => trivial
  | v :: st, h => ⟨h v List.mem_cons_self, am_oks_of fun w hw => h w (List.mem_cons_of_mem _ hw)⟩
theorem am_cv_agree {n : Nat} {ad ad' : Nat → Nat} (h : ∀ c, c < n → ad' c = ad c) {v : Value} (k : am_ok n v) : am_cv ad' v = am_cv ad v := by
  cases v <;> first | rfl | exact congrArg Value.ref (h _ k)
theorem am_cvs_agree {n : Nat} {ad ad' : Nat → Nat} (h : ∀ c, c < n → ad' c = ad c) : ∀ {st : List Value}, am_oks n st → st.map (am_cv ad') = st.map (am_cv ad)
  | [], _ => rfl
  | _ :: _, k => by rw [List.map_cons, List.map_cons, am_cv_agree h k.1, am_cvs_agree h k.2]
theorem am_cv_cat (ad : Nat → Nat) (v : Value) : (am_cv ad v).category = v.category := by cases v <;> rfl
def am_fv (ad : Nat → Nat) (M : am_M) (c ci i : Nat) : Value := match am_fk (am_ty ci i) with
  | 2 => va_rf ((M.2.2.2.2 c i).map ad)
  | _ => .int (M.2.2.1 c i)
def am_cell (tC : Nat → ClassId) (ad : Nat → Nat) (M : am_M) (c : Nat) : va_E := match (M.2.1 c).1 with
  | 0 => .inl (tC 0, (M.2.1 c).2, .inl (M.2.2.1 c))
  | 1 => .inl (tC 0, (M.2.1 c).2, .inl (M.2.2.1 c))
  | 2 => .inl (tC 1, (M.2.1 c).2, .inl (M.2.2.1 c))
  | 3 => .inl (tC 2, (M.2.1 c).2, .inr (.inl (M.2.2.2.1 c)))
  | 4 => .inl (tC 3, (M.2.1 c).2, .inr (.inr (.inr (.inr (fun i => (M.2.2.2.2 c i).map ad)))))
  | 5 => .inl (tC 4, (M.2.1 c).2, .inr (.inr (.inr (.inr (fun i => (M.2.2.2.2 c i).map ad)))))
  | k + 6 => .inr (k, (List.range (am_nf k)).map (am_fv ad M c k))
def am_w (tC : Nat → ClassId) (ad : Nat → Nat) (M : am_M) : va_W := (List.range (M.1 - 4)).map (fun i => (ad (i + 4), am_cell tC ad M (i + 4)))
section AMW
variable {tC : Nat → ClassId} {ad : Nat → Nat} {M M' : am_M} {c : Nat}
theorem am_w_at (h4 : 4 ≤ c) (hn : c < M.1) : (am_w tC ad M)[c - 4]? = some (ad c, am_cell tC ad M c) := by
  unfold am_w
  rw [List.getElem?_map, List.getElem?_range (by omega)]
  simp [show c - 4 + 4 = c by omega]
theorem am_w_set {e : va_E} (h4 : 4 ≤ c) (hn : c < M.1) (e1 : M'.1 = M.1) (he : am_cell tC ad M' c = e) (ho : ∀ c', c' ≠ c → am_cell tC ad M' c' = am_cell tC ad M c') : (am_w tC ad M).set (c - 4) (ad c, e) = am_w tC ad M' := by
  apply List.ext_getElem?
  intro i
  by_cases hi : i < M.1 - 4
  · by_cases hc : i = c - 4
    · subst hc
      rw [am_w_at h4 (by rw [e1]; exact hn), List.getElem?_set_self (by unfold am_w; simpa using hi), he]
    · rw [List.getElem?_set_ne (Ne.symm hc)]
      have a1 := am_w_at (tC := tC) (ad := ad) (M := M) (c := i + 4) (by omega) (by omega)
      have a2 := am_w_at (tC := tC) (ad := ad) (M := M') (c := i + 4) (by omega) (by omega)
      rw [show i + 4 - 4 = i by omega] at a1 a2
      rw [a1, a2, ho _ (by omega)]
  · rw [List.getElem?_eq_none, List.getElem?_eq_none]
    · unfold am_w; simp; omega
    · unfold am_w; simp; omega
theorem am_cell_ob {k : Nat} (h : (M.2.1 c).1 = 6 + k) : am_cell tC ad M c = .inr (k, (List.range (am_nf k)).map (am_fv ad M c k)) := by
  unfold am_cell
  rw [h, Nat.add_comm]
theorem am_cell_0 (h : (M.2.1 c).1 = 0) : am_cell tC ad M c = .inl (tC 0, (M.2.1 c).2, .inl (M.2.2.1 c)) := by
  unfold am_cell
  rw [h]
theorem am_cell_2 (h : (M.2.1 c).1 = 2) : am_cell tC ad M c = .inl (tC 1, (M.2.1 c).2, .inl (M.2.2.1 c)) := by
  unfold am_cell
  rw [h]
theorem am_cell_3 (h : (M.2.1 c).1 = 3) : am_cell tC ad M c = .inl (tC 2, (M.2.1 c).2, .inr (.inl (M.2.2.2.1 c))) := by
  unfold am_cell
  rw [h]
theorem am_cell_4 (h : (M.2.1 c).1 = 4) : am_cell tC ad M c = .inl (tC 3, (M.2.1 c).2, .inr (.inr (.inr (.inr (fun i => (M.2.2.2.2 c i).map ad))))) := by
  unfold am_cell
  rw [h]
theorem am_cell_5 (h : (M.2.1 c).1 = 5) : am_cell tC ad M c = .inl (tC 4, (M.2.1 c).2, .inr (.inr (.inr (.inr (fun i => (M.2.2.2.2 c i).map ad))))) := by
  unfold am_cell
  rw [h]
/-- a cell is told by its own kind, rows and references -/
theorem am_cell_eq {ad' : Nat → Nat} (h1 : M'.2.1 c = M.2.1 c) (h2 : M'.2.2.1 c = M.2.2.1 c) (h3 : M'.2.2.2.1 c = M.2.2.2.1 c) (h4 : ∀ i, (M'.2.2.2.2 c i).map ad' = (M.2.2.2.2 c i).map ad) : am_cell tC ad' M' c = am_cell tC ad M c := by
  have hf : ∀ k, am_fv ad' M' c k = am_fv ad M c k := by
    intro k
    funext i
    unfold am_fv
    rw [h4, h2]
  have hr : (fun i => (M'.2.2.2.2 c i).map ad') = (fun i => (M.2.2.2.2 c i).map ad) := funext h4
  unfold am_cell
  rw [h1, h2, h3, hr]
  simp only [hf]
end AMW
def am_wf (M : am_M) : Prop := (∀ c, c < 4 → (M.2.1 c).1 = 1) ∧ (∀ c, 4 ≤ c → (M.2.1 c).1 ≠ 1) ∧ 4 ≤ M.1 ∧ ∀ c i q, M.2.2.2.2 c i = some q → q < M.1
/-- the words that go along with calls -/
def am_tb : List Cond := lw_tbl.filter goodWord
theorem am_tb_of {w : Cond} (h : w ∈ lw_tbl) (g : goodWord w = true) : w ∈ am_tb := List.mem_filter.mpr ⟨h, g⟩
theorem am_tb_lay {C : String} {T : u_T} {N : Nat} (h : ∀ w ∈ u_ws C T N, w ∈ lw_tbl) : ∀ w ∈ u_ws C T N, w ∈ am_tb := by
  intro w hw
  refine am_tb_of (h w hw) ?_
  obtain ⟨k, -, rfl⟩ := List.mem_map.mp hw
  unfold u_lay
  split <;> rfl
/-- of what class each field is, and what the tables say of it -/
theorem am_cls : ∀ ci, ci < 11 → ∃ (C : String) (T : u_T), am_cl[ci]? = some (C, T, am_nf ci) ∧ (∀ w ∈ u_ws C T (am_nf ci), w ∈ am_tb) ∧ (∀ k, k < am_nf ci → parseFieldDescriptor (T k).2.2.1 = some (am_ty ci k)) ∧ (∀ a, a < am_nf ci → ∀ b, b < am_nf ci → a ≠ b → (T a).2.1 ≠ (T b).2.1) := by
  intro ci h
  match ci, h with
  | 0, _ => exact ⟨_, _, rfl, am_tb_lay inX0, tyX0_ok, nmX0⟩
  | 1, _ => exact ⟨_, _, rfl, am_tb_lay inX1, tyX1_ok, nmX1⟩
  | 2, _ => exact ⟨_, _, rfl, am_tb_lay inX2, tyX2_ok, nmX2⟩
  | 3, _ => exact ⟨_, _, rfl, am_tb_lay inX3, tyX3_ok, nmX3⟩
  | 4, _ => exact ⟨_, _, rfl, am_tb_lay inX4, tyX4_ok, nmX4⟩
  | 5, _ => exact ⟨_, _, rfl, am_tb_lay inX5, tyX5_ok, nmX5⟩
  | 6, _ => exact ⟨_, _, rfl, am_tb_lay inX6, tyX6_ok, nmX6⟩
  | 7, _ => exact ⟨_, _, rfl, am_tb_lay inX7, tyX7_ok, nmX7⟩
  | 8, _ => exact ⟨_, _, rfl, am_tb_lay inX8, tyX8_ok, nmX8⟩
  | 9, _ => exact ⟨_, _, rfl, am_tb_lay inX9, tyX9_ok, nmX9⟩
  | 10, _ => exact ⟨_, _, rfl, am_tb_lay inX10, tyX10_ok, nmX10⟩
/-! locals -/
def am_fr (ad : Nat → Nat) (n nL : Nat) (L : List Value) (ls : Array Slot) : Prop := L.length = nL ∧ ls.size = nL ∧ lv_wf ls ∧ (∀ (i : Nat) (v : Value), L[i]? = some v → am_ok n v) ∧ ∀ (i : Nat) (v : Value), L[i]? = some v → v ≠ .null → ls[i]? = some (.val (am_cv ad v))
def am_nn (ad : Nat → Nat) (i : Nat) : Option Value → Option (Nat × Value)
  | some .null => none
  | some v => some (i, am_cv ad v)
  | none => none
def am_al (ad : Nat → Nat) (L : List Value) : List (Nat × Value) := (List.range L.length).filterMap fun i => am_nn ad i L[i]?
theorem am_al_mem {ad : Nat → Nat} {L : List Value} {i : Nat} {v : Value} (h : L[i]? = some v) (hv : v ≠ .null) : (i, am_cv ad v) ∈ am_al ad L := by
  refine List.mem_filterMap.mpr ⟨i, List.mem_range.mpr (List.getElem?_eq_some_iff.mp h).1, ?_⟩
  rw [h]
  cases v <;> first | rfl | exact absurd rfl hv
theorem am_fr_has {ad : Nat → Nat} {n nL : Nat} {L : List Value} {ls : Array Slot} (h : am_fr ad n nL L ls) : lv_has ls nL (am_al ad L) := by
  refine ⟨h.2.1, h.2.2.1, fun q hq => ?_⟩
  obtain ⟨i, hi, he⟩ := List.mem_filterMap.mp hq
  cases hL : L[i]? with
  | none => rw [hL] at he; cases he
  | some v =>
    rw [hL] at he
    have hv : v ≠ .null := by rintro rfl; cases he
    have : q = (i, am_cv ad v) := by cases v <;> first | exact absurd rfl hv | exact (Option.some.inj he).symm
    subst this
    exact h.2.2.2.2 i v hL hv
theorem am_clr_at {L : List Value} {i j : Nat} {w : Value} (h : (am_clr L i)[j]? = some w) (hw : w ≠ .null) : L[j]? = some w ∧ ¬ (j + 1 = i ∧ w.category = 2) := by
  cases i with
  | zero => exact ⟨h, fun q => absurd q.1 (by omega)⟩
  | succ i =>
    unfold am_clr at h
    dsimp only at h
    by_cases hj : j = i
    · subst hj
      cases hL : L[j]? with
      | none => rw [hL] at h; dsimp only at h; rw [hL] at h; cases h
      | some v =>
        have hl := (List.getElem?_eq_some_iff.mp hL).1
        rw [hL] at h
        cases v with
        | long x => dsimp only at h; rw [List.getElem?_set_self hl] at h; exact absurd (Option.some.inj h).symm hw
        | double x => dsimp only at h; rw [List.getElem?_set_self hl] at h; exact absurd (Option.some.inj h).symm hw
        | _ =>
          dsimp only at h
          rw [hL] at h
          cases h
          exact ⟨rfl, fun q => by cases q.2⟩
    · refine ⟨?_, fun q => hj (by omega)⟩
      split at h
      · rw [List.getElem?_set_ne (Ne.symm hj)] at h; exact h
      · rw [List.getElem?_set_ne (Ne.symm hj)] at h; exact h
      · exact h
theorem am_clr_len (L : List Value) (i : Nat) : (am_clr L i).length = L.length := by
  unfold am_clr
  split
  · rfl
  · split <;> simp
theorem am_fr_st1 {ad : Nat → Nat} {n nL i : Nat} {L : List Value} {ls ls' : Array Slot} {v : Value} (h : am_fr ad n nL L ls) (hv : am_ok n v) (hi : i < nL) (h' : lv_has ls' nL ((i, am_cv ad v) :: (am_al ad L).filter (fun q => !(q.1 == i) && !(q.1 + 1 == i && q.2.category == 2)))) : am_fr ad n nL (am_st1 L i v) ls' := by
  obtain ⟨h1, h2, h3, h4, h5⟩ := h
  have key : ∀ (j : Nat) (w : Value), (am_st1 L i v)[j]? = some w → w ≠ .null → (j = i ∧ w = v) ∨ (j ≠ i ∧ L[j]? = some w ∧ ¬ (j + 1 = i ∧ w.category = 2)) := by
    intro j w hj hw
    unfold am_st1 at hj
    by_cases e : j = i
    · subst e
      rw [List.getElem?_set_self (by rw [am_clr_len]; omega)] at hj
      exact Or.inl ⟨rfl, (Option.some.inj hj).symm⟩
    · rw [List.getElem?_set_ne (Ne.symm e)] at hj
      exact Or.inr ⟨e, am_clr_at hj hw⟩
  refine ⟨by unfold am_st1; rw [List.length_set, am_clr_len]; exact h1, h'.1, h'.2.1, fun j w hj => ?_, fun j w hj hw => ?_⟩
  · by_cases hw : w = .null
    · subst hw; trivial
    · rcases key j w hj hw with ⟨rfl, rfl⟩ | ⟨-, hL, -⟩
      · exact hv
      · exact h4 j w hL
  · rcases key j w hj hw with ⟨rfl, rfl⟩ | ⟨e, hL, hc⟩
    · exact h'.2.2 (j, am_cv ad w) List.mem_cons_self
    · refine h'.2.2 (j, am_cv ad w) (List.mem_cons_of_mem _ (List.mem_filter.mpr ⟨am_al_mem hL hw, ?_⟩))
      simp only [am_cv_cat, Bool.and_eq_true, Bool.not_eq_true', beq_eq_false_iff_ne, ne_eq, Bool.and_eq_false_iff]
      refine ⟨e, ?_⟩
      by_cases e2 : j + 1 = i
      · exact Or.inr fun z => hc ⟨e2, z⟩
      · exact Or.inl e2
theorem am_fr_st2 {ad : Nat → Nat} {n nL i : Nat} {L : List Value} {ls ls' : Array Slot} {v : Value} (h : am_fr ad n nL L ls) (hv : am_ok n v) (hi : i + 1 < nL) (h' : lv_has ls' nL ((i, am_cv ad v) :: (am_al ad L).filter (fun q => !(q.1 == i) && (!(q.1 == i + 1) && !(q.1 + 1 == i && q.2.category == 2))))) : am_fr ad n nL (am_st2 L i v) ls' := by
  obtain ⟨h1, h2, h3, h4, h5⟩ := h
  have key : ∀ (j : Nat) (w : Value), (am_st2 L i v)[j]? = some w → w ≠ .null → (j = i ∧ w = v) ∨ (j ≠ i ∧ j ≠ i + 1 ∧ L[j]? = some w ∧ ¬ (j + 1 = i ∧ w.category = 2)) := by
    intro j w hj hw
    unfold am_st2 at hj
    by_cases e2 : j = i + 1
    · subst e2
      rw [List.getElem?_set_self (by rw [List.length_set, am_clr_len]; omega)] at hj
      exact absurd (Option.some.inj hj).symm hw
    · rw [List.getElem?_set_ne (Ne.symm e2)] at hj
      by_cases e : j = i
      · subst e
        rw [List.getElem?_set_self (by rw [am_clr_len]; omega)] at hj
        exact Or.inl ⟨rfl, (Option.some.inj hj).symm⟩
      · rw [List.getElem?_set_ne (Ne.symm e)] at hj
        exact Or.inr ⟨e, e2, am_clr_at hj hw⟩
  refine ⟨by unfold am_st2; rw [List.length_set, List.length_set, am_clr_len]; exact h1, h'.1, h'.2.1, fun j w hj => ?_, fun j w hj hw => ?_⟩
  · by_cases hw : w = .null
    · subst hw; trivial
    · rcases key j w hj hw with ⟨rfl, rfl⟩ | ⟨-, -, hL, -⟩
      · exact hv
      · exact h4 j w hL
  · rcases key j w hj hw with ⟨rfl, rfl⟩ | ⟨e, e1, hL, hc⟩
    · exact h'.2.2 (j, am_cv ad w) List.mem_cons_self
    · refine h'.2.2 (j, am_cv ad w) (List.mem_cons_of_mem _ (List.mem_filter.mpr ⟨am_al_mem hL hw, ?_⟩))
      simp only [am_cv_cat, Bool.and_eq_true, Bool.not_eq_true', beq_eq_false_iff_ne, ne_eq, Bool.and_eq_false_iff]
      refine ⟨e, e1, ?_⟩
      by_cases e2 : j + 1 = i
      · exact Or.inr fun z => hc ⟨e2, z⟩
      · exact Or.inl e2
/-- the locals stay, where the addresses go on -/
theorem am_fr_up {ad ad' : Nat → Nat} {n n' nL : Nat} {L : List Value} {ls : Array Slot} (hn : n ≤ n') (ha : ∀ c, c < n → ad' c = ad c) (h : am_fr ad n nL L ls) : am_fr ad' n' nL L ls := by
  obtain ⟨h1, h2, h3, h4, h5⟩ := h
  exact ⟨h1, h2, h3, fun i v hv => am_ok_up hn (h4 i v hv), fun i v hv hw => by rw [am_cv_agree ha (h4 i v hv)]; exact h5 i v hv hw⟩
