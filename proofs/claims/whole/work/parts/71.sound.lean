/-! each instruction of the small machine is the machine's own -/
def am_len : Instr → Nat
  | .bipush _ => 2
  | .sipush _ => 3
  | .ldc _ => 2
  | .ldc_w _ => 3
  | .ldc2_w _ => 3
  | .iload _ => 2
  | .lload _ => 2
  | .aload _ => 2
  | .istore _ => 2
  | .lstore _ => 2
  | .astore _ => 2
  | .iinc _ _ => 3
  | .ifCond _ _ => 3
  | .if_icmp _ _ => 3
  | .goto _ => 3
  | .getfield _ => 3
  | .putfield _ => 3
  | .getstatic _ => 3
  | .invokevirtual _ => 3
  | .invokestatic _ => 3
  | .invokespecial _ => 3
  | .new _ => 3
  | .newarray _ => 2
  | .anewarray _ => 3
  | .checkcast _ => 3
  | .multianewarray _ _ => 4
  | _ => 1
/-- which static stands at which read only cell -/
def am_sn : Nat → String
  | 0 => "SETTINGS_LEAST"
  | 1 => "SETTINGS_MOST"
  | _ => "SETTINGS_AT_FIRST"
/-- what the tables must say of an instruction, beside its code -/
def am_okx (own : String) (ret : Option FieldType) (pc : Nat) (x : am_I) : Prop := match x with
  | (ins, nx, a, b, z) => match ins with
    | .goto o => (pc : Int) + o = (a : Int)
    | .ifCond _ o => (pc : Int) + o = (a : Int)
    | .if_icmp _ o => (pc : Int) + o = (a : Int)
    | .bipush i => (Int8.ofInt i).toInt32 = Int32.ofInt i
    | .sipush i => (Int16.ofInt i).toInt32 = Int32.ofInt i
    | .lconst i => Int64.ofNat (i : Nat) = Int64.ofInt z
    | .ldc i => Cond.constant own i (Int32.ofInt z) ∈ am_tb
    | .ldc_w i => Cond.constant own i (Int32.ofInt z) ∈ am_tb
    | .ldc2_w i => Cond.constantLong own i (Int64.ofInt z) ∈ am_tb
    | .getfield i => ∃ r : vw_C, am_cl[a]? = some r ∧ b < r.2.2 ∧ Cond.fieldLink own i (r.2.1 b).1 (r.2.1 b).2.1 (r.2.1 b).2.2.1 ∈ am_tb
    | .putfield i => z = 0 → ∃ r : vw_C, am_cl[a]? = some r ∧ b < r.2.2 ∧ (r.2.1 b).2.2.2 = false ∧ Cond.fieldLink own i (r.2.1 b).1 (r.2.1 b).2.1 (r.2.1 b).2.2.1 ∈ am_tb
    | .aaload => a < 2
    | .newarray .int => Cond.arrayClass .int ∈ am_tb
    | .ireturn => ret = some (match b with | 0 => .int | _ => .boolean)
    | .lreturn => ret = some .long
    | .return_ => ret = none
    | .tableswitch d lo hi offs => hi = lo + offs.size - 1 ∧ 0 ≤ (pc : Int) + d ∧ ∀ o ∈ offs.toList, 0 ≤ (pc : Int) + o
    | _ => True
/-- what is told of a static row -/
def am_row (s : State) (tC : Nat → ClassId) (A : Nat → Prop) (t N : Nat) (f : Nat → Int32) : Prop := ∃ cell : Cell, s.heap[t]? = some cell ∧ cell.cls = tC 0 ∧ cell.slots.size = N ∧ (∀ j, j < N → cell.slots[j]? = some (.int (f j))) ∧ (∀ k, cell.vm ≠ .statics k) ∧ cell.vm ≠ .unknown ∧ ¬ A t
/-- the class of rows of rows has the class of rows for its parts -/
def am_RR (U : State) (cA : ClassId) : Prop := ∃ (kA : Class) (comp : ClassId), U.vm.classes[cA]? = some kA ∧ kA.kind = .array comp (.array .int) ∧ U.vm.findClass "[I" = some comp ∧ U.vm.findClass "[[I" = some cA
theorem am_RR_moved {u U : State} {cA : ClassId} (hvm : u.vm.Alike U.vm) (h : am_RR u cA) : am_RR U cA := by
  obtain ⟨kA, comp, h1, h2, h3, h4⟩ := h
  obtain ⟨k', hk', he⟩ := hvm.2.2 _ _ h1
  exact ⟨k', comp, hk', by rw [he]; exact h2, by rw [hvm.findClass]; exact h3, by rw [hvm.findClass]; exact h4⟩
/-- what constructors need of the tables and of the static rows -/
def am_X (s : State) (tC : Nat → ClassId) (A : Nat → Prop) (ad0 : Nat → Nat) (M0 : am_M) : Prop := (va_Nw (.castable "[I" "java/lang/Cloneable") s ∧ va_AO RX7 s ∧ am_RR s (tC 4)) ∧ ∀ r, r < 3 → am_row s tC A (ad0 r) (M0.2.1 r).2 (M0.2.2.1 r)
section AMS
variable {p : Program} {l : Launch} {e : Env} {R : Room} {s : State} {m : MethodId} {args : Array Value} {below : List Frame} {meth : Method} {c : Code} {Qf : State → Prop}
variable {D : va_G} {tC : Nat → ClassId} {A : Nat → Prop} {ad0 : Nat → Nat} {M0 : am_M} {nL : Nat} {own : String} {cc : ByteArray} {ret : Option FieldType} {nest : List Cond}
/-- what stays the same in a method's run -/
def am_Ctx (p : Program) (s : State) (m : MethodId) (args : Array Value) (c : Code) (D : va_G) (tC : Nat → ClassId) (A : Nat → Prop) (ad0 : Nat → Nat) (M0 : am_M) (nL : Nat) (own : String) (cc : ByteArray) (nest : List Cond) : Prop :=
  p.tables.exec = Jvm.exec ∧ c.code = cc ∧ c.maxLocals = nL ∧ s.vm.findClass own = some m.cls ∧ (∀ w ∈ am_tb, w.before args s = true) ∧ va_K D am_cl (am_tys tC) s ∧ (∀ w ∈ nest, va_Nw w s) ∧ (∀ c, c < 4 → va_T .int (ad0 c) (M0.2.1 c).2 (fun i => .int (M0.2.2.1 c i)) A s s.heap) ∧ (∀ j, j < 3 → va_Z "LastForemost" (am_sn j) "[I" (.ref (ad0 j)) A s s.heap) ∧ (∀ q, s.heap.size ≤ q → A q) ∧ 4 ≤ M0.1 ∧ am_X s tC A ad0 M0
/-- the world now -/
def am_Wn (s : State) (D : va_G) (tC : Nat → ClassId) (A : Nat → Prop) (ad0 : Nat → Nat) (M0 : am_M) (ad : Nat → Nat) (M : am_M) (H : Heap) (locs : List Loc) : Prop :=
  va_P D am_cl (am_w tC ad M) H ∧ va_D A (am_w tC ad M) ∧ va_S A s.heap H locs ∧ am_wf M ∧ (∀ c, c < M0.1 → ad c = ad0 c) ∧ M0.1 ≤ M.1 ∧ (∀ c, c < 4 → M.2.1 c = M0.2.1 c ∧ M.2.2.1 c = M0.2.2.1 c)
def am_P (p : Program) (l : Launch) (e : Env) (R : Room) (s : State) (m : MethodId) (args : Array Value) (below : List Frame) (meth : Method) (c : Code) (Qf : State → Prop) (D : va_G) (tC : Nat → ClassId) (A : Nat → Prop) (ad0 : Nat → Nat) (M0 : am_M) (nL : Nat) (F : am_F) (M : am_M) : Prop :=
  ∀ (ad : Nat → Nat) (H : Heap) (locs : List Loc) (cells slots : Nat) (ls : Array Slot), am_Wn s D tC A ad0 M0 ad M H locs → am_fr ad M.1 nL F.2.1 ls → am_oks M.1 F.2.2.1 → cells + F.2.2.2.1 ≤ R.cells → slots + F.2.2.2.2 ≤ R.slots → W p l e R s m args below meth c H locs cells slots Qf (F0 m F.1 ls (F.2.2.1.map (am_cv ad)))
/-- a step that changes the stack alone -/
theorem am_pp {pc nx : Nat} {L st st' : List Value} {bc bs : Nat} {M : am_M} (hok : ∀ n, am_oks n st → am_oks n st')
    (hW : ∀ (ad : Nat → Nat) (H : Heap) (locs : List Loc) (cells slots : Nat) (ls : Array Slot), W p l e R s m args below meth c H locs cells slots Qf (F0 m nx ls (st'.map (am_cv ad))) → W p l e R s m args below meth c H locs cells slots Qf (F0 m pc ls (st.map (am_cv ad))))
    (h : am_P p l e R s m args below meth c Qf D tC A ad0 M0 nL (nx, L, st', bc, bs) M) : am_P p l e R s m args below meth c Qf D tC A ad0 M0 nL (pc, L, st, bc, bs) M :=
  fun ad H locs cells slots ls hw hf hs hc hz => hW ad H locs cells slots ls (h ad H locs cells slots ls hw hf (hok _ hs) hc hz)
/-- a branch -/
theorem am_pb {pc a b : Nat} {L st st' : List Value} {bc bs : Nat} {M : am_M} {cnd : Prop} (hok : ∀ n, am_oks n st → am_oks n st')
    (hW : ∀ (ad : Nat → Nat) (H : Heap) (locs : List Loc) (cells slots : Nat) (ls : Array Slot), (cnd → W p l e R s m args below meth c H locs cells slots Qf (F0 m a ls (st'.map (am_cv ad)))) → (¬ cnd → W p l e R s m args below meth c H locs cells slots Qf (F0 m b ls (st'.map (am_cv ad)))) → W p l e R s m args below meth c H locs cells slots Qf (F0 m pc ls (st.map (am_cv ad))))
    (h : am_if cnd (am_P p l e R s m args below meth c Qf D tC A ad0 M0 nL (a, L, st', bc, bs) M) (am_P p l e R s m args below meth c Qf D tC A ad0 M0 nL (b, L, st', bc, bs) M)) : am_P p l e R s m args below meth c Qf D tC A ad0 M0 nL (pc, L, st, bc, bs) M :=
  fun ad H locs cells slots ls hw hf hs hc hz => hW ad H locs cells slots ls (fun q => h.1 q ad H locs cells slots ls hw hf (hok _ hs) hc hz) (fun q => h.2 q ad H locs cells slots ls hw hf (hok _ hs) hc hz)
theorem am_iload_at {L : List Value} {i : Nat} {f : Value → Prop} (h : am_iload L i f) : ∃ x, L[i]? = some (.int x) ∧ f (.int x) := by
  unfold am_iload at h
  split at h
  · exact ⟨_, by assumption, h⟩
  · exact h.elim
theorem am_lload_at {L : List Value} {i : Nat} {f : Value → Prop} (h : am_lload L i f) : ∃ x, L[i]? = some (.long x) ∧ f (.long x) := by
  unfold am_lload at h
  split at h
  · exact ⟨_, by assumption, h⟩
  · exact h.elim
theorem am_aload_at {L : List Value} {i : Nat} {f : Value → Prop} (h : am_aload L i f) : ∃ x, L[i]? = some (.ref x) ∧ f (.ref x) := by
  unfold am_aload at h
  split at h
  · exact ⟨_, by assumption, h⟩
  · exact h.elim
theorem am_ii_at {st : List Value} {f : Int32 → Int32 → List Value → Prop} (h : am_ii st f) : ∃ x y r, st = .int y :: .int x :: r ∧ f x y r := by
  unfold am_ii at h
  split at h
  · exact ⟨_, _, _, rfl, h⟩
  · exact h.elim
theorem am_ll_at {st : List Value} {f : Int64 → Int64 → List Value → Prop} (h : am_ll st f) : ∃ x y r, st = .long y :: .long x :: r ∧ f x y r := by
  unfold am_ll at h
  split at h
  · exact ⟨_, _, _, rfl, h⟩
  · exact h.elim
theorem am_i_at {st : List Value} {f : Int32 → List Value → Prop} (h : am_i st f) : ∃ x r, st = .int x :: r ∧ f x r := by
  unfold am_i at h
  split at h
  · exact ⟨_, _, rfl, h⟩
  · exact h.elim
theorem am_l_at {st : List Value} {f : Int64 → List Value → Prop} (h : am_l st f) : ∃ x r, st = .long x :: r ∧ f x r := by
  unfold am_l at h
  split at h
  · exact ⟨_, _, rfl, h⟩
  · exact h.elim
theorem am_r_at {st : List Value} {f : Nat → List Value → Prop} (h : am_r st f) : ∃ x r, st = .ref x :: r ∧ f x r := by
  unfold am_r at h
  split at h
  · exact ⟨_, _, rfl, h⟩
  · exact h.elim
theorem am_ir_at {st : List Value} {f : Int32 → Nat → List Value → Prop} (h : am_ir st f) : ∃ i a r, st = .int i :: .ref a :: r ∧ f i a r := by
  unfold am_ir at h
  split at h
  · exact ⟨_, _, _, rfl, h⟩
  · exact h.elim
theorem am_v_at {st : List Value} {f : Value → List Value → Prop} (h : am_v st f) : ∃ x r, st = x :: r ∧ f x r := by
  unfold am_v at h
  split at h
  · exact ⟨_, _, rfl, h⟩
  · exact h.elim
theorem am_on_at {b : Bool} {B : Prop} (h : am_on b B) : b = true ∧ B := by
  cases b
  · exact h.elim
  · exact ⟨rfl, h⟩
theorem am_ob_at {M : am_M} {r k : Nat} (h : am_ob M r k = true) : (M.2.1 r).1 = k := Nat.eq_of_beq_eq_true h
/-- loads -/
theorem am_pl {pc nx i : Nat} {L st : List Value} {bc bs : Nat} {M : am_M} {v : Value} (hv : L[i]? = some v) (hn : v ≠ .null)
    (hW : ∀ (ad : Nat → Nat) (H : Heap) (locs : List Loc) (cells slots : Nat) (ls : Array Slot), ls[i]? = some (.val (am_cv ad v)) → W p l e R s m args below meth c H locs cells slots Qf (F0 m nx ls (am_cv ad v :: st.map (am_cv ad))) → W p l e R s m args below meth c H locs cells slots Qf (F0 m pc ls (st.map (am_cv ad))))
    (h : am_P p l e R s m args below meth c Qf D tC A ad0 M0 nL (nx, L, v :: st, bc, bs) M) : am_P p l e R s m args below meth c Qf D tC A ad0 M0 nL (pc, L, st, bc, bs) M :=
  fun ad H locs cells slots ls hw hf hs hc hz => hW ad H locs cells slots ls (hf.2.2.2.2 i v hv hn) (h ad H locs cells slots ls hw hf ⟨hf.2.2.2.1 i v hv, hs⟩ hc hz)
/-- stores of one slot -/
theorem am_ps1 {pc nx i : Nat} {L st : List Value} {bc bs : Nat} {M : am_M} {v : Value} (hi : Nat.blt i L.length = true)
    (hW : ∀ (ad : Nat → Nat) (H : Heap) (locs : List Loc) (cells slots : Nat) (ls : Array Slot) (lv : List (Nat × Value)), i < nL → lv_has ls nL lv → (∀ ls' : Array Slot, lv_has ls' nL ((i, am_cv ad v) :: lv.filter (fun q => !(q.1 == i) && !(q.1 + 1 == i && q.2.category == 2))) → W p l e R s m args below meth c H locs cells slots Qf (F0 m nx ls' (st.map (am_cv ad)))) → W p l e R s m args below meth c H locs cells slots Qf (F0 m pc ls (am_cv ad v :: st.map (am_cv ad))))
    (h : am_P p l e R s m args below meth c Qf D tC A ad0 M0 nL (nx, am_st1 L i v, st, bc, bs) M) : am_P p l e R s m args below meth c Qf D tC A ad0 M0 nL (pc, L, v :: st, bc, bs) M :=
  fun ad H locs cells slots ls hw hf hs hc hz => by
    have hi' : i < nL := by rw [← hf.1]; exact Nat.le_of_ble_eq_true hi
    exact hW ad H locs cells slots ls _ hi' (am_fr_has hf) (fun ls' hl' => h ad H locs cells slots ls' hw (am_fr_st1 hf hs.1 hi' hl') hs.2 hc hz)
theorem am_ps2 {pc nx i : Nat} {L st : List Value} {bc bs : Nat} {M : am_M} {v : Value} (hi : Nat.blt (i + 1) L.length = true)
    (hW : ∀ (ad : Nat → Nat) (H : Heap) (locs : List Loc) (cells slots : Nat) (ls : Array Slot) (lv : List (Nat × Value)), i + 1 < nL → lv_has ls nL lv → (∀ ls' : Array Slot, lv_has ls' nL ((i, am_cv ad v) :: lv.filter (fun q => !(q.1 == i) && (!(q.1 == i + 1) && !(q.1 + 1 == i && q.2.category == 2)))) → W p l e R s m args below meth c H locs cells slots Qf (F0 m nx ls' (st.map (am_cv ad)))) → W p l e R s m args below meth c H locs cells slots Qf (F0 m pc ls (am_cv ad v :: st.map (am_cv ad))))
    (h : am_P p l e R s m args below meth c Qf D tC A ad0 M0 nL (nx, am_st2 L i v, st, bc, bs) M) : am_P p l e R s m args below meth c Qf D tC A ad0 M0 nL (pc, L, v :: st, bc, bs) M :=
  fun ad H locs cells slots ls hw hf hs hc hz => by
    have hi' : i + 1 < nL := by rw [← hf.1]; exact Nat.le_of_ble_eq_true hi
    exact hW ad H locs cells slots ls _ hi' (am_fr_has hf) (fun ls' hl' => h ad H locs cells slots ls' hw (am_fr_st2 hf hs.1 hi' hl') hs.2 hc hz)
end AMS
