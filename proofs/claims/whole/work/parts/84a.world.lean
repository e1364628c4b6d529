/-! the world at the law's start -/
theorem am_inst : ∀ k, k < 11 → ∀ Cn T N, am_cl[k]? = some (Cn, T, N) → Cond.instantiable Cn N ∈ am_tb := by
  intro k h Cn T N h2
  match k, h with
  | 0, _ => exact ((am_DN_ok (9, 37, 0) (by decide)).2 _ _ _ h2).2.1
  | 1, _ => exact ((am_DN_ok (9, 61, 1) (by decide)).2 _ _ _ h2).2.1
  | 2, _ => exact ((am_DN_ok (9, 49, 2) (by decide)).2 _ _ _ h2).2.1
  | 3, _ => exact ((am_DN_ok (9, 68, 3) (by decide)).2 _ _ _ h2).2.1
  | 4, _ => exact ((am_DN_ok (9, 9, 4) (by decide)).2 _ _ _ h2).2.1
  | 5, _ => exact ((am_DN_ok (9, 16, 5) (by decide)).2 _ _ _ h2).2.1
  | 6, _ => exact ((am_DN_ok (9, 23, 6) (by decide)).2 _ _ _ h2).2.1
  | 7, _ => exact ((am_DN_ok (9, 82, 7) (by decide)).2 _ _ _ h2).2.1
  | 8, _ => exact ((am_DN_ok (9, 75, 8) (by decide)).2 _ _ _ h2).2.1
  | 9, _ => exact ((am_DN_ok (13, 7, 9) (by decide)).2 _ _ _ h2).2.1
  | 10, _ => exact ((am_DN_ok (13, 10, 10) (by decide)).2 _ _ _ h2).2.1
theorem am_len6 {args : Array Value} {s : State} {t : Term} {z : Int32} {a : Nat} {cell : Cell} (h : (Term.length t).eval args s none [] s = some (.int z)) (ht : t.eval args s none [] s = some (.ref a)) (hc : s.arrayAt? a = some cell) : cell.slots.size = z.toNatClampNeg := by
  simp only [Term.eval, Option.bind_eq_bind] at h
  simp only [ht, Option.bind_some, hc] at h
  by_cases hn : cell.slots.size < 2147483648
  · rw [if_pos hn] at h
    cases h
    exact (Int32.toNatClampNeg_ofNat_of_lt hn).symm
  · rw [if_neg hn] at h
    cases h
/-- a static row of six -/
theorem am_static {args : Array Value} {s : State} {n : String} {f : Nat → Int32} {A : Nat → Prop} {tC : Nat → ClassId} (hl : (Cond.laysStatic "LastForemost" n "[I").before args s = true) (hini : (Cond.initialized "LastForemost").before args s = true) (harr : (Cond.arrayOf (.static "LastForemost" n "[I") .int).before args s = true) (hlen : (Cond.eq (.length (.static "LastForemost" n "[I")) (.int 6)).before args s = true) (hel : ∀ j : Nat, j < 6 → (Cond.eq (.elem (.static "LastForemost" n "[I") (.int (Int32.ofNat j))) (.int (f j))).before args s = true) (hex : (Cond.exactly (.static "LastForemost" n "[I") "[I").before args s = true) (hA : ∀ a : Nat, a < s.heap.size → ¬ A a) (hnm : s.vm.findClass "[I" = some (tC 0)) : ∃ t : Nat, va_T .int t 6 (fun i => .int (f i)) A s s.heap ∧ va_Z "LastForemost" n "[I" (.ref t) A s s.heap ∧ am_row s tC A t 6 f := by
  have hle : (Term.length (.static "LastForemost" n "[I")).eval args s none [] s = some (.int (Int32.ofNat 6)) := va_eqt hlen
  obtain ⟨t, ht, hT⟩ := va_Tof (N := 6) (f := fun i => .int (f i)) (A := A) (by decide) harr hle (fun j hj => va_eqt (hel j hj)) hA
  refine ⟨t, hT, va_Zref hl hini ht hA, ?_⟩
  obtain ⟨a, c, cell, k, e1, e2, e3, e4, e5, e6, -⟩ := Cond.exactly_spec hex
  cases ht.symm.trans e1
  obtain ⟨cell2, t1, t2, t3, t4, t5, t6, t7⟩ := hT
  cases e3.symm.trans t1
  obtain ⟨a2, cell3, l1, l2, -⟩ := Term.length_spec hle
  cases ht.symm.trans l1
  cases e3.symm.trans (State.arrayAt?_spec l2).1
  exact ⟨cell, e3, e6.trans (Option.some.inj (e2.symm.trans hnm)), am_len6 hle ht l2, fun j hj => t6 j hj, (fun k hk => by rw [hk] at e5; cases e5), t3, t7⟩
/-- the classes of rows -/
theorem am_tys_ok {args : Array Value} {s : State} (hts : ∀ w ∈ lw_tbl, w.before args s = true) : ∃ tC : Nat → ClassId, (∀ (k : Nat) (q : ClassId × FieldType), (am_tys tC)[k]? = some q → ArrOfT s q.1 q.2 ∧ va_RA s q.1 q.2) ∧ am_RR s (tC 4) ∧ va_AO RX7 s := by
  have hb : ∀ w ∈ am_tb, w.before args s = true := fun w hw => hts w (List.mem_filter.mp hw).1
  obtain ⟨c0, k0, p0, a0, b0, d0⟩ := Cond.arrayClass_spec (hb _ am_ac_ok)
  obtain ⟨c1, k1, p1, a1, b1, d1⟩ := Cond.arrayClass_spec (hb _ am_acz_ok)
  obtain ⟨c2, k2, p2, a2, b2, d2⟩ := Cond.arrayClass_spec (hb _ am_acl_ok)
  have hao : (Cond.arrayOver (.object RX7)).before args s = true := hts _ (by decide +kernel)
  have haa : (Cond.arrayOver (.array .int)).before args s = true := hts _ (by decide +kernel)
  obtain ⟨p3, c3, k3, a3, i3, b3, d3, e3⟩ := Cond.arrayOver_spec hao
  obtain ⟨p4, c4, k4, a4, i4, b4, d4, e4⟩ := arrayOverA_spec haa
  refine ⟨fun k => match k with | 0 => c0 | 1 => c1 | 2 => c2 | 3 => c3 | _ => c4, ?_, ⟨k4, p4, b4, d4, a4, e4⟩, va_AO.of hao⟩
  intro k q hq
  match k, hq with
  | 0, hq => cases hq; exact ⟨fun n z => ⟨(fun k h => by cases h), k0, b0, p0, d0⟩, a0⟩
  | 1, hq => cases hq; exact ⟨fun n z => ⟨(fun k h => by cases h), k1, b1, p1, d1⟩, a1⟩
  | 2, hq => cases hq; exact ⟨fun n z => ⟨(fun k h => by cases h), k2, b2, p2, d2⟩, a2⟩
  | 3, hq => cases hq; exact ⟨fun n z => ⟨(fun k h => by cases h), k3, b3, p3, d3⟩, k3, p3, b3, d3, a3, e3⟩
  | 4, hq => cases hq; exact ⟨fun n z => ⟨(fun k h => by cases h), k4, b4, p4, d4⟩, e4⟩
  | k + 5, hq => simp [am_tys] at hq
theorem am_D_ok {args : Array Value} {s : State} (hts : ∀ w ∈ lw_tbl, w.before args s = true) : ∃ D : va_G, ∀ (k : Nat) (q : vw_C), am_cl[k]? = some q → u_Kn s q.1 q.2.1 q.2.2 (D.1 k) (D.2 k) := by
  have hb : ∀ w ∈ am_tb, w.before args s = true := fun w hw => hts w (List.mem_filter.mp hw).1
  have h : ∀ k : Nat, ∃ y : ClassId × (Nat → Nat), ∀ q : vw_C, am_cl[k]? = some q → u_Kn s q.1 q.2.1 q.2.2 y.1 y.2 := by
    intro k
    by_cases hk : k < 11
    · obtain ⟨C, T, h1, h2, -, -⟩ := am_cls k hk
      obtain ⟨cC, iS, h3⟩ := u_known (C := C) (T := T) (N := am_nf k) (n := am_nf k) hb h2 (hb _ (am_inst k hk _ _ _ h1))
      refine ⟨(cC, iS), fun q hq => ?_⟩
      cases h1.symm.trans hq
      exact h3
    · refine ⟨(0, fun _ => 0), fun q hq => ?_⟩
      rw [List.getElem?_eq_none (by show 11 ≤ k; omega)] at hq
      cases hq
  obtain ⟨f, hf⟩ := Classical.axiomOfChoice h
  exact ⟨(fun k => (f k).1, fun k => (f k).2), fun k q hq => hf k q hq⟩
theorem am_nest_in {args : Array Value} {s : State} (hts : ∀ w ∈ lw_tbl, w.before args s = true) : ∀ w ∈ am_nest, va_Nw w s := by
  intro w hw
  obtain ⟨i, -, hi⟩ := List.mem_filterMap.mp hw
  exact va_Nw.of (am_nok_on (am_nest_ok w hw)) (hts w (List.mem_of_getElem? hi))
/-- the law's memory at its start -/
def am_s0 (xs : Nat → Int32) : Nat → Nat → Int32
  | 0 => fun j => Int32.ofInt (leastS j)
  | 1 => fun j => Int32.ofInt (mostS j)
  | 2 => fun j => Int32.ofInt (stF j : Int)
  | _ => xs
def am_M0 (L : Nat) (xs : Nat → Int32) : am_M := (4, shP L 4, am_s0 xs, fun _ _ => 0, fun _ _ => none)
def am_ad0 (t0 t1 t2 b : Nat) : Nat → Nat
  | 0 => t0
  | 1 => t1
  | 2 => t2
  | _ => b
theorem am_M0_wf (L : Nat) (xs : Nat → Int32) : am_wf (am_M0 L xs) := by
  refine ⟨fun c hc => ?_, fun c hc => ?_, Nat.le_refl 4, fun c i q h => by cases h⟩
  · rcases (show c = 0 ∨ c = 1 ∨ c = 2 ∨ c = 3 by omega) with rfl | rfl | rfl | rfl <;> rfl
  · show (shP L 4 c).1 ≠ 1
    unfold shP
    rw [show Nat.blt c 4 = false by rw [Bool.eq_false_iff, ne_eq, Nat.blt_eq]; omega]
    exact fun q => by cases q
