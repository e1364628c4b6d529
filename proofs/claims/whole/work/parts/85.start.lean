/-! the law, from its entry in the machine -/
section AMLAW
variable {p : Program} {l : Launch} {e : Env} {s : State} {m : MethodId} {below : List Frame} {meth : Method} {c : Code} {b L : Nat} {xs : Nat → Int32} {D : va_G} {tC : Nat → ClassId} {ad0 : Nat → Nat} {M0 : am_M}
theorem am_law_ret (hx : p.tables.exec = Jvm.exec) (hb : c.code = code) (hr : meth.sig.returnType = ret) (hlocks : meth.locks = false) : am_Ret p l e room_1 s m #[Value.ref b] below meth c (lw_Z below #[Value.ref b] s) D tC (fun q : Nat => s.heap.size ≤ q) ad0 M0 code (some .boolean) (fun r _ => r = some (.int 1)) := by
  intro ad H locs cells slots ls pc M hw hc hs
  refine ⟨fun x hQ hd _ => ?_, (fun x hQ hd _ => by cases hQ), (fun hQ hd _ => by cases hQ)⟩
  cases hQ
  refine va_forget (fun q hq => hw.2.2.1.2.2 q hq) ?_
  refine W.widen (k := 600000) (n := 7302250) hc hs ?_
  exact lw_ret hx hb hr hlocks hd
theorem am_law_W (l : Launch) (hx : p.tables.exec = Jvm.exec) (hb : c.code = code) (hr : meth.sig.returnType = ret) (hlocks : meth.locks = false) (C : am_Ctx p s m #[Value.ref b] c D tC (fun q : Nat => s.heap.size ≤ q) ad0 M0 4 RL code am_nest) (h : am_wp (am_d 10) T_L_law (fun r _ => r = some (.int 1)) (0, [.ref 3, .null, .null, .null], [], 25545, 52444) M0) : am_P p l e room_1 s m #[Value.ref b] below meth c (lw_Z below #[Value.ref b] s) D tC (fun q : Nat => s.heap.size ≤ q) ad0 M0 4 (0, [.ref 3, .null, .null, .null], [], 25545, 52444) M0 := by
  refine h (am_P p l e room_1 s m #[Value.ref b] below meth c (lw_Z below #[Value.ref b] s) D tC (fun q : Nat => s.heap.size ≤ q) ad0 M0 4) (fun F M' hs => ?_)
  obtain ⟨pc, LL, st, bc, bs⟩ := F
  unfold am_step at hs
  dsimp only at hs
  split at hs
  · next x hx' =>
    exact am_ex_sound (d := 10) (nm := meth.name) rfl am_nest_ok C ⟨by decide, by decide⟩ (fun k as c1 s1 M Q hq => am_d_sound l am_nest_ok am_tok_all 10 k as c1 s1 M Q hq) (am_law_ret hx hb hr hlocks) (am_law_ok meth.name pc x hx') hs
  · exact hs.elim
end AMLAW
/-- the law, from its entry -/
theorem whole_start {p : Program} {e : Env} {s : State} {m : MethodId} {below : List Frame} {meth : Method} {c : Code} (l : Launch) {b L : Nat} {xs : Nat → Int32} (hL : L ≤ 3072) (C0 : lw_At p s m meth c b L xs) : W p l e room_1 s m #[Value.ref b] below meth c s.heap [] 0 0 (lw_Z below #[Value.ref b] s) (entryFrame m ([Value.ref b] : List Value).toArray 4) := by
  obtain ⟨hx, hb, hr, hml, hown, hts, hX, hbl, hlocks, hgv⟩ := C0
  have hs := flat_of_before _ hgv
  have hA : ∀ a : Nat, a < s.heap.size → ¬ (fun q : Nat => s.heap.size ≤ q) a := fun a h => Nat.not_le.mpr h
  obtain ⟨tC, hty, hRR, hAO⟩ := am_tys_ok hts
  obtain ⟨D, hD⟩ := am_D_ok hts
  have hK : va_K D am_cl (am_tys tC) s := ⟨hD, hty⟩
  have hnm : s.vm.findClass "[I" = some (tC 0) := (hty 0 (tC 0, .int) rfl).2
  have hini : (Cond.initialized "LastForemost").before #[Value.ref b] s = true := hts _ (by decide +kernel)
  obtain ⟨t0, T0, Z0, R0⟩ := am_static (n := "SETTINGS_LEAST") (f := fun j => Int32.ofInt (leastS j)) (tC := tC) (hts _ (by decide +kernel)) hini (hs _ (by decide +kernel)) (hs _ (by decide +kernel)) (fun j hj => by
    rcases (show j = 0 ∨ j = 1 ∨ j = 2 ∨ j = 3 ∨ j = 4 ∨ j = 5 by omega) with rfl | rfl | rfl | rfl | rfl | rfl <;> exact hs _ (by decide +kernel)) (hs _ (by decide +kernel)) hA hnm
  obtain ⟨t1, T1, Z1, R1⟩ := am_static (n := "SETTINGS_MOST") (f := fun j => Int32.ofInt (mostS j)) (tC := tC) (hts _ (by decide +kernel)) hini (hs _ (by decide +kernel)) (hs _ (by decide +kernel)) (fun j hj => by
    rcases (show j = 0 ∨ j = 1 ∨ j = 2 ∨ j = 3 ∨ j = 4 ∨ j = 5 by omega) with rfl | rfl | rfl | rfl | rfl | rfl <;> exact hs _ (by decide +kernel)) (hs _ (by decide +kernel)) hA hnm
  obtain ⟨t2, T2, Z2, R2⟩ := am_static (n := "SETTINGS_AT_FIRST") (f := fun j => Int32.ofInt (stF j : Int)) (tC := tC) (hts _ (by decide +kernel)) hini (hs _ (by decide +kernel)) (hs _ (by decide +kernel)) (fun j hj => by
    rcases (show j = 0 ∨ j = 1 ∨ j = 2 ∨ j = 3 ∨ j = 4 ∨ j = 5 by omega) with rfl | rfl | rfl | rfl | rfl | rfl <;> exact hs _ (by decide +kernel)) (hs _ (by decide +kernel)) hA hnm
  obtain ⟨scr, x1, x2, x3, x4, x5⟩ := hX
  have C : am_Ctx p s m #[Value.ref b] c D tC (fun q : Nat => s.heap.size ≤ q) (am_ad0 t0 t1 t2 b) (am_M0 L xs) 4 RL code am_nest := by
    refine ⟨hx, hb, hml, hown, fun w hw => hts w (List.mem_filter.mp hw).1, hK, am_nest_in hts, fun c hc => ?_, fun j hj => ?_, fun _ h => h, Nat.le_refl 4, ⟨va_Nw.of rfl (hts _ (by decide +kernel)), hAO, hRR⟩, fun r hr => ?_⟩
    · rcases (show c = 0 ∨ c = 1 ∨ c = 2 ∨ c = 3 by omega) with rfl | rfl | rfl | rfl
      · exact T0
      · exact T1
      · exact T2
      · exact ⟨scr, x1, x2, x3, Nat.le_of_eq x4.symm, by rw [x4]; rfl, x5, hA b hbl⟩
    · rcases (show j = 0 ∨ j = 1 ∨ j = 2 by omega) with rfl | rfl | rfl
      · exact Z0
      · exact Z1
      · exact Z2
    · rcases (show r = 0 ∨ r = 1 ∨ r = 2 by omega) with rfl | rfl | rfl
      · exact R0
      · exact R1
      · exact R2
  have key := am_law_W (below := below) (e := e) l hx hb hr hlocks C (law_ok (fun r _ => r = some (.int 1)) (by omega) (fun _ => rfl) ⟨fun i _ => rfl, fun i _ => rfl⟩ (fun i _ => rfl))
  have hno : ∀ (k : Nat) (q : Nat × va_E), ¬ (am_w tC (am_ad0 t0 t1 t2 b) (am_M0 L xs))[k]? = some q := fun k q h => absurd (am_w_of h).1 (by show ¬ k < 4 - 4; omega)
  have fin := key (am_ad0 t0 t1 t2 b) s.heap [] 0 0 _ ⟨fun k q h => absurd h (hno k q), ⟨fun i j p q h => absurd h (hno i p), fun k q h => absurd h (hno k q)⟩, va_S.rf, am_M0_wf L xs, fun _ _ => rfl, Nat.le_refl _, fun _ _ => ⟨rfl, rfl⟩⟩ (am_entry (n := 4) (nl := 4) (as := [.ref 3]) ⟨(by decide : 3 < 4), trivial⟩ (by decide)) trivial (by decide) (by decide)
  rw [lg_entry_eq]
  exact fin
