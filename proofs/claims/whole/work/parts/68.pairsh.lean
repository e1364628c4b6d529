/-! sheets: pairs of calls -/
theorem rdk_in {f : Nat → Int} : ∀ (k i j : Nat), i ≤ j → j < rdk f k i → 0 ≤ f j ∧ f j ≤ 59
  | 0, i, j, h1, h2 => by
    unfold rdk at h2
    omega
  | k + 1, i, j, h1, h2 => by
    unfold rdk at h2
    split at h2
    · next q =>
      by_cases e : j = i
      · subst e
        exact q
      · exact rdk_in k (i + 1) j (by omega) h2
    · omega
theorem fnd_fm {f : Int} {m : Nat} {fm i : Int} (h : fnd f m fm i = 0) : fm = f := by
  unfold fnd at h
  by_cases c1 : f = -1
  · rw [if_pos c1] at h
    omega
  · rw [if_neg c1] at h
    by_cases c2 : fm = f
    · exact c2
    · rw [if_pos c2] at h
      omega
section PRH
variable {A : aN} {B : aZ}
theorem A11_wf (hwf : WF A B) : WF (am_ur A 11 (A 11)) B := WF_11 hwf hwf.2.2.2.2.2.2.2.2.2.2.2.2.1
theorem p_read (hwf : WF A B) (x : Int32) : PWi 60 143 [.int x] A B := by
  rw [zof x]
  have hz := zrof x
  generalize x.toInt = z at hz ⊢
  by_cases c : 0 ≤ z ∧ z ≤ 3
  · obtain ⟨s, es⟩ : ∃ s : Nat, z = (s : Int) := ⟨z.toNat, by omega⟩
    subst es
    by_cases cl : B 0 s = -1
    · refine ⟨am_u A 0 3 1, B, Int32.ofInt (-11), WF_l hwf (by omega), fun Q n w3 g σ τ r1 r2 W1 W2 hs hst h => ?_, fun Q n w3 g σ τ r1 r2 hm h => ?_⟩
      · exact c_read 7 Q hz hs.1 hwf (fun q => absurd c q) (fun t et ht cb => (h _ (CS_l (v := 1) hs) (fun c e => am_u_ne (by omega)))) (fun t et ht cb => absurd cl (by rw [show s = t by omega]; exact cb))
      · exact r_read 6 Q hz hm hwf (fun q => absurd c q) (fun t et ht cb => (h _ τ (IM_l (v := 1) hm) (fun c e => am_u_ne (by omega)))) (fun t et ht cb => absurd cl (by rw [show s = t by omega]; exact cb))
    · refine ⟨am_ur A 4 (fun j => if j < rdk (B (1 + s)) (min (A 11 s) 7) 0 then (B (1 + s) j).toNat else A 4 j), B, Int32.ofInt (rdk (B (1 + s)) (min (A 11 s) 7) 0 : Int), WF_4 hwf (fun p => ?_), fun Q n w3 g σ τ r1 r2 W1 W2 hs hst h => ?_, fun Q n w3 g σ τ r1 r2 hm h => ?_⟩
      · split
        · next q =>
          have := rdk_in _ 0 p (Nat.zero_le _) q
          omega
        · exact hwf.2.2.2.2.1 p
      · refine c_read 7 Q hz hs.1 hwf (fun q => absurd c q) (fun t et ht cb => absurd cb (by rw [← show s = t by omega]; exact cl)) (fun t et ht cb σ' k1 k2 => ?_)
        obtain rfl : s = t := by omega
        refine h _ (CS_4 hs (fun c e => by rw [am_u_ne (by omega)]; exact k1 c (by omega)) (fun p hp => ?_) (fun i e => by rw [am_u_at, if_neg e, k1 4 (by omega)]) rfl) (fun c e => by rw [am_u_ne (by omega)]; exact k1 c (by omega))
        rw [am_u_ne (by decide), k2 p]
        by_cases q : p < rdk (B (1 + s)) (min (A 11 s) 7) 0
        · rw [if_pos q, if_pos q]
          have := rdk_in _ 0 p (Nat.zero_le _) q
          congr 1
          omega
        · rw [if_neg q, if_neg q]
          exact hs.1.2.2.2.2.1 p hp
      · refine r_read 6 Q hz hm hwf (fun q => absurd c q) (fun t et ht cb => absurd cb (by rw [← show s = t by omega]; exact cl)) (fun t et ht cb σ' k1 k2 => ?_)
        obtain rfl : s = t := by omega
        refine h _ τ (IM_4 hm (fun c e => k1 c (by omega)) (fun i e => by rw [k1 56 (by omega)]) (fun p hp => ?_)) (fun c e => k1 c (by omega))
        rw [k2 p]
        by_cases q : p < rdk (B (1 + s)) (min (A 11 s) 7) 0
        · rw [if_pos q, if_pos q]
          have := rdk_in _ 0 p (Nat.zero_le _) q
          congr 1
          omega
        · rw [if_neg q, if_neg q]
          exact hm.2.2.2.2.1 p hp
  · refine ⟨A, B, Int32.ofInt (-2), hwf, fun Q n w3 g σ τ r1 r2 W1 W2 hs hst h => ?_, fun Q n w3 g σ τ r1 r2 hm h => ?_⟩
    · exact c_read 7 Q hz hs.1 hwf (fun _ => (h σ hs (CF_refl σ))) (fun t et ht cb => absurd c (by omega)) (fun t et ht cb => absurd c (by omega))
    · exact r_read 6 Q hz hm hwf (fun _ => (h σ τ hm (RF_refl σ))) (fun t et ht cb => absurd c (by omega)) (fun t et ht cb => absurd c (by omega))
theorem p_sheet (hwf : WF A B) (x y t : Int32) : PWi 79 116 [.int x, .int y, .int t] A B := by
  rw [zof x, zof y, zof t]
  have hz := zrof x
  have hf := zrof y
  have hm0 := zrof t
  generalize x.toInt = z at hz ⊢
  generalize y.toInt = f at hf ⊢
  generalize t.toInt = m at hm0 ⊢
  by_cases c : (0 ≤ z ∧ z ≤ 3) ∧ (0 ≤ f ∧ f ≤ 2) ∧ m ≤ 60
  · obtain ⟨s, es⟩ : ∃ s : Nat, z = (s : Int) := ⟨z.toNat, by omega⟩
    subst es
    by_cases cn : m < 0
    · refine ⟨am_u A 0 3 5, B, Int32.ofInt (-15), WF_l hwf (by omega), fun Q n w3 g σ τ r1 r2 W1 W2 hs hst h => ?_, fun Q n w3 g σ τ r1 r2 hm h => ?_⟩
      · exact c_sheet 7 Q hz hf hm0 (fun q => absurd c q) (fun _ _ => (h _ (CS_l (v := 5) hs) (fun c e => am_u_ne (by omega)))) (fun t et ht _ q => absurd cn (by omega))
      · exact r_sheet 7 Q hz hf hm0 (fun q => absurd c q) (fun _ _ => (h _ τ (IM_l (v := 5) hm) (fun c e => am_u_ne (by omega)))) (fun t et ht _ q => absurd cn (by omega))
    · refine ⟨am_ur A 11 (fun t => if t = s then m.toNat else A 11 t), am_u (am_ur B (1 + s) (fun _ => 0)) 0 s f, Int32.ofInt m, WF_B0 (WF_B1 (WF_11 hwf (fun p => ?_)) (fun i => by unfold zr; omega)) (by omega), fun Q n w3 g σ τ r1 r2 W1 W2 hs hst h => ?_, fun Q n w3 g σ τ r1 r2 hm h => ?_⟩
      · split
        · omega
        · exact hwf.2.2.2.2.2.2.2.2.2.2.2.2.1 p
      · refine c_sheet 7 Q hz hf hm0 (fun q => absurd c q) (fun _ q => absurd q cn) (fun t et ht _ _ σ' k1 k2 k3 k4 => ?_)
        obtain rfl : s = t := by omega
        have hH := hs.1.2.2.2.2.2.2.2.1
        refine h _ (CS_H hs (fun c e => k1 c (by omega) (by omega)) (fun u hu => ?_)) (fun c e => k1 c (by omega) (by omega))
        rw [am_u_at, am_u_ne (by omega)]
        by_cases e : u = s
        · subst e
          rw [if_pos rfl, am_ur_at, am_ur_at]
          show σ' (48 + 2 * u) 1 = _ ∧ σ' (48 + 2 * u) 2 = Int32.ofInt ((if u = u then m.toNat else A 11 u : Nat) : Int) ∧ ∀ i, i < (if u = u then m.toNat else A 11 u) → σ' (49 + 2 * u) i = _
          rw [if_pos rfl]
          exact ⟨k2, by rw [k3]; congr 1; omega, fun i hi => k4 i (by omega)⟩
        · rw [if_neg e, am_ur_ne (c' := 0) (by omega), am_ur_ne (c' := 1 + u) (by omega), k1 (48 + 2 * u) (by omega) (by omega), k1 (49 + 2 * u) (by omega) (by omega)]
          show _ = _ ∧ _ = Int32.ofInt ((if u = s then m.toNat else A 11 u : Nat) : Int) ∧ ∀ i, i < (if u = s then m.toNat else A 11 u) → _ = _
          rw [if_neg e]
          exact hH u hu
      · refine r_sheet 7 Q hz hf hm0 (fun q => absurd c q) (fun _ q => absurd q cn) (fun t et ht _ _ σ' k1 k2 k3 k4 => ?_)
        obtain rfl : s = t := by omega
        have hH := hm.2.2.2.2.2.2.2.1
        refine h _ τ (IM_H hm (fun c e => k1 c (by omega) (by omega) (by omega)) (fun i e => by rw [k1 56 (by omega) (by omega) (by omega)]) (fun u hu => ?_)) (fun c e => k1 c (by omega) (by omega) (by omega))
        rw [am_u_at, am_u_ne (by omega), k2, k3]
        by_cases e : u = s
        · subst e
          rw [if_pos rfl, if_pos rfl, if_pos rfl, am_ur_at, am_ur_at]
          show _ = _ ∧ _ = Int32.ofInt ((if u = u then m.toNat else A 11 u : Nat) : Int) ∧ ∀ i, i < (if u = u then m.toNat else A 11 u) → σ' 59 (60 * u + i) = _
          rw [if_pos rfl]
          exact ⟨rfl, by congr 1; omega, fun i hi => by rw [k4, if_pos (by omega)]⟩
        · rw [if_neg e, if_neg e, if_neg e, am_ur_ne (c' := 0) (by omega), am_ur_ne (c' := 1 + u) (by omega)]
          show _ = _ ∧ _ = Int32.ofInt ((if u = s then m.toNat else A 11 u : Nat) : Int) ∧ ∀ i, i < (if u = s then m.toNat else A 11 u) → σ' 59 (60 * u + i) = _
          rw [if_neg e]
          have w13 := hwf.2.2.2.2.2.2.2.2.2.2.2.2.1 u
          exact ⟨(hH u hu).1, (hH u hu).2.1, fun i hi => by rw [k4, if_neg (by omega)]; exact (hH u hu).2.2 i hi⟩
  · refine ⟨A, B, Int32.ofInt (-2), hwf, fun Q n w3 g σ τ r1 r2 W1 W2 hs hst h => ?_, fun Q n w3 g σ τ r1 r2 hm h => ?_⟩
    · exact c_sheet 7 Q hz hf hm0 (fun _ => (h σ hs (CF_refl σ))) (fun q => absurd q c) (fun t et ht q _ => absurd c (by omega))
    · exact r_sheet 7 Q hz hf hm0 (fun _ => (h σ τ hm (RF_refl σ))) (fun q => absurd q c) (fun t et ht q _ => absurd c (by omega))
theorem p_lose (hwf : WF A B) (x : Int32) : PWi 80 117 [.int x] A B := by
  rw [zof x]
  have hz := zrof x
  generalize x.toInt = z at hz ⊢
  by_cases c : 0 ≤ z ∧ z ≤ 3
  · obtain ⟨s, es⟩ : ∃ s : Nat, z = (s : Int) := ⟨z.toNat, by omega⟩
    subst es
    by_cases cl : B 0 s = -1
    · refine ⟨am_u A 0 3 1, B, Int32.ofInt (-11), WF_l hwf (by omega), fun Q n w3 g σ τ r1 r2 W1 W2 hs hst h => ?_, fun Q n w3 g σ τ r1 r2 hm h => ?_⟩
      · exact c_lose 7 Q hz hs.1 hwf (fun q => absurd c q) (fun t et ht cb => (h _ (CS_l (v := 1) hs) (fun c e => am_u_ne (by omega)))) (fun t et ht cb => absurd cl (by rw [show s = t by omega]; exact cb))
      · exact r_lose 7 Q hz hm hwf (fun q => absurd c q) (fun t et ht cb => (h _ τ (IM_l (v := 1) hm) (fun c e => am_u_ne (by omega)))) (fun t et ht cb => absurd cl (by rw [show s = t by omega]; exact cb))
    · refine ⟨am_ur A 11 (A 11), am_u B 0 s (-1), Int32.ofInt (A 11 s : Int), WF_B0 (A11_wf hwf) (by omega), fun Q n w3 g σ τ r1 r2 W1 W2 hs hst h => ?_, fun Q n w3 g σ τ r1 r2 hm h => ?_⟩
      · refine c_lose 7 Q hz hs.1 hwf (fun q => absurd c q) (fun t et ht cb => absurd cb (by rw [← show s = t by omega]; exact cl)) (fun t et ht cb => ?_)
        obtain rfl : s = t := by omega
        have hH := hs.1.2.2.2.2.2.2.2.1
        refine h _ (CS_H hs (fun c e => am_u_ne (by omega)) (fun u hu => ?_)) (fun c e => am_u_ne (by omega))
        rw [am_u_at, am_u_ne (c := 0) (c' := 1 + u) (by omega), am_u_ne (c' := 49 + 2 * u) (by omega), am_ur_at]
        by_cases e : u = s
        · subst e
          rw [if_pos rfl, am_u_at, am_u_at, if_pos rfl, if_neg (by decide)]
          exact ⟨rfl, (hH u hu).2⟩
        · rw [if_neg e, am_u_ne (by omega)]
          exact hH u hu
      · refine r_lose 7 Q hz hm hwf (fun q => absurd c q) (fun t et ht cb => absurd cb (by rw [← show s = t by omega]; exact cl)) (fun t et ht cb => ?_)
        obtain rfl : s = t := by omega
        have hH := hm.2.2.2.2.2.2.2.1
        refine h _ τ (IM_H hm (fun c e => am_u_ne (by omega)) (fun i e => by rw [am_u_ne (by decide)]) (fun u hu => ?_)) (fun c e => am_u_ne (by omega))
        rw [am_u_at, am_u_at, am_u_ne (c := 0) (c' := 1 + u) (by omega), am_u_ne (c' := 58) (by omega), am_u_ne (c' := 59) (by omega), am_ur_at]
        by_cases e : u = s
        · rw [if_pos e, if_pos e]
          exact ⟨rfl, (hH u hu).2⟩
        · rw [if_neg e, if_neg e]
          exact hH u hu
  · refine ⟨A, B, Int32.ofInt (-2), hwf, fun Q n w3 g σ τ r1 r2 W1 W2 hs hst h => ?_, fun Q n w3 g σ τ r1 r2 hm h => ?_⟩
    · exact c_lose 7 Q hz hs.1 hwf (fun _ => (h σ hs (CF_refl σ))) (fun t et ht cb => absurd c (by omega)) (fun t et ht cb => absurd c (by omega))
    · exact r_lose 7 Q hz hm hwf (fun _ => (h σ τ hm (RF_refl σ))) (fun t et ht cb => absurd c (by omega)) (fun t et ht cb => absurd c (by omega))

theorem p_lay (hwf : WF A B) (x y t u : Int32) : PWi 81 120 [.int x, .int y, .int t, .int u] A B := by
  rw [zof x, zof y, zof t, zof u]
  have hz := zrof x
  have hf := zrof y
  have hi := zrof t
  generalize x.toInt = z at hz ⊢
  generalize y.toInt = f at hf ⊢
  generalize t.toInt = i at hi ⊢
  by_cases c : (0 ≤ z ∧ z ≤ 3) ∧ (0 ≤ f ∧ f ≤ 2)
  · obtain ⟨s, es⟩ : ∃ s : Nat, z = (s : Int) := ⟨z.toNat, by omega⟩
    subst es
    by_cases cf : fnd (B 0 s) (A 11 s) f i = 0
    · obtain ⟨i1, i2⟩ := fnd_in cf
      have ef := fnd_fm cf
      refine ⟨am_ur A 11 (A 11), am_ur B (1 + s) (fun j => if j = i.toNat then (cutI (B 0 s) (Int32.ofInt u.toInt)).toInt else B (1 + s) j), Int32.ofInt 1, WF_B1 (A11_wf hwf) (fun j => ?_), fun Q n w3 g σ τ r1 r2 W1 W2 hs hst h => ?_, fun Q n w3 g σ τ r1 r2 hm h => ?_⟩
      · split
        · exact zrof _
        · exact hwf.2.2.2.2.2.2.2.2.2.2.2.2.2.2.1 s j
      · refine c_lay 7 Q hz hf hi hs.1 hwf (fun q => absurd c q) (fun t et ht _ cb => absurd cf (by rw [show s = t by omega]; exact cb)) (fun t et ht _ cb => ?_)
        obtain rfl : s = t := by omega
        have hH := hs.1.2.2.2.2.2.2.2.1
        refine h _ (CS_H hs (fun c e => am_u_ne (by omega)) (fun v hv => ?_)) (fun c e => am_u_ne (by omega))
        rw [am_u_ne (c' := 48 + 2 * v) (by omega), am_ur_ne (c' := 0) (by omega), am_ur_at]
        refine ⟨(hH v hv).1, (hH v hv).2.1, fun j hj => ?_⟩
        by_cases e : v = s
        · subst e
          rw [am_u_at, am_ur_at]
          by_cases ej : j = i.toNat
          · rw [if_pos ej, if_pos ej]; exact zof _
          · rw [if_neg ej, if_neg ej]
            exact (hH v hv).2.2 j hj
        · rw [am_u_ne (by omega), am_ur_ne (by omega)]
          exact (hH v hv).2.2 j hj
      · refine r_lay 7 Q hz hf hi hm hwf (fun q => absurd c q) (fun t et ht _ cb => absurd cf (by rw [show s = t by omega]; exact cb)) (fun t et ht _ cb => ?_)
        obtain rfl : s = t := by omega
        rw [ef]
        have hH := hm.2.2.2.2.2.2.2.1
        refine h _ τ (IM_H hm (fun c e => am_u_ne (by omega)) (fun i e => by rw [am_u_ne (by decide)]) (fun v hv => ?_)) (fun c e => am_u_ne (by omega))
        have w13 := hwf.2.2.2.2.2.2.2.2.2.2.2.2.1
        rw [am_u_ne (c' := 57) (by omega), am_u_ne (c' := 58) (by omega), am_ur_ne (c' := 0) (by omega), am_ur_at]
        refine ⟨(hH v hv).1, (hH v hv).2.1, fun j hj => ?_⟩
        have hj : j < A 11 v := hj
        have w1 := w13 v
        have w2 := w13 s
        rw [am_u_at]
        by_cases e : v = s
        · subst e
          rw [am_ur_at]
          by_cases ej : j = i.toNat
          · rw [if_pos (by omega), if_pos ej]; exact zof _
          · rw [if_neg (by omega), if_neg ej]
            exact (hH v hv).2.2 j hj
        · rw [if_neg (by omega), am_ur_ne (by omega)]
          exact (hH v hv).2.2 j hj
    · have hr := fnd_rng (B 0 s) (A 11 s) f i
      have ev : (((fnd (B 0 s) (A 11 s) f i).toNat : Nat) : Int) = fnd (B 0 s) (A 11 s) f i := by omega
      refine ⟨am_u A 0 3 (fnd (B 0 s) (A 11 s) f i).toNat, B, Int32.ofInt (-10 - fnd (B 0 s) (A 11 s) f i), WF_l hwf (by omega), fun Q n w3 g σ τ r1 r2 W1 W2 hs hst h => ?_, fun Q n w3 g σ τ r1 r2 hm h => ?_⟩
      · refine c_lay 7 Q hz hf hi hs.1 hwf (fun q => absurd c q) (fun t et ht _ cb => ?_) (fun t et ht _ cb => absurd cb (by rw [← show s = t by omega]; exact cf))
        obtain rfl : s = t := by omega
        generalize hF : fnd (B 0 s) (A 11 s) f i = F at *
        obtain ⟨m, em⟩ : ∃ m : Nat, F = (m : Int) := ⟨F.toNat, by omega⟩
        subst em
        rw [Int.toNat_natCast] at h
        exact h _ (CS_l hs) (fun c e => am_u_ne (by omega))
      · refine r_lay 7 Q hz hf hi hm hwf (fun q => absurd c q) (fun t et ht _ cb => ?_) (fun t et ht _ cb => absurd cb (by rw [← show s = t by omega]; exact cf))
        obtain rfl : s = t := by omega
        generalize hF : fnd (B 0 s) (A 11 s) f i = F at *
        obtain ⟨m, em⟩ : ∃ m : Nat, F = (m : Int) := ⟨F.toNat, by omega⟩
        subst em
        rw [Int.toNat_natCast] at h
        exact h _ τ (IM_l hm) (fun c e => am_u_ne (by omega))
  · refine ⟨A, B, Int32.ofInt (-2), hwf, fun Q n w3 g σ τ r1 r2 W1 W2 hs hst h => ?_, fun Q n w3 g σ τ r1 r2 hm h => ?_⟩
    · exact c_lay 7 Q hz hf hi hs.1 hwf (fun _ => (h σ hs (CF_refl σ))) (fun t et ht q _ => absurd c (by omega)) (fun t et ht q _ => absurd c (by omega))
    · exact r_lay 7 Q hz hf hi hm hwf (fun _ => (h σ τ hm (RF_refl σ))) (fun t et ht q _ => absurd c (by omega)) (fun t et ht q _ => absurd c (by omega))

theorem p_get (hwf : WF A B) (x y t : Int32) : PWi 82 121 [.int x, .int y, .int t] A B := by
  rw [zof x, zof y, zof t]
  have hz := zrof x
  have hf := zrof y
  have hi := zrof t
  generalize x.toInt = z at hz ⊢
  generalize y.toInt = f at hf ⊢
  generalize t.toInt = i at hi ⊢
  by_cases c : (0 ≤ z ∧ z ≤ 3) ∧ (0 ≤ f ∧ f ≤ 2)
  · obtain ⟨s, es⟩ : ∃ s : Nat, z = (s : Int) := ⟨z.toNat, by omega⟩
    subst es
    by_cases cf : fnd (B 0 s) (A 11 s) f i = 0
    · refine ⟨A, B, Int32.ofInt (B (1 + s) i.toNat), hwf, fun Q n w3 g σ τ r1 r2 W1 W2 hs hst h => ?_, fun Q n w3 g σ τ r1 r2 hm h => ?_⟩
      · refine c_get 7 Q hz hf hi hs.1 hwf (fun q => absurd c q) (fun t et ht _ cb => absurd cf (by rw [show s = t by omega]; exact cb)) (fun t et ht _ cb => ?_)
        obtain rfl : s = t := by omega
        exact (h σ hs (CF_refl σ))
      · refine r_get 7 Q hz hf hi hm hwf (fun q => absurd c q) (fun t et ht _ cb => absurd cf (by rw [show s = t by omega]; exact cb)) (fun t et ht _ cb => ?_)
        obtain rfl : s = t := by omega
        exact (h σ τ hm (RF_refl σ))
    · have hr := fnd_rng (B 0 s) (A 11 s) f i
      have ev : (((fnd (B 0 s) (A 11 s) f i).toNat : Nat) : Int) = fnd (B 0 s) (A 11 s) f i := by omega
      refine ⟨am_u A 0 3 (fnd (B 0 s) (A 11 s) f i).toNat, B, Int32.ofInt (-2147483648), WF_l hwf (by omega), fun Q n w3 g σ τ r1 r2 W1 W2 hs hst h => ?_, fun Q n w3 g σ τ r1 r2 hm h => ?_⟩
      · refine c_get 7 Q hz hf hi hs.1 hwf (fun q => absurd c q) (fun t et ht _ cb => ?_) (fun t et ht _ cb => absurd cb (by rw [← show s = t by omega]; exact cf))
        obtain rfl : s = t := by omega
        generalize hF : fnd (B 0 s) (A 11 s) f i = F at *
        obtain ⟨m, em⟩ : ∃ m : Nat, F = (m : Int) := ⟨F.toNat, by omega⟩
        subst em
        rw [Int.toNat_natCast] at h
        exact h _ (CS_l hs) (fun c e => am_u_ne (by omega))
      · refine r_get 7 Q hz hf hi hm hwf (fun q => absurd c q) (fun t et ht _ cb => ?_) (fun t et ht _ cb => absurd cb (by rw [← show s = t by omega]; exact cf))
        obtain rfl : s = t := by omega
        generalize hF : fnd (B 0 s) (A 11 s) f i = F at *
        obtain ⟨m, em⟩ : ∃ m : Nat, F = (m : Int) := ⟨F.toNat, by omega⟩
        subst em
        rw [Int.toNat_natCast] at h
        exact h _ τ (IM_l hm) (fun c e => am_u_ne (by omega))
  · refine ⟨A, B, Int32.ofInt (-2147483648), hwf, fun Q n w3 g σ τ r1 r2 W1 W2 hs hst h => ?_, fun Q n w3 g σ τ r1 r2 hm h => ?_⟩
    · exact c_get 7 Q hz hf hi hs.1 hwf (fun _ => (h σ hs (CF_refl σ))) (fun t et ht q _ => absurd c (by omega)) (fun t et ht q _ => absurd c (by omega))
    · exact r_get 7 Q hz hf hi hm hwf (fun _ => (h σ τ hm (RF_refl σ))) (fun t et ht q _ => absurd c (by omega)) (fun t et ht q _ => absurd c (by omega))

theorem p_copy (hwf : WF A B) (x1 x2 x3 x4 x5 : Int32) : PWi 83 122 [.int x1, .int x2, .int x3, .int x4, .int x5] A B := by
  rw [zof x1, zof x2, zof x3, zof x4, zof x5]
  have hz := zrof x1
  have hi := zrof x2
  have hy := zrof x3
  have hj := zrof x4
  have hm0 := zrof x5
  generalize x1.toInt = z at hz ⊢
  generalize x2.toInt = i at hi ⊢
  generalize x3.toInt = y at hy ⊢
  generalize x4.toInt = j at hj ⊢
  generalize x5.toInt = m at hm0 ⊢
  by_cases c : (0 ≤ z ∧ z ≤ 3) ∧ 0 ≤ y ∧ y ≤ 3
  · obtain ⟨s, es⟩ : ∃ s : Nat, z = (s : Int) := ⟨z.toNat, by omega⟩
    subst es
    obtain ⟨t, et⟩ : ∃ t : Nat, y = (t : Int) := ⟨y.toNat, by omega⟩
    subst et
    have hs4 : s < 4 := by omega
    have ht4 : t < 4 := by omega
    by_cases cl : B 0 s = -1 ∨ B 0 t = -1
    · refine ⟨am_u A 0 3 1, B, Int32.ofInt (-11), WF_l hwf (by omega), fun Q n w3 g σ τ r1 r2 W1 W2 hs hst h => ?_, fun Q n w3 g σ τ r1 r2 hm h => ?_⟩
      · exact c_copy 7 Q hz hi hy hj hm0 hs.1 hwf (fun q => absurd c q) (fun _ _ _ _ _ _ _ => (h _ (CS_l (v := 1) hs) (fun c e => am_u_ne (by omega)))) (fun a b e1 e2 e3 e4 q => absurd cl (by rw [show s = a by omega, show t = b by omega]; exact q)) (fun a b e1 e2 e3 e4 q => absurd cl (by rw [show s = a by omega, show t = b by omega]; exact q)) (fun a b e1 e2 e3 e4 q => absurd cl (by rw [show s = a by omega, show t = b by omega]; exact q))
      · exact r_copy 7 Q hz hi hy hj hm0 hm hwf (fun q => absurd c q) (fun _ _ _ _ _ _ _ => (h _ τ (IM_l (v := 1) hm) (fun c e => am_u_ne (by omega)))) (fun a b e1 e2 e3 e4 q => absurd cl (by rw [show s = a by omega, show t = b by omega]; exact q)) (fun a b e1 e2 e3 e4 q => absurd cl (by rw [show s = a by omega, show t = b by omega]; exact q)) (fun a b e1 e2 e3 e4 q => absurd cl (by rw [show s = a by omega, show t = b by omega]; exact q))
    · by_cases ce : B 0 s = B 0 t
      · by_cases ch : hld (A 11 s) i m ∧ hld (A 11 t) j m
        · obtain ⟨⟨a1, a2, a3, a4⟩, b1, b2, b3, b4⟩ := id ch
          refine ⟨am_ur A 11 (A 11), am_ur B (1 + t) (fun l => if j.toNat ≤ l ∧ l < j.toNat + m.toNat then B (1 + s) (i.toNat + (l - j.toNat)) else B (1 + t) l), Int32.ofInt 1, WF_B1 (A11_wf hwf) (fun l => ?_), fun Q n w3 g σ τ r1 r2 W1 W2 hs hst h => ?_, fun Q n w3 g σ τ r1 r2 hm h => ?_⟩
          · split
            · exact hwf.2.2.2.2.2.2.2.2.2.2.2.2.2.2.1 s _
            · exact hwf.2.2.2.2.2.2.2.2.2.2.2.2.2.2.1 t l
          · refine c_copy 7 Q hz hi hy hj hm0 hs.1 hwf (fun q => absurd c q) (fun a b e1 e2 e3 e4 q => absurd q (by rw [← show s = a by omega, ← show t = b by omega]; exact cl)) (fun a b e1 e2 e3 e4 _ q => absurd ce (by rw [show s = a by omega, show t = b by omega]; exact q)) (fun a b e1 e2 e3 e4 _ _ q => absurd ch (by rw [show s = a by omega, show t = b by omega]; exact q)) (fun a b e1 e2 e3 e4 _ _ _ => ?_)
            obtain rfl : s = a := by omega
            obtain rfl : t = b := by omega
            have hH := hs.1.2.2.2.2.2.2.2.1
            refine h _ (CS_H hs (fun c e => am_ur_ne (by omega)) (fun v hv => ?_)) (fun c e => am_ur_ne (by omega))
            rw [am_ur_ne (c' := 48 + 2 * v) (by omega), am_ur_ne (c' := 0) (by omega), am_ur_at]
            refine ⟨(hH v hv).1, (hH v hv).2.1, fun l hl => ?_⟩
            by_cases e : v = t
            · subst e
              rw [am_ur_at, am_ur_at]
              unfold va_cpy
              by_cases el : j.toNat ≤ l ∧ l < j.toNat + m.toNat
              · rw [if_pos el, if_pos el]
                exact (hH s hs4).2.2 _ (by omega)
              · rw [if_neg el, if_neg el]
                exact (hH v hv).2.2 l hl
            · rw [am_ur_ne (by omega), am_ur_ne (by omega)]
              exact (hH v hv).2.2 l hl
          · refine r_copy 7 Q hz hi hy hj hm0 hm hwf (fun q => absurd c q) (fun a b e1 e2 e3 e4 q => absurd q (by rw [← show s = a by omega, ← show t = b by omega]; exact cl)) (fun a b e1 e2 e3 e4 _ q => absurd ce (by rw [show s = a by omega, show t = b by omega]; exact q)) (fun a b e1 e2 e3 e4 _ _ q => absurd ch (by rw [show s = a by omega, show t = b by omega]; exact q)) (fun a b e1 e2 e3 e4 _ _ _ σ' k1 k2 => ?_)
            obtain rfl : s = a := by omega
            obtain rfl : t = b := by omega
            have hH := hm.2.2.2.2.2.2.2.1
            refine h _ τ (IM_H hm (fun c e => k1 c (by omega) (by omega)) (fun i e => by rw [k1 56 (by omega) (by omega)]) (fun v hv => ?_)) (fun c e => k1 c (by omega) (by omega))
            have w13 := hwf.2.2.2.2.2.2.2.2.2.2.2.2.1
            rw [k1 57 (by omega) (by omega), k1 58 (by omega) (by omega), am_ur_ne (c' := 0) (by omega), am_ur_at]
            refine ⟨(hH v hv).1, (hH v hv).2.1, fun l hl => ?_⟩
            have hl : l < A 11 v := hl
            have w1 := w13 v
            have w2 := w13 t
            rw [k2]
            by_cases e : v = t
            · subst e
              rw [am_ur_at]
              by_cases el : j.toNat ≤ l ∧ l < j.toNat + m.toNat
              · rw [if_pos (by omega), if_pos el, show 60 * s + i.toNat + (60 * v + l - (60 * v + j.toNat)) = 60 * s + (i.toNat + (l - j.toNat)) by omega]
                exact (hH s hs4).2.2 _ (by omega)
              · rw [if_neg (by omega), if_neg el]
                exact (hH v hv).2.2 l hl
            · rw [if_neg (by omega), am_ur_ne (by omega)]
              exact (hH v hv).2.2 l hl
        · refine ⟨am_u A 0 3 2, B, Int32.ofInt (-12), WF_l hwf (by omega), fun Q n w3 g σ τ r1 r2 W1 W2 hs hst h => ?_, fun Q n w3 g σ τ r1 r2 hm h => ?_⟩
          · exact c_copy 7 Q hz hi hy hj hm0 hs.1 hwf (fun q => absurd c q) (fun a b e1 e2 e3 e4 q => absurd q (by rw [← show s = a by omega, ← show t = b by omega]; exact cl)) (fun a b e1 e2 e3 e4 _ q => absurd ce (by rw [show s = a by omega, show t = b by omega]; exact q)) (fun _ _ _ _ _ _ _ _ _ => (h _ (CS_l (v := 2) hs) (fun c e => am_u_ne (by omega)))) (fun a b e1 e2 e3 e4 _ _ q => absurd q (by rw [← show s = a by omega, ← show t = b by omega]; exact ch))
          · exact r_copy 7 Q hz hi hy hj hm0 hm hwf (fun q => absurd c q) (fun a b e1 e2 e3 e4 q => absurd q (by rw [← show s = a by omega, ← show t = b by omega]; exact cl)) (fun a b e1 e2 e3 e4 _ q => absurd ce (by rw [show s = a by omega, show t = b by omega]; exact q)) (fun _ _ _ _ _ _ _ _ _ => (h _ τ (IM_l (v := 2) hm) (fun c e => am_u_ne (by omega)))) (fun a b e1 e2 e3 e4 _ _ q => absurd q (by rw [← show s = a by omega, ← show t = b by omega]; exact ch))
      · refine ⟨am_u A 0 3 4, B, Int32.ofInt (-14), WF_l hwf (by omega), fun Q n w3 g σ τ r1 r2 W1 W2 hs hst h => ?_, fun Q n w3 g σ τ r1 r2 hm h => ?_⟩
        · exact c_copy 7 Q hz hi hy hj hm0 hs.1 hwf (fun q => absurd c q) (fun a b e1 e2 e3 e4 q => absurd q (by rw [← show s = a by omega, ← show t = b by omega]; exact cl)) (fun _ _ _ _ _ _ _ _ => (h _ (CS_l (v := 4) hs) (fun c e => am_u_ne (by omega)))) (fun a b e1 e2 e3 e4 _ q => absurd q (by rw [← show s = a by omega, ← show t = b by omega]; exact ce)) (fun a b e1 e2 e3 e4 _ q => absurd q (by rw [← show s = a by omega, ← show t = b by omega]; exact ce))
        · exact r_copy 7 Q hz hi hy hj hm0 hm hwf (fun q => absurd c q) (fun a b e1 e2 e3 e4 q => absurd q (by rw [← show s = a by omega, ← show t = b by omega]; exact cl)) (fun _ _ _ _ _ _ _ _ => (h _ τ (IM_l (v := 4) hm) (fun c e => am_u_ne (by omega)))) (fun a b e1 e2 e3 e4 _ q => absurd q (by rw [← show s = a by omega, ← show t = b by omega]; exact ce)) (fun a b e1 e2 e3 e4 _ q => absurd q (by rw [← show s = a by omega, ← show t = b by omega]; exact ce))
  · refine ⟨A, B, Int32.ofInt (-2), hwf, fun Q n w3 g σ τ r1 r2 W1 W2 hs hst h => ?_, fun Q n w3 g σ τ r1 r2 hm h => ?_⟩
    · exact c_copy 7 Q hz hi hy hj hm0 hs.1 hwf (fun _ => (h σ hs (CF_refl σ))) (fun a b e1 e2 e3 e4 => absurd c (by omega)) (fun a b e1 e2 e3 e4 => absurd c (by omega)) (fun a b e1 e2 e3 e4 => absurd c (by omega)) (fun a b e1 e2 e3 e4 => absurd c (by omega))
    · exact r_copy 7 Q hz hi hy hj hm0 hm hwf (fun _ => (h σ τ hm (RF_refl σ))) (fun a b e1 e2 e3 e4 => absurd c (by omega)) (fun a b e1 e2 e3 e4 => absurd c (by omega)) (fun a b e1 e2 e3 e4 => absurd c (by omega)) (fun a b e1 e2 e3 e4 => absurd c (by omega))
theorem p_write (hwf : WF A B) (x : Int32) : PWi 84 191 [.int x] A B := by
  rw [zof x]
  have hz := zrof x
  generalize x.toInt = z at hz ⊢
  by_cases c : 0 ≤ z ∧ z ≤ 3
  · obtain ⟨s, es⟩ : ∃ s : Nat, z = (s : Int) := ⟨z.toNat, by omega⟩
    subst es
    by_cases cl : B 0 s = -1
    · refine ⟨am_u A 0 3 1, B, Int32.ofInt (-11), WF_l hwf (by omega), fun Q n w3 g σ τ r1 r2 W1 W2 hs hst h => ?_, fun Q n w3 g σ τ r1 r2 hm h => ?_⟩
      · exact c_write 5 Q hz hs.1 hwf (fun q => absurd c q) (fun t et ht cb => (h _ (CS_l (v := 1) hs) (fun c e => am_u_ne (by omega)))) (fun t et ht cb => absurd cl (by rw [show s = t by omega]; exact cb))
      · exact r_write 4 Q hz hm hwf (fun q => absurd c q) (fun t et ht cb => (h _ τ (IM_l (v := 1) hm) (fun c e => am_u_ne (by omega)))) (fun t et ht cb => absurd cl (by rw [show s = t by omega]; exact cb))
    · refine ⟨am_ur A 11 (A 11), am_ur B (1 + s) (fun j => if j < min (A 11 s) (cnt A) then (cutI (B 0 s) (Int32.ofInt (seatZ (SL A (A 3 1) (fun _ => true) (A 4)) j))).toInt else B (1 + s) j), Int32.ofInt ((min (A 11 s) (cnt A) : Nat) : Int), WF_B1 (A11_wf hwf) (fun j => ?_), fun Q n w3 g σ τ r1 r2 W1 W2 hs hst h => ?_, fun Q n w3 g σ τ r1 r2 hm h => ?_⟩
      · split
        · exact zrof _
        · exact hwf.2.2.2.2.2.2.2.2.2.2.2.2.2.2.1 s j
      · refine c_write 5 Q hz hs.1 hwf (fun q => absurd c q) (fun t et ht cb => absurd cb (by rw [← show s = t by omega]; exact cl)) (fun t et ht cb σ' k1 _ k2 => ?_)
        obtain rfl : s = t := by omega
        have hH := hs.1.2.2.2.2.2.2.2.1
        refine h _ (CS_H hs (fun c e => k1 c (by omega) (by omega) (by omega) (by omega) (by omega)) (fun v hv => ?_)) (fun c e => k1 c (by omega) (by omega) (by omega) (by omega) (by omega))
        rw [k1 (48 + 2 * v) (by omega) (by omega) (by omega) (by omega) (by omega), am_ur_ne (c' := 0) (by omega), am_ur_at]
        refine ⟨(hH v hv).1, (hH v hv).2.1, fun j hj => ?_⟩
        by_cases e : v = s
        · subst e
          rw [k2, am_ur_at]
          by_cases ej : j < min (A 11 v) (cnt A)
          · rw [if_pos ej, if_pos ej, ← zof]
          · rw [if_neg ej, if_neg ej]
            exact (hH v hv).2.2 j hj
        · rw [k1 (49 + 2 * v) (by omega) (by omega) (by omega) (by omega) (by omega), am_ur_ne (by omega)]
          exact (hH v hv).2.2 j hj
      · refine r_write 4 Q hz hm hwf (fun q => absurd c q) (fun t et ht cb => absurd cb (by rw [← show s = t by omega]; exact cl)) (fun t et ht cb σ' σ2 kq k1 k2 => ?_)
        obtain rfl : s = t := by omega
        have hm2 := IM_QF hm kq
        have hH := hm2.2.2.2.2.2.2.2.1
        have e59 : σ2 59 = σ 59 := kq.2.1 59 (by omega) (by omega) (by unfold rscr; omega)
        refine h _ τ (IM_H hm2 (fun c e => k1 c (by omega)) (fun i e => by rw [k1 56 (by omega)]) (fun v hv => ?_)) (fun c e => by rw [k1 c (by omega)]; exact kq.1 c (Or.inl e))
        have w13 := hwf.2.2.2.2.2.2.2.2.2.2.2.2.1
        rw [k1 57 (by omega), k1 58 (by omega), am_ur_ne (c' := 0) (by omega), am_ur_at]
        refine ⟨(hH v hv).1, (hH v hv).2.1, fun j hj => ?_⟩
        have hj : j < A 11 v := hj
        have w1 := w13 v
        have w2 := w13 s
        rw [k2]
        by_cases e : v = s
        · subst e
          rw [am_ur_at]
          by_cases ej : j < min (A 11 v) (cnt A)
          · rw [if_pos (by omega), if_pos ej, ← zof, show 60 * v + j - 60 * v = j by omega]
          · rw [if_neg (by omega), if_neg ej, ← e59]
            exact (hH v hv).2.2 j hj
        · rw [if_neg (by omega), am_ur_ne (by omega), ← e59]
          exact (hH v hv).2.2 j hj
  · refine ⟨A, B, Int32.ofInt (-2), hwf, fun Q n w3 g σ τ r1 r2 W1 W2 hs hst h => ?_, fun Q n w3 g σ τ r1 r2 hm h => ?_⟩
    · exact c_write 5 Q hz hs.1 hwf (fun _ => (h σ hs (CF_refl σ))) (fun t et ht cb => absurd c (by omega)) (fun t et ht cb => absurd c (by omega))
    · exact r_write 4 Q hz hm hwf (fun _ => (h σ τ hm (RF_refl σ))) (fun t et ht cb => absurd c (by omega)) (fun t et ht cb => absurd c (by omega))
end PRH
