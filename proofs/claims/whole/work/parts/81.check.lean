/-- an instruction against bytes and words -/
def am_chx (o : Nat) (ini : Bool) (ret : Option FieldType) (pc : Nat) (x : am_I) : Bool := match x with
  | (ins, _, a, b, z) => match ins with
    | .goto q => decide ((pc : Int) + q = (a : Int))
    | .ifCond _ q => decide ((pc : Int) + q = (a : Int))
    | .if_icmp _ q => decide ((pc : Int) + q = (a : Int))
    | .bipush i => decide ((Int8.ofInt i).toInt32 = Int32.ofInt i)
    | .sipush i => decide ((Int16.ofInt i).toInt32 = Int32.ofInt i)
    | .lconst i => decide (Int64.ofNat (i : Nat) = Int64.ofInt z)
    | .ldc i => decide ((o, i, z) ∈ am_DC)
    | .ldc_w i => decide ((o, i, z) ∈ am_DC)
    | .ldc2_w i => decide ((o, i, z) ∈ am_DL)
    | .getfield i => decide ((o, i, a, b) ∈ am_DF)
    | .putfield i => decide ((o, i, a, b) ∈ am_DF) && (match am_cl[a]? with
      | some r => (decide (z = 0) && !(r.2.1 b).2.2.2) || (!(decide (z = 0)) && ini && (r.2.1 b).2.2.2 && decide ((r.2.1 b).1 = am_cn o))
      | none => false)
    | .aaload => Nat.blt a 2
    | .newarray .int => true
    | .ireturn => decide (ret = some (match b with | 0 => .int | _ => .boolean))
    | .lreturn => decide (ret = some .long)
    | .return_ => decide (ret = none)
    | .tableswitch df lo hi offs => decide (hi = lo + offs.size - 1) && decide (0 ≤ (pc : Int) + df) && offs.toList.all (fun q => decide (0 ≤ (pc : Int) + q))
    | .getstatic i => decide ((o, i, a) ∈ am_DG)
    | .invokestatic i => (Nat.beq a 1002 && Nat.beq o 9 && Nat.beq i 299) || (Nat.beq a 1003 && decide ((o, i, b) ∈ am_DM)) || (!(Nat.beq a 1002) && !(Nat.beq a 1003) && decide ((a, b) ∈ am_DS) && decide ((o, i, a) ∈ am_DK))
    | .invokevirtual i => (Nat.beq a 1001 && Nat.beq o 6 && Nat.beq i 13) || (!(Nat.beq a 1001) && decide ((a, b - 1) ∈ am_DV) && decide ((o, i, a) ∈ am_DK))
    | .invokespecial i => (Nat.beq a 1000 && decide ((o, i) ∈ am_DO)) || (!(Nat.beq a 1000) && decide ((a, b - 1) ∈ am_DI) && decide ((o, i, a) ∈ am_DK))
    | .checkcast i => decide ((o, i) ∈ am_DX)
    | .new i => decide (b = am_nf a) && decide ((o, i, a) ∈ am_DN)
    | .anewarray i => decide ((o, i) ∈ am_DA)
    | .multianewarray i j => Nat.beq j 2 && decide ((o, i) ∈ am_DY)
    | _ => true
def am_chk (o : Nat) (ini : Bool) (cc : ByteArray) (ret : Option FieldType) (pc : Nat) (x : am_I) : Bool := (match decode cc pc with
  | .ok (ins, len) => decide (ins = x.1) && (am_isT x.1 || (Nat.beq len (am_len x.1) && Nat.beq x.2.1 (pc + am_len x.1)))
  | .error _ => false) && am_chx o ini ret pc x
theorem am_chk_ok {o : Nat} {ini : Bool} {nm : String} (hi : ini = true → nm = "<init>") {cc : ByteArray} {ret : Option FieldType} {pc : Nat} {x : am_I} (h : am_chk o ini cc ret pc x = true) : am_okI (am_cn o) nm cc ret pc x := by
  unfold am_chk at h
  rw [Bool.and_eq_true] at h
  obtain ⟨h1, h2⟩ := h
  split at h1
  · next ins len hd =>
    simp only [Bool.and_eq_true, Bool.or_eq_true, decide_eq_true_eq] at h1
    obtain ⟨rfl, h1⟩ := h1
    refine ⟨len, hd, fun ht => ?_, ?_, ?_⟩
    · rcases h1 with h1 | ⟨h3, h4⟩
      · rw [ht] at h1; cases h1
      · exact ⟨Nat.eq_of_beq_eq_true h3, Nat.eq_of_beq_eq_true h4⟩
    · obtain ⟨ins, nx, a, b, z⟩ := x
      cases ins
      case goto q => exact of_decide_eq_true (p := (pc : Int) + q = (a : Int)) h2
      case ifCond c q => exact of_decide_eq_true (p := (pc : Int) + q = (a : Int)) h2
      case if_icmp c q => exact of_decide_eq_true (p := (pc : Int) + q = (a : Int)) h2
      case bipush i => exact of_decide_eq_true (p := (Int8.ofInt i).toInt32 = Int32.ofInt i) h2
      case sipush i => exact of_decide_eq_true (p := (Int16.ofInt i).toInt32 = Int32.ofInt i) h2
      case lconst i => exact of_decide_eq_true (p := Int64.ofNat (i : Nat) = Int64.ofInt z) h2
      case aaload => exact Nat.le_of_ble_eq_true h2
      case getfield i => exact am_DF_ok (o, i, a, b) (of_decide_eq_true (p := (o, i, a, b) ∈ am_DF) h2)
      case ldc i => exact am_DC_ok (o, i, z) (of_decide_eq_true (p := (o, i, z) ∈ am_DC) h2)
      case ldc_w i => exact am_DC_ok (o, i, z) (of_decide_eq_true (p := (o, i, z) ∈ am_DC) h2)
      case ldc2_w i => exact am_DL_ok (o, i, z) (of_decide_eq_true (p := (o, i, z) ∈ am_DL) h2)
      case newarray t => cases t <;> first | exact trivial | exact am_ac_ok
      case ireturn => exact of_decide_eq_true (p := ret = some (match (generalizing := false) b with | 0 => .int | _ => .boolean)) h2
      case lreturn => exact of_decide_eq_true (p := ret = some .long) h2
      case return_ => exact of_decide_eq_true (p := ret = none) h2
      case putfield i =>
        have h2 : (decide ((o, i, a, b) ∈ am_DF) && (match am_cl[a]? with | some r => (decide (z = 0) && !(r.2.1 b).2.2.2) || (!(decide (z = 0)) && ini && (r.2.1 b).2.2.2 && decide ((r.2.1 b).1 = am_cn o)) | none => false)) = true := h2
        rw [Bool.and_eq_true] at h2
        obtain ⟨h3, h4⟩ := h2
        obtain ⟨r, k1, k2, k3⟩ := am_DF_ok _ (of_decide_eq_true (p := (o, i, a, b) ∈ am_DF) h3)
        replace k1 : am_cl[a]? = some r := k1
        rw [k1] at h4
        replace h4 : ((decide (z = 0) && !(r.2.1 b).2.2.2) || (!(decide (z = 0)) && ini && (r.2.1 b).2.2.2 && decide ((r.2.1 b).1 = am_cn o))) = true := h4
        intro hz
        refine ⟨r, k1, k2, ?_, k3⟩
        rw [decide_eq_true hz] at h4
        simpa using h4
      case tableswitch df lo hi offs =>
        have h2 : (decide (hi = lo + offs.size - 1) && decide (0 ≤ (pc : Int) + df) && offs.toList.all (fun q => decide (0 ≤ (pc : Int) + q))) = true := h2
        simp only [Bool.and_eq_true, decide_eq_true_eq] at h2
        exact ⟨h2.1.1, h2.1.2, fun q hq => of_decide_eq_true (List.all_eq_true.mp h2.2 q hq)⟩
      all_goals exact trivial
    · obtain ⟨ins, nx, a, b, z⟩ := x
      cases ins
      case getstatic i => exact am_DG_ok (o, i, a) (of_decide_eq_true (p := (o, i, a) ∈ am_DG) h2)
      case putfield i =>
        have h2 : (decide ((o, i, a, b) ∈ am_DF) && (match am_cl[a]? with | some r => (decide (z = 0) && !(r.2.1 b).2.2.2) || (!(decide (z = 0)) && ini && (r.2.1 b).2.2.2 && decide ((r.2.1 b).1 = am_cn o)) | none => false)) = true := h2
        rw [Bool.and_eq_true] at h2
        obtain ⟨h3, h4⟩ := h2
        obtain ⟨r, k1, k2, k3⟩ := am_DF_ok _ (of_decide_eq_true (p := (o, i, a, b) ∈ am_DF) h3)
        replace k1 : am_cl[a]? = some r := k1
        rw [k1] at h4
        replace h4 : ((decide (z = 0) && !(r.2.1 b).2.2.2) || (!(decide (z = 0)) && ini && (r.2.1 b).2.2.2 && decide ((r.2.1 b).1 = am_cn o))) = true := h4
        by_cases hz : z = 0
        · exact Or.inl hz
        · rw [decide_eq_false hz] at h4
          have h5 : ((ini = true ∧ (r.2.1 b).2.2.2 = true) ∧ (r.2.1 b).1 = am_cn o) := by simpa using h4
          exact Or.inr ⟨hi h5.1.1, r, k1, k2, h5.1.2, h5.2, k3⟩
      case invokestatic i =>
        have h2 : ((Nat.beq a 1002 && Nat.beq o 9 && Nat.beq i 299) || (Nat.beq a 1003 && decide ((o, i, b) ∈ am_DM)) || (!(Nat.beq a 1002) && !(Nat.beq a 1003) && decide ((a, b) ∈ am_DS) && decide ((o, i, a) ∈ am_DK))) = true := h2
        rw [Bool.or_eq_true, Bool.or_eq_true] at h2
        rcases h2 with (h2 | h2) | h2
        · rw [Bool.and_eq_true, Bool.and_eq_true] at h2
          have e1 : a = 1002 := Nat.eq_of_beq_eq_true h2.1.1
          have e2 : o = 9 := Nat.eq_of_beq_eq_true h2.1.2
          have e3 : i = 299 := Nat.eq_of_beq_eq_true h2.2
          subst e1; subst e2; subst e3
          exact Or.inl ⟨rfl, am_cp_ok⟩
        · rw [Bool.and_eq_true] at h2
          have e1 : a = 1003 := Nat.eq_of_beq_eq_true h2.1
          subst e1
          exact Or.inr (Or.inl (am_DM_ok (o, i, b) (of_decide_eq_true (p := (o, i, b) ∈ am_DM) h2.2)))
        · rw [Bool.and_eq_true, Bool.and_eq_true, Bool.and_eq_true] at h2
          obtain ⟨⟨⟨h3, h33⟩, h4⟩, h5⟩ := h2
          obtain ⟨k1, k2⟩ := am_DS_ok (a, b) (of_decide_eq_true (p := (a, b) ∈ am_DS) h4)
          exact Or.inr (Or.inr ⟨(Bool.not_eq_true' _).mp h3, (Bool.not_eq_true' _).mp h33, k1, am_DK_ok (o, i, a) (of_decide_eq_true (p := (o, i, a) ∈ am_DK) h5), k2⟩)
      case invokevirtual i =>
        have h2 : ((Nat.beq a 1001 && Nat.beq o 6 && Nat.beq i 13) || (!(Nat.beq a 1001) && decide ((a, b - 1) ∈ am_DV) && decide ((o, i, a) ∈ am_DK))) = true := h2
        rw [Bool.or_eq_true] at h2
        rcases h2 with h2 | h2
        · rw [Bool.and_eq_true, Bool.and_eq_true] at h2
          have e1 : a = 1001 := Nat.eq_of_beq_eq_true h2.1.1
          have e2 : o = 6 := Nat.eq_of_beq_eq_true h2.1.2
          have e3 : i = 13 := Nat.eq_of_beq_eq_true h2.2
          subst e1; subst e2; subst e3
          exact Or.inl ⟨rfl, am_cl_ok⟩
        · rw [Bool.and_eq_true, Bool.and_eq_true] at h2
          obtain ⟨⟨h3, h4⟩, h5⟩ := h2
          obtain ⟨k1, k2⟩ := am_DV_ok (a, b - 1) (of_decide_eq_true (p := (a, b - 1) ∈ am_DV) h4)
          exact Or.inr ⟨(Bool.not_eq_true' _).mp h3, k1, am_DK_ok (o, i, a) (of_decide_eq_true (p := (o, i, a) ∈ am_DK) h5), k2⟩
      case invokespecial i =>
        have h2 : ((Nat.beq a 1000 && decide ((o, i) ∈ am_DO)) || (!(Nat.beq a 1000) && decide ((a, b - 1) ∈ am_DI) && decide ((o, i, a) ∈ am_DK))) = true := h2
        rw [Bool.or_eq_true] at h2
        rcases h2 with h2 | h2
        · rw [Bool.and_eq_true] at h2
          have e1 : a = 1000 := Nat.eq_of_beq_eq_true h2.1
          exact Or.inl ⟨e1, am_DO_ok (o, i) (of_decide_eq_true (p := (o, i) ∈ am_DO) h2.2)⟩
        · rw [Bool.and_eq_true, Bool.and_eq_true] at h2
          obtain ⟨⟨h3, h4⟩, h5⟩ := h2
          obtain ⟨k1, k2, k3, k4⟩ := am_DI_ok (a, b - 1) (of_decide_eq_true (p := (a, b - 1) ∈ am_DI) h4)
          exact Or.inr ⟨(Bool.not_eq_true' _).mp h3, k1, k2, k3, am_DK_ok (o, i, a) (of_decide_eq_true (p := (o, i, a) ∈ am_DK) h5), k4⟩
      case checkcast i => exact am_DX_ok (o, i) (of_decide_eq_true (p := (o, i) ∈ am_DX) h2)
      case new i =>
        have h2 : (decide (b = am_nf a) && decide ((o, i, a) ∈ am_DN)) = true := h2
        rw [Bool.and_eq_true] at h2
        obtain ⟨k1, k2⟩ := am_DN_ok (o, i, a) (of_decide_eq_true (p := (o, i, a) ∈ am_DN) h2.2)
        exact ⟨k1, of_decide_eq_true (p := b = am_nf a) h2.1, k2⟩
      case anewarray i => exact am_DA_ok (o, i) (of_decide_eq_true (p := (o, i) ∈ am_DA) h2)
      case multianewarray i j =>
        have h2 : (Nat.beq j 2 && decide ((o, i) ∈ am_DY)) = true := h2
        rw [Bool.and_eq_true] at h2
        exact ⟨Nat.eq_of_beq_eq_true h2.1, am_DY_ok (o, i) (of_decide_eq_true (p := (o, i) ∈ am_DY) h2.2)⟩
      case newarray t => cases t <;> first | exact trivial | exact am_acz_ok | exact am_acl_ok
      all_goals exact trivial
  · cases h1
def am_chr (o : Nat) (ini : Bool) (cc : ByteArray) (ret : Option FieldType) : Nat → List (Option am_I) → Bool
  | _, [] => true
  | pc, none :: r => am_chr o ini cc ret (pc + 1) r
  | pc, some x :: r => am_chk o ini cc ret pc x && am_chr o ini cc ret (pc + 1) r
def am_cht (o : Nat) (ini : Bool) (cc : ByteArray) (ret : Option FieldType) : Nat → am_T → Bool
  | _, [] => true
  | pc, r :: T => am_chr o ini cc ret pc r && am_cht o ini cc ret (pc + 16) T
theorem am_chr_at {o : Nat} {ini : Bool} {cc : ByteArray} {ret : Option FieldType} : ∀ (pc : Nat) (r : List (Option am_I)) (j : Nat) (x : am_I), am_chr o ini cc ret pc r = true → r[j]? = some (some x) → am_chk o ini cc ret (pc + j) x = true
  | _, [], j, x, _, h => by simp at h
  | pc, none :: r, 0, x, _, h => by cases h
  | pc, none :: r, j + 1, x, k, h => by
    have := am_chr_at (pc + 1) r j x k h
    rw [show pc + 1 + j = pc + (j + 1) by omega] at this
    exact this
  | pc, some y :: r, 0, x, k, h => by
    cases h
    exact ((Bool.and_eq_true _ _).mp k).1
  | pc, some y :: r, j + 1, x, k, h => by
    have := am_chr_at (pc + 1) r j x ((Bool.and_eq_true _ _).mp k).2 h
    rw [show pc + 1 + j = pc + (j + 1) by omega] at this
    exact this
theorem am_cht_at {o : Nat} {ini : Bool} {cc : ByteArray} {ret : Option FieldType} : ∀ (pc : Nat) (T : am_T) (j : Nat) (r : List (Option am_I)), am_cht o ini cc ret pc T = true → T[j]? = some r → am_chr o ini cc ret (pc + 16 * j) r = true
  | _, [], j, x, _, h => by simp at h
  | pc, y :: r, 0, x, k, h => by
    cases h
    exact ((Bool.and_eq_true _ _).mp k).1
  | pc, y :: r, j + 1, x, k, h => by
    have := am_cht_at (pc + 16) r j x ((Bool.and_eq_true _ _).mp k).2 h
    rw [show pc + 16 + 16 * j = pc + 16 * (j + 1) by omega] at this
    exact this
theorem am_tok_of {k o : Nat} (ini : Bool) (hi : ini = true → (am_y k).name = "<init>") (hn : (am_y k).cls = am_cn o) (hp : plainName (am_cn o) = true) (h : am_cht o ini (am_b k) (am_ret k) 0 (am_code k) = true) : am_tok k := by
  refine ⟨fun pc x hx => ?_, by rw [hn]; exact hp⟩
  rw [hn]
  unfold am_at at hx
  split at hx
  · next r hr =>
    split at hx
    · next y hy =>
      subst hx
      have := am_chr_at _ r (pc % 16) x (am_cht_at 0 _ (pc / 16) r h hr) hy
      rw [show 0 + 16 * (pc / 16) + pc % 16 = pc by omega] at this
      exact am_chk_ok hi this
    · cases hx
  · cases hx
