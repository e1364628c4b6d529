def am_nok2 (q : Nat × Nat × Nat) : Prop := q.2.2 < 11 ∧ ∀ Cn T N, am_cl[q.2.2]? = some (Cn, T, N) → Cond.classLink (am_cn q.1) q.2.1 Cn ∈ am_tb ∧ Cond.instantiable Cn N ∈ am_tb ∧ Cond.initialized Cn ∈ am_tb
theorem am_dn_0 : am_nok2 (13, 7, 9) := ⟨by decide, fun _ _ _ h => by cases h; exact ⟨am_tb_of (List.mem_of_getElem? (i := 80) (by decide +kernel)) rfl, am_tb_of (List.mem_of_getElem? (i := 81) (by decide +kernel)) rfl, am_tb_of (List.mem_of_getElem? (i := 66) (by decide +kernel)) rfl⟩⟩
theorem am_dn_1 : am_nok2 (9, 9, 4) := ⟨by decide, fun _ _ _ h => by cases h; exact ⟨am_tb_of (List.mem_of_getElem? (i := 88) (by decide +kernel)) rfl, am_tb_of (List.mem_of_getElem? (i := 89) (by decide +kernel)) rfl, am_tb_of (List.mem_of_getElem? (i := 67) (by decide +kernel)) rfl⟩⟩
theorem am_dn_2 : am_nok2 (9, 16, 5) := ⟨by decide, fun _ _ _ h => by cases h; exact ⟨am_tb_of (List.mem_of_getElem? (i := 122) (by decide +kernel)) rfl, am_tb_of (List.mem_of_getElem? (i := 123) (by decide +kernel)) rfl, am_tb_of (List.mem_of_getElem? (i := 68) (by decide +kernel)) rfl⟩⟩
theorem am_dn_3 : am_nok2 (9, 23, 6) := ⟨by decide, fun _ _ _ h => by cases h; exact ⟨am_tb_of (List.mem_of_getElem? (i := 132) (by decide +kernel)) rfl, am_tb_of (List.mem_of_getElem? (i := 133) (by decide +kernel)) rfl, am_tb_of (List.mem_of_getElem? (i := 69) (by decide +kernel)) rfl⟩⟩
theorem am_dn_4 : am_nok2 (9, 37, 0) := ⟨by decide, fun _ _ _ h => by cases h; exact ⟨am_tb_of (List.mem_of_getElem? (i := 160) (by decide +kernel)) rfl, am_tb_of (List.mem_of_getElem? (i := 161) (by decide +kernel)) rfl, am_tb_of (List.mem_of_getElem? (i := 70) (by decide +kernel)) rfl⟩⟩
theorem am_dn_5 : am_nok2 (9, 49, 2) := ⟨by decide, fun _ _ _ h => by cases h; exact ⟨am_tb_of (List.mem_of_getElem? (i := 188) (by decide +kernel)) rfl, am_tb_of (List.mem_of_getElem? (i := 189) (by decide +kernel)) rfl, am_tb_of (List.mem_of_getElem? (i := 71) (by decide +kernel)) rfl⟩⟩
theorem am_dn_6 : am_nok2 (9, 61, 1) := ⟨by decide, fun _ _ _ h => by cases h; exact ⟨am_tb_of (List.mem_of_getElem? (i := 222) (by decide +kernel)) rfl, am_tb_of (List.mem_of_getElem? (i := 223) (by decide +kernel)) rfl, am_tb_of (List.mem_of_getElem? (i := 72) (by decide +kernel)) rfl⟩⟩
theorem am_dn_7 : am_nok2 (9, 68, 3) := ⟨by decide, fun _ _ _ h => by cases h; exact ⟨am_tb_of (List.mem_of_getElem? (i := 246) (by decide +kernel)) rfl, am_tb_of (List.mem_of_getElem? (i := 247) (by decide +kernel)) rfl, am_tb_of (List.mem_of_getElem? (i := 73) (by decide +kernel)) rfl⟩⟩
theorem am_dn_8 : am_nok2 (9, 75, 8) := ⟨by decide, fun _ _ _ h => by cases h; exact ⟨am_tb_of (List.mem_of_getElem? (i := 271) (by decide +kernel)) rfl, am_tb_of (List.mem_of_getElem? (i := 272) (by decide +kernel)) rfl, am_tb_of (List.mem_of_getElem? (i := 74) (by decide +kernel)) rfl⟩⟩
theorem am_dn_9 : am_nok2 (9, 82, 7) := ⟨by decide, fun _ _ _ h => by cases h; exact ⟨am_tb_of (List.mem_of_getElem? (i := 289) (by decide +kernel)) rfl, am_tb_of (List.mem_of_getElem? (i := 291) (by decide +kernel)) rfl, am_tb_of (List.mem_of_getElem? (i := 75) (by decide +kernel)) rfl⟩⟩
theorem am_dn_10 : am_nok2 (13, 10, 10) := ⟨by decide, fun _ _ _ h => by cases h; exact ⟨am_tb_of (List.mem_of_getElem? (i := 804) (by decide +kernel)) rfl, am_tb_of (List.mem_of_getElem? (i := 805) (by decide +kernel)) rfl, am_tb_of (List.mem_of_getElem? (i := 76) (by decide +kernel)) rfl⟩⟩
def am_DN_l0 : List (Nat × Nat × Nat) := [(13, 7, 9), (9, 9, 4), (9, 16, 5), (9, 23, 6), (9, 37, 0), (9, 49, 2), (9, 61, 1), (9, 68, 3), (9, 75, 8), (9, 82, 7), (13, 10, 10)]
theorem am_DN_r0 : ∀ q ∈ am_DN_l0, am_nok2 q := List.forall_mem_cons.mpr ⟨am_dn_0, List.forall_mem_cons.mpr ⟨am_dn_1, List.forall_mem_cons.mpr ⟨am_dn_2, List.forall_mem_cons.mpr ⟨am_dn_3, List.forall_mem_cons.mpr ⟨am_dn_4, List.forall_mem_cons.mpr ⟨am_dn_5, List.forall_mem_cons.mpr ⟨am_dn_6, List.forall_mem_cons.mpr ⟨am_dn_7, List.forall_mem_cons.mpr ⟨am_dn_8, List.forall_mem_cons.mpr ⟨am_dn_9, List.forall_mem_cons.mpr ⟨am_dn_10, fun _ h => absurd h List.not_mem_nil⟩⟩⟩⟩⟩⟩⟩⟩⟩⟩⟩
def am_DN : List (Nat × Nat × Nat) := am_DN_l0
theorem am_DN_ok : ∀ q ∈ am_DN, am_nok2 q := am_DN_r0
def am_ok7 (q : Nat × Nat) : Prop := Cond.classLink (am_cn q.1) q.2 RX7 ∈ am_tb
theorem am_da_0 : am_ok7 (9, 82) := am_tb_of (List.mem_of_getElem? (i := 289) (by decide +kernel)) rfl
def am_DA_l0 : List (Nat × Nat) := [(9, 82)]
theorem am_DA_r0 : ∀ q ∈ am_DA_l0, am_ok7 q := List.forall_mem_cons.mpr ⟨am_da_0, fun _ h => absurd h List.not_mem_nil⟩
def am_DA : List (Nat × Nat) := am_DA_l0
theorem am_DA_ok : ∀ q ∈ am_DA, am_ok7 q := am_DA_r0
def am_okI1 (q : Nat × Nat) : Prop := Cond.classLink (am_cn q.1) q.2 "[I" ∈ am_tb
theorem am_dx_0 : am_okI1 (6, 14) := am_tb_of (List.mem_of_getElem? (i := 146) (by decide +kernel)) rfl
def am_DX_l0 : List (Nat × Nat) := [(6, 14)]
theorem am_DX_r0 : ∀ q ∈ am_DX_l0, am_okI1 q := List.forall_mem_cons.mpr ⟨am_dx_0, fun _ h => absurd h List.not_mem_nil⟩
def am_DX : List (Nat × Nat) := am_DX_l0
theorem am_DX_ok : ∀ q ∈ am_DX, am_okI1 q := am_DX_r0
def am_okI2 (q : Nat × Nat) : Prop := Cond.classLink (am_cn q.1) q.2 "[[I" ∈ am_tb
theorem am_dy_0 : am_okI2 (6, 23) := am_tb_of (List.mem_of_getElem? (i := 147) (by decide +kernel)) rfl
def am_DY_l0 : List (Nat × Nat) := [(6, 23)]
theorem am_DY_r0 : ∀ q ∈ am_DY_l0, am_okI2 q := List.forall_mem_cons.mpr ⟨am_dy_0, fun _ h => absurd h List.not_mem_nil⟩
def am_DY : List (Nat × Nat) := am_DY_l0
theorem am_DY_ok : ∀ q ∈ am_DY, am_okI2 q := am_DY_r0
def am_ook (q : Nat × Nat) : Prop := Cond.methodLink (am_cn q.1) q.2 Lib.objectInit ∈ am_tb ∧ Cond.instanceMethod Lib.objectInit ∈ am_tb ∧ Cond.code Lib.objectInit ⟨#[0xb1]⟩ 1 none ∈ am_tb
theorem am_ook0 : Cond.instanceMethod Lib.objectInit ∈ am_tb ∧ Cond.code Lib.objectInit ⟨#[0xb1]⟩ 1 none ∈ am_tb := ⟨am_tb_of (List.mem_of_getElem? (i := 86) (by decide +kernel)) rfl, am_tb_of (List.mem_of_getElem? (i := 87) (by decide +kernel)) rfl⟩
theorem am_do_0 : am_ook (9, 3) := ⟨am_tb_of (List.mem_of_getElem? (i := 85) (by decide +kernel)) rfl, am_ook0⟩
theorem am_do_1 : am_ook (4, 3) := ⟨am_tb_of (List.mem_of_getElem? (i := 93) (by decide +kernel)) rfl, am_ook0⟩
theorem am_do_2 : am_ook (5, 3) := ⟨am_tb_of (List.mem_of_getElem? (i := 127) (by decide +kernel)) rfl, am_ook0⟩
theorem am_do_3 : am_ook (6, 3) := ⟨am_tb_of (List.mem_of_getElem? (i := 137) (by decide +kernel)) rfl, am_ook0⟩
theorem am_do_4 : am_ook (0, 3) := ⟨am_tb_of (List.mem_of_getElem? (i := 165) (by decide +kernel)) rfl, am_ook0⟩
theorem am_do_5 : am_ook (2, 3) := ⟨am_tb_of (List.mem_of_getElem? (i := 193) (by decide +kernel)) rfl, am_ook0⟩
theorem am_do_6 : am_ook (1, 3) := ⟨am_tb_of (List.mem_of_getElem? (i := 227) (by decide +kernel)) rfl, am_ook0⟩
theorem am_do_7 : am_ook (3, 3) := ⟨am_tb_of (List.mem_of_getElem? (i := 251) (by decide +kernel)) rfl, am_ook0⟩
theorem am_do_8 : am_ook (8, 3) := ⟨am_tb_of (List.mem_of_getElem? (i := 276) (by decide +kernel)) rfl, am_ook0⟩
theorem am_do_9 : am_ook (7, 3) := ⟨am_tb_of (List.mem_of_getElem? (i := 295) (by decide +kernel)) rfl, am_ook0⟩
theorem am_do_10 : am_ook (10, 1) := ⟨am_tb_of (List.mem_of_getElem? (i := 809) (by decide +kernel)) rfl, am_ook0⟩
def am_DO_l0 : List (Nat × Nat) := [(9, 3), (4, 3), (5, 3), (6, 3), (0, 3), (2, 3), (1, 3), (3, 3), (8, 3), (7, 3), (10, 1)]
theorem am_DO_r0 : ∀ q ∈ am_DO_l0, am_ook q := List.forall_mem_cons.mpr ⟨am_do_0, List.forall_mem_cons.mpr ⟨am_do_1, List.forall_mem_cons.mpr ⟨am_do_2, List.forall_mem_cons.mpr ⟨am_do_3, List.forall_mem_cons.mpr ⟨am_do_4, List.forall_mem_cons.mpr ⟨am_do_5, List.forall_mem_cons.mpr ⟨am_do_6, List.forall_mem_cons.mpr ⟨am_do_7, List.forall_mem_cons.mpr ⟨am_do_8, List.forall_mem_cons.mpr ⟨am_do_9, List.forall_mem_cons.mpr ⟨am_do_10, fun _ h => absurd h List.not_mem_nil⟩⟩⟩⟩⟩⟩⟩⟩⟩⟩⟩
def am_DO : List (Nat × Nat) := am_DO_l0
theorem am_DO_ok : ∀ q ∈ am_DO, am_ook q := am_DO_r0
def am_mmok (q : Nat × Nat × Nat) : Prop := am_tokm (am_cn q.1) q.2.1 1003 q.2.2
theorem am_dm_0 : am_mmok (9, 173, 4) := ⟨am_tb_of (List.mem_of_getElem? (i := 77) (by decide +kernel)) rfl, Or.inr (Or.inr (Or.inr (Or.inr (⟨rfl, rfl, am_tb_of (List.mem_of_getElem? (i := 416) (by decide +kernel)) rfl, am_tb_of (List.mem_of_getElem? (i := 417) (by decide +kernel)) rfl, am_tb_of (List.mem_of_getElem? (i := 418) (by decide +kernel)) rfl⟩))))⟩
theorem am_dm_1 : am_mmok (6, 28, 0) := ⟨am_tb_of (List.mem_of_getElem? (i := 77) (by decide +kernel)) rfl, Or.inl ⟨rfl, rfl, am_tb_of (List.mem_of_getElem? (i := 510) (by decide +kernel)) rfl, am_tb_of (List.mem_of_getElem? (i := 511) (by decide +kernel)) rfl, am_tb_of (List.mem_of_getElem? (i := 512) (by decide +kernel)) rfl⟩⟩
theorem am_dm_2 : am_mmok (0, 70, 2) := ⟨am_tb_of (List.mem_of_getElem? (i := 77) (by decide +kernel)) rfl, Or.inr (Or.inr (Or.inl ⟨rfl, rfl, am_tb_of (List.mem_of_getElem? (i := 517) (by decide +kernel)) rfl, am_tb_of (List.mem_of_getElem? (i := 518) (by decide +kernel)) rfl, am_tb_of (List.mem_of_getElem? (i := 519) (by decide +kernel)) rfl⟩))⟩
theorem am_dm_3 : am_mmok (9, 248, 2) := ⟨am_tb_of (List.mem_of_getElem? (i := 77) (by decide +kernel)) rfl, Or.inr (Or.inr (Or.inl ⟨rfl, rfl, am_tb_of (List.mem_of_getElem? (i := 664) (by decide +kernel)) rfl, am_tb_of (List.mem_of_getElem? (i := 518) (by decide +kernel)) rfl, am_tb_of (List.mem_of_getElem? (i := 519) (by decide +kernel)) rfl⟩))⟩
theorem am_dm_4 : am_mmok (6, 34, 2) := ⟨am_tb_of (List.mem_of_getElem? (i := 77) (by decide +kernel)) rfl, Or.inr (Or.inr (Or.inl ⟨rfl, rfl, am_tb_of (List.mem_of_getElem? (i := 674) (by decide +kernel)) rfl, am_tb_of (List.mem_of_getElem? (i := 518) (by decide +kernel)) rfl, am_tb_of (List.mem_of_getElem? (i := 519) (by decide +kernel)) rfl⟩))⟩
theorem am_dm_5 : am_mmok (6, 42, 4) := ⟨am_tb_of (List.mem_of_getElem? (i := 77) (by decide +kernel)) rfl, Or.inr (Or.inr (Or.inr (Or.inr (⟨rfl, rfl, am_tb_of (List.mem_of_getElem? (i := 675) (by decide +kernel)) rfl, am_tb_of (List.mem_of_getElem? (i := 417) (by decide +kernel)) rfl, am_tb_of (List.mem_of_getElem? (i := 418) (by decide +kernel)) rfl⟩))))⟩
theorem am_dm_6 : am_mmok (9, 391, 1) := ⟨am_tb_of (List.mem_of_getElem? (i := 77) (by decide +kernel)) rfl, Or.inr (Or.inl ⟨rfl, rfl, am_tb_of (List.mem_of_getElem? (i := 679) (by decide +kernel)) rfl, am_tb_of (List.mem_of_getElem? (i := 680) (by decide +kernel)) rfl, am_tb_of (List.mem_of_getElem? (i := 681) (by decide +kernel)) rfl⟩)⟩
theorem am_dm_7 : am_mmok (9, 399, 3) := ⟨am_tb_of (List.mem_of_getElem? (i := 77) (by decide +kernel)) rfl, Or.inr (Or.inr (Or.inr (Or.inl ⟨rfl, rfl, am_tb_of (List.mem_of_getElem? (i := 685) (by decide +kernel)) rfl, am_tb_of (List.mem_of_getElem? (i := 686) (by decide +kernel)) rfl, am_tb_of (List.mem_of_getElem? (i := 687) (by decide +kernel)) rfl⟩)))⟩
def am_DM_l0 : List (Nat × Nat × Nat) := [(9, 173, 4), (6, 28, 0), (0, 70, 2), (9, 248, 2), (6, 34, 2), (6, 42, 4), (9, 391, 1), (9, 399, 3)]
theorem am_DM_r0 : ∀ q ∈ am_DM_l0, am_mmok q := List.forall_mem_cons.mpr ⟨am_dm_0, List.forall_mem_cons.mpr ⟨am_dm_1, List.forall_mem_cons.mpr ⟨am_dm_2, List.forall_mem_cons.mpr ⟨am_dm_3, List.forall_mem_cons.mpr ⟨am_dm_4, List.forall_mem_cons.mpr ⟨am_dm_5, List.forall_mem_cons.mpr ⟨am_dm_6, List.forall_mem_cons.mpr ⟨am_dm_7, fun _ h => absurd h List.not_mem_nil⟩⟩⟩⟩⟩⟩⟩⟩
def am_DM : List (Nat × Nat × Nat) := am_DM_l0
theorem am_DM_ok : ∀ q ∈ am_DM, am_mmok q := am_DM_r0
theorem am_cl_ok : Cond.methodLink (am_cn 6) 13 ⟨"[I", "clone", "()Ljava/lang/Object;"⟩ ∈ am_tb ∧ Cond.sameMethod "[I" "java/lang/Object" "clone" "()Ljava/lang/Object;" ∈ am_tb ∧ Cond.native ⟨"java/lang/Object", "clone", "()Ljava/lang/Object;"⟩ ∈ am_tb ∧ Cond.instanceMethod ⟨"java/lang/Object", "clone", "()Ljava/lang/Object;"⟩ ∈ am_tb ∧ Cond.selects "[I" ⟨"[I", "clone", "()Ljava/lang/Object;"⟩ ⟨"java/lang/Object", "clone", "()Ljava/lang/Object;"⟩ ∈ am_tb := ⟨am_tb_of (List.mem_of_getElem? (i := 140) (by decide +kernel)) rfl, am_tb_of (List.mem_of_getElem? (i := 141) (by decide +kernel)) rfl, am_tb_of (List.mem_of_getElem? (i := 142) (by decide +kernel)) rfl, am_tb_of (List.mem_of_getElem? (i := 143) (by decide +kernel)) rfl, am_tb_of (List.mem_of_getElem? (i := 144) (by decide +kernel)) rfl⟩
theorem am_acz_ok : Cond.arrayClass .boolean ∈ am_tb := am_tb_of (List.mem_of_getElem? (i := 901) (by decide +kernel)) rfl
theorem am_acl_ok : Cond.arrayClass .long ∈ am_tb := am_tb_of (List.mem_of_getElem? (i := 902) (by decide +kernel)) rfl
