def am_gok (q : Nat × Nat × Nat) : Prop := q.2.2 < 3 ∧ (Cond.fieldLink (am_cn q.1) q.2.1 "LastForemost" (am_sn q.2.2) "[I" ∈ am_tb ∨ ∃ host, Cond.fieldLinkNest (am_cn q.1) q.2.1 "LastForemost" (am_sn q.2.2) "[I" host ∈ am_nest)
theorem am_dg_0 : am_gok (6, 9, 2) := ⟨by decide, Or.inr ⟨"LastForemost", List.mem_of_getElem? (i := 3) (by decide +kernel)⟩⟩
theorem am_dg_1 : am_gok (9, 146, 0) := ⟨by decide, Or.inl (am_tb_of (List.mem_of_getElem? (i := 443) (by decide +kernel)) rfl)⟩
theorem am_dg_2 : am_gok (9, 149, 1) := ⟨by decide, Or.inl (am_tb_of (List.mem_of_getElem? (i := 445) (by decide +kernel)) rfl)⟩
def am_DG_l0 : List (Nat × Nat × Nat) := [(6, 9, 2), (9, 146, 0), (9, 149, 1)]
theorem am_DG_r0 : ∀ q ∈ am_DG_l0, am_gok q := List.forall_mem_cons.mpr ⟨am_dg_0, List.forall_mem_cons.mpr ⟨am_dg_1, List.forall_mem_cons.mpr ⟨am_dg_2, fun _ h => absurd h List.not_mem_nil⟩⟩⟩
def am_DG : List (Nat × Nat × Nat) := am_DG_l0
theorem am_DG_ok : ∀ q ∈ am_DG, am_gok q := am_DG_r0
def am_kok (q : Nat × Nat × Int) : Prop := Cond.constant (am_cn q.1) q.2.1 (Int32.ofInt q.2.2) ∈ am_tb
theorem am_dc_0 : am_kok (11, 265, 1431655765) := am_tb_of (List.mem_of_getElem? (i := 632) (by decide +kernel)) rfl
theorem am_dc_1 : am_kok (11, 266, 858993459) := am_tb_of (List.mem_of_getElem? (i := 633) (by decide +kernel)) rfl
theorem am_dc_2 : am_kok (11, 267, 252645135) := am_tb_of (List.mem_of_getElem? (i := 634) (by decide +kernel)) rfl
theorem am_dc_3 : am_kok (9, 261, 1103515245) := am_tb_of (List.mem_of_getElem? (i := 692) (by decide +kernel)) rfl
theorem am_dc_4 : am_kok (9, 295, (-2147483648)) := am_tb_of (List.mem_of_getElem? (i := 753) (by decide +kernel)) rfl
theorem am_dc_5 : am_kok (10, 104, (-2147483648)) := am_tb_of (List.mem_of_getElem? (i := 938) (by decide +kernel)) rfl
theorem am_dc_6 : am_kok (10, 278, 1103515245) := am_tb_of (List.mem_of_getElem? (i := 1214) (by decide +kernel)) rfl
def am_DC_l0 : List (Nat × Nat × Int) := [(11, 265, 1431655765), (11, 266, 858993459), (11, 267, 252645135), (9, 261, 1103515245), (9, 295, (-2147483648)), (10, 104, (-2147483648)), (10, 278, 1103515245)]
theorem am_DC_r0 : ∀ q ∈ am_DC_l0, am_kok q := List.forall_mem_cons.mpr ⟨am_dc_0, List.forall_mem_cons.mpr ⟨am_dc_1, List.forall_mem_cons.mpr ⟨am_dc_2, List.forall_mem_cons.mpr ⟨am_dc_3, List.forall_mem_cons.mpr ⟨am_dc_4, List.forall_mem_cons.mpr ⟨am_dc_5, List.forall_mem_cons.mpr ⟨am_dc_6, fun _ h => absurd h List.not_mem_nil⟩⟩⟩⟩⟩⟩⟩
def am_DC : List (Nat × Nat × Int) := am_DC_l0
theorem am_DC_ok : ∀ q ∈ am_DC, am_kok q := am_DC_r0
def am_Kok (q : Nat × Nat × Int) : Prop := Cond.constantLong (am_cn q.1) q.2.1 (Int64.ofInt q.2.2) ∈ am_tb
theorem am_dl_0 : am_Kok (9, 246, (-9223372036854775806)) := am_tb_of (List.mem_of_getElem? (i := 663) (by decide +kernel)) rfl
theorem am_dl_1 : am_Kok (9, 308, 17) := am_tb_of (List.mem_of_getElem? (i := 782) (by decide +kernel)) rfl
theorem am_dl_2 : am_Kok (9, 310, 31) := am_tb_of (List.mem_of_getElem? (i := 783) (by decide +kernel)) rfl
theorem am_dl_3 : am_Kok (10, 84, 3) := am_tb_of (List.mem_of_getElem? (i := 910) (by decide +kernel)) rfl
theorem am_dl_4 : am_Kok (10, 90, 2) := am_tb_of (List.mem_of_getElem? (i := 914) (by decide +kernel)) rfl
theorem am_dl_5 : am_Kok (10, 105, 255) := am_tb_of (List.mem_of_getElem? (i := 947) (by decide +kernel)) rfl
theorem am_dl_6 : am_Kok (10, 78, 6) := am_tb_of (List.mem_of_getElem? (i := 1006) (by decide +kernel)) rfl
theorem am_dl_7 : am_Kok (10, 151, 59) := am_tb_of (List.mem_of_getElem? (i := 1007) (by decide +kernel)) rfl
theorem am_dl_8 : am_Kok (10, 156, 5) := am_tb_of (List.mem_of_getElem? (i := 1019) (by decide +kernel)) rfl
theorem am_dl_9 : am_Kok (10, 164, 20) := am_tb_of (List.mem_of_getElem? (i := 1030) (by decide +kernel)) rfl
theorem am_dl_10 : am_Kok (10, 216, (-1)) := am_tb_of (List.mem_of_getElem? (i := 1098) (by decide +kernel)) rfl
theorem am_dl_11 : am_Kok (10, 72, (-9223372036854775808)) := am_tb_of (List.mem_of_getElem? (i := 1205) (by decide +kernel)) rfl
theorem am_dl_12 : am_Kok (10, 291, 17) := am_tb_of (List.mem_of_getElem? (i := 1247) (by decide +kernel)) rfl
theorem am_dl_13 : am_Kok (10, 293, 31) := am_tb_of (List.mem_of_getElem? (i := 1248) (by decide +kernel)) rfl
def am_DL_l0 : List (Nat × Nat × Int) := [(9, 246, (-9223372036854775806)), (9, 308, 17), (9, 310, 31), (10, 84, 3), (10, 90, 2), (10, 105, 255), (10, 78, 6), (10, 151, 59), (10, 156, 5), (10, 164, 20), (10, 216, (-1)), (10, 72, (-9223372036854775808)), (10, 291, 17), (10, 293, 31)]
theorem am_DL_r0 : ∀ q ∈ am_DL_l0, am_Kok q := List.forall_mem_cons.mpr ⟨am_dl_0, List.forall_mem_cons.mpr ⟨am_dl_1, List.forall_mem_cons.mpr ⟨am_dl_2, List.forall_mem_cons.mpr ⟨am_dl_3, List.forall_mem_cons.mpr ⟨am_dl_4, List.forall_mem_cons.mpr ⟨am_dl_5, List.forall_mem_cons.mpr ⟨am_dl_6, List.forall_mem_cons.mpr ⟨am_dl_7, List.forall_mem_cons.mpr ⟨am_dl_8, List.forall_mem_cons.mpr ⟨am_dl_9, List.forall_mem_cons.mpr ⟨am_dl_10, List.forall_mem_cons.mpr ⟨am_dl_11, List.forall_mem_cons.mpr ⟨am_dl_12, List.forall_mem_cons.mpr ⟨am_dl_13, fun _ h => absurd h List.not_mem_nil⟩⟩⟩⟩⟩⟩⟩⟩⟩⟩⟩⟩⟩⟩
def am_DL : List (Nat × Nat × Int) := am_DL_l0
theorem am_DL_ok : ∀ q ∈ am_DL, am_Kok q := am_DL_r0
