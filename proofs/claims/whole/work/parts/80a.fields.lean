-- the tables of code, checked by program: names of classes by number, links, callees
def am_cn (o : Nat) : String := ([RX0, RX1, RX2, RX3, RX4, RX5, RX6, RX7, RX8, RX9, RX10, RJ6, RJ9, RL] : List String).getD o ""
abbrev am_q4 : Type := Nat × Nat × Nat × Nat
def am_fok (q : am_q4) : Prop := ∃ r : vw_C, am_cl[q.2.2.1]? = some r ∧ q.2.2.2 < r.2.2 ∧ Cond.fieldLink (am_cn q.1) q.2.1 (r.2.1 q.2.2.2).1 (r.2.1 q.2.2.2).2.1 (r.2.1 q.2.2.2).2.2.1 ∈ am_tb
theorem am_df_0 : am_fok (4, 9, 4, 0) := ⟨_, rfl, by decide, am_tb_of (List.mem_of_getElem? (i := 94) (by decide +kernel)) rfl⟩
theorem am_df_1 : am_fok (4, 15, 4, 1) := ⟨_, rfl, by decide, am_tb_of (List.mem_of_getElem? (i := 95) (by decide +kernel)) rfl⟩
theorem am_df_2 : am_fok (0, 52, 4, 1) := ⟨_, rfl, by decide, am_tb_of (List.mem_of_getElem? (i := 96) (by decide +kernel)) rfl⟩
theorem am_df_3 : am_fok (9, 130, 4, 1) := ⟨_, rfl, by decide, am_tb_of (List.mem_of_getElem? (i := 97) (by decide +kernel)) rfl⟩
theorem am_df_4 : am_fok (4, 18, 4, 2) := ⟨_, rfl, by decide, am_tb_of (List.mem_of_getElem? (i := 98) (by decide +kernel)) rfl⟩
theorem am_df_5 : am_fok (0, 61, 4, 2) := ⟨_, rfl, by decide, am_tb_of (List.mem_of_getElem? (i := 99) (by decide +kernel)) rfl⟩
theorem am_df_6 : am_fok (9, 133, 4, 2) := ⟨_, rfl, by decide, am_tb_of (List.mem_of_getElem? (i := 100) (by decide +kernel)) rfl⟩
theorem am_df_7 : am_fok (4, 21, 4, 3) := ⟨_, rfl, by decide, am_tb_of (List.mem_of_getElem? (i := 101) (by decide +kernel)) rfl⟩
theorem am_df_8 : am_fok (9, 107, 4, 3) := ⟨_, rfl, by decide, am_tb_of (List.mem_of_getElem? (i := 102) (by decide +kernel)) rfl⟩
theorem am_df_9 : am_fok (4, 25, 4, 4) := ⟨_, rfl, by decide, am_tb_of (List.mem_of_getElem? (i := 103) (by decide +kernel)) rfl⟩
theorem am_df_10 : am_fok (0, 34, 4, 4) := ⟨_, rfl, by decide, am_tb_of (List.mem_of_getElem? (i := 104) (by decide +kernel)) rfl⟩
theorem am_df_11 : am_fok (9, 207, 4, 4) := ⟨_, rfl, by decide, am_tb_of (List.mem_of_getElem? (i := 105) (by decide +kernel)) rfl⟩
theorem am_df_12 : am_fok (4, 28, 4, 5) := ⟨_, rfl, by decide, am_tb_of (List.mem_of_getElem? (i := 106) (by decide +kernel)) rfl⟩
theorem am_df_13 : am_fok (9, 119, 4, 5) := ⟨_, rfl, by decide, am_tb_of (List.mem_of_getElem? (i := 107) (by decide +kernel)) rfl⟩
theorem am_df_14 : am_fok (5, 9, 5, 0) := ⟨_, rfl, by decide, am_tb_of (List.mem_of_getElem? (i := 128) (by decide +kernel)) rfl⟩
theorem am_df_15 : am_fok (6, 18, 6, 0) := ⟨_, rfl, by decide, am_tb_of (List.mem_of_getElem? (i := 149) (by decide +kernel)) rfl⟩
theorem am_df_16 : am_fok (0, 39, 6, 0) := ⟨_, rfl, by decide, am_tb_of (List.mem_of_getElem? (i := 150) (by decide +kernel)) rfl⟩
theorem am_df_17 : am_fok (9, 152, 6, 0) := ⟨_, rfl, by decide, am_tb_of (List.mem_of_getElem? (i := 151) (by decide +kernel)) rfl⟩
theorem am_df_18 : am_fok (6, 25, 6, 1) := ⟨_, rfl, by decide, am_tb_of (List.mem_of_getElem? (i := 152) (by decide +kernel)) rfl⟩
theorem am_df_19 : am_fok (0, 75, 6, 1) := ⟨_, rfl, by decide, am_tb_of (List.mem_of_getElem? (i := 153) (by decide +kernel)) rfl⟩
theorem am_df_20 : am_fok (9, 155, 6, 1) := ⟨_, rfl, by decide, am_tb_of (List.mem_of_getElem? (i := 154) (by decide +kernel)) rfl⟩
theorem am_df_21 : am_fok (0, 22, 0, 0) := ⟨_, rfl, by decide, am_tb_of (List.mem_of_getElem? (i := 166) (by decide +kernel)) rfl⟩
theorem am_df_22 : am_fok (0, 26, 0, 1) := ⟨_, rfl, by decide, am_tb_of (List.mem_of_getElem? (i := 167) (by decide +kernel)) rfl⟩
theorem am_df_23 : am_fok (0, 30, 0, 2) := ⟨_, rfl, by decide, am_tb_of (List.mem_of_getElem? (i := 168) (by decide +kernel)) rfl⟩
def am_DF_l0 : List am_q4 := [(4, 9, 4, 0), (4, 15, 4, 1), (0, 52, 4, 1), (9, 130, 4, 1), (4, 18, 4, 2), (0, 61, 4, 2), (9, 133, 4, 2), (4, 21, 4, 3), (9, 107, 4, 3), (4, 25, 4, 4), (0, 34, 4, 4), (9, 207, 4, 4), (4, 28, 4, 5), (9, 119, 4, 5), (5, 9, 5, 0), (6, 18, 6, 0), (0, 39, 6, 0), (9, 152, 6, 0), (6, 25, 6, 1), (0, 75, 6, 1), (9, 155, 6, 1), (0, 22, 0, 0), (0, 26, 0, 1), (0, 30, 0, 2)]
theorem am_DF_r0 : ∀ q ∈ am_DF_l0, am_fok q := List.forall_mem_cons.mpr ⟨am_df_0, List.forall_mem_cons.mpr ⟨am_df_1, List.forall_mem_cons.mpr ⟨am_df_2, List.forall_mem_cons.mpr ⟨am_df_3, List.forall_mem_cons.mpr ⟨am_df_4, List.forall_mem_cons.mpr ⟨am_df_5, List.forall_mem_cons.mpr ⟨am_df_6, List.forall_mem_cons.mpr ⟨am_df_7, List.forall_mem_cons.mpr ⟨am_df_8, List.forall_mem_cons.mpr ⟨am_df_9, List.forall_mem_cons.mpr ⟨am_df_10, List.forall_mem_cons.mpr ⟨am_df_11, List.forall_mem_cons.mpr ⟨am_df_12, List.forall_mem_cons.mpr ⟨am_df_13, List.forall_mem_cons.mpr ⟨am_df_14, List.forall_mem_cons.mpr ⟨am_df_15, List.forall_mem_cons.mpr ⟨am_df_16, List.forall_mem_cons.mpr ⟨am_df_17, List.forall_mem_cons.mpr ⟨am_df_18, List.forall_mem_cons.mpr ⟨am_df_19, List.forall_mem_cons.mpr ⟨am_df_20, List.forall_mem_cons.mpr ⟨am_df_21, List.forall_mem_cons.mpr ⟨am_df_22, List.forall_mem_cons.mpr ⟨am_df_23, fun _ h => absurd h List.not_mem_nil⟩⟩⟩⟩⟩⟩⟩⟩⟩⟩⟩⟩⟩⟩⟩⟩⟩⟩⟩⟩⟩⟩⟩⟩
theorem am_df_24 : am_fok (0, 9, 0, 3) := ⟨_, rfl, by decide, am_tb_of (List.mem_of_getElem? (i := 169) (by decide +kernel)) rfl⟩
theorem am_df_25 : am_fok (9, 184, 0, 3) := ⟨_, rfl, by decide, am_tb_of (List.mem_of_getElem? (i := 170) (by decide +kernel)) rfl⟩
theorem am_df_26 : am_fok (0, 15, 0, 4) := ⟨_, rfl, by decide, am_tb_of (List.mem_of_getElem? (i := 171) (by decide +kernel)) rfl⟩
theorem am_df_27 : am_fok (9, 190, 0, 4) := ⟨_, rfl, by decide, am_tb_of (List.mem_of_getElem? (i := 172) (by decide +kernel)) rfl⟩
theorem am_df_28 : am_fok (0, 18, 0, 5) := ⟨_, rfl, by decide, am_tb_of (List.mem_of_getElem? (i := 173) (by decide +kernel)) rfl⟩
theorem am_df_29 : am_fok (9, 187, 0, 5) := ⟨_, rfl, by decide, am_tb_of (List.mem_of_getElem? (i := 174) (by decide +kernel)) rfl⟩
theorem am_df_30 : am_fok (2, 31, 2, 0) := ⟨_, rfl, by decide, am_tb_of (List.mem_of_getElem? (i := 194) (by decide +kernel)) rfl⟩
theorem am_df_31 : am_fok (2, 34, 2, 1) := ⟨_, rfl, by decide, am_tb_of (List.mem_of_getElem? (i := 195) (by decide +kernel)) rfl⟩
theorem am_df_32 : am_fok (2, 9, 2, 2) := ⟨_, rfl, by decide, am_tb_of (List.mem_of_getElem? (i := 196) (by decide +kernel)) rfl⟩
theorem am_df_33 : am_fok (2, 15, 2, 3) := ⟨_, rfl, by decide, am_tb_of (List.mem_of_getElem? (i := 197) (by decide +kernel)) rfl⟩
theorem am_df_34 : am_fok (2, 19, 2, 4) := ⟨_, rfl, by decide, am_tb_of (List.mem_of_getElem? (i := 198) (by decide +kernel)) rfl⟩
theorem am_df_35 : am_fok (2, 22, 2, 5) := ⟨_, rfl, by decide, am_tb_of (List.mem_of_getElem? (i := 199) (by decide +kernel)) rfl⟩
theorem am_df_36 : am_fok (9, 372, 2, 5) := ⟨_, rfl, by decide, am_tb_of (List.mem_of_getElem? (i := 200) (by decide +kernel)) rfl⟩
theorem am_df_37 : am_fok (2, 25, 2, 6) := ⟨_, rfl, by decide, am_tb_of (List.mem_of_getElem? (i := 201) (by decide +kernel)) rfl⟩
theorem am_df_38 : am_fok (9, 213, 2, 6) := ⟨_, rfl, by decide, am_tb_of (List.mem_of_getElem? (i := 202) (by decide +kernel)) rfl⟩
theorem am_df_39 : am_fok (2, 28, 2, 7) := ⟨_, rfl, by decide, am_tb_of (List.mem_of_getElem? (i := 203) (by decide +kernel)) rfl⟩
theorem am_df_40 : am_fok (9, 216, 2, 7) := ⟨_, rfl, by decide, am_tb_of (List.mem_of_getElem? (i := 204) (by decide +kernel)) rfl⟩
theorem am_df_41 : am_fok (1, 9, 1, 0) := ⟨_, rfl, by decide, am_tb_of (List.mem_of_getElem? (i := 228) (by decide +kernel)) rfl⟩
theorem am_df_42 : am_fok (3, 36, 1, 0) := ⟨_, rfl, by decide, am_tb_of (List.mem_of_getElem? (i := 229) (by decide +kernel)) rfl⟩
theorem am_df_43 : am_fok (1, 15, 1, 1) := ⟨_, rfl, by decide, am_tb_of (List.mem_of_getElem? (i := 230) (by decide +kernel)) rfl⟩
theorem am_df_44 : am_fok (3, 39, 1, 1) := ⟨_, rfl, by decide, am_tb_of (List.mem_of_getElem? (i := 231) (by decide +kernel)) rfl⟩
theorem am_df_45 : am_fok (1, 18, 1, 2) := ⟨_, rfl, by decide, am_tb_of (List.mem_of_getElem? (i := 232) (by decide +kernel)) rfl⟩
theorem am_df_46 : am_fok (3, 42, 1, 2) := ⟨_, rfl, by decide, am_tb_of (List.mem_of_getElem? (i := 233) (by decide +kernel)) rfl⟩
theorem am_df_47 : am_fok (1, 21, 1, 3) := ⟨_, rfl, by decide, am_tb_of (List.mem_of_getElem? (i := 234) (by decide +kernel)) rfl⟩
def am_DF_l1 : List am_q4 := [(0, 9, 0, 3), (9, 184, 0, 3), (0, 15, 0, 4), (9, 190, 0, 4), (0, 18, 0, 5), (9, 187, 0, 5), (2, 31, 2, 0), (2, 34, 2, 1), (2, 9, 2, 2), (2, 15, 2, 3), (2, 19, 2, 4), (2, 22, 2, 5), (9, 372, 2, 5), (2, 25, 2, 6), (9, 213, 2, 6), (2, 28, 2, 7), (9, 216, 2, 7), (1, 9, 1, 0), (3, 36, 1, 0), (1, 15, 1, 1), (3, 39, 1, 1), (1, 18, 1, 2), (3, 42, 1, 2), (1, 21, 1, 3)]
theorem am_DF_r1 : ∀ q ∈ am_DF_l1, am_fok q := List.forall_mem_cons.mpr ⟨am_df_24, List.forall_mem_cons.mpr ⟨am_df_25, List.forall_mem_cons.mpr ⟨am_df_26, List.forall_mem_cons.mpr ⟨am_df_27, List.forall_mem_cons.mpr ⟨am_df_28, List.forall_mem_cons.mpr ⟨am_df_29, List.forall_mem_cons.mpr ⟨am_df_30, List.forall_mem_cons.mpr ⟨am_df_31, List.forall_mem_cons.mpr ⟨am_df_32, List.forall_mem_cons.mpr ⟨am_df_33, List.forall_mem_cons.mpr ⟨am_df_34, List.forall_mem_cons.mpr ⟨am_df_35, List.forall_mem_cons.mpr ⟨am_df_36, List.forall_mem_cons.mpr ⟨am_df_37, List.forall_mem_cons.mpr ⟨am_df_38, List.forall_mem_cons.mpr ⟨am_df_39, List.forall_mem_cons.mpr ⟨am_df_40, List.forall_mem_cons.mpr ⟨am_df_41, List.forall_mem_cons.mpr ⟨am_df_42, List.forall_mem_cons.mpr ⟨am_df_43, List.forall_mem_cons.mpr ⟨am_df_44, List.forall_mem_cons.mpr ⟨am_df_45, List.forall_mem_cons.mpr ⟨am_df_46, List.forall_mem_cons.mpr ⟨am_df_47, fun _ h => absurd h List.not_mem_nil⟩⟩⟩⟩⟩⟩⟩⟩⟩⟩⟩⟩⟩⟩⟩⟩⟩⟩⟩⟩⟩⟩⟩⟩
theorem am_df_48 : am_fok (3, 31, 1, 3) := ⟨_, rfl, by decide, am_tb_of (List.mem_of_getElem? (i := 235) (by decide +kernel)) rfl⟩
theorem am_df_49 : am_fok (9, 233, 1, 3) := ⟨_, rfl, by decide, am_tb_of (List.mem_of_getElem? (i := 236) (by decide +kernel)) rfl⟩
theorem am_df_50 : am_fok (3, 11, 3, 0) := ⟨_, rfl, by decide, am_tb_of (List.mem_of_getElem? (i := 252) (by decide +kernel)) rfl⟩
theorem am_df_51 : am_fok (3, 15, 3, 1) := ⟨_, rfl, by decide, am_tb_of (List.mem_of_getElem? (i := 253) (by decide +kernel)) rfl⟩
theorem am_df_52 : am_fok (3, 18, 3, 2) := ⟨_, rfl, by decide, am_tb_of (List.mem_of_getElem? (i := 254) (by decide +kernel)) rfl⟩
theorem am_df_53 : am_fok (3, 21, 3, 3) := ⟨_, rfl, by decide, am_tb_of (List.mem_of_getElem? (i := 255) (by decide +kernel)) rfl⟩
theorem am_df_54 : am_fok (3, 24, 3, 4) := ⟨_, rfl, by decide, am_tb_of (List.mem_of_getElem? (i := 256) (by decide +kernel)) rfl⟩
theorem am_df_55 : am_fok (3, 28, 3, 5) := ⟨_, rfl, by decide, am_tb_of (List.mem_of_getElem? (i := 257) (by decide +kernel)) rfl⟩
theorem am_df_56 : am_fok (8, 9, 8, 0) := ⟨_, rfl, by decide, am_tb_of (List.mem_of_getElem? (i := 277) (by decide +kernel)) rfl⟩
theorem am_df_57 : am_fok (9, 271, 8, 0) := ⟨_, rfl, by decide, am_tb_of (List.mem_of_getElem? (i := 278) (by decide +kernel)) rfl⟩
theorem am_df_58 : am_fok (8, 15, 8, 1) := ⟨_, rfl, by decide, am_tb_of (List.mem_of_getElem? (i := 279) (by decide +kernel)) rfl⟩
theorem am_df_59 : am_fok (8, 18, 8, 2) := ⟨_, rfl, by decide, am_tb_of (List.mem_of_getElem? (i := 280) (by decide +kernel)) rfl⟩
theorem am_df_60 : am_fok (9, 265, 8, 2) := ⟨_, rfl, by decide, am_tb_of (List.mem_of_getElem? (i := 281) (by decide +kernel)) rfl⟩
theorem am_df_61 : am_fok (7, 9, 7, 0) := ⟨_, rfl, by decide, am_tb_of (List.mem_of_getElem? (i := 296) (by decide +kernel)) rfl⟩
theorem am_df_62 : am_fok (9, 178, 7, 0) := ⟨_, rfl, by decide, am_tb_of (List.mem_of_getElem? (i := 297) (by decide +kernel)) rfl⟩
theorem am_df_63 : am_fok (7, 15, 7, 1) := ⟨_, rfl, by decide, am_tb_of (List.mem_of_getElem? (i := 298) (by decide +kernel)) rfl⟩
theorem am_df_64 : am_fok (9, 286, 7, 1) := ⟨_, rfl, by decide, am_tb_of (List.mem_of_getElem? (i := 299) (by decide +kernel)) rfl⟩
theorem am_df_65 : am_fok (7, 19, 7, 2) := ⟨_, rfl, by decide, am_tb_of (List.mem_of_getElem? (i := 300) (by decide +kernel)) rfl⟩
theorem am_df_66 : am_fok (9, 170, 7, 2) := ⟨_, rfl, by decide, am_tb_of (List.mem_of_getElem? (i := 301) (by decide +kernel)) rfl⟩
theorem am_df_67 : am_fok (9, 12, 9, 0) := ⟨_, rfl, by decide, am_tb_of (List.mem_of_getElem? (i := 309) (by decide +kernel)) rfl⟩
theorem am_df_68 : am_fok (9, 19, 9, 1) := ⟨_, rfl, by decide, am_tb_of (List.mem_of_getElem? (i := 310) (by decide +kernel)) rfl⟩
theorem am_df_69 : am_fok (9, 26, 9, 2) := ⟨_, rfl, by decide, am_tb_of (List.mem_of_getElem? (i := 311) (by decide +kernel)) rfl⟩
theorem am_df_70 : am_fok (9, 30, 9, 3) := ⟨_, rfl, by decide, am_tb_of (List.mem_of_getElem? (i := 312) (by decide +kernel)) rfl⟩
theorem am_df_71 : am_fok (9, 34, 9, 4) := ⟨_, rfl, by decide, am_tb_of (List.mem_of_getElem? (i := 313) (by decide +kernel)) rfl⟩
def am_DF_l2 : List am_q4 := [(3, 31, 1, 3), (9, 233, 1, 3), (3, 11, 3, 0), (3, 15, 3, 1), (3, 18, 3, 2), (3, 21, 3, 3), (3, 24, 3, 4), (3, 28, 3, 5), (8, 9, 8, 0), (9, 271, 8, 0), (8, 15, 8, 1), (8, 18, 8, 2), (9, 265, 8, 2), (7, 9, 7, 0), (9, 178, 7, 0), (7, 15, 7, 1), (9, 286, 7, 1), (7, 19, 7, 2), (9, 170, 7, 2), (9, 12, 9, 0), (9, 19, 9, 1), (9, 26, 9, 2), (9, 30, 9, 3), (9, 34, 9, 4)]
theorem am_DF_r2 : ∀ q ∈ am_DF_l2, am_fok q := List.forall_mem_cons.mpr ⟨am_df_48, List.forall_mem_cons.mpr ⟨am_df_49, List.forall_mem_cons.mpr ⟨am_df_50, List.forall_mem_cons.mpr ⟨am_df_51, List.forall_mem_cons.mpr ⟨am_df_52, List.forall_mem_cons.mpr ⟨am_df_53, List.forall_mem_cons.mpr ⟨am_df_54, List.forall_mem_cons.mpr ⟨am_df_55, List.forall_mem_cons.mpr ⟨am_df_56, List.forall_mem_cons.mpr ⟨am_df_57, List.forall_mem_cons.mpr ⟨am_df_58, List.forall_mem_cons.mpr ⟨am_df_59, List.forall_mem_cons.mpr ⟨am_df_60, List.forall_mem_cons.mpr ⟨am_df_61, List.forall_mem_cons.mpr ⟨am_df_62, List.forall_mem_cons.mpr ⟨am_df_63, List.forall_mem_cons.mpr ⟨am_df_64, List.forall_mem_cons.mpr ⟨am_df_65, List.forall_mem_cons.mpr ⟨am_df_66, List.forall_mem_cons.mpr ⟨am_df_67, List.forall_mem_cons.mpr ⟨am_df_68, List.forall_mem_cons.mpr ⟨am_df_69, List.forall_mem_cons.mpr ⟨am_df_70, List.forall_mem_cons.mpr ⟨am_df_71, fun _ h => absurd h List.not_mem_nil⟩⟩⟩⟩⟩⟩⟩⟩⟩⟩⟩⟩⟩⟩⟩⟩⟩⟩⟩⟩⟩⟩⟩⟩
theorem am_df_72 : am_fok (9, 42, 9, 5) := ⟨_, rfl, by decide, am_tb_of (List.mem_of_getElem? (i := 314) (by decide +kernel)) rfl⟩
theorem am_df_73 : am_fok (9, 46, 9, 6) := ⟨_, rfl, by decide, am_tb_of (List.mem_of_getElem? (i := 315) (by decide +kernel)) rfl⟩
theorem am_df_74 : am_fok (9, 54, 9, 7) := ⟨_, rfl, by decide, am_tb_of (List.mem_of_getElem? (i := 316) (by decide +kernel)) rfl⟩
theorem am_df_75 : am_fok (9, 58, 9, 8) := ⟨_, rfl, by decide, am_tb_of (List.mem_of_getElem? (i := 317) (by decide +kernel)) rfl⟩
theorem am_df_76 : am_fok (9, 64, 9, 9) := ⟨_, rfl, by decide, am_tb_of (List.mem_of_getElem? (i := 318) (by decide +kernel)) rfl⟩
theorem am_df_77 : am_fok (9, 71, 9, 10) := ⟨_, rfl, by decide, am_tb_of (List.mem_of_getElem? (i := 319) (by decide +kernel)) rfl⟩
theorem am_df_78 : am_fok (9, 78, 9, 11) := ⟨_, rfl, by decide, am_tb_of (List.mem_of_getElem? (i := 320) (by decide +kernel)) rfl⟩
theorem am_df_79 : am_fok (9, 84, 9, 12) := ⟨_, rfl, by decide, am_tb_of (List.mem_of_getElem? (i := 321) (by decide +kernel)) rfl⟩
theorem am_df_80 : am_fok (9, 88, 9, 13) := ⟨_, rfl, by decide, am_tb_of (List.mem_of_getElem? (i := 322) (by decide +kernel)) rfl⟩
theorem am_df_81 : am_fok (9, 92, 9, 14) := ⟨_, rfl, by decide, am_tb_of (List.mem_of_getElem? (i := 323) (by decide +kernel)) rfl⟩
theorem am_df_82 : am_fok (9, 96, 9, 15) := ⟨_, rfl, by decide, am_tb_of (List.mem_of_getElem? (i := 324) (by decide +kernel)) rfl⟩
theorem am_df_83 : am_fok (9, 99, 9, 16) := ⟨_, rfl, by decide, am_tb_of (List.mem_of_getElem? (i := 325) (by decide +kernel)) rfl⟩
theorem am_df_84 : am_fok (10, 7, 10, 0) := ⟨_, rfl, by decide, am_tb_of (List.mem_of_getElem? (i := 810) (by decide +kernel)) rfl⟩
theorem am_df_85 : am_fok (10, 13, 10, 1) := ⟨_, rfl, by decide, am_tb_of (List.mem_of_getElem? (i := 811) (by decide +kernel)) rfl⟩
theorem am_df_86 : am_fok (10, 16, 10, 2) := ⟨_, rfl, by decide, am_tb_of (List.mem_of_getElem? (i := 812) (by decide +kernel)) rfl⟩
theorem am_df_87 : am_fok (10, 19, 10, 3) := ⟨_, rfl, by decide, am_tb_of (List.mem_of_getElem? (i := 813) (by decide +kernel)) rfl⟩
theorem am_df_88 : am_fok (10, 80, 10, 4) := ⟨_, rfl, by decide, am_tb_of (List.mem_of_getElem? (i := 814) (by decide +kernel)) rfl⟩
theorem am_df_89 : am_fok (10, 22, 10, 5) := ⟨_, rfl, by decide, am_tb_of (List.mem_of_getElem? (i := 815) (by decide +kernel)) rfl⟩
theorem am_df_90 : am_fok (10, 107, 10, 6) := ⟨_, rfl, by decide, am_tb_of (List.mem_of_getElem? (i := 816) (by decide +kernel)) rfl⟩
theorem am_df_91 : am_fok (10, 110, 10, 7) := ⟨_, rfl, by decide, am_tb_of (List.mem_of_getElem? (i := 817) (by decide +kernel)) rfl⟩
theorem am_df_92 : am_fok (10, 113, 10, 8) := ⟨_, rfl, by decide, am_tb_of (List.mem_of_getElem? (i := 818) (by decide +kernel)) rfl⟩
theorem am_df_93 : am_fok (10, 25, 10, 9) := ⟨_, rfl, by decide, am_tb_of (List.mem_of_getElem? (i := 819) (by decide +kernel)) rfl⟩
theorem am_df_94 : am_fok (10, 28, 10, 10) := ⟨_, rfl, by decide, am_tb_of (List.mem_of_getElem? (i := 820) (by decide +kernel)) rfl⟩
theorem am_df_95 : am_fok (10, 31, 10, 11) := ⟨_, rfl, by decide, am_tb_of (List.mem_of_getElem? (i := 821) (by decide +kernel)) rfl⟩
def am_DF_l3 : List am_q4 := [(9, 42, 9, 5), (9, 46, 9, 6), (9, 54, 9, 7), (9, 58, 9, 8), (9, 64, 9, 9), (9, 71, 9, 10), (9, 78, 9, 11), (9, 84, 9, 12), (9, 88, 9, 13), (9, 92, 9, 14), (9, 96, 9, 15), (9, 99, 9, 16), (10, 7, 10, 0), (10, 13, 10, 1), (10, 16, 10, 2), (10, 19, 10, 3), (10, 80, 10, 4), (10, 22, 10, 5), (10, 107, 10, 6), (10, 110, 10, 7), (10, 113, 10, 8), (10, 25, 10, 9), (10, 28, 10, 10), (10, 31, 10, 11)]
theorem am_DF_r3 : ∀ q ∈ am_DF_l3, am_fok q := List.forall_mem_cons.mpr ⟨am_df_72, List.forall_mem_cons.mpr ⟨am_df_73, List.forall_mem_cons.mpr ⟨am_df_74, List.forall_mem_cons.mpr ⟨am_df_75, List.forall_mem_cons.mpr ⟨am_df_76, List.forall_mem_cons.mpr ⟨am_df_77, List.forall_mem_cons.mpr ⟨am_df_78, List.forall_mem_cons.mpr ⟨am_df_79, List.forall_mem_cons.mpr ⟨am_df_80, List.forall_mem_cons.mpr ⟨am_df_81, List.forall_mem_cons.mpr ⟨am_df_82, List.forall_mem_cons.mpr ⟨am_df_83, List.forall_mem_cons.mpr ⟨am_df_84, List.forall_mem_cons.mpr ⟨am_df_85, List.forall_mem_cons.mpr ⟨am_df_86, List.forall_mem_cons.mpr ⟨am_df_87, List.forall_mem_cons.mpr ⟨am_df_88, List.forall_mem_cons.mpr ⟨am_df_89, List.forall_mem_cons.mpr ⟨am_df_90, List.forall_mem_cons.mpr ⟨am_df_91, List.forall_mem_cons.mpr ⟨am_df_92, List.forall_mem_cons.mpr ⟨am_df_93, List.forall_mem_cons.mpr ⟨am_df_94, List.forall_mem_cons.mpr ⟨am_df_95, fun _ h => absurd h List.not_mem_nil⟩⟩⟩⟩⟩⟩⟩⟩⟩⟩⟩⟩⟩⟩⟩⟩⟩⟩⟩⟩⟩⟩⟩⟩
theorem am_df_96 : am_fok (10, 34, 10, 12) := ⟨_, rfl, by decide, am_tb_of (List.mem_of_getElem? (i := 822) (by decide +kernel)) rfl⟩
theorem am_df_97 : am_fok (10, 37, 10, 13) := ⟨_, rfl, by decide, am_tb_of (List.mem_of_getElem? (i := 823) (by decide +kernel)) rfl⟩
theorem am_df_98 : am_fok (10, 40, 10, 14) := ⟨_, rfl, by decide, am_tb_of (List.mem_of_getElem? (i := 824) (by decide +kernel)) rfl⟩
theorem am_df_99 : am_fok (10, 43, 10, 15) := ⟨_, rfl, by decide, am_tb_of (List.mem_of_getElem? (i := 825) (by decide +kernel)) rfl⟩
theorem am_df_100 : am_fok (10, 46, 10, 16) := ⟨_, rfl, by decide, am_tb_of (List.mem_of_getElem? (i := 826) (by decide +kernel)) rfl⟩
theorem am_df_101 : am_fok (10, 204, 10, 17) := ⟨_, rfl, by decide, am_tb_of (List.mem_of_getElem? (i := 827) (by decide +kernel)) rfl⟩
theorem am_df_102 : am_fok (10, 207, 10, 18) := ⟨_, rfl, by decide, am_tb_of (List.mem_of_getElem? (i := 828) (by decide +kernel)) rfl⟩
theorem am_df_103 : am_fok (10, 233, 10, 19) := ⟨_, rfl, by decide, am_tb_of (List.mem_of_getElem? (i := 829) (by decide +kernel)) rfl⟩
theorem am_df_104 : am_fok (10, 49, 10, 20) := ⟨_, rfl, by decide, am_tb_of (List.mem_of_getElem? (i := 830) (by decide +kernel)) rfl⟩
theorem am_df_105 : am_fok (10, 52, 10, 21) := ⟨_, rfl, by decide, am_tb_of (List.mem_of_getElem? (i := 831) (by decide +kernel)) rfl⟩
theorem am_df_106 : am_fok (10, 55, 10, 22) := ⟨_, rfl, by decide, am_tb_of (List.mem_of_getElem? (i := 832) (by decide +kernel)) rfl⟩
theorem am_df_107 : am_fok (10, 58, 10, 23) := ⟨_, rfl, by decide, am_tb_of (List.mem_of_getElem? (i := 833) (by decide +kernel)) rfl⟩
theorem am_df_108 : am_fok (10, 62, 10, 24) := ⟨_, rfl, by decide, am_tb_of (List.mem_of_getElem? (i := 834) (by decide +kernel)) rfl⟩
theorem am_df_109 : am_fok (10, 248, 10, 25) := ⟨_, rfl, by decide, am_tb_of (List.mem_of_getElem? (i := 835) (by decide +kernel)) rfl⟩
theorem am_df_110 : am_fok (10, 242, 10, 26) := ⟨_, rfl, by decide, am_tb_of (List.mem_of_getElem? (i := 836) (by decide +kernel)) rfl⟩
theorem am_df_111 : am_fok (10, 282, 10, 27) := ⟨_, rfl, by decide, am_tb_of (List.mem_of_getElem? (i := 837) (by decide +kernel)) rfl⟩
theorem am_df_112 : am_fok (10, 66, 10, 28) := ⟨_, rfl, by decide, am_tb_of (List.mem_of_getElem? (i := 838) (by decide +kernel)) rfl⟩
theorem am_df_113 : am_fok (10, 69, 10, 29) := ⟨_, rfl, by decide, am_tb_of (List.mem_of_getElem? (i := 839) (by decide +kernel)) rfl⟩
def am_DF_l4 : List am_q4 := [(10, 34, 10, 12), (10, 37, 10, 13), (10, 40, 10, 14), (10, 43, 10, 15), (10, 46, 10, 16), (10, 204, 10, 17), (10, 207, 10, 18), (10, 233, 10, 19), (10, 49, 10, 20), (10, 52, 10, 21), (10, 55, 10, 22), (10, 58, 10, 23), (10, 62, 10, 24), (10, 248, 10, 25), (10, 242, 10, 26), (10, 282, 10, 27), (10, 66, 10, 28), (10, 69, 10, 29)]
theorem am_DF_r4 : ∀ q ∈ am_DF_l4, am_fok q := List.forall_mem_cons.mpr ⟨am_df_96, List.forall_mem_cons.mpr ⟨am_df_97, List.forall_mem_cons.mpr ⟨am_df_98, List.forall_mem_cons.mpr ⟨am_df_99, List.forall_mem_cons.mpr ⟨am_df_100, List.forall_mem_cons.mpr ⟨am_df_101, List.forall_mem_cons.mpr ⟨am_df_102, List.forall_mem_cons.mpr ⟨am_df_103, List.forall_mem_cons.mpr ⟨am_df_104, List.forall_mem_cons.mpr ⟨am_df_105, List.forall_mem_cons.mpr ⟨am_df_106, List.forall_mem_cons.mpr ⟨am_df_107, List.forall_mem_cons.mpr ⟨am_df_108, List.forall_mem_cons.mpr ⟨am_df_109, List.forall_mem_cons.mpr ⟨am_df_110, List.forall_mem_cons.mpr ⟨am_df_111, List.forall_mem_cons.mpr ⟨am_df_112, List.forall_mem_cons.mpr ⟨am_df_113, fun _ h => absurd h List.not_mem_nil⟩⟩⟩⟩⟩⟩⟩⟩⟩⟩⟩⟩⟩⟩⟩⟩⟩⟩
def am_DF : List am_q4 := am_DF_l0 ++ (am_DF_l1 ++ (am_DF_l2 ++ (am_DF_l3 ++ (am_DF_l4))))
theorem am_DF_ok : ∀ q ∈ am_DF, am_fok q := List.forall_mem_append.mpr ⟨am_DF_r0, List.forall_mem_append.mpr ⟨am_DF_r1, List.forall_mem_append.mpr ⟨am_DF_r2, List.forall_mem_append.mpr ⟨am_DF_r3, am_DF_r4⟩⟩⟩⟩
