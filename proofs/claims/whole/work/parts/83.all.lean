/-! all of them -/
theorem am_below {P : Nat → Prop} {n : Nat} (h : ∀ k, k < n → P k) (q : P n) : ∀ k, k < n + 1 → P k := fun k hk => by
  rcases Nat.lt_or_ge k n with a | a
  · exact h k a
  · have e : k = n := by omega
    rw [e]; exact q
def lr_ok (j : Nat) : Prop := am_chr 13 false code (some .boolean) (16 * j) (T_L_law.getD j []) = true
theorem lr_b0 : ∀ k, k < 0 → lr_ok k := fun _ h => absurd h (Nat.not_lt_zero _)
theorem lr_b1 : ∀ k, k < 1 → lr_ok k := am_below lr_b0 lr_0
theorem lr_b2 : ∀ k, k < 2 → lr_ok k := am_below lr_b1 lr_1
theorem lr_b3 : ∀ k, k < 3 → lr_ok k := am_below lr_b2 lr_2
theorem lr_b4 : ∀ k, k < 4 → lr_ok k := am_below lr_b3 lr_3
theorem lr_b5 : ∀ k, k < 5 → lr_ok k := am_below lr_b4 lr_4
theorem lr_b6 : ∀ k, k < 6 → lr_ok k := am_below lr_b5 lr_5
theorem lr_b7 : ∀ k, k < 7 → lr_ok k := am_below lr_b6 lr_6
theorem lr_b8 : ∀ k, k < 8 → lr_ok k := am_below lr_b7 lr_7
theorem lr_b9 : ∀ k, k < 9 → lr_ok k := am_below lr_b8 lr_8
theorem lr_b10 : ∀ k, k < 10 → lr_ok k := am_below lr_b9 lr_9
theorem lr_b11 : ∀ k, k < 11 → lr_ok k := am_below lr_b10 lr_10
theorem lr_b12 : ∀ k, k < 12 → lr_ok k := am_below lr_b11 lr_11
theorem lr_b13 : ∀ k, k < 13 → lr_ok k := am_below lr_b12 lr_12
theorem lr_b14 : ∀ k, k < 14 → lr_ok k := am_below lr_b13 lr_13
theorem lr_b15 : ∀ k, k < 15 → lr_ok k := am_below lr_b14 lr_14
theorem lr_b16 : ∀ k, k < 16 → lr_ok k := am_below lr_b15 lr_15
theorem lr_b17 : ∀ k, k < 17 → lr_ok k := am_below lr_b16 lr_16
theorem lr_b18 : ∀ k, k < 18 → lr_ok k := am_below lr_b17 lr_17
theorem lr_b19 : ∀ k, k < 19 → lr_ok k := am_below lr_b18 lr_18
theorem lr_b20 : ∀ k, k < 20 → lr_ok k := am_below lr_b19 lr_19
theorem lr_b21 : ∀ k, k < 21 → lr_ok k := am_below lr_b20 lr_20
theorem lr_b22 : ∀ k, k < 22 → lr_ok k := am_below lr_b21 lr_21
theorem lr_b23 : ∀ k, k < 23 → lr_ok k := am_below lr_b22 lr_22
theorem lr_b24 : ∀ k, k < 24 → lr_ok k := am_below lr_b23 lr_23
theorem lr_b25 : ∀ k, k < 25 → lr_ok k := am_below lr_b24 lr_24
theorem lr_b26 : ∀ k, k < 26 → lr_ok k := am_below lr_b25 lr_25
theorem lr_b27 : ∀ k, k < 27 → lr_ok k := am_below lr_b26 lr_26
theorem lr_b28 : ∀ k, k < 28 → lr_ok k := am_below lr_b27 lr_27
theorem lr_b29 : ∀ k, k < 29 → lr_ok k := am_below lr_b28 lr_28
theorem lr_b30 : ∀ k, k < 30 → lr_ok k := am_below lr_b29 lr_29
theorem lr_b31 : ∀ k, k < 31 → lr_ok k := am_below lr_b30 lr_30
theorem lr_b32 : ∀ k, k < 32 → lr_ok k := am_below lr_b31 lr_31
theorem lr_b33 : ∀ k, k < 33 → lr_ok k := am_below lr_b32 lr_32
theorem lr_b34 : ∀ k, k < 34 → lr_ok k := am_below lr_b33 lr_33
theorem lr_b35 : ∀ k, k < 35 → lr_ok k := am_below lr_b34 lr_34
theorem lr_b36 : ∀ k, k < 36 → lr_ok k := am_below lr_b35 lr_35
theorem lr_b37 : ∀ k, k < 37 → lr_ok k := am_below lr_b36 lr_36
theorem lr_b38 : ∀ k, k < 38 → lr_ok k := am_below lr_b37 lr_37
theorem lr_b39 : ∀ k, k < 39 → lr_ok k := am_below lr_b38 lr_38
theorem lr_b40 : ∀ k, k < 40 → lr_ok k := am_below lr_b39 lr_39
theorem lr_b41 : ∀ k, k < 41 → lr_ok k := am_below lr_b40 lr_40
theorem lr_b42 : ∀ k, k < 42 → lr_ok k := am_below lr_b41 lr_41
theorem lr_b43 : ∀ k, k < 43 → lr_ok k := am_below lr_b42 lr_42
theorem lr_b44 : ∀ k, k < 44 → lr_ok k := am_below lr_b43 lr_43
theorem lr_b45 : ∀ k, k < 45 → lr_ok k := am_below lr_b44 lr_44
theorem lr_b46 : ∀ k, k < 46 → lr_ok k := am_below lr_b45 lr_45
theorem lr_b47 : ∀ k, k < 47 → lr_ok k := am_below lr_b46 lr_46
theorem lr_b48 : ∀ k, k < 48 → lr_ok k := am_below lr_b47 lr_47
theorem lr_b49 : ∀ k, k < 49 → lr_ok k := am_below lr_b48 lr_48
theorem lr_b50 : ∀ k, k < 50 → lr_ok k := am_below lr_b49 lr_49
theorem lr_b51 : ∀ k, k < 51 → lr_ok k := am_below lr_b50 lr_50
theorem lr_b52 : ∀ k, k < 52 → lr_ok k := am_below lr_b51 lr_51
theorem lr_b53 : ∀ k, k < 53 → lr_ok k := am_below lr_b52 lr_52
theorem lr_b54 : ∀ k, k < 54 → lr_ok k := am_below lr_b53 lr_53
theorem lr_b55 : ∀ k, k < 55 → lr_ok k := am_below lr_b54 lr_54
theorem lr_b56 : ∀ k, k < 56 → lr_ok k := am_below lr_b55 lr_55
theorem lr_b57 : ∀ k, k < 57 → lr_ok k := am_below lr_b56 lr_56
theorem lr_b58 : ∀ k, k < 58 → lr_ok k := am_below lr_b57 lr_57
theorem lr_b59 : ∀ k, k < 59 → lr_ok k := am_below lr_b58 lr_58
theorem lr_b60 : ∀ k, k < 60 → lr_ok k := am_below lr_b59 lr_59
theorem lr_b61 : ∀ k, k < 61 → lr_ok k := am_below lr_b60 lr_60
theorem lr_b62 : ∀ k, k < 62 → lr_ok k := am_below lr_b61 lr_61
theorem lr_b63 : ∀ k, k < 63 → lr_ok k := am_below lr_b62 lr_62
theorem lr_b64 : ∀ k, k < 64 → lr_ok k := am_below lr_b63 lr_63
theorem lr_b65 : ∀ k, k < 65 → lr_ok k := am_below lr_b64 lr_64
theorem lr_b66 : ∀ k, k < 66 → lr_ok k := am_below lr_b65 lr_65
theorem lr_b67 : ∀ k, k < 67 → lr_ok k := am_below lr_b66 lr_66
theorem lr_b68 : ∀ k, k < 68 → lr_ok k := am_below lr_b67 lr_67
theorem lr_b69 : ∀ k, k < 69 → lr_ok k := am_below lr_b68 lr_68
theorem lr_b70 : ∀ k, k < 70 → lr_ok k := am_below lr_b69 lr_69
theorem lr_b71 : ∀ k, k < 71 → lr_ok k := am_below lr_b70 lr_70
theorem lr_b72 : ∀ k, k < 72 → lr_ok k := am_below lr_b71 lr_71
theorem lr_b73 : ∀ k, k < 73 → lr_ok k := am_below lr_b72 lr_72
theorem lr_b74 : ∀ k, k < 74 → lr_ok k := am_below lr_b73 lr_73
theorem lr_b75 : ∀ k, k < 75 → lr_ok k := am_below lr_b74 lr_74
theorem am_law_ok (nm : String) : ∀ pc x, am_at T_L_law pc = some x → am_okI RL nm code (some .boolean) pc x := by
  intro pc x hx
  unfold am_at at hx
  split at hx
  · next r hr =>
    split at hx
    · next y hy =>
      subst hx
      have hj : pc / 16 < 75 := (List.getElem?_eq_some_iff.mp hr).1
      have h1 : lr_ok (pc / 16) := lr_b75 _ hj
      unfold lr_ok at h1
      rw [List.getD_eq_getElem?_getD, hr] at h1
      have := am_chr_at _ r (pc % 16) x h1 hy
      rw [show 16 * (pc / 16) + pc % 16 = pc by omega] at this
      exact am_chk_ok (o := 13) (nm := nm) (fun h => by cases h) this
    · cases hx
  · cases hx
theorem tk_L_law : am_tok 196 := ⟨am_law_ok _, by decide +kernel⟩
theorem am_b0 : ∀ k, k < 0 → am_tok k := fun _ h => absurd h (Nat.not_lt_zero _)
theorem am_b1 : ∀ k, k < 1 → am_tok k := am_below am_b0 tk_X0_init
theorem am_b2 : ∀ k, k < 2 → am_tok k := am_below am_b1 tk_X0_fill
theorem am_b3 : ∀ k, k < 3 → am_tok k := am_below am_b2 tk_X0_takeIn
theorem am_b4 : ∀ k, k < 4 → am_tok k := am_below am_b3 tk_X0_movesUp
theorem am_b5 : ∀ k, k < 5 → am_tok k := am_below am_b4 tk_X0_worth
theorem am_b6 : ∀ k, k < 6 → am_tok k := am_below am_b5 tk_X0_loveBeside
theorem am_b7 : ∀ k, k < 7 → am_tok k := am_below am_b6 tk_X0_swap
theorem am_b8 : ∀ k, k < 8 → am_tok k := am_below am_b7 tk_X0_pewsTaken
theorem am_b9 : ∀ k, k < 9 → am_tok k := am_below am_b8 tk_X1_init
theorem am_b10 : ∀ k, k < 10 → am_tok k := am_below am_b9 tk_X1_add
theorem am_b11 : ∀ k, k < 11 → am_tok k := am_below am_b10 tk_X2_init
theorem am_b12 : ∀ k, k < 12 → am_tok k := am_below am_b11 tk_X2_open
theorem am_b13 : ∀ k, k < 13 → am_tok k := am_below am_b12 tk_X2_choice
theorem am_b14 : ∀ k, k < 14 → am_tok k := am_below am_b13 tk_X2_note
theorem am_b15 : ∀ k, k < 15 → am_tok k := am_below am_b14 tk_X2_settle
theorem am_b16 : ∀ k, k < 16 → am_tok k := am_below am_b15 tk_X2_isStable
theorem am_b17 : ∀ k, k < 17 → am_tok k := am_below am_b16 tk_X2_wouldLeave
theorem am_b18 : ∀ k, k < 18 → am_tok k := am_below am_b17 tk_X3_init
theorem am_b19 : ∀ k, k < 19 → am_tok k := am_below am_b18 tk_X3_find
theorem am_b20 : ∀ k, k < 20 → am_tok k := am_below am_b19 tk_X3_heed
theorem am_b21 : ∀ k, k < 21 → am_tok k := am_below am_b20 tk_X3_mayCome
theorem am_b22 : ∀ k, k < 22 → am_tok k := am_below am_b21 tk_X3_countWaysTo
theorem am_b23 : ∀ k, k < 23 → am_tok k := am_below am_b22 tk_X3_countWaysOn
theorem am_b24 : ∀ k, k < 24 → am_tok k := am_below am_b23 tk_X3_howMany
theorem am_b25 : ∀ k, k < 25 → am_tok k := am_below am_b24 tk_X3_placesOf
theorem am_b26 : ∀ k, k < 26 → am_tok k := am_below am_b25 tk_X3_surePairs
theorem am_b27 : ∀ k, k < 27 → am_tok k := am_below am_b26 tk_X3_canBeFirst
theorem am_b28 : ∀ k, k < 28 → am_tok k := am_below am_b27 tk_X4_init
theorem am_b29 : ∀ k, k < 29 → am_tok k := am_below am_b28 tk_X4_append
theorem am_b30 : ∀ k, k < 30 → am_tok k := am_below am_b29 tk_X4_clear
theorem am_b31 : ∀ k, k < 31 → am_tok k := am_below am_b30 tk_X4_understand
theorem am_b32 : ∀ k, k < 32 → am_tok k := am_below am_b31 tk_X4_findFault
theorem am_b33 : ∀ k, k < 33 → am_tok k := am_below am_b32 tk_X4_fits
theorem am_b34 : ∀ k, k < 34 → am_tok k := am_below am_b33 tk_X4_figure
theorem am_b35 : ∀ k, k < 35 → am_tok k := am_below am_b34 tk_X5_init
theorem am_b36 : ∀ k, k < 36 → am_tok k := am_below am_b35 tk_X5_between
theorem am_b37 : ∀ k, k < 37 → am_tok k := am_below am_b36 tk_X5_turn
theorem am_b38 : ∀ k, k < 38 → am_tok k := am_below am_b37 tk_X6_init
theorem am_b39 : ∀ k, k < 39 → am_tok k := am_below am_b38 tk_X6_seatWorth
theorem am_b40 : ∀ k, k < 40 → am_tok k := am_below am_b39 tk_X6_wide
theorem am_b41 : ∀ k, k < 41 → am_tok k := am_below am_b40 tk_X6_seatsBeside
theorem am_b42 : ∀ k, k < 42 → am_tok k := am_below am_b41 tk_X7_init
theorem am_b43 : ∀ k, k < 43 → am_tok k := am_below am_b42 tk_X7_isLost
theorem am_b44 : ∀ k, k < 44 → am_tok k := am_below am_b43 tk_X7_renew
theorem am_b45 : ∀ k, k < 45 → am_tok k := am_below am_b44 tk_X7_findingAt
theorem am_b46 : ∀ k, k < 46 → am_tok k := am_below am_b45 tk_X7_holds
theorem am_b47 : ∀ k, k < 47 → am_tok k := am_below am_b46 tk_X7_put
theorem am_b48 : ∀ k, k < 48 → am_tok k := am_below am_b47 tk_X8_init
theorem am_b49 : ∀ k, k < 49 → am_tok k := am_below am_b48 tk_X8_add
theorem am_b50 : ∀ k, k < 50 → am_tok k := am_below am_b49 tk_X8_chanceAbove
theorem am_b51 : ∀ k, k < 51 → am_tok k := am_below am_b50 tk_X8_chanceBelow
theorem am_b52 : ∀ k, k < 52 → am_tok k := am_below am_b51 tk_X9_init
theorem am_b53 : ∀ k, k < 53 → am_tok k := am_below am_b52 tk_X9_type
theorem am_b54 : ∀ k, k < 54 → am_tok k := am_below am_b53 tk_X9_wipe
theorem am_b55 : ∀ k, k < 55 → am_tok k := am_below am_b54 tk_X9_fault
theorem am_b56 : ∀ k, k < 56 → am_tok k := am_below am_b55 tk_X9_person
theorem am_b57 : ∀ k, k < 57 → am_tok k := am_below am_b56 tk_X9_waits
theorem am_b58 : ∀ k, k < 58 → am_tok k := am_below am_b57 tk_X9_rain
theorem am_b59 : ∀ k, k < 59 → am_tok k := am_below am_b58 tk_X9_set
theorem am_b60 : ∀ k, k < 60 → am_tok k := am_below am_b59 tk_X9_love
theorem am_b61 : ∀ k, k < 61 → am_tok k := am_below am_b60 tk_X9_read
theorem am_b62 : ∀ k, k < 62 → am_tok k := am_below am_b61 tk_X9_seat
theorem am_b63 : ∀ k, k < 63 → am_tok k := am_below am_b62 tk_X9_who
theorem am_b64 : ∀ k, k < 64 → am_tok k := am_below am_b63 tk_X9_has
theorem am_b65 : ∀ k, k < 65 → am_tok k := am_below am_b64 tk_X9_best
theorem am_b66 : ∀ k, k < 66 → am_tok k := am_below am_b65 tk_X9_rest
theorem am_b67 : ∀ k, k < 67 → am_tok k := am_below am_b66 tk_X9_change
theorem am_b68 : ∀ k, k < 68 → am_tok k := am_below am_b67 tk_X9_changes
theorem am_b69 : ∀ k, k < 69 → am_tok k := am_below am_b68 tk_X9_churches
theorem am_b70 : ∀ k, k < 70 → am_tok k := am_below am_b69 tk_X9_sat
theorem am_b71 : ∀ k, k < 71 → am_tok k := am_below am_b70 tk_X9_front
theorem am_b72 : ∀ k, k < 72 → am_tok k := am_below am_b71 tk_X9_forget
theorem am_b73 : ∀ k, k < 73 → am_tok k := am_below am_b72 tk_X9_came
theorem am_b74 : ∀ k, k < 74 → am_tok k := am_below am_b73 tk_X9_sure
theorem am_b75 : ∀ k, k < 75 → am_tok k := am_below am_b74 tk_X9_fair
theorem am_b76 : ∀ k, k < 76 → am_tok k := am_below am_b75 tk_X9_lot
theorem am_b77 : ∀ k, k < 77 → am_tok k := am_below am_b76 tk_X9_sunday
theorem am_b78 : ∀ k, k < 78 → am_tok k := am_below am_b77 tk_X9_late
theorem am_b79 : ∀ k, k < 79 → am_tok k := am_below am_b78 tk_X9_allLate
theorem am_b80 : ∀ k, k < 80 → am_tok k := am_below am_b79 tk_X9_sheet
theorem am_b81 : ∀ k, k < 81 → am_tok k := am_below am_b80 tk_X9_lose
theorem am_b82 : ∀ k, k < 82 → am_tok k := am_below am_b81 tk_X9_lay
theorem am_b83 : ∀ k, k < 83 → am_tok k := am_below am_b82 tk_X9_get
theorem am_b84 : ∀ k, k < 84 → am_tok k := am_below am_b83 tk_X9_copy
theorem am_b85 : ∀ k, k < 85 → am_tok k := am_below am_b84 tk_X9_write
theorem am_b86 : ∀ k, k < 86 → am_tok k := am_below am_b85 tk_X9_count
theorem am_b87 : ∀ k, k < 87 → am_tok k := am_below am_b86 tk_X9_digest
theorem am_b88 : ∀ k, k < 88 → am_tok k := am_below am_b87 tk_X9_digestPerson
theorem am_b89 : ∀ k, k < 89 → am_tok k := am_below am_b88 tk_X9_within
theorem am_b90 : ∀ k, k < 90 → am_tok k := am_below am_b89 tk_X9_isNumber
theorem am_b91 : ∀ k, k < 91 → am_tok k := am_below am_b90 tk_X9_isSheet
theorem am_b92 : ∀ k, k < 92 → am_tok k := am_below am_b91 tk_X9_isForm
theorem am_b93 : ∀ k, k < 93 → am_tok k := am_below am_b92 tk_X9_isThere
theorem am_b94 : ∀ k, k < 94 → am_tok k := am_below am_b93 tk_X9_finding
theorem am_b95 : ∀ k, k < 95 → am_tok k := am_below am_b94 tk_X9_dropAnswers
theorem am_b96 : ∀ k, k < 96 → am_tok k := am_below am_b95 tk_X9_minuteInside
theorem am_b97 : ∀ k, k < 97 → am_tok k := am_below am_b96 tk_X9_gather
theorem am_b98 : ∀ k, k < 98 → am_tok k := am_below am_b97 tk_X9_seatAll
theorem am_b99 : ∀ k, k < 99 → am_tok k := am_below am_b98 tk_X9_everybody
theorem am_b100 : ∀ k, k < 100 → am_tok k := am_below am_b99 tk_X9_wouldChange
theorem am_b101 : ∀ k, k < 101 → am_tok k := am_below am_b100 tk_X9_findRest
theorem am_b102 : ∀ k, k < 102 → am_tok k := am_below am_b101 tk_X9_waitByRow
theorem am_b103 : ∀ k, k < 103 → am_tok k := am_below am_b102 tk_X9_findChoosing
theorem am_b104 : ∀ k, k < 104 → am_tok k := am_below am_b103 tk_X9_addFact
theorem am_b105 : ∀ k, k < 105 → am_tok k := am_below am_b104 tk_X9_findOrders
theorem am_b106 : ∀ k, k < 106 → am_tok k := am_below am_b105 tk_X9_freeSeat
theorem am_b107 : ∀ k, k < 107 → am_tok k := am_below am_b106 tk_X9_lowestTerms
theorem am_b108 : ∀ k, k < 108 → am_tok k := am_below am_b107 tk_X9_commonDivisor
theorem am_b109 : ∀ k, k < 109 → am_tok k := am_below am_b108 tk_X10_init
theorem am_b110 : ∀ k, k < 110 → am_tok k := am_below am_b109 tk_X10_in
theorem am_b111 : ∀ k, k < 111 → am_tok k := am_below am_b110 tk_X10_no
theorem am_b112 : ∀ k, k < 112 → am_tok k := am_below am_b111 tk_X10_isTwo
theorem am_b113 : ∀ k, k < 113 → am_tok k := am_below am_b112 tk_X10_isSeven
theorem am_b114 : ∀ k, k < 114 → am_tok k := am_below am_b113 tk_X10_isIn
theorem am_b115 : ∀ k, k < 115 → am_tok k := am_below am_b114 tk_X10_met
theorem am_b116 : ∀ k, k < 116 → am_tok k := am_below am_b115 tk_X10_isSheet
theorem am_b117 : ∀ k, k < 117 → am_tok k := am_below am_b116 tk_X10_sheet
theorem am_b118 : ∀ k, k < 118 → am_tok k := am_below am_b117 tk_X10_lose
theorem am_b119 : ∀ k, k < 119 → am_tok k := am_below am_b118 tk_X10_lacks
theorem am_b120 : ∀ k, k < 120 → am_tok k := am_below am_b119 tk_X10_cut
theorem am_b121 : ∀ k, k < 121 → am_tok k := am_below am_b120 tk_X10_lay
theorem am_b122 : ∀ k, k < 122 → am_tok k := am_below am_b121 tk_X10_get
theorem am_b123 : ∀ k, k < 123 → am_tok k := am_below am_b122 tk_X10_copy
theorem am_b124 : ∀ k, k < 124 → am_tok k := am_below am_b123 tk_X10_type
theorem am_b125 : ∀ k, k < 125 → am_tok k := am_below am_b124 tk_X10_wipe
theorem am_b126 : ∀ k, k < 126 → am_tok k := am_below am_b125 tk_X10_here
theorem am_b127 : ∀ k, k < 127 → am_tok k := am_below am_b126 tk_X10_nobody
theorem am_b128 : ∀ k, k < 128 → am_tok k := am_below am_b127 tk_X10_figure
theorem am_b129 : ∀ k, k < 129 → am_tok k := am_below am_b128 tk_X10_readsPart
theorem am_b130 : ∀ k, k < 130 → am_tok k := am_below am_b129 tk_X10_reads
theorem am_b131 : ∀ k, k < 131 → am_tok k := am_below am_b130 tk_X10_fault
theorem am_b132 : ∀ k, k < 132 → am_tok k := am_below am_b131 tk_X10_isPerson
theorem am_b133 : ∀ k, k < 133 → am_tok k := am_below am_b132 tk_X10_least
theorem am_b134 : ∀ k, k < 134 → am_tok k := am_below am_b133 tk_X10_goesIn
theorem am_b135 : ∀ k, k < 135 → am_tok k := am_below am_b134 tk_X10_wet
theorem am_b136 : ∀ k, k < 136 → am_tok k := am_below am_b135 tk_X10_personOf
theorem am_b137 : ∀ k, k < 137 → am_tok k := am_below am_b136 tk_X10_person
theorem am_b138 : ∀ k, k < 138 → am_tok k := am_below am_b137 tk_X10_waits
theorem am_b139 : ∀ k, k < 139 → am_tok k := am_below am_b138 tk_X10_rain
theorem am_b140 : ∀ k, k < 140 → am_tok k := am_below am_b139 tk_X10_lowOf
theorem am_b141 : ∀ k, k < 141 → am_tok k := am_below am_b140 tk_X10_highOf
theorem am_b142 : ∀ k, k < 142 → am_tok k := am_below am_b141 tk_X10_set
theorem am_b143 : ∀ k, k < 143 → am_tok k := am_below am_b142 tk_X10_love
theorem am_b144 : ∀ k, k < 144 → am_tok k := am_below am_b143 tk_X10_read
theorem am_b145 : ∀ k, k < 145 → am_tok k := am_below am_b144 tk_X10_isOutside
theorem am_b146 : ∀ k, k < 146 → am_tok k := am_below am_b145 tk_X10_findSeats
theorem am_b147 : ∀ k, k < 147 → am_tok k := am_below am_b146 tk_X10_whole
theorem am_b148 : ∀ k, k < 148 → am_tok k := am_below am_b147 tk_X10_findAll
theorem am_b149 : ∀ k, k < 149 → am_tok k := am_below am_b148 tk_X10_amount
theorem am_b150 : ∀ k, k < 150 → am_tok k := am_below am_b149 tk_X10_worth
theorem am_b151 : ∀ k, k < 151 → am_tok k := am_below am_b150 tk_X10_hasNow
theorem am_b152 : ∀ k, k < 152 → am_tok k := am_below am_b151 tk_X10_seat
theorem am_b153 : ∀ k, k < 153 → am_tok k := am_below am_b152 tk_X10_whoOf
theorem am_b154 : ∀ k, k < 154 → am_tok k := am_below am_b153 tk_X10_who
theorem am_b155 : ∀ k, k < 155 → am_tok k := am_below am_b154 tk_X10_hasOf
theorem am_b156 : ∀ k, k < 156 → am_tok k := am_below am_b155 tk_X10_has
theorem am_b157 : ∀ k, k < 157 → am_tok k := am_below am_b156 tk_X10_bestOf
theorem am_b158 : ∀ k, k < 158 → am_tok k := am_below am_b157 tk_X10_best
theorem am_b159 : ∀ k, k < 159 → am_tok k := am_below am_b158 tk_X10_rests
theorem am_b160 : ∀ k, k < 160 → am_tok k := am_below am_b159 tk_X10_findRest
theorem am_b161 : ∀ k, k < 161 → am_tok k := am_below am_b160 tk_X10_restOf
theorem am_b162 : ∀ k, k < 162 → am_tok k := am_below am_b161 tk_X10_rest
theorem am_b163 : ∀ k, k < 163 → am_tok k := am_below am_b162 tk_X10_wouldChange
theorem am_b164 : ∀ k, k < 164 → am_tok k := am_below am_b163 tk_X10_change
theorem am_b165 : ∀ k, k < 165 → am_tok k := am_below am_b164 tk_X10_changesNow
theorem am_b166 : ∀ k, k < 166 → am_tok k := am_below am_b165 tk_X10_changes
theorem am_b167 : ∀ k, k < 167 → am_tok k := am_below am_b166 tk_X10_hasIn
theorem am_b168 : ∀ k, k < 168 → am_tok k := am_below am_b167 tk_X10_churchesOf
theorem am_b169 : ∀ k, k < 169 → am_tok k := am_below am_b168 tk_X10_churches
theorem am_b170 : ∀ k, k < 170 → am_tok k := am_below am_b169 tk_X10_tells
theorem am_b171 : ∀ k, k < 171 → am_tok k := am_below am_b170 tk_X10_sat
theorem am_b172 : ∀ k, k < 172 → am_tok k := am_below am_b171 tk_X10_front
theorem am_b173 : ∀ k, k < 173 → am_tok k := am_below am_b172 tk_X10_forget
theorem am_b174 : ∀ k, k < 174 → am_tok k := am_below am_b173 tk_X10_goesOn
theorem am_b175 : ∀ k, k < 175 → am_tok k := am_below am_b174 tk_X10_swaps
theorem am_b176 : ∀ k, k < 176 → am_tok k := am_below am_b175 tk_X10_isSo
theorem am_b177 : ∀ k, k < 177 → am_tok k := am_below am_b176 tk_X10_looks
theorem am_b178 : ∀ k, k < 178 → am_tok k := am_below am_b177 tk_X10_findOrders
theorem am_b179 : ∀ k, k < 179 → am_tok k := am_below am_b178 tk_X10_cameOf
theorem am_b180 : ∀ k, k < 180 → am_tok k := am_below am_b179 tk_X10_came
theorem am_b181 : ∀ k, k < 181 → am_tok k := am_below am_b180 tk_X10_sureNow
theorem am_b182 : ∀ k, k < 182 → am_tok k := am_below am_b181 tk_X10_sure
theorem am_b183 : ∀ k, k < 183 → am_tok k := am_below am_b182 tk_X10_part
theorem am_b184 : ∀ k, k < 184 → am_tok k := am_below am_b183 tk_X10_fairOf
theorem am_b185 : ∀ k, k < 185 → am_tok k := am_below am_b184 tk_X10_fair
theorem am_b186 : ∀ k, k < 186 → am_tok k := am_below am_b185 tk_X10_lotOf
theorem am_b187 : ∀ k, k < 187 → am_tok k := am_below am_b186 tk_X10_lot
theorem am_b188 : ∀ k, k < 188 → am_tok k := am_below am_b187 tk_X10_sunday
theorem am_b189 : ∀ k, k < 189 → am_tok k := am_below am_b188 tk_X10_late
theorem am_b190 : ∀ k, k < 190 → am_tok k := am_below am_b189 tk_X10_allLateOf
theorem am_b191 : ∀ k, k < 191 → am_tok k := am_below am_b190 tk_X10_allLate
theorem am_b192 : ∀ k, k < 192 → am_tok k := am_below am_b191 tk_X10_write
theorem am_b193 : ∀ k, k < 193 → am_tok k := am_below am_b192 tk_X10_pews
theorem am_b194 : ∀ k, k < 194 → am_tok k := am_below am_b193 tk_X10_count
theorem am_b195 : ∀ k, k < 195 → am_tok k := am_below am_b194 tk_X10_digest
theorem am_b196 : ∀ k, k < 196 → am_tok k := am_below am_b195 tk_J6_bitCount_0f7a4
theorem am_b197 : ∀ k, k < 197 → am_tok k := am_below am_b196 tk_L_law
theorem am_tok_all : ∀ k, am_tok k := by
  intro k
  rcases Nat.lt_or_ge k 197 with h | h
  · exact am_b197 k h
  · have e : am_code k = [] := by
      unfold am_code
      rw [List.getD_eq_getElem?_getD, List.getElem?_eq_none (by show 197 ≤ k; exact h)]
      rfl
    have e2 : am_y k = yL_law := by
      unfold am_y
      rw [List.getD_eq_getElem?_getD, List.getElem?_eq_none (by show 197 ≤ k; exact h)]
      rfl
    refine ⟨fun pc x hx => ?_, by rw [e2]; decide +kernel⟩
    rw [e] at hx
    simp [am_at] at hx
