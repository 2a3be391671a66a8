/-! THE WORDS, EACH AT ITS PLACE (printed by a program) -/
theorem tT_0 {i : Nat} {w : Cond} (h : (k2_sels lw_privs)[i]? = some w) (_ : goodWord w = true) : w ∈ tT := List.mem_append_left _ (List.mem_of_getElem? h)
theorem tT_i {w : Cond} (h : w ∈ tables_1) (g : goodWord w = true) : w ∈ tT := List.mem_append_right _ (List.mem_filter.mpr ⟨h, g⟩)
theorem tT_1 {i : Nat} {w : Cond} (h : tables_1_1[i]? = some w) (g : goodWord w = true) : w ∈ tT := tT_i (List.mem_append_left _ (List.mem_of_getElem? h)) g
theorem tT_2 {i : Nat} {w : Cond} (h : tables_1_2[i]? = some w) (g : goodWord w = true) : w ∈ tT := tT_i (List.mem_append_right _ (List.mem_append_left _ (List.mem_of_getElem? h))) g
theorem tT_3 {i : Nat} {w : Cond} (h : tables_1_3[i]? = some w) (g : goodWord w = true) : w ∈ tT := tT_i (List.mem_append_right _ (List.mem_append_right _ (List.mem_append_left _ (List.mem_of_getElem? h)))) g
theorem tT_4 {i : Nat} {w : Cond} (h : tables_1_4[i]? = some w) (g : goodWord w = true) : w ∈ tT := tT_i (List.mem_append_right _ (List.mem_append_right _ (List.mem_append_right _ (List.mem_append_left _ (List.mem_of_getElem? h))))) g
theorem tT_5 {i : Nat} {w : Cond} (h : tables_1_5[i]? = some w) (g : goodWord w = true) : w ∈ tT := tT_i (List.mem_append_right _ (List.mem_append_right _ (List.mem_append_right _ (List.mem_append_right _ (List.mem_append_left _ (List.mem_of_getElem? h)))))) g
theorem tT_6 {i : Nat} {w : Cond} (h : tables_1_6[i]? = some w) (g : goodWord w = true) : w ∈ tT := tT_i (List.mem_append_right _ (List.mem_append_right _ (List.mem_append_right _ (List.mem_append_right _ (List.mem_append_right _ (List.mem_of_getElem? h)))))) g
theorem kF_RJ0_9 : Cond.fieldLink RJ0 9 RJ0 "value" "[B" ∈ tT := tT_6 (i := 3) (by decide +kernel) rfl
theorem kM_RJ0_335 : Cond.methodLink RJ0 335 yJ0_coder_7d493 ∈ tT := tT_2 (i := 86) (by decide +kernel) rfl
theorem kM_RJ0_492 : Cond.methodLink RJ0 492 yJ0_isLatin1_aae02 ∈ tT := tT_2 (i := 96) (by decide +kernel) rfl
theorem kM_RJ0_495 : Cond.methodLink RJ0 495 yJ1_charAt_3b067 ∈ tT := tT_2 (i := 100) (by decide +kernel) rfl
theorem kM_RJ0_633 : Cond.methodLink RJ0 633 yJ0_indexOf_7cf53 ∈ tT := tT_2 (i := 142) (by decide +kernel) rfl
theorem kM_RJ0_505 : Cond.methodLink RJ0 505 yJ0_length_8abf5 ∈ tT := tT_2 (i := 146) (by decide +kernel) rfl
theorem kM_RJ0_637 : Cond.methodLink RJ0 637 yJ1_indexOf_4cfef ∈ tT := tT_2 (i := 147) (by decide +kernel) rfl
theorem kF_RJ0_38 : Cond.fieldLink RJ0 38 RJ0 "COMPACT_STRINGS" "Z" ∈ tT := tT_2 (i := 90) (by decide +kernel) rfl
theorem kF_RJ0_15 : Cond.fieldLink RJ0 15 RJ0 "coder" "B" ∈ tT := tT_6 (i := 4) (by decide +kernel) rfl
theorem kF_RJ0_1053 : Cond.fieldLink RJ0 1053 "jdk/internal/util/Preconditions" "SIOOBE_FORMATTER" "Ljava/util/function/BiFunction;" ∈ tT := tT_2 (i := 106) (by decide +kernel) rfl
theorem kM_RJ0_1059 : Cond.methodLink RJ0 1059 yJ3_checkIndex_8e157 ∈ tT := tT_2 (i := 108) (by decide +kernel) rfl
theorem kM_RJ1_9 : Cond.methodLink RJ1 9 yJ0_checkIndex_df160 ∈ tT := tT_2 (i := 103) (by decide +kernel) rfl
theorem kM_RJ1_88 : Cond.methodLink RJ1 88 yJ1_canEncode_9a6ad ∈ tT := tT_2 (i := 150) (by decide +kernel) rfl
theorem kM_RJ1_92 : Cond.methodLink RJ1 92 yJ9_max_7cf53 ∈ tT := tT_2 (i := 153) (by decide +kernel) rfl
theorem kM_RJ1_38 : Cond.methodLink RJ1 38 yJ9_min_7cf53 ∈ tT := tT_2 (i := 156) (by decide +kernel) rfl
theorem kM_RJ1_95 : Cond.methodLink RJ1 95 yJ1_indexOfChar_4cfef ∈ tT := tT_2 (i := 159) (by decide +kernel) rfl
theorem kF_RX0_9 : Cond.fieldLink RX0 9 (TX0 0).1 (TX0 0).2.1 (TX0 0).2.2.1 ∈ tT := tT_1 (i := 70) (by decide +kernel) rfl
theorem kM_RX0_15 : Cond.methodLink RX0 15 yJ9_min_7cf53 ∈ tT := tT_3 (i := 145) (by decide +kernel) rfl
theorem kM_RX0_21 : Cond.methodLink RX0 21 yJ9_max_7cf53 ∈ tT := tT_3 (i := 146) (by decide +kernel) rfl
theorem kF_RX0_24 : Cond.fieldLink RX0 24 (TX0 1).1 (TX0 1).2.1 (TX0 1).2.2.1 ∈ tT := tT_1 (i := 71) (by decide +kernel) rfl
theorem kM_RX0_28 : Cond.methodLink RX0 28 yX0_at ∈ tT := tT_3 (i := 159) (by decide +kernel) rfl
theorem kM_RX0_32 : Cond.methodLink RX0 32 yX0_exchange ∈ tT := tT_3 (i := 164) (by decide +kernel) rfl
theorem kF_RX1_18 : Cond.fieldLink RX1 18 (TX1 2).1 (TX1 2).2.1 (TX1 2).2.2.1 ∈ tT := tT_1 (i := 85) (by decide +kernel) rfl
theorem kF_RX1_9 : Cond.fieldLink RX1 9 (TX1 0).1 (TX1 0).2.1 (TX1 0).2.2.1 ∈ tT := tT_1 (i := 83) (by decide +kernel) rfl
theorem kM_RX1_22 : Cond.methodLink RX1 22 yX1_isFull ∈ tT := tT_2 (i := 45) (by decide +kernel) rfl
theorem kF_RX1_26 : Cond.fieldLink RX1 26 (TX1 3).1 (TX1 3).2.1 (TX1 3).2.2.1 ∈ tT := tT_1 (i := 86) (by decide +kernel) rfl
theorem kM_RX1_29 : Cond.methodLink RX1 29 yX5_clear ∈ tT := tT_2 (i := 54) (by decide +kernel) rfl
theorem kM_RX1_34 : Cond.methodLink RX1 34 yX1_readPart ∈ tT := tT_2 (i := 58) (by decide +kernel) rfl
theorem kM_RX1_38 : Cond.methodLink RX1 38 yX1_nextToken ∈ tT := tT_2 (i := 62) (by decide +kernel) rfl
theorem kF_RX1_41 : Cond.fieldLink RX1 41 (TX1 4).1 (TX1 4).2.1 (TX1 4).2.2.1 ∈ tT := tT_1 (i := 87) (by decide +kernel) rfl
theorem kF_RX1_44 : Cond.fieldLink RX1 44 (TX1 5).1 (TX1 5).2.1 (TX1 5).2.2.1 ∈ tT := tT_1 (i := 88) (by decide +kernel) rfl
theorem kF_RX1_47 : Cond.fieldLink RX1 47 (TX1 7).1 (TX1 7).2.1 (TX1 7).2.2.1 ∈ tT := tT_1 (i := 90) (by decide +kernel) rfl
theorem kF_RX1_50 : Cond.fieldLink RX1 50 (TX1 8).1 (TX1 8).2.1 (TX1 8).2.2.1 ∈ tT := tT_1 (i := 91) (by decide +kernel) rfl
theorem kF_RX1_53 : Cond.fieldLink RX1 53 (TX1 9).1 (TX1 9).2.1 (TX1 9).2.2.1 ∈ tT := tT_1 (i := 92) (by decide +kernel) rfl
theorem kM_RX1_57 : Cond.methodLink RX1 57 yX1_workOff ∈ tT := tT_2 (i := 197) (by decide +kernel) rfl
theorem kM_RX1_61 : Cond.methodLink RX1 61 yX5_endPart ∈ tT := tT_2 (i := 206) (by decide +kernel) rfl
theorem kM_RX1_65 : Cond.methodLink RX1 65 yX1_begins ∈ tT := tT_2 (i := 207) (by decide +kernel) rfl
theorem kM_RX1_69 : Cond.methodLink RX1 69 yX1_goesOn ∈ tT := tT_2 (i := 219) (by decide +kernel) rfl
theorem kF_RX1_72 : Cond.fieldLink RX1 72 (TX1 6).1 (TX1 6).2.1 (TX1 6).2.2.1 ∈ tT := tT_1 (i := 89) (by decide +kernel) rfl
theorem kM_RX1_75 : Cond.methodLink RX1 75 yX5_add ∈ tT := tT_2 (i := 205) (by decide +kernel) rfl
theorem kM_RX1_78 : Cond.methodLink RX1 78 yX1_openingAtHand ∈ tT := tT_2 (i := 211) (by decide +kernel) rfl
theorem kM_RX1_82 : Cond.methodLink RX1 82 yX1_await ∈ tT := tT_2 (i := 215) (by decide +kernel) rfl
theorem kM_RX1_85 : Cond.methodLink RX1 85 yX1_closes ∈ tT := tT_2 (i := 223) (by decide +kernel) rfl
theorem kM_RX1_88 : Cond.methodLink RX1 88 yX1_operationAtHand ∈ tT := tT_2 (i := 227) (by decide +kernel) rfl
theorem kM_RX1_91 : Cond.methodLink RX1 91 yX1_top ∈ tT := tT_2 (i := 201) (by decide +kernel) rfl
theorem kF_RX1_15 : Cond.fieldLink RX1 15 (TX1 1).1 (TX1 1).2.1 (TX1 1).2.2.1 ∈ tT := tT_1 (i := 84) (by decide +kernel) rfl
theorem kM_RX1_94 : Cond.methodLink RX1 94 yX1_byteAt ∈ tT := tT_2 (i := 66) (by decide +kernel) rfl
theorem kM_RX1_98 : Cond.methodLink RX1 98 yX1_isLetter ∈ tT := tT_2 (i := 70) (by decide +kernel) rfl
theorem kM_RX1_102 : Cond.methodLink RX1 102 yX1_readWord ∈ tT := tT_2 (i := 73) (by decide +kernel) rfl
theorem kM_RX1_105 : Cond.methodLink RX1 105 yX1_isDigit ∈ tT := tT_2 (i := 130) (by decide +kernel) rfl
theorem kM_RX1_108 : Cond.methodLink RX1 108 yX1_readNumber ∈ tT := tT_2 (i := 133) (by decide +kernel) rfl
theorem kM_RX1_113 : Cond.methodLink RX1 113 yJ0_indexOf_0f7a4 ∈ tT := tT_2 (i := 138) (by decide +kernel) rfl
theorem kM_RX1_118 : Cond.methodLink RX1 118 yX1_isWord ∈ tT := tT_2 (i := 77) (by decide +kernel) rfl
theorem kM_RX1_123 : Cond.methodLink RX1 123 yJ0_length_8abf5 ∈ tT := tT_2 (i := 82) (by decide +kernel) rfl
theorem kM_RX1_126 : Cond.methodLink RX1 126 yJ0_charAt_5068e ∈ tT := tT_2 (i := 92) (by decide +kernel) rfl
theorem kF_RX2_15 : Cond.fieldLink RX2 15 (TX2 1).1 (TX2 1).2.1 (TX2 1).2.2.1 ∈ tT := tT_1 (i := 32) (by decide +kernel) rfl
theorem kF_RX2_9 : Cond.fieldLink RX2 9 (TX2 0).1 (TX2 0).2.1 (TX2 0).2.2.1 ∈ tT := tT_1 (i := 31) (by decide +kernel) rfl
theorem kM_RX2_19 : Cond.methodLink RX2 19 yX2_at ∈ tT := tT_2 (i := 10) (by decide +kernel) rfl
theorem kM_RX2_23 : Cond.methodLink RX2 23 yX2_has ∈ tT := tT_1 (i := 216) (by decide +kernel) rfl
theorem kM_RX2_27 : Cond.methodLink RX2 27 yX2_isFull ∈ tT := tT_1 (i := 211) (by decide +kernel) rfl
theorem kM_RX2_31 : Cond.methodLink RX2 31 yX2_put ∈ tT := tT_1 (i := 212) (by decide +kernel) rfl
theorem kM_RX2_35 : Cond.methodLink RX2 35 arraycopyName ∈ tT := tT_3 (i := 126) (by decide +kernel) rfl
theorem kN_arraycopy : Cond.native arraycopyName ∈ tT := tT_3 (i := 128) (by decide +kernel) rfl
theorem kT_arraycopy : Cond.static arraycopyName ∈ tT := tT_3 (i := 127) (by decide +kernel) rfl
theorem kI_System : Cond.initialized "java/lang/System" ∈ tT := tT_1 (i := 15) (by decide +kernel) rfl
theorem kM_RX2_41 : Cond.methodLink RX2 41 yX2_kindAt ∈ tT := tT_2 (i := 27) (by decide +kernel) rfl
theorem kM_RX2_44 : Cond.methodLink RX2 44 yX2_numberAt ∈ tT := tT_2 (i := 32) (by decide +kernel) rfl
theorem kF_RX3_23 : Cond.fieldLink RX3 23 (TX3 3).1 (TX3 3).2.1 (TX3 3).2.2.1 ∈ tT := tT_1 (i := 48) (by decide +kernel) rfl
theorem kF_RX3_27 : Cond.fieldLink RX3 27 (TX3 4).1 (TX3 4).2.1 (TX3 4).2.2.1 ∈ tT := tT_1 (i := 49) (by decide +kernel) rfl
theorem kF_RX3_30 : Cond.fieldLink RX3 30 (TX3 5).1 (TX3 5).2.1 (TX3 5).2.2.1 ∈ tT := tT_1 (i := 50) (by decide +kernel) rfl
theorem kF_RX3_9 : Cond.fieldLink RX3 9 (TX3 0).1 (TX3 0).2.1 (TX3 0).2.2.1 ∈ tT := tT_1 (i := 45) (by decide +kernel) rfl
theorem kM_RX3_33 : Cond.methodLink RX3 33 yX3_turnedAt ∈ tT := tT_3 (i := 20) (by decide +kernel) rfl
theorem kM_RX3_37 : Cond.methodLink RX3 37 yX2_size ∈ tT := tT_3 (i := 9) (by decide +kernel) rfl
theorem kM_RX3_43 : Cond.methodLink RX3 43 yX2_has ∈ tT := tT_3 (i := 10) (by decide +kernel) rfl
theorem kM_RX3_47 : Cond.methodLink RX3 47 yX3_turn ∈ tT := tT_3 (i := 11) (by decide +kernel) rfl
theorem kM_RX3_51 : Cond.methodLink RX3 51 yX2_blocks ∈ tT := tT_3 (i := 15) (by decide +kernel) rfl
theorem kM_RX3_54 : Cond.methodLink RX3 54 yX3_nameStep ∈ tT := tT_3 (i := 16) (by decide +kernel) rfl
theorem kM_RX3_58 : Cond.methodLink RX3 58 yX3_before ∈ tT := tT_3 (i := 28) (by decide +kernel) rfl
theorem kM_RX3_61 : Cond.methodLink RX3 61 yX2_points ∈ tT := tT_3 (i := 33) (by decide +kernel) rfl
theorem kM_RX3_65 : Cond.methodLink RX3 65 yX3_further ∈ tT := tT_3 (i := 34) (by decide +kernel) rfl
theorem kM_RX3_69 : Cond.methodLink RX3 69 yJ9_floorMod_7cf53 ∈ tT := tT_3 (i := 63) (by decide +kernel) rfl
theorem kM_RX3_74 : Cond.methodLink RX3 74 yX3_nextPlace ∈ tT := tT_3 (i := 66) (by decide +kernel) rfl
theorem kF_RX3_17 : Cond.fieldLink RX3 17 (TX3 1).1 (TX3 1).2.1 (TX3 1).2.2.1 ∈ tT := tT_1 (i := 46) (by decide +kernel) rfl
theorem kF_RX3_20 : Cond.fieldLink RX3 20 (TX3 2).1 (TX3 2).2.1 (TX3 2).2.2.1 ∈ tT := tT_1 (i := 47) (by decide +kernel) rfl
theorem kM_RX3_78 : Cond.methodLink RX3 78 yX5_tell ∈ tT := tT_3 (i := 38) (by decide +kernel) rfl
theorem kM_RX3_82 : Cond.methodLink RX3 82 yX3_within ∈ tT := tT_3 (i := 58) (by decide +kernel) rfl
theorem kM_RX3_86 : Cond.methodLink RX3 86 yX2_pays ∈ tT := tT_3 (i := 86) (by decide +kernel) rfl
theorem kM_RX3_89 : Cond.methodLink RX3 89 yX3_isTurned ∈ tT := tT_3 (i := 70) (by decide +kernel) rfl
theorem kM_RX3_92 : Cond.methodLink RX3 92 yX3_name ∈ tT := tT_3 (i := 24) (by decide +kernel) rfl
theorem kM_RX3_96 : Cond.methodLink RX3 96 yX2_numberAt ∈ tT := tT_3 (i := 32) (by decide +kernel) rfl
theorem kM_RX3_99 : Cond.methodLink RX3 99 yJ9_min_7cf53 ∈ tT := tT_3 (i := 61) (by decide +kernel) rfl
theorem kM_RX3_102 : Cond.methodLink RX3 102 yJ9_max_7cf53 ∈ tT := tT_3 (i := 62) (by decide +kernel) rfl
theorem kF_RX4_15 : Cond.fieldLink RX4 15 (TX4 1).1 (TX4 1).2.1 (TX4 1).2.2.1 ∈ tT := tT_1 (i := 147) (by decide +kernel) rfl
theorem kF_RX4_19 : Cond.fieldLink RX4 19 (TX4 2).1 (TX4 2).2.1 (TX4 2).2.2.1 ∈ tT := tT_1 (i := 148) (by decide +kernel) rfl
theorem kF_RX4_9 : Cond.fieldLink RX4 9 (TX4 0).1 (TX4 0).2.1 (TX4 0).2.2.1 ∈ tT := tT_1 (i := 146) (by decide +kernel) rfl
theorem kM_RX4_22 : Cond.methodLink RX4 22 yJ9_min_7cf53 ∈ tT := tT_3 (i := 228) (by decide +kernel) rfl
theorem kM_RX4_28 : Cond.methodLink RX4 28 yJ9_max_7cf53 ∈ tT := tT_3 (i := 229) (by decide +kernel) rfl
theorem kM_RX4_31 : Cond.methodLink RX4 31 yJ7_fill_53178 ∈ tT := tT_3 (i := 230) (by decide +kernel) rfl
theorem kM_RX4_37 : Cond.methodLink RX4 37 yX4_has ∈ tT := tT_3 (i := 196) (by decide +kernel) rfl
theorem kM_RX4_41 : Cond.methodLink RX4 41 yX4_hasRow ∈ tT := tT_4 (i := 58) (by decide +kernel) rfl
theorem kM_RX4_45 : Cond.methodLink RX4 45 arraycopyName ∈ tT := tT_4 (i := 59) (by decide +kernel) rfl
theorem kF_RX5_25 : Cond.fieldLink RX5 25 (TX5 2).1 (TX5 2).2.1 (TX5 2).2.2.1 ∈ tT := tT_1 (i := 133) (by decide +kernel) rfl
theorem kF_RX5_9 : Cond.fieldLink RX5 9 (TX5 0).1 (TX5 0).2.1 (TX5 0).2.2.1 ∈ tT := tT_1 (i := 131) (by decide +kernel) rfl
theorem kF_RX5_15 : Cond.fieldLink RX5 15 (TX5 1).1 (TX5 1).2.1 (TX5 1).2.2.1 ∈ tT := tT_1 (i := 132) (by decide +kernel) rfl
theorem kM_RX5_29 : Cond.methodLink RX5 29 yX5_endOf ∈ tT := tT_3 (i := 42) (by decide +kernel) rfl
theorem kM_RX5_33 : Cond.methodLink RX5 33 yX5_operand ∈ tT := tT_3 (i := 46) (by decide +kernel) rfl
theorem kM_RX5_37 : Cond.methodLink RX5 37 yX5_single ∈ tT := tT_3 (i := 49) (by decide +kernel) rfl
theorem kM_RX5_41 : Cond.methodLink RX5 41 yX5_both ∈ tT := tT_3 (i := 55) (by decide +kernel) rfl
theorem kM_RX5_45 : Cond.methodLink RX5 45 yX5_bit ∈ tT := tT_3 (i := 52) (by decide +kernel) rfl
theorem kM_RX6_61 : Cond.methodLink RX6 61 yX6_isCard ∈ tT := tT_1 (i := 197) (by decide +kernel) rfl
theorem kF_RX6_10 : Cond.fieldLink RX6 10 (TX6 0).1 (TX6 0).2.1 (TX6 0).2.2.1 ∈ tT := tT_1 (i := 156) (by decide +kernel) rfl
theorem kM_RX6_65 : Cond.methodLink RX6 65 yX2_isFull ∈ tT := tT_1 (i := 200) (by decide +kernel) rfl
theorem kM_RX6_69 : Cond.methodLink RX6 69 yX6_cardOf ∈ tT := tT_1 (i := 204) (by decide +kernel) rfl
theorem kM_RX6_73 : Cond.methodLink RX6 73 yX2_add ∈ tT := tT_1 (i := 207) (by decide +kernel) rfl
theorem kM_RX6_77 : Cond.methodLink RX6 77 yX2_has ∈ tT := tT_1 (i := 224) (by decide +kernel) rfl
theorem kM_RX6_81 : Cond.methodLink RX6 81 yX2_at ∈ tT := tT_1 (i := 225) (by decide +kernel) rfl
theorem kM_RX6_84 : Cond.methodLink RX6 84 yX2_put ∈ tT := tT_1 (i := 229) (by decide +kernel) rfl
theorem kM_RX6_88 : Cond.methodLink RX6 88 yX2_size ∈ tT := tT_1 (i := 234) (by decide +kernel) rfl
theorem kM_RX6_92 : Cond.methodLink RX6 92 yX2_dropLast ∈ tT := tT_1 (i := 238) (by decide +kernel) rfl
theorem kM_RX6_95 : Cond.methodLink RX6 95 yX2_exchange ∈ tT := tT_2 (i := 6) (by decide +kernel) rfl
theorem kM_RX6_98 : Cond.methodLink RX6 98 yX2_kindAt ∈ tT := tT_2 (i := 15) (by decide +kernel) rfl
theorem kM_RX6_101 : Cond.methodLink RX6 101 yX2_numberAt ∈ tT := tT_2 (i := 19) (by decide +kernel) rfl
theorem kM_RX6_104 : Cond.methodLink RX6 104 yX2_blocks ∈ tT := tT_2 (i := 23) (by decide +kernel) rfl
theorem kM_RX6_107 : Cond.methodLink RX6 107 yX2_points ∈ tT := tT_2 (i := 28) (by decide +kernel) rfl
theorem kF_RX6_39 : Cond.fieldLink RX6 39 (TX6 5).1 (TX6 5).2.1 (TX6 5).2.2.1 ∈ tT := tT_1 (i := 161) (by decide +kernel) rfl
theorem kM_RX6_110 : Cond.methodLink RX6 110 yX1_isFull ∈ tT := tT_2 (i := 37) (by decide +kernel) rfl
theorem kM_RX6_111 : Cond.methodLink RX6 111 yX1_add ∈ tT := tT_2 (i := 41) (by decide +kernel) rfl
theorem kF_RX6_55 : Cond.fieldLink RX6 55 (TX6 8).1 (TX6 8).2.1 (TX6 8).2.2.1 ∈ tT := tT_1 (i := 164) (by decide +kernel) rfl
theorem kF_RX6_45 : Cond.fieldLink RX6 45 (TX6 6).1 (TX6 6).2.1 (TX6 6).2.2.1 ∈ tT := tT_1 (i := 162) (by decide +kernel) rfl
theorem kM_RX6_112 : Cond.methodLink RX6 112 yX1_read ∈ tT := tT_2 (i := 50) (by decide +kernel) rfl
theorem kM_RX6_116 : Cond.methodLink RX6 116 yX6_textAt ∈ tT := tT_2 (i := 236) (by decide +kernel) rfl
theorem kF_RX6_120 : Cond.fieldLink RX6 120 (TX6 9).1 (TX6 9).2.1 (TX6 9).2.2.1 ∈ tT := tT_1 (i := 165) (by decide +kernel) rfl
theorem kK_RX6_123 : Cond.constant RX6 123 (-100000) ∈ tT := tT_3 (i := 4) (by decide +kernel) rfl
theorem kF_RX6_25 : Cond.fieldLink RX6 25 (TX6 3).1 (TX6 3).2.1 (TX6 3).2.2.1 ∈ tT := tT_1 (i := 159) (by decide +kernel) rfl
theorem kM_RX6_124 : Cond.methodLink RX6 124 yX3_play ∈ tT := tT_3 (i := 5) (by decide +kernel) rfl
theorem kM_RX6_128 : Cond.methodLink RX6 128 yX3_end ∈ tT := tT_3 (i := 74) (by decide +kernel) rfl
theorem kM_RX6_131 : Cond.methodLink RX6 131 yX3_length ∈ tT := tT_3 (i := 78) (by decide +kernel) rfl
theorem kM_RX6_134 : Cond.methodLink RX6 134 yX3_worth ∈ tT := tT_3 (i := 82) (by decide +kernel) rfl
theorem kM_RX6_138 : Cond.methodLink RX6 138 yX3_last ∈ tT := tT_3 (i := 90) (by decide +kernel) rfl
theorem kM_RX6_141 : Cond.methodLink RX6 141 yX3_bits ∈ tT := tT_3 (i := 94) (by decide +kernel) rfl
theorem kM_RX6_144 : Cond.methodLink RX6 144 yX3_turnedAt ∈ tT := tT_3 (i := 98) (by decide +kernel) rfl
theorem kM_RX6_147 : Cond.methodLink RX6 147 yX6_isHarvest ∈ tT := tT_3 (i := 103) (by decide +kernel) rfl
theorem kM_RX6_151 : Cond.methodLink RX6 151 yX6_isFirstOrSecond ∈ tT := tT_3 (i := 111) (by decide +kernel) rfl
theorem kM_RX6_154 : Cond.methodLink RX6 154 yX6_lengthOf ∈ tT := tT_3 (i := 114) (by decide +kernel) rfl
theorem kF_RX6_16 : Cond.fieldLink RX6 16 (TX6 1).1 (TX6 1).2.1 (TX6 1).2.2.1 ∈ tT := tT_1 (i := 157) (by decide +kernel) rfl
theorem kM_RX6_158 : Cond.methodLink RX6 158 yX2_become ∈ tT := tT_3 (i := 122) (by decide +kernel) rfl
theorem kF_RX6_32 : Cond.fieldLink RX6 32 (TX6 4).1 (TX6 4).2.1 (TX6 4).2.2.1 ∈ tT := tT_1 (i := 160) (by decide +kernel) rfl
theorem kM_RX6_162 : Cond.methodLink RX6 162 yX0_begin ∈ tT := tT_3 (i := 141) (by decide +kernel) rfl
theorem kM_RX6_166 : Cond.methodLink RX6 166 yX6_layInOrder ∈ tT := tT_3 (i := 147) (by decide +kernel) rfl
theorem kM_RX6_169 : Cond.methodLink RX6 169 yX0_digits ∈ tT := tT_3 (i := 155) (by decide +kernel) rfl
theorem kM_RX6_172 : Cond.methodLink RX6 172 yX0_goOn ∈ tT := tT_3 (i := 160) (by decide +kernel) rfl
theorem kM_RX6_175 : Cond.methodLink RX6 175 yX6_sheetAt ∈ tT := tT_3 (i := 172) (by decide +kernel) rfl
theorem kM_RX6_179 : Cond.methodLink RX6 179 yX6_asksOfTold ∈ tT := tT_3 (i := 176) (by decide +kernel) rfl
theorem kM_RX6_182 : Cond.methodLink RX6 182 yX4_isMissing ∈ tT := tT_3 (i := 180) (by decide +kernel) rfl
theorem kM_RX6_185 : Cond.methodLink RX6 185 yX6_tellsPlaces ∈ tT := tT_3 (i := 184) (by decide +kernel) rfl
theorem kM_RX6_189 : Cond.methodLink RX6 189 yX6_otherwise ∈ tT := tT_3 (i := 200) (by decide +kernel) rfl
theorem kM_RX6_193 : Cond.methodLink RX6 193 yX6_startsOf ∈ tT := tT_3 (i := 204) (by decide +kernel) rfl
theorem kM_RX6_197 : Cond.methodLink RX6 197 yX6_textsOf ∈ tT := tT_3 (i := 208) (by decide +kernel) rfl
theorem kM_RX6_200 : Cond.methodLink RX6 200 yX6_kindsOf ∈ tT := tT_3 (i := 212) (by decide +kernel) rfl
theorem kM_RX6_204 : Cond.methodLink RX6 204 yX6_numbersOf ∈ tT := tT_3 (i := 216) (by decide +kernel) rfl
theorem kM_RX6_207 : Cond.methodLink RX6 207 yX4_become ∈ tT := tT_3 (i := 224) (by decide +kernel) rfl
theorem kM_RX6_209 : Cond.methodLink RX6 209 yX4_set ∈ tT := tT_3 (i := 233) (by decide +kernel) rfl
theorem kM_RX6_212 : Cond.methodLink RX6 212 yX6_draw ∈ tT := tT_4 (i := 1) (by decide +kernel) rfl
theorem kL_RX6_215 : Cond.constantLong RX6 215 (-4611686018427387904) ∈ tT := tT_4 (i := 10) (by decide +kernel) rfl
theorem kM_RX6_217 : Cond.methodLink RX6 217 yX6_commonDivisor ∈ tT := tT_4 (i := 11) (by decide +kernel) rfl
theorem kF_RX6_19 : Cond.fieldLink RX6 19 (TX6 2).1 (TX6 2).2.1 (TX6 2).2.2.1 ∈ tT := tT_1 (i := 158) (by decide +kernel) rfl
theorem kF_RX6_220 : Cond.fieldLink RX6 220 (TX6 11).1 (TX6 11).2.1 (TX6 11).2.2.1 ∈ tT := tT_1 (i := 167) (by decide +kernel) rfl
theorem kF_RX6_223 : Cond.fieldLink RX6 223 (TX6 10).1 (TX6 10).2.1 (TX6 10).2.2.1 ∈ tT := tT_1 (i := 166) (by decide +kernel) rfl
theorem kM_RX6_227 : Cond.methodLink RX6 227 yX1_size ∈ tT := tT_4 (i := 26) (by decide +kernel) rfl
theorem kM_RX6_228 : Cond.methodLink RX6 228 yX6_isSort ∈ tT := tT_4 (i := 34) (by decide +kernel) rfl
theorem kM_RX6_231 : Cond.methodLink RX6 231 yX4_has ∈ tT := tT_4 (i := 41) (by decide +kernel) rfl
theorem kM_RX6_232 : Cond.methodLink RX6 232 yX4_sort ∈ tT := tT_4 (i := 46) (by decide +kernel) rfl
theorem kM_RX6_235 : Cond.methodLink RX6 235 yX4_hasRow ∈ tT := tT_4 (i := 50) (by decide +kernel) rfl
theorem kM_RX6_238 : Cond.methodLink RX6 238 yX4_takeRow ∈ tT := tT_4 (i := 54) (by decide +kernel) rfl
theorem kM_RX6_242 : Cond.methodLink RX6 242 yX4_at ∈ tT := tT_3 (i := 192) (by decide +kernel) rfl
theorem kM_RX6_243 : Cond.methodLink RX6 243 yX6_card ∈ tT := tT_4 (i := 64) (by decide +kernel) rfl
theorem kM_RX6_246 : Cond.methodLink RX6 246 yX6_isUnder ∈ tT := tT_4 (i := 69) (by decide +kernel) rfl
theorem kF_RX6_249 : Cond.fieldLink RX6 249 RX6 "KIND_ABOVE" "[I" ∈ tT := tT_4 (i := 72) (by decide +kernel) rfl
theorem kF_RX6_51 : Cond.fieldLink RX6 51 (TX6 7).1 (TX6 7).2.1 (TX6 7).2.2.1 ∈ tT := tT_1 (i := 163) (by decide +kernel) rfl
theorem kM_RX6_253 : Cond.methodLink RX6 253 yX0_at ∈ tT := tT_3 (i := 151) (by decide +kernel) rfl
theorem kK_RX6_254 : Cond.constant RX6 254 1103515245 ∈ tT := tT_4 (i := 5) (by decide +kernel) rfl
theorem kM_RX6_255 : Cond.methodLink RX6 255 yX4_size ∈ tT := tT_3 (i := 188) (by decide +kernel) rfl
theorem kF_RX7_13 : Cond.fieldLink RX7 13 (TX7 1).1 (TX7 1).2.1 (TX7 1).2.2.1 ∈ tT := tT_4 (i := 84) (by decide +kernel) rfl
theorem kF_RX7_64 : Cond.fieldLink RX7 64 (TX7 9).1 (TX7 9).2.1 (TX7 9).2.2.1 ∈ tT := tT_4 (i := 92) (by decide +kernel) rfl
theorem kM_RX7_67 : Cond.methodLink RX7 67 yX7_in ∈ tT := tT_4 (i := 216) (by decide +kernel) rfl
theorem kL_RX7_71 : Cond.constantLong RX7 71 5 ∈ tT := tT_4 (i := 215) (by decide +kernel) rfl
theorem kL_RX7_73 : Cond.constantLong RX7 73 9 ∈ tT := tT_4 (i := 219) (by decide +kernel) rfl
theorem kF_RX7_23 : Cond.fieldLink RX7 23 (TX7 7).1 (TX7 7).2.1 (TX7 7).2.2.1 ∈ tT := tT_4 (i := 90) (by decide +kernel) rfl
theorem kF_RX7_26 : Cond.fieldLink RX7 26 (TX7 8).1 (TX7 8).2.1 (TX7 8).2.2.1 ∈ tT := tT_4 (i := 91) (by decide +kernel) rfl
theorem kM_RX7_75 : Cond.methodLink RX7 75 yX7_isCard ∈ tT := tT_4 (i := 212) (by decide +kernel) rfl
theorem kM_RX7_79 : Cond.methodLink RX7 79 yX7_puts ∈ tT := tT_4 (i := 220) (by decide +kernel) rfl
theorem kM_RX7_83 : Cond.methodLink RX7 83 yX7_isPlace ∈ tT := tT_4 (i := 228) (by decide +kernel) rfl
theorem kM_RX7_87 : Cond.methodLink RX7 87 yX7_codeOf ∈ tT := tT_4 (i := 232) (by decide +kernel) rfl
theorem kM_RX7_91 : Cond.methodLink RX7 91 yX7_exchanges ∈ tT := tT_5 (i := 4) (by decide +kernel) rfl
theorem kL_RX7_94 : Cond.constantLong RX7 94 3 ∈ tT := tT_5 (i := 12) (by decide +kernel) rfl
theorem kM_RX7_96 : Cond.methodLink RX7 96 yX7_pointsOf ∈ tT := tT_5 (i := 13) (by decide +kernel) rfl
theorem kL_RX7_100 : Cond.constantLong RX7 100 255 ∈ tT := tT_5 (i := 21) (by decide +kernel) rfl
theorem kF_RX7_102 : Cond.fieldLink RX7 102 (TX7 6).1 (TX7 6).2.1 (TX7 6).2.2.1 ∈ tT := tT_4 (i := 89) (by decide +kernel) rfl
theorem kF_RX7_20 : Cond.fieldLink RX7 20 (TX7 5).1 (TX7 5).2.1 (TX7 5).2.2.1 ∈ tT := tT_4 (i := 88) (by decide +kernel) rfl
theorem kF_RX7_105 : Cond.fieldLink RX7 105 (TX7 17).1 (TX7 17).2.1 (TX7 17).2.2.1 ∈ tT := tT_4 (i := 100) (by decide +kernel) rfl
theorem kF_RX7_108 : Cond.fieldLink RX7 108 (TX7 16).1 (TX7 16).2.1 (TX7 16).2.2.1 ∈ tT := tT_4 (i := 99) (by decide +kernel) rfl
theorem kF_RX7_111 : Cond.fieldLink RX7 111 (TX7 18).1 (TX7 18).2.1 (TX7 18).2.2.1 ∈ tT := tT_4 (i := 101) (by decide +kernel) rfl
theorem kM_RX7_114 : Cond.methodLink RX7 114 yX7_byteAt ∈ tT := tT_5 (i := 34) (by decide +kernel) rfl
theorem kF_RX7_117 : Cond.fieldLink RX7 117 (TX7 20).1 (TX7 20).2.1 (TX7 20).2.2.1 ∈ tT := tT_4 (i := 103) (by decide +kernel) rfl
theorem kF_RX7_120 : Cond.fieldLink RX7 120 (TX7 19).1 (TX7 19).2.1 (TX7 19).2.2.1 ∈ tT := tT_4 (i := 102) (by decide +kernel) rfl
theorem kL_RX7_123 : Cond.constantLong RX7 123 97 ∈ tT := tT_5 (i := 38) (by decide +kernel) rfl
theorem kL_RX7_125 : Cond.constantLong RX7 125 122 ∈ tT := tT_5 (i := 39) (by decide +kernel) rfl
theorem kL_RX7_127 : Cond.constantLong RX7 127 48 ∈ tT := tT_5 (i := 40) (by decide +kernel) rfl
theorem kL_RX7_129 : Cond.constantLong RX7 129 57 ∈ tT := tT_5 (i := 41) (by decide +kernel) rfl
theorem kF_RX7_131 : Cond.fieldLink RX7 131 (TX7 21).1 (TX7 21).2.1 (TX7 21).2.2.1 ∈ tT := tT_4 (i := 104) (by decide +kernel) rfl
theorem kL_RX7_135 : Cond.constantLong RX7 135 10 ∈ tT := tT_5 (i := 42) (by decide +kernel) rfl
theorem kF_RX7_137 : Cond.fieldLink RX7 137 (TX7 23).1 (TX7 23).2.1 (TX7 23).2.2.1 ∈ tT := tT_4 (i := 106) (by decide +kernel) rfl
theorem kF_RX7_141 : Cond.fieldLink RX7 141 (TX7 24).1 (TX7 24).2.1 (TX7 24).2.2.1 ∈ tT := tT_4 (i := 107) (by decide +kernel) rfl
theorem kM_RX7_144 : Cond.methodLink RX7 144 yX7_isLetter ∈ tT := tT_5 (i := 47) (by decide +kernel) rfl
theorem kF_RX7_147 : Cond.fieldLink RX7 147 (TX7 22).1 (TX7 22).2.1 (TX7 22).2.2.1 ∈ tT := tT_4 (i := 105) (by decide +kernel) rfl
theorem kM_RX7_150 : Cond.methodLink RX7 150 yX7_fail ∈ tT := tT_5 (i := 55) (by decide +kernel) rfl
theorem kM_RX7_153 : Cond.methodLink RX7 153 yX7_next ∈ tT := tT_5 (i := 30) (by decide +kernel) rfl
theorem kM_RX7_156 : Cond.methodLink RX7 156 yX7_isWord ∈ tT := tT_5 (i := 43) (by decide +kernel) rfl
theorem kF_RX7_160 : Cond.fieldLink RX7 160 (TX7 10).1 (TX7 10).2.1 (TX7 10).2.2.1 ∈ tT := tT_4 (i := 93) (by decide +kernel) rfl
theorem kF_RX7_163 : Cond.fieldLink RX7 163 (TX7 11).1 (TX7 11).2.1 (TX7 11).2.2.1 ∈ tT := tT_4 (i := 94) (by decide +kernel) rfl
theorem kF_RX7_166 : Cond.fieldLink RX7 166 (TX7 12).1 (TX7 12).2.1 (TX7 12).2.2.1 ∈ tT := tT_4 (i := 95) (by decide +kernel) rfl
theorem kF_RX7_169 : Cond.fieldLink RX7 169 (TX7 13).1 (TX7 13).2.1 (TX7 13).2.2.1 ∈ tT := tT_4 (i := 96) (by decide +kernel) rfl
theorem kF_RX7_172 : Cond.fieldLink RX7 172 (TX7 14).1 (TX7 14).2.1 (TX7 14).2.2.1 ∈ tT := tT_4 (i := 97) (by decide +kernel) rfl
theorem kF_RX7_175 : Cond.fieldLink RX7 175 (TX7 15).1 (TX7 15).2.1 (TX7 15).2.2.1 ∈ tT := tT_4 (i := 98) (by decide +kernel) rfl
theorem kM_RX7_178 : Cond.methodLink RX7 178 yX7_isSign ∈ tT := tT_5 (i := 87) (by decide +kernel) rfl
theorem kM_RX7_181 : Cond.methodLink RX7 181 yX7_opens ∈ tT := tT_5 (i := 71) (by decide +kernel) rfl
theorem kM_RX7_185 : Cond.methodLink RX7 185 yX7_atom ∈ tT := tT_5 (i := 83) (by decide +kernel) rfl
theorem kM_RX7_189 : Cond.methodLink RX7 189 yX7_either ∈ tT := tT_5 (i := 59) (by decide +kernel) rfl
theorem kM_RX7_192 : Cond.methodLink RX7 192 yX7_name ∈ tT := tT_5 (i := 91) (by decide +kernel) rfl
theorem kM_RX7_195 : Cond.methodLink RX7 195 yX7_term ∈ tT := tT_5 (i := 79) (by decide +kernel) rfl
theorem kL_RX7_198 : Cond.constantLong RX7 198 43 ∈ tT := tT_5 (i := 95) (by decide +kernel) rfl
theorem kM_RX7_200 : Cond.methodLink RX7 200 yX7_not ∈ tT := tT_5 (i := 67) (by decide +kernel) rfl
theorem kM_RX7_203 : Cond.methodLink RX7 203 yX7_added ∈ tT := tT_5 (i := 75) (by decide +kernel) rfl
theorem kL_RX7_206 : Cond.constantLong RX7 206 60 ∈ tT := tT_5 (i := 96) (by decide +kernel) rfl
theorem kM_RX7_208 : Cond.methodLink RX7 208 yX7_both ∈ tT := tT_5 (i := 63) (by decide +kernel) rfl
theorem kF_RX7_17 : Cond.fieldLink RX7 17 (TX7 2).1 (TX7 2).2.1 (TX7 2).2.2.1 ∈ tT := tT_4 (i := 85) (by decide +kernel) rfl
theorem kM_RX7_211 : Cond.methodLink RX7 211 yX7_part ∈ tT := tT_5 (i := 51) (by decide +kernel) rfl
theorem kF_RX7_61 : Cond.fieldLink RX7 61 (TX7 3).1 (TX7 3).2.1 (TX7 3).2.2.1 ∈ tT := tT_4 (i := 86) (by decide +kernel) rfl
theorem kM_RX7_215 : Cond.methodLink RX7 215 yX7_read ∈ tT := tT_5 (i := 26) (by decide +kernel) rfl
theorem kF_RX7_218 : Cond.fieldLink RX7 218 (TX7 4).1 (TX7 4).2.1 (TX7 4).2.2.1 ∈ tT := tT_4 (i := 87) (by decide +kernel) rfl
theorem kF_RX7_221 : Cond.fieldLink RX7 221 (TX7 26).1 (TX7 26).2.1 (TX7 26).2.2.1 ∈ tT := tT_4 (i := 109) (by decide +kernel) rfl
theorem kM_RX7_224 : Cond.methodLink RX7 224 yX7_within ∈ tT := tT_5 (i := 120) (by decide +kernel) rfl
theorem kF_RX7_29 : Cond.fieldLink RX7 29 (TX7 25).1 (TX7 25).2.1 (TX7 25).2.2.1 ∈ tT := tT_4 (i := 108) (by decide +kernel) rfl
theorem kF_RX7_228 : Cond.fieldLink RX7 228 (TX7 27).1 (TX7 27).2.1 (TX7 27).2.2.1 ∈ tT := tT_4 (i := 110) (by decide +kernel) rfl
theorem kF_RX7_231 : Cond.fieldLink RX7 231 (TX7 28).1 (TX7 28).2.1 (TX7 28).2.2.1 ∈ tT := tT_4 (i := 111) (by decide +kernel) rfl
theorem kM_RX7_234 : Cond.methodLink RX7 234 yX7_asks ∈ tT := tT_5 (i := 116) (by decide +kernel) rfl
theorem kM_RX7_237 : Cond.methodLink RX7 237 yX7_paysOf ∈ tT := tT_5 (i := 123) (by decide +kernel) rfl
theorem kM_RX7_240 : Cond.methodLink RX7 240 yX7_wraps ∈ tT := tT_5 (i := 127) (by decide +kernel) rfl
theorem kM_RX7_243 : Cond.methodLink RX7 243 yX7_turns ∈ tT := tT_5 (i := 112) (by decide +kernel) rfl
theorem kM_RX7_246 : Cond.methodLink RX7 246 yX7_firstFrom ∈ tT := tT_5 (i := 131) (by decide +kernel) rfl
theorem kF_RX7_249 : Cond.fieldLink RX7 249 (TX7 29).1 (TX7 29).2.1 (TX7 29).2.2.1 ∈ tT := tT_4 (i := 112) (by decide +kernel) rfl
theorem kL_RX7_252 : Cond.constantLong RX7 252 4 ∈ tT := tT_5 (i := 105) (by decide +kernel) rfl
theorem kL_RX7_254 : Cond.constantLong RX7 254 25 ∈ tT := tT_5 (i := 106) (by decide +kernel) rfl
theorem kK_RX7_256 : Cond.constant RX7 256 (-100000) ∈ tT := tT_5 (i := 107) (by decide +kernel) rfl
theorem kM_RX7_257 : Cond.methodLink RX7 257 yX7_goes ∈ tT := tT_5 (i := 108) (by decide +kernel) rfl
theorem kF_RX7_261 : Cond.fieldLink RX7 261 (TX7 31).1 (TX7 31).2.1 (TX7 31).2.2.1 ∈ tT := tT_4 (i := 114) (by decide +kernel) rfl
theorem kF_RX7_264 : Cond.fieldLink RX7 264 (TX7 32).1 (TX7 32).2.1 (TX7 32).2.2.1 ∈ tT := tT_4 (i := 115) (by decide +kernel) rfl
theorem kF_RX7_32 : Cond.fieldLink RX7 32 (TX7 30).1 (TX7 30).2.1 (TX7 30).2.2.1 ∈ tT := tT_4 (i := 113) (by decide +kernel) rfl
theorem kM_RX7_267 : Cond.methodLink RX7 267 yX7_laysFrom ∈ tT := tT_5 (i := 159) (by decide +kernel) rfl
theorem kF_RX7_54 : Cond.fieldLink RX7 54 (TX7 40).1 (TX7 40).2.1 (TX7 40).2.2.1 ∈ tT := tT_4 (i := 123) (by decide +kernel) rfl
theorem kF_RX7_51 : Cond.fieldLink RX7 51 (TX7 39).1 (TX7 39).2.1 (TX7 39).2.2.1 ∈ tT := tT_4 (i := 122) (by decide +kernel) rfl
theorem kL_RX7_271 : Cond.constantLong RX7 271 16 ∈ tT := tT_5 (i := 177) (by decide +kernel) rfl
theorem kL_RX7_273 : Cond.constantLong RX7 273 2 ∈ tT := tT_5 (i := 167) (by decide +kernel) rfl
theorem kL_RX7_275 : Cond.constantLong RX7 275 30 ∈ tT := tT_5 (i := 168) (by decide +kernel) rfl
theorem kL_RX7_277 : Cond.constantLong RX7 277 45 ∈ tT := tT_5 (i := 169) (by decide +kernel) rfl
theorem kM_RX7_279 : Cond.methodLink RX7 279 yX7_isSheet ∈ tT := tT_5 (i := 170) (by decide +kernel) rfl
theorem kF_RX7_44 : Cond.fieldLink RX7 44 (TX7 37).1 (TX7 37).2.1 (TX7 37).2.2.1 ∈ tT := tT_4 (i := 120) (by decide +kernel) rfl
theorem kM_RX7_282 : Cond.methodLink RX7 282 yX7_isRow ∈ tT := tT_5 (i := 173) (by decide +kernel) rfl
theorem kM_RX7_285 : Cond.methodLink RX7 285 yX7_firstOther ∈ tT := tT_5 (i := 178) (by decide +kernel) rfl
theorem kM_RX7_288 : Cond.methodLink RX7 288 yX7_startsOf ∈ tT := tT_5 (i := 182) (by decide +kernel) rfl
theorem kM_RX7_291 : Cond.methodLink RX7 291 yX7_sheet ∈ tT := tT_5 (i := 190) (by decide +kernel) rfl
theorem kF_RX7_35 : Cond.fieldLink RX7 35 (TX7 33).1 (TX7 33).2.1 (TX7 33).2.2.1 ∈ tT := tT_4 (i := 116) (by decide +kernel) rfl
theorem kK_RX7_294 : Cond.constant RX7 294 1103515245 ∈ tT := tT_5 (i := 203) (by decide +kernel) rfl
theorem kM_RX7_295 : Cond.methodLink RX7 295 yX7_draws ∈ tT := tT_5 (i := 199) (by decide +kernel) rfl
theorem kL_RX7_298 : Cond.constantLong RX7 298 20 ∈ tT := tT_5 (i := 208) (by decide +kernel) rfl
theorem kL_RX7_300 : Cond.constantLong RX7 300 (-4611686018427387904) ∈ tT := tT_5 (i := 209) (by decide +kernel) rfl
theorem kF_RX7_38 : Cond.fieldLink RX7 38 (TX7 34).1 (TX7 34).2.1 (TX7 34).2.2.1 ∈ tT := tT_4 (i := 117) (by decide +kernel) rfl
theorem kF_RX7_41 : Cond.fieldLink RX7 41 (TX7 35).1 (TX7 35).2.1 (TX7 35).2.2.1 ∈ tT := tT_4 (i := 118) (by decide +kernel) rfl
theorem kF_RX7_302 : Cond.fieldLink RX7 302 (TX7 36).1 (TX7 36).2.1 (TX7 36).2.2.1 ∈ tT := tT_4 (i := 119) (by decide +kernel) rfl
theorem kL_RX7_305 : Cond.constantLong RX7 305 (-1) ∈ tT := tT_5 (i := 194) (by decide +kernel) rfl
theorem kF_RX7_48 : Cond.fieldLink RX7 48 (TX7 38).1 (TX7 38).2.1 (TX7 38).2.2.1 ∈ tT := tT_4 (i := 121) (by decide +kernel) rfl
theorem kM_RX7_307 : Cond.methodLink RX7 307 yX7_card ∈ tT := tT_5 (i := 235) (by decide +kernel) rfl
theorem kM_RX7_310 : Cond.methodLink RX7 310 yX7_over ∈ tT := tT_6 (i := 0) (by decide +kernel) rfl
theorem kC_yJ9_floorMod_7cf53 : Cond.code yJ9_floorMod_7cf53 cJ9_floorMod_7cf53 3 (some .int) ∈ tT := tT_3 (i := 65) (by decide +kernel) rfl
theorem kT_yJ9_floorMod_7cf53 : Cond.static yJ9_floorMod_7cf53 ∈ tT := tT_3 (i := 64) (by decide +kernel) rfl
theorem kI_RJ9 : Cond.initialized RJ9 ∈ tT := tT_1 (i := 13) (by decide +kernel) rfl
theorem kC_yJ9_max_7cf53 : Cond.code yJ9_max_7cf53 cJ9_max_7cf53 2 (some .int) ∈ tT := tT_2 (i := 155) (by decide +kernel) rfl
theorem kT_yJ9_max_7cf53 : Cond.static yJ9_max_7cf53 ∈ tT := tT_2 (i := 154) (by decide +kernel) rfl
theorem kC_yJ9_min_7cf53 : Cond.code yJ9_min_7cf53 cJ9_min_7cf53 2 (some .int) ∈ tT := tT_2 (i := 158) (by decide +kernel) rfl
theorem kT_yJ9_min_7cf53 : Cond.static yJ9_min_7cf53 ∈ tT := tT_2 (i := 157) (by decide +kernel) rfl
theorem kC_yJ0_length_8abf5 : Cond.code yJ0_length_8abf5 cJ0_length_8abf5 1 (some .int) ∈ tT := tT_2 (i := 85) (by decide +kernel) rfl
theorem kV_yJ0_length_8abf5 : Cond.instanceMethod yJ0_length_8abf5 ∈ tT := tT_2 (i := 83) (by decide +kernel) rfl
theorem kS_yJ0_length_8abf5 : Cond.selects yJ0_length_8abf5.cls yJ0_length_8abf5 yJ0_length_8abf5 ∈ tT := tT_2 (i := 84) (by decide +kernel) rfl
theorem kI_RJ0 : Cond.initialized RJ0 ∈ tT := tT_1 (i := 9) (by decide +kernel) rfl
theorem kC_yJ0_charAt_5068e : Cond.code yJ0_charAt_5068e cJ0_charAt_5068e 2 (some .char) ∈ tT := tT_2 (i := 95) (by decide +kernel) rfl
theorem kV_yJ0_charAt_5068e : Cond.instanceMethod yJ0_charAt_5068e ∈ tT := tT_2 (i := 93) (by decide +kernel) rfl
theorem kS_yJ0_charAt_5068e : Cond.selects yJ0_charAt_5068e.cls yJ0_charAt_5068e yJ0_charAt_5068e ∈ tT := tT_2 (i := 94) (by decide +kernel) rfl
theorem kC_yJ0_indexOf_0f7a4 : Cond.code yJ0_indexOf_0f7a4 cJ0_indexOf_0f7a4 2 (some .int) ∈ tT := tT_2 (i := 141) (by decide +kernel) rfl
theorem kV_yJ0_indexOf_0f7a4 : Cond.instanceMethod yJ0_indexOf_0f7a4 ∈ tT := tT_2 (i := 139) (by decide +kernel) rfl
theorem kS_yJ0_indexOf_0f7a4 : Cond.selects yJ0_indexOf_0f7a4.cls yJ0_indexOf_0f7a4 yJ0_indexOf_0f7a4 ∈ tT := tT_2 (i := 140) (by decide +kernel) rfl
theorem kC_yJ0_indexOf_7cf53 : Cond.code yJ0_indexOf_7cf53 cJ0_indexOf_7cf53 3 (some .int) ∈ tT := tT_2 (i := 145) (by decide +kernel) rfl
theorem kV_yJ0_indexOf_7cf53 : Cond.instanceMethod yJ0_indexOf_7cf53 ∈ tT := tT_2 (i := 143) (by decide +kernel) rfl
theorem kS_yJ0_indexOf_7cf53 : Cond.selects yJ0_indexOf_7cf53.cls yJ0_indexOf_7cf53 yJ0_indexOf_7cf53 ∈ tT := tT_2 (i := 144) (by decide +kernel) rfl
theorem kC_yJ0_coder_7d493 : Cond.code yJ0_coder_7d493 cJ0_coder_7d493 1 (some .byte) ∈ tT := tT_2 (i := 89) (by decide +kernel) rfl
theorem kV_yJ0_coder_7d493 : Cond.instanceMethod yJ0_coder_7d493 ∈ tT := tT_2 (i := 87) (by decide +kernel) rfl
theorem kS_yJ0_coder_7d493 : Cond.selects yJ0_coder_7d493.cls yJ0_coder_7d493 yJ0_coder_7d493 ∈ tT := tT_2 (i := 88) (by decide +kernel) rfl
theorem kC_yJ0_isLatin1_aae02 : Cond.code yJ0_isLatin1_aae02 cJ0_isLatin1_aae02 1 (some .boolean) ∈ tT := tT_2 (i := 99) (by decide +kernel) rfl
theorem kV_yJ0_isLatin1_aae02 : Cond.instanceMethod yJ0_isLatin1_aae02 ∈ tT := tT_2 (i := 97) (by decide +kernel) rfl
theorem kS_yJ0_isLatin1_aae02 : Cond.selects yJ0_isLatin1_aae02.cls yJ0_isLatin1_aae02 yJ0_isLatin1_aae02 ∈ tT := tT_2 (i := 98) (by decide +kernel) rfl
theorem kC_yJ0_checkIndex_df160 : Cond.code yJ0_checkIndex_df160 cJ0_checkIndex_df160 2 none ∈ tT := tT_2 (i := 105) (by decide +kernel) rfl
theorem kT_yJ0_checkIndex_df160 : Cond.static yJ0_checkIndex_df160 ∈ tT := tT_2 (i := 104) (by decide +kernel) rfl
theorem kC_yJ1_charAt_3b067 : Cond.code yJ1_charAt_3b067 cJ1_charAt_3b067 2 (some .char) ∈ tT := tT_2 (i := 102) (by decide +kernel) rfl
theorem kT_yJ1_charAt_3b067 : Cond.static yJ1_charAt_3b067 ∈ tT := tT_2 (i := 101) (by decide +kernel) rfl
theorem kI_RJ1 : Cond.initialized RJ1 ∈ tT := tT_1 (i := 10) (by decide +kernel) rfl
theorem kC_yJ1_canEncode_9a6ad : Cond.code yJ1_canEncode_9a6ad cJ1_canEncode_9a6ad 1 (some .boolean) ∈ tT := tT_2 (i := 152) (by decide +kernel) rfl
theorem kT_yJ1_canEncode_9a6ad : Cond.static yJ1_canEncode_9a6ad ∈ tT := tT_2 (i := 151) (by decide +kernel) rfl
theorem kC_yJ1_indexOf_4cfef : Cond.code yJ1_indexOf_4cfef cJ1_indexOf_4cfef 4 (some .int) ∈ tT := tT_2 (i := 149) (by decide +kernel) rfl
theorem kT_yJ1_indexOf_4cfef : Cond.static yJ1_indexOf_4cfef ∈ tT := tT_2 (i := 148) (by decide +kernel) rfl
theorem kC_yJ1_indexOfChar_4cfef : Cond.code yJ1_indexOfChar_4cfef cJ1_indexOfChar_4cfef 6 (some .int) ∈ tT := tT_2 (i := 161) (by decide +kernel) rfl
theorem kT_yJ1_indexOfChar_4cfef : Cond.static yJ1_indexOfChar_4cfef ∈ tT := tT_2 (i := 160) (by decide +kernel) rfl
theorem kC_yJ7_fill_53178 : Cond.code yJ7_fill_53178 cJ7_fill_53178 4 none ∈ tT := tT_3 (i := 232) (by decide +kernel) rfl
theorem kT_yJ7_fill_53178 : Cond.static yJ7_fill_53178 ∈ tT := tT_3 (i := 231) (by decide +kernel) rfl
theorem kI_RJ7 : Cond.initialized RJ7 ∈ tT := tT_1 (i := 16) (by decide +kernel) rfl
theorem kC_yJ3_checkIndex_8e157 : Cond.code yJ3_checkIndex_8e157 cJ3_checkIndex_8e157 3 (some .int) ∈ tT := tT_2 (i := 110) (by decide +kernel) rfl
theorem kT_yJ3_checkIndex_8e157 : Cond.static yJ3_checkIndex_8e157 ∈ tT := tT_2 (i := 109) (by decide +kernel) rfl
theorem kI_RJ3 : Cond.initialized RJ3 ∈ tT := tT_1 (i := 11) (by decide +kernel) rfl
theorem kC_yX0_begin : Cond.code yX0_begin cX0_begin 3 none ∈ tT := tT_3 (i := 144) (by decide +kernel) rfl
theorem kV_yX0_begin : Cond.instanceMethod yX0_begin ∈ tT := tT_3 (i := 142) (by decide +kernel) rfl
theorem kS_yX0_begin : Cond.selects yX0_begin.cls yX0_begin yX0_begin ∈ tT := tT_3 (i := 143) (by decide +kernel) rfl
theorem kI_RX0 : Cond.initialized RX0 ∈ tT := tT_1 (i := 4) (by decide +kernel) rfl
theorem kC_yX0_at : Cond.code yX0_at cX0_at 2 (some .int) ∈ tT := tT_3 (i := 154) (by decide +kernel) rfl
theorem kV_yX0_at : Cond.instanceMethod yX0_at ∈ tT := tT_3 (i := 152) (by decide +kernel) rfl
theorem kS_yX0_at : Cond.selects yX0_at.cls yX0_at yX0_at ∈ tT := tT_3 (i := 153) (by decide +kernel) rfl
theorem kC_yX0_goOn : Cond.code yX0_goOn cX0_goOn 5 (some .boolean) ∈ tT := tT_3 (i := 163) (by decide +kernel) rfl
theorem kV_yX0_goOn : Cond.instanceMethod yX0_goOn ∈ tT := tT_3 (i := 161) (by decide +kernel) rfl
theorem kS_yX0_goOn : Cond.selects yX0_goOn.cls yX0_goOn yX0_goOn ∈ tT := tT_3 (i := 162) (by decide +kernel) rfl
theorem kC_yX0_digits : Cond.code yX0_digits cX0_digits 3 (some .int) ∈ tT := tT_3 (i := 158) (by decide +kernel) rfl
theorem kV_yX0_digits : Cond.instanceMethod yX0_digits ∈ tT := tT_3 (i := 156) (by decide +kernel) rfl
theorem kS_yX0_digits : Cond.selects yX0_digits.cls yX0_digits yX0_digits ∈ tT := tT_3 (i := 157) (by decide +kernel) rfl
theorem kC_yX0_exchange : Cond.code yX0_exchange cX0_exchange 4 none ∈ tT := tT_3 (i := 167) (by decide +kernel) rfl
theorem kV_yX0_exchange : Cond.instanceMethod yX0_exchange ∈ tT := tT_3 (i := 166) (by decide +kernel) rfl
theorem kS_yX0_exchange : Cond.selects yX0_exchange.cls yX0_exchange yX0_exchange ∈ tT := tT_0 (i := 26) (by decide +kernel) rfl
theorem kC_yX1_size : Cond.code yX1_size cX1_size 1 (some .int) ∈ tT := tT_4 (i := 29) (by decide +kernel) rfl
theorem kV_yX1_size : Cond.instanceMethod yX1_size ∈ tT := tT_4 (i := 27) (by decide +kernel) rfl
theorem kS_yX1_size : Cond.selects yX1_size.cls yX1_size yX1_size ∈ tT := tT_4 (i := 28) (by decide +kernel) rfl
theorem kI_RX1 : Cond.initialized RX1 ∈ tT := tT_1 (i := 5) (by decide +kernel) rfl
theorem kC_yX1_isFull : Cond.code yX1_isFull cX1_isFull 1 (some .boolean) ∈ tT := tT_2 (i := 40) (by decide +kernel) rfl
theorem kV_yX1_isFull : Cond.instanceMethod yX1_isFull ∈ tT := tT_2 (i := 38) (by decide +kernel) rfl
theorem kS_yX1_isFull : Cond.selects yX1_isFull.cls yX1_isFull yX1_isFull ∈ tT := tT_2 (i := 39) (by decide +kernel) rfl
theorem kC_yX1_add : Cond.code yX1_add cX1_add 2 (some .int) ∈ tT := tT_2 (i := 44) (by decide +kernel) rfl
theorem kV_yX1_add : Cond.instanceMethod yX1_add ∈ tT := tT_2 (i := 42) (by decide +kernel) rfl
theorem kS_yX1_add : Cond.selects yX1_add.cls yX1_add yX1_add ∈ tT := tT_2 (i := 43) (by decide +kernel) rfl
theorem kC_yX1_read : Cond.code yX1_read cX1_read 4 (some .int) ∈ tT := tT_2 (i := 53) (by decide +kernel) rfl
theorem kV_yX1_read : Cond.instanceMethod yX1_read ∈ tT := tT_2 (i := 51) (by decide +kernel) rfl
theorem kS_yX1_read : Cond.selects yX1_read.cls yX1_read yX1_read ∈ tT := tT_2 (i := 52) (by decide +kernel) rfl
theorem kC_yX1_readPart : Cond.code yX1_readPart cX1_readPart 5 (some .int) ∈ tT := tT_2 (i := 61) (by decide +kernel) rfl
theorem kV_yX1_readPart : Cond.instanceMethod yX1_readPart ∈ tT := tT_2 (i := 60) (by decide +kernel) rfl
theorem kS_yX1_readPart : Cond.selects yX1_readPart.cls yX1_readPart yX1_readPart ∈ tT := tT_0 (i := 0) (by decide +kernel) rfl
theorem kC_yX1_begins : Cond.code yX1_begins cX1_begins 3 (some .boolean) ∈ tT := tT_2 (i := 210) (by decide +kernel) rfl
theorem kV_yX1_begins : Cond.instanceMethod yX1_begins ∈ tT := tT_2 (i := 209) (by decide +kernel) rfl
theorem kS_yX1_begins : Cond.selects yX1_begins.cls yX1_begins yX1_begins ∈ tT := tT_0 (i := 8) (by decide +kernel) rfl
theorem kC_yX1_goesOn : Cond.code yX1_goesOn cX1_goesOn 4 (some .boolean) ∈ tT := tT_2 (i := 222) (by decide +kernel) rfl
theorem kV_yX1_goesOn : Cond.instanceMethod yX1_goesOn ∈ tT := tT_2 (i := 221) (by decide +kernel) rfl
theorem kS_yX1_goesOn : Cond.selects yX1_goesOn.cls yX1_goesOn yX1_goesOn ∈ tT := tT_0 (i := 11) (by decide +kernel) rfl
theorem kC_yX1_closes : Cond.code yX1_closes cX1_closes 1 (some .boolean) ∈ tT := tT_2 (i := 226) (by decide +kernel) rfl
theorem kV_yX1_closes : Cond.instanceMethod yX1_closes ∈ tT := tT_2 (i := 225) (by decide +kernel) rfl
theorem kS_yX1_closes : Cond.selects yX1_closes.cls yX1_closes yX1_closes ∈ tT := tT_0 (i := 12) (by decide +kernel) rfl
theorem kC_yX1_openingAtHand : Cond.code yX1_openingAtHand cX1_openingAtHand 1 (some .int) ∈ tT := tT_2 (i := 214) (by decide +kernel) rfl
theorem kV_yX1_openingAtHand : Cond.instanceMethod yX1_openingAtHand ∈ tT := tT_2 (i := 213) (by decide +kernel) rfl
theorem kS_yX1_openingAtHand : Cond.selects yX1_openingAtHand.cls yX1_openingAtHand yX1_openingAtHand ∈ tT := tT_0 (i := 9) (by decide +kernel) rfl
theorem kC_yX1_operationAtHand : Cond.code yX1_operationAtHand cX1_operationAtHand 1 (some .int) ∈ tT := tT_2 (i := 230) (by decide +kernel) rfl
theorem kV_yX1_operationAtHand : Cond.instanceMethod yX1_operationAtHand ∈ tT := tT_2 (i := 229) (by decide +kernel) rfl
theorem kS_yX1_operationAtHand : Cond.selects yX1_operationAtHand.cls yX1_operationAtHand yX1_operationAtHand ∈ tT := tT_0 (i := 13) (by decide +kernel) rfl
theorem kC_yX1_top : Cond.code yX1_top cX1_top 1 (some .int) ∈ tT := tT_2 (i := 204) (by decide +kernel) rfl
theorem kV_yX1_top : Cond.instanceMethod yX1_top ∈ tT := tT_2 (i := 203) (by decide +kernel) rfl
theorem kS_yX1_top : Cond.selects yX1_top.cls yX1_top yX1_top ∈ tT := tT_0 (i := 7) (by decide +kernel) rfl
theorem kC_yX1_await : Cond.code yX1_await cX1_await 2 none ∈ tT := tT_2 (i := 218) (by decide +kernel) rfl
theorem kV_yX1_await : Cond.instanceMethod yX1_await ∈ tT := tT_2 (i := 217) (by decide +kernel) rfl
theorem kS_yX1_await : Cond.selects yX1_await.cls yX1_await yX1_await ∈ tT := tT_0 (i := 10) (by decide +kernel) rfl
theorem kC_yX1_workOff : Cond.code yX1_workOff cX1_workOff 4 none ∈ tT := tT_2 (i := 200) (by decide +kernel) rfl
theorem kV_yX1_workOff : Cond.instanceMethod yX1_workOff ∈ tT := tT_2 (i := 199) (by decide +kernel) rfl
theorem kS_yX1_workOff : Cond.selects yX1_workOff.cls yX1_workOff yX1_workOff ∈ tT := tT_0 (i := 6) (by decide +kernel) rfl
theorem kC_yX1_nextToken : Cond.code yX1_nextToken cX1_nextToken 2 none ∈ tT := tT_2 (i := 65) (by decide +kernel) rfl
theorem kV_yX1_nextToken : Cond.instanceMethod yX1_nextToken ∈ tT := tT_2 (i := 64) (by decide +kernel) rfl
theorem kS_yX1_nextToken : Cond.selects yX1_nextToken.cls yX1_nextToken yX1_nextToken ∈ tT := tT_0 (i := 1) (by decide +kernel) rfl
theorem kC_yX1_readWord : Cond.code yX1_readWord cX1_readWord 2 none ∈ tT := tT_2 (i := 76) (by decide +kernel) rfl
theorem kV_yX1_readWord : Cond.instanceMethod yX1_readWord ∈ tT := tT_2 (i := 75) (by decide +kernel) rfl
theorem kS_yX1_readWord : Cond.selects yX1_readWord.cls yX1_readWord yX1_readWord ∈ tT := tT_0 (i := 3) (by decide +kernel) rfl
theorem kC_yX1_isWord : Cond.code yX1_isWord cX1_isWord 7 (some .boolean) ∈ tT := tT_2 (i := 80) (by decide +kernel) rfl
theorem kV_yX1_isWord : Cond.instanceMethod yX1_isWord ∈ tT := tT_2 (i := 79) (by decide +kernel) rfl
theorem kS_yX1_isWord : Cond.selects yX1_isWord.cls yX1_isWord yX1_isWord ∈ tT := tT_0 (i := 4) (by decide +kernel) rfl
theorem kC_yX1_readNumber : Cond.code yX1_readNumber cX1_readNumber 1 none ∈ tT := tT_2 (i := 136) (by decide +kernel) rfl
theorem kV_yX1_readNumber : Cond.instanceMethod yX1_readNumber ∈ tT := tT_2 (i := 135) (by decide +kernel) rfl
theorem kS_yX1_readNumber : Cond.selects yX1_readNumber.cls yX1_readNumber yX1_readNumber ∈ tT := tT_0 (i := 5) (by decide +kernel) rfl
theorem kC_yX1_byteAt : Cond.code yX1_byteAt cX1_byteAt 2 (some .int) ∈ tT := tT_2 (i := 69) (by decide +kernel) rfl
theorem kV_yX1_byteAt : Cond.instanceMethod yX1_byteAt ∈ tT := tT_2 (i := 68) (by decide +kernel) rfl
theorem kS_yX1_byteAt : Cond.selects yX1_byteAt.cls yX1_byteAt yX1_byteAt ∈ tT := tT_0 (i := 2) (by decide +kernel) rfl
theorem kC_yX1_isLetter : Cond.code yX1_isLetter cX1_isLetter 1 (some .boolean) ∈ tT := tT_2 (i := 72) (by decide +kernel) rfl
theorem kT_yX1_isLetter : Cond.static yX1_isLetter ∈ tT := tT_2 (i := 71) (by decide +kernel) rfl
theorem kC_yX1_isDigit : Cond.code yX1_isDigit cX1_isDigit 1 (some .boolean) ∈ tT := tT_2 (i := 132) (by decide +kernel) rfl
theorem kT_yX1_isDigit : Cond.static yX1_isDigit ∈ tT := tT_2 (i := 131) (by decide +kernel) rfl
theorem kC_yX2_size : Cond.code yX2_size cX2_size 1 (some .int) ∈ tT := tT_1 (i := 237) (by decide +kernel) rfl
theorem kV_yX2_size : Cond.instanceMethod yX2_size ∈ tT := tT_1 (i := 235) (by decide +kernel) rfl
theorem kS_yX2_size : Cond.selects yX2_size.cls yX2_size yX2_size ∈ tT := tT_1 (i := 236) (by decide +kernel) rfl
theorem kI_RX2 : Cond.initialized RX2 ∈ tT := tT_1 (i := 2) (by decide +kernel) rfl
theorem kC_yX2_isFull : Cond.code yX2_isFull cX2_isFull 1 (some .boolean) ∈ tT := tT_1 (i := 203) (by decide +kernel) rfl
theorem kV_yX2_isFull : Cond.instanceMethod yX2_isFull ∈ tT := tT_1 (i := 201) (by decide +kernel) rfl
theorem kS_yX2_isFull : Cond.selects yX2_isFull.cls yX2_isFull yX2_isFull ∈ tT := tT_1 (i := 202) (by decide +kernel) rfl
theorem kC_yX2_has : Cond.code yX2_has cX2_has 2 (some .boolean) ∈ tT := tT_1 (i := 219) (by decide +kernel) rfl
theorem kV_yX2_has : Cond.instanceMethod yX2_has ∈ tT := tT_1 (i := 217) (by decide +kernel) rfl
theorem kS_yX2_has : Cond.selects yX2_has.cls yX2_has yX2_has ∈ tT := tT_1 (i := 218) (by decide +kernel) rfl
theorem kC_yX2_at : Cond.code yX2_at cX2_at 2 (some .int) ∈ tT := tT_1 (i := 228) (by decide +kernel) rfl
theorem kV_yX2_at : Cond.instanceMethod yX2_at ∈ tT := tT_1 (i := 226) (by decide +kernel) rfl
theorem kS_yX2_at : Cond.selects yX2_at.cls yX2_at yX2_at ∈ tT := tT_1 (i := 227) (by decide +kernel) rfl
theorem kC_yX2_kindAt : Cond.code yX2_kindAt cX2_kindAt 2 (some .int) ∈ tT := tT_2 (i := 18) (by decide +kernel) rfl
theorem kV_yX2_kindAt : Cond.instanceMethod yX2_kindAt ∈ tT := tT_2 (i := 16) (by decide +kernel) rfl
theorem kS_yX2_kindAt : Cond.selects yX2_kindAt.cls yX2_kindAt yX2_kindAt ∈ tT := tT_2 (i := 17) (by decide +kernel) rfl
theorem kC_yX2_numberAt : Cond.code yX2_numberAt cX2_numberAt 2 (some .int) ∈ tT := tT_2 (i := 22) (by decide +kernel) rfl
theorem kV_yX2_numberAt : Cond.instanceMethod yX2_numberAt ∈ tT := tT_2 (i := 20) (by decide +kernel) rfl
theorem kS_yX2_numberAt : Cond.selects yX2_numberAt.cls yX2_numberAt yX2_numberAt ∈ tT := tT_2 (i := 21) (by decide +kernel) rfl
theorem kC_yX2_put : Cond.code yX2_put cX2_put 3 none ∈ tT := tT_1 (i := 215) (by decide +kernel) rfl
theorem kV_yX2_put : Cond.instanceMethod yX2_put ∈ tT := tT_1 (i := 213) (by decide +kernel) rfl
theorem kS_yX2_put : Cond.selects yX2_put.cls yX2_put yX2_put ∈ tT := tT_1 (i := 214) (by decide +kernel) rfl
theorem kC_yX2_add : Cond.code yX2_add cX2_add 2 (some .int) ∈ tT := tT_1 (i := 210) (by decide +kernel) rfl
theorem kV_yX2_add : Cond.instanceMethod yX2_add ∈ tT := tT_1 (i := 208) (by decide +kernel) rfl
theorem kS_yX2_add : Cond.selects yX2_add.cls yX2_add yX2_add ∈ tT := tT_1 (i := 209) (by decide +kernel) rfl
theorem kC_yX2_dropLast : Cond.code yX2_dropLast cX2_dropLast 1 none ∈ tT := tT_2 (i := 1) (by decide +kernel) rfl
theorem kV_yX2_dropLast : Cond.instanceMethod yX2_dropLast ∈ tT := tT_1 (i := 239) (by decide +kernel) rfl
theorem kS_yX2_dropLast : Cond.selects yX2_dropLast.cls yX2_dropLast yX2_dropLast ∈ tT := tT_2 (i := 0) (by decide +kernel) rfl
theorem kC_yX2_exchange : Cond.code yX2_exchange cX2_exchange 4 none ∈ tT := tT_2 (i := 9) (by decide +kernel) rfl
theorem kV_yX2_exchange : Cond.instanceMethod yX2_exchange ∈ tT := tT_2 (i := 7) (by decide +kernel) rfl
theorem kS_yX2_exchange : Cond.selects yX2_exchange.cls yX2_exchange yX2_exchange ∈ tT := tT_2 (i := 8) (by decide +kernel) rfl
theorem kC_yX2_become : Cond.code yX2_become cX2_become 2 none ∈ tT := tT_3 (i := 125) (by decide +kernel) rfl
theorem kV_yX2_become : Cond.instanceMethod yX2_become ∈ tT := tT_3 (i := 123) (by decide +kernel) rfl
theorem kS_yX2_become : Cond.selects yX2_become.cls yX2_become yX2_become ∈ tT := tT_3 (i := 124) (by decide +kernel) rfl
theorem kC_yX2_blocks : Cond.code yX2_blocks cX2_blocks 2 (some .boolean) ∈ tT := tT_2 (i := 26) (by decide +kernel) rfl
theorem kV_yX2_blocks : Cond.instanceMethod yX2_blocks ∈ tT := tT_2 (i := 24) (by decide +kernel) rfl
theorem kS_yX2_blocks : Cond.selects yX2_blocks.cls yX2_blocks yX2_blocks ∈ tT := tT_2 (i := 25) (by decide +kernel) rfl
theorem kC_yX2_points : Cond.code yX2_points cX2_points 4 (some .int) ∈ tT := tT_2 (i := 31) (by decide +kernel) rfl
theorem kV_yX2_points : Cond.instanceMethod yX2_points ∈ tT := tT_2 (i := 29) (by decide +kernel) rfl
theorem kS_yX2_points : Cond.selects yX2_points.cls yX2_points yX2_points ∈ tT := tT_2 (i := 30) (by decide +kernel) rfl
theorem kC_yX2_pays : Cond.code yX2_pays cX2_pays 4 (some .int) ∈ tT := tT_3 (i := 89) (by decide +kernel) rfl
theorem kV_yX2_pays : Cond.instanceMethod yX2_pays ∈ tT := tT_3 (i := 87) (by decide +kernel) rfl
theorem kS_yX2_pays : Cond.selects yX2_pays.cls yX2_pays yX2_pays ∈ tT := tT_3 (i := 88) (by decide +kernel) rfl
theorem kC_yX3_length : Cond.code yX3_length cX3_length 1 (some .int) ∈ tT := tT_3 (i := 81) (by decide +kernel) rfl
theorem kV_yX3_length : Cond.instanceMethod yX3_length ∈ tT := tT_3 (i := 79) (by decide +kernel) rfl
theorem kS_yX3_length : Cond.selects yX3_length.cls yX3_length yX3_length ∈ tT := tT_3 (i := 80) (by decide +kernel) rfl
theorem kI_RX3 : Cond.initialized RX3 ∈ tT := tT_1 (i := 3) (by decide +kernel) rfl
theorem kC_yX3_bits : Cond.code yX3_bits cX3_bits 1 (some .int) ∈ tT := tT_3 (i := 97) (by decide +kernel) rfl
theorem kV_yX3_bits : Cond.instanceMethod yX3_bits ∈ tT := tT_3 (i := 95) (by decide +kernel) rfl
theorem kS_yX3_bits : Cond.selects yX3_bits.cls yX3_bits yX3_bits ∈ tT := tT_3 (i := 96) (by decide +kernel) rfl
theorem kC_yX3_end : Cond.code yX3_end cX3_end 1 (some .int) ∈ tT := tT_3 (i := 77) (by decide +kernel) rfl
theorem kV_yX3_end : Cond.instanceMethod yX3_end ∈ tT := tT_3 (i := 75) (by decide +kernel) rfl
theorem kS_yX3_end : Cond.selects yX3_end.cls yX3_end yX3_end ∈ tT := tT_3 (i := 76) (by decide +kernel) rfl
theorem kC_yX3_turnedAt : Cond.code yX3_turnedAt cX3_turnedAt 2 (some .int) ∈ tT := tT_3 (i := 23) (by decide +kernel) rfl
theorem kV_yX3_turnedAt : Cond.instanceMethod yX3_turnedAt ∈ tT := tT_3 (i := 21) (by decide +kernel) rfl
theorem kS_yX3_turnedAt : Cond.selects yX3_turnedAt.cls yX3_turnedAt yX3_turnedAt ∈ tT := tT_3 (i := 22) (by decide +kernel) rfl
theorem kC_yX3_last : Cond.code yX3_last cX3_last 1 (some .int) ∈ tT := tT_3 (i := 93) (by decide +kernel) rfl
theorem kV_yX3_last : Cond.instanceMethod yX3_last ∈ tT := tT_3 (i := 91) (by decide +kernel) rfl
theorem kS_yX3_last : Cond.selects yX3_last.cls yX3_last yX3_last ∈ tT := tT_3 (i := 92) (by decide +kernel) rfl
theorem kC_yX3_play : Cond.code yX3_play cX3_play 8 none ∈ tT := tT_3 (i := 8) (by decide +kernel) rfl
theorem kV_yX3_play : Cond.instanceMethod yX3_play ∈ tT := tT_3 (i := 6) (by decide +kernel) rfl
theorem kS_yX3_play : Cond.selects yX3_play.cls yX3_play yX3_play ∈ tT := tT_3 (i := 7) (by decide +kernel) rfl
theorem kC_yX3_worth : Cond.code yX3_worth cX3_worth 6 (some .int) ∈ tT := tT_3 (i := 85) (by decide +kernel) rfl
theorem kV_yX3_worth : Cond.instanceMethod yX3_worth ∈ tT := tT_3 (i := 83) (by decide +kernel) rfl
theorem kS_yX3_worth : Cond.selects yX3_worth.cls yX3_worth yX3_worth ∈ tT := tT_3 (i := 84) (by decide +kernel) rfl
theorem kC_yX3_turn : Cond.code yX3_turn cX3_turn 2 none ∈ tT := tT_3 (i := 14) (by decide +kernel) rfl
theorem kV_yX3_turn : Cond.instanceMethod yX3_turn ∈ tT := tT_3 (i := 13) (by decide +kernel) rfl
theorem kS_yX3_turn : Cond.selects yX3_turn.cls yX3_turn yX3_turn ∈ tT := tT_0 (i := 15) (by decide +kernel) rfl
theorem kC_yX3_isTurned : Cond.code yX3_isTurned cX3_isTurned 2 (some .boolean) ∈ tT := tT_3 (i := 73) (by decide +kernel) rfl
theorem kV_yX3_isTurned : Cond.instanceMethod yX3_isTurned ∈ tT := tT_3 (i := 72) (by decide +kernel) rfl
theorem kS_yX3_isTurned : Cond.selects yX3_isTurned.cls yX3_isTurned yX3_isTurned ∈ tT := tT_0 (i := 22) (by decide +kernel) rfl
theorem kC_yX3_before : Cond.code yX3_before cX3_before 2 (some .int) ∈ tT := tT_3 (i := 31) (by decide +kernel) rfl
theorem kV_yX3_before : Cond.instanceMethod yX3_before ∈ tT := tT_3 (i := 30) (by decide +kernel) rfl
theorem kS_yX3_before : Cond.selects yX3_before.cls yX3_before yX3_before ∈ tT := tT_0 (i := 18) (by decide +kernel) rfl
theorem kC_yX3_further : Cond.code yX3_further cX3_further 2 (some .int) ∈ tT := tT_3 (i := 37) (by decide +kernel) rfl
theorem kV_yX3_further : Cond.instanceMethod yX3_further ∈ tT := tT_3 (i := 36) (by decide +kernel) rfl
theorem kS_yX3_further : Cond.selects yX3_further.cls yX3_further yX3_further ∈ tT := tT_0 (i := 19) (by decide +kernel) rfl
theorem kC_yX3_nextPlace : Cond.code yX3_nextPlace cX3_nextPlace 7 (some .int) ∈ tT := tT_3 (i := 69) (by decide +kernel) rfl
theorem kV_yX3_nextPlace : Cond.instanceMethod yX3_nextPlace ∈ tT := tT_3 (i := 68) (by decide +kernel) rfl
theorem kS_yX3_nextPlace : Cond.selects yX3_nextPlace.cls yX3_nextPlace yX3_nextPlace ∈ tT := tT_0 (i := 21) (by decide +kernel) rfl
theorem kC_yX3_nameStep : Cond.code yX3_nameStep cX3_nameStep 4 none ∈ tT := tT_3 (i := 19) (by decide +kernel) rfl
theorem kV_yX3_nameStep : Cond.instanceMethod yX3_nameStep ∈ tT := tT_3 (i := 18) (by decide +kernel) rfl
theorem kS_yX3_nameStep : Cond.selects yX3_nameStep.cls yX3_nameStep yX3_nameStep ∈ tT := tT_0 (i := 16) (by decide +kernel) rfl
theorem kC_yX3_name : Cond.code yX3_name cX3_name 3 none ∈ tT := tT_3 (i := 27) (by decide +kernel) rfl
theorem kV_yX3_name : Cond.instanceMethod yX3_name ∈ tT := tT_3 (i := 26) (by decide +kernel) rfl
theorem kS_yX3_name : Cond.selects yX3_name.cls yX3_name yX3_name ∈ tT := tT_0 (i := 17) (by decide +kernel) rfl
theorem kC_yX3_within : Cond.code yX3_within cX3_within 3 (some .int) ∈ tT := tT_3 (i := 60) (by decide +kernel) rfl
theorem kT_yX3_within : Cond.static yX3_within ∈ tT := tT_3 (i := 59) (by decide +kernel) rfl
theorem kC_yX4_sort : Cond.code yX4_sort cX4_sort 1 (some .int) ∈ tT := tT_4 (i := 49) (by decide +kernel) rfl
theorem kV_yX4_sort : Cond.instanceMethod yX4_sort ∈ tT := tT_4 (i := 47) (by decide +kernel) rfl
theorem kS_yX4_sort : Cond.selects yX4_sort.cls yX4_sort yX4_sort ∈ tT := tT_4 (i := 48) (by decide +kernel) rfl
theorem kI_RX4 : Cond.initialized RX4 ∈ tT := tT_1 (i := 7) (by decide +kernel) rfl
theorem kC_yX4_size : Cond.code yX4_size cX4_size 1 (some .int) ∈ tT := tT_3 (i := 191) (by decide +kernel) rfl
theorem kV_yX4_size : Cond.instanceMethod yX4_size ∈ tT := tT_3 (i := 189) (by decide +kernel) rfl
theorem kS_yX4_size : Cond.selects yX4_size.cls yX4_size yX4_size ∈ tT := tT_3 (i := 190) (by decide +kernel) rfl
theorem kC_yX4_isMissing : Cond.code yX4_isMissing cX4_isMissing 1 (some .boolean) ∈ tT := tT_3 (i := 183) (by decide +kernel) rfl
theorem kV_yX4_isMissing : Cond.instanceMethod yX4_isMissing ∈ tT := tT_3 (i := 181) (by decide +kernel) rfl
theorem kS_yX4_isMissing : Cond.selects yX4_isMissing.cls yX4_isMissing yX4_isMissing ∈ tT := tT_3 (i := 182) (by decide +kernel) rfl
theorem kC_yX4_become : Cond.code yX4_become cX4_become 3 none ∈ tT := tT_3 (i := 227) (by decide +kernel) rfl
theorem kV_yX4_become : Cond.instanceMethod yX4_become ∈ tT := tT_3 (i := 225) (by decide +kernel) rfl
theorem kS_yX4_become : Cond.selects yX4_become.cls yX4_become yX4_become ∈ tT := tT_3 (i := 226) (by decide +kernel) rfl
theorem kC_yX4_has : Cond.code yX4_has cX4_has 2 (some .boolean) ∈ tT := tT_3 (i := 199) (by decide +kernel) rfl
theorem kV_yX4_has : Cond.instanceMethod yX4_has ∈ tT := tT_3 (i := 197) (by decide +kernel) rfl
theorem kS_yX4_has : Cond.selects yX4_has.cls yX4_has yX4_has ∈ tT := tT_3 (i := 198) (by decide +kernel) rfl
theorem kC_yX4_hasRow : Cond.code yX4_hasRow cX4_hasRow 3 (some .boolean) ∈ tT := tT_4 (i := 53) (by decide +kernel) rfl
theorem kV_yX4_hasRow : Cond.instanceMethod yX4_hasRow ∈ tT := tT_4 (i := 51) (by decide +kernel) rfl
theorem kS_yX4_hasRow : Cond.selects yX4_hasRow.cls yX4_hasRow yX4_hasRow ∈ tT := tT_4 (i := 52) (by decide +kernel) rfl
theorem kC_yX4_at : Cond.code yX4_at cX4_at 2 (some .int) ∈ tT := tT_3 (i := 195) (by decide +kernel) rfl
theorem kV_yX4_at : Cond.instanceMethod yX4_at ∈ tT := tT_3 (i := 193) (by decide +kernel) rfl
theorem kS_yX4_at : Cond.selects yX4_at.cls yX4_at yX4_at ∈ tT := tT_3 (i := 194) (by decide +kernel) rfl
theorem kC_yX4_set : Cond.code yX4_set cX4_set 3 none ∈ tT := tT_3 (i := 236) (by decide +kernel) rfl
theorem kV_yX4_set : Cond.instanceMethod yX4_set ∈ tT := tT_3 (i := 234) (by decide +kernel) rfl
theorem kS_yX4_set : Cond.selects yX4_set.cls yX4_set yX4_set ∈ tT := tT_3 (i := 235) (by decide +kernel) rfl
theorem kC_yX4_takeRow : Cond.code yX4_takeRow cX4_takeRow 5 none ∈ tT := tT_4 (i := 57) (by decide +kernel) rfl
theorem kV_yX4_takeRow : Cond.instanceMethod yX4_takeRow ∈ tT := tT_4 (i := 55) (by decide +kernel) rfl
theorem kS_yX4_takeRow : Cond.selects yX4_takeRow.cls yX4_takeRow yX4_takeRow ∈ tT := tT_4 (i := 56) (by decide +kernel) rfl
theorem kC_yX5_clear : Cond.code yX5_clear cX5_clear 1 none ∈ tT := tT_2 (i := 57) (by decide +kernel) rfl
theorem kV_yX5_clear : Cond.instanceMethod yX5_clear ∈ tT := tT_2 (i := 55) (by decide +kernel) rfl
theorem kS_yX5_clear : Cond.selects yX5_clear.cls yX5_clear yX5_clear ∈ tT := tT_2 (i := 56) (by decide +kernel) rfl
theorem kI_RX5 : Cond.initialized RX5 ∈ tT := tT_1 (i := 6) (by decide +kernel) rfl
theorem kC_yX5_add : Cond.code yX5_add cX5_add 2 none ∈ tT := tT_1 (i := 126) (by decide +kernel) rfl
theorem kV_yX5_add : Cond.instanceMethod yX5_add ∈ tT := tT_1 (i := 124) (by decide +kernel) rfl
theorem kS_yX5_add : Cond.selects yX5_add.cls yX5_add yX5_add ∈ tT := tT_1 (i := 125) (by decide +kernel) rfl
theorem kC_yX5_endPart : Cond.code yX5_endPart cX5_endPart 2 none ∈ tT := tT_1 (i := 130) (by decide +kernel) rfl
theorem kV_yX5_endPart : Cond.instanceMethod yX5_endPart ∈ tT := tT_1 (i := 128) (by decide +kernel) rfl
theorem kS_yX5_endPart : Cond.selects yX5_endPart.cls yX5_endPart yX5_endPart ∈ tT := tT_1 (i := 129) (by decide +kernel) rfl
theorem kC_yX5_tell : Cond.code yX5_tell cX5_tell 8 (some .int) ∈ tT := tT_3 (i := 41) (by decide +kernel) rfl
theorem kV_yX5_tell : Cond.instanceMethod yX5_tell ∈ tT := tT_3 (i := 39) (by decide +kernel) rfl
theorem kS_yX5_tell : Cond.selects yX5_tell.cls yX5_tell yX5_tell ∈ tT := tT_3 (i := 40) (by decide +kernel) rfl
theorem kC_yX5_endOf : Cond.code yX5_endOf cX5_endOf 2 (some .int) ∈ tT := tT_3 (i := 45) (by decide +kernel) rfl
theorem kV_yX5_endOf : Cond.instanceMethod yX5_endOf ∈ tT := tT_3 (i := 44) (by decide +kernel) rfl
theorem kS_yX5_endOf : Cond.selects yX5_endOf.cls yX5_endOf yX5_endOf ∈ tT := tT_0 (i := 20) (by decide +kernel) rfl
theorem kC_yX5_operand : Cond.code yX5_operand cX5_operand 2 (some .int) ∈ tT := tT_3 (i := 48) (by decide +kernel) rfl
theorem kT_yX5_operand : Cond.static yX5_operand ∈ tT := tT_3 (i := 47) (by decide +kernel) rfl
theorem kC_yX5_single : Cond.code yX5_single cX5_single 2 (some .int) ∈ tT := tT_3 (i := 51) (by decide +kernel) rfl
theorem kT_yX5_single : Cond.static yX5_single ∈ tT := tT_3 (i := 50) (by decide +kernel) rfl
theorem kC_yX5_both : Cond.code yX5_both cX5_both 3 (some .int) ∈ tT := tT_3 (i := 57) (by decide +kernel) rfl
theorem kT_yX5_both : Cond.static yX5_both ∈ tT := tT_3 (i := 56) (by decide +kernel) rfl
theorem kC_yX5_bit : Cond.code yX5_bit cX5_bit 1 (some .int) ∈ tT := tT_3 (i := 54) (by decide +kernel) rfl
theorem kT_yX5_bit : Cond.static yX5_bit ∈ tT := tT_3 (i := 53) (by decide +kernel) rfl
theorem kC_yX6_card : Cond.code yX6_card cX6_card 3 (some .int) ∈ tT := tT_1 (i := 196) (by decide +kernel) rfl
theorem kV_yX6_card : Cond.instanceMethod yX6_card ∈ tT := tT_1 (i := 194) (by decide +kernel) rfl
theorem kS_yX6_card : Cond.selects yX6_card.cls yX6_card yX6_card ∈ tT := tT_1 (i := 195) (by decide +kernel) rfl
theorem kI_RX6 : Cond.initialized RX6 ∈ tT := tT_1 (i := 1) (by decide +kernel) rfl
theorem kC_yX6_lay : Cond.code yX6_lay cX6_lay 5 (some .int) ∈ tT := tT_1 (i := 223) (by decide +kernel) rfl
theorem kV_yX6_lay : Cond.instanceMethod yX6_lay ∈ tT := tT_1 (i := 221) (by decide +kernel) rfl
theorem kS_yX6_lay : Cond.selects yX6_lay.cls yX6_lay yX6_lay ∈ tT := tT_1 (i := 222) (by decide +kernel) rfl
theorem kC_yX6_takeUp : Cond.code yX6_takeUp cX6_takeUp 2 (some .int) ∈ tT := tT_1 (i := 233) (by decide +kernel) rfl
theorem kV_yX6_takeUp : Cond.instanceMethod yX6_takeUp ∈ tT := tT_1 (i := 231) (by decide +kernel) rfl
theorem kS_yX6_takeUp : Cond.selects yX6_takeUp.cls yX6_takeUp yX6_takeUp ∈ tT := tT_1 (i := 232) (by decide +kernel) rfl
theorem kC_yX6_swap : Cond.code yX6_swap cX6_swap 3 (some .int) ∈ tT := tT_2 (i := 5) (by decide +kernel) rfl
theorem kV_yX6_swap : Cond.instanceMethod yX6_swap ∈ tT := tT_2 (i := 3) (by decide +kernel) rfl
theorem kS_yX6_swap : Cond.selects yX6_swap.cls yX6_swap yX6_swap ∈ tT := tT_2 (i := 4) (by decide +kernel) rfl
theorem kC_yX6_told : Cond.code yX6_told cX6_told 3 (some .int) ∈ tT := tT_2 (i := 14) (by decide +kernel) rfl
theorem kV_yX6_told : Cond.instanceMethod yX6_told ∈ tT := tT_2 (i := 12) (by decide +kernel) rfl
theorem kS_yX6_told : Cond.selects yX6_told.cls yX6_told yX6_told ∈ tT := tT_2 (i := 13) (by decide +kernel) rfl
theorem kC_yX6_feed : Cond.code yX6_feed cX6_feed 2 (some .int) ∈ tT := tT_2 (i := 36) (by decide +kernel) rfl
theorem kV_yX6_feed : Cond.instanceMethod yX6_feed ∈ tT := tT_2 (i := 34) (by decide +kernel) rfl
theorem kS_yX6_feed : Cond.selects yX6_feed.cls yX6_feed yX6_feed ∈ tT := tT_2 (i := 35) (by decide +kernel) rfl
theorem kC_yX6_text : Cond.code yX6_text cX6_text 3 (some .int) ∈ tT := tT_2 (i := 49) (by decide +kernel) rfl
theorem kV_yX6_text : Cond.instanceMethod yX6_text ∈ tT := tT_2 (i := 47) (by decide +kernel) rfl
theorem kS_yX6_text : Cond.selects yX6_text.cls yX6_text yX6_text ∈ tT := tT_2 (i := 48) (by decide +kernel) rfl
theorem kC_yX6_force : Cond.code yX6_force cX6_force 3 (some .int) ∈ tT := tT_2 (i := 235) (by decide +kernel) rfl
theorem kV_yX6_force : Cond.instanceMethod yX6_force ∈ tT := tT_2 (i := 233) (by decide +kernel) rfl
theorem kS_yX6_force : Cond.selects yX6_force.cls yX6_force yX6_force ∈ tT := tT_2 (i := 234) (by decide +kernel) rfl
theorem kC_yX6_round : Cond.code yX6_round cX6_round 5 (some .int) ∈ tT := tT_3 (i := 3) (by decide +kernel) rfl
theorem kV_yX6_round : Cond.instanceMethod yX6_round ∈ tT := tT_3 (i := 1) (by decide +kernel) rfl
theorem kS_yX6_round : Cond.selects yX6_round.cls yX6_round yX6_round ∈ tT := tT_3 (i := 2) (by decide +kernel) rfl
theorem kC_yX6_harvests : Cond.code yX6_harvests cX6_harvests 3 (some .int) ∈ tT := tT_3 (i := 102) (by decide +kernel) rfl
theorem kV_yX6_harvests : Cond.instanceMethod yX6_harvests ∈ tT := tT_3 (i := 100) (by decide +kernel) rfl
theorem kS_yX6_harvests : Cond.selects yX6_harvests.cls yX6_harvests yX6_harvests ∈ tT := tT_3 (i := 101) (by decide +kernel) rfl
theorem kC_yX6_best : Cond.code yX6_best cX6_best 6 (some .int) ∈ tT := tT_3 (i := 110) (by decide +kernel) rfl
theorem kV_yX6_best : Cond.instanceMethod yX6_best ∈ tT := tT_3 (i := 108) (by decide +kernel) rfl
theorem kS_yX6_best : Cond.selects yX6_best.cls yX6_best yX6_best ∈ tT := tT_3 (i := 109) (by decide +kernel) rfl
theorem kC_yX6_change : Cond.code yX6_change cX6_change 8 (some .int) ∈ tT := tT_3 (i := 121) (by decide +kernel) rfl
theorem kV_yX6_change : Cond.instanceMethod yX6_change ∈ tT := tT_3 (i := 119) (by decide +kernel) rfl
theorem kS_yX6_change : Cond.selects yX6_change.cls yX6_change yX6_change ∈ tT := tT_3 (i := 120) (by decide +kernel) rfl
theorem kC_yX6_anew : Cond.code yX6_anew cX6_anew 7 (some .int) ∈ tT := tT_3 (i := 132) (by decide +kernel) rfl
theorem kV_yX6_anew : Cond.instanceMethod yX6_anew ∈ tT := tT_3 (i := 130) (by decide +kernel) rfl
theorem kS_yX6_anew : Cond.selects yX6_anew.cls yX6_anew yX6_anew ∈ tT := tT_3 (i := 131) (by decide +kernel) rfl
theorem kC_yX6_hay : Cond.code yX6_hay cX6_hay 7 (some .int) ∈ tT := tT_3 (i := 136) (by decide +kernel) rfl
theorem kV_yX6_hay : Cond.instanceMethod yX6_hay ∈ tT := tT_3 (i := 134) (by decide +kernel) rfl
theorem kS_yX6_hay : Cond.selects yX6_hay.cls yX6_hay yX6_hay ∈ tT := tT_3 (i := 135) (by decide +kernel) rfl
theorem kC_yX6_layings : Cond.code yX6_layings cX6_layings 6 (some .int) ∈ tT := tT_3 (i := 140) (by decide +kernel) rfl
theorem kV_yX6_layings : Cond.instanceMethod yX6_layings ∈ tT := tT_3 (i := 138) (by decide +kernel) rfl
theorem kS_yX6_layings : Cond.selects yX6_layings.cls yX6_layings yX6_layings ∈ tT := tT_3 (i := 139) (by decide +kernel) rfl
theorem kC_yX6_tells : Cond.code yX6_tells cX6_tells 4 (some .int) ∈ tT := tT_3 (i := 171) (by decide +kernel) rfl
theorem kV_yX6_tells : Cond.instanceMethod yX6_tells ∈ tT := tT_3 (i := 169) (by decide +kernel) rfl
theorem kS_yX6_tells : Cond.selects yX6_tells.cls yX6_tells yX6_tells ∈ tT := tT_3 (i := 170) (by decide +kernel) rfl
theorem kC_yX6_film : Cond.code yX6_film cX6_film 5 (some .int) ∈ tT := tT_3 (i := 223) (by decide +kernel) rfl
theorem kV_yX6_film : Cond.instanceMethod yX6_film ∈ tT := tT_3 (i := 221) (by decide +kernel) rfl
theorem kS_yX6_film : Cond.selects yX6_film.cls yX6_film yX6_film ∈ tT := tT_3 (i := 222) (by decide +kernel) rfl
theorem kC_yX6_drawn : Cond.code yX6_drawn cX6_drawn 2 (some .int) ∈ tT := tT_4 (i := 0) (by decide +kernel) rfl
theorem kV_yX6_drawn : Cond.instanceMethod yX6_drawn ∈ tT := tT_3 (i := 238) (by decide +kernel) rfl
theorem kS_yX6_drawn : Cond.selects yX6_drawn.cls yX6_drawn yX6_drawn ∈ tT := tT_3 (i := 239) (by decide +kernel) rfl
theorem kC_yX6_chance : Cond.code yX6_chance cX6_chance 6 (some .long) ∈ tT := tT_4 (i := 9) (by decide +kernel) rfl
theorem kV_yX6_chance : Cond.instanceMethod yX6_chance ∈ tT := tT_4 (i := 7) (by decide +kernel) rfl
theorem kS_yX6_chance : Cond.selects yX6_chance.cls yX6_chance yX6_chance ∈ tT := tT_4 (i := 8) (by decide +kernel) rfl
theorem kC_yX6_image : Cond.code yX6_image cX6_image 1 (some .int) ∈ tT := tT_4 (i := 17) (by decide +kernel) rfl
theorem kV_yX6_image : Cond.instanceMethod yX6_image ∈ tT := tT_4 (i := 15) (by decide +kernel) rfl
theorem kS_yX6_image : Cond.selects yX6_image.cls yX6_image yX6_image ∈ tT := tT_4 (i := 16) (by decide +kernel) rfl
theorem kC_yX6_back : Cond.code yX6_back cX6_back 1 (some .int) ∈ tT := tT_4 (i := 21) (by decide +kernel) rfl
theorem kV_yX6_back : Cond.instanceMethod yX6_back ∈ tT := tT_4 (i := 19) (by decide +kernel) rfl
theorem kS_yX6_back : Cond.selects yX6_back.cls yX6_back yX6_back ∈ tT := tT_4 (i := 20) (by decide +kernel) rfl
theorem kC_yX6_count : Cond.code yX6_count cX6_count 2 (some .int) ∈ tT := tT_4 (i := 25) (by decide +kernel) rfl
theorem kV_yX6_count : Cond.instanceMethod yX6_count ∈ tT := tT_4 (i := 23) (by decide +kernel) rfl
theorem kS_yX6_count : Cond.selects yX6_count.cls yX6_count yX6_count ∈ tT := tT_4 (i := 24) (by decide +kernel) rfl
theorem kC_yX6_sheet : Cond.code yX6_sheet cX6_sheet 5 (some .int) ∈ tT := tT_4 (i := 33) (by decide +kernel) rfl
theorem kV_yX6_sheet : Cond.instanceMethod yX6_sheet ∈ tT := tT_4 (i := 31) (by decide +kernel) rfl
theorem kS_yX6_sheet : Cond.selects yX6_sheet.cls yX6_sheet yX6_sheet ∈ tT := tT_4 (i := 32) (by decide +kernel) rfl
theorem kC_yX6_cell : Cond.code yX6_cell cX6_cell 5 (some .int) ∈ tT := tT_4 (i := 40) (by decide +kernel) rfl
theorem kV_yX6_cell : Cond.instanceMethod yX6_cell ∈ tT := tT_4 (i := 38) (by decide +kernel) rfl
theorem kS_yX6_cell : Cond.selects yX6_cell.cls yX6_cell yX6_cell ∈ tT := tT_4 (i := 39) (by decide +kernel) rfl
theorem kC_yX6_copy : Cond.code yX6_copy cX6_copy 8 (some .int) ∈ tT := tT_4 (i := 45) (by decide +kernel) rfl
theorem kV_yX6_copy : Cond.instanceMethod yX6_copy ∈ tT := tT_4 (i := 43) (by decide +kernel) rfl
theorem kS_yX6_copy : Cond.selects yX6_copy.cls yX6_copy yX6_copy ∈ tT := tT_4 (i := 44) (by decide +kernel) rfl
theorem kC_yX6_cards : Cond.code yX6_cards cX6_cards 9 (some .int) ∈ tT := tT_4 (i := 63) (by decide +kernel) rfl
theorem kV_yX6_cards : Cond.instanceMethod yX6_cards ∈ tT := tT_4 (i := 61) (by decide +kernel) rfl
theorem kS_yX6_cards : Cond.selects yX6_cards.cls yX6_cards yX6_cards ∈ tT := tT_4 (i := 62) (by decide +kernel) rfl
theorem kC_yX6_taken : Cond.code yX6_taken cX6_taken 3 (some .int) ∈ tT := tT_4 (i := 68) (by decide +kernel) rfl
theorem kV_yX6_taken : Cond.instanceMethod yX6_taken ∈ tT := tT_4 (i := 66) (by decide +kernel) rfl
theorem kS_yX6_taken : Cond.selects yX6_taken.cls yX6_taken yX6_taken ∈ tT := tT_4 (i := 67) (by decide +kernel) rfl
theorem kC_yX6_isCard : Cond.code yX6_isCard cX6_isCard 2 (some .boolean) ∈ tT := tT_1 (i := 199) (by decide +kernel) rfl
theorem kT_yX6_isCard : Cond.static yX6_isCard ∈ tT := tT_1 (i := 198) (by decide +kernel) rfl
theorem kC_yX6_cardOf : Cond.code yX6_cardOf cX6_cardOf 2 (some .int) ∈ tT := tT_1 (i := 206) (by decide +kernel) rfl
theorem kT_yX6_cardOf : Cond.static yX6_cardOf ∈ tT := tT_1 (i := 205) (by decide +kernel) rfl
theorem kC_yX6_isUnder : Cond.code yX6_isUnder cX6_isUnder 4 (some .boolean) ∈ tT := tT_4 (i := 71) (by decide +kernel) rfl
theorem kT_yX6_isUnder : Cond.static yX6_isUnder ∈ tT := tT_4 (i := 70) (by decide +kernel) rfl
theorem kC_yX6_isFirstOrSecond : Cond.code yX6_isFirstOrSecond cX6_isFirstOrSecond 1 (some .boolean) ∈ tT := tT_3 (i := 113) (by decide +kernel) rfl
theorem kT_yX6_isFirstOrSecond : Cond.static yX6_isFirstOrSecond ∈ tT := tT_3 (i := 112) (by decide +kernel) rfl
theorem kC_yX6_isSort : Cond.code yX6_isSort cX6_isSort 1 (some .boolean) ∈ tT := tT_4 (i := 36) (by decide +kernel) rfl
theorem kT_yX6_isSort : Cond.static yX6_isSort ∈ tT := tT_4 (i := 35) (by decide +kernel) rfl
theorem kC_yX6_commonDivisor : Cond.code yX6_commonDivisor cX6_commonDivisor 3 (some .int) ∈ tT := tT_4 (i := 13) (by decide +kernel) rfl
theorem kT_yX6_commonDivisor : Cond.static yX6_commonDivisor ∈ tT := tT_4 (i := 12) (by decide +kernel) rfl
theorem kC_yX6_textAt : Cond.code yX6_textAt cX6_textAt 2 (some ((.object "SevenInTheHay$Text"))) ∈ tT := tT_2 (i := 239) (by decide +kernel) rfl
theorem kV_yX6_textAt : Cond.instanceMethod yX6_textAt ∈ tT := tT_2 (i := 238) (by decide +kernel) rfl
theorem kS_yX6_textAt : Cond.selects yX6_textAt.cls yX6_textAt yX6_textAt ∈ tT := tT_0 (i := 14) (by decide +kernel) rfl
theorem kC_yX6_sheetAt : Cond.code yX6_sheetAt cX6_sheetAt 2 (some ((.object "SevenInTheHay$Sheet"))) ∈ tT := tT_3 (i := 175) (by decide +kernel) rfl
theorem kV_yX6_sheetAt : Cond.instanceMethod yX6_sheetAt ∈ tT := tT_3 (i := 174) (by decide +kernel) rfl
theorem kS_yX6_sheetAt : Cond.selects yX6_sheetAt.cls yX6_sheetAt yX6_sheetAt ∈ tT := tT_0 (i := 27) (by decide +kernel) rfl
theorem kC_yX6_lengthOf : Cond.code yX6_lengthOf cX6_lengthOf 3 (some .int) ∈ tT := tT_3 (i := 117) (by decide +kernel) rfl
theorem kV_yX6_lengthOf : Cond.instanceMethod yX6_lengthOf ∈ tT := tT_3 (i := 116) (by decide +kernel) rfl
theorem kS_yX6_lengthOf : Cond.selects yX6_lengthOf.cls yX6_lengthOf yX6_lengthOf ∈ tT := tT_0 (i := 24) (by decide +kernel) rfl
theorem kC_yX6_isHarvest : Cond.code yX6_isHarvest cX6_isHarvest 3 (some .boolean) ∈ tT := tT_3 (i := 106) (by decide +kernel) rfl
theorem kV_yX6_isHarvest : Cond.instanceMethod yX6_isHarvest ∈ tT := tT_3 (i := 105) (by decide +kernel) rfl
theorem kS_yX6_isHarvest : Cond.selects yX6_isHarvest.cls yX6_isHarvest yX6_isHarvest ∈ tT := tT_0 (i := 23) (by decide +kernel) rfl
theorem kC_yX6_layInOrder : Cond.code yX6_layInOrder cX6_layInOrder 2 none ∈ tT := tT_3 (i := 150) (by decide +kernel) rfl
theorem kV_yX6_layInOrder : Cond.instanceMethod yX6_layInOrder ∈ tT := tT_3 (i := 149) (by decide +kernel) rfl
theorem kS_yX6_layInOrder : Cond.selects yX6_layInOrder.cls yX6_layInOrder yX6_layInOrder ∈ tT := tT_0 (i := 25) (by decide +kernel) rfl
theorem kC_yX6_draw : Cond.code yX6_draw cX6_draw 4 none ∈ tT := tT_4 (i := 4) (by decide +kernel) rfl
theorem kV_yX6_draw : Cond.instanceMethod yX6_draw ∈ tT := tT_4 (i := 3) (by decide +kernel) rfl
theorem kS_yX6_draw : Cond.selects yX6_draw.cls yX6_draw yX6_draw ∈ tT := tT_0 (i := 35) (by decide +kernel) rfl
theorem kC_yX6_asksOfTold : Cond.code yX6_asksOfTold cX6_asksOfTold 2 (some .boolean) ∈ tT := tT_3 (i := 179) (by decide +kernel) rfl
theorem kV_yX6_asksOfTold : Cond.instanceMethod yX6_asksOfTold ∈ tT := tT_3 (i := 178) (by decide +kernel) rfl
theorem kS_yX6_asksOfTold : Cond.selects yX6_asksOfTold.cls yX6_asksOfTold yX6_asksOfTold ∈ tT := tT_0 (i := 28) (by decide +kernel) rfl
theorem kC_yX6_tellsPlaces : Cond.code yX6_tellsPlaces cX6_tellsPlaces 3 (some .boolean) ∈ tT := tT_3 (i := 187) (by decide +kernel) rfl
theorem kV_yX6_tellsPlaces : Cond.instanceMethod yX6_tellsPlaces ∈ tT := tT_3 (i := 186) (by decide +kernel) rfl
theorem kS_yX6_tellsPlaces : Cond.selects yX6_tellsPlaces.cls yX6_tellsPlaces yX6_tellsPlaces ∈ tT := tT_0 (i := 29) (by decide +kernel) rfl
theorem kC_yX6_otherwise : Cond.code yX6_otherwise cX6_otherwise 5 (some .int) ∈ tT := tT_3 (i := 203) (by decide +kernel) rfl
theorem kV_yX6_otherwise : Cond.instanceMethod yX6_otherwise ∈ tT := tT_3 (i := 202) (by decide +kernel) rfl
theorem kS_yX6_otherwise : Cond.selects yX6_otherwise.cls yX6_otherwise yX6_otherwise ∈ tT := tT_0 (i := 30) (by decide +kernel) rfl
theorem kC_yX6_startsOf : Cond.code yX6_startsOf cX6_startsOf 5 (some .int) ∈ tT := tT_3 (i := 207) (by decide +kernel) rfl
theorem kV_yX6_startsOf : Cond.instanceMethod yX6_startsOf ∈ tT := tT_3 (i := 206) (by decide +kernel) rfl
theorem kS_yX6_startsOf : Cond.selects yX6_startsOf.cls yX6_startsOf yX6_startsOf ∈ tT := tT_0 (i := 31) (by decide +kernel) rfl
theorem kC_yX6_textsOf : Cond.code yX6_textsOf cX6_textsOf 4 (some .int) ∈ tT := tT_3 (i := 211) (by decide +kernel) rfl
theorem kV_yX6_textsOf : Cond.instanceMethod yX6_textsOf ∈ tT := tT_3 (i := 210) (by decide +kernel) rfl
theorem kS_yX6_textsOf : Cond.selects yX6_textsOf.cls yX6_textsOf yX6_textsOf ∈ tT := tT_0 (i := 32) (by decide +kernel) rfl
theorem kC_yX6_kindsOf : Cond.code yX6_kindsOf cX6_kindsOf 5 (some .int) ∈ tT := tT_3 (i := 215) (by decide +kernel) rfl
theorem kV_yX6_kindsOf : Cond.instanceMethod yX6_kindsOf ∈ tT := tT_3 (i := 214) (by decide +kernel) rfl
theorem kS_yX6_kindsOf : Cond.selects yX6_kindsOf.cls yX6_kindsOf yX6_kindsOf ∈ tT := tT_0 (i := 33) (by decide +kernel) rfl
theorem kC_yX6_numbersOf : Cond.code yX6_numbersOf cX6_numbersOf 5 (some .int) ∈ tT := tT_3 (i := 219) (by decide +kernel) rfl
theorem kV_yX6_numbersOf : Cond.instanceMethod yX6_numbersOf ∈ tT := tT_3 (i := 218) (by decide +kernel) rfl
theorem kS_yX6_numbersOf : Cond.selects yX6_numbersOf.cls yX6_numbersOf yX6_numbersOf ∈ tT := tT_0 (i := 34) (by decide +kernel) rfl
theorem kC_yX7_in : Cond.code yX7_in cX7_in 6 (some .boolean) ∈ tT := tT_4 (i := 218) (by decide +kernel) rfl
theorem kT_yX7_in : Cond.static yX7_in ∈ tT := tT_4 (i := 217) (by decide +kernel) rfl
theorem kI_RX7 : Cond.initialized RX7 ∈ tT := tT_1 (i := 8) (by decide +kernel) rfl
theorem kC_yX7_within : Cond.code yX7_within cX7_within 3 (some .int) ∈ tT := tT_5 (i := 122) (by decide +kernel) rfl
theorem kT_yX7_within : Cond.static yX7_within ∈ tT := tT_5 (i := 121) (by decide +kernel) rfl
theorem kC_yX7_spell : Cond.code yX7_spell cX7_spell 10 none ∈ tT := tT_4 (i := 83) (by decide +kernel) rfl
theorem kV_yX7_spell : Cond.instanceMethod yX7_spell ∈ tT := tT_4 (i := 82) (by decide +kernel) rfl
theorem kS_yX7_spell : Cond.selects yX7_spell.cls yX7_spell yX7_spell ∈ tT := tT_0 (i := 36) (by decide +kernel) rfl
theorem kC_yX7_isPlace : Cond.code yX7_isPlace cX7_isPlace 2 (some .boolean) ∈ tT := tT_4 (i := 231) (by decide +kernel) rfl
theorem kV_yX7_isPlace : Cond.instanceMethod yX7_isPlace ∈ tT := tT_4 (i := 230) (by decide +kernel) rfl
theorem kS_yX7_isPlace : Cond.selects yX7_isPlace.cls yX7_isPlace yX7_isPlace ∈ tT := tT_0 (i := 38) (by decide +kernel) rfl
theorem kC_yX7_isCard : Cond.code yX7_isCard cX7_isCard 2 (some .boolean) ∈ tT := tT_4 (i := 214) (by decide +kernel) rfl
theorem kT_yX7_isCard : Cond.static yX7_isCard ∈ tT := tT_4 (i := 213) (by decide +kernel) rfl
theorem kC_yX7_codeOf : Cond.code yX7_codeOf cX7_codeOf 2 (some .int) ∈ tT := tT_4 (i := 235) (by decide +kernel) rfl
theorem kV_yX7_codeOf : Cond.instanceMethod yX7_codeOf ∈ tT := tT_4 (i := 234) (by decide +kernel) rfl
theorem kS_yX7_codeOf : Cond.selects yX7_codeOf.cls yX7_codeOf yX7_codeOf ∈ tT := tT_0 (i := 39) (by decide +kernel) rfl
theorem kC_yX7_puts : Cond.code yX7_puts cX7_puts 3 none ∈ tT := tT_4 (i := 223) (by decide +kernel) rfl
theorem kV_yX7_puts : Cond.instanceMethod yX7_puts ∈ tT := tT_4 (i := 222) (by decide +kernel) rfl
theorem kS_yX7_puts : Cond.selects yX7_puts.cls yX7_puts yX7_puts ∈ tT := tT_0 (i := 37) (by decide +kernel) rfl
theorem kC_yX7_card : Cond.code yX7_card cX7_card 3 (some .int) ∈ tT := tT_4 (i := 211) (by decide +kernel) rfl
theorem kV_yX7_card : Cond.instanceMethod yX7_card ∈ tT := tT_4 (i := 209) (by decide +kernel) rfl
theorem kS_yX7_card : Cond.selects yX7_card.cls yX7_card yX7_card ∈ tT := tT_4 (i := 210) (by decide +kernel) rfl
theorem kC_yX7_lay : Cond.code yX7_lay cX7_lay 5 (some .int) ∈ tT := tT_4 (i := 227) (by decide +kernel) rfl
theorem kV_yX7_lay : Cond.instanceMethod yX7_lay ∈ tT := tT_4 (i := 225) (by decide +kernel) rfl
theorem kS_yX7_lay : Cond.selects yX7_lay.cls yX7_lay yX7_lay ∈ tT := tT_4 (i := 226) (by decide +kernel) rfl
theorem kC_yX7_takeUp : Cond.code yX7_takeUp cX7_takeUp 1 (some .int) ∈ tT := tT_4 (i := 239) (by decide +kernel) rfl
theorem kV_yX7_takeUp : Cond.instanceMethod yX7_takeUp ∈ tT := tT_4 (i := 237) (by decide +kernel) rfl
theorem kS_yX7_takeUp : Cond.selects yX7_takeUp.cls yX7_takeUp yX7_takeUp ∈ tT := tT_4 (i := 238) (by decide +kernel) rfl
theorem kC_yX7_exchanges : Cond.code yX7_exchanges cX7_exchanges 4 none ∈ tT := tT_5 (i := 7) (by decide +kernel) rfl
theorem kV_yX7_exchanges : Cond.instanceMethod yX7_exchanges ∈ tT := tT_5 (i := 6) (by decide +kernel) rfl
theorem kS_yX7_exchanges : Cond.selects yX7_exchanges.cls yX7_exchanges yX7_exchanges ∈ tT := tT_0 (i := 40) (by decide +kernel) rfl
theorem kC_yX7_swap : Cond.code yX7_swap cX7_swap 3 (some .int) ∈ tT := tT_5 (i := 3) (by decide +kernel) rfl
theorem kV_yX7_swap : Cond.instanceMethod yX7_swap ∈ tT := tT_5 (i := 1) (by decide +kernel) rfl
theorem kS_yX7_swap : Cond.selects yX7_swap.cls yX7_swap yX7_swap ∈ tT := tT_5 (i := 2) (by decide +kernel) rfl
theorem kC_yX7_pointsOf : Cond.code yX7_pointsOf cX7_pointsOf 5 (some .int) ∈ tT := tT_5 (i := 16) (by decide +kernel) rfl
theorem kV_yX7_pointsOf : Cond.instanceMethod yX7_pointsOf ∈ tT := tT_5 (i := 15) (by decide +kernel) rfl
theorem kS_yX7_pointsOf : Cond.selects yX7_pointsOf.cls yX7_pointsOf yX7_pointsOf ∈ tT := tT_0 (i := 41) (by decide +kernel) rfl
theorem kC_yX7_told : Cond.code yX7_told cX7_told 3 (some .int) ∈ tT := tT_5 (i := 11) (by decide +kernel) rfl
theorem kV_yX7_told : Cond.instanceMethod yX7_told ∈ tT := tT_5 (i := 9) (by decide +kernel) rfl
theorem kS_yX7_told : Cond.selects yX7_told.cls yX7_told yX7_told ∈ tT := tT_5 (i := 10) (by decide +kernel) rfl
theorem kC_yX7_feed : Cond.code yX7_feed cX7_feed 2 (some .int) ∈ tT := tT_5 (i := 20) (by decide +kernel) rfl
theorem kV_yX7_feed : Cond.instanceMethod yX7_feed ∈ tT := tT_5 (i := 18) (by decide +kernel) rfl
theorem kS_yX7_feed : Cond.selects yX7_feed.cls yX7_feed yX7_feed ∈ tT := tT_5 (i := 19) (by decide +kernel) rfl
theorem kC_yX7_byteAt : Cond.code yX7_byteAt cX7_byteAt 2 (some .int) ∈ tT := tT_5 (i := 37) (by decide +kernel) rfl
theorem kV_yX7_byteAt : Cond.instanceMethod yX7_byteAt ∈ tT := tT_5 (i := 36) (by decide +kernel) rfl
theorem kS_yX7_byteAt : Cond.selects yX7_byteAt.cls yX7_byteAt yX7_byteAt ∈ tT := tT_0 (i := 44) (by decide +kernel) rfl
theorem kC_yX7_next : Cond.code yX7_next cX7_next 3 none ∈ tT := tT_5 (i := 33) (by decide +kernel) rfl
theorem kV_yX7_next : Cond.instanceMethod yX7_next ∈ tT := tT_5 (i := 32) (by decide +kernel) rfl
theorem kS_yX7_next : Cond.selects yX7_next.cls yX7_next yX7_next ∈ tT := tT_0 (i := 43) (by decide +kernel) rfl
theorem kC_yX7_fail : Cond.code yX7_fail cX7_fail 1 none ∈ tT := tT_5 (i := 58) (by decide +kernel) rfl
theorem kV_yX7_fail : Cond.instanceMethod yX7_fail ∈ tT := tT_5 (i := 57) (by decide +kernel) rfl
theorem kS_yX7_fail : Cond.selects yX7_fail.cls yX7_fail yX7_fail ∈ tT := tT_0 (i := 48) (by decide +kernel) rfl
theorem kC_yX7_isLetter : Cond.code yX7_isLetter cX7_isLetter 3 (some .boolean) ∈ tT := tT_5 (i := 50) (by decide +kernel) rfl
theorem kV_yX7_isLetter : Cond.instanceMethod yX7_isLetter ∈ tT := tT_5 (i := 49) (by decide +kernel) rfl
theorem kS_yX7_isLetter : Cond.selects yX7_isLetter.cls yX7_isLetter yX7_isLetter ∈ tT := tT_0 (i := 46) (by decide +kernel) rfl
theorem kC_yX7_isWord : Cond.code yX7_isWord cX7_isWord 9 (some .boolean) ∈ tT := tT_5 (i := 46) (by decide +kernel) rfl
theorem kV_yX7_isWord : Cond.instanceMethod yX7_isWord ∈ tT := tT_5 (i := 45) (by decide +kernel) rfl
theorem kS_yX7_isWord : Cond.selects yX7_isWord.cls yX7_isWord yX7_isWord ∈ tT := tT_0 (i := 45) (by decide +kernel) rfl
theorem kC_yX7_isSign : Cond.code yX7_isSign cX7_isSign 2 (some .boolean) ∈ tT := tT_5 (i := 90) (by decide +kernel) rfl
theorem kV_yX7_isSign : Cond.instanceMethod yX7_isSign ∈ tT := tT_5 (i := 89) (by decide +kernel) rfl
theorem kS_yX7_isSign : Cond.selects yX7_isSign.cls yX7_isSign yX7_isSign ∈ tT := tT_0 (i := 56) (by decide +kernel) rfl
theorem kC_yX7_opens : Cond.code yX7_opens cX7_opens 1 (some .boolean) ∈ tT := tT_5 (i := 74) (by decide +kernel) rfl
theorem kV_yX7_opens : Cond.instanceMethod yX7_opens ∈ tT := tT_5 (i := 73) (by decide +kernel) rfl
theorem kS_yX7_opens : Cond.selects yX7_opens.cls yX7_opens yX7_opens ∈ tT := tT_0 (i := 52) (by decide +kernel) rfl
theorem kC_yX7_name : Cond.code yX7_name cX7_name 1 (some .int) ∈ tT := tT_5 (i := 94) (by decide +kernel) rfl
theorem kV_yX7_name : Cond.instanceMethod yX7_name ∈ tT := tT_5 (i := 93) (by decide +kernel) rfl
theorem kS_yX7_name : Cond.selects yX7_name.cls yX7_name yX7_name ∈ tT := tT_0 (i := 57) (by decide +kernel) rfl
theorem kC_yX7_atom : Cond.code yX7_atom cX7_atom 2 (some .int) ∈ tT := tT_5 (i := 86) (by decide +kernel) rfl
theorem kV_yX7_atom : Cond.instanceMethod yX7_atom ∈ tT := tT_5 (i := 85) (by decide +kernel) rfl
theorem kS_yX7_atom : Cond.selects yX7_atom.cls yX7_atom yX7_atom ∈ tT := tT_0 (i := 55) (by decide +kernel) rfl
theorem kC_yX7_term : Cond.code yX7_term cX7_term 2 (some .int) ∈ tT := tT_5 (i := 82) (by decide +kernel) rfl
theorem kV_yX7_term : Cond.instanceMethod yX7_term ∈ tT := tT_5 (i := 81) (by decide +kernel) rfl
theorem kS_yX7_term : Cond.selects yX7_term.cls yX7_term yX7_term ∈ tT := tT_0 (i := 54) (by decide +kernel) rfl
theorem kC_yX7_added : Cond.code yX7_added cX7_added 4 (some .int) ∈ tT := tT_5 (i := 78) (by decide +kernel) rfl
theorem kV_yX7_added : Cond.instanceMethod yX7_added ∈ tT := tT_5 (i := 77) (by decide +kernel) rfl
theorem kS_yX7_added : Cond.selects yX7_added.cls yX7_added yX7_added ∈ tT := tT_0 (i := 53) (by decide +kernel) rfl
theorem kC_yX7_not : Cond.code yX7_not cX7_not 4 (some .int) ∈ tT := tT_5 (i := 70) (by decide +kernel) rfl
theorem kV_yX7_not : Cond.instanceMethod yX7_not ∈ tT := tT_5 (i := 69) (by decide +kernel) rfl
theorem kS_yX7_not : Cond.selects yX7_not.cls yX7_not yX7_not ∈ tT := tT_0 (i := 51) (by decide +kernel) rfl
theorem kC_yX7_both : Cond.code yX7_both cX7_both 3 (some .int) ∈ tT := tT_5 (i := 66) (by decide +kernel) rfl
theorem kV_yX7_both : Cond.instanceMethod yX7_both ∈ tT := tT_5 (i := 65) (by decide +kernel) rfl
theorem kS_yX7_both : Cond.selects yX7_both.cls yX7_both yX7_both ∈ tT := tT_0 (i := 50) (by decide +kernel) rfl
theorem kC_yX7_either : Cond.code yX7_either cX7_either 3 (some .int) ∈ tT := tT_5 (i := 62) (by decide +kernel) rfl
theorem kV_yX7_either : Cond.instanceMethod yX7_either ∈ tT := tT_5 (i := 61) (by decide +kernel) rfl
theorem kS_yX7_either : Cond.selects yX7_either.cls yX7_either yX7_either ∈ tT := tT_0 (i := 49) (by decide +kernel) rfl
theorem kC_yX7_part : Cond.code yX7_part cX7_part 3 (some .int) ∈ tT := tT_5 (i := 54) (by decide +kernel) rfl
theorem kV_yX7_part : Cond.instanceMethod yX7_part ∈ tT := tT_5 (i := 53) (by decide +kernel) rfl
theorem kS_yX7_part : Cond.selects yX7_part.cls yX7_part yX7_part ∈ tT := tT_0 (i := 47) (by decide +kernel) rfl
theorem kC_yX7_read : Cond.code yX7_read cX7_read 6 (some .int) ∈ tT := tT_5 (i := 29) (by decide +kernel) rfl
theorem kV_yX7_read : Cond.instanceMethod yX7_read ∈ tT := tT_5 (i := 28) (by decide +kernel) rfl
theorem kS_yX7_read : Cond.selects yX7_read.cls yX7_read yX7_read ∈ tT := tT_0 (i := 42) (by decide +kernel) rfl
theorem kC_yX7_text : Cond.code yX7_text cX7_text 2 (some .int) ∈ tT := tT_5 (i := 25) (by decide +kernel) rfl
theorem kV_yX7_text : Cond.instanceMethod yX7_text ∈ tT := tT_5 (i := 23) (by decide +kernel) rfl
theorem kS_yX7_text : Cond.selects yX7_text.cls yX7_text yX7_text ∈ tT := tT_5 (i := 24) (by decide +kernel) rfl
theorem kC_yX7_force : Cond.code yX7_force cX7_force 3 (some .int) ∈ tT := tT_5 (i := 100) (by decide +kernel) rfl
theorem kV_yX7_force : Cond.instanceMethod yX7_force ∈ tT := tT_5 (i := 98) (by decide +kernel) rfl
theorem kS_yX7_force : Cond.selects yX7_force.cls yX7_force yX7_force ∈ tT := tT_5 (i := 99) (by decide +kernel) rfl
theorem kC_yX7_asks : Cond.code yX7_asks cX7_asks 5 (some .int) ∈ tT := tT_5 (i := 119) (by decide +kernel) rfl
theorem kV_yX7_asks : Cond.instanceMethod yX7_asks ∈ tT := tT_5 (i := 118) (by decide +kernel) rfl
theorem kS_yX7_asks : Cond.selects yX7_asks.cls yX7_asks yX7_asks ∈ tT := tT_0 (i := 60) (by decide +kernel) rfl
theorem kC_yX7_paysOf : Cond.code yX7_paysOf cX7_paysOf 4 (some .int) ∈ tT := tT_5 (i := 126) (by decide +kernel) rfl
theorem kV_yX7_paysOf : Cond.instanceMethod yX7_paysOf ∈ tT := tT_5 (i := 125) (by decide +kernel) rfl
theorem kS_yX7_paysOf : Cond.selects yX7_paysOf.cls yX7_paysOf yX7_paysOf ∈ tT := tT_0 (i := 61) (by decide +kernel) rfl
theorem kC_yX7_turns : Cond.code yX7_turns cX7_turns 3 none ∈ tT := tT_5 (i := 115) (by decide +kernel) rfl
theorem kV_yX7_turns : Cond.instanceMethod yX7_turns ∈ tT := tT_5 (i := 114) (by decide +kernel) rfl
theorem kS_yX7_turns : Cond.selects yX7_turns.cls yX7_turns yX7_turns ∈ tT := tT_0 (i := 59) (by decide +kernel) rfl
theorem kC_yX7_wraps : Cond.code yX7_wraps cX7_wraps 3 (some .int) ∈ tT := tT_5 (i := 130) (by decide +kernel) rfl
theorem kV_yX7_wraps : Cond.instanceMethod yX7_wraps ∈ tT := tT_5 (i := 129) (by decide +kernel) rfl
theorem kS_yX7_wraps : Cond.selects yX7_wraps.cls yX7_wraps yX7_wraps ∈ tT := tT_0 (i := 62) (by decide +kernel) rfl
theorem kC_yX7_firstFrom : Cond.code yX7_firstFrom cX7_firstFrom 5 (some .int) ∈ tT := tT_5 (i := 134) (by decide +kernel) rfl
theorem kV_yX7_firstFrom : Cond.instanceMethod yX7_firstFrom ∈ tT := tT_5 (i := 133) (by decide +kernel) rfl
theorem kS_yX7_firstFrom : Cond.selects yX7_firstFrom.cls yX7_firstFrom yX7_firstFrom ∈ tT := tT_0 (i := 63) (by decide +kernel) rfl
theorem kC_yX7_goes : Cond.code yX7_goes cX7_goes 6 none ∈ tT := tT_5 (i := 111) (by decide +kernel) rfl
theorem kV_yX7_goes : Cond.instanceMethod yX7_goes ∈ tT := tT_5 (i := 110) (by decide +kernel) rfl
theorem kS_yX7_goes : Cond.selects yX7_goes.cls yX7_goes yX7_goes ∈ tT := tT_0 (i := 58) (by decide +kernel) rfl
theorem kC_yX7_round : Cond.code yX7_round cX7_round 3 (some .int) ∈ tT := tT_5 (i := 104) (by decide +kernel) rfl
theorem kV_yX7_round : Cond.instanceMethod yX7_round ∈ tT := tT_5 (i := 102) (by decide +kernel) rfl
theorem kS_yX7_round : Cond.selects yX7_round.cls yX7_round yX7_round ∈ tT := tT_5 (i := 103) (by decide +kernel) rfl
theorem kC_yX7_harvests : Cond.code yX7_harvests cX7_harvests 3 (some .int) ∈ tT := tT_5 (i := 138) (by decide +kernel) rfl
theorem kV_yX7_harvests : Cond.instanceMethod yX7_harvests ∈ tT := tT_5 (i := 136) (by decide +kernel) rfl
theorem kS_yX7_harvests : Cond.selects yX7_harvests.cls yX7_harvests yX7_harvests ∈ tT := tT_5 (i := 137) (by decide +kernel) rfl
theorem kC_yX7_best : Cond.code yX7_best cX7_best 5 (some .int) ∈ tT := tT_5 (i := 142) (by decide +kernel) rfl
theorem kV_yX7_best : Cond.instanceMethod yX7_best ∈ tT := tT_5 (i := 140) (by decide +kernel) rfl
theorem kS_yX7_best : Cond.selects yX7_best.cls yX7_best yX7_best ∈ tT := tT_5 (i := 141) (by decide +kernel) rfl
theorem kC_yX7_change : Cond.code yX7_change cX7_change 7 (some .int) ∈ tT := tT_5 (i := 146) (by decide +kernel) rfl
theorem kV_yX7_change : Cond.instanceMethod yX7_change ∈ tT := tT_5 (i := 144) (by decide +kernel) rfl
theorem kS_yX7_change : Cond.selects yX7_change.cls yX7_change yX7_change ∈ tT := tT_5 (i := 145) (by decide +kernel) rfl
theorem kC_yX7_anew : Cond.code yX7_anew cX7_anew 8 (some .int) ∈ tT := tT_5 (i := 150) (by decide +kernel) rfl
theorem kV_yX7_anew : Cond.instanceMethod yX7_anew ∈ tT := tT_5 (i := 148) (by decide +kernel) rfl
theorem kS_yX7_anew : Cond.selects yX7_anew.cls yX7_anew yX7_anew ∈ tT := tT_5 (i := 149) (by decide +kernel) rfl
theorem kC_yX7_hay : Cond.code yX7_hay cX7_hay 7 (some .int) ∈ tT := tT_5 (i := 154) (by decide +kernel) rfl
theorem kV_yX7_hay : Cond.instanceMethod yX7_hay ∈ tT := tT_5 (i := 152) (by decide +kernel) rfl
theorem kS_yX7_hay : Cond.selects yX7_hay.cls yX7_hay yX7_hay ∈ tT := tT_5 (i := 153) (by decide +kernel) rfl
theorem kC_yX7_laysFrom : Cond.code yX7_laysFrom cX7_laysFrom 5 none ∈ tT := tT_5 (i := 162) (by decide +kernel) rfl
theorem kV_yX7_laysFrom : Cond.instanceMethod yX7_laysFrom ∈ tT := tT_5 (i := 161) (by decide +kernel) rfl
theorem kS_yX7_laysFrom : Cond.selects yX7_laysFrom.cls yX7_laysFrom yX7_laysFrom ∈ tT := tT_0 (i := 64) (by decide +kernel) rfl
theorem kC_yX7_layings : Cond.code yX7_layings cX7_layings 3 (some .int) ∈ tT := tT_5 (i := 158) (by decide +kernel) rfl
theorem kV_yX7_layings : Cond.instanceMethod yX7_layings ∈ tT := tT_5 (i := 156) (by decide +kernel) rfl
theorem kS_yX7_layings : Cond.selects yX7_layings.cls yX7_layings yX7_layings ∈ tT := tT_5 (i := 157) (by decide +kernel) rfl
theorem kC_yX7_firstOther : Cond.code yX7_firstOther cX7_firstOther 3 (some .int) ∈ tT := tT_5 (i := 181) (by decide +kernel) rfl
theorem kV_yX7_firstOther : Cond.instanceMethod yX7_firstOther ∈ tT := tT_5 (i := 180) (by decide +kernel) rfl
theorem kS_yX7_firstOther : Cond.selects yX7_firstOther.cls yX7_firstOther yX7_firstOther ∈ tT := tT_0 (i := 66) (by decide +kernel) rfl
theorem kC_yX7_startsOf : Cond.code yX7_startsOf cX7_startsOf 4 (some .int) ∈ tT := tT_5 (i := 185) (by decide +kernel) rfl
theorem kV_yX7_startsOf : Cond.instanceMethod yX7_startsOf ∈ tT := tT_5 (i := 184) (by decide +kernel) rfl
theorem kS_yX7_startsOf : Cond.selects yX7_startsOf.cls yX7_startsOf yX7_startsOf ∈ tT := tT_0 (i := 67) (by decide +kernel) rfl
theorem kC_yX7_isRow : Cond.code yX7_isRow cX7_isRow 3 (some .boolean) ∈ tT := tT_5 (i := 176) (by decide +kernel) rfl
theorem kV_yX7_isRow : Cond.instanceMethod yX7_isRow ∈ tT := tT_5 (i := 175) (by decide +kernel) rfl
theorem kS_yX7_isRow : Cond.selects yX7_isRow.cls yX7_isRow yX7_isRow ∈ tT := tT_0 (i := 65) (by decide +kernel) rfl
theorem kC_yX7_tells : Cond.code yX7_tells cX7_tells 8 (some .int) ∈ tT := tT_5 (i := 166) (by decide +kernel) rfl
theorem kV_yX7_tells : Cond.instanceMethod yX7_tells ∈ tT := tT_5 (i := 164) (by decide +kernel) rfl
theorem kS_yX7_tells : Cond.selects yX7_tells.cls yX7_tells yX7_tells ∈ tT := tT_5 (i := 165) (by decide +kernel) rfl
theorem kC_yX7_film : Cond.code yX7_film cX7_film 4 (some .int) ∈ tT := tT_5 (i := 189) (by decide +kernel) rfl
theorem kV_yX7_film : Cond.instanceMethod yX7_film ∈ tT := tT_5 (i := 187) (by decide +kernel) rfl
theorem kS_yX7_film : Cond.selects yX7_film.cls yX7_film yX7_film ∈ tT := tT_5 (i := 188) (by decide +kernel) rfl
theorem kC_yX7_draws : Cond.code yX7_draws cX7_draws 4 none ∈ tT := tT_5 (i := 202) (by decide +kernel) rfl
theorem kV_yX7_draws : Cond.instanceMethod yX7_draws ∈ tT := tT_5 (i := 201) (by decide +kernel) rfl
theorem kS_yX7_draws : Cond.selects yX7_draws.cls yX7_draws yX7_draws ∈ tT := tT_0 (i := 68) (by decide +kernel) rfl
theorem kC_yX7_drawn : Cond.code yX7_drawn cX7_drawn 2 (some .int) ∈ tT := tT_5 (i := 198) (by decide +kernel) rfl
theorem kV_yX7_drawn : Cond.instanceMethod yX7_drawn ∈ tT := tT_5 (i := 196) (by decide +kernel) rfl
theorem kS_yX7_drawn : Cond.selects yX7_drawn.cls yX7_drawn yX7_drawn ∈ tT := tT_5 (i := 197) (by decide +kernel) rfl
theorem kC_yX7_chance : Cond.code yX7_chance cX7_chance 12 (some .long) ∈ tT := tT_5 (i := 207) (by decide +kernel) rfl
theorem kV_yX7_chance : Cond.instanceMethod yX7_chance ∈ tT := tT_5 (i := 205) (by decide +kernel) rfl
theorem kS_yX7_chance : Cond.selects yX7_chance.cls yX7_chance yX7_chance ∈ tT := tT_5 (i := 206) (by decide +kernel) rfl
theorem kC_yX7_image : Cond.code yX7_image cX7_image 2 (some .int) ∈ tT := tT_5 (i := 213) (by decide +kernel) rfl
theorem kV_yX7_image : Cond.instanceMethod yX7_image ∈ tT := tT_5 (i := 211) (by decide +kernel) rfl
theorem kS_yX7_image : Cond.selects yX7_image.cls yX7_image yX7_image ∈ tT := tT_5 (i := 212) (by decide +kernel) rfl
theorem kC_yX7_back : Cond.code yX7_back cX7_back 2 (some .int) ∈ tT := tT_5 (i := 217) (by decide +kernel) rfl
theorem kV_yX7_back : Cond.instanceMethod yX7_back ∈ tT := tT_5 (i := 215) (by decide +kernel) rfl
theorem kS_yX7_back : Cond.selects yX7_back.cls yX7_back yX7_back ∈ tT := tT_5 (i := 216) (by decide +kernel) rfl
theorem kC_yX7_count : Cond.code yX7_count cX7_count 2 (some .int) ∈ tT := tT_5 (i := 221) (by decide +kernel) rfl
theorem kV_yX7_count : Cond.instanceMethod yX7_count ∈ tT := tT_5 (i := 219) (by decide +kernel) rfl
theorem kS_yX7_count : Cond.selects yX7_count.cls yX7_count yX7_count ∈ tT := tT_5 (i := 220) (by decide +kernel) rfl
theorem kC_yX7_isSheet : Cond.code yX7_isSheet cX7_isSheet 1 (some .boolean) ∈ tT := tT_5 (i := 172) (by decide +kernel) rfl
theorem kT_yX7_isSheet : Cond.static yX7_isSheet ∈ tT := tT_5 (i := 171) (by decide +kernel) rfl
theorem kC_yX7_sheet : Cond.code yX7_sheet cX7_sheet 5 (some .int) ∈ tT := tT_5 (i := 193) (by decide +kernel) rfl
theorem kV_yX7_sheet : Cond.instanceMethod yX7_sheet ∈ tT := tT_5 (i := 191) (by decide +kernel) rfl
theorem kS_yX7_sheet : Cond.selects yX7_sheet.cls yX7_sheet yX7_sheet ∈ tT := tT_5 (i := 192) (by decide +kernel) rfl
theorem kC_yX7_cell : Cond.code yX7_cell cX7_cell 4 (some .int) ∈ tT := tT_5 (i := 226) (by decide +kernel) rfl
theorem kV_yX7_cell : Cond.instanceMethod yX7_cell ∈ tT := tT_5 (i := 224) (by decide +kernel) rfl
theorem kS_yX7_cell : Cond.selects yX7_cell.cls yX7_cell yX7_cell ∈ tT := tT_5 (i := 225) (by decide +kernel) rfl
theorem kC_yX7_copy : Cond.code yX7_copy cX7_copy 9 (some .int) ∈ tT := tT_5 (i := 230) (by decide +kernel) rfl
theorem kV_yX7_copy : Cond.instanceMethod yX7_copy ∈ tT := tT_5 (i := 228) (by decide +kernel) rfl
theorem kS_yX7_copy : Cond.selects yX7_copy.cls yX7_copy yX7_copy ∈ tT := tT_5 (i := 229) (by decide +kernel) rfl
theorem kC_yX7_cards : Cond.code yX7_cards cX7_cards 8 (some .int) ∈ tT := tT_5 (i := 234) (by decide +kernel) rfl
theorem kV_yX7_cards : Cond.instanceMethod yX7_cards ∈ tT := tT_5 (i := 232) (by decide +kernel) rfl
theorem kS_yX7_cards : Cond.selects yX7_cards.cls yX7_cards yX7_cards ∈ tT := tT_5 (i := 233) (by decide +kernel) rfl
theorem kC_yX7_over : Cond.code yX7_over cX7_over 1 (some .int) ∈ tT := tT_6 (i := 2) (by decide +kernel) rfl
theorem kT_yX7_over : Cond.static yX7_over ∈ tT := tT_6 (i := 1) (by decide +kernel) rfl
theorem kC_yX7_taken : Cond.code yX7_taken cX7_taken 4 (some .int) ∈ tT := tT_5 (i := 239) (by decide +kernel) rfl
theorem kV_yX7_taken : Cond.instanceMethod yX7_taken ∈ tT := tT_5 (i := 237) (by decide +kernel) rfl
theorem kS_yX7_taken : Cond.selects yX7_taken.cls yX7_taken yX7_taken ∈ tT := tT_5 (i := 238) (by decide +kernel) rfl
def mil : List (MethodName × ByteArray × Nat × Option FieldType) := [
  (yJ9_floorMod_7cf53, cJ9_floorMod_7cf53, 3, some .int),
  (yJ9_max_7cf53, cJ9_max_7cf53, 2, some .int),
  (yJ9_min_7cf53, cJ9_min_7cf53, 2, some .int),
  (yJ0_length_8abf5, cJ0_length_8abf5, 1, some .int),
  (yJ0_charAt_5068e, cJ0_charAt_5068e, 2, some .char),
  (yJ0_indexOf_0f7a4, cJ0_indexOf_0f7a4, 2, some .int),
  (yJ0_indexOf_7cf53, cJ0_indexOf_7cf53, 3, some .int),
  (yJ0_coder_7d493, cJ0_coder_7d493, 1, some .byte),
  (yJ0_isLatin1_aae02, cJ0_isLatin1_aae02, 1, some .boolean),
  (yJ0_checkIndex_df160, cJ0_checkIndex_df160, 2, none),
  (yJ1_charAt_3b067, cJ1_charAt_3b067, 2, some .char),
  (yJ1_canEncode_9a6ad, cJ1_canEncode_9a6ad, 1, some .boolean),
  (yJ1_indexOf_4cfef, cJ1_indexOf_4cfef, 4, some .int),
  (yJ1_indexOfChar_4cfef, cJ1_indexOfChar_4cfef, 6, some .int),
  (yJ7_fill_53178, cJ7_fill_53178, 4, none),
  (yJ3_checkIndex_8e157, cJ3_checkIndex_8e157, 3, some .int),
  (yX0_begin, cX0_begin, 3, none),
  (yX0_at, cX0_at, 2, some .int),
  (yX0_goOn, cX0_goOn, 5, some .boolean),
  (yX0_digits, cX0_digits, 3, some .int),
  (yX0_exchange, cX0_exchange, 4, none),
  (yX1_size, cX1_size, 1, some .int),
  (yX1_isFull, cX1_isFull, 1, some .boolean),
  (yX1_add, cX1_add, 2, some .int),
  (yX1_read, cX1_read, 4, some .int),
  (yX1_readPart, cX1_readPart, 5, some .int),
  (yX1_begins, cX1_begins, 3, some .boolean),
  (yX1_goesOn, cX1_goesOn, 4, some .boolean),
  (yX1_closes, cX1_closes, 1, some .boolean),
  (yX1_openingAtHand, cX1_openingAtHand, 1, some .int),
  (yX1_operationAtHand, cX1_operationAtHand, 1, some .int),
  (yX1_top, cX1_top, 1, some .int),
  (yX1_await, cX1_await, 2, none),
  (yX1_workOff, cX1_workOff, 4, none),
  (yX1_nextToken, cX1_nextToken, 2, none),
  (yX1_readWord, cX1_readWord, 2, none),
  (yX1_isWord, cX1_isWord, 7, some .boolean),
  (yX1_readNumber, cX1_readNumber, 1, none),
  (yX1_byteAt, cX1_byteAt, 2, some .int),
  (yX1_isLetter, cX1_isLetter, 1, some .boolean),
  (yX1_isDigit, cX1_isDigit, 1, some .boolean),
  (yX2_size, cX2_size, 1, some .int),
  (yX2_isFull, cX2_isFull, 1, some .boolean),
  (yX2_has, cX2_has, 2, some .boolean),
  (yX2_at, cX2_at, 2, some .int),
  (yX2_kindAt, cX2_kindAt, 2, some .int),
  (yX2_numberAt, cX2_numberAt, 2, some .int),
  (yX2_put, cX2_put, 3, none),
  (yX2_add, cX2_add, 2, some .int),
  (yX2_dropLast, cX2_dropLast, 1, none),
  (yX2_exchange, cX2_exchange, 4, none),
  (yX2_become, cX2_become, 2, none),
  (yX2_blocks, cX2_blocks, 2, some .boolean),
  (yX2_points, cX2_points, 4, some .int),
  (yX2_pays, cX2_pays, 4, some .int),
  (yX3_length, cX3_length, 1, some .int),
  (yX3_bits, cX3_bits, 1, some .int),
  (yX3_end, cX3_end, 1, some .int),
  (yX3_turnedAt, cX3_turnedAt, 2, some .int),
  (yX3_last, cX3_last, 1, some .int),
  (yX3_play, cX3_play, 8, none),
  (yX3_worth, cX3_worth, 6, some .int),
  (yX3_turn, cX3_turn, 2, none),
  (yX3_isTurned, cX3_isTurned, 2, some .boolean),
  (yX3_before, cX3_before, 2, some .int),
  (yX3_further, cX3_further, 2, some .int),
  (yX3_nextPlace, cX3_nextPlace, 7, some .int),
  (yX3_nameStep, cX3_nameStep, 4, none),
  (yX3_name, cX3_name, 3, none),
  (yX3_within, cX3_within, 3, some .int),
  (yX4_sort, cX4_sort, 1, some .int),
  (yX4_size, cX4_size, 1, some .int),
  (yX4_isMissing, cX4_isMissing, 1, some .boolean),
  (yX4_become, cX4_become, 3, none),
  (yX4_has, cX4_has, 2, some .boolean),
  (yX4_hasRow, cX4_hasRow, 3, some .boolean),
  (yX4_at, cX4_at, 2, some .int),
  (yX4_set, cX4_set, 3, none),
  (yX4_takeRow, cX4_takeRow, 5, none),
  (yX5_clear, cX5_clear, 1, none),
  (yX5_add, cX5_add, 2, none),
  (yX5_endPart, cX5_endPart, 2, none),
  (yX5_tell, cX5_tell, 8, some .int),
  (yX5_endOf, cX5_endOf, 2, some .int),
  (yX5_operand, cX5_operand, 2, some .int),
  (yX5_single, cX5_single, 2, some .int),
  (yX5_both, cX5_both, 3, some .int),
  (yX5_bit, cX5_bit, 1, some .int),
  (yX6_card, cX6_card, 3, some .int),
  (yX6_lay, cX6_lay, 5, some .int),
  (yX6_takeUp, cX6_takeUp, 2, some .int),
  (yX6_swap, cX6_swap, 3, some .int),
  (yX6_told, cX6_told, 3, some .int),
  (yX6_feed, cX6_feed, 2, some .int),
  (yX6_text, cX6_text, 3, some .int),
  (yX6_force, cX6_force, 3, some .int),
  (yX6_round, cX6_round, 5, some .int),
  (yX6_harvests, cX6_harvests, 3, some .int),
  (yX6_best, cX6_best, 6, some .int),
  (yX6_change, cX6_change, 8, some .int),
  (yX6_anew, cX6_anew, 7, some .int),
  (yX6_hay, cX6_hay, 7, some .int),
  (yX6_layings, cX6_layings, 6, some .int),
  (yX6_tells, cX6_tells, 4, some .int),
  (yX6_film, cX6_film, 5, some .int),
  (yX6_drawn, cX6_drawn, 2, some .int),
  (yX6_chance, cX6_chance, 6, some .long),
  (yX6_image, cX6_image, 1, some .int),
  (yX6_back, cX6_back, 1, some .int),
  (yX6_count, cX6_count, 2, some .int),
  (yX6_sheet, cX6_sheet, 5, some .int),
  (yX6_cell, cX6_cell, 5, some .int),
  (yX6_copy, cX6_copy, 8, some .int),
  (yX6_cards, cX6_cards, 9, some .int),
  (yX6_taken, cX6_taken, 3, some .int),
  (yX6_isCard, cX6_isCard, 2, some .boolean),
  (yX6_cardOf, cX6_cardOf, 2, some .int),
  (yX6_isUnder, cX6_isUnder, 4, some .boolean),
  (yX6_isFirstOrSecond, cX6_isFirstOrSecond, 1, some .boolean),
  (yX6_isSort, cX6_isSort, 1, some .boolean),
  (yX6_commonDivisor, cX6_commonDivisor, 3, some .int),
  (yX6_textAt, cX6_textAt, 2, some ((.object "SevenInTheHay$Text"))),
  (yX6_sheetAt, cX6_sheetAt, 2, some ((.object "SevenInTheHay$Sheet"))),
  (yX6_lengthOf, cX6_lengthOf, 3, some .int),
  (yX6_isHarvest, cX6_isHarvest, 3, some .boolean),
  (yX6_layInOrder, cX6_layInOrder, 2, none),
  (yX6_draw, cX6_draw, 4, none),
  (yX6_asksOfTold, cX6_asksOfTold, 2, some .boolean),
  (yX6_tellsPlaces, cX6_tellsPlaces, 3, some .boolean),
  (yX6_otherwise, cX6_otherwise, 5, some .int),
  (yX6_startsOf, cX6_startsOf, 5, some .int),
  (yX6_textsOf, cX6_textsOf, 4, some .int),
  (yX6_kindsOf, cX6_kindsOf, 5, some .int),
  (yX6_numbersOf, cX6_numbersOf, 5, some .int),
  (yX7_in, cX7_in, 6, some .boolean),
  (yX7_within, cX7_within, 3, some .int),
  (yX7_spell, cX7_spell, 10, none),
  (yX7_isPlace, cX7_isPlace, 2, some .boolean),
  (yX7_isCard, cX7_isCard, 2, some .boolean),
  (yX7_codeOf, cX7_codeOf, 2, some .int),
  (yX7_puts, cX7_puts, 3, none),
  (yX7_card, cX7_card, 3, some .int),
  (yX7_lay, cX7_lay, 5, some .int),
  (yX7_takeUp, cX7_takeUp, 1, some .int),
  (yX7_exchanges, cX7_exchanges, 4, none),
  (yX7_swap, cX7_swap, 3, some .int),
  (yX7_pointsOf, cX7_pointsOf, 5, some .int),
  (yX7_told, cX7_told, 3, some .int),
  (yX7_feed, cX7_feed, 2, some .int),
  (yX7_byteAt, cX7_byteAt, 2, some .int),
  (yX7_next, cX7_next, 3, none),
  (yX7_fail, cX7_fail, 1, none),
  (yX7_isLetter, cX7_isLetter, 3, some .boolean),
  (yX7_isWord, cX7_isWord, 9, some .boolean),
  (yX7_isSign, cX7_isSign, 2, some .boolean),
  (yX7_opens, cX7_opens, 1, some .boolean),
  (yX7_name, cX7_name, 1, some .int),
  (yX7_atom, cX7_atom, 2, some .int),
  (yX7_term, cX7_term, 2, some .int),
  (yX7_added, cX7_added, 4, some .int),
  (yX7_not, cX7_not, 4, some .int),
  (yX7_both, cX7_both, 3, some .int),
  (yX7_either, cX7_either, 3, some .int),
  (yX7_part, cX7_part, 3, some .int),
  (yX7_read, cX7_read, 6, some .int),
  (yX7_text, cX7_text, 2, some .int),
  (yX7_force, cX7_force, 3, some .int),
  (yX7_asks, cX7_asks, 5, some .int),
  (yX7_paysOf, cX7_paysOf, 4, some .int),
  (yX7_turns, cX7_turns, 3, none),
  (yX7_wraps, cX7_wraps, 3, some .int),
  (yX7_firstFrom, cX7_firstFrom, 5, some .int),
  (yX7_goes, cX7_goes, 6, none),
  (yX7_round, cX7_round, 3, some .int),
  (yX7_harvests, cX7_harvests, 3, some .int),
  (yX7_best, cX7_best, 5, some .int),
  (yX7_change, cX7_change, 7, some .int),
  (yX7_anew, cX7_anew, 8, some .int),
  (yX7_hay, cX7_hay, 7, some .int),
  (yX7_laysFrom, cX7_laysFrom, 5, none),
  (yX7_layings, cX7_layings, 3, some .int),
  (yX7_firstOther, cX7_firstOther, 3, some .int),
  (yX7_startsOf, cX7_startsOf, 4, some .int),
  (yX7_isRow, cX7_isRow, 3, some .boolean),
  (yX7_tells, cX7_tells, 8, some .int),
  (yX7_film, cX7_film, 4, some .int),
  (yX7_draws, cX7_draws, 4, none),
  (yX7_drawn, cX7_drawn, 2, some .int),
  (yX7_chance, cX7_chance, 12, some .long),
  (yX7_image, cX7_image, 2, some .int),
  (yX7_back, cX7_back, 2, some .int),
  (yX7_count, cX7_count, 2, some .int),
  (yX7_isSheet, cX7_isSheet, 1, some .boolean),
  (yX7_sheet, cX7_sheet, 5, some .int),
  (yX7_cell, cX7_cell, 4, some .int),
  (yX7_copy, cX7_copy, 9, some .int),
  (yX7_cards, cX7_cards, 8, some .int),
  (yX7_over, cX7_over, 1, some .int),
  (yX7_taken, cX7_taken, 4, some .int)]
def mi (y : Nat) : MethodName × ByteArray × Nat × Option FieldType := mil.getD y (⟨"", "", ""⟩, ⟨#[]⟩, 0, none)
abbrev n_J9_floorMod_7cf53 : Nat := 0
theorem hy_yJ9_floorMod_7cf53 : mi 0 = (yJ9_floorMod_7cf53, cJ9_floorMod_7cf53, 3, some .int) := rfl
theorem kP_yJ9_floorMod_7cf53 : yJ9_floorMod_7cf53.cls ≠ "java/lang/invoke/MethodHandle" ∧ yJ9_floorMod_7cf53.cls ≠ "java/lang/invoke/VarHandle" ∧ (parseMethodDescriptor yJ9_floorMod_7cf53.desc).map (fun d => d.parameters.length) = some 2 := by decide +kernel
abbrev n_J9_max_7cf53 : Nat := 1
theorem hy_yJ9_max_7cf53 : mi 1 = (yJ9_max_7cf53, cJ9_max_7cf53, 2, some .int) := rfl
theorem kP_yJ9_max_7cf53 : yJ9_max_7cf53.cls ≠ "java/lang/invoke/MethodHandle" ∧ yJ9_max_7cf53.cls ≠ "java/lang/invoke/VarHandle" ∧ (parseMethodDescriptor yJ9_max_7cf53.desc).map (fun d => d.parameters.length) = some 2 := by decide +kernel
abbrev n_J9_min_7cf53 : Nat := 2
theorem hy_yJ9_min_7cf53 : mi 2 = (yJ9_min_7cf53, cJ9_min_7cf53, 2, some .int) := rfl
theorem kP_yJ9_min_7cf53 : yJ9_min_7cf53.cls ≠ "java/lang/invoke/MethodHandle" ∧ yJ9_min_7cf53.cls ≠ "java/lang/invoke/VarHandle" ∧ (parseMethodDescriptor yJ9_min_7cf53.desc).map (fun d => d.parameters.length) = some 2 := by decide +kernel
abbrev n_J0_length_8abf5 : Nat := 3
theorem hy_yJ0_length_8abf5 : mi 3 = (yJ0_length_8abf5, cJ0_length_8abf5, 1, some .int) := rfl
theorem kP_yJ0_length_8abf5 : yJ0_length_8abf5.cls ≠ "java/lang/invoke/MethodHandle" ∧ yJ0_length_8abf5.cls ≠ "java/lang/invoke/VarHandle" ∧ (parseMethodDescriptor yJ0_length_8abf5.desc).map (fun d => d.parameters.length) = some 0 := by decide +kernel
abbrev n_J0_charAt_5068e : Nat := 4
theorem hy_yJ0_charAt_5068e : mi 4 = (yJ0_charAt_5068e, cJ0_charAt_5068e, 2, some .char) := rfl
theorem kP_yJ0_charAt_5068e : yJ0_charAt_5068e.cls ≠ "java/lang/invoke/MethodHandle" ∧ yJ0_charAt_5068e.cls ≠ "java/lang/invoke/VarHandle" ∧ (parseMethodDescriptor yJ0_charAt_5068e.desc).map (fun d => d.parameters.length) = some 1 := by decide +kernel
abbrev n_J0_indexOf_0f7a4 : Nat := 5
theorem hy_yJ0_indexOf_0f7a4 : mi 5 = (yJ0_indexOf_0f7a4, cJ0_indexOf_0f7a4, 2, some .int) := rfl
theorem kP_yJ0_indexOf_0f7a4 : yJ0_indexOf_0f7a4.cls ≠ "java/lang/invoke/MethodHandle" ∧ yJ0_indexOf_0f7a4.cls ≠ "java/lang/invoke/VarHandle" ∧ (parseMethodDescriptor yJ0_indexOf_0f7a4.desc).map (fun d => d.parameters.length) = some 1 := by decide +kernel
abbrev n_J0_indexOf_7cf53 : Nat := 6
theorem hy_yJ0_indexOf_7cf53 : mi 6 = (yJ0_indexOf_7cf53, cJ0_indexOf_7cf53, 3, some .int) := rfl
theorem kP_yJ0_indexOf_7cf53 : yJ0_indexOf_7cf53.cls ≠ "java/lang/invoke/MethodHandle" ∧ yJ0_indexOf_7cf53.cls ≠ "java/lang/invoke/VarHandle" ∧ (parseMethodDescriptor yJ0_indexOf_7cf53.desc).map (fun d => d.parameters.length) = some 2 := by decide +kernel
abbrev n_J0_coder_7d493 : Nat := 7
theorem hy_yJ0_coder_7d493 : mi 7 = (yJ0_coder_7d493, cJ0_coder_7d493, 1, some .byte) := rfl
theorem kP_yJ0_coder_7d493 : yJ0_coder_7d493.cls ≠ "java/lang/invoke/MethodHandle" ∧ yJ0_coder_7d493.cls ≠ "java/lang/invoke/VarHandle" ∧ (parseMethodDescriptor yJ0_coder_7d493.desc).map (fun d => d.parameters.length) = some 0 := by decide +kernel
abbrev n_J0_isLatin1_aae02 : Nat := 8
theorem hy_yJ0_isLatin1_aae02 : mi 8 = (yJ0_isLatin1_aae02, cJ0_isLatin1_aae02, 1, some .boolean) := rfl
theorem kP_yJ0_isLatin1_aae02 : yJ0_isLatin1_aae02.cls ≠ "java/lang/invoke/MethodHandle" ∧ yJ0_isLatin1_aae02.cls ≠ "java/lang/invoke/VarHandle" ∧ (parseMethodDescriptor yJ0_isLatin1_aae02.desc).map (fun d => d.parameters.length) = some 0 := by decide +kernel
abbrev n_J0_checkIndex_df160 : Nat := 9
theorem hy_yJ0_checkIndex_df160 : mi 9 = (yJ0_checkIndex_df160, cJ0_checkIndex_df160, 2, none) := rfl
theorem kP_yJ0_checkIndex_df160 : yJ0_checkIndex_df160.cls ≠ "java/lang/invoke/MethodHandle" ∧ yJ0_checkIndex_df160.cls ≠ "java/lang/invoke/VarHandle" ∧ (parseMethodDescriptor yJ0_checkIndex_df160.desc).map (fun d => d.parameters.length) = some 2 := by decide +kernel
abbrev n_J1_charAt_3b067 : Nat := 10
theorem hy_yJ1_charAt_3b067 : mi 10 = (yJ1_charAt_3b067, cJ1_charAt_3b067, 2, some .char) := rfl
theorem kP_yJ1_charAt_3b067 : yJ1_charAt_3b067.cls ≠ "java/lang/invoke/MethodHandle" ∧ yJ1_charAt_3b067.cls ≠ "java/lang/invoke/VarHandle" ∧ (parseMethodDescriptor yJ1_charAt_3b067.desc).map (fun d => d.parameters.length) = some 2 := by decide +kernel
abbrev n_J1_canEncode_9a6ad : Nat := 11
theorem hy_yJ1_canEncode_9a6ad : mi 11 = (yJ1_canEncode_9a6ad, cJ1_canEncode_9a6ad, 1, some .boolean) := rfl
theorem kP_yJ1_canEncode_9a6ad : yJ1_canEncode_9a6ad.cls ≠ "java/lang/invoke/MethodHandle" ∧ yJ1_canEncode_9a6ad.cls ≠ "java/lang/invoke/VarHandle" ∧ (parseMethodDescriptor yJ1_canEncode_9a6ad.desc).map (fun d => d.parameters.length) = some 1 := by decide +kernel
abbrev n_J1_indexOf_4cfef : Nat := 12
theorem hy_yJ1_indexOf_4cfef : mi 12 = (yJ1_indexOf_4cfef, cJ1_indexOf_4cfef, 4, some .int) := rfl
theorem kP_yJ1_indexOf_4cfef : yJ1_indexOf_4cfef.cls ≠ "java/lang/invoke/MethodHandle" ∧ yJ1_indexOf_4cfef.cls ≠ "java/lang/invoke/VarHandle" ∧ (parseMethodDescriptor yJ1_indexOf_4cfef.desc).map (fun d => d.parameters.length) = some 4 := by decide +kernel
abbrev n_J1_indexOfChar_4cfef : Nat := 13
theorem hy_yJ1_indexOfChar_4cfef : mi 13 = (yJ1_indexOfChar_4cfef, cJ1_indexOfChar_4cfef, 6, some .int) := rfl
theorem kP_yJ1_indexOfChar_4cfef : yJ1_indexOfChar_4cfef.cls ≠ "java/lang/invoke/MethodHandle" ∧ yJ1_indexOfChar_4cfef.cls ≠ "java/lang/invoke/VarHandle" ∧ (parseMethodDescriptor yJ1_indexOfChar_4cfef.desc).map (fun d => d.parameters.length) = some 4 := by decide +kernel
abbrev n_J7_fill_53178 : Nat := 14
theorem hy_yJ7_fill_53178 : mi 14 = (yJ7_fill_53178, cJ7_fill_53178, 4, none) := rfl
theorem kP_yJ7_fill_53178 : yJ7_fill_53178.cls ≠ "java/lang/invoke/MethodHandle" ∧ yJ7_fill_53178.cls ≠ "java/lang/invoke/VarHandle" ∧ (parseMethodDescriptor yJ7_fill_53178.desc).map (fun d => d.parameters.length) = some 2 := by decide +kernel
abbrev n_J3_checkIndex_8e157 : Nat := 15
theorem hy_yJ3_checkIndex_8e157 : mi 15 = (yJ3_checkIndex_8e157, cJ3_checkIndex_8e157, 3, some .int) := rfl
theorem kP_yJ3_checkIndex_8e157 : yJ3_checkIndex_8e157.cls ≠ "java/lang/invoke/MethodHandle" ∧ yJ3_checkIndex_8e157.cls ≠ "java/lang/invoke/VarHandle" ∧ (parseMethodDescriptor yJ3_checkIndex_8e157.desc).map (fun d => d.parameters.length) = some 3 := by decide +kernel
abbrev n_X0_begin : Nat := 16
theorem hy_yX0_begin : mi 16 = (yX0_begin, cX0_begin, 3, none) := rfl
theorem kP_yX0_begin : yX0_begin.cls ≠ "java/lang/invoke/MethodHandle" ∧ yX0_begin.cls ≠ "java/lang/invoke/VarHandle" ∧ (parseMethodDescriptor yX0_begin.desc).map (fun d => d.parameters.length) = some 1 := by decide +kernel
abbrev n_X0_at : Nat := 17
theorem hy_yX0_at : mi 17 = (yX0_at, cX0_at, 2, some .int) := rfl
theorem kP_yX0_at : yX0_at.cls ≠ "java/lang/invoke/MethodHandle" ∧ yX0_at.cls ≠ "java/lang/invoke/VarHandle" ∧ (parseMethodDescriptor yX0_at.desc).map (fun d => d.parameters.length) = some 1 := by decide +kernel
abbrev n_X0_goOn : Nat := 18
theorem hy_yX0_goOn : mi 18 = (yX0_goOn, cX0_goOn, 5, some .boolean) := rfl
theorem kP_yX0_goOn : yX0_goOn.cls ≠ "java/lang/invoke/MethodHandle" ∧ yX0_goOn.cls ≠ "java/lang/invoke/VarHandle" ∧ (parseMethodDescriptor yX0_goOn.desc).map (fun d => d.parameters.length) = some 0 := by decide +kernel
abbrev n_X0_digits : Nat := 19
theorem hy_yX0_digits : mi 19 = (yX0_digits, cX0_digits, 3, some .int) := rfl
theorem kP_yX0_digits : yX0_digits.cls ≠ "java/lang/invoke/MethodHandle" ∧ yX0_digits.cls ≠ "java/lang/invoke/VarHandle" ∧ (parseMethodDescriptor yX0_digits.desc).map (fun d => d.parameters.length) = some 0 := by decide +kernel
abbrev n_X0_exchange : Nat := 20
theorem hy_yX0_exchange : mi 20 = (yX0_exchange, cX0_exchange, 4, none) := rfl
theorem kP_yX0_exchange : yX0_exchange.cls ≠ "java/lang/invoke/MethodHandle" ∧ yX0_exchange.cls ≠ "java/lang/invoke/VarHandle" ∧ (parseMethodDescriptor yX0_exchange.desc).map (fun d => d.parameters.length) = some 2 := by decide +kernel
abbrev n_X1_size : Nat := 21
theorem hy_yX1_size : mi 21 = (yX1_size, cX1_size, 1, some .int) := rfl
theorem kP_yX1_size : yX1_size.cls ≠ "java/lang/invoke/MethodHandle" ∧ yX1_size.cls ≠ "java/lang/invoke/VarHandle" ∧ (parseMethodDescriptor yX1_size.desc).map (fun d => d.parameters.length) = some 0 := by decide +kernel
abbrev n_X1_isFull : Nat := 22
theorem hy_yX1_isFull : mi 22 = (yX1_isFull, cX1_isFull, 1, some .boolean) := rfl
theorem kP_yX1_isFull : yX1_isFull.cls ≠ "java/lang/invoke/MethodHandle" ∧ yX1_isFull.cls ≠ "java/lang/invoke/VarHandle" ∧ (parseMethodDescriptor yX1_isFull.desc).map (fun d => d.parameters.length) = some 0 := by decide +kernel
abbrev n_X1_add : Nat := 23
theorem hy_yX1_add : mi 23 = (yX1_add, cX1_add, 2, some .int) := rfl
theorem kP_yX1_add : yX1_add.cls ≠ "java/lang/invoke/MethodHandle" ∧ yX1_add.cls ≠ "java/lang/invoke/VarHandle" ∧ (parseMethodDescriptor yX1_add.desc).map (fun d => d.parameters.length) = some 1 := by decide +kernel
abbrev n_X1_read : Nat := 24
theorem hy_yX1_read : mi 24 = (yX1_read, cX1_read, 4, some .int) := rfl
theorem kP_yX1_read : yX1_read.cls ≠ "java/lang/invoke/MethodHandle" ∧ yX1_read.cls ≠ "java/lang/invoke/VarHandle" ∧ (parseMethodDescriptor yX1_read.desc).map (fun d => d.parameters.length) = some 1 := by decide +kernel
abbrev n_X1_readPart : Nat := 25
theorem hy_yX1_readPart : mi 25 = (yX1_readPart, cX1_readPart, 5, some .int) := rfl
theorem kP_yX1_readPart : yX1_readPart.cls ≠ "java/lang/invoke/MethodHandle" ∧ yX1_readPart.cls ≠ "java/lang/invoke/VarHandle" ∧ (parseMethodDescriptor yX1_readPart.desc).map (fun d => d.parameters.length) = some 2 := by decide +kernel
abbrev n_X1_begins : Nat := 26
theorem hy_yX1_begins : mi 26 = (yX1_begins, cX1_begins, 3, some .boolean) := rfl
theorem kP_yX1_begins : yX1_begins.cls ≠ "java/lang/invoke/MethodHandle" ∧ yX1_begins.cls ≠ "java/lang/invoke/VarHandle" ∧ (parseMethodDescriptor yX1_begins.desc).map (fun d => d.parameters.length) = some 1 := by decide +kernel
abbrev n_X1_goesOn : Nat := 27
theorem hy_yX1_goesOn : mi 27 = (yX1_goesOn, cX1_goesOn, 4, some .boolean) := rfl
theorem kP_yX1_goesOn : yX1_goesOn.cls ≠ "java/lang/invoke/MethodHandle" ∧ yX1_goesOn.cls ≠ "java/lang/invoke/VarHandle" ∧ (parseMethodDescriptor yX1_goesOn.desc).map (fun d => d.parameters.length) = some 1 := by decide +kernel
abbrev n_X1_closes : Nat := 28
theorem hy_yX1_closes : mi 28 = (yX1_closes, cX1_closes, 1, some .boolean) := rfl
theorem kP_yX1_closes : yX1_closes.cls ≠ "java/lang/invoke/MethodHandle" ∧ yX1_closes.cls ≠ "java/lang/invoke/VarHandle" ∧ (parseMethodDescriptor yX1_closes.desc).map (fun d => d.parameters.length) = some 0 := by decide +kernel
abbrev n_X1_openingAtHand : Nat := 29
theorem hy_yX1_openingAtHand : mi 29 = (yX1_openingAtHand, cX1_openingAtHand, 1, some .int) := rfl
theorem kP_yX1_openingAtHand : yX1_openingAtHand.cls ≠ "java/lang/invoke/MethodHandle" ∧ yX1_openingAtHand.cls ≠ "java/lang/invoke/VarHandle" ∧ (parseMethodDescriptor yX1_openingAtHand.desc).map (fun d => d.parameters.length) = some 0 := by decide +kernel
abbrev n_X1_operationAtHand : Nat := 30
theorem hy_yX1_operationAtHand : mi 30 = (yX1_operationAtHand, cX1_operationAtHand, 1, some .int) := rfl
theorem kP_yX1_operationAtHand : yX1_operationAtHand.cls ≠ "java/lang/invoke/MethodHandle" ∧ yX1_operationAtHand.cls ≠ "java/lang/invoke/VarHandle" ∧ (parseMethodDescriptor yX1_operationAtHand.desc).map (fun d => d.parameters.length) = some 0 := by decide +kernel
abbrev n_X1_top : Nat := 31
theorem hy_yX1_top : mi 31 = (yX1_top, cX1_top, 1, some .int) := rfl
theorem kP_yX1_top : yX1_top.cls ≠ "java/lang/invoke/MethodHandle" ∧ yX1_top.cls ≠ "java/lang/invoke/VarHandle" ∧ (parseMethodDescriptor yX1_top.desc).map (fun d => d.parameters.length) = some 0 := by decide +kernel
abbrev n_X1_await : Nat := 32
theorem hy_yX1_await : mi 32 = (yX1_await, cX1_await, 2, none) := rfl
theorem kP_yX1_await : yX1_await.cls ≠ "java/lang/invoke/MethodHandle" ∧ yX1_await.cls ≠ "java/lang/invoke/VarHandle" ∧ (parseMethodDescriptor yX1_await.desc).map (fun d => d.parameters.length) = some 1 := by decide +kernel
abbrev n_X1_workOff : Nat := 33
theorem hy_yX1_workOff : mi 33 = (yX1_workOff, cX1_workOff, 4, none) := rfl
theorem kP_yX1_workOff : yX1_workOff.cls ≠ "java/lang/invoke/MethodHandle" ∧ yX1_workOff.cls ≠ "java/lang/invoke/VarHandle" ∧ (parseMethodDescriptor yX1_workOff.desc).map (fun d => d.parameters.length) = some 2 := by decide +kernel
abbrev n_X1_nextToken : Nat := 34
theorem hy_yX1_nextToken : mi 34 = (yX1_nextToken, cX1_nextToken, 2, none) := rfl
theorem kP_yX1_nextToken : yX1_nextToken.cls ≠ "java/lang/invoke/MethodHandle" ∧ yX1_nextToken.cls ≠ "java/lang/invoke/VarHandle" ∧ (parseMethodDescriptor yX1_nextToken.desc).map (fun d => d.parameters.length) = some 0 := by decide +kernel
abbrev n_X1_readWord : Nat := 35
theorem hy_yX1_readWord : mi 35 = (yX1_readWord, cX1_readWord, 2, none) := rfl
theorem kP_yX1_readWord : yX1_readWord.cls ≠ "java/lang/invoke/MethodHandle" ∧ yX1_readWord.cls ≠ "java/lang/invoke/VarHandle" ∧ (parseMethodDescriptor yX1_readWord.desc).map (fun d => d.parameters.length) = some 0 := by decide +kernel
abbrev n_X1_isWord : Nat := 36
theorem hy_yX1_isWord : mi 36 = (yX1_isWord, cX1_isWord, 7, some .boolean) := rfl
theorem kP_yX1_isWord : yX1_isWord.cls ≠ "java/lang/invoke/MethodHandle" ∧ yX1_isWord.cls ≠ "java/lang/invoke/VarHandle" ∧ (parseMethodDescriptor yX1_isWord.desc).map (fun d => d.parameters.length) = some 1 := by decide +kernel
abbrev n_X1_readNumber : Nat := 37
theorem hy_yX1_readNumber : mi 37 = (yX1_readNumber, cX1_readNumber, 1, none) := rfl
theorem kP_yX1_readNumber : yX1_readNumber.cls ≠ "java/lang/invoke/MethodHandle" ∧ yX1_readNumber.cls ≠ "java/lang/invoke/VarHandle" ∧ (parseMethodDescriptor yX1_readNumber.desc).map (fun d => d.parameters.length) = some 0 := by decide +kernel
abbrev n_X1_byteAt : Nat := 38
theorem hy_yX1_byteAt : mi 38 = (yX1_byteAt, cX1_byteAt, 2, some .int) := rfl
theorem kP_yX1_byteAt : yX1_byteAt.cls ≠ "java/lang/invoke/MethodHandle" ∧ yX1_byteAt.cls ≠ "java/lang/invoke/VarHandle" ∧ (parseMethodDescriptor yX1_byteAt.desc).map (fun d => d.parameters.length) = some 1 := by decide +kernel
abbrev n_X1_isLetter : Nat := 39
theorem hy_yX1_isLetter : mi 39 = (yX1_isLetter, cX1_isLetter, 1, some .boolean) := rfl
theorem kP_yX1_isLetter : yX1_isLetter.cls ≠ "java/lang/invoke/MethodHandle" ∧ yX1_isLetter.cls ≠ "java/lang/invoke/VarHandle" ∧ (parseMethodDescriptor yX1_isLetter.desc).map (fun d => d.parameters.length) = some 1 := by decide +kernel
abbrev n_X1_isDigit : Nat := 40
theorem hy_yX1_isDigit : mi 40 = (yX1_isDigit, cX1_isDigit, 1, some .boolean) := rfl
theorem kP_yX1_isDigit : yX1_isDigit.cls ≠ "java/lang/invoke/MethodHandle" ∧ yX1_isDigit.cls ≠ "java/lang/invoke/VarHandle" ∧ (parseMethodDescriptor yX1_isDigit.desc).map (fun d => d.parameters.length) = some 1 := by decide +kernel
abbrev n_X2_size : Nat := 41
theorem hy_yX2_size : mi 41 = (yX2_size, cX2_size, 1, some .int) := rfl
theorem kP_yX2_size : yX2_size.cls ≠ "java/lang/invoke/MethodHandle" ∧ yX2_size.cls ≠ "java/lang/invoke/VarHandle" ∧ (parseMethodDescriptor yX2_size.desc).map (fun d => d.parameters.length) = some 0 := by decide +kernel
abbrev n_X2_isFull : Nat := 42
theorem hy_yX2_isFull : mi 42 = (yX2_isFull, cX2_isFull, 1, some .boolean) := rfl
theorem kP_yX2_isFull : yX2_isFull.cls ≠ "java/lang/invoke/MethodHandle" ∧ yX2_isFull.cls ≠ "java/lang/invoke/VarHandle" ∧ (parseMethodDescriptor yX2_isFull.desc).map (fun d => d.parameters.length) = some 0 := by decide +kernel
abbrev n_X2_has : Nat := 43
theorem hy_yX2_has : mi 43 = (yX2_has, cX2_has, 2, some .boolean) := rfl
theorem kP_yX2_has : yX2_has.cls ≠ "java/lang/invoke/MethodHandle" ∧ yX2_has.cls ≠ "java/lang/invoke/VarHandle" ∧ (parseMethodDescriptor yX2_has.desc).map (fun d => d.parameters.length) = some 1 := by decide +kernel
abbrev n_X2_at : Nat := 44
theorem hy_yX2_at : mi 44 = (yX2_at, cX2_at, 2, some .int) := rfl
theorem kP_yX2_at : yX2_at.cls ≠ "java/lang/invoke/MethodHandle" ∧ yX2_at.cls ≠ "java/lang/invoke/VarHandle" ∧ (parseMethodDescriptor yX2_at.desc).map (fun d => d.parameters.length) = some 1 := by decide +kernel
abbrev n_X2_kindAt : Nat := 45
theorem hy_yX2_kindAt : mi 45 = (yX2_kindAt, cX2_kindAt, 2, some .int) := rfl
theorem kP_yX2_kindAt : yX2_kindAt.cls ≠ "java/lang/invoke/MethodHandle" ∧ yX2_kindAt.cls ≠ "java/lang/invoke/VarHandle" ∧ (parseMethodDescriptor yX2_kindAt.desc).map (fun d => d.parameters.length) = some 1 := by decide +kernel
abbrev n_X2_numberAt : Nat := 46
theorem hy_yX2_numberAt : mi 46 = (yX2_numberAt, cX2_numberAt, 2, some .int) := rfl
theorem kP_yX2_numberAt : yX2_numberAt.cls ≠ "java/lang/invoke/MethodHandle" ∧ yX2_numberAt.cls ≠ "java/lang/invoke/VarHandle" ∧ (parseMethodDescriptor yX2_numberAt.desc).map (fun d => d.parameters.length) = some 1 := by decide +kernel
abbrev n_X2_put : Nat := 47
theorem hy_yX2_put : mi 47 = (yX2_put, cX2_put, 3, none) := rfl
theorem kP_yX2_put : yX2_put.cls ≠ "java/lang/invoke/MethodHandle" ∧ yX2_put.cls ≠ "java/lang/invoke/VarHandle" ∧ (parseMethodDescriptor yX2_put.desc).map (fun d => d.parameters.length) = some 2 := by decide +kernel
abbrev n_X2_add : Nat := 48
theorem hy_yX2_add : mi 48 = (yX2_add, cX2_add, 2, some .int) := rfl
theorem kP_yX2_add : yX2_add.cls ≠ "java/lang/invoke/MethodHandle" ∧ yX2_add.cls ≠ "java/lang/invoke/VarHandle" ∧ (parseMethodDescriptor yX2_add.desc).map (fun d => d.parameters.length) = some 1 := by decide +kernel
abbrev n_X2_dropLast : Nat := 49
theorem hy_yX2_dropLast : mi 49 = (yX2_dropLast, cX2_dropLast, 1, none) := rfl
theorem kP_yX2_dropLast : yX2_dropLast.cls ≠ "java/lang/invoke/MethodHandle" ∧ yX2_dropLast.cls ≠ "java/lang/invoke/VarHandle" ∧ (parseMethodDescriptor yX2_dropLast.desc).map (fun d => d.parameters.length) = some 0 := by decide +kernel
abbrev n_X2_exchange : Nat := 50
theorem hy_yX2_exchange : mi 50 = (yX2_exchange, cX2_exchange, 4, none) := rfl
theorem kP_yX2_exchange : yX2_exchange.cls ≠ "java/lang/invoke/MethodHandle" ∧ yX2_exchange.cls ≠ "java/lang/invoke/VarHandle" ∧ (parseMethodDescriptor yX2_exchange.desc).map (fun d => d.parameters.length) = some 2 := by decide +kernel
abbrev n_X2_become : Nat := 51
theorem hy_yX2_become : mi 51 = (yX2_become, cX2_become, 2, none) := rfl
theorem kP_yX2_become : yX2_become.cls ≠ "java/lang/invoke/MethodHandle" ∧ yX2_become.cls ≠ "java/lang/invoke/VarHandle" ∧ (parseMethodDescriptor yX2_become.desc).map (fun d => d.parameters.length) = some 1 := by decide +kernel
abbrev n_X2_blocks : Nat := 52
theorem hy_yX2_blocks : mi 52 = (yX2_blocks, cX2_blocks, 2, some .boolean) := rfl
theorem kP_yX2_blocks : yX2_blocks.cls ≠ "java/lang/invoke/MethodHandle" ∧ yX2_blocks.cls ≠ "java/lang/invoke/VarHandle" ∧ (parseMethodDescriptor yX2_blocks.desc).map (fun d => d.parameters.length) = some 1 := by decide +kernel
abbrev n_X2_points : Nat := 53
theorem hy_yX2_points : mi 53 = (yX2_points, cX2_points, 4, some .int) := rfl
theorem kP_yX2_points : yX2_points.cls ≠ "java/lang/invoke/MethodHandle" ∧ yX2_points.cls ≠ "java/lang/invoke/VarHandle" ∧ (parseMethodDescriptor yX2_points.desc).map (fun d => d.parameters.length) = some 2 := by decide +kernel
abbrev n_X2_pays : Nat := 54
theorem hy_yX2_pays : mi 54 = (yX2_pays, cX2_pays, 4, some .int) := rfl
theorem kP_yX2_pays : yX2_pays.cls ≠ "java/lang/invoke/MethodHandle" ∧ yX2_pays.cls ≠ "java/lang/invoke/VarHandle" ∧ (parseMethodDescriptor yX2_pays.desc).map (fun d => d.parameters.length) = some 2 := by decide +kernel
abbrev n_X3_length : Nat := 55
theorem hy_yX3_length : mi 55 = (yX3_length, cX3_length, 1, some .int) := rfl
theorem kP_yX3_length : yX3_length.cls ≠ "java/lang/invoke/MethodHandle" ∧ yX3_length.cls ≠ "java/lang/invoke/VarHandle" ∧ (parseMethodDescriptor yX3_length.desc).map (fun d => d.parameters.length) = some 0 := by decide +kernel
abbrev n_X3_bits : Nat := 56
theorem hy_yX3_bits : mi 56 = (yX3_bits, cX3_bits, 1, some .int) := rfl
theorem kP_yX3_bits : yX3_bits.cls ≠ "java/lang/invoke/MethodHandle" ∧ yX3_bits.cls ≠ "java/lang/invoke/VarHandle" ∧ (parseMethodDescriptor yX3_bits.desc).map (fun d => d.parameters.length) = some 0 := by decide +kernel
abbrev n_X3_end : Nat := 57
theorem hy_yX3_end : mi 57 = (yX3_end, cX3_end, 1, some .int) := rfl
theorem kP_yX3_end : yX3_end.cls ≠ "java/lang/invoke/MethodHandle" ∧ yX3_end.cls ≠ "java/lang/invoke/VarHandle" ∧ (parseMethodDescriptor yX3_end.desc).map (fun d => d.parameters.length) = some 0 := by decide +kernel
abbrev n_X3_turnedAt : Nat := 58
theorem hy_yX3_turnedAt : mi 58 = (yX3_turnedAt, cX3_turnedAt, 2, some .int) := rfl
theorem kP_yX3_turnedAt : yX3_turnedAt.cls ≠ "java/lang/invoke/MethodHandle" ∧ yX3_turnedAt.cls ≠ "java/lang/invoke/VarHandle" ∧ (parseMethodDescriptor yX3_turnedAt.desc).map (fun d => d.parameters.length) = some 1 := by decide +kernel
abbrev n_X3_last : Nat := 59
theorem hy_yX3_last : mi 59 = (yX3_last, cX3_last, 1, some .int) := rfl
theorem kP_yX3_last : yX3_last.cls ≠ "java/lang/invoke/MethodHandle" ∧ yX3_last.cls ≠ "java/lang/invoke/VarHandle" ∧ (parseMethodDescriptor yX3_last.desc).map (fun d => d.parameters.length) = some 0 := by decide +kernel
abbrev n_X3_play : Nat := 60
theorem hy_yX3_play : mi 60 = (yX3_play, cX3_play, 8, none) := rfl
theorem kP_yX3_play : yX3_play.cls ≠ "java/lang/invoke/MethodHandle" ∧ yX3_play.cls ≠ "java/lang/invoke/VarHandle" ∧ (parseMethodDescriptor yX3_play.desc).map (fun d => d.parameters.length) = some 3 := by decide +kernel
abbrev n_X3_worth : Nat := 61
theorem hy_yX3_worth : mi 61 = (yX3_worth, cX3_worth, 6, some .int) := rfl
theorem kP_yX3_worth : yX3_worth.cls ≠ "java/lang/invoke/MethodHandle" ∧ yX3_worth.cls ≠ "java/lang/invoke/VarHandle" ∧ (parseMethodDescriptor yX3_worth.desc).map (fun d => d.parameters.length) = some 2 := by decide +kernel
abbrev n_X3_turn : Nat := 62
theorem hy_yX3_turn : mi 62 = (yX3_turn, cX3_turn, 2, none) := rfl
theorem kP_yX3_turn : yX3_turn.cls ≠ "java/lang/invoke/MethodHandle" ∧ yX3_turn.cls ≠ "java/lang/invoke/VarHandle" ∧ (parseMethodDescriptor yX3_turn.desc).map (fun d => d.parameters.length) = some 1 := by decide +kernel
abbrev n_X3_isTurned : Nat := 63
theorem hy_yX3_isTurned : mi 63 = (yX3_isTurned, cX3_isTurned, 2, some .boolean) := rfl
theorem kP_yX3_isTurned : yX3_isTurned.cls ≠ "java/lang/invoke/MethodHandle" ∧ yX3_isTurned.cls ≠ "java/lang/invoke/VarHandle" ∧ (parseMethodDescriptor yX3_isTurned.desc).map (fun d => d.parameters.length) = some 1 := by decide +kernel
abbrev n_X3_before : Nat := 64
theorem hy_yX3_before : mi 64 = (yX3_before, cX3_before, 2, some .int) := rfl
theorem kP_yX3_before : yX3_before.cls ≠ "java/lang/invoke/MethodHandle" ∧ yX3_before.cls ≠ "java/lang/invoke/VarHandle" ∧ (parseMethodDescriptor yX3_before.desc).map (fun d => d.parameters.length) = some 1 := by decide +kernel
abbrev n_X3_further : Nat := 65
theorem hy_yX3_further : mi 65 = (yX3_further, cX3_further, 2, some .int) := rfl
theorem kP_yX3_further : yX3_further.cls ≠ "java/lang/invoke/MethodHandle" ∧ yX3_further.cls ≠ "java/lang/invoke/VarHandle" ∧ (parseMethodDescriptor yX3_further.desc).map (fun d => d.parameters.length) = some 1 := by decide +kernel
abbrev n_X3_nextPlace : Nat := 66
theorem hy_yX3_nextPlace : mi 66 = (yX3_nextPlace, cX3_nextPlace, 7, some .int) := rfl
theorem kP_yX3_nextPlace : yX3_nextPlace.cls ≠ "java/lang/invoke/MethodHandle" ∧ yX3_nextPlace.cls ≠ "java/lang/invoke/VarHandle" ∧ (parseMethodDescriptor yX3_nextPlace.desc).map (fun d => d.parameters.length) = some 3 := by decide +kernel
abbrev n_X3_nameStep : Nat := 67
theorem hy_yX3_nameStep : mi 67 = (yX3_nameStep, cX3_nameStep, 4, none) := rfl
theorem kP_yX3_nameStep : yX3_nameStep.cls ≠ "java/lang/invoke/MethodHandle" ∧ yX3_nameStep.cls ≠ "java/lang/invoke/VarHandle" ∧ (parseMethodDescriptor yX3_nameStep.desc).map (fun d => d.parameters.length) = some 2 := by decide +kernel
abbrev n_X3_name : Nat := 68
theorem hy_yX3_name : mi 68 = (yX3_name, cX3_name, 3, none) := rfl
theorem kP_yX3_name : yX3_name.cls ≠ "java/lang/invoke/MethodHandle" ∧ yX3_name.cls ≠ "java/lang/invoke/VarHandle" ∧ (parseMethodDescriptor yX3_name.desc).map (fun d => d.parameters.length) = some 2 := by decide +kernel
abbrev n_X3_within : Nat := 69
theorem hy_yX3_within : mi 69 = (yX3_within, cX3_within, 3, some .int) := rfl
theorem kP_yX3_within : yX3_within.cls ≠ "java/lang/invoke/MethodHandle" ∧ yX3_within.cls ≠ "java/lang/invoke/VarHandle" ∧ (parseMethodDescriptor yX3_within.desc).map (fun d => d.parameters.length) = some 3 := by decide +kernel
abbrev n_X4_sort : Nat := 70
theorem hy_yX4_sort : mi 70 = (yX4_sort, cX4_sort, 1, some .int) := rfl
theorem kP_yX4_sort : yX4_sort.cls ≠ "java/lang/invoke/MethodHandle" ∧ yX4_sort.cls ≠ "java/lang/invoke/VarHandle" ∧ (parseMethodDescriptor yX4_sort.desc).map (fun d => d.parameters.length) = some 0 := by decide +kernel
abbrev n_X4_size : Nat := 71
theorem hy_yX4_size : mi 71 = (yX4_size, cX4_size, 1, some .int) := rfl
theorem kP_yX4_size : yX4_size.cls ≠ "java/lang/invoke/MethodHandle" ∧ yX4_size.cls ≠ "java/lang/invoke/VarHandle" ∧ (parseMethodDescriptor yX4_size.desc).map (fun d => d.parameters.length) = some 0 := by decide +kernel
abbrev n_X4_isMissing : Nat := 72
theorem hy_yX4_isMissing : mi 72 = (yX4_isMissing, cX4_isMissing, 1, some .boolean) := rfl
theorem kP_yX4_isMissing : yX4_isMissing.cls ≠ "java/lang/invoke/MethodHandle" ∧ yX4_isMissing.cls ≠ "java/lang/invoke/VarHandle" ∧ (parseMethodDescriptor yX4_isMissing.desc).map (fun d => d.parameters.length) = some 0 := by decide +kernel
abbrev n_X4_become : Nat := 73
theorem hy_yX4_become : mi 73 = (yX4_become, cX4_become, 3, none) := rfl
theorem kP_yX4_become : yX4_become.cls ≠ "java/lang/invoke/MethodHandle" ∧ yX4_become.cls ≠ "java/lang/invoke/VarHandle" ∧ (parseMethodDescriptor yX4_become.desc).map (fun d => d.parameters.length) = some 2 := by decide +kernel
abbrev n_X4_has : Nat := 74
theorem hy_yX4_has : mi 74 = (yX4_has, cX4_has, 2, some .boolean) := rfl
theorem kP_yX4_has : yX4_has.cls ≠ "java/lang/invoke/MethodHandle" ∧ yX4_has.cls ≠ "java/lang/invoke/VarHandle" ∧ (parseMethodDescriptor yX4_has.desc).map (fun d => d.parameters.length) = some 1 := by decide +kernel
abbrev n_X4_hasRow : Nat := 75
theorem hy_yX4_hasRow : mi 75 = (yX4_hasRow, cX4_hasRow, 3, some .boolean) := rfl
theorem kP_yX4_hasRow : yX4_hasRow.cls ≠ "java/lang/invoke/MethodHandle" ∧ yX4_hasRow.cls ≠ "java/lang/invoke/VarHandle" ∧ (parseMethodDescriptor yX4_hasRow.desc).map (fun d => d.parameters.length) = some 2 := by decide +kernel
abbrev n_X4_at : Nat := 76
theorem hy_yX4_at : mi 76 = (yX4_at, cX4_at, 2, some .int) := rfl
theorem kP_yX4_at : yX4_at.cls ≠ "java/lang/invoke/MethodHandle" ∧ yX4_at.cls ≠ "java/lang/invoke/VarHandle" ∧ (parseMethodDescriptor yX4_at.desc).map (fun d => d.parameters.length) = some 1 := by decide +kernel
abbrev n_X4_set : Nat := 77
theorem hy_yX4_set : mi 77 = (yX4_set, cX4_set, 3, none) := rfl
theorem kP_yX4_set : yX4_set.cls ≠ "java/lang/invoke/MethodHandle" ∧ yX4_set.cls ≠ "java/lang/invoke/VarHandle" ∧ (parseMethodDescriptor yX4_set.desc).map (fun d => d.parameters.length) = some 2 := by decide +kernel
abbrev n_X4_takeRow : Nat := 78
theorem hy_yX4_takeRow : mi 78 = (yX4_takeRow, cX4_takeRow, 5, none) := rfl
theorem kP_yX4_takeRow : yX4_takeRow.cls ≠ "java/lang/invoke/MethodHandle" ∧ yX4_takeRow.cls ≠ "java/lang/invoke/VarHandle" ∧ (parseMethodDescriptor yX4_takeRow.desc).map (fun d => d.parameters.length) = some 4 := by decide +kernel
abbrev n_X5_clear : Nat := 79
theorem hy_yX5_clear : mi 79 = (yX5_clear, cX5_clear, 1, none) := rfl
theorem kP_yX5_clear : yX5_clear.cls ≠ "java/lang/invoke/MethodHandle" ∧ yX5_clear.cls ≠ "java/lang/invoke/VarHandle" ∧ (parseMethodDescriptor yX5_clear.desc).map (fun d => d.parameters.length) = some 0 := by decide +kernel
abbrev n_X5_add : Nat := 80
theorem hy_yX5_add : mi 80 = (yX5_add, cX5_add, 2, none) := rfl
theorem kP_yX5_add : yX5_add.cls ≠ "java/lang/invoke/MethodHandle" ∧ yX5_add.cls ≠ "java/lang/invoke/VarHandle" ∧ (parseMethodDescriptor yX5_add.desc).map (fun d => d.parameters.length) = some 1 := by decide +kernel
abbrev n_X5_endPart : Nat := 81
theorem hy_yX5_endPart : mi 81 = (yX5_endPart, cX5_endPart, 2, none) := rfl
theorem kP_yX5_endPart : yX5_endPart.cls ≠ "java/lang/invoke/MethodHandle" ∧ yX5_endPart.cls ≠ "java/lang/invoke/VarHandle" ∧ (parseMethodDescriptor yX5_endPart.desc).map (fun d => d.parameters.length) = some 1 := by decide +kernel
abbrev n_X5_tell : Nat := 82
theorem hy_yX5_tell : mi 82 = (yX5_tell, cX5_tell, 8, some .int) := rfl
theorem kP_yX5_tell : yX5_tell.cls ≠ "java/lang/invoke/MethodHandle" ∧ yX5_tell.cls ≠ "java/lang/invoke/VarHandle" ∧ (parseMethodDescriptor yX5_tell.desc).map (fun d => d.parameters.length) = some 3 := by decide +kernel
abbrev n_X5_endOf : Nat := 83
theorem hy_yX5_endOf : mi 83 = (yX5_endOf, cX5_endOf, 2, some .int) := rfl
theorem kP_yX5_endOf : yX5_endOf.cls ≠ "java/lang/invoke/MethodHandle" ∧ yX5_endOf.cls ≠ "java/lang/invoke/VarHandle" ∧ (parseMethodDescriptor yX5_endOf.desc).map (fun d => d.parameters.length) = some 1 := by decide +kernel
abbrev n_X5_operand : Nat := 84
theorem hy_yX5_operand : mi 84 = (yX5_operand, cX5_operand, 2, some .int) := rfl
theorem kP_yX5_operand : yX5_operand.cls ≠ "java/lang/invoke/MethodHandle" ∧ yX5_operand.cls ≠ "java/lang/invoke/VarHandle" ∧ (parseMethodDescriptor yX5_operand.desc).map (fun d => d.parameters.length) = some 2 := by decide +kernel
abbrev n_X5_single : Nat := 85
theorem hy_yX5_single : mi 85 = (yX5_single, cX5_single, 2, some .int) := rfl
theorem kP_yX5_single : yX5_single.cls ≠ "java/lang/invoke/MethodHandle" ∧ yX5_single.cls ≠ "java/lang/invoke/VarHandle" ∧ (parseMethodDescriptor yX5_single.desc).map (fun d => d.parameters.length) = some 2 := by decide +kernel
abbrev n_X5_both : Nat := 86
theorem hy_yX5_both : mi 86 = (yX5_both, cX5_both, 3, some .int) := rfl
theorem kP_yX5_both : yX5_both.cls ≠ "java/lang/invoke/MethodHandle" ∧ yX5_both.cls ≠ "java/lang/invoke/VarHandle" ∧ (parseMethodDescriptor yX5_both.desc).map (fun d => d.parameters.length) = some 3 := by decide +kernel
abbrev n_X5_bit : Nat := 87
theorem hy_yX5_bit : mi 87 = (yX5_bit, cX5_bit, 1, some .int) := rfl
theorem kP_yX5_bit : yX5_bit.cls ≠ "java/lang/invoke/MethodHandle" ∧ yX5_bit.cls ≠ "java/lang/invoke/VarHandle" ∧ (parseMethodDescriptor yX5_bit.desc).map (fun d => d.parameters.length) = some 1 := by decide +kernel
abbrev n_X6_card : Nat := 88
theorem hy_yX6_card : mi 88 = (yX6_card, cX6_card, 3, some .int) := rfl
theorem kP_yX6_card : yX6_card.cls ≠ "java/lang/invoke/MethodHandle" ∧ yX6_card.cls ≠ "java/lang/invoke/VarHandle" ∧ (parseMethodDescriptor yX6_card.desc).map (fun d => d.parameters.length) = some 2 := by decide +kernel
abbrev n_X6_lay : Nat := 89
theorem hy_yX6_lay : mi 89 = (yX6_lay, cX6_lay, 5, some .int) := rfl
theorem kP_yX6_lay : yX6_lay.cls ≠ "java/lang/invoke/MethodHandle" ∧ yX6_lay.cls ≠ "java/lang/invoke/VarHandle" ∧ (parseMethodDescriptor yX6_lay.desc).map (fun d => d.parameters.length) = some 3 := by decide +kernel
abbrev n_X6_takeUp : Nat := 90
theorem hy_yX6_takeUp : mi 90 = (yX6_takeUp, cX6_takeUp, 2, some .int) := rfl
theorem kP_yX6_takeUp : yX6_takeUp.cls ≠ "java/lang/invoke/MethodHandle" ∧ yX6_takeUp.cls ≠ "java/lang/invoke/VarHandle" ∧ (parseMethodDescriptor yX6_takeUp.desc).map (fun d => d.parameters.length) = some 0 := by decide +kernel
abbrev n_X6_swap : Nat := 91
theorem hy_yX6_swap : mi 91 = (yX6_swap, cX6_swap, 3, some .int) := rfl
theorem kP_yX6_swap : yX6_swap.cls ≠ "java/lang/invoke/MethodHandle" ∧ yX6_swap.cls ≠ "java/lang/invoke/VarHandle" ∧ (parseMethodDescriptor yX6_swap.desc).map (fun d => d.parameters.length) = some 2 := by decide +kernel
abbrev n_X6_told : Nat := 92
theorem hy_yX6_told : mi 92 = (yX6_told, cX6_told, 3, some .int) := rfl
theorem kP_yX6_told : yX6_told.cls ≠ "java/lang/invoke/MethodHandle" ∧ yX6_told.cls ≠ "java/lang/invoke/VarHandle" ∧ (parseMethodDescriptor yX6_told.desc).map (fun d => d.parameters.length) = some 2 := by decide +kernel
abbrev n_X6_feed : Nat := 93
theorem hy_yX6_feed : mi 93 = (yX6_feed, cX6_feed, 2, some .int) := rfl
theorem kP_yX6_feed : yX6_feed.cls ≠ "java/lang/invoke/MethodHandle" ∧ yX6_feed.cls ≠ "java/lang/invoke/VarHandle" ∧ (parseMethodDescriptor yX6_feed.desc).map (fun d => d.parameters.length) = some 1 := by decide +kernel
abbrev n_X6_text : Nat := 94
theorem hy_yX6_text : mi 94 = (yX6_text, cX6_text, 3, some .int) := rfl
theorem kP_yX6_text : yX6_text.cls ≠ "java/lang/invoke/MethodHandle" ∧ yX6_text.cls ≠ "java/lang/invoke/VarHandle" ∧ (parseMethodDescriptor yX6_text.desc).map (fun d => d.parameters.length) = some 0 := by decide +kernel
abbrev n_X6_force : Nat := 95
theorem hy_yX6_force : mi 95 = (yX6_force, cX6_force, 3, some .int) := rfl
theorem kP_yX6_force : yX6_force.cls ≠ "java/lang/invoke/MethodHandle" ∧ yX6_force.cls ≠ "java/lang/invoke/VarHandle" ∧ (parseMethodDescriptor yX6_force.desc).map (fun d => d.parameters.length) = some 1 := by decide +kernel
abbrev n_X6_round : Nat := 96
theorem hy_yX6_round : mi 96 = (yX6_round, cX6_round, 5, some .int) := rfl
theorem kP_yX6_round : yX6_round.cls ≠ "java/lang/invoke/MethodHandle" ∧ yX6_round.cls ≠ "java/lang/invoke/VarHandle" ∧ (parseMethodDescriptor yX6_round.desc).map (fun d => d.parameters.length) = some 2 := by decide +kernel
abbrev n_X6_harvests : Nat := 97
theorem hy_yX6_harvests : mi 97 = (yX6_harvests, cX6_harvests, 3, some .int) := rfl
theorem kP_yX6_harvests : yX6_harvests.cls ≠ "java/lang/invoke/MethodHandle" ∧ yX6_harvests.cls ≠ "java/lang/invoke/VarHandle" ∧ (parseMethodDescriptor yX6_harvests.desc).map (fun d => d.parameters.length) = some 0 := by decide +kernel
abbrev n_X6_best : Nat := 98
theorem hy_yX6_best : mi 98 = (yX6_best, cX6_best, 6, some .int) := rfl
theorem kP_yX6_best : yX6_best.cls ≠ "java/lang/invoke/MethodHandle" ∧ yX6_best.cls ≠ "java/lang/invoke/VarHandle" ∧ (parseMethodDescriptor yX6_best.desc).map (fun d => d.parameters.length) = some 1 := by decide +kernel
abbrev n_X6_change : Nat := 99
theorem hy_yX6_change : mi 99 = (yX6_change, cX6_change, 8, some .int) := rfl
theorem kP_yX6_change : yX6_change.cls ≠ "java/lang/invoke/MethodHandle" ∧ yX6_change.cls ≠ "java/lang/invoke/VarHandle" ∧ (parseMethodDescriptor yX6_change.desc).map (fun d => d.parameters.length) = some 2 := by decide +kernel
abbrev n_X6_anew : Nat := 100
theorem hy_yX6_anew : mi 100 = (yX6_anew, cX6_anew, 7, some .int) := rfl
theorem kP_yX6_anew : yX6_anew.cls ≠ "java/lang/invoke/MethodHandle" ∧ yX6_anew.cls ≠ "java/lang/invoke/VarHandle" ∧ (parseMethodDescriptor yX6_anew.desc).map (fun d => d.parameters.length) = some 3 := by decide +kernel
abbrev n_X6_hay : Nat := 101
theorem hy_yX6_hay : mi 101 = (yX6_hay, cX6_hay, 7, some .int) := rfl
theorem kP_yX6_hay : yX6_hay.cls ≠ "java/lang/invoke/MethodHandle" ∧ yX6_hay.cls ≠ "java/lang/invoke/VarHandle" ∧ (parseMethodDescriptor yX6_hay.desc).map (fun d => d.parameters.length) = some 2 := by decide +kernel
abbrev n_X6_layings : Nat := 102
theorem hy_yX6_layings : mi 102 = (yX6_layings, cX6_layings, 6, some .int) := rfl
theorem kP_yX6_layings : yX6_layings.cls ≠ "java/lang/invoke/MethodHandle" ∧ yX6_layings.cls ≠ "java/lang/invoke/VarHandle" ∧ (parseMethodDescriptor yX6_layings.desc).map (fun d => d.parameters.length) = some 1 := by decide +kernel
abbrev n_X6_tells : Nat := 103
theorem hy_yX6_tells : mi 103 = (yX6_tells, cX6_tells, 4, some .int) := rfl
theorem kP_yX6_tells : yX6_tells.cls ≠ "java/lang/invoke/MethodHandle" ∧ yX6_tells.cls ≠ "java/lang/invoke/VarHandle" ∧ (parseMethodDescriptor yX6_tells.desc).map (fun d => d.parameters.length) = some 2 := by decide +kernel
abbrev n_X6_film : Nat := 104
theorem hy_yX6_film : mi 104 = (yX6_film, cX6_film, 5, some .int) := rfl
theorem kP_yX6_film : yX6_film.cls ≠ "java/lang/invoke/MethodHandle" ∧ yX6_film.cls ≠ "java/lang/invoke/VarHandle" ∧ (parseMethodDescriptor yX6_film.desc).map (fun d => d.parameters.length) = some 2 := by decide +kernel
abbrev n_X6_drawn : Nat := 105
theorem hy_yX6_drawn : mi 105 = (yX6_drawn, cX6_drawn, 2, some .int) := rfl
theorem kP_yX6_drawn : yX6_drawn.cls ≠ "java/lang/invoke/MethodHandle" ∧ yX6_drawn.cls ≠ "java/lang/invoke/VarHandle" ∧ (parseMethodDescriptor yX6_drawn.desc).map (fun d => d.parameters.length) = some 1 := by decide +kernel
abbrev n_X6_chance : Nat := 106
theorem hy_yX6_chance : mi 106 = (yX6_chance, cX6_chance, 6, some .long) := rfl
theorem kP_yX6_chance : yX6_chance.cls ≠ "java/lang/invoke/MethodHandle" ∧ yX6_chance.cls ≠ "java/lang/invoke/VarHandle" ∧ (parseMethodDescriptor yX6_chance.desc).map (fun d => d.parameters.length) = some 3 := by decide +kernel
abbrev n_X6_image : Nat := 107
theorem hy_yX6_image : mi 107 = (yX6_image, cX6_image, 1, some .int) := rfl
theorem kP_yX6_image : yX6_image.cls ≠ "java/lang/invoke/MethodHandle" ∧ yX6_image.cls ≠ "java/lang/invoke/VarHandle" ∧ (parseMethodDescriptor yX6_image.desc).map (fun d => d.parameters.length) = some 0 := by decide +kernel
abbrev n_X6_back : Nat := 108
theorem hy_yX6_back : mi 108 = (yX6_back, cX6_back, 1, some .int) := rfl
theorem kP_yX6_back : yX6_back.cls ≠ "java/lang/invoke/MethodHandle" ∧ yX6_back.cls ≠ "java/lang/invoke/VarHandle" ∧ (parseMethodDescriptor yX6_back.desc).map (fun d => d.parameters.length) = some 0 := by decide +kernel
abbrev n_X6_count : Nat := 109
theorem hy_yX6_count : mi 109 = (yX6_count, cX6_count, 2, some .int) := rfl
theorem kP_yX6_count : yX6_count.cls ≠ "java/lang/invoke/MethodHandle" ∧ yX6_count.cls ≠ "java/lang/invoke/VarHandle" ∧ (parseMethodDescriptor yX6_count.desc).map (fun d => d.parameters.length) = some 1 := by decide +kernel
abbrev n_X6_sheet : Nat := 110
theorem hy_yX6_sheet : mi 110 = (yX6_sheet, cX6_sheet, 5, some .int) := rfl
theorem kP_yX6_sheet : yX6_sheet.cls ≠ "java/lang/invoke/MethodHandle" ∧ yX6_sheet.cls ≠ "java/lang/invoke/VarHandle" ∧ (parseMethodDescriptor yX6_sheet.desc).map (fun d => d.parameters.length) = some 3 := by decide +kernel
abbrev n_X6_cell : Nat := 111
theorem hy_yX6_cell : mi 111 = (yX6_cell, cX6_cell, 5, some .int) := rfl
theorem kP_yX6_cell : yX6_cell.cls ≠ "java/lang/invoke/MethodHandle" ∧ yX6_cell.cls ≠ "java/lang/invoke/VarHandle" ∧ (parseMethodDescriptor yX6_cell.desc).map (fun d => d.parameters.length) = some 3 := by decide +kernel
abbrev n_X6_copy : Nat := 112
theorem hy_yX6_copy : mi 112 = (yX6_copy, cX6_copy, 8, some .int) := rfl
theorem kP_yX6_copy : yX6_copy.cls ≠ "java/lang/invoke/MethodHandle" ∧ yX6_copy.cls ≠ "java/lang/invoke/VarHandle" ∧ (parseMethodDescriptor yX6_copy.desc).map (fun d => d.parameters.length) = some 5 := by decide +kernel
abbrev n_X6_cards : Nat := 113
theorem hy_yX6_cards : mi 113 = (yX6_cards, cX6_cards, 9, some .int) := rfl
theorem kP_yX6_cards : yX6_cards.cls ≠ "java/lang/invoke/MethodHandle" ∧ yX6_cards.cls ≠ "java/lang/invoke/VarHandle" ∧ (parseMethodDescriptor yX6_cards.desc).map (fun d => d.parameters.length) = some 4 := by decide +kernel
abbrev n_X6_taken : Nat := 114
theorem hy_yX6_taken : mi 114 = (yX6_taken, cX6_taken, 3, some .int) := rfl
theorem kP_yX6_taken : yX6_taken.cls ≠ "java/lang/invoke/MethodHandle" ∧ yX6_taken.cls ≠ "java/lang/invoke/VarHandle" ∧ (parseMethodDescriptor yX6_taken.desc).map (fun d => d.parameters.length) = some 2 := by decide +kernel
abbrev n_X6_isCard : Nat := 115
theorem hy_yX6_isCard : mi 115 = (yX6_isCard, cX6_isCard, 2, some .boolean) := rfl
theorem kP_yX6_isCard : yX6_isCard.cls ≠ "java/lang/invoke/MethodHandle" ∧ yX6_isCard.cls ≠ "java/lang/invoke/VarHandle" ∧ (parseMethodDescriptor yX6_isCard.desc).map (fun d => d.parameters.length) = some 2 := by decide +kernel
abbrev n_X6_cardOf : Nat := 116
theorem hy_yX6_cardOf : mi 116 = (yX6_cardOf, cX6_cardOf, 2, some .int) := rfl
theorem kP_yX6_cardOf : yX6_cardOf.cls ≠ "java/lang/invoke/MethodHandle" ∧ yX6_cardOf.cls ≠ "java/lang/invoke/VarHandle" ∧ (parseMethodDescriptor yX6_cardOf.desc).map (fun d => d.parameters.length) = some 2 := by decide +kernel
abbrev n_X6_isUnder : Nat := 117
theorem hy_yX6_isUnder : mi 117 = (yX6_isUnder, cX6_isUnder, 4, some .boolean) := rfl
theorem kP_yX6_isUnder : yX6_isUnder.cls ≠ "java/lang/invoke/MethodHandle" ∧ yX6_isUnder.cls ≠ "java/lang/invoke/VarHandle" ∧ (parseMethodDescriptor yX6_isUnder.desc).map (fun d => d.parameters.length) = some 2 := by decide +kernel
abbrev n_X6_isFirstOrSecond : Nat := 118
theorem hy_yX6_isFirstOrSecond : mi 118 = (yX6_isFirstOrSecond, cX6_isFirstOrSecond, 1, some .boolean) := rfl
theorem kP_yX6_isFirstOrSecond : yX6_isFirstOrSecond.cls ≠ "java/lang/invoke/MethodHandle" ∧ yX6_isFirstOrSecond.cls ≠ "java/lang/invoke/VarHandle" ∧ (parseMethodDescriptor yX6_isFirstOrSecond.desc).map (fun d => d.parameters.length) = some 1 := by decide +kernel
abbrev n_X6_isSort : Nat := 119
theorem hy_yX6_isSort : mi 119 = (yX6_isSort, cX6_isSort, 1, some .boolean) := rfl
theorem kP_yX6_isSort : yX6_isSort.cls ≠ "java/lang/invoke/MethodHandle" ∧ yX6_isSort.cls ≠ "java/lang/invoke/VarHandle" ∧ (parseMethodDescriptor yX6_isSort.desc).map (fun d => d.parameters.length) = some 1 := by decide +kernel
abbrev n_X6_commonDivisor : Nat := 120
theorem hy_yX6_commonDivisor : mi 120 = (yX6_commonDivisor, cX6_commonDivisor, 3, some .int) := rfl
theorem kP_yX6_commonDivisor : yX6_commonDivisor.cls ≠ "java/lang/invoke/MethodHandle" ∧ yX6_commonDivisor.cls ≠ "java/lang/invoke/VarHandle" ∧ (parseMethodDescriptor yX6_commonDivisor.desc).map (fun d => d.parameters.length) = some 2 := by decide +kernel
abbrev n_X6_textAt : Nat := 121
theorem hy_yX6_textAt : mi 121 = (yX6_textAt, cX6_textAt, 2, some ((.object "SevenInTheHay$Text"))) := rfl
theorem kP_yX6_textAt : yX6_textAt.cls ≠ "java/lang/invoke/MethodHandle" ∧ yX6_textAt.cls ≠ "java/lang/invoke/VarHandle" ∧ (parseMethodDescriptor yX6_textAt.desc).map (fun d => d.parameters.length) = some 1 := by decide +kernel
abbrev n_X6_sheetAt : Nat := 122
theorem hy_yX6_sheetAt : mi 122 = (yX6_sheetAt, cX6_sheetAt, 2, some ((.object "SevenInTheHay$Sheet"))) := rfl
theorem kP_yX6_sheetAt : yX6_sheetAt.cls ≠ "java/lang/invoke/MethodHandle" ∧ yX6_sheetAt.cls ≠ "java/lang/invoke/VarHandle" ∧ (parseMethodDescriptor yX6_sheetAt.desc).map (fun d => d.parameters.length) = some 1 := by decide +kernel
abbrev n_X6_lengthOf : Nat := 123
theorem hy_yX6_lengthOf : mi 123 = (yX6_lengthOf, cX6_lengthOf, 3, some .int) := rfl
theorem kP_yX6_lengthOf : yX6_lengthOf.cls ≠ "java/lang/invoke/MethodHandle" ∧ yX6_lengthOf.cls ≠ "java/lang/invoke/VarHandle" ∧ (parseMethodDescriptor yX6_lengthOf.desc).map (fun d => d.parameters.length) = some 2 := by decide +kernel
abbrev n_X6_isHarvest : Nat := 124
theorem hy_yX6_isHarvest : mi 124 = (yX6_isHarvest, cX6_isHarvest, 3, some .boolean) := rfl
theorem kP_yX6_isHarvest : yX6_isHarvest.cls ≠ "java/lang/invoke/MethodHandle" ∧ yX6_isHarvest.cls ≠ "java/lang/invoke/VarHandle" ∧ (parseMethodDescriptor yX6_isHarvest.desc).map (fun d => d.parameters.length) = some 2 := by decide +kernel
abbrev n_X6_layInOrder : Nat := 125
theorem hy_yX6_layInOrder : mi 125 = (yX6_layInOrder, cX6_layInOrder, 2, none) := rfl
theorem kP_yX6_layInOrder : yX6_layInOrder.cls ≠ "java/lang/invoke/MethodHandle" ∧ yX6_layInOrder.cls ≠ "java/lang/invoke/VarHandle" ∧ (parseMethodDescriptor yX6_layInOrder.desc).map (fun d => d.parameters.length) = some 0 := by decide +kernel
abbrev n_X6_draw : Nat := 126
theorem hy_yX6_draw : mi 126 = (yX6_draw, cX6_draw, 4, none) := rfl
theorem kP_yX6_draw : yX6_draw.cls ≠ "java/lang/invoke/MethodHandle" ∧ yX6_draw.cls ≠ "java/lang/invoke/VarHandle" ∧ (parseMethodDescriptor yX6_draw.desc).map (fun d => d.parameters.length) = some 1 := by decide +kernel
abbrev n_X6_asksOfTold : Nat := 127
theorem hy_yX6_asksOfTold : mi 127 = (yX6_asksOfTold, cX6_asksOfTold, 2, some .boolean) := rfl
theorem kP_yX6_asksOfTold : yX6_asksOfTold.cls ≠ "java/lang/invoke/MethodHandle" ∧ yX6_asksOfTold.cls ≠ "java/lang/invoke/VarHandle" ∧ (parseMethodDescriptor yX6_asksOfTold.desc).map (fun d => d.parameters.length) = some 1 := by decide +kernel
abbrev n_X6_tellsPlaces : Nat := 128
theorem hy_yX6_tellsPlaces : mi 128 = (yX6_tellsPlaces, cX6_tellsPlaces, 3, some .boolean) := rfl
theorem kP_yX6_tellsPlaces : yX6_tellsPlaces.cls ≠ "java/lang/invoke/MethodHandle" ∧ yX6_tellsPlaces.cls ≠ "java/lang/invoke/VarHandle" ∧ (parseMethodDescriptor yX6_tellsPlaces.desc).map (fun d => d.parameters.length) = some 1 := by decide +kernel
abbrev n_X6_otherwise : Nat := 129
theorem hy_yX6_otherwise : mi 129 = (yX6_otherwise, cX6_otherwise, 5, some .int) := rfl
theorem kP_yX6_otherwise : yX6_otherwise.cls ≠ "java/lang/invoke/MethodHandle" ∧ yX6_otherwise.cls ≠ "java/lang/invoke/VarHandle" ∧ (parseMethodDescriptor yX6_otherwise.desc).map (fun d => d.parameters.length) = some 3 := by decide +kernel
abbrev n_X6_startsOf : Nat := 130
theorem hy_yX6_startsOf : mi 130 = (yX6_startsOf, cX6_startsOf, 5, some .int) := rfl
theorem kP_yX6_startsOf : yX6_startsOf.cls ≠ "java/lang/invoke/MethodHandle" ∧ yX6_startsOf.cls ≠ "java/lang/invoke/VarHandle" ∧ (parseMethodDescriptor yX6_startsOf.desc).map (fun d => d.parameters.length) = some 1 := by decide +kernel
abbrev n_X6_textsOf : Nat := 131
theorem hy_yX6_textsOf : mi 131 = (yX6_textsOf, cX6_textsOf, 4, some .int) := rfl
theorem kP_yX6_textsOf : yX6_textsOf.cls ≠ "java/lang/invoke/MethodHandle" ∧ yX6_textsOf.cls ≠ "java/lang/invoke/VarHandle" ∧ (parseMethodDescriptor yX6_textsOf.desc).map (fun d => d.parameters.length) = some 1 := by decide +kernel
abbrev n_X6_kindsOf : Nat := 132
theorem hy_yX6_kindsOf : mi 132 = (yX6_kindsOf, cX6_kindsOf, 5, some .int) := rfl
theorem kP_yX6_kindsOf : yX6_kindsOf.cls ≠ "java/lang/invoke/MethodHandle" ∧ yX6_kindsOf.cls ≠ "java/lang/invoke/VarHandle" ∧ (parseMethodDescriptor yX6_kindsOf.desc).map (fun d => d.parameters.length) = some 2 := by decide +kernel
abbrev n_X6_numbersOf : Nat := 133
theorem hy_yX6_numbersOf : mi 133 = (yX6_numbersOf, cX6_numbersOf, 5, some .int) := rfl
theorem kP_yX6_numbersOf : yX6_numbersOf.cls ≠ "java/lang/invoke/MethodHandle" ∧ yX6_numbersOf.cls ≠ "java/lang/invoke/VarHandle" ∧ (parseMethodDescriptor yX6_numbersOf.desc).map (fun d => d.parameters.length) = some 2 := by decide +kernel
abbrev n_X7_in : Nat := 134
theorem hy_yX7_in : mi 134 = (yX7_in, cX7_in, 6, some .boolean) := rfl
theorem kP_yX7_in : yX7_in.cls ≠ "java/lang/invoke/MethodHandle" ∧ yX7_in.cls ≠ "java/lang/invoke/VarHandle" ∧ (parseMethodDescriptor yX7_in.desc).map (fun d => d.parameters.length) = some 3 := by decide +kernel
abbrev n_X7_within : Nat := 135
theorem hy_yX7_within : mi 135 = (yX7_within, cX7_within, 3, some .int) := rfl
theorem kP_yX7_within : yX7_within.cls ≠ "java/lang/invoke/MethodHandle" ∧ yX7_within.cls ≠ "java/lang/invoke/VarHandle" ∧ (parseMethodDescriptor yX7_within.desc).map (fun d => d.parameters.length) = some 3 := by decide +kernel
abbrev n_X7_spell : Nat := 136
theorem hy_yX7_spell : mi 136 = (yX7_spell, cX7_spell, 10, none) := rfl
theorem kP_yX7_spell : yX7_spell.cls ≠ "java/lang/invoke/MethodHandle" ∧ yX7_spell.cls ≠ "java/lang/invoke/VarHandle" ∧ (parseMethodDescriptor yX7_spell.desc).map (fun d => d.parameters.length) = some 9 := by decide +kernel
abbrev n_X7_isPlace : Nat := 137
theorem hy_yX7_isPlace : mi 137 = (yX7_isPlace, cX7_isPlace, 2, some .boolean) := rfl
theorem kP_yX7_isPlace : yX7_isPlace.cls ≠ "java/lang/invoke/MethodHandle" ∧ yX7_isPlace.cls ≠ "java/lang/invoke/VarHandle" ∧ (parseMethodDescriptor yX7_isPlace.desc).map (fun d => d.parameters.length) = some 1 := by decide +kernel
abbrev n_X7_isCard : Nat := 138
theorem hy_yX7_isCard : mi 138 = (yX7_isCard, cX7_isCard, 2, some .boolean) := rfl
theorem kP_yX7_isCard : yX7_isCard.cls ≠ "java/lang/invoke/MethodHandle" ∧ yX7_isCard.cls ≠ "java/lang/invoke/VarHandle" ∧ (parseMethodDescriptor yX7_isCard.desc).map (fun d => d.parameters.length) = some 2 := by decide +kernel
abbrev n_X7_codeOf : Nat := 139
theorem hy_yX7_codeOf : mi 139 = (yX7_codeOf, cX7_codeOf, 2, some .int) := rfl
theorem kP_yX7_codeOf : yX7_codeOf.cls ≠ "java/lang/invoke/MethodHandle" ∧ yX7_codeOf.cls ≠ "java/lang/invoke/VarHandle" ∧ (parseMethodDescriptor yX7_codeOf.desc).map (fun d => d.parameters.length) = some 1 := by decide +kernel
abbrev n_X7_puts : Nat := 140
theorem hy_yX7_puts : mi 140 = (yX7_puts, cX7_puts, 3, none) := rfl
theorem kP_yX7_puts : yX7_puts.cls ≠ "java/lang/invoke/MethodHandle" ∧ yX7_puts.cls ≠ "java/lang/invoke/VarHandle" ∧ (parseMethodDescriptor yX7_puts.desc).map (fun d => d.parameters.length) = some 2 := by decide +kernel
abbrev n_X7_card : Nat := 141
theorem hy_yX7_card : mi 141 = (yX7_card, cX7_card, 3, some .int) := rfl
theorem kP_yX7_card : yX7_card.cls ≠ "java/lang/invoke/MethodHandle" ∧ yX7_card.cls ≠ "java/lang/invoke/VarHandle" ∧ (parseMethodDescriptor yX7_card.desc).map (fun d => d.parameters.length) = some 2 := by decide +kernel
abbrev n_X7_lay : Nat := 142
theorem hy_yX7_lay : mi 142 = (yX7_lay, cX7_lay, 5, some .int) := rfl
theorem kP_yX7_lay : yX7_lay.cls ≠ "java/lang/invoke/MethodHandle" ∧ yX7_lay.cls ≠ "java/lang/invoke/VarHandle" ∧ (parseMethodDescriptor yX7_lay.desc).map (fun d => d.parameters.length) = some 3 := by decide +kernel
abbrev n_X7_takeUp : Nat := 143
theorem hy_yX7_takeUp : mi 143 = (yX7_takeUp, cX7_takeUp, 1, some .int) := rfl
theorem kP_yX7_takeUp : yX7_takeUp.cls ≠ "java/lang/invoke/MethodHandle" ∧ yX7_takeUp.cls ≠ "java/lang/invoke/VarHandle" ∧ (parseMethodDescriptor yX7_takeUp.desc).map (fun d => d.parameters.length) = some 0 := by decide +kernel
abbrev n_X7_exchanges : Nat := 144
theorem hy_yX7_exchanges : mi 144 = (yX7_exchanges, cX7_exchanges, 4, none) := rfl
theorem kP_yX7_exchanges : yX7_exchanges.cls ≠ "java/lang/invoke/MethodHandle" ∧ yX7_exchanges.cls ≠ "java/lang/invoke/VarHandle" ∧ (parseMethodDescriptor yX7_exchanges.desc).map (fun d => d.parameters.length) = some 2 := by decide +kernel
abbrev n_X7_swap : Nat := 145
theorem hy_yX7_swap : mi 145 = (yX7_swap, cX7_swap, 3, some .int) := rfl
theorem kP_yX7_swap : yX7_swap.cls ≠ "java/lang/invoke/MethodHandle" ∧ yX7_swap.cls ≠ "java/lang/invoke/VarHandle" ∧ (parseMethodDescriptor yX7_swap.desc).map (fun d => d.parameters.length) = some 2 := by decide +kernel
abbrev n_X7_pointsOf : Nat := 146
theorem hy_yX7_pointsOf : mi 146 = (yX7_pointsOf, cX7_pointsOf, 5, some .int) := rfl
theorem kP_yX7_pointsOf : yX7_pointsOf.cls ≠ "java/lang/invoke/MethodHandle" ∧ yX7_pointsOf.cls ≠ "java/lang/invoke/VarHandle" ∧ (parseMethodDescriptor yX7_pointsOf.desc).map (fun d => d.parameters.length) = some 2 := by decide +kernel
abbrev n_X7_told : Nat := 147
theorem hy_yX7_told : mi 147 = (yX7_told, cX7_told, 3, some .int) := rfl
theorem kP_yX7_told : yX7_told.cls ≠ "java/lang/invoke/MethodHandle" ∧ yX7_told.cls ≠ "java/lang/invoke/VarHandle" ∧ (parseMethodDescriptor yX7_told.desc).map (fun d => d.parameters.length) = some 2 := by decide +kernel
abbrev n_X7_feed : Nat := 148
theorem hy_yX7_feed : mi 148 = (yX7_feed, cX7_feed, 2, some .int) := rfl
theorem kP_yX7_feed : yX7_feed.cls ≠ "java/lang/invoke/MethodHandle" ∧ yX7_feed.cls ≠ "java/lang/invoke/VarHandle" ∧ (parseMethodDescriptor yX7_feed.desc).map (fun d => d.parameters.length) = some 1 := by decide +kernel
abbrev n_X7_byteAt : Nat := 149
theorem hy_yX7_byteAt : mi 149 = (yX7_byteAt, cX7_byteAt, 2, some .int) := rfl
theorem kP_yX7_byteAt : yX7_byteAt.cls ≠ "java/lang/invoke/MethodHandle" ∧ yX7_byteAt.cls ≠ "java/lang/invoke/VarHandle" ∧ (parseMethodDescriptor yX7_byteAt.desc).map (fun d => d.parameters.length) = some 1 := by decide +kernel
abbrev n_X7_next : Nat := 150
theorem hy_yX7_next : mi 150 = (yX7_next, cX7_next, 3, none) := rfl
theorem kP_yX7_next : yX7_next.cls ≠ "java/lang/invoke/MethodHandle" ∧ yX7_next.cls ≠ "java/lang/invoke/VarHandle" ∧ (parseMethodDescriptor yX7_next.desc).map (fun d => d.parameters.length) = some 0 := by decide +kernel
abbrev n_X7_fail : Nat := 151
theorem hy_yX7_fail : mi 151 = (yX7_fail, cX7_fail, 1, none) := rfl
theorem kP_yX7_fail : yX7_fail.cls ≠ "java/lang/invoke/MethodHandle" ∧ yX7_fail.cls ≠ "java/lang/invoke/VarHandle" ∧ (parseMethodDescriptor yX7_fail.desc).map (fun d => d.parameters.length) = some 0 := by decide +kernel
abbrev n_X7_isLetter : Nat := 152
theorem hy_yX7_isLetter : mi 152 = (yX7_isLetter, cX7_isLetter, 3, some .boolean) := rfl
theorem kP_yX7_isLetter : yX7_isLetter.cls ≠ "java/lang/invoke/MethodHandle" ∧ yX7_isLetter.cls ≠ "java/lang/invoke/VarHandle" ∧ (parseMethodDescriptor yX7_isLetter.desc).map (fun d => d.parameters.length) = some 2 := by decide +kernel
abbrev n_X7_isWord : Nat := 153
theorem hy_yX7_isWord : mi 153 = (yX7_isWord, cX7_isWord, 9, some .boolean) := rfl
theorem kP_yX7_isWord : yX7_isWord.cls ≠ "java/lang/invoke/MethodHandle" ∧ yX7_isWord.cls ≠ "java/lang/invoke/VarHandle" ∧ (parseMethodDescriptor yX7_isWord.desc).map (fun d => d.parameters.length) = some 8 := by decide +kernel
abbrev n_X7_isSign : Nat := 154
theorem hy_yX7_isSign : mi 154 = (yX7_isSign, cX7_isSign, 2, some .boolean) := rfl
theorem kP_yX7_isSign : yX7_isSign.cls ≠ "java/lang/invoke/MethodHandle" ∧ yX7_isSign.cls ≠ "java/lang/invoke/VarHandle" ∧ (parseMethodDescriptor yX7_isSign.desc).map (fun d => d.parameters.length) = some 1 := by decide +kernel
abbrev n_X7_opens : Nat := 155
theorem hy_yX7_opens : mi 155 = (yX7_opens, cX7_opens, 1, some .boolean) := rfl
theorem kP_yX7_opens : yX7_opens.cls ≠ "java/lang/invoke/MethodHandle" ∧ yX7_opens.cls ≠ "java/lang/invoke/VarHandle" ∧ (parseMethodDescriptor yX7_opens.desc).map (fun d => d.parameters.length) = some 0 := by decide +kernel
abbrev n_X7_name : Nat := 156
theorem hy_yX7_name : mi 156 = (yX7_name, cX7_name, 1, some .int) := rfl
theorem kP_yX7_name : yX7_name.cls ≠ "java/lang/invoke/MethodHandle" ∧ yX7_name.cls ≠ "java/lang/invoke/VarHandle" ∧ (parseMethodDescriptor yX7_name.desc).map (fun d => d.parameters.length) = some 0 := by decide +kernel
abbrev n_X7_atom : Nat := 157
theorem hy_yX7_atom : mi 157 = (yX7_atom, cX7_atom, 2, some .int) := rfl
theorem kP_yX7_atom : yX7_atom.cls ≠ "java/lang/invoke/MethodHandle" ∧ yX7_atom.cls ≠ "java/lang/invoke/VarHandle" ∧ (parseMethodDescriptor yX7_atom.desc).map (fun d => d.parameters.length) = some 0 := by decide +kernel
abbrev n_X7_term : Nat := 158
theorem hy_yX7_term : mi 158 = (yX7_term, cX7_term, 2, some .int) := rfl
theorem kP_yX7_term : yX7_term.cls ≠ "java/lang/invoke/MethodHandle" ∧ yX7_term.cls ≠ "java/lang/invoke/VarHandle" ∧ (parseMethodDescriptor yX7_term.desc).map (fun d => d.parameters.length) = some 0 := by decide +kernel
abbrev n_X7_added : Nat := 159
theorem hy_yX7_added : mi 159 = (yX7_added, cX7_added, 4, some .int) := rfl
theorem kP_yX7_added : yX7_added.cls ≠ "java/lang/invoke/MethodHandle" ∧ yX7_added.cls ≠ "java/lang/invoke/VarHandle" ∧ (parseMethodDescriptor yX7_added.desc).map (fun d => d.parameters.length) = some 0 := by decide +kernel
abbrev n_X7_not : Nat := 160
theorem hy_yX7_not : mi 160 = (yX7_not, cX7_not, 4, some .int) := rfl
theorem kP_yX7_not : yX7_not.cls ≠ "java/lang/invoke/MethodHandle" ∧ yX7_not.cls ≠ "java/lang/invoke/VarHandle" ∧ (parseMethodDescriptor yX7_not.desc).map (fun d => d.parameters.length) = some 0 := by decide +kernel
abbrev n_X7_both : Nat := 161
theorem hy_yX7_both : mi 161 = (yX7_both, cX7_both, 3, some .int) := rfl
theorem kP_yX7_both : yX7_both.cls ≠ "java/lang/invoke/MethodHandle" ∧ yX7_both.cls ≠ "java/lang/invoke/VarHandle" ∧ (parseMethodDescriptor yX7_both.desc).map (fun d => d.parameters.length) = some 0 := by decide +kernel
abbrev n_X7_either : Nat := 162
theorem hy_yX7_either : mi 162 = (yX7_either, cX7_either, 3, some .int) := rfl
theorem kP_yX7_either : yX7_either.cls ≠ "java/lang/invoke/MethodHandle" ∧ yX7_either.cls ≠ "java/lang/invoke/VarHandle" ∧ (parseMethodDescriptor yX7_either.desc).map (fun d => d.parameters.length) = some 0 := by decide +kernel
abbrev n_X7_part : Nat := 163
theorem hy_yX7_part : mi 163 = (yX7_part, cX7_part, 3, some .int) := rfl
theorem kP_yX7_part : yX7_part.cls ≠ "java/lang/invoke/MethodHandle" ∧ yX7_part.cls ≠ "java/lang/invoke/VarHandle" ∧ (parseMethodDescriptor yX7_part.desc).map (fun d => d.parameters.length) = some 1 := by decide +kernel
abbrev n_X7_read : Nat := 164
theorem hy_yX7_read : mi 164 = (yX7_read, cX7_read, 6, some .int) := rfl
theorem kP_yX7_read : yX7_read.cls ≠ "java/lang/invoke/MethodHandle" ∧ yX7_read.cls ≠ "java/lang/invoke/VarHandle" ∧ (parseMethodDescriptor yX7_read.desc).map (fun d => d.parameters.length) = some 2 := by decide +kernel
abbrev n_X7_text : Nat := 165
theorem hy_yX7_text : mi 165 = (yX7_text, cX7_text, 2, some .int) := rfl
theorem kP_yX7_text : yX7_text.cls ≠ "java/lang/invoke/MethodHandle" ∧ yX7_text.cls ≠ "java/lang/invoke/VarHandle" ∧ (parseMethodDescriptor yX7_text.desc).map (fun d => d.parameters.length) = some 0 := by decide +kernel
abbrev n_X7_force : Nat := 166
theorem hy_yX7_force : mi 166 = (yX7_force, cX7_force, 3, some .int) := rfl
theorem kP_yX7_force : yX7_force.cls ≠ "java/lang/invoke/MethodHandle" ∧ yX7_force.cls ≠ "java/lang/invoke/VarHandle" ∧ (parseMethodDescriptor yX7_force.desc).map (fun d => d.parameters.length) = some 1 := by decide +kernel
abbrev n_X7_asks : Nat := 167
theorem hy_yX7_asks : mi 167 = (yX7_asks, cX7_asks, 5, some .int) := rfl
theorem kP_yX7_asks : yX7_asks.cls ≠ "java/lang/invoke/MethodHandle" ∧ yX7_asks.cls ≠ "java/lang/invoke/VarHandle" ∧ (parseMethodDescriptor yX7_asks.desc).map (fun d => d.parameters.length) = some 3 := by decide +kernel
abbrev n_X7_paysOf : Nat := 168
theorem hy_yX7_paysOf : mi 168 = (yX7_paysOf, cX7_paysOf, 4, some .int) := rfl
theorem kP_yX7_paysOf : yX7_paysOf.cls ≠ "java/lang/invoke/MethodHandle" ∧ yX7_paysOf.cls ≠ "java/lang/invoke/VarHandle" ∧ (parseMethodDescriptor yX7_paysOf.desc).map (fun d => d.parameters.length) = some 2 := by decide +kernel
abbrev n_X7_turns : Nat := 169
theorem hy_yX7_turns : mi 169 = (yX7_turns, cX7_turns, 3, none) := rfl
theorem kP_yX7_turns : yX7_turns.cls ≠ "java/lang/invoke/MethodHandle" ∧ yX7_turns.cls ≠ "java/lang/invoke/VarHandle" ∧ (parseMethodDescriptor yX7_turns.desc).map (fun d => d.parameters.length) = some 2 := by decide +kernel
abbrev n_X7_wraps : Nat := 170
theorem hy_yX7_wraps : mi 170 = (yX7_wraps, cX7_wraps, 3, some .int) := rfl
theorem kP_yX7_wraps : yX7_wraps.cls ≠ "java/lang/invoke/MethodHandle" ∧ yX7_wraps.cls ≠ "java/lang/invoke/VarHandle" ∧ (parseMethodDescriptor yX7_wraps.desc).map (fun d => d.parameters.length) = some 1 := by decide +kernel
abbrev n_X7_firstFrom : Nat := 171
theorem hy_yX7_firstFrom : mi 171 = (yX7_firstFrom, cX7_firstFrom, 5, some .int) := rfl
theorem kP_yX7_firstFrom : yX7_firstFrom.cls ≠ "java/lang/invoke/MethodHandle" ∧ yX7_firstFrom.cls ≠ "java/lang/invoke/VarHandle" ∧ (parseMethodDescriptor yX7_firstFrom.desc).map (fun d => d.parameters.length) = some 2 := by decide +kernel
abbrev n_X7_goes : Nat := 172
theorem hy_yX7_goes : mi 172 = (yX7_goes, cX7_goes, 6, none) := rfl
theorem kP_yX7_goes : yX7_goes.cls ≠ "java/lang/invoke/MethodHandle" ∧ yX7_goes.cls ≠ "java/lang/invoke/VarHandle" ∧ (parseMethodDescriptor yX7_goes.desc).map (fun d => d.parameters.length) = some 1 := by decide +kernel
abbrev n_X7_round : Nat := 173
theorem hy_yX7_round : mi 173 = (yX7_round, cX7_round, 3, some .int) := rfl
theorem kP_yX7_round : yX7_round.cls ≠ "java/lang/invoke/MethodHandle" ∧ yX7_round.cls ≠ "java/lang/invoke/VarHandle" ∧ (parseMethodDescriptor yX7_round.desc).map (fun d => d.parameters.length) = some 2 := by decide +kernel
abbrev n_X7_harvests : Nat := 174
theorem hy_yX7_harvests : mi 174 = (yX7_harvests, cX7_harvests, 3, some .int) := rfl
theorem kP_yX7_harvests : yX7_harvests.cls ≠ "java/lang/invoke/MethodHandle" ∧ yX7_harvests.cls ≠ "java/lang/invoke/VarHandle" ∧ (parseMethodDescriptor yX7_harvests.desc).map (fun d => d.parameters.length) = some 0 := by decide +kernel
abbrev n_X7_best : Nat := 175
theorem hy_yX7_best : mi 175 = (yX7_best, cX7_best, 5, some .int) := rfl
theorem kP_yX7_best : yX7_best.cls ≠ "java/lang/invoke/MethodHandle" ∧ yX7_best.cls ≠ "java/lang/invoke/VarHandle" ∧ (parseMethodDescriptor yX7_best.desc).map (fun d => d.parameters.length) = some 1 := by decide +kernel
abbrev n_X7_change : Nat := 176
theorem hy_yX7_change : mi 176 = (yX7_change, cX7_change, 7, some .int) := rfl
theorem kP_yX7_change : yX7_change.cls ≠ "java/lang/invoke/MethodHandle" ∧ yX7_change.cls ≠ "java/lang/invoke/VarHandle" ∧ (parseMethodDescriptor yX7_change.desc).map (fun d => d.parameters.length) = some 2 := by decide +kernel
abbrev n_X7_anew : Nat := 177
theorem hy_yX7_anew : mi 177 = (yX7_anew, cX7_anew, 8, some .int) := rfl
theorem kP_yX7_anew : yX7_anew.cls ≠ "java/lang/invoke/MethodHandle" ∧ yX7_anew.cls ≠ "java/lang/invoke/VarHandle" ∧ (parseMethodDescriptor yX7_anew.desc).map (fun d => d.parameters.length) = some 3 := by decide +kernel
abbrev n_X7_hay : Nat := 178
theorem hy_yX7_hay : mi 178 = (yX7_hay, cX7_hay, 7, some .int) := rfl
theorem kP_yX7_hay : yX7_hay.cls ≠ "java/lang/invoke/MethodHandle" ∧ yX7_hay.cls ≠ "java/lang/invoke/VarHandle" ∧ (parseMethodDescriptor yX7_hay.desc).map (fun d => d.parameters.length) = some 2 := by decide +kernel
abbrev n_X7_laysFrom : Nat := 179
theorem hy_yX7_laysFrom : mi 179 = (yX7_laysFrom, cX7_laysFrom, 5, none) := rfl
theorem kP_yX7_laysFrom : yX7_laysFrom.cls ≠ "java/lang/invoke/MethodHandle" ∧ yX7_laysFrom.cls ≠ "java/lang/invoke/VarHandle" ∧ (parseMethodDescriptor yX7_laysFrom.desc).map (fun d => d.parameters.length) = some 3 := by decide +kernel
abbrev n_X7_layings : Nat := 180
theorem hy_yX7_layings : mi 180 = (yX7_layings, cX7_layings, 3, some .int) := rfl
theorem kP_yX7_layings : yX7_layings.cls ≠ "java/lang/invoke/MethodHandle" ∧ yX7_layings.cls ≠ "java/lang/invoke/VarHandle" ∧ (parseMethodDescriptor yX7_layings.desc).map (fun d => d.parameters.length) = some 1 := by decide +kernel
abbrev n_X7_firstOther : Nat := 181
theorem hy_yX7_firstOther : mi 181 = (yX7_firstOther, cX7_firstOther, 3, some .int) := rfl
theorem kP_yX7_firstOther : yX7_firstOther.cls ≠ "java/lang/invoke/MethodHandle" ∧ yX7_firstOther.cls ≠ "java/lang/invoke/VarHandle" ∧ (parseMethodDescriptor yX7_firstOther.desc).map (fun d => d.parameters.length) = some 1 := by decide +kernel
abbrev n_X7_startsOf : Nat := 182
theorem hy_yX7_startsOf : mi 182 = (yX7_startsOf, cX7_startsOf, 4, some .int) := rfl
theorem kP_yX7_startsOf : yX7_startsOf.cls ≠ "java/lang/invoke/MethodHandle" ∧ yX7_startsOf.cls ≠ "java/lang/invoke/VarHandle" ∧ (parseMethodDescriptor yX7_startsOf.desc).map (fun d => d.parameters.length) = some 1 := by decide +kernel
abbrev n_X7_isRow : Nat := 183
theorem hy_yX7_isRow : mi 183 = (yX7_isRow, cX7_isRow, 3, some .boolean) := rfl
theorem kP_yX7_isRow : yX7_isRow.cls ≠ "java/lang/invoke/MethodHandle" ∧ yX7_isRow.cls ≠ "java/lang/invoke/VarHandle" ∧ (parseMethodDescriptor yX7_isRow.desc).map (fun d => d.parameters.length) = some 1 := by decide +kernel
abbrev n_X7_tells : Nat := 184
theorem hy_yX7_tells : mi 184 = (yX7_tells, cX7_tells, 8, some .int) := rfl
theorem kP_yX7_tells : yX7_tells.cls ≠ "java/lang/invoke/MethodHandle" ∧ yX7_tells.cls ≠ "java/lang/invoke/VarHandle" ∧ (parseMethodDescriptor yX7_tells.desc).map (fun d => d.parameters.length) = some 2 := by decide +kernel
abbrev n_X7_film : Nat := 185
theorem hy_yX7_film : mi 185 = (yX7_film, cX7_film, 4, some .int) := rfl
theorem kP_yX7_film : yX7_film.cls ≠ "java/lang/invoke/MethodHandle" ∧ yX7_film.cls ≠ "java/lang/invoke/VarHandle" ∧ (parseMethodDescriptor yX7_film.desc).map (fun d => d.parameters.length) = some 2 := by decide +kernel
abbrev n_X7_draws : Nat := 186
theorem hy_yX7_draws : mi 186 = (yX7_draws, cX7_draws, 4, none) := rfl
theorem kP_yX7_draws : yX7_draws.cls ≠ "java/lang/invoke/MethodHandle" ∧ yX7_draws.cls ≠ "java/lang/invoke/VarHandle" ∧ (parseMethodDescriptor yX7_draws.desc).map (fun d => d.parameters.length) = some 1 := by decide +kernel
abbrev n_X7_drawn : Nat := 187
theorem hy_yX7_drawn : mi 187 = (yX7_drawn, cX7_drawn, 2, some .int) := rfl
theorem kP_yX7_drawn : yX7_drawn.cls ≠ "java/lang/invoke/MethodHandle" ∧ yX7_drawn.cls ≠ "java/lang/invoke/VarHandle" ∧ (parseMethodDescriptor yX7_drawn.desc).map (fun d => d.parameters.length) = some 1 := by decide +kernel
abbrev n_X7_chance : Nat := 188
theorem hy_yX7_chance : mi 188 = (yX7_chance, cX7_chance, 12, some .long) := rfl
theorem kP_yX7_chance : yX7_chance.cls ≠ "java/lang/invoke/MethodHandle" ∧ yX7_chance.cls ≠ "java/lang/invoke/VarHandle" ∧ (parseMethodDescriptor yX7_chance.desc).map (fun d => d.parameters.length) = some 3 := by decide +kernel
abbrev n_X7_image : Nat := 189
theorem hy_yX7_image : mi 189 = (yX7_image, cX7_image, 2, some .int) := rfl
theorem kP_yX7_image : yX7_image.cls ≠ "java/lang/invoke/MethodHandle" ∧ yX7_image.cls ≠ "java/lang/invoke/VarHandle" ∧ (parseMethodDescriptor yX7_image.desc).map (fun d => d.parameters.length) = some 0 := by decide +kernel
abbrev n_X7_back : Nat := 190
theorem hy_yX7_back : mi 190 = (yX7_back, cX7_back, 2, some .int) := rfl
theorem kP_yX7_back : yX7_back.cls ≠ "java/lang/invoke/MethodHandle" ∧ yX7_back.cls ≠ "java/lang/invoke/VarHandle" ∧ (parseMethodDescriptor yX7_back.desc).map (fun d => d.parameters.length) = some 0 := by decide +kernel
abbrev n_X7_count : Nat := 191
theorem hy_yX7_count : mi 191 = (yX7_count, cX7_count, 2, some .int) := rfl
theorem kP_yX7_count : yX7_count.cls ≠ "java/lang/invoke/MethodHandle" ∧ yX7_count.cls ≠ "java/lang/invoke/VarHandle" ∧ (parseMethodDescriptor yX7_count.desc).map (fun d => d.parameters.length) = some 1 := by decide +kernel
abbrev n_X7_isSheet : Nat := 192
theorem hy_yX7_isSheet : mi 192 = (yX7_isSheet, cX7_isSheet, 1, some .boolean) := rfl
theorem kP_yX7_isSheet : yX7_isSheet.cls ≠ "java/lang/invoke/MethodHandle" ∧ yX7_isSheet.cls ≠ "java/lang/invoke/VarHandle" ∧ (parseMethodDescriptor yX7_isSheet.desc).map (fun d => d.parameters.length) = some 1 := by decide +kernel
abbrev n_X7_sheet : Nat := 193
theorem hy_yX7_sheet : mi 193 = (yX7_sheet, cX7_sheet, 5, some .int) := rfl
theorem kP_yX7_sheet : yX7_sheet.cls ≠ "java/lang/invoke/MethodHandle" ∧ yX7_sheet.cls ≠ "java/lang/invoke/VarHandle" ∧ (parseMethodDescriptor yX7_sheet.desc).map (fun d => d.parameters.length) = some 3 := by decide +kernel
abbrev n_X7_cell : Nat := 194
theorem hy_yX7_cell : mi 194 = (yX7_cell, cX7_cell, 4, some .int) := rfl
theorem kP_yX7_cell : yX7_cell.cls ≠ "java/lang/invoke/MethodHandle" ∧ yX7_cell.cls ≠ "java/lang/invoke/VarHandle" ∧ (parseMethodDescriptor yX7_cell.desc).map (fun d => d.parameters.length) = some 3 := by decide +kernel
abbrev n_X7_copy : Nat := 195
theorem hy_yX7_copy : mi 195 = (yX7_copy, cX7_copy, 9, some .int) := rfl
theorem kP_yX7_copy : yX7_copy.cls ≠ "java/lang/invoke/MethodHandle" ∧ yX7_copy.cls ≠ "java/lang/invoke/VarHandle" ∧ (parseMethodDescriptor yX7_copy.desc).map (fun d => d.parameters.length) = some 5 := by decide +kernel
abbrev n_X7_cards : Nat := 196
theorem hy_yX7_cards : mi 196 = (yX7_cards, cX7_cards, 8, some .int) := rfl
theorem kP_yX7_cards : yX7_cards.cls ≠ "java/lang/invoke/MethodHandle" ∧ yX7_cards.cls ≠ "java/lang/invoke/VarHandle" ∧ (parseMethodDescriptor yX7_cards.desc).map (fun d => d.parameters.length) = some 4 := by decide +kernel
abbrev n_X7_over : Nat := 197
theorem hy_yX7_over : mi 197 = (yX7_over, cX7_over, 1, some .int) := rfl
theorem kP_yX7_over : yX7_over.cls ≠ "java/lang/invoke/MethodHandle" ∧ yX7_over.cls ≠ "java/lang/invoke/VarHandle" ∧ (parseMethodDescriptor yX7_over.desc).map (fun d => d.parameters.length) = some 1 := by decide +kernel
abbrev n_X7_taken : Nat := 198
theorem hy_yX7_taken : mi 198 = (yX7_taken, cX7_taken, 4, some .int) := rfl
theorem kP_yX7_taken : yX7_taken.cls ≠ "java/lang/invoke/MethodHandle" ∧ yX7_taken.cls ≠ "java/lang/invoke/VarHandle" ∧ (parseMethodDescriptor yX7_taken.desc).map (fun d => d.parameters.length) = some 2 := by decide +kernel
