/-! words of the tables, by name -/
theorem tb {q : Cond} (h : q ∈ tables_1) : q ∈ lw_tb2 := List.mem_append_right _ (List.mem_append_right _ h)
theorem tp {q : Cond} (h : q ∈ k2_sels lw_privs) : q ∈ lw_tb2 := List.mem_append_right _ (List.mem_append_left _ h)
theorem tx {q : Cond} (h : q ∈ xtPriv.map (fun y => Cond.selects "java/lang/StringBuilder" y y)) : q ∈ lw_tb2 := List.mem_append_left _ h
theorem ml_J0_492 : Cond.methodLink RJ0 492 yJ0_isLatin1_aae02 ∈ lw_tb2 := tb (List.mem_of_getElem? (i := 612) (by decide +kernel))
theorem fl_J0_9 : Cond.fieldLink RJ0 9 RJ0 (TJ0 0).2.1 (TJ0 0).2.2.1 ∈ lw_tb2 := tb (List.mem_of_getElem? (i := 1220) (by decide +kernel))
theorem ml_J0_495 : Cond.methodLink RJ0 495 yJ1_charAt_3b067 ∈ lw_tb2 := tb (List.mem_of_getElem? (i := 618) (by decide +kernel))
theorem sl_J0_1053 : Cond.fieldLink RJ0 1053 "jdk/internal/util/Preconditions" "SIOOBE_FORMATTER" "Ljava/util/function/BiFunction;" ∈ lw_tb2 := tb (List.mem_of_getElem? (i := 624) (by decide +kernel))
theorem ml_J0_1059 : Cond.methodLink RJ0 1059 yJ3_checkIndex_8e157 ∈ lw_tb2 := tb (List.mem_of_getElem? (i := 626) (by decide +kernel))
theorem sl_J0_38 : Cond.fieldLink RJ0 38 "java/lang/String" "COMPACT_STRINGS" "Z" ∈ lw_tb2 := tb (List.mem_of_getElem? (i := 616) (by decide +kernel))
theorem fl_J0_15 : Cond.fieldLink RJ0 15 RJ0 (TJ0 1).2.1 (TJ0 1).2.2.1 ∈ lw_tb2 := tb (List.mem_of_getElem? (i := 1221) (by decide +kernel))
theorem ml_J0_541 : Cond.methodLink RJ0 541 yJ1_equals_b5fdf ∈ lw_tb2 := tb (List.mem_of_getElem? (i := 1292) (by decide +kernel))
theorem ml_J0_335 : Cond.methodLink RJ0 335 yJ0_coder_7d493 ∈ lw_tb2 := tb (List.mem_of_getElem? (i := 1032) (by decide +kernel))
theorem ma_J0_212 : Cond.methodLink RJ0 212 arraycopyName ∈ lw_tb2 := tb (List.mem_of_getElem? (i := 1049) (by decide +kernel))
theorem ml_J0_489 : Cond.methodLink RJ0 489 yJ0_init_db425 ∈ lw_tb2 := tb (List.mem_of_getElem? (i := 1182) (by decide +kernel))
theorem ml_J0_552 : Cond.methodLink RJ0 552 yJ5_getValue_6d5f1 ∈ lw_tb2 := tb (List.mem_of_getElem? (i := 1186) (by decide +kernel))
theorem ml_J0_549 : Cond.methodLink RJ0 549 yJ5_length_8abf5 ∈ lw_tb2 := tb (List.mem_of_getElem? (i := 1191) (by decide +kernel))
theorem ml_J0_1047 : Cond.methodLink RJ0 1047 yJ5_isLatin1_aae02 ∈ lw_tb2 := tb (List.mem_of_getElem? (i := 1192) (by decide +kernel))
theorem ml_J0_54 : Cond.methodLink RJ0 54 yJ7_copyOfRange_39247 ∈ lw_tb2 := tb (List.mem_of_getElem? (i := 1193) (by decide +kernel))
theorem fl_J0_1048 : Cond.fieldLink RJ0 1048 (TJ4 2).1 (TJ4 2).2.1 (TJ4 2).2.2.1 ∈ lw_tb2 := tb (List.mem_of_getElem? (i := 688) (by decide +kernel))
theorem sl_J13_133 : Cond.fieldLink RJ13 133 "java/lang/Integer" "DigitOnes" "[B" ∈ lw_tb2 := tb (List.mem_of_getElem? (i := 825) (by decide +kernel))
theorem sl_J13_137 : Cond.fieldLink RJ13 137 "java/lang/Integer" "DigitTens" "[B" ∈ lw_tb2 := tb (List.mem_of_getElem? (i := 826) (by decide +kernel))
theorem ml_J1_9 : Cond.methodLink RJ1 9 yJ0_checkIndex_df160 ∈ lw_tb2 := tb (List.mem_of_getElem? (i := 621) (by decide +kernel))
theorem ml_J4_29 : Cond.methodLink RJ4 29 yJ5_append_cf1ce ∈ lw_tb2 := tb (List.mem_of_getElem? (i := 1026) (by decide +kernel))
theorem ml_J4_35 : Cond.methodLink RJ4 35 yJ5_append_8f9a3 ∈ lw_tb2 := tb (List.mem_of_getElem? (i := 1005) (by decide +kernel))
theorem ml_J4_41 : Cond.methodLink RJ4 41 yJ5_append_a1634 ∈ lw_tb2 := tb (List.mem_of_getElem? (i := 960) (by decide +kernel))
theorem ml_J4_299 : Cond.methodLink RJ4 299 yJ4_append_1fab5 ∈ lw_tb2 := tb (List.mem_of_getElem? (i := 1001) (by decide +kernel))
theorem ml_J4_59 : Cond.methodLink RJ4 59 yJ5_append_b089e ∈ lw_tb2 := tb (List.mem_of_getElem? (i := 839) (by decide +kernel))
theorem ml_J4_47 : Cond.methodLink RJ4 47 yJ5_append_34b3d ∈ lw_tb2 := tb (List.mem_of_getElem? (i := 1167) (by decide +kernel))
theorem ml_J4_53 : Cond.methodLink RJ4 53 yJ5_append_c97b9 ∈ lw_tb2 := tb (List.mem_of_getElem? (i := 703) (by decide +kernel))
theorem ml_J4_23 : Cond.methodLink RJ4 23 yJ4_append_15ec4 ∈ lw_tb2 := tb (List.mem_of_getElem? (i := 1022) (by decide +kernel))
theorem ml_J4_50 : Cond.methodLink RJ4 50 yJ5_append_3fe6f ∈ lw_tb2 := tb (List.mem_of_getElem? (i := 776) (by decide +kernel))
theorem ml_J4_56 : Cond.methodLink RJ4 56 yJ5_append_66267 ∈ lw_tb2 := tb (List.mem_of_getElem? (i := 812) (by decide +kernel))
theorem ml_J4_1 : Cond.methodLink RJ4 1 yJ5_init_d00df ∈ lw_tb2 := tb (List.mem_of_getElem? (i := 673) (by decide +kernel))
theorem ml_J4_343 : Cond.methodLink RJ4 343 yJ5_length_8abf5 ∈ lw_tb2 := tb (List.mem_of_getElem? (i := 1063) (by decide +kernel))
theorem ml_J4_137 : Cond.methodLink RJ4 137 yJ0_init_81219 ∈ lw_tb2 := tb (List.mem_of_getElem? (i := 1179) (by decide +kernel))
theorem fl_J5_79 : Cond.fieldLink RJ5 79 (TJ4 3).1 (TJ4 3).2.1 (TJ4 3).2.2.1 ∈ lw_tb2 := tb (List.mem_of_getElem? (i := 689) (by decide +kernel))
theorem ml_J5_83 : Cond.methodLink RJ5 83 yJ5_isLatin1_aae02 ∈ lw_tb2 := tb (List.mem_of_getElem? (i := 740) (by decide +kernel))
theorem fl_J5_15 : Cond.fieldLink RJ5 15 (TJ4 0).1 (TJ4 0).2.1 (TJ4 0).2.2.1 ∈ lw_tb2 := tb (List.mem_of_getElem? (i := 685) (by decide +kernel))
theorem ml_J5_191 : Cond.methodLink RJ5 191 yJ1_canEncode_fc78d ∈ lw_tb2 := tb (List.mem_of_getElem? (i := 779) (by decide +kernel))
theorem ml_J5_100 : Cond.methodLink RJ5 100 yJ5_ensureCapacityInternal_d00df ∈ lw_tb2 := tb (List.mem_of_getElem? (i := 709) (by decide +kernel))
theorem ml_J5_254 : Cond.methodLink RJ5 254 yJ13_stringSize_95d88 ∈ lw_tb2 := tb (List.mem_of_getElem? (i := 815) (by decide +kernel))
theorem ml_J5_259 : Cond.methodLink RJ5 259 yJ13_getChars_11360 ∈ lw_tb2 := tb (List.mem_of_getElem? (i := 820) (by decide +kernel))
theorem ml_J5_43 : Cond.methodLink RJ5 43 yJ5_append_cf1ce ∈ lw_tb2 := tb (List.mem_of_getElem? (i := 1016) (by decide +kernel))
theorem ml_J5_239 : Cond.methodLink RJ5 239 yJ5_appendChars_0ad70 ∈ lw_tb2 := tb (List.mem_of_getElem? (i := 963) (by decide +kernel))
theorem ml_J5_265 : Cond.methodLink RJ5 265 yJx40b00_appendTo_8d9f2 ∈ lw_tb2 := tb (List.mem_of_getElem? (i := 842) (by decide +kernel))
theorem ml_J5_245 : Cond.methodLink RJ5 245 yJ6_stringSize_0f7a4 ∈ lw_tb2 := tb (List.mem_of_getElem? (i := 706) (by decide +kernel))
theorem ml_J5_248 : Cond.methodLink RJ5 248 yJ6_getChars_ba4f3 ∈ lw_tb2 := tb (List.mem_of_getElem? (i := 745) (by decide +kernel))
theorem ml_J5_32 : Cond.methodLink RJ5 32 yJ0_length_8abf5 ∈ lw_tb2 := tb (List.mem_of_getElem? (i := 1028) (by decide +kernel))
theorem ml_J5_208 : Cond.methodLink RJ5 208 yJ5_putStringAt_47b60 ∈ lw_tb2 := tb (List.mem_of_getElem? (i := 1036) (by decide +kernel))
theorem fl_J5_22 : Cond.fieldLink RJ5 22 (TJ4 1).1 (TJ4 1).2.1 (TJ4 1).2.2.1 ∈ lw_tb2 := tb (List.mem_of_getElem? (i := 686) (by decide +kernel))
theorem ml_J5_104 : Cond.methodLink RJ5 104 yJ5_newCapacity_0f7a4 ∈ lw_tb2 := tb (List.mem_of_getElem? (i := 713) (by decide +kernel))
theorem ml_J5_108 : Cond.methodLink RJ5 108 yJ7_copyOf_9075b ∈ lw_tb2 := tb (List.mem_of_getElem? (i := 726) (by decide +kernel))
theorem sl_J5_18 : Cond.fieldLink RJ5 18 "java/lang/String" "COMPACT_STRINGS" "Z" ∈ lw_tb2 := tb (List.mem_of_getElem? (i := 677) (by decide +kernel))
theorem ml_J5_40 : Cond.methodLink RJ5 40 yJ0_coder_7d493 ∈ lw_tb2 := tb (List.mem_of_getElem? (i := 1044) (by decide +kernel))
theorem ml_J5_114 : Cond.methodLink RJ5 114 yJ8_newLength_cabcc ∈ lw_tb2 := tb (List.mem_of_getElem? (i := 717) (by decide +kernel))
theorem ml_J5_397 : Cond.methodLink RJ5 397 yJ5_inflateIfNeededFor_a7421 ∈ lw_tb2 := tb (List.mem_of_getElem? (i := 1040) (by decide +kernel))
theorem ml_J5_399 : Cond.methodLink RJ5 399 yJ0_getBytes_840e7 ∈ lw_tb2 := tb (List.mem_of_getElem? (i := 1045) (by decide +kernel))
theorem sl_J6_83 : Cond.fieldLink RJ6 83 "java/lang/Integer" "DigitOnes" "[B" ∈ lw_tb2 := tb (List.mem_of_getElem? (i := 748) (by decide +kernel))
theorem sl_J6_87 : Cond.fieldLink RJ6 87 "java/lang/Integer" "DigitTens" "[B" ∈ lw_tb2 := tb (List.mem_of_getElem? (i := 750) (by decide +kernel))
theorem ml_J7_47 : Cond.methodLink RJ7 47 yJ4_init_da8c8 ∈ lw_tb2 := tb (List.mem_of_getElem? (i := 1204) (by decide +kernel))
theorem ml_J7_54 : Cond.methodLink RJ7 54 yJ4_append_bf812 ∈ lw_tb2 := tb (List.mem_of_getElem? (i := 1205) (by decide +kernel))
theorem ml_J7_50 : Cond.methodLink RJ7 50 yJ4_append_15ec4 ∈ lw_tb2 := tb (List.mem_of_getElem? (i := 1207) (by decide +kernel))
theorem ml_J7_61 : Cond.methodLink RJ7 61 yJ4_toString_0e30d ∈ lw_tb2 := tb (List.mem_of_getElem? (i := 1208) (by decide +kernel))
theorem ml_J7_343 : Cond.methodLink RJ7 343 yJ7_checkLength_df160 ∈ lw_tb2 := tb (List.mem_of_getElem? (i := 1199) (by decide +kernel))
theorem mx_J7_304 : Cond.methodLink RJ7 304 Lib.Math.min.name ∈ lw_tb2 := tb (List.mem_of_getElem? (i := 736) (by decide +kernel))
theorem ma_J7_150 : Cond.methodLink RJ7 150 arraycopyName ∈ lw_tb2 := tb (List.mem_of_getElem? (i := 739) (by decide +kernel))
theorem ml_J7_339 : Cond.methodLink RJ7 339 yJ7_copyOfRangeByte_39247 ∈ lw_tb2 := tb (List.mem_of_getElem? (i := 1196) (by decide +kernel))
theorem mx_J8_194 : Cond.methodLink RJ8 194 Lib.Math.max.name ∈ lw_tb2 := tb (List.mem_of_getElem? (i := 720) (by decide +kernel))
theorem sl_Jx25f51_26 : Cond.fieldLink RJx25f51 26 "jdk/internal/math/MathUtils" "g" "[J" ∈ lw_tb2 := tb (List.mem_of_getElem? (i := 948) (by decide +kernel))
theorem sl_Jx25f51_14 : Cond.fieldLink RJx25f51 14 "jdk/internal/math/MathUtils" "pow10" "[J" ∈ lw_tb2 := tb (List.mem_of_getElem? (i := 890) (by decide +kernel))
theorem ml_Jx40b00_135 : Cond.methodLink RJx40b00 135 yJx40b00_y_0f7a4 ∈ lw_tb2 := tb (List.mem_of_getElem? (i := 902) (by decide +kernel))
theorem ml_Jx40b00_132 : Cond.methodLink RJx40b00 132 yJx40b00_appendDigit_d00df ∈ lw_tb2 := tb (List.mem_of_getElem? (i := 898) (by decide +kernel))
theorem ml_Jx40b00_24 : Cond.methodLink RJx40b00 24 yJx40b00_toDecimal_5c35a ∈ lw_tb2 := tb (List.mem_of_getElem? (i := 862) (by decide +kernel))
theorem fl_Jx40b00_42 : Cond.fieldLink RJx40b00 42 RJx40b00 (TJx40b00 1).2.1 (TJx40b00 1).2.2.1 ∈ lw_tb2 := tb (List.mem_of_getElem? (i := 852) (by decide +kernel))
theorem fl_Jx40b00_11 : Cond.fieldLink RJx40b00 11 RJx40b00 (TJx40b00 0).2.1 (TJx40b00 0).2.2.1 ∈ lw_tb2 := tb (List.mem_of_getElem? (i := 851) (by decide +kernel))
theorem ml_Jx40b00_48 : Cond.methodLink RJx40b00 48 yJ4_append_37e8c ∈ lw_tb2 := tb (List.mem_of_getElem? (i := 956) (by decide +kernel))
theorem ml_Jx40b00_15 : Cond.methodLink RJx40b00 15 yJx40b00_init_da8c8 ∈ lw_tb2 := tb (List.mem_of_getElem? (i := 847) (by decide +kernel))
theorem ml_Jx40b00_20 : Cond.methodLink RJx40b00 20 yJx40b00_appendDecimalTo_8d9f2 ∈ lw_tb2 := tb (List.mem_of_getElem? (i := 858) (by decide +kernel))
theorem ml_Jx40b00_69 : Cond.methodLink RJx40b00 69 yJx40b00_append_d00df ∈ lw_tb2 := tb (List.mem_of_getElem? (i := 870) (by decide +kernel))
theorem ml_Jx40b00_104 : Cond.methodLink RJx40b00 104 yJ9_multiplyHigh_f86c9 ∈ lw_tb2 := tb (List.mem_of_getElem? (i := 907) (by decide +kernel))
theorem ml_Jx40b00_139 : Cond.methodLink RJx40b00 139 yJx40b00_removeTrailingZeroes_da8c8 ∈ lw_tb2 := tb (List.mem_of_getElem? (i := 912) (by decide +kernel))
theorem ml_Jx40b00_142 : Cond.methodLink RJx40b00 142 yJx40b00_append8Digits_d00df ∈ lw_tb2 := tb (List.mem_of_getElem? (i := 920) (by decide +kernel))
theorem ml_Jx40b00_145 : Cond.methodLink RJx40b00 145 yJx40b00_exponent_d00df ∈ lw_tb2 := tb (List.mem_of_getElem? (i := 928) (by decide +kernel))
theorem ml_Jx40b00_114 : Cond.methodLink RJx40b00 114 yJ6_numberOfLeadingZeros_0f7a4 ∈ lw_tb2 := tb (List.mem_of_getElem? (i := 879) (by decide +kernel))
theorem ml_Jx40b00_82 : Cond.methodLink RJx40b00 82 yJx25f51_flog10pow2_0f7a4 ∈ lw_tb2 := tb (List.mem_of_getElem? (i := 883) (by decide +kernel))
theorem ml_Jx40b00_117 : Cond.methodLink RJx40b00 117 yJx25f51_pow10_3e8ac ∈ lw_tb2 := tb (List.mem_of_getElem? (i := 887) (by decide +kernel))
theorem ml_Jx40b00_123 : Cond.methodLink RJx40b00 123 yJx40b00_toChars1_cabcc ∈ lw_tb2 := tb (List.mem_of_getElem? (i := 894) (by decide +kernel))
theorem ml_Jx40b00_126 : Cond.methodLink RJx40b00 126 yJx40b00_toChars2_cabcc ∈ lw_tb2 := tb (List.mem_of_getElem? (i := 916) (by decide +kernel))
theorem ml_Jx40b00_129 : Cond.methodLink RJx40b00 129 yJx40b00_toChars3_cabcc ∈ lw_tb2 := tb (List.mem_of_getElem? (i := 924) (by decide +kernel))
theorem ml_Jx40b00_73 : Cond.methodLink RJx40b00 73 yJx40b00_toChars_7cf53 ∈ lw_tb2 := tb (List.mem_of_getElem? (i := 875) (by decide +kernel))
theorem ml_Jx40b00_77 : Cond.methodLink RJx40b00 77 yJx40b00_toDecimal_cabcc ∈ lw_tb2 := tb (List.mem_of_getElem? (i := 932) (by decide +kernel))
theorem ml_Jx40b00_88 : Cond.methodLink RJx40b00 88 yJx25f51_flog10threeQuartersPow2_0f7a4 ∈ lw_tb2 := tb (List.mem_of_getElem? (i := 937) (by decide +kernel))
theorem ml_Jx40b00_91 : Cond.methodLink RJx40b00 91 yJx25f51_flog2pow10_0f7a4 ∈ lw_tb2 := tb (List.mem_of_getElem? (i := 941) (by decide +kernel))
theorem ml_Jx40b00_94 : Cond.methodLink RJx40b00 94 yJx25f51_g1_3e8ac ∈ lw_tb2 := tb (List.mem_of_getElem? (i := 945) (by decide +kernel))
theorem ml_Jx40b00_98 : Cond.methodLink RJx40b00 98 yJx40b00_rop_74951 ∈ lw_tb2 := tb (List.mem_of_getElem? (i := 950) (by decide +kernel))
theorem ml_L_106 : Cond.methodLink RL 106 yX3_next ∈ lw_tb2 := tb (List.mem_of_getElem? (i := 266) (by decide +kernel))
theorem ml_L_111 : Cond.methodLink RL 111 yL_install ∈ lw_tb2 := tb (List.mem_of_getElem? (i := 276) (by decide +kernel))
theorem ml_L_116 : Cond.methodLink RL 116 yL_retire ∈ lw_tb2 := tb (List.mem_of_getElem? (i := 384) (by decide +kernel))
theorem ml_L_119 : Cond.methodLink RL 119 yL_moveTo ∈ lw_tb2 := tb (List.mem_of_getElem? (i := 413) (by decide +kernel))
theorem ml_L_122 : Cond.methodLink RL 122 yL_setVersion ∈ lw_tb2 := tb (List.mem_of_getElem? (i := 591) (by decide +kernel))
theorem ml_L_124 : Cond.methodLink RL 124 yL_setPool ∈ lw_tb2 := tb (List.mem_of_getElem? (i := 599) (by decide +kernel))
theorem ml_L_129 : Cond.methodLink RL 129 yJ0_charAt_5068e ∈ lw_tb2 := tb (List.mem_of_getElem? (i := 608) (by decide +kernel))
theorem ml_L_134 : Cond.methodLink RL 134 yL_entitle ∈ lw_tb2 := tb (List.mem_of_getElem? (i := 421) (by decide +kernel))
theorem ml_L_137 : Cond.methodLink RL 137 yL_setRights ∈ lw_tb2 := tb (List.mem_of_getElem? (i := 437) (by decide +kernel))
theorem ml_L_140 : Cond.methodLink RL 140 yL_setMinimum ∈ lw_tb2 := tb (List.mem_of_getElem? (i := 453) (by decide +kernel))
theorem ml_L_142 : Cond.methodLink RL 142 yL_setPrice ∈ lw_tb2 := tb (List.mem_of_getElem? (i := 648) (by decide +kernel))
theorem ml_L_144 : Cond.methodLink RL 144 yL_addUnits ∈ lw_tb2 := tb (List.mem_of_getElem? (i := 656) (by decide +kernel))
theorem ml_L_146 : Cond.methodLink RL 146 yL_trueUp ∈ lw_tb2 := tb (List.mem_of_getElem? (i := 572) (by decide +kernel))
theorem ml_L_51 : Cond.methodLink RL 51 yX2_addUnits ∈ lw_tb2 := tb (List.mem_of_getElem? (i := 659) (by decide +kernel))
theorem ml_L_188 : Cond.methodLink RL 188 yX2_isThere ∈ lw_tb2 := tb (List.mem_of_getElem? (i := 174) (by decide +kernel))
theorem ml_L_197 : Cond.methodLink RL 197 yL_fitting ∈ lw_tb2 := tb (List.mem_of_getElem? (i := 493) (by decide +kernel))
theorem ml_L_165 : Cond.methodLink RL 165 yL_purchase ∈ lw_tb2 := tb (List.mem_of_getElem? (i := 547) (by decide +kernel))
theorem ml_L_213 : Cond.methodLink RL 213 yL_purchaseByTrying ∈ lw_tb2 := tb (List.mem_of_getElem? (i := 1273) (by decide +kernel))
theorem ml_L_152 : Cond.methodLink RL 152 yX2_installs ∈ lw_tb2 := tb (List.mem_of_getElem? (i := 170) (by decide +kernel))
theorem ml_L_186 : Cond.methodLink RL 186 yL_toBuy ∈ lw_tb2 := tb (List.mem_of_getElem? (i := 1156) (by decide +kernel))
theorem ml_L_180 : Cond.methodLink RL 180 yL_units ∈ lw_tb2 := tb (List.mem_of_getElem? (i := 478) (by decide +kernel))
theorem ml_L_162 : Cond.methodLink RL 162 yX2_covered ∈ lw_tb2 := tb (List.mem_of_getElem? (i := 181) (by decide +kernel))
theorem ml_L_167 : Cond.methodLink RL 167 yX2_spent ∈ lw_tb2 := tb (List.mem_of_getElem? (i := 804) (by decide +kernel))
theorem ml_L_101 : Cond.methodLink RL 101 yX2_coverage ∈ lw_tb2 := tb (List.mem_of_getElem? (i := 582) (by decide +kernel))
theorem ml_L_72 : Cond.methodLink RL 72 yX2_coveredByTrying ∈ lw_tb2 := tb (List.mem_of_getElem? (i := 1254) (by decide +kernel))
theorem ml_L_195 : Cond.methodLink RL 195 yL_entitlementOf ∈ lw_tb2 := tb (List.mem_of_getElem? (i := 500) (by decide +kernel))
theorem ml_L_205 : Cond.methodLink RL 205 yL_firstFitting ∈ lw_tb2 := tb (List.mem_of_getElem? (i := 1235) (by decide +kernel))
theorem ml_L_207 : Cond.methodLink RL 207 yL_reason ∈ lw_tb2 := tb (List.mem_of_getElem? (i := 528) (by decide +kernel))
theorem ml_L_199 : Cond.methodLink RL 199 yL_why ∈ lw_tb2 := tb (List.mem_of_getElem? (i := 485) (by decide +kernel))
theorem ml_L_184 : Cond.methodLink RL 184 yL_used ∈ lw_tb2 := tb (List.mem_of_getElem? (i := 536) (by decide +kernel))
theorem ml_L_209 : Cond.methodLink RL 209 yL_spare ∈ lw_tb2 := tb (List.mem_of_getElem? (i := 1243) (by decide +kernel))
theorem ml_L_182 : Cond.methodLink RL 182 yL_unitsForAll ∈ lw_tb2 := tb (List.mem_of_getElem? (i := 1149) (by decide +kernel))
theorem ml_L_211 : Cond.methodLink RL 211 yL_coveredByTrying ∈ lw_tb2 := tb (List.mem_of_getElem? (i := 1251) (by decide +kernel))
theorem ml_L_174 : Cond.methodLink RL 174 yL_coverage ∈ lw_tb2 := tb (List.mem_of_getElem? (i := 579) (by decide +kernel))
theorem ml_L_35 : Cond.methodLink RL 35 yX2_entitle ∈ lw_tb2 := tb (List.mem_of_getElem? (i := 424) (by decide +kernel))
theorem ml_L_76 : Cond.methodLink RL 76 yX2_entitlementOf ∈ lw_tb2 := tb (List.mem_of_getElem? (i := 504) (by decide +kernel))
theorem ml_L_64 : Cond.methodLink RL 64 yX2_firstFitting ∈ lw_tb2 := tb (List.mem_of_getElem? (i := 1238) (by decide +kernel))
theorem ml_L_61 : Cond.methodLink RL 61 yX2_fitting ∈ lw_tb2 := tb (List.mem_of_getElem? (i := 496) (by decide +kernel))
theorem ml_L_8 : Cond.methodLink RL 8 yX2_install ∈ lw_tb2 := tb (List.mem_of_getElem? (i := 281) (by decide +kernel))
theorem ml_L_215 : Cond.methodLink RL 215 yX2_init ∈ lw_tb2 := tb (List.mem_of_getElem? (i := 31) (by decide +kernel))
theorem ml_L_216 : Cond.methodLink RL 216 yL_cell ∈ lw_tb2 := tb (List.mem_of_getElem? (i := 272) (by decide +kernel))
theorem ml_L_220 : Cond.methodLink RL 220 yX3_init ∈ lw_tb2 := tb (List.mem_of_getElem? (i := 257) (by decide +kernel))
theorem ml_L_223 : Cond.methodLink RL 223 yL_told ∈ lw_tb2 := tb (List.mem_of_getElem? (i := 665) (by decide +kernel))
theorem ml_L_227 : Cond.methodLink RL 227 yL_acts ∈ lw_tb2 := tb (List.mem_of_getElem? (i := 588) (by decide +kernel))
theorem ml_L_231 : Cond.methodLink RL 231 yJ0_equals_9ea2d ∈ lw_tb2 := tb (List.mem_of_getElem? (i := 1287) (by decide +kernel))
theorem ml_L_235 : Cond.methodLink RL 235 yL_covering ∈ lw_tb2 := tb (List.mem_of_getElem? (i := 1232) (by decide +kernel))
theorem ml_L_239 : Cond.methodLink RL 239 yL_buying ∈ lw_tb2 := tb (List.mem_of_getElem? (i := 1270) (by decide +kernel))
theorem ml_L_24 : Cond.methodLink RL 24 yX2_moveTo ∈ lw_tb2 := tb (List.mem_of_getElem? (i := 416) (by decide +kernel))
theorem ml_L_89 : Cond.methodLink RL 89 yX2_purchase ∈ lw_tb2 := tb (List.mem_of_getElem? (i := 550) (by decide +kernel))
theorem ml_L_92 : Cond.methodLink RL 92 yX2_purchaseByTrying ∈ lw_tb2 := tb (List.mem_of_getElem? (i := 1276) (by decide +kernel))
theorem ml_L_79 : Cond.methodLink RL 79 yX2_reason ∈ lw_tb2 := tb (List.mem_of_getElem? (i := 531) (by decide +kernel))
theorem ml_L_18 : Cond.methodLink RL 18 yX2_retire ∈ lw_tb2 := tb (List.mem_of_getElem? (i := 388) (by decide +kernel))
theorem ml_L_43 : Cond.methodLink RL 43 yX2_setMinimum ∈ lw_tb2 := tb (List.mem_of_getElem? (i := 457) (by decide +kernel))
theorem ml_L_31 : Cond.methodLink RL 31 yX2_setPool ∈ lw_tb2 := tb (List.mem_of_getElem? (i := 602) (by decide +kernel))
theorem ml_L_48 : Cond.methodLink RL 48 yX2_setPrice ∈ lw_tb2 := tb (List.mem_of_getElem? (i := 651) (by decide +kernel))
theorem ml_L_39 : Cond.methodLink RL 39 yX2_setRights ∈ lw_tb2 := tb (List.mem_of_getElem? (i := 440) (by decide +kernel))
theorem ml_L_28 : Cond.methodLink RL 28 yX2_setVersion ∈ lw_tb2 := tb (List.mem_of_getElem? (i := 594) (by decide +kernel))
theorem ml_L_86 : Cond.methodLink RL 86 yX2_spare ∈ lw_tb2 := tb (List.mem_of_getElem? (i := 1246) (by decide +kernel))
theorem ml_L_95 : Cond.methodLink RL 95 yX2_toBuy ∈ lw_tb2 := tb (List.mem_of_getElem? (i := 1159) (by decide +kernel))
theorem ml_L_151 : Cond.methodLink RL 151 yJ4_init_da8c8 ∈ lw_tb2 := tb (List.mem_of_getElem? (i := 670) (by decide +kernel))
theorem ml_L_155 : Cond.methodLink RL 155 yJ4_append_bf812 ∈ lw_tb2 := tb (List.mem_of_getElem? (i := 699) (by decide +kernel))
theorem ml_L_159 : Cond.methodLink RL 159 yJ4_append_cf468 ∈ lw_tb2 := tb (List.mem_of_getElem? (i := 772) (by decide +kernel))
theorem ml_L_171 : Cond.methodLink RL 171 yJ4_append_f7089 ∈ lw_tb2 := tb (List.mem_of_getElem? (i := 808) (by decide +kernel))
theorem ml_L_177 : Cond.methodLink RL 177 yJ4_append_9d4c8 ∈ lw_tb2 := tb (List.mem_of_getElem? (i := 835) (by decide +kernel))
theorem ml_L_192 : Cond.methodLink RL 192 yJ4_append_9f485 ∈ lw_tb2 := tb (List.mem_of_getElem? (i := 1163) (by decide +kernel))
theorem ml_L_201 : Cond.methodLink RL 201 yJ4_toString_0e30d ∈ lw_tb2 := tb (List.mem_of_getElem? (i := 1173) (by decide +kernel))
theorem ml_L_98 : Cond.methodLink RL 98 yX2_trueUp ∈ lw_tb2 := tb (List.mem_of_getElem? (i := 575) (by decide +kernel))
theorem ml_L_54 : Cond.methodLink RL 54 yX2_units ∈ lw_tb2 := tb (List.mem_of_getElem? (i := 481) (by decide +kernel))
theorem ml_L_69 : Cond.methodLink RL 69 yX2_unitsForAll ∈ lw_tb2 := tb (List.mem_of_getElem? (i := 1152) (by decide +kernel))
theorem ml_L_83 : Cond.methodLink RL 83 yX2_used ∈ lw_tb2 := tb (List.mem_of_getElem? (i := 539) (by decide +kernel))
theorem ml_L_57 : Cond.methodLink RL 57 yX2_why ∈ lw_tb2 := tb (List.mem_of_getElem? (i := 488) (by decide +kernel))
theorem fl_X0_25 : Cond.fieldLink RX0 25 RX0 (TX0 3).2.1 (TX0 3).2.2.1 ∈ lw_tb2 := tb (List.mem_of_getElem? (i := 93) (by decide +kernel))
theorem fl_X0_66 : Cond.fieldLink RX0 66 RX0 (TX0 12).2.1 (TX0 12).2.2.1 ∈ lw_tb2 := tb (List.mem_of_getElem? (i := 109) (by decide +kernel))
theorem fl_X0_73 : Cond.fieldLinkNest RX0 73 RX1 (TX1 6).2.1 (TX1 6).2.2.1 "Entitled" ∈ lw_tb2 := tb (List.mem_of_getElem? (i := 62) (by decide +kernel))
theorem fl_X0_35 : Cond.fieldLink RX0 35 RX0 (TX0 6).2.1 (TX0 6).2.2.1 ∈ lw_tb2 := tb (List.mem_of_getElem? (i := 98) (by decide +kernel))
theorem mx_X0_76 : Cond.methodLink RX0 76 Lib.Math.max.name ∈ lw_tb2 := tb (List.mem_of_getElem? (i := 235) (by decide +kernel))
theorem fl_X0_82 : Cond.fieldLinkNest RX0 82 RX1 (TX1 4).2.1 (TX1 4).2.2.1 "Entitled" ∈ lw_tb2 := tb (List.mem_of_getElem? (i := 57) (by decide +kernel))
theorem fl_X0_85 : Cond.fieldLinkNest RX0 85 RX1 (TX1 5).2.1 (TX1 5).2.2.1 "Entitled" ∈ lw_tb2 := tb (List.mem_of_getElem? (i := 60) (by decide +kernel))
theorem ml_X0_88 : Cond.methodLinkNest RX0 88 yX2_isBetween "Entitled" ∈ lw_tb2 := tb (List.mem_of_getElem? (i := 238) (by decide +kernel))
theorem fl_X0_60 : Cond.fieldLinkNest RX0 60 RX1 (TX1 1).2.1 (TX1 1).2.2.1 "Entitled" ∈ lw_tb2 := tb (List.mem_of_getElem? (i := 48) (by decide +kernel))
theorem ml_X0_92 : Cond.methodLink RX0 92 yX0_unitsOfHolder ∈ lw_tb2 := tb (List.mem_of_getElem? (i := 239) (by decide +kernel))
theorem fl_X0_9 : Cond.fieldLink RX0 9 RX0 (TX0 11).2.1 (TX0 11).2.2.1 ∈ lw_tb2 := tb (List.mem_of_getElem? (i := 108) (by decide +kernel))
theorem fl_X0_41 : Cond.fieldLink RX0 41 RX0 (TX0 8).2.1 (TX0 8).2.2.1 ∈ lw_tb2 := tb (List.mem_of_getElem? (i := 102) (by decide +kernel))
theorem fl_X0_45 : Cond.fieldLink RX0 45 RX0 (TX0 9).2.1 (TX0 9).2.2.1 ∈ lw_tb2 := tb (List.mem_of_getElem? (i := 104) (by decide +kernel))
theorem fl_X0_48 : Cond.fieldLink RX0 48 RX0 (TX0 10).2.1 (TX0 10).2.2.1 ∈ lw_tb2 := tb (List.mem_of_getElem? (i := 106) (by decide +kernel))
theorem fl_X0_15 : Cond.fieldLink RX0 15 RX0 (TX0 0).2.1 (TX0 0).2.2.1 ∈ lw_tb2 := tb (List.mem_of_getElem? (i := 90) (by decide +kernel))
theorem fl_X0_19 : Cond.fieldLink RX0 19 RX0 (TX0 1).2.1 (TX0 1).2.2.1 ∈ lw_tb2 := tb (List.mem_of_getElem? (i := 91) (by decide +kernel))
theorem fl_X0_22 : Cond.fieldLink RX0 22 RX0 (TX0 2).2.1 (TX0 2).2.2.1 ∈ lw_tb2 := tb (List.mem_of_getElem? (i := 92) (by decide +kernel))
theorem fl_X0_29 : Cond.fieldLink RX0 29 RX0 (TX0 4).2.1 (TX0 4).2.2.1 ∈ lw_tb2 := tb (List.mem_of_getElem? (i := 95) (by decide +kernel))
theorem fl_X0_32 : Cond.fieldLink RX0 32 RX0 (TX0 5).2.1 (TX0 5).2.2.1 ∈ lw_tb2 := tb (List.mem_of_getElem? (i := 97) (by decide +kernel))
theorem fl_X0_38 : Cond.fieldLink RX0 38 RX0 (TX0 7).2.1 (TX0 7).2.2.1 ∈ lw_tb2 := tb (List.mem_of_getElem? (i := 100) (by decide +kernel))
theorem fl_X0_51 : Cond.fieldLinkNest RX0 51 RX1 (TX1 0).2.1 (TX1 0).2.2.1 "Entitled" ∈ lw_tb2 := tb (List.mem_of_getElem? (i := 46) (by decide +kernel))
theorem ml_X0_56 : Cond.methodLink RX0 56 yX0_misfit ∈ lw_tb2 := tb (List.mem_of_getElem? (i := 209) (by decide +kernel))
theorem fl_X0_63 : Cond.fieldLinkNest RX0 63 RX1 (TX1 7).2.1 (TX1 7).2.2.1 "Entitled" ∈ lw_tb2 := tb (List.mem_of_getElem? (i := 64) (by decide +kernel))
theorem fl_X0_64 : Cond.fieldLinkNest RX0 64 RX1 (TX1 3).2.1 (TX1 3).2.2.1 "Entitled" ∈ lw_tb2 := tb (List.mem_of_getElem? (i := 53) (by decide +kernel))
theorem fl_X0_65 : Cond.fieldLinkNest RX0 65 RX1 (TX1 2).2.1 (TX1 2).2.2.1 "Entitled" ∈ lw_tb2 := tb (List.mem_of_getElem? (i := 51) (by decide +kernel))
theorem ml_X0_96 : Cond.methodLink RX0 96 yX0_missing ∈ lw_tb2 := tb (List.mem_of_getElem? (i := 571) (by decide +kernel))
theorem ml_X0_69 : Cond.methodLink RX0 69 yX0_changeNeed ∈ lw_tb2 := tb (List.mem_of_getElem? (i := 231) (by decide +kernel))
theorem fl_X1_7 : Cond.fieldLink RX1 7 RX1 (TX1 0).2.1 (TX1 0).2.2.1 ∈ lw_tb2 := tb (List.mem_of_getElem? (i := 44) (by decide +kernel))
theorem fl_X1_13 : Cond.fieldLink RX1 13 RX1 (TX1 1).2.1 (TX1 1).2.2.1 ∈ lw_tb2 := tb (List.mem_of_getElem? (i := 47) (by decide +kernel))
theorem fl_X1_17 : Cond.fieldLink RX1 17 RX1 (TX1 2).2.1 (TX1 2).2.2.1 ∈ lw_tb2 := tb (List.mem_of_getElem? (i := 49) (by decide +kernel))
theorem fl_X1_20 : Cond.fieldLink RX1 20 RX1 (TX1 3).2.1 (TX1 3).2.2.1 ∈ lw_tb2 := tb (List.mem_of_getElem? (i := 52) (by decide +kernel))
theorem fl_X1_23 : Cond.fieldLink RX1 23 RX1 (TX1 4).2.1 (TX1 4).2.2.1 ∈ lw_tb2 := tb (List.mem_of_getElem? (i := 55) (by decide +kernel))
theorem fl_X1_26 : Cond.fieldLink RX1 26 RX1 (TX1 5).2.1 (TX1 5).2.2.1 ∈ lw_tb2 := tb (List.mem_of_getElem? (i := 58) (by decide +kernel))
theorem fl_X1_29 : Cond.fieldLink RX1 29 RX1 (TX1 6).2.1 (TX1 6).2.2.1 ∈ lw_tb2 := tb (List.mem_of_getElem? (i := 61) (by decide +kernel))
theorem fl_X1_32 : Cond.fieldLink RX1 32 RX1 (TX1 7).2.1 (TX1 7).2.2.1 ∈ lw_tb2 := tb (List.mem_of_getElem? (i := 63) (by decide +kernel))
theorem ml_X2_114 : Cond.methodLink RX2 114 yX2_entitlementAt ∈ lw_tb2 := tb (List.mem_of_getElem? (i := 444) (by decide +kernel))
theorem ml_X2_33 : Cond.methodLink RX2 33 yX2_isBetween ∈ lw_tb2 := tb (List.mem_of_getElem? (i := 178) (by decide +kernel))
theorem fl_X2_152 : Cond.fieldLinkNest RX2 152 RX0 (TX0 4).2.1 (TX0 4).2.2.1 "Entitled" ∈ lw_tb2 := tb (List.mem_of_getElem? (i := 96) (by decide +kernel))
theorem fl_X2_11 : Cond.fieldLink RX2 11 RX2 (TX2 0).2.1 (TX2 0).2.2.1 ∈ lw_tb2 := tb (List.mem_of_getElem? (i := 139) (by decide +kernel))
theorem fl_X2_75 : Cond.fieldLinkNest RX2 75 RX1 (TX1 0).2.1 (TX1 0).2.2.1 "Entitled" ∈ lw_tb2 := tb (List.mem_of_getElem? (i := 45) (by decide +kernel))
theorem ml_X2_161 : Cond.methodLink RX2 161 yX2_countFitting ∈ lw_tb2 := tb (List.mem_of_getElem? (i := 201) (by decide +kernel))
theorem fl_X2_18 : Cond.fieldLink RX2 18 RX2 (TX2 1).2.1 (TX2 1).2.2.1 ∈ lw_tb2 := tb (List.mem_of_getElem? (i := 140) (by decide +kernel))
theorem ml_X2_174 : Cond.methodLinkNest RX2 174 yX0_clearNeed "Entitled" ∈ lw_tb2 := tb (List.mem_of_getElem? (i := 197) (by decide +kernel))
theorem fl_X2_23 : Cond.fieldLink RX2 23 RX2 (TX2 6).2.1 (TX2 6).2.2.1 ∈ lw_tb2 := tb (List.mem_of_getElem? (i := 145) (by decide +kernel))
theorem fl_X2_27 : Cond.fieldLink RX2 27 RX2 (TX2 7).2.1 (TX2 7).2.2.1 ∈ lw_tb2 := tb (List.mem_of_getElem? (i := 146) (by decide +kernel))
theorem ml_X2_276 : Cond.methodLink RX2 276 yX2_clearNeeds ∈ lw_tb2 := tb (List.mem_of_getElem? (i := 193) (by decide +kernel))
theorem fl_X2_197 : Cond.fieldLink RX2 197 RX2 (TX2 9).2.1 (TX2 9).2.2.1 ∈ lw_tb2 := tb (List.mem_of_getElem? (i := 148) (by decide +kernel))
theorem ml_X2_165 : Cond.methodLinkNest RX2 165 yX0_fits "Entitled" ∈ lw_tb2 := tb (List.mem_of_getElem? (i := 205) (by decide +kernel))
theorem fl_X2_55 : Cond.fieldLink RX2 55 RX2 (TX2 3).2.1 (TX2 3).2.2.1 ∈ lw_tb2 := tb (List.mem_of_getElem? (i := 142) (by decide +kernel))
theorem ml_X2_184 : Cond.methodLink RX2 184 yX2_findCover ∈ lw_tb2 := tb (List.mem_of_getElem? (i := 185) (by decide +kernel))
theorem ml_X2_189 : Cond.methodLink RX2 189 yX2_clearSearch ∈ lw_tb2 := tb (List.mem_of_getElem? (i := 189) (by decide +kernel))
theorem ml_X2_193 : Cond.methodLink RX2 193 yX2_tryCovers ∈ lw_tb2 := tb (List.mem_of_getElem? (i := 1259) (by decide +kernel))
theorem ml_X2_37 : Cond.methodLink RX2 37 yX2_isRelease ∈ lw_tb2 := tb (List.mem_of_getElem? (i := 285) (by decide +kernel))
theorem ml_X2_100 : Cond.methodLink RX2 100 yX2_isMetric ∈ lw_tb2 := tb (List.mem_of_getElem? (i := 428) (by decide +kernel))
theorem ml_X2_45 : Cond.methodLink RX2 45 yX2_isPool ∈ lw_tb2 := tb (List.mem_of_getElem? (i := 291) (by decide +kernel))
theorem fl_X2_106 : Cond.fieldLink RX2 106 RX2 (TX2 4).2.1 (TX2 4).2.2.1 ∈ lw_tb2 := tb (List.mem_of_getElem? (i := 143) (by decide +kernel))
theorem ml_X2_111 : Cond.methodLinkNest RX2 111 yX0_fill "Entitled" ∈ lw_tb2 := tb (List.mem_of_getElem? (i := 433) (by decide +kernel))
theorem ml_X2_234 : Cond.methodLink RX2 234 yX2_isThere ∈ lw_tb2 := tb (List.mem_of_getElem? (i := 396) (by decide +kernel))
theorem ml_X2_200 : Cond.methodLink RX2 200 yX2_entitlementByCover ∈ lw_tb2 := tb (List.mem_of_getElem? (i := 508) (by decide +kernel))
theorem fl_X2_30 : Cond.fieldLink RX2 30 RX2 (TX2 8).2.1 (TX2 8).2.2.1 ∈ lw_tb2 := tb (List.mem_of_getElem? (i := 147) (by decide +kernel))
theorem ml_X2_246 : Cond.methodLink RX2 246 yX2_searchCover ∈ lw_tb2 := tb (List.mem_of_getElem? (i := 213) (by decide +kernel))
theorem ml_X2_250 : Cond.methodLink RX2 250 yX2_searchPurchase ∈ lw_tb2 := tb (List.mem_of_getElem? (i := 564) (by decide +kernel))
theorem ml_X2_71 : Cond.methodLink RX2 71 yX2_installAt ∈ lw_tb2 := tb (List.mem_of_getElem? (i := 392) (by decide +kernel))
theorem ml_X2_177 : Cond.methodLinkNest RX2 177 yX0_serve "Entitled" ∈ lw_tb2 := tb (List.mem_of_getElem? (i := 227) (by decide +kernel))
theorem ml_X2_15 : Cond.methodLinkNest RX2 15 yX1_init "Entitled" ∈ lw_tb2 := tb (List.mem_of_getElem? (i := 40) (by decide +kernel))
theorem ml_X2_22 : Cond.methodLinkNest RX2 22 yX0_init "Entitled" ∈ lw_tb2 := tb (List.mem_of_getElem? (i := 86) (by decide +kernel))
theorem ml_X2_41 : Cond.methodLink RX2 41 yX2_isHolder ∈ lw_tb2 := tb (List.mem_of_getElem? (i := 288) (by decide +kernel))
theorem fl_X2_59 : Cond.fieldLink RX2 59 RX2 (TX2 2).2.1 (TX2 2).2.2.1 ∈ lw_tb2 := tb (List.mem_of_getElem? (i := 141) (by decide +kernel))
theorem ml_X2_67 : Cond.methodLinkNest RX2 67 yX1_fill "Entitled" ∈ lw_tb2 := tb (List.mem_of_getElem? (i := 380) (by decide +kernel))
theorem ml_X2_225 : Cond.methodLinkNest RX2 225 yX0_missing "Entitled" ∈ lw_tb2 := tb (List.mem_of_getElem? (i := 243) (by decide +kernel))
theorem ma_X2_282 : Cond.methodLink RX2 282 arraycopyName ∈ lw_tb2 := tb (List.mem_of_getElem? (i := 220) (by decide +kernel))
theorem fl_X2_81 : Cond.fieldLinkNest RX2 81 RX1 (TX1 4).2.1 (TX1 4).2.2.1 "Entitled" ∈ lw_tb2 := tb (List.mem_of_getElem? (i := 56) (by decide +kernel))
theorem fl_X2_84 : Cond.fieldLinkNest RX2 84 RX1 (TX1 5).2.1 (TX1 5).2.2.1 "Entitled" ∈ lw_tb2 := tb (List.mem_of_getElem? (i := 59) (by decide +kernel))
theorem ml_X2_215 : Cond.methodLink RX2 215 yX2_checkAllCanBeCovered ∈ lw_tb2 := tb (List.mem_of_getElem? (i := 554) (by decide +kernel))
theorem ml_X2_218 : Cond.methodLink RX2 218 yX2_findPurchase ∈ lw_tb2 := tb (List.mem_of_getElem? (i := 559) (by decide +kernel))
theorem ml_X2_222 : Cond.methodLink RX2 222 yX2_tryPurchases ∈ lw_tb2 := tb (List.mem_of_getElem? (i := 1280) (by decide +kernel))
theorem ml_X2_206 : Cond.methodLink RX2 206 yX2_fitting ∈ lw_tb2 := tb (List.mem_of_getElem? (i := 535) (by decide +kernel))
theorem ml_X2_253 : Cond.methodLink RX2 253 yX2_keepAsBest ∈ lw_tb2 := tb (List.mem_of_getElem? (i := 216) (by decide +kernel))
theorem ml_X2_256 : Cond.methodLink RX2 256 yX2_give ∈ lw_tb2 := tb (List.mem_of_getElem? (i := 223) (by decide +kernel))
theorem ml_X2_260 : Cond.methodLink RX2 260 yX2_takeBack ∈ lw_tb2 := tb (List.mem_of_getElem? (i := 247) (by decide +kernel))
theorem ml_X2_263 : Cond.methodLinkNest RX2 263 yX0_missingPrice "Entitled" ∈ lw_tb2 := tb (List.mem_of_getElem? (i := 567) (by decide +kernel))
theorem fl_X2_133 : Cond.fieldLinkNest RX2 133 RX0 (TX0 3).2.1 (TX0 3).2.2.1 "Entitled" ∈ lw_tb2 := tb (List.mem_of_getElem? (i := 94) (by decide +kernel))
theorem fl_X2_142 : Cond.fieldLinkNest RX2 142 RX0 (TX0 6).2.1 (TX0 6).2.2.1 "Entitled" ∈ lw_tb2 := tb (List.mem_of_getElem? (i := 99) (by decide +kernel))
theorem fl_X2_97 : Cond.fieldLinkNest RX2 97 RX1 (TX1 7).2.1 (TX1 7).2.2.1 "Entitled" ∈ lw_tb2 := tb (List.mem_of_getElem? (i := 65) (by decide +kernel))
theorem fl_X2_147 : Cond.fieldLinkNest RX2 147 RX0 (TX0 7).2.1 (TX0 7).2.2.1 "Entitled" ∈ lw_tb2 := tb (List.mem_of_getElem? (i := 101) (by decide +kernel))
theorem ml_X2_118 : Cond.methodLinkNest RX2 118 yX0_countRights "Entitled" ∈ lw_tb2 := tb (List.mem_of_getElem? (i := 449) (by decide +kernel))
theorem fl_X2_122 : Cond.fieldLinkNest RX2 122 RX0 (TX0 8).2.1 (TX0 8).2.2.1 "Entitled" ∈ lw_tb2 := tb (List.mem_of_getElem? (i := 103) (by decide +kernel))
theorem fl_X2_125 : Cond.fieldLinkNest RX2 125 RX0 (TX0 9).2.1 (TX0 9).2.2.1 "Entitled" ∈ lw_tb2 := tb (List.mem_of_getElem? (i := 105) (by decide +kernel))
theorem fl_X2_128 : Cond.fieldLinkNest RX2 128 RX0 (TX0 10).2.1 (TX0 10).2.2.1 "Entitled" ∈ lw_tb2 := tb (List.mem_of_getElem? (i := 107) (by decide +kernel))
theorem fl_X2_89 : Cond.fieldLinkNest RX2 89 RX1 (TX1 2).2.1 (TX1 2).2.2.1 "Entitled" ∈ lw_tb2 := tb (List.mem_of_getElem? (i := 50) (by decide +kernel))
theorem fl_X2_92 : Cond.fieldLinkNest RX2 92 RX1 (TX1 3).2.1 (TX1 3).2.2.1 "Entitled" ∈ lw_tb2 := tb (List.mem_of_getElem? (i := 54) (by decide +kernel))
theorem ml_X2_212 : Cond.methodLink RX2 212 yX2_used ∈ lw_tb2 := tb (List.mem_of_getElem? (i := 1250) (by decide +kernel))
theorem fl_X2_228 : Cond.fieldLink RX2 228 RX2 (TX2 5).2.1 (TX2 5).2.2.1 ∈ lw_tb2 := tb (List.mem_of_getElem? (i := 144) (by decide +kernel))
theorem ml_X2_279 : Cond.methodLinkNest RX2 279 yX0_release "Entitled" ∈ lw_tb2 := tb (List.mem_of_getElem? (i := 251) (by decide +kernel))
theorem ml_X2_209 : Cond.methodLink RX2 209 yX2_serveByBest ∈ lw_tb2 := tb (List.mem_of_getElem? (i := 543) (by decide +kernel))
theorem ml_X2_266 : Cond.methodLink RX2 266 yX2_countGiven ∈ lw_tb2 := tb (List.mem_of_getElem? (i := 1262) (by decide +kernel))
theorem ml_X2_269 : Cond.methodLink RX2 269 yX2_isAllowed ∈ lw_tb2 := tb (List.mem_of_getElem? (i := 1266) (by decide +kernel))
theorem ml_X2_273 : Cond.methodLink RX2 273 yX2_sumOfMissing ∈ lw_tb2 := tb (List.mem_of_getElem? (i := 1283) (by decide +kernel))
theorem fl_X2_181 : Cond.fieldLinkNest RX2 181 RX0 (TX0 12).2.1 (TX0 12).2.2.1 "Entitled" ∈ lw_tb2 := tb (List.mem_of_getElem? (i := 110) (by decide +kernel))
theorem ml_X2_157 : Cond.methodLinkNest RX2 157 yX0_misfit "Entitled" ∈ lw_tb2 := tb (List.mem_of_getElem? (i := 492) (by decide +kernel))
theorem fl_X3_8 : Cond.fieldLink RX3 8 RX3 (TX3 0).2.1 (TX3 0).2.2.1 ∈ lw_tb2 := tb (List.mem_of_getElem? (i := 262) (by decide +kernel))
theorem mx_X3_15 : Cond.methodLink RX3 15 Lib.Math.max.name ∈ lw_tb2 := tb (List.mem_of_getElem? (i := 271) (by decide +kernel))
theorem mw_J0_charAt_5068e : MWb yJ0_charAt_5068e cJ0_charAt_5068e 2 (some .char) 1 := ⟨tb (List.mem_of_getElem? (i := 611) (by decide +kernel)), tb (List.mem_of_getElem? (i := 17) (by decide +kernel)), ⟨by decide +kernel, by decide +kernel⟩, by decide +kernel, by decide, by decide +kernel⟩
theorem mw_J0_checkIndex_df160 : MWb yJ0_checkIndex_df160 cJ0_checkIndex_df160 2 none 2 := ⟨tb (List.mem_of_getElem? (i := 623) (by decide +kernel)), tb (List.mem_of_getElem? (i := 17) (by decide +kernel)), ⟨by decide +kernel, by decide +kernel⟩, by decide +kernel, by decide, by decide +kernel⟩
theorem mw_J0_coder_7d493 : MWb yJ0_coder_7d493 cJ0_coder_7d493 1 (some .byte) 0 := ⟨tb (List.mem_of_getElem? (i := 1035) (by decide +kernel)), tb (List.mem_of_getElem? (i := 17) (by decide +kernel)), ⟨by decide +kernel, by decide +kernel⟩, by decide +kernel, by decide, by decide +kernel⟩
theorem mw_J0_equals_9ea2d : MWb yJ0_equals_9ea2d cJ0_equals_9ea2d 3 (some .boolean) 1 := ⟨tb (List.mem_of_getElem? (i := 1290) (by decide +kernel)), tb (List.mem_of_getElem? (i := 17) (by decide +kernel)), ⟨by decide +kernel, by decide +kernel⟩, by decide +kernel, by decide, by decide +kernel⟩
theorem mw_J0_getBytes_840e7 : MWb yJ0_getBytes_840e7 cJ0_getBytes_840e7 4 none 3 := ⟨tb (List.mem_of_getElem? (i := 1048) (by decide +kernel)), tb (List.mem_of_getElem? (i := 17) (by decide +kernel)), ⟨by decide +kernel, by decide +kernel⟩, by decide +kernel, by decide, by decide +kernel⟩
theorem mw_J0_init_81219 : MWb yJ0_init_81219 cJ0_init_81219 2 none 1 := ⟨tb (List.mem_of_getElem? (i := 1181) (by decide +kernel)), tb (List.mem_of_getElem? (i := 17) (by decide +kernel)), ⟨by decide +kernel, by decide +kernel⟩, by decide +kernel, by decide, by decide +kernel⟩
theorem mw_J0_init_db425 : MWb yJ0_init_db425 cJ0_init_db425 5 none 2 := ⟨tb (List.mem_of_getElem? (i := 1184) (by decide +kernel)), tb (List.mem_of_getElem? (i := 17) (by decide +kernel)), ⟨by decide +kernel, by decide +kernel⟩, by decide +kernel, by decide, by decide +kernel⟩
theorem mw_J0_isLatin1_aae02 : MWb yJ0_isLatin1_aae02 cJ0_isLatin1_aae02 1 (some .boolean) 0 := ⟨tb (List.mem_of_getElem? (i := 615) (by decide +kernel)), tb (List.mem_of_getElem? (i := 17) (by decide +kernel)), ⟨by decide +kernel, by decide +kernel⟩, by decide +kernel, by decide, by decide +kernel⟩
theorem mw_J0_length_8abf5 : MWb yJ0_length_8abf5 cJ0_length_8abf5 1 (some .int) 0 := ⟨tb (List.mem_of_getElem? (i := 1031) (by decide +kernel)), tb (List.mem_of_getElem? (i := 17) (by decide +kernel)), ⟨by decide +kernel, by decide +kernel⟩, by decide +kernel, by decide, by decide +kernel⟩
theorem mw_J13_getChars_11360 : MWb yJ13_getChars_11360 cJ13_getChars_11360 11 (some .int) 3 := ⟨tb (List.mem_of_getElem? (i := 822) (by decide +kernel)), tb (List.mem_of_getElem? (i := 25) (by decide +kernel)), ⟨by decide +kernel, by decide +kernel⟩, by decide +kernel, by decide, by decide +kernel⟩
theorem mw_J13_stringSize_95d88 : MWb yJ13_stringSize_95d88 cJ13_stringSize_95d88 6 (some .int) 1 := ⟨tb (List.mem_of_getElem? (i := 817) (by decide +kernel)), tb (List.mem_of_getElem? (i := 25) (by decide +kernel)), ⟨by decide +kernel, by decide +kernel⟩, by decide +kernel, by decide, by decide +kernel⟩
theorem mw_J1_canEncode_fc78d : MWb yJ1_canEncode_fc78d cJ1_canEncode_fc78d 1 (some .boolean) 1 := ⟨tb (List.mem_of_getElem? (i := 781) (by decide +kernel)), tb (List.mem_of_getElem? (i := 24) (by decide +kernel)), ⟨by decide +kernel, by decide +kernel⟩, by decide +kernel, by decide, by decide +kernel⟩
theorem mw_J1_charAt_3b067 : MWb yJ1_charAt_3b067 cJ1_charAt_3b067 2 (some .char) 2 := ⟨tb (List.mem_of_getElem? (i := 620) (by decide +kernel)), tb (List.mem_of_getElem? (i := 24) (by decide +kernel)), ⟨by decide +kernel, by decide +kernel⟩, by decide +kernel, by decide, by decide +kernel⟩
theorem mw_J1_equals_b5fdf : MWb yJ1_equals_b5fdf cJ1_equals_b5fdf 3 (some .boolean) 2 := ⟨tb (List.mem_of_getElem? (i := 1294) (by decide +kernel)), tb (List.mem_of_getElem? (i := 24) (by decide +kernel)), ⟨by decide +kernel, by decide +kernel⟩, by decide +kernel, by decide, by decide +kernel⟩
theorem mw_J3_checkIndex_8e157 : MWb yJ3_checkIndex_8e157 cJ3_checkIndex_8e157 3 (some .int) 3 := ⟨tb (List.mem_of_getElem? (i := 628) (by decide +kernel)), tb (List.mem_of_getElem? (i := 23) (by decide +kernel)), ⟨by decide +kernel, by decide +kernel⟩, by decide +kernel, by decide, by decide +kernel⟩
theorem mw_J4_append_15ec4 : MWb yJ4_append_15ec4 cJ4_append_15ec4 2 (some (.object "java/lang/StringBuilder")) 1 := ⟨tb (List.mem_of_getElem? (i := 1025) (by decide +kernel)), tb (List.mem_of_getElem? (i := 16) (by decide +kernel)), ⟨by decide +kernel, by decide +kernel⟩, by decide +kernel, by decide, by decide +kernel⟩
theorem mw_J4_append_1fab5 : MWb yJ4_append_1fab5 cJ4_append_1fab5 2 (some (.object "java/lang/StringBuilder")) 1 := ⟨tb (List.mem_of_getElem? (i := 1004) (by decide +kernel)), tb (List.mem_of_getElem? (i := 16) (by decide +kernel)), ⟨by decide +kernel, by decide +kernel⟩, by decide +kernel, by decide, by decide +kernel⟩
theorem mw_J4_append_37e8c : MWb yJ4_append_37e8c cJ4_append_37e8c 2 (some (.object "java/lang/StringBuilder")) 1 := ⟨tb (List.mem_of_getElem? (i := 959) (by decide +kernel)), tb (List.mem_of_getElem? (i := 16) (by decide +kernel)), ⟨by decide +kernel, by decide +kernel⟩, by decide +kernel, by decide, by decide +kernel⟩
theorem mw_J4_append_9d4c8 : MWb yJ4_append_9d4c8 cJ4_append_9d4c8 2 (some (.object "java/lang/StringBuilder")) 1 := ⟨tb (List.mem_of_getElem? (i := 838) (by decide +kernel)), tb (List.mem_of_getElem? (i := 16) (by decide +kernel)), ⟨by decide +kernel, by decide +kernel⟩, by decide +kernel, by decide, by decide +kernel⟩
theorem mw_J4_append_9f485 : MWb yJ4_append_9f485 cJ4_append_9f485 2 (some (.object "java/lang/StringBuilder")) 1 := ⟨tb (List.mem_of_getElem? (i := 1166) (by decide +kernel)), tb (List.mem_of_getElem? (i := 16) (by decide +kernel)), ⟨by decide +kernel, by decide +kernel⟩, by decide +kernel, by decide, by decide +kernel⟩
theorem mw_J4_append_bf812 : MWb yJ4_append_bf812 cJ4_append_bf812 2 (some (.object "java/lang/StringBuilder")) 1 := ⟨tb (List.mem_of_getElem? (i := 702) (by decide +kernel)), tb (List.mem_of_getElem? (i := 16) (by decide +kernel)), ⟨by decide +kernel, by decide +kernel⟩, by decide +kernel, by decide, by decide +kernel⟩
theorem mw_J4_append_cf468 : MWb yJ4_append_cf468 cJ4_append_cf468 2 (some (.object "java/lang/StringBuilder")) 1 := ⟨tb (List.mem_of_getElem? (i := 775) (by decide +kernel)), tb (List.mem_of_getElem? (i := 16) (by decide +kernel)), ⟨by decide +kernel, by decide +kernel⟩, by decide +kernel, by decide, by decide +kernel⟩
theorem mw_J4_append_f7089 : MWb yJ4_append_f7089 cJ4_append_f7089 3 (some (.object "java/lang/StringBuilder")) 1 := ⟨tb (List.mem_of_getElem? (i := 811) (by decide +kernel)), tb (List.mem_of_getElem? (i := 16) (by decide +kernel)), ⟨by decide +kernel, by decide +kernel⟩, by decide +kernel, by decide, by decide +kernel⟩
theorem mw_J4_init_da8c8 : MWb yJ4_init_da8c8 cJ4_init_da8c8 1 none 0 := ⟨tb (List.mem_of_getElem? (i := 672) (by decide +kernel)), tb (List.mem_of_getElem? (i := 16) (by decide +kernel)), ⟨by decide +kernel, by decide +kernel⟩, by decide +kernel, by decide, by decide +kernel⟩
theorem mw_J4_toString_0e30d : MWb yJ4_toString_0e30d cJ4_toString_0e30d 1 (some (.object "java/lang/String")) 0 := ⟨tb (List.mem_of_getElem? (i := 1176) (by decide +kernel)), tb (List.mem_of_getElem? (i := 16) (by decide +kernel)), ⟨by decide +kernel, by decide +kernel⟩, by decide +kernel, by decide, by decide +kernel⟩
theorem mw_J5_appendChars_0ad70 : MWb yJ5_appendChars_0ad70 cJ5_appendChars_0ad70 9 none 3 := ⟨tb (List.mem_of_getElem? (i := 966) (by decide +kernel)), tb (List.mem_of_getElem? (i := 15) (by decide +kernel)), ⟨by decide +kernel, by decide +kernel⟩, by decide +kernel, by decide, by decide +kernel⟩
theorem mw_J5_append_34b3d : MWb yJ5_append_34b3d cJ5_append_34b3d 4 (some (.object "java/lang/AbstractStringBuilder")) 1 := ⟨tb (List.mem_of_getElem? (i := 1169) (by decide +kernel)), tb (List.mem_of_getElem? (i := 15) (by decide +kernel)), ⟨by decide +kernel, by decide +kernel⟩, by decide +kernel, by decide, by decide +kernel⟩
theorem mw_J5_append_3fe6f : MWb yJ5_append_3fe6f cJ5_append_3fe6f 2 (some (.object "java/lang/AbstractStringBuilder")) 1 := ⟨tb (List.mem_of_getElem? (i := 778) (by decide +kernel)), tb (List.mem_of_getElem? (i := 15) (by decide +kernel)), ⟨by decide +kernel, by decide +kernel⟩, by decide +kernel, by decide, by decide +kernel⟩
theorem mw_J5_append_66267 : MWb yJ5_append_66267 cJ5_append_66267 5 (some (.object "java/lang/AbstractStringBuilder")) 1 := ⟨tb (List.mem_of_getElem? (i := 814) (by decide +kernel)), tb (List.mem_of_getElem? (i := 15) (by decide +kernel)), ⟨by decide +kernel, by decide +kernel⟩, by decide +kernel, by decide, by decide +kernel⟩
theorem mw_J5_append_8f9a3 : MWb yJ5_append_8f9a3 cJ5_append_8f9a3 2 (some (.object "java/lang/AbstractStringBuilder")) 1 := ⟨tb (List.mem_of_getElem? (i := 1007) (by decide +kernel)), tb (List.mem_of_getElem? (i := 15) (by decide +kernel)), ⟨by decide +kernel, by decide +kernel⟩, by decide +kernel, by decide, by decide +kernel⟩
theorem mw_J5_append_a1634 : MWb yJ5_append_a1634 cJ5_append_a1634 3 (some (.object "java/lang/AbstractStringBuilder")) 1 := ⟨tb (List.mem_of_getElem? (i := 962) (by decide +kernel)), tb (List.mem_of_getElem? (i := 15) (by decide +kernel)), ⟨by decide +kernel, by decide +kernel⟩, by decide +kernel, by decide, by decide +kernel⟩
theorem mw_J5_append_c97b9 : MWb yJ5_append_c97b9 cJ5_append_c97b9 4 (some (.object "java/lang/AbstractStringBuilder")) 1 := ⟨tb (List.mem_of_getElem? (i := 705) (by decide +kernel)), tb (List.mem_of_getElem? (i := 15) (by decide +kernel)), ⟨by decide +kernel, by decide +kernel⟩, by decide +kernel, by decide, by decide +kernel⟩
theorem mw_J5_append_cf1ce : MWb yJ5_append_cf1ce cJ5_append_cf1ce 3 (some (.object "java/lang/AbstractStringBuilder")) 1 := ⟨tb (List.mem_of_getElem? (i := 1027) (by decide +kernel)), tb (List.mem_of_getElem? (i := 15) (by decide +kernel)), ⟨by decide +kernel, by decide +kernel⟩, by decide +kernel, by decide, by decide +kernel⟩
theorem mw_J5_ensureCapacityInternal_d00df : MWb yJ5_ensureCapacityInternal_d00df cJ5_ensureCapacityInternal_d00df 3 none 1 := ⟨tb (List.mem_of_getElem? (i := 712) (by decide +kernel)), tb (List.mem_of_getElem? (i := 15) (by decide +kernel)), ⟨by decide +kernel, by decide +kernel⟩, by decide +kernel, by decide, by decide +kernel⟩
theorem mw_J5_getValue_6d5f1 : MWb yJ5_getValue_6d5f1 cJ5_getValue_6d5f1 1 (some (.array .byte)) 0 := ⟨tb (List.mem_of_getElem? (i := 1190) (by decide +kernel)), tb (List.mem_of_getElem? (i := 15) (by decide +kernel)), ⟨by decide +kernel, by decide +kernel⟩, by decide +kernel, by decide, by decide +kernel⟩
theorem mw_J5_inflateIfNeededFor_a7421 : MWb yJ5_inflateIfNeededFor_a7421 cJ5_inflateIfNeededFor_a7421 2 none 1 := ⟨tb (List.mem_of_getElem? (i := 1043) (by decide +kernel)), tb (List.mem_of_getElem? (i := 15) (by decide +kernel)), ⟨by decide +kernel, by decide +kernel⟩, by decide +kernel, by decide, by decide +kernel⟩
theorem mw_J5_init_d00df : MWb yJ5_init_d00df cJ5_init_d00df 2 none 1 := ⟨tb (List.mem_of_getElem? (i := 675) (by decide +kernel)), tb (List.mem_of_getElem? (i := 15) (by decide +kernel)), ⟨by decide +kernel, by decide +kernel⟩, by decide +kernel, by decide, by decide +kernel⟩
theorem mw_J5_isLatin1_aae02 : MWb yJ5_isLatin1_aae02 cJ5_isLatin1_aae02 1 (some .boolean) 0 := ⟨tb (List.mem_of_getElem? (i := 744) (by decide +kernel)), tb (List.mem_of_getElem? (i := 15) (by decide +kernel)), ⟨by decide +kernel, by decide +kernel⟩, by decide +kernel, by decide, by decide +kernel⟩
theorem mw_J5_length_8abf5 : MWb yJ5_length_8abf5 cJ5_length_8abf5 1 (some .int) 0 := ⟨tb (List.mem_of_getElem? (i := 1064) (by decide +kernel)), tb (List.mem_of_getElem? (i := 15) (by decide +kernel)), ⟨by decide +kernel, by decide +kernel⟩, by decide +kernel, by decide, by decide +kernel⟩
theorem mw_J5_newCapacity_0f7a4 : MWb yJ5_newCapacity_0f7a4 cJ5_newCapacity_0f7a4 6 (some .int) 1 := ⟨tb (List.mem_of_getElem? (i := 716) (by decide +kernel)), tb (List.mem_of_getElem? (i := 15) (by decide +kernel)), ⟨by decide +kernel, by decide +kernel⟩, by decide +kernel, by decide, by decide +kernel⟩
theorem mw_J5_putStringAt_47b60 : MWb yJ5_putStringAt_47b60 cJ5_putStringAt_47b60 3 none 2 := ⟨tb (List.mem_of_getElem? (i := 1039) (by decide +kernel)), tb (List.mem_of_getElem? (i := 15) (by decide +kernel)), ⟨by decide +kernel, by decide +kernel⟩, by decide +kernel, by decide, by decide +kernel⟩
theorem mw_J6_getChars_ba4f3 : MWb yJ6_getChars_ba4f3 cJ6_getChars_ba4f3 7 (some .int) 3 := ⟨tb (List.mem_of_getElem? (i := 747) (by decide +kernel)), tb (List.mem_of_getElem? (i := 20) (by decide +kernel)), ⟨by decide +kernel, by decide +kernel⟩, by decide +kernel, by decide, by decide +kernel⟩
theorem mw_J6_numberOfLeadingZeros_0f7a4 : MWb yJ6_numberOfLeadingZeros_0f7a4 cJ6_numberOfLeadingZeros_0f7a4 2 (some .int) 1 := ⟨tb (List.mem_of_getElem? (i := 881) (by decide +kernel)), tb (List.mem_of_getElem? (i := 20) (by decide +kernel)), ⟨by decide +kernel, by decide +kernel⟩, by decide +kernel, by decide, by decide +kernel⟩
theorem mw_J6_stringSize_0f7a4 : MWb yJ6_stringSize_0f7a4 cJ6_stringSize_0f7a4 4 (some .int) 1 := ⟨tb (List.mem_of_getElem? (i := 708) (by decide +kernel)), tb (List.mem_of_getElem? (i := 20) (by decide +kernel)), ⟨by decide +kernel, by decide +kernel⟩, by decide +kernel, by decide, by decide +kernel⟩
theorem mw_J7_checkLength_df160 : MWb yJ7_checkLength_df160 cJ7_checkLength_df160 2 none 2 := ⟨tb (List.mem_of_getElem? (i := 1201) (by decide +kernel)), tb (List.mem_of_getElem? (i := 22) (by decide +kernel)), ⟨by decide +kernel, by decide +kernel⟩, by decide +kernel, by decide, by decide +kernel⟩
theorem mw_J7_copyOfRangeByte_39247 : MWb yJ7_copyOfRangeByte_39247 cJ7_copyOfRangeByte_39247 5 (some (.array .byte)) 3 := ⟨tb (List.mem_of_getElem? (i := 1198) (by decide +kernel)), tb (List.mem_of_getElem? (i := 22) (by decide +kernel)), ⟨by decide +kernel, by decide +kernel⟩, by decide +kernel, by decide, by decide +kernel⟩
theorem mw_J7_copyOfRange_39247 : MWb yJ7_copyOfRange_39247 cJ7_copyOfRange_39247 3 (some (.array .byte)) 3 := ⟨tb (List.mem_of_getElem? (i := 1195) (by decide +kernel)), tb (List.mem_of_getElem? (i := 22) (by decide +kernel)), ⟨by decide +kernel, by decide +kernel⟩, by decide +kernel, by decide, by decide +kernel⟩
theorem mw_J7_copyOf_9075b : MWb yJ7_copyOf_9075b cJ7_copyOf_9075b 3 (some (.array .byte)) 2 := ⟨tb (List.mem_of_getElem? (i := 728) (by decide +kernel)), tb (List.mem_of_getElem? (i := 22) (by decide +kernel)), ⟨by decide +kernel, by decide +kernel⟩, by decide +kernel, by decide, by decide +kernel⟩
theorem mw_J8_newLength_cabcc : MWb yJ8_newLength_cabcc cJ8_newLength_cabcc 4 (some .int) 3 := ⟨tb (List.mem_of_getElem? (i := 719) (by decide +kernel)), tb (List.mem_of_getElem? (i := 21) (by decide +kernel)), ⟨by decide +kernel, by decide +kernel⟩, by decide +kernel, by decide, by decide +kernel⟩
theorem mw_J9_multiplyHigh_f86c9 : MWb yJ9_multiplyHigh_f86c9 cJ9_multiplyHigh_f86c9 20 (some .long) 2 := ⟨tb (List.mem_of_getElem? (i := 909) (by decide +kernel)), tb (List.mem_of_getElem? (i := 5) (by decide +kernel)), ⟨by decide +kernel, by decide +kernel⟩, by decide +kernel, by decide, by decide +kernel⟩
theorem mw_Jx25f51_flog10pow2_0f7a4 : MWb yJx25f51_flog10pow2_0f7a4 cJx25f51_flog10pow2_0f7a4 1 (some .int) 1 := ⟨tb (List.mem_of_getElem? (i := 885) (by decide +kernel)), tb (List.mem_of_getElem? (i := 28) (by decide +kernel)), ⟨by decide +kernel, by decide +kernel⟩, by decide +kernel, by decide, by decide +kernel⟩
theorem mw_Jx25f51_flog10threeQuartersPow2_0f7a4 : MWb yJx25f51_flog10threeQuartersPow2_0f7a4 cJx25f51_flog10threeQuartersPow2_0f7a4 1 (some .int) 1 := ⟨tb (List.mem_of_getElem? (i := 939) (by decide +kernel)), tb (List.mem_of_getElem? (i := 28) (by decide +kernel)), ⟨by decide +kernel, by decide +kernel⟩, by decide +kernel, by decide, by decide +kernel⟩
theorem mw_Jx25f51_flog2pow10_0f7a4 : MWb yJx25f51_flog2pow10_0f7a4 cJx25f51_flog2pow10_0f7a4 1 (some .int) 1 := ⟨tb (List.mem_of_getElem? (i := 943) (by decide +kernel)), tb (List.mem_of_getElem? (i := 28) (by decide +kernel)), ⟨by decide +kernel, by decide +kernel⟩, by decide +kernel, by decide, by decide +kernel⟩
theorem mw_Jx25f51_g1_3e8ac : MWb yJx25f51_g1_3e8ac cJx25f51_g1_3e8ac 1 (some .long) 1 := ⟨tb (List.mem_of_getElem? (i := 947) (by decide +kernel)), tb (List.mem_of_getElem? (i := 28) (by decide +kernel)), ⟨by decide +kernel, by decide +kernel⟩, by decide +kernel, by decide, by decide +kernel⟩
theorem mw_Jx25f51_pow10_3e8ac : MWb yJx25f51_pow10_3e8ac cJx25f51_pow10_3e8ac 1 (some .long) 1 := ⟨tb (List.mem_of_getElem? (i := 889) (by decide +kernel)), tb (List.mem_of_getElem? (i := 28) (by decide +kernel)), ⟨by decide +kernel, by decide +kernel⟩, by decide +kernel, by decide, by decide +kernel⟩
theorem mw_Jx40b00_append8Digits_d00df : MWb yJx40b00_append8Digits_d00df cJx40b00_append8Digits_d00df 5 none 1 := ⟨tb (List.mem_of_getElem? (i := 923) (by decide +kernel)), tb (List.mem_of_getElem? (i := 26) (by decide +kernel)), ⟨by decide +kernel, by decide +kernel⟩, by decide +kernel, by decide, by decide +kernel⟩
theorem mw_Jx40b00_appendDecimalTo_8d9f2 : MWb yJx40b00_appendDecimalTo_8d9f2 cJx40b00_appendDecimalTo_8d9f2 8 (some (.object "java/lang/Appendable")) 2 := ⟨tb (List.mem_of_getElem? (i := 861) (by decide +kernel)), tb (List.mem_of_getElem? (i := 26) (by decide +kernel)), ⟨by decide +kernel, by decide +kernel⟩, by decide +kernel, by decide, by decide +kernel⟩
theorem mw_Jx40b00_appendDigit_d00df : MWb yJx40b00_appendDigit_d00df cJx40b00_appendDigit_d00df 2 none 1 := ⟨tb (List.mem_of_getElem? (i := 901) (by decide +kernel)), tb (List.mem_of_getElem? (i := 26) (by decide +kernel)), ⟨by decide +kernel, by decide +kernel⟩, by decide +kernel, by decide, by decide +kernel⟩
theorem mw_Jx40b00_appendTo_8d9f2 : MWb yJx40b00_appendTo_8d9f2 cJx40b00_appendTo_8d9f2 2 (some (.object "java/lang/Appendable")) 2 := ⟨tb (List.mem_of_getElem? (i := 844) (by decide +kernel)), tb (List.mem_of_getElem? (i := 26) (by decide +kernel)), ⟨by decide +kernel, by decide +kernel⟩, by decide +kernel, by decide, by decide +kernel⟩
theorem mw_Jx40b00_append_d00df : MWb yJx40b00_append_d00df cJx40b00_append_d00df 2 none 1 := ⟨tb (List.mem_of_getElem? (i := 873) (by decide +kernel)), tb (List.mem_of_getElem? (i := 26) (by decide +kernel)), ⟨by decide +kernel, by decide +kernel⟩, by decide +kernel, by decide, by decide +kernel⟩
theorem mw_Jx40b00_exponent_d00df : MWb yJx40b00_exponent_d00df cJx40b00_exponent_d00df 3 none 1 := ⟨tb (List.mem_of_getElem? (i := 931) (by decide +kernel)), tb (List.mem_of_getElem? (i := 26) (by decide +kernel)), ⟨by decide +kernel, by decide +kernel⟩, by decide +kernel, by decide, by decide +kernel⟩
theorem mw_Jx40b00_init_da8c8 : MWb yJx40b00_init_da8c8 cJx40b00_init_da8c8 1 none 0 := ⟨tb (List.mem_of_getElem? (i := 849) (by decide +kernel)), tb (List.mem_of_getElem? (i := 26) (by decide +kernel)), ⟨by decide +kernel, by decide +kernel⟩, by decide +kernel, by decide, by decide +kernel⟩
theorem mw_Jx40b00_removeTrailingZeroes_da8c8 : MWb yJx40b00_removeTrailingZeroes_da8c8 cJx40b00_removeTrailingZeroes_da8c8 1 none 0 := ⟨tb (List.mem_of_getElem? (i := 915) (by decide +kernel)), tb (List.mem_of_getElem? (i := 26) (by decide +kernel)), ⟨by decide +kernel, by decide +kernel⟩, by decide +kernel, by decide, by decide +kernel⟩
theorem mw_Jx40b00_rop_74951 : MWb yJx40b00_rop_74951 cJx40b00_rop_74951 8 (some .int) 2 := ⟨tb (List.mem_of_getElem? (i := 952) (by decide +kernel)), tb (List.mem_of_getElem? (i := 26) (by decide +kernel)), ⟨by decide +kernel, by decide +kernel⟩, by decide +kernel, by decide, by decide +kernel⟩
theorem mw_Jx40b00_toChars1_cabcc : MWb yJx40b00_toChars1_cabcc cJx40b00_toChars1_cabcc 7 (some .int) 3 := ⟨tb (List.mem_of_getElem? (i := 897) (by decide +kernel)), tb (List.mem_of_getElem? (i := 26) (by decide +kernel)), ⟨by decide +kernel, by decide +kernel⟩, by decide +kernel, by decide, by decide +kernel⟩
theorem mw_Jx40b00_toChars2_cabcc : MWb yJx40b00_toChars2_cabcc cJx40b00_toChars2_cabcc 4 (some .int) 3 := ⟨tb (List.mem_of_getElem? (i := 919) (by decide +kernel)), tb (List.mem_of_getElem? (i := 26) (by decide +kernel)), ⟨by decide +kernel, by decide +kernel⟩, by decide +kernel, by decide, by decide +kernel⟩
theorem mw_Jx40b00_toChars3_cabcc : MWb yJx40b00_toChars3_cabcc cJx40b00_toChars3_cabcc 4 (some .int) 3 := ⟨tb (List.mem_of_getElem? (i := 927) (by decide +kernel)), tb (List.mem_of_getElem? (i := 26) (by decide +kernel)), ⟨by decide +kernel, by decide +kernel⟩, by decide +kernel, by decide, by decide +kernel⟩
theorem mw_Jx40b00_toChars_7cf53 : MWb yJx40b00_toChars_7cf53 cJx40b00_toChars_7cf53 6 (some .int) 2 := ⟨tb (List.mem_of_getElem? (i := 878) (by decide +kernel)), tb (List.mem_of_getElem? (i := 26) (by decide +kernel)), ⟨by decide +kernel, by decide +kernel⟩, by decide +kernel, by decide, by decide +kernel⟩
theorem mw_Jx40b00_toDecimal_5c35a : MWb yJx40b00_toDecimal_5c35a cJx40b00_toDecimal_5c35a 8 (some .int) 1 := ⟨tb (List.mem_of_getElem? (i := 865) (by decide +kernel)), tb (List.mem_of_getElem? (i := 26) (by decide +kernel)), ⟨by decide +kernel, by decide +kernel⟩, by decide +kernel, by decide, by decide +kernel⟩
theorem mw_Jx40b00_toDecimal_cabcc : MWb yJx40b00_toDecimal_cabcc cJx40b00_toDecimal_cabcc 23 (some .int) 3 := ⟨tb (List.mem_of_getElem? (i := 935) (by decide +kernel)), tb (List.mem_of_getElem? (i := 26) (by decide +kernel)), ⟨by decide +kernel, by decide +kernel⟩, by decide +kernel, by decide, by decide +kernel⟩
theorem mw_Jx40b00_y_0f7a4 : MWb yJx40b00_y_0f7a4 cJx40b00_y_0f7a4 2 (some .int) 1 := ⟨tb (List.mem_of_getElem? (i := 905) (by decide +kernel)), tb (List.mem_of_getElem? (i := 26) (by decide +kernel)), ⟨by decide +kernel, by decide +kernel⟩, by decide +kernel, by decide, by decide +kernel⟩
theorem mw_L_acts : MWb yL_acts cL_acts 6 (some .int) 3 := ⟨tb (List.mem_of_getElem? (i := 590) (by decide +kernel)), tb (List.mem_of_getElem? (i := 0) (by decide +kernel)), ⟨by decide +kernel, by decide +kernel⟩, by decide +kernel, by decide, by decide +kernel⟩
theorem mw_L_buying : MWb yL_buying cL_buying 10 (some .boolean) 2 := ⟨tb (List.mem_of_getElem? (i := 1272) (by decide +kernel)), tb (List.mem_of_getElem? (i := 0) (by decide +kernel)), ⟨by decide +kernel, by decide +kernel⟩, by decide +kernel, by decide, by decide +kernel⟩
theorem mw_L_cell : MWb yL_cell cL_cell 2 (some .int) 2 := ⟨tb (List.mem_of_getElem? (i := 274) (by decide +kernel)), tb (List.mem_of_getElem? (i := 0) (by decide +kernel)), ⟨by decide +kernel, by decide +kernel⟩, by decide +kernel, by decide, by decide +kernel⟩
theorem mw_L_covering : MWb yL_covering cL_covering 12 (some .boolean) 1 := ⟨tb (List.mem_of_getElem? (i := 1234) (by decide +kernel)), tb (List.mem_of_getElem? (i := 0) (by decide +kernel)), ⟨by decide +kernel, by decide +kernel⟩, by decide +kernel, by decide, by decide +kernel⟩
theorem mw_L_told : MWb yL_told cL_told 3 (some (.object "java/lang/String")) 1 := ⟨tb (List.mem_of_getElem? (i := 667) (by decide +kernel)), tb (List.mem_of_getElem? (i := 0) (by decide +kernel)), ⟨by decide +kernel, by decide +kernel⟩, by decide +kernel, by decide, by decide +kernel⟩
theorem mw_X0_changeNeed : MWb yX0_changeNeed cX0_changeNeed 5 none 2 := ⟨tb (List.mem_of_getElem? (i := 234) (by decide +kernel)), tb (List.mem_of_getElem? (i := 3) (by decide +kernel)), ⟨by decide +kernel, by decide +kernel⟩, by decide +kernel, by decide, by decide +kernel⟩
theorem mw_X0_clearNeed : MWb yX0_clearNeed cX0_clearNeed 2 none 0 := ⟨tb (List.mem_of_getElem? (i := 200) (by decide +kernel)), tb (List.mem_of_getElem? (i := 3) (by decide +kernel)), ⟨by decide +kernel, by decide +kernel⟩, by decide +kernel, by decide, by decide +kernel⟩
theorem mw_X0_countRights : MWb yX0_countRights cX0_countRights 1 (some .int) 0 := ⟨tb (List.mem_of_getElem? (i := 452) (by decide +kernel)), tb (List.mem_of_getElem? (i := 3) (by decide +kernel)), ⟨by decide +kernel, by decide +kernel⟩, by decide +kernel, by decide, by decide +kernel⟩
theorem mw_X0_fill : MWb yX0_fill cX0_fill 7 none 6 := ⟨tb (List.mem_of_getElem? (i := 436) (by decide +kernel)), tb (List.mem_of_getElem? (i := 3) (by decide +kernel)), ⟨by decide +kernel, by decide +kernel⟩, by decide +kernel, by decide, by decide +kernel⟩
theorem mw_X0_fits : MWb yX0_fits cX0_fits 2 (some .boolean) 1 := ⟨tb (List.mem_of_getElem? (i := 208) (by decide +kernel)), tb (List.mem_of_getElem? (i := 3) (by decide +kernel)), ⟨by decide +kernel, by decide +kernel⟩, by decide +kernel, by decide, by decide +kernel⟩
theorem mw_X0_init : MWb yX0_init cX0_init 1 none 0 := ⟨tb (List.mem_of_getElem? (i := 88) (by decide +kernel)), tb (List.mem_of_getElem? (i := 3) (by decide +kernel)), ⟨by decide +kernel, by decide +kernel⟩, by decide +kernel, by decide, by decide +kernel⟩
theorem mw_X0_misfit : MWb yX0_misfit cX0_misfit 2 (some .char) 1 := ⟨tb (List.mem_of_getElem? (i := 212) (by decide +kernel)), tb (List.mem_of_getElem? (i := 3) (by decide +kernel)), ⟨by decide +kernel, by decide +kernel⟩, by decide +kernel, by decide, by decide +kernel⟩
theorem mw_X0_missing : MWb yX0_missing cX0_missing 1 (some .int) 0 := ⟨tb (List.mem_of_getElem? (i := 246) (by decide +kernel)), tb (List.mem_of_getElem? (i := 3) (by decide +kernel)), ⟨by decide +kernel, by decide +kernel⟩, by decide +kernel, by decide, by decide +kernel⟩
theorem mw_X0_missingPrice : MWb yX0_missingPrice cX0_missingPrice 1 (some .int) 0 := ⟨tb (List.mem_of_getElem? (i := 570) (by decide +kernel)), tb (List.mem_of_getElem? (i := 3) (by decide +kernel)), ⟨by decide +kernel, by decide +kernel⟩, by decide +kernel, by decide, by decide +kernel⟩
theorem mw_X0_release : MWb yX0_release cX0_release 2 none 1 := ⟨tb (List.mem_of_getElem? (i := 254) (by decide +kernel)), tb (List.mem_of_getElem? (i := 3) (by decide +kernel)), ⟨by decide +kernel, by decide +kernel⟩, by decide +kernel, by decide, by decide +kernel⟩
theorem mw_X0_serve : MWb yX0_serve cX0_serve 2 none 1 := ⟨tb (List.mem_of_getElem? (i := 230) (by decide +kernel)), tb (List.mem_of_getElem? (i := 3) (by decide +kernel)), ⟨by decide +kernel, by decide +kernel⟩, by decide +kernel, by decide, by decide +kernel⟩
theorem mw_X0_unitsOfHolder : MWb yX0_unitsOfHolder cX0_unitsOfHolder 5 (some .int) 1 := ⟨tb (List.mem_of_getElem? (i := 242) (by decide +kernel)), tb (List.mem_of_getElem? (i := 3) (by decide +kernel)), ⟨by decide +kernel, by decide +kernel⟩, by decide +kernel, by decide, by decide +kernel⟩
theorem mw_X1_fill : MWb yX1_fill cX1_fill 8 none 7 := ⟨tb (List.mem_of_getElem? (i := 383) (by decide +kernel)), tb (List.mem_of_getElem? (i := 2) (by decide +kernel)), ⟨by decide +kernel, by decide +kernel⟩, by decide +kernel, by decide, by decide +kernel⟩
theorem mw_X1_init : MWb yX1_init cX1_init 1 none 0 := ⟨tb (List.mem_of_getElem? (i := 42) (by decide +kernel)), tb (List.mem_of_getElem? (i := 2) (by decide +kernel)), ⟨by decide +kernel, by decide +kernel⟩, by decide +kernel, by decide, by decide +kernel⟩
theorem mw_X2_addUnits : MWb yX2_addUnits cX2_addUnits 4 (some .int) 2 := ⟨tb (List.mem_of_getElem? (i := 662) (by decide +kernel)), tb (List.mem_of_getElem? (i := 1) (by decide +kernel)), ⟨by decide +kernel, by decide +kernel⟩, by decide +kernel, by decide, by decide +kernel⟩
theorem mw_X2_checkAllCanBeCovered : MWb yX2_checkAllCanBeCovered cX2_checkAllCanBeCovered 2 none 0 := ⟨tb (List.mem_of_getElem? (i := 557) (by decide +kernel)), tb (List.mem_of_getElem? (i := 1) (by decide +kernel)), ⟨by decide +kernel, by decide +kernel⟩, by decide +kernel, by decide, by decide +kernel⟩
theorem mw_X2_clearNeeds : MWb yX2_clearNeeds cX2_clearNeeds 2 none 0 := ⟨tb (List.mem_of_getElem? (i := 196) (by decide +kernel)), tb (List.mem_of_getElem? (i := 1) (by decide +kernel)), ⟨by decide +kernel, by decide +kernel⟩, by decide +kernel, by decide, by decide +kernel⟩
theorem mw_X2_clearSearch : MWb yX2_clearSearch cX2_clearSearch 3 none 1 := ⟨tb (List.mem_of_getElem? (i := 192) (by decide +kernel)), tb (List.mem_of_getElem? (i := 1) (by decide +kernel)), ⟨by decide +kernel, by decide +kernel⟩, by decide +kernel, by decide, by decide +kernel⟩
theorem mw_X2_countFitting : MWb yX2_countFitting cX2_countFitting 4 (some .int) 1 := ⟨tb (List.mem_of_getElem? (i := 204) (by decide +kernel)), tb (List.mem_of_getElem? (i := 1) (by decide +kernel)), ⟨by decide +kernel, by decide +kernel⟩, by decide +kernel, by decide, by decide +kernel⟩
theorem mw_X2_countGiven : MWb yX2_countGiven cX2_countGiven 3 (some .int) 0 := ⟨tb (List.mem_of_getElem? (i := 1265) (by decide +kernel)), tb (List.mem_of_getElem? (i := 1) (by decide +kernel)), ⟨by decide +kernel, by decide +kernel⟩, by decide +kernel, by decide, by decide +kernel⟩
theorem mw_X2_coverage : MWb yX2_coverage cX2_coverage 1 (some .float) 0 := ⟨tb (List.mem_of_getElem? (i := 585) (by decide +kernel)), tb (List.mem_of_getElem? (i := 1) (by decide +kernel)), ⟨by decide +kernel, by decide +kernel⟩, by decide +kernel, by decide, by decide +kernel⟩
theorem mw_X2_covered : MWb yX2_covered cX2_covered 1 (some .int) 0 := ⟨tb (List.mem_of_getElem? (i := 184) (by decide +kernel)), tb (List.mem_of_getElem? (i := 1) (by decide +kernel)), ⟨by decide +kernel, by decide +kernel⟩, by decide +kernel, by decide, by decide +kernel⟩
theorem mw_X2_coveredByTrying : MWb yX2_coveredByTrying cX2_coveredByTrying 1 (some .int) 0 := ⟨tb (List.mem_of_getElem? (i := 1257) (by decide +kernel)), tb (List.mem_of_getElem? (i := 1) (by decide +kernel)), ⟨by decide +kernel, by decide +kernel⟩, by decide +kernel, by decide, by decide +kernel⟩
theorem mw_X2_entitle : MWb yX2_entitle cX2_entitle 8 (some .int) 6 := ⟨tb (List.mem_of_getElem? (i := 427) (by decide +kernel)), tb (List.mem_of_getElem? (i := 1) (by decide +kernel)), ⟨by decide +kernel, by decide +kernel⟩, by decide +kernel, by decide, by decide +kernel⟩
theorem mw_X2_entitlementAt : MWb yX2_entitlementAt cX2_entitlementAt 2 (some (.object "Entitled$Entitlement")) 1 := ⟨tb (List.mem_of_getElem? (i := 447) (by decide +kernel)), tb (List.mem_of_getElem? (i := 1) (by decide +kernel)), ⟨by decide +kernel, by decide +kernel⟩, by decide +kernel, by decide, by decide +kernel⟩
theorem mw_X2_entitlementByCover : MWb yX2_entitlementByCover cX2_entitlementByCover 2 (some .int) 1 := ⟨tb (List.mem_of_getElem? (i := 511) (by decide +kernel)), tb (List.mem_of_getElem? (i := 1) (by decide +kernel)), ⟨by decide +kernel, by decide +kernel⟩, by decide +kernel, by decide, by decide +kernel⟩
theorem mw_X2_entitlementOf : MWb yX2_entitlementOf cX2_entitlementOf 3 (some .int) 1 := ⟨tb (List.mem_of_getElem? (i := 507) (by decide +kernel)), tb (List.mem_of_getElem? (i := 1) (by decide +kernel)), ⟨by decide +kernel, by decide +kernel⟩, by decide +kernel, by decide, by decide +kernel⟩
theorem mw_X2_findCover : MWb yX2_findCover cX2_findCover 2 (some .int) 0 := ⟨tb (List.mem_of_getElem? (i := 188) (by decide +kernel)), tb (List.mem_of_getElem? (i := 1) (by decide +kernel)), ⟨by decide +kernel, by decide +kernel⟩, by decide +kernel, by decide, by decide +kernel⟩
theorem mw_X2_findPurchase : MWb yX2_findPurchase cX2_findPurchase 1 (some .int) 0 := ⟨tb (List.mem_of_getElem? (i := 562) (by decide +kernel)), tb (List.mem_of_getElem? (i := 1) (by decide +kernel)), ⟨by decide +kernel, by decide +kernel⟩, by decide +kernel, by decide, by decide +kernel⟩
theorem mw_X2_firstFitting : MWb yX2_firstFitting cX2_firstFitting 4 (some .int) 1 := ⟨tb (List.mem_of_getElem? (i := 1241) (by decide +kernel)), tb (List.mem_of_getElem? (i := 1) (by decide +kernel)), ⟨by decide +kernel, by decide +kernel⟩, by decide +kernel, by decide, by decide +kernel⟩
theorem mw_X2_fitting : MWb yX2_fitting cX2_fitting 2 (some .int) 1 := ⟨tb (List.mem_of_getElem? (i := 499) (by decide +kernel)), tb (List.mem_of_getElem? (i := 1) (by decide +kernel)), ⟨by decide +kernel, by decide +kernel⟩, by decide +kernel, by decide, by decide +kernel⟩
theorem mw_X2_give : MWb yX2_give cX2_give 3 none 2 := ⟨tb (List.mem_of_getElem? (i := 226) (by decide +kernel)), tb (List.mem_of_getElem? (i := 1) (by decide +kernel)), ⟨by decide +kernel, by decide +kernel⟩, by decide +kernel, by decide, by decide +kernel⟩
theorem mw_X2_init : MWb yX2_init cX2_init 2 none 0 := ⟨tb (List.mem_of_getElem? (i := 33) (by decide +kernel)), tb (List.mem_of_getElem? (i := 1) (by decide +kernel)), ⟨by decide +kernel, by decide +kernel⟩, by decide +kernel, by decide, by decide +kernel⟩
theorem mw_X2_install : MWb yX2_install cX2_install 9 (some .int) 7 := ⟨tb (List.mem_of_getElem? (i := 284) (by decide +kernel)), tb (List.mem_of_getElem? (i := 1) (by decide +kernel)), ⟨by decide +kernel, by decide +kernel⟩, by decide +kernel, by decide, by decide +kernel⟩
theorem mw_X2_installAt : MWb yX2_installAt cX2_installAt 2 (some (.object "Entitled$Install")) 1 := ⟨tb (List.mem_of_getElem? (i := 395) (by decide +kernel)), tb (List.mem_of_getElem? (i := 1) (by decide +kernel)), ⟨by decide +kernel, by decide +kernel⟩, by decide +kernel, by decide, by decide +kernel⟩
theorem mw_X2_installs : MWb yX2_installs cX2_installs 1 (some .int) 0 := ⟨tb (List.mem_of_getElem? (i := 173) (by decide +kernel)), tb (List.mem_of_getElem? (i := 1) (by decide +kernel)), ⟨by decide +kernel, by decide +kernel⟩, by decide +kernel, by decide, by decide +kernel⟩
theorem mw_X2_isAllowed : MWb yX2_isAllowed cX2_isAllowed 2 (some .boolean) 0 := ⟨tb (List.mem_of_getElem? (i := 1269) (by decide +kernel)), tb (List.mem_of_getElem? (i := 1) (by decide +kernel)), ⟨by decide +kernel, by decide +kernel⟩, by decide +kernel, by decide, by decide +kernel⟩
theorem mw_X2_isBetween : MWb yX2_isBetween cX2_isBetween 3 (some .boolean) 3 := ⟨tb (List.mem_of_getElem? (i := 180) (by decide +kernel)), tb (List.mem_of_getElem? (i := 1) (by decide +kernel)), ⟨by decide +kernel, by decide +kernel⟩, by decide +kernel, by decide, by decide +kernel⟩
theorem mw_X2_isHolder : MWb yX2_isHolder cX2_isHolder 1 (some .boolean) 1 := ⟨tb (List.mem_of_getElem? (i := 290) (by decide +kernel)), tb (List.mem_of_getElem? (i := 1) (by decide +kernel)), ⟨by decide +kernel, by decide +kernel⟩, by decide +kernel, by decide, by decide +kernel⟩
theorem mw_X2_isMetric : MWb yX2_isMetric cX2_isMetric 1 (some .boolean) 1 := ⟨tb (List.mem_of_getElem? (i := 430) (by decide +kernel)), tb (List.mem_of_getElem? (i := 1) (by decide +kernel)), ⟨by decide +kernel, by decide +kernel⟩, by decide +kernel, by decide, by decide +kernel⟩
theorem mw_X2_isPool : MWb yX2_isPool cX2_isPool 1 (some .boolean) 1 := ⟨tb (List.mem_of_getElem? (i := 293) (by decide +kernel)), tb (List.mem_of_getElem? (i := 1) (by decide +kernel)), ⟨by decide +kernel, by decide +kernel⟩, by decide +kernel, by decide, by decide +kernel⟩
theorem mw_X2_isRelease : MWb yX2_isRelease cX2_isRelease 2 (some .boolean) 2 := ⟨tb (List.mem_of_getElem? (i := 287) (by decide +kernel)), tb (List.mem_of_getElem? (i := 1) (by decide +kernel)), ⟨by decide +kernel, by decide +kernel⟩, by decide +kernel, by decide, by decide +kernel⟩
theorem mw_X2_isThere : MWb yX2_isThere cX2_isThere 2 (some .boolean) 1 := ⟨tb (List.mem_of_getElem? (i := 177) (by decide +kernel)), tb (List.mem_of_getElem? (i := 1) (by decide +kernel)), ⟨by decide +kernel, by decide +kernel⟩, by decide +kernel, by decide, by decide +kernel⟩
theorem mw_X2_keepAsBest : MWb yX2_keepAsBest cX2_keepAsBest 2 none 1 := ⟨tb (List.mem_of_getElem? (i := 219) (by decide +kernel)), tb (List.mem_of_getElem? (i := 1) (by decide +kernel)), ⟨by decide +kernel, by decide +kernel⟩, by decide +kernel, by decide, by decide +kernel⟩
theorem mw_X2_moveTo : MWb yX2_moveTo cX2_moveTo 6 (some .int) 3 := ⟨tb (List.mem_of_getElem? (i := 419) (by decide +kernel)), tb (List.mem_of_getElem? (i := 1) (by decide +kernel)), ⟨by decide +kernel, by decide +kernel⟩, by decide +kernel, by decide, by decide +kernel⟩
theorem mw_X2_purchase : MWb yX2_purchase cX2_purchase 1 (some .int) 0 := ⟨tb (List.mem_of_getElem? (i := 553) (by decide +kernel)), tb (List.mem_of_getElem? (i := 1) (by decide +kernel)), ⟨by decide +kernel, by decide +kernel⟩, by decide +kernel, by decide, by decide +kernel⟩
theorem mw_X2_purchaseByTrying : MWb yX2_purchaseByTrying cX2_purchaseByTrying 1 (some .int) 0 := ⟨tb (List.mem_of_getElem? (i := 1279) (by decide +kernel)), tb (List.mem_of_getElem? (i := 1) (by decide +kernel)), ⟨by decide +kernel, by decide +kernel⟩, by decide +kernel, by decide, by decide +kernel⟩
theorem mw_X2_reason : MWb yX2_reason cX2_reason 2 (some .char) 1 := ⟨tb (List.mem_of_getElem? (i := 534) (by decide +kernel)), tb (List.mem_of_getElem? (i := 1) (by decide +kernel)), ⟨by decide +kernel, by decide +kernel⟩, by decide +kernel, by decide, by decide +kernel⟩
theorem mw_X2_retire : MWb yX2_retire cX2_retire 2 (some .int) 1 := ⟨tb (List.mem_of_getElem? (i := 391) (by decide +kernel)), tb (List.mem_of_getElem? (i := 1) (by decide +kernel)), ⟨by decide +kernel, by decide +kernel⟩, by decide +kernel, by decide, by decide +kernel⟩
theorem mw_X2_searchCover : MWb yX2_searchCover cX2_searchCover 4 none 3 := ⟨tb (List.mem_of_getElem? (i := 215) (by decide +kernel)), tb (List.mem_of_getElem? (i := 1) (by decide +kernel)), ⟨by decide +kernel, by decide +kernel⟩, by decide +kernel, by decide, by decide +kernel⟩
theorem mw_X2_searchPurchase : MWb yX2_searchPurchase cX2_searchPurchase 6 none 3 := ⟨tb (List.mem_of_getElem? (i := 566) (by decide +kernel)), tb (List.mem_of_getElem? (i := 1) (by decide +kernel)), ⟨by decide +kernel, by decide +kernel⟩, by decide +kernel, by decide, by decide +kernel⟩
theorem mw_X2_serveByBest : MWb yX2_serveByBest cX2_serveByBest 2 none 0 := ⟨tb (List.mem_of_getElem? (i := 546) (by decide +kernel)), tb (List.mem_of_getElem? (i := 1) (by decide +kernel)), ⟨by decide +kernel, by decide +kernel⟩, by decide +kernel, by decide, by decide +kernel⟩
theorem mw_X2_setMinimum : MWb yX2_setMinimum cX2_setMinimum 5 (some .int) 2 := ⟨tb (List.mem_of_getElem? (i := 460) (by decide +kernel)), tb (List.mem_of_getElem? (i := 1) (by decide +kernel)), ⟨by decide +kernel, by decide +kernel⟩, by decide +kernel, by decide, by decide +kernel⟩
theorem mw_X2_setPool : MWb yX2_setPool cX2_setPool 5 (some .int) 2 := ⟨tb (List.mem_of_getElem? (i := 605) (by decide +kernel)), tb (List.mem_of_getElem? (i := 1) (by decide +kernel)), ⟨by decide +kernel, by decide +kernel⟩, by decide +kernel, by decide, by decide +kernel⟩
theorem mw_X2_setPrice : MWb yX2_setPrice cX2_setPrice 5 (some .int) 2 := ⟨tb (List.mem_of_getElem? (i := 654) (by decide +kernel)), tb (List.mem_of_getElem? (i := 1) (by decide +kernel)), ⟨by decide +kernel, by decide +kernel⟩, by decide +kernel, by decide, by decide +kernel⟩
theorem mw_X2_setRights : MWb yX2_setRights cX2_setRights 7 (some .int) 4 := ⟨tb (List.mem_of_getElem? (i := 443) (by decide +kernel)), tb (List.mem_of_getElem? (i := 1) (by decide +kernel)), ⟨by decide +kernel, by decide +kernel⟩, by decide +kernel, by decide, by decide +kernel⟩
theorem mw_X2_setVersion : MWb yX2_setVersion cX2_setVersion 6 (some .int) 3 := ⟨tb (List.mem_of_getElem? (i := 597) (by decide +kernel)), tb (List.mem_of_getElem? (i := 1) (by decide +kernel)), ⟨by decide +kernel, by decide +kernel⟩, by decide +kernel, by decide, by decide +kernel⟩
theorem mw_X2_spare : MWb yX2_spare cX2_spare 3 (some .int) 1 := ⟨tb (List.mem_of_getElem? (i := 1249) (by decide +kernel)), tb (List.mem_of_getElem? (i := 1) (by decide +kernel)), ⟨by decide +kernel, by decide +kernel⟩, by decide +kernel, by decide, by decide +kernel⟩
theorem mw_X2_spent : MWb yX2_spent cX2_spent 1 (some .long) 0 := ⟨tb (List.mem_of_getElem? (i := 807) (by decide +kernel)), tb (List.mem_of_getElem? (i := 1) (by decide +kernel)), ⟨by decide +kernel, by decide +kernel⟩, by decide +kernel, by decide, by decide +kernel⟩
theorem mw_X2_sumOfMissing : MWb yX2_sumOfMissing cX2_sumOfMissing 3 (some .int) 0 := ⟨tb (List.mem_of_getElem? (i := 1286) (by decide +kernel)), tb (List.mem_of_getElem? (i := 1) (by decide +kernel)), ⟨by decide +kernel, by decide +kernel⟩, by decide +kernel, by decide, by decide +kernel⟩
theorem mw_X2_takeBack : MWb yX2_takeBack cX2_takeBack 3 none 2 := ⟨tb (List.mem_of_getElem? (i := 250) (by decide +kernel)), tb (List.mem_of_getElem? (i := 1) (by decide +kernel)), ⟨by decide +kernel, by decide +kernel⟩, by decide +kernel, by decide, by decide +kernel⟩
theorem mw_X2_toBuy : MWb yX2_toBuy cX2_toBuy 3 (some .int) 1 := ⟨tb (List.mem_of_getElem? (i := 1162) (by decide +kernel)), tb (List.mem_of_getElem? (i := 1) (by decide +kernel)), ⟨by decide +kernel, by decide +kernel⟩, by decide +kernel, by decide, by decide +kernel⟩
theorem mw_X2_trueUp : MWb yX2_trueUp cX2_trueUp 3 (some .int) 0 := ⟨tb (List.mem_of_getElem? (i := 578) (by decide +kernel)), tb (List.mem_of_getElem? (i := 1) (by decide +kernel)), ⟨by decide +kernel, by decide +kernel⟩, by decide +kernel, by decide, by decide +kernel⟩
theorem mw_X2_tryCovers : MWb yX2_tryCovers cX2_tryCovers 3 none 2 := ⟨tb (List.mem_of_getElem? (i := 1261) (by decide +kernel)), tb (List.mem_of_getElem? (i := 1) (by decide +kernel)), ⟨by decide +kernel, by decide +kernel⟩, by decide +kernel, by decide, by decide +kernel⟩
theorem mw_X2_tryPurchases : MWb yX2_tryPurchases cX2_tryPurchases 3 none 2 := ⟨tb (List.mem_of_getElem? (i := 1282) (by decide +kernel)), tb (List.mem_of_getElem? (i := 1) (by decide +kernel)), ⟨by decide +kernel, by decide +kernel⟩, by decide +kernel, by decide, by decide +kernel⟩
theorem mw_X2_units : MWb yX2_units cX2_units 2 (some .int) 1 := ⟨tb (List.mem_of_getElem? (i := 484) (by decide +kernel)), tb (List.mem_of_getElem? (i := 1) (by decide +kernel)), ⟨by decide +kernel, by decide +kernel⟩, by decide +kernel, by decide, by decide +kernel⟩
theorem mw_X2_unitsForAll : MWb yX2_unitsForAll cX2_unitsForAll 4 (some .int) 1 := ⟨tb (List.mem_of_getElem? (i := 1155) (by decide +kernel)), tb (List.mem_of_getElem? (i := 1) (by decide +kernel)), ⟨by decide +kernel, by decide +kernel⟩, by decide +kernel, by decide, by decide +kernel⟩
theorem mw_X2_used : MWb yX2_used cX2_used 3 (some .int) 1 := ⟨tb (List.mem_of_getElem? (i := 542) (by decide +kernel)), tb (List.mem_of_getElem? (i := 1) (by decide +kernel)), ⟨by decide +kernel, by decide +kernel⟩, by decide +kernel, by decide, by decide +kernel⟩
theorem mw_X2_why : MWb yX2_why cX2_why 4 (some .char) 2 := ⟨tb (List.mem_of_getElem? (i := 491) (by decide +kernel)), tb (List.mem_of_getElem? (i := 1) (by decide +kernel)), ⟨by decide +kernel, by decide +kernel⟩, by decide +kernel, by decide, by decide +kernel⟩
theorem mw_X3_init : MWb yX3_init cX3_init 2 none 1 := ⟨tb (List.mem_of_getElem? (i := 259) (by decide +kernel)), tb (List.mem_of_getElem? (i := 14) (by decide +kernel)), ⟨by decide +kernel, by decide +kernel⟩, by decide +kernel, by decide, by decide +kernel⟩
theorem mw_X3_next : MWb yX3_next cX3_next 2 (some .int) 1 := ⟨tb (List.mem_of_getElem? (i := 269) (by decide +kernel)), tb (List.mem_of_getElem? (i := 14) (by decide +kernel)), ⟨by decide +kernel, by decide +kernel⟩, by decide +kernel, by decide, by decide +kernel⟩
theorem mi_J0_charAt_5068e : MWi yJ0_charAt_5068e RJ0 := ⟨tb (List.mem_of_getElem? (i := 609) (by decide +kernel)), tb (List.mem_of_getElem? (i := 610) (by decide +kernel))⟩
theorem mi_J0_checkIndex_df160 : Cond.static yJ0_checkIndex_df160 ∈ lw_tb2 := tb (List.mem_of_getElem? (i := 622) (by decide +kernel))
theorem mi_J0_coder_7d493 : MWi yJ0_coder_7d493 RJ0 := ⟨tb (List.mem_of_getElem? (i := 1033) (by decide +kernel)), tb (List.mem_of_getElem? (i := 1034) (by decide +kernel))⟩
theorem mi_J0_equals_9ea2d : MWi yJ0_equals_9ea2d RJ0 := ⟨tb (List.mem_of_getElem? (i := 1288) (by decide +kernel)), tb (List.mem_of_getElem? (i := 1289) (by decide +kernel))⟩
theorem mi_J0_getBytes_840e7 : MWi yJ0_getBytes_840e7 RJ0 := ⟨tb (List.mem_of_getElem? (i := 1046) (by decide +kernel)), tb (List.mem_of_getElem? (i := 1047) (by decide +kernel))⟩
theorem mi_J0_init_81219 : Cond.instanceMethod yJ0_init_81219 ∈ lw_tb2 := tb (List.mem_of_getElem? (i := 1180) (by decide +kernel))
theorem mi_J0_init_db425 : Cond.instanceMethod yJ0_init_db425 ∈ lw_tb2 := tb (List.mem_of_getElem? (i := 1183) (by decide +kernel))
theorem mi_J0_isLatin1_aae02 : MWi yJ0_isLatin1_aae02 RJ0 := ⟨tb (List.mem_of_getElem? (i := 613) (by decide +kernel)), tb (List.mem_of_getElem? (i := 614) (by decide +kernel))⟩
theorem mi_J0_length_8abf5 : MWi yJ0_length_8abf5 RJ0 := ⟨tb (List.mem_of_getElem? (i := 1029) (by decide +kernel)), tb (List.mem_of_getElem? (i := 1030) (by decide +kernel))⟩
theorem mi_J13_getChars_11360 : Cond.static yJ13_getChars_11360 ∈ lw_tb2 := tb (List.mem_of_getElem? (i := 821) (by decide +kernel))
theorem mi_J13_stringSize_95d88 : Cond.static yJ13_stringSize_95d88 ∈ lw_tb2 := tb (List.mem_of_getElem? (i := 816) (by decide +kernel))
theorem mi_J1_canEncode_fc78d : Cond.static yJ1_canEncode_fc78d ∈ lw_tb2 := tb (List.mem_of_getElem? (i := 780) (by decide +kernel))
theorem mi_J1_charAt_3b067 : Cond.static yJ1_charAt_3b067 ∈ lw_tb2 := tb (List.mem_of_getElem? (i := 619) (by decide +kernel))
theorem mi_J1_equals_b5fdf : Cond.static yJ1_equals_b5fdf ∈ lw_tb2 := tb (List.mem_of_getElem? (i := 1293) (by decide +kernel))
theorem mi_J3_checkIndex_8e157 : Cond.static yJ3_checkIndex_8e157 ∈ lw_tb2 := tb (List.mem_of_getElem? (i := 627) (by decide +kernel))
theorem mi_J4_append_15ec4 : MWi yJ4_append_15ec4 RJ4 := ⟨tb (List.mem_of_getElem? (i := 1023) (by decide +kernel)), tb (List.mem_of_getElem? (i := 1024) (by decide +kernel))⟩
theorem mi_J4_append_1fab5 : MWi yJ4_append_1fab5 RJ4 := ⟨tb (List.mem_of_getElem? (i := 1002) (by decide +kernel)), tb (List.mem_of_getElem? (i := 1003) (by decide +kernel))⟩
theorem mi_J4_append_37e8c : MWi yJ4_append_37e8c RJ4 := ⟨tb (List.mem_of_getElem? (i := 957) (by decide +kernel)), tb (List.mem_of_getElem? (i := 958) (by decide +kernel))⟩
theorem mi_J4_append_9d4c8 : MWi yJ4_append_9d4c8 RJ4 := ⟨tb (List.mem_of_getElem? (i := 836) (by decide +kernel)), tb (List.mem_of_getElem? (i := 837) (by decide +kernel))⟩
theorem mi_J4_append_9f485 : MWi yJ4_append_9f485 RJ4 := ⟨tb (List.mem_of_getElem? (i := 1164) (by decide +kernel)), tb (List.mem_of_getElem? (i := 1165) (by decide +kernel))⟩
theorem mi_J4_append_bf812 : MWi yJ4_append_bf812 RJ4 := ⟨tb (List.mem_of_getElem? (i := 700) (by decide +kernel)), tb (List.mem_of_getElem? (i := 701) (by decide +kernel))⟩
theorem mi_J4_append_cf468 : MWi yJ4_append_cf468 RJ4 := ⟨tb (List.mem_of_getElem? (i := 773) (by decide +kernel)), tb (List.mem_of_getElem? (i := 774) (by decide +kernel))⟩
theorem mi_J4_append_f7089 : MWi yJ4_append_f7089 RJ4 := ⟨tb (List.mem_of_getElem? (i := 809) (by decide +kernel)), tb (List.mem_of_getElem? (i := 810) (by decide +kernel))⟩
theorem mi_J4_init_da8c8 : Cond.instanceMethod yJ4_init_da8c8 ∈ lw_tb2 := tb (List.mem_of_getElem? (i := 671) (by decide +kernel))
theorem mi_J4_toString_0e30d : MWi yJ4_toString_0e30d RJ4 := ⟨tb (List.mem_of_getElem? (i := 1174) (by decide +kernel)), tb (List.mem_of_getElem? (i := 1175) (by decide +kernel))⟩
theorem mi_J5_appendChars_0ad70 : MWi yJ5_appendChars_0ad70 RJ4 := ⟨tb (List.mem_of_getElem? (i := 965) (by decide +kernel)), tx (List.mem_of_getElem? (i := 2) (by decide +kernel))⟩
theorem mi_J5_ensureCapacityInternal_d00df : MWi yJ5_ensureCapacityInternal_d00df RJ4 := ⟨tb (List.mem_of_getElem? (i := 711) (by decide +kernel)), tx (List.mem_of_getElem? (i := 0) (by decide +kernel))⟩
theorem mi_J5_getValue_6d5f1 : MWi yJ5_getValue_6d5f1 RJ4 := ⟨tb (List.mem_of_getElem? (i := 1187) (by decide +kernel)), tb (List.mem_of_getElem? (i := 1189) (by decide +kernel))⟩
theorem mi_J5_inflateIfNeededFor_a7421 : MWi yJ5_inflateIfNeededFor_a7421 RJ4 := ⟨tb (List.mem_of_getElem? (i := 1042) (by decide +kernel)), tx (List.mem_of_getElem? (i := 4) (by decide +kernel))⟩
theorem mi_J5_init_d00df : Cond.instanceMethod yJ5_init_d00df ∈ lw_tb2 := tb (List.mem_of_getElem? (i := 674) (by decide +kernel))
theorem mi_J5_isLatin1_aae02 : MWi yJ5_isLatin1_aae02 RJ4 := ⟨tb (List.mem_of_getElem? (i := 741) (by decide +kernel)), tb (List.mem_of_getElem? (i := 743) (by decide +kernel))⟩
theorem mi_J5_newCapacity_0f7a4 : MWi yJ5_newCapacity_0f7a4 RJ4 := ⟨tb (List.mem_of_getElem? (i := 715) (by decide +kernel)), tx (List.mem_of_getElem? (i := 1) (by decide +kernel))⟩
theorem mi_J5_putStringAt_47b60 : MWi yJ5_putStringAt_47b60 RJ4 := ⟨tb (List.mem_of_getElem? (i := 1038) (by decide +kernel)), tx (List.mem_of_getElem? (i := 3) (by decide +kernel))⟩
theorem mi_J6_getChars_ba4f3 : Cond.static yJ6_getChars_ba4f3 ∈ lw_tb2 := tb (List.mem_of_getElem? (i := 746) (by decide +kernel))
theorem mi_J6_numberOfLeadingZeros_0f7a4 : Cond.static yJ6_numberOfLeadingZeros_0f7a4 ∈ lw_tb2 := tb (List.mem_of_getElem? (i := 880) (by decide +kernel))
theorem mi_J6_stringSize_0f7a4 : Cond.static yJ6_stringSize_0f7a4 ∈ lw_tb2 := tb (List.mem_of_getElem? (i := 707) (by decide +kernel))
theorem mi_J7_checkLength_df160 : Cond.static yJ7_checkLength_df160 ∈ lw_tb2 := tb (List.mem_of_getElem? (i := 1200) (by decide +kernel))
theorem mi_J7_copyOfRangeByte_39247 : Cond.static yJ7_copyOfRangeByte_39247 ∈ lw_tb2 := tb (List.mem_of_getElem? (i := 1197) (by decide +kernel))
theorem mi_J7_copyOfRange_39247 : Cond.static yJ7_copyOfRange_39247 ∈ lw_tb2 := tb (List.mem_of_getElem? (i := 1194) (by decide +kernel))
theorem mi_J7_copyOf_9075b : Cond.static yJ7_copyOf_9075b ∈ lw_tb2 := tb (List.mem_of_getElem? (i := 727) (by decide +kernel))
theorem mi_J8_newLength_cabcc : Cond.static yJ8_newLength_cabcc ∈ lw_tb2 := tb (List.mem_of_getElem? (i := 718) (by decide +kernel))
theorem mi_J9_multiplyHigh_f86c9 : Cond.static yJ9_multiplyHigh_f86c9 ∈ lw_tb2 := tb (List.mem_of_getElem? (i := 908) (by decide +kernel))
theorem mi_Jx25f51_flog10pow2_0f7a4 : Cond.static yJx25f51_flog10pow2_0f7a4 ∈ lw_tb2 := tb (List.mem_of_getElem? (i := 884) (by decide +kernel))
theorem mi_Jx25f51_flog10threeQuartersPow2_0f7a4 : Cond.static yJx25f51_flog10threeQuartersPow2_0f7a4 ∈ lw_tb2 := tb (List.mem_of_getElem? (i := 938) (by decide +kernel))
theorem mi_Jx25f51_flog2pow10_0f7a4 : Cond.static yJx25f51_flog2pow10_0f7a4 ∈ lw_tb2 := tb (List.mem_of_getElem? (i := 942) (by decide +kernel))
theorem mi_Jx25f51_g1_3e8ac : Cond.static yJx25f51_g1_3e8ac ∈ lw_tb2 := tb (List.mem_of_getElem? (i := 946) (by decide +kernel))
theorem mi_Jx25f51_pow10_3e8ac : Cond.static yJx25f51_pow10_3e8ac ∈ lw_tb2 := tb (List.mem_of_getElem? (i := 888) (by decide +kernel))
theorem mi_Jx40b00_append8Digits_d00df : MWi yJx40b00_append8Digits_d00df RJx40b00 := ⟨tb (List.mem_of_getElem? (i := 922) (by decide +kernel)), tp (List.mem_of_getElem? (i := 35) (by decide +kernel))⟩
theorem mi_Jx40b00_appendDecimalTo_8d9f2 : MWi yJx40b00_appendDecimalTo_8d9f2 RJx40b00 := ⟨tb (List.mem_of_getElem? (i := 860) (by decide +kernel)), tp (List.mem_of_getElem? (i := 26) (by decide +kernel))⟩
theorem mi_Jx40b00_appendDigit_d00df : MWi yJx40b00_appendDigit_d00df RJx40b00 := ⟨tb (List.mem_of_getElem? (i := 900) (by decide +kernel)), tp (List.mem_of_getElem? (i := 31) (by decide +kernel))⟩
theorem mi_Jx40b00_appendTo_8d9f2 : Cond.static yJx40b00_appendTo_8d9f2 ∈ lw_tb2 := tb (List.mem_of_getElem? (i := 843) (by decide +kernel))
theorem mi_Jx40b00_append_d00df : MWi yJx40b00_append_d00df RJx40b00 := ⟨tb (List.mem_of_getElem? (i := 872) (by decide +kernel)), tp (List.mem_of_getElem? (i := 28) (by decide +kernel))⟩
theorem mi_Jx40b00_exponent_d00df : MWi yJx40b00_exponent_d00df RJx40b00 := ⟨tb (List.mem_of_getElem? (i := 930) (by decide +kernel)), tp (List.mem_of_getElem? (i := 37) (by decide +kernel))⟩
theorem mi_Jx40b00_init_da8c8 : Cond.instanceMethod yJx40b00_init_da8c8 ∈ lw_tb2 := tb (List.mem_of_getElem? (i := 848) (by decide +kernel))
theorem mi_Jx40b00_removeTrailingZeroes_da8c8 : MWi yJx40b00_removeTrailingZeroes_da8c8 RJx40b00 := ⟨tb (List.mem_of_getElem? (i := 914) (by decide +kernel)), tp (List.mem_of_getElem? (i := 33) (by decide +kernel))⟩
theorem mi_Jx40b00_rop_74951 : Cond.static yJx40b00_rop_74951 ∈ lw_tb2 := tb (List.mem_of_getElem? (i := 951) (by decide +kernel))
theorem mi_Jx40b00_toChars1_cabcc : MWi yJx40b00_toChars1_cabcc RJx40b00 := ⟨tb (List.mem_of_getElem? (i := 896) (by decide +kernel)), tp (List.mem_of_getElem? (i := 30) (by decide +kernel))⟩
theorem mi_Jx40b00_toChars2_cabcc : MWi yJx40b00_toChars2_cabcc RJx40b00 := ⟨tb (List.mem_of_getElem? (i := 918) (by decide +kernel)), tp (List.mem_of_getElem? (i := 34) (by decide +kernel))⟩
theorem mi_Jx40b00_toChars3_cabcc : MWi yJx40b00_toChars3_cabcc RJx40b00 := ⟨tb (List.mem_of_getElem? (i := 926) (by decide +kernel)), tp (List.mem_of_getElem? (i := 36) (by decide +kernel))⟩
theorem mi_Jx40b00_toChars_7cf53 : MWi yJx40b00_toChars_7cf53 RJx40b00 := ⟨tb (List.mem_of_getElem? (i := 877) (by decide +kernel)), tp (List.mem_of_getElem? (i := 29) (by decide +kernel))⟩
theorem mi_Jx40b00_toDecimal_5c35a : MWi yJx40b00_toDecimal_5c35a RJx40b00 := ⟨tb (List.mem_of_getElem? (i := 864) (by decide +kernel)), tp (List.mem_of_getElem? (i := 27) (by decide +kernel))⟩
theorem mi_Jx40b00_toDecimal_cabcc : MWi yJx40b00_toDecimal_cabcc RJx40b00 := ⟨tb (List.mem_of_getElem? (i := 934) (by decide +kernel)), tp (List.mem_of_getElem? (i := 38) (by decide +kernel))⟩
theorem mi_Jx40b00_y_0f7a4 : MWi yJx40b00_y_0f7a4 RJx40b00 := ⟨tb (List.mem_of_getElem? (i := 904) (by decide +kernel)), tp (List.mem_of_getElem? (i := 32) (by decide +kernel))⟩
theorem mi_L_acts : Cond.static yL_acts ∈ lw_tb2 := tb (List.mem_of_getElem? (i := 589) (by decide +kernel))
theorem mi_L_buying : Cond.static yL_buying ∈ lw_tb2 := tb (List.mem_of_getElem? (i := 1271) (by decide +kernel))
theorem mi_L_cell : Cond.static yL_cell ∈ lw_tb2 := tb (List.mem_of_getElem? (i := 273) (by decide +kernel))
theorem mi_L_covering : Cond.static yL_covering ∈ lw_tb2 := tb (List.mem_of_getElem? (i := 1233) (by decide +kernel))
theorem mi_L_told : Cond.static yL_told ∈ lw_tb2 := tb (List.mem_of_getElem? (i := 666) (by decide +kernel))
theorem mi_X0_changeNeed : MWi yX0_changeNeed RX0 := ⟨tb (List.mem_of_getElem? (i := 233) (by decide +kernel)), tp (List.mem_of_getElem? (i := 10) (by decide +kernel))⟩
theorem mi_X0_clearNeed : MWi yX0_clearNeed RX0 := ⟨tb (List.mem_of_getElem? (i := 199) (by decide +kernel)), tp (List.mem_of_getElem? (i := 3) (by decide +kernel))⟩
theorem mi_X0_countRights : MWi yX0_countRights RX0 := ⟨tb (List.mem_of_getElem? (i := 451) (by decide +kernel)), tp (List.mem_of_getElem? (i := 20) (by decide +kernel))⟩
theorem mi_X0_fill : MWi yX0_fill RX0 := ⟨tb (List.mem_of_getElem? (i := 435) (by decide +kernel)), tp (List.mem_of_getElem? (i := 18) (by decide +kernel))⟩
theorem mi_X0_fits : MWi yX0_fits RX0 := ⟨tb (List.mem_of_getElem? (i := 207) (by decide +kernel)), tp (List.mem_of_getElem? (i := 5) (by decide +kernel))⟩
theorem mi_X0_init : Cond.instanceMethod yX0_init ∈ lw_tb2 := tb (List.mem_of_getElem? (i := 87) (by decide +kernel))
theorem mi_X0_misfit : MWi yX0_misfit RX0 := ⟨tb (List.mem_of_getElem? (i := 211) (by decide +kernel)), tp (List.mem_of_getElem? (i := 6) (by decide +kernel))⟩
theorem mi_X0_missing : MWi yX0_missing RX0 := ⟨tb (List.mem_of_getElem? (i := 245) (by decide +kernel)), tp (List.mem_of_getElem? (i := 12) (by decide +kernel))⟩
theorem mi_X0_missingPrice : MWi yX0_missingPrice RX0 := ⟨tb (List.mem_of_getElem? (i := 569) (by decide +kernel)), tp (List.mem_of_getElem? (i := 25) (by decide +kernel))⟩
theorem mi_X0_release : MWi yX0_release RX0 := ⟨tb (List.mem_of_getElem? (i := 253) (by decide +kernel)), tp (List.mem_of_getElem? (i := 14) (by decide +kernel))⟩
theorem mi_X0_serve : MWi yX0_serve RX0 := ⟨tb (List.mem_of_getElem? (i := 229) (by decide +kernel)), tp (List.mem_of_getElem? (i := 9) (by decide +kernel))⟩
theorem mi_X0_unitsOfHolder : MWi yX0_unitsOfHolder RX0 := ⟨tb (List.mem_of_getElem? (i := 241) (by decide +kernel)), tp (List.mem_of_getElem? (i := 11) (by decide +kernel))⟩
theorem mi_X1_fill : MWi yX1_fill RX1 := ⟨tb (List.mem_of_getElem? (i := 382) (by decide +kernel)), tp (List.mem_of_getElem? (i := 16) (by decide +kernel))⟩
theorem mi_X1_init : Cond.instanceMethod yX1_init ∈ lw_tb2 := tb (List.mem_of_getElem? (i := 41) (by decide +kernel))
theorem mi_X2_addUnits : MWi yX2_addUnits RX2 := ⟨tb (List.mem_of_getElem? (i := 660) (by decide +kernel)), tb (List.mem_of_getElem? (i := 661) (by decide +kernel))⟩
theorem mi_X2_checkAllCanBeCovered : MWi yX2_checkAllCanBeCovered RX2 := ⟨tb (List.mem_of_getElem? (i := 556) (by decide +kernel)), tp (List.mem_of_getElem? (i := 23) (by decide +kernel))⟩
theorem mi_X2_clearNeeds : MWi yX2_clearNeeds RX2 := ⟨tb (List.mem_of_getElem? (i := 195) (by decide +kernel)), tp (List.mem_of_getElem? (i := 2) (by decide +kernel))⟩
theorem mi_X2_clearSearch : MWi yX2_clearSearch RX2 := ⟨tb (List.mem_of_getElem? (i := 191) (by decide +kernel)), tp (List.mem_of_getElem? (i := 1) (by decide +kernel))⟩
theorem mi_X2_countFitting : MWi yX2_countFitting RX2 := ⟨tb (List.mem_of_getElem? (i := 203) (by decide +kernel)), tp (List.mem_of_getElem? (i := 4) (by decide +kernel))⟩
theorem mi_X2_countGiven : MWi yX2_countGiven RX2 := ⟨tb (List.mem_of_getElem? (i := 1264) (by decide +kernel)), tp (List.mem_of_getElem? (i := 39) (by decide +kernel))⟩
theorem mi_X2_coverage : MWi yX2_coverage RX2 := ⟨tb (List.mem_of_getElem? (i := 583) (by decide +kernel)), tb (List.mem_of_getElem? (i := 584) (by decide +kernel))⟩
theorem mi_X2_covered : MWi yX2_covered RX2 := ⟨tb (List.mem_of_getElem? (i := 182) (by decide +kernel)), tb (List.mem_of_getElem? (i := 183) (by decide +kernel))⟩
theorem mi_X2_coveredByTrying : MWi yX2_coveredByTrying RX2 := ⟨tb (List.mem_of_getElem? (i := 1255) (by decide +kernel)), tb (List.mem_of_getElem? (i := 1256) (by decide +kernel))⟩
theorem mi_X2_entitle : MWi yX2_entitle RX2 := ⟨tb (List.mem_of_getElem? (i := 425) (by decide +kernel)), tb (List.mem_of_getElem? (i := 426) (by decide +kernel))⟩
theorem mi_X2_entitlementAt : MWi yX2_entitlementAt RX2 := ⟨tb (List.mem_of_getElem? (i := 446) (by decide +kernel)), tp (List.mem_of_getElem? (i := 19) (by decide +kernel))⟩
theorem mi_X2_entitlementByCover : MWi yX2_entitlementByCover RX2 := ⟨tb (List.mem_of_getElem? (i := 510) (by decide +kernel)), tp (List.mem_of_getElem? (i := 21) (by decide +kernel))⟩
theorem mi_X2_entitlementOf : MWi yX2_entitlementOf RX2 := ⟨tb (List.mem_of_getElem? (i := 505) (by decide +kernel)), tb (List.mem_of_getElem? (i := 506) (by decide +kernel))⟩
theorem mi_X2_findCover : MWi yX2_findCover RX2 := ⟨tb (List.mem_of_getElem? (i := 187) (by decide +kernel)), tp (List.mem_of_getElem? (i := 0) (by decide +kernel))⟩
theorem mi_X2_findPurchase : MWi yX2_findPurchase RX2 := ⟨tb (List.mem_of_getElem? (i := 561) (by decide +kernel)), tp (List.mem_of_getElem? (i := 24) (by decide +kernel))⟩
theorem mi_X2_firstFitting : MWi yX2_firstFitting RX2 := ⟨tb (List.mem_of_getElem? (i := 1239) (by decide +kernel)), tb (List.mem_of_getElem? (i := 1240) (by decide +kernel))⟩
theorem mi_X2_fitting : MWi yX2_fitting RX2 := ⟨tb (List.mem_of_getElem? (i := 497) (by decide +kernel)), tb (List.mem_of_getElem? (i := 498) (by decide +kernel))⟩
theorem mi_X2_give : MWi yX2_give RX2 := ⟨tb (List.mem_of_getElem? (i := 225) (by decide +kernel)), tp (List.mem_of_getElem? (i := 8) (by decide +kernel))⟩
theorem mi_X2_init : Cond.instanceMethod yX2_init ∈ lw_tb2 := tb (List.mem_of_getElem? (i := 32) (by decide +kernel))
theorem mi_X2_install : MWi yX2_install RX2 := ⟨tb (List.mem_of_getElem? (i := 282) (by decide +kernel)), tb (List.mem_of_getElem? (i := 283) (by decide +kernel))⟩
theorem mi_X2_installAt : MWi yX2_installAt RX2 := ⟨tb (List.mem_of_getElem? (i := 394) (by decide +kernel)), tp (List.mem_of_getElem? (i := 17) (by decide +kernel))⟩
theorem mi_X2_installs : MWi yX2_installs RX2 := ⟨tb (List.mem_of_getElem? (i := 171) (by decide +kernel)), tb (List.mem_of_getElem? (i := 172) (by decide +kernel))⟩
theorem mi_X2_isAllowed : MWi yX2_isAllowed RX2 := ⟨tb (List.mem_of_getElem? (i := 1268) (by decide +kernel)), tp (List.mem_of_getElem? (i := 40) (by decide +kernel))⟩
theorem mi_X2_isBetween : Cond.static yX2_isBetween ∈ lw_tb2 := tb (List.mem_of_getElem? (i := 179) (by decide +kernel))
theorem mi_X2_isHolder : Cond.static yX2_isHolder ∈ lw_tb2 := tb (List.mem_of_getElem? (i := 289) (by decide +kernel))
theorem mi_X2_isMetric : Cond.static yX2_isMetric ∈ lw_tb2 := tb (List.mem_of_getElem? (i := 429) (by decide +kernel))
theorem mi_X2_isPool : Cond.static yX2_isPool ∈ lw_tb2 := tb (List.mem_of_getElem? (i := 292) (by decide +kernel))
theorem mi_X2_isRelease : Cond.static yX2_isRelease ∈ lw_tb2 := tb (List.mem_of_getElem? (i := 286) (by decide +kernel))
theorem mi_X2_isThere : MWi yX2_isThere RX2 := ⟨tb (List.mem_of_getElem? (i := 175) (by decide +kernel)), tb (List.mem_of_getElem? (i := 176) (by decide +kernel))⟩
theorem mi_X2_keepAsBest : MWi yX2_keepAsBest RX2 := ⟨tb (List.mem_of_getElem? (i := 218) (by decide +kernel)), tp (List.mem_of_getElem? (i := 7) (by decide +kernel))⟩
theorem mi_X2_moveTo : MWi yX2_moveTo RX2 := ⟨tb (List.mem_of_getElem? (i := 417) (by decide +kernel)), tb (List.mem_of_getElem? (i := 418) (by decide +kernel))⟩
theorem mi_X2_purchase : MWi yX2_purchase RX2 := ⟨tb (List.mem_of_getElem? (i := 551) (by decide +kernel)), tb (List.mem_of_getElem? (i := 552) (by decide +kernel))⟩
theorem mi_X2_purchaseByTrying : MWi yX2_purchaseByTrying RX2 := ⟨tb (List.mem_of_getElem? (i := 1277) (by decide +kernel)), tb (List.mem_of_getElem? (i := 1278) (by decide +kernel))⟩
theorem mi_X2_reason : MWi yX2_reason RX2 := ⟨tb (List.mem_of_getElem? (i := 532) (by decide +kernel)), tb (List.mem_of_getElem? (i := 533) (by decide +kernel))⟩
theorem mi_X2_retire : MWi yX2_retire RX2 := ⟨tb (List.mem_of_getElem? (i := 389) (by decide +kernel)), tb (List.mem_of_getElem? (i := 390) (by decide +kernel))⟩
theorem mi_X2_searchCover : Cond.static yX2_searchCover ∈ lw_tb2 := tb (List.mem_of_getElem? (i := 214) (by decide +kernel))
theorem mi_X2_searchPurchase : Cond.static yX2_searchPurchase ∈ lw_tb2 := tb (List.mem_of_getElem? (i := 565) (by decide +kernel))
theorem mi_X2_serveByBest : MWi yX2_serveByBest RX2 := ⟨tb (List.mem_of_getElem? (i := 545) (by decide +kernel)), tp (List.mem_of_getElem? (i := 22) (by decide +kernel))⟩
theorem mi_X2_setMinimum : MWi yX2_setMinimum RX2 := ⟨tb (List.mem_of_getElem? (i := 458) (by decide +kernel)), tb (List.mem_of_getElem? (i := 459) (by decide +kernel))⟩
theorem mi_X2_setPool : MWi yX2_setPool RX2 := ⟨tb (List.mem_of_getElem? (i := 603) (by decide +kernel)), tb (List.mem_of_getElem? (i := 604) (by decide +kernel))⟩
theorem mi_X2_setPrice : MWi yX2_setPrice RX2 := ⟨tb (List.mem_of_getElem? (i := 652) (by decide +kernel)), tb (List.mem_of_getElem? (i := 653) (by decide +kernel))⟩
theorem mi_X2_setRights : MWi yX2_setRights RX2 := ⟨tb (List.mem_of_getElem? (i := 441) (by decide +kernel)), tb (List.mem_of_getElem? (i := 442) (by decide +kernel))⟩
theorem mi_X2_setVersion : MWi yX2_setVersion RX2 := ⟨tb (List.mem_of_getElem? (i := 595) (by decide +kernel)), tb (List.mem_of_getElem? (i := 596) (by decide +kernel))⟩
theorem mi_X2_spare : MWi yX2_spare RX2 := ⟨tb (List.mem_of_getElem? (i := 1247) (by decide +kernel)), tb (List.mem_of_getElem? (i := 1248) (by decide +kernel))⟩
theorem mi_X2_spent : MWi yX2_spent RX2 := ⟨tb (List.mem_of_getElem? (i := 805) (by decide +kernel)), tb (List.mem_of_getElem? (i := 806) (by decide +kernel))⟩
theorem mi_X2_sumOfMissing : MWi yX2_sumOfMissing RX2 := ⟨tb (List.mem_of_getElem? (i := 1285) (by decide +kernel)), tp (List.mem_of_getElem? (i := 41) (by decide +kernel))⟩
theorem mi_X2_takeBack : MWi yX2_takeBack RX2 := ⟨tb (List.mem_of_getElem? (i := 249) (by decide +kernel)), tp (List.mem_of_getElem? (i := 13) (by decide +kernel))⟩
theorem mi_X2_toBuy : MWi yX2_toBuy RX2 := ⟨tb (List.mem_of_getElem? (i := 1160) (by decide +kernel)), tb (List.mem_of_getElem? (i := 1161) (by decide +kernel))⟩
theorem mi_X2_trueUp : MWi yX2_trueUp RX2 := ⟨tb (List.mem_of_getElem? (i := 576) (by decide +kernel)), tb (List.mem_of_getElem? (i := 577) (by decide +kernel))⟩
theorem mi_X2_tryCovers : Cond.static yX2_tryCovers ∈ lw_tb2 := tb (List.mem_of_getElem? (i := 1260) (by decide +kernel))
theorem mi_X2_tryPurchases : Cond.static yX2_tryPurchases ∈ lw_tb2 := tb (List.mem_of_getElem? (i := 1281) (by decide +kernel))
theorem mi_X2_units : MWi yX2_units RX2 := ⟨tb (List.mem_of_getElem? (i := 482) (by decide +kernel)), tb (List.mem_of_getElem? (i := 483) (by decide +kernel))⟩
theorem mi_X2_unitsForAll : MWi yX2_unitsForAll RX2 := ⟨tb (List.mem_of_getElem? (i := 1153) (by decide +kernel)), tb (List.mem_of_getElem? (i := 1154) (by decide +kernel))⟩
theorem mi_X2_used : MWi yX2_used RX2 := ⟨tb (List.mem_of_getElem? (i := 540) (by decide +kernel)), tb (List.mem_of_getElem? (i := 541) (by decide +kernel))⟩
theorem mi_X2_why : MWi yX2_why RX2 := ⟨tb (List.mem_of_getElem? (i := 489) (by decide +kernel)), tb (List.mem_of_getElem? (i := 490) (by decide +kernel))⟩
theorem mi_X3_init : Cond.instanceMethod yX3_init ∈ lw_tb2 := tb (List.mem_of_getElem? (i := 258) (by decide +kernel))
theorem mi_X3_next : MWi yX3_next RX3 := ⟨tb (List.mem_of_getElem? (i := 267) (by decide +kernel)), tb (List.mem_of_getElem? (i := 268) (by decide +kernel))⟩
theorem kl_48 : Cond.classLink "Entitled" 48 "java/lang/IllegalArgumentException" ∈ lw_tb2 := tb (List.mem_of_getElem? (i := 294) (by decide +kernel))
theorem kl_62 : Cond.classLink "Entitled" 62 "java/lang/IllegalStateException" ∈ lw_tb2 := tb (List.mem_of_getElem? (i := 364) (by decide +kernel))
theorem kl_237 : Cond.classLink "Entitled" 237 "java/lang/IndexOutOfBoundsException" ∈ lw_tb2 := tb (List.mem_of_getElem? (i := 397) (by decide +kernel))
theorem kl_137 : Cond.classLink "Entitled" 137 "java/lang/UnsupportedOperationException" ∈ lw_tb2 := tb (List.mem_of_getElem? (i := 462) (by decide +kernel))
theorem kl_169 : Cond.classLink "Entitled" 169 "java/util/NoSuchElementException" ∈ lw_tb2 := tb (List.mem_of_getElem? (i := 512) (by decide +kernel))
theorem kc_X3_7 : Cond.constant RX3 7 (48271) ∈ lw_tb2 := tb (List.mem_of_getElem? (i := 261) (by decide +kernel))
theorem kc_X3_14 : Cond.constant RX3 14 (1103515245) ∈ lw_tb2 := tb (List.mem_of_getElem? (i := 270) (by decide +kernel))
theorem kc_L_7 : Cond.constant RL 7 (65535) ∈ lw_tb2 := tb (List.mem_of_getElem? (i := 275) (by decide +kernel))
theorem kc_X2_221 : Cond.constant RX2 221 (1000000) ∈ lw_tb2 := tb (List.mem_of_getElem? (i := 563) (by decide +kernel))
theorem kcf_L_105 : Cond.constantFloat RL 105 (3212836864) ∈ lw_tb2 := tb (List.mem_of_getElem? (i := 587) (by decide +kernel))
theorem kc_J8_200 : Cond.constant RJ8 200 (2147483639) ∈ lw_tb2 := tb (List.mem_of_getElem? (i := 721) (by decide +kernel))
theorem kc_J5_39 : Cond.constant RJ5 39 (2147483647) ∈ lw_tb2 := tb (List.mem_of_getElem? (i := 725) (by decide +kernel))
theorem kcl_J13_140 : Cond.constantLong RJ13 140 (-10) ∈ lw_tb2 := tb (List.mem_of_getElem? (i := 818) (by decide +kernel))
theorem kcl_J13_53 : Cond.constantLong RJ13 53 (10) ∈ lw_tb2 := tb (List.mem_of_getElem? (i := 819) (by decide +kernel))
theorem kcl_J13_129 : Cond.constantLong RJ13 129 (-2147483648) ∈ lw_tb2 := tb (List.mem_of_getElem? (i := 823) (by decide +kernel))
theorem kcl_J13_131 : Cond.constantLong RJ13 131 (100) ∈ lw_tb2 := tb (List.mem_of_getElem? (i := 824) (by decide +kernel))
theorem kc_Jx40b00_68 : Cond.constant RJx40b00 68 (8388607) ∈ lw_tb2 := tb (List.mem_of_getElem? (i := 869) (by decide +kernel))
theorem kc_Jx40b00_72 : Cond.constant RJx40b00 72 (8388608) ∈ lw_tb2 := tb (List.mem_of_getElem? (i := 874) (by decide +kernel))
theorem kc_J6_264 : Cond.constant RJ6 264 (65536) ∈ lw_tb2 := tb (List.mem_of_getElem? (i := 882) (by decide +kernel))
theorem kcl_Jx25f51_20 : Cond.constantLong RJx25f51 20 (661971961083) ∈ lw_tb2 := tb (List.mem_of_getElem? (i := 886) (by decide +kernel))
theorem kcl_Jx40b00_120 : Cond.constantLong RJx40b00 120 (1441151881) ∈ lw_tb2 := tb (List.mem_of_getElem? (i := 892) (by decide +kernel))
theorem kc_Jx40b00_122 : Cond.constant RJx40b00 122 (100000000) ∈ lw_tb2 := tb (List.mem_of_getElem? (i := 893) (by decide +kernel))
theorem kcl_Jx40b00_148 : Cond.constantLong RJx40b00 148 (193428131138340668) ∈ lw_tb2 := tb (List.mem_of_getElem? (i := 906) (by decide +kernel))
theorem kcl_J9_138 : Cond.constantLong RJ9 138 (4294967295) ∈ lw_tb2 := tb (List.mem_of_getElem? (i := 910) (by decide +kernel))
theorem kc_Jx40b00_138 : Cond.constant RJx40b00 138 (268435455) ∈ lw_tb2 := tb (List.mem_of_getElem? (i := 911) (by decide +kernel))
theorem kcl_Jx40b00_80 : Cond.constantLong RJx40b00 80 (2) ∈ lw_tb2 := tb (List.mem_of_getElem? (i := 936) (by decide +kernel))
theorem kcl_Jx25f51_22 : Cond.constantLong RJx25f51 22 (-274743187321) ∈ lw_tb2 := tb (List.mem_of_getElem? (i := 940) (by decide +kernel))
theorem kcl_Jx25f51_24 : Cond.constantLong RJx25f51 24 (913124641741) ∈ lw_tb2 := tb (List.mem_of_getElem? (i := 944) (by decide +kernel))
theorem kcl_Jx40b00_110 : Cond.constantLong RJx40b00 110 (4294967295) ∈ lw_tb2 := tb (List.mem_of_getElem? (i := 953) (by decide +kernel))
theorem kcl_Jx40b00_102 : Cond.constantLong RJx40b00 102 (1717986919) ∈ lw_tb2 := tb (List.mem_of_getElem? (i := 954) (by decide +kernel))
theorem ki_xIAE : Cond.initialized xIAE ∈ lw_tb2 := tb (List.mem_of_getElem? (i := 11) (by decide +kernel))
theorem ki_xISE : Cond.initialized xISE ∈ lw_tb2 := tb (List.mem_of_getElem? (i := 12) (by decide +kernel))
theorem ki_xIOB : Cond.initialized xIOB ∈ lw_tb2 := tb (List.mem_of_getElem? (i := 10) (by decide +kernel))
theorem ki_xUOE : Cond.initialized xUOE ∈ lw_tb2 := tb (List.mem_of_getElem? (i := 13) (by decide +kernel))
theorem ki_xNSE : Cond.initialized xNSE ∈ lw_tb2 := tb (List.mem_of_getElem? (i := 9) (by decide +kernel))
