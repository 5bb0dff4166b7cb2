/-! words of the tables, by name -/
theorem tb {q : Cond} (h : q ∈ tables_1) : q ∈ lw_tbl := List.mem_append_right _ h
theorem tp {q : Cond} (h : q ∈ k2_sels lw_privs) : q ∈ lw_tbl := List.mem_append_left _ h
theorem ml_L_50 : Cond.methodLink RL 50 yX2_addUnits ∈ lw_tbl := tb (List.mem_of_getElem? (i := 474) (by decide +kernel))
theorem ml_L_100 : Cond.methodLink RL 100 yX2_coverage ∈ lw_tbl := tb (List.mem_of_getElem? (i := 647) (by decide +kernel))
theorem ml_L_71 : Cond.methodLink RL 71 yX2_coveredByTrying ∈ lw_tbl := tb (List.mem_of_getElem? (i := 536) (by decide +kernel))
theorem ml_L_34 : Cond.methodLink RL 34 yX2_entitle ∈ lw_tbl := tb (List.mem_of_getElem? (i := 409) (by decide +kernel))
theorem ml_L_75 : Cond.methodLink RL 75 yX2_entitlementOf ∈ lw_tbl := tb (List.mem_of_getElem? (i := 555) (by decide +kernel))
theorem ml_L_63 : Cond.methodLink RL 63 yX2_firstFitting ∈ lw_tbl := tb (List.mem_of_getElem? (i := 506) (by decide +kernel))
theorem ml_L_60 : Cond.methodLink RL 60 yX2_fitting ∈ lw_tbl := tb (List.mem_of_getElem? (i := 498) (by decide +kernel))
theorem ml_L_7 : Cond.methodLink RL 7 yX2_install ∈ lw_tbl := tb (List.mem_of_getElem? (i := 250) (by decide +kernel))
theorem ml_L_104 : Cond.methodLink RL 104 yX2_init ∈ lw_tbl := tb (List.mem_of_getElem? (i := 17) (by decide +kernel))
theorem ml_L_107 : Cond.methodLink RL 107 yX3_init ∈ lw_tbl := tb (List.mem_of_getElem? (i := 654) (by decide +kernel))
theorem ml_L_108 : Cond.methodLink RL 108 yL_install ∈ lw_tbl := tb (List.mem_of_getElem? (i := 245) (by decide +kernel))
theorem ml_L_113 : Cond.methodLink RL 113 yX3_install ∈ lw_tbl := tb (List.mem_of_getElem? (i := 749) (by decide +kernel))
theorem ml_L_114 : Cond.methodLink RL 114 yX3_thrown ∈ lw_tbl := tb (List.mem_of_getElem? (i := 745) (by decide +kernel))
theorem ml_L_117 : Cond.methodLink RL 117 yL_retire ∈ lw_tbl := tb (List.mem_of_getElem? (i := 353) (by decide +kernel))
theorem ml_L_120 : Cond.methodLink RL 120 yX3_retire ∈ lw_tbl := tb (List.mem_of_getElem? (i := 760) (by decide +kernel))
theorem ml_L_121 : Cond.methodLink RL 121 yL_moveTo ∈ lw_tbl := tb (List.mem_of_getElem? (i := 382) (by decide +kernel))
theorem ml_L_124 : Cond.methodLink RL 124 yX3_moveTo ∈ lw_tbl := tb (List.mem_of_getElem? (i := 772) (by decide +kernel))
theorem ml_L_125 : Cond.methodLink RL 125 yL_setVersion ∈ lw_tbl := tb (List.mem_of_getElem? (i := 390) (by decide +kernel))
theorem ml_L_127 : Cond.methodLink RL 127 yX3_setVersion ∈ lw_tbl := tb (List.mem_of_getElem? (i := 776) (by decide +kernel))
theorem ml_L_128 : Cond.methodLink RL 128 yL_setPool ∈ lw_tbl := tb (List.mem_of_getElem? (i := 398) (by decide +kernel))
theorem ml_L_131 : Cond.methodLink RL 131 yX3_setPool ∈ lw_tbl := tb (List.mem_of_getElem? (i := 780) (by decide +kernel))
theorem ml_L_132 : Cond.methodLink RL 132 yX2_installs ∈ lw_tbl := tb (List.mem_of_getElem? (i := 156) (by decide +kernel))
theorem ml_L_135 : Cond.methodLink RL 135 yX3_installs ∈ lw_tbl := tb (List.mem_of_getElem? (i := 784) (by decide +kernel))
theorem ml_L_136 : Cond.methodLink RL 136 yX2_isThere ∈ lw_tbl := tb (List.mem_of_getElem? (i := 160) (by decide +kernel))
theorem ml_L_140 : Cond.methodLink RL 140 yX3_isThere ∈ lw_tbl := tb (List.mem_of_getElem? (i := 788) (by decide +kernel))
theorem ml_L_141 : Cond.methodLink RL 141 yL_entitle ∈ lw_tbl := tb (List.mem_of_getElem? (i := 406) (by decide +kernel))
theorem ml_L_144 : Cond.methodLink RL 144 yX3_entitle ∈ lw_tbl := tb (List.mem_of_getElem? (i := 789) (by decide +kernel))
theorem ml_L_145 : Cond.methodLink RL 145 yL_setRights ∈ lw_tbl := tb (List.mem_of_getElem? (i := 422) (by decide +kernel))
theorem ml_L_148 : Cond.methodLink RL 148 yX3_setRights ∈ lw_tbl := tb (List.mem_of_getElem? (i := 793) (by decide +kernel))
theorem ml_L_149 : Cond.methodLink RL 149 yL_setMinimum ∈ lw_tbl := tb (List.mem_of_getElem? (i := 438) (by decide +kernel))
theorem ml_L_151 : Cond.methodLink RL 151 yX3_setMinimum ∈ lw_tbl := tb (List.mem_of_getElem? (i := 801) (by decide +kernel))
theorem ml_L_152 : Cond.methodLink RL 152 yL_setPrice ∈ lw_tbl := tb (List.mem_of_getElem? (i := 463) (by decide +kernel))
theorem ml_L_154 : Cond.methodLink RL 154 yX3_setPrice ∈ lw_tbl := tb (List.mem_of_getElem? (i := 805) (by decide +kernel))
theorem ml_L_155 : Cond.methodLink RL 155 yL_addUnits ∈ lw_tbl := tb (List.mem_of_getElem? (i := 471) (by decide +kernel))
theorem ml_L_157 : Cond.methodLink RL 157 yX3_addUnits ∈ lw_tbl := tb (List.mem_of_getElem? (i := 809) (by decide +kernel))
theorem ml_L_158 : Cond.methodLink RL 158 yL_units ∈ lw_tbl := tb (List.mem_of_getElem? (i := 480) (by decide +kernel))
theorem ml_L_160 : Cond.methodLink RL 160 yX3_units ∈ lw_tbl := tb (List.mem_of_getElem? (i := 813) (by decide +kernel))
theorem ml_L_161 : Cond.methodLink RL 161 yL_why ∈ lw_tbl := tb (List.mem_of_getElem? (i := 487) (by decide +kernel))
theorem ml_L_163 : Cond.methodLink RL 163 yX3_why ∈ lw_tbl := tb (List.mem_of_getElem? (i := 817) (by decide +kernel))
theorem ml_L_164 : Cond.methodLink RL 164 yL_fitting ∈ lw_tbl := tb (List.mem_of_getElem? (i := 495) (by decide +kernel))
theorem ml_L_166 : Cond.methodLink RL 166 yX3_fitting ∈ lw_tbl := tb (List.mem_of_getElem? (i := 828) (by decide +kernel))
theorem ml_L_167 : Cond.methodLink RL 167 yL_firstFitting ∈ lw_tbl := tb (List.mem_of_getElem? (i := 502) (by decide +kernel))
theorem ml_L_169 : Cond.methodLink RL 169 yX3_firstFitting ∈ lw_tbl := tb (List.mem_of_getElem? (i := 840) (by decide +kernel))
theorem ml_L_170 : Cond.methodLink RL 170 yL_unitsForAll ∈ lw_tbl := tb (List.mem_of_getElem? (i := 526) (by decide +kernel))
theorem ml_L_172 : Cond.methodLink RL 172 yX3_unitsForAll ∈ lw_tbl := tb (List.mem_of_getElem? (i := 844) (by decide +kernel))
theorem ml_L_173 : Cond.methodLink RL 173 yX2_covered ∈ lw_tbl := tb (List.mem_of_getElem? (i := 167) (by decide +kernel))
theorem ml_L_176 : Cond.methodLink RL 176 yX3_covered ∈ lw_tbl := tb (List.mem_of_getElem? (i := 856) (by decide +kernel))
theorem ml_L_177 : Cond.methodLink RL 177 yL_coveredByTrying ∈ lw_tbl := tb (List.mem_of_getElem? (i := 533) (by decide +kernel))
theorem ml_L_180 : Cond.methodLink RL 180 yX3_coveredByTrying ∈ lw_tbl := tb (List.mem_of_getElem? (i := 884) (by decide +kernel))
theorem ml_L_181 : Cond.methodLink RL 181 yL_entitlementOf ∈ lw_tbl := tb (List.mem_of_getElem? (i := 552) (by decide +kernel))
theorem ml_L_183 : Cond.methodLink RL 183 yX3_entitlementOf ∈ lw_tbl := tb (List.mem_of_getElem? (i := 889) (by decide +kernel))
theorem ml_L_184 : Cond.methodLink RL 184 yL_reason ∈ lw_tbl := tb (List.mem_of_getElem? (i := 564) (by decide +kernel))
theorem ml_L_186 : Cond.methodLink RL 186 yX3_reason ∈ lw_tbl := tb (List.mem_of_getElem? (i := 893) (by decide +kernel))
theorem ml_L_187 : Cond.methodLink RL 187 yL_used ∈ lw_tbl := tb (List.mem_of_getElem? (i := 572) (by decide +kernel))
theorem ml_L_189 : Cond.methodLink RL 189 yX3_used ∈ lw_tbl := tb (List.mem_of_getElem? (i := 897) (by decide +kernel))
theorem ml_L_190 : Cond.methodLink RL 190 yL_spare ∈ lw_tbl := tb (List.mem_of_getElem? (i := 583) (by decide +kernel))
theorem ml_L_192 : Cond.methodLink RL 192 yX3_spare ∈ lw_tbl := tb (List.mem_of_getElem? (i := 901) (by decide +kernel))
theorem ml_L_193 : Cond.methodLink RL 193 yL_purchase ∈ lw_tbl := tb (List.mem_of_getElem? (i := 591) (by decide +kernel))
theorem ml_L_195 : Cond.methodLink RL 195 yX3_purchase ∈ lw_tbl := tb (List.mem_of_getElem? (i := 905) (by decide +kernel))
theorem ml_L_196 : Cond.methodLink RL 196 yL_purchaseByTrying ∈ lw_tbl := tb (List.mem_of_getElem? (i := 616) (by decide +kernel))
theorem ml_L_198 : Cond.methodLink RL 198 yX3_purchaseByTrying ∈ lw_tbl := tb (List.mem_of_getElem? (i := 925) (by decide +kernel))
theorem ml_L_199 : Cond.methodLink RL 199 yL_toBuy ∈ lw_tbl := tb (List.mem_of_getElem? (i := 630) (by decide +kernel))
theorem ml_L_201 : Cond.methodLink RL 201 yX3_toBuy ∈ lw_tbl := tb (List.mem_of_getElem? (i := 929) (by decide +kernel))
theorem ml_L_202 : Cond.methodLink RL 202 yL_trueUp ∈ lw_tbl := tb (List.mem_of_getElem? (i := 637) (by decide +kernel))
theorem ml_L_204 : Cond.methodLink RL 204 yX3_trueUp ∈ lw_tbl := tb (List.mem_of_getElem? (i := 933) (by decide +kernel))
theorem ml_L_205 : Cond.methodLink RL 205 yX2_spent ∈ lw_tbl := tb (List.mem_of_getElem? (i := 241) (by decide +kernel))
theorem ml_L_209 : Cond.methodLink RL 209 yX3_spent ∈ lw_tbl := tb (List.mem_of_getElem? (i := 937) (by decide +kernel))
theorem ml_L_210 : Cond.methodLink RL 210 yL_coverage ∈ lw_tbl := tb (List.mem_of_getElem? (i := 644) (by decide +kernel))
theorem ml_L_213 : Cond.methodLink RL 213 yX3_coverage ∈ lw_tbl := tb (List.mem_of_getElem? (i := 941) (by decide +kernel))
theorem ml_L_23 : Cond.methodLink RL 23 yX2_moveTo ∈ lw_tbl := tb (List.mem_of_getElem? (i := 385) (by decide +kernel))
theorem ml_L_88 : Cond.methodLink RL 88 yX2_purchase ∈ lw_tbl := tb (List.mem_of_getElem? (i := 594) (by decide +kernel))
theorem ml_L_91 : Cond.methodLink RL 91 yX2_purchaseByTrying ∈ lw_tbl := tb (List.mem_of_getElem? (i := 619) (by decide +kernel))
theorem ml_L_78 : Cond.methodLink RL 78 yX2_reason ∈ lw_tbl := tb (List.mem_of_getElem? (i := 567) (by decide +kernel))
theorem ml_L_17 : Cond.methodLink RL 17 yX2_retire ∈ lw_tbl := tb (List.mem_of_getElem? (i := 357) (by decide +kernel))
theorem ml_L_42 : Cond.methodLink RL 42 yX2_setMinimum ∈ lw_tbl := tb (List.mem_of_getElem? (i := 442) (by decide +kernel))
theorem ml_L_30 : Cond.methodLink RL 30 yX2_setPool ∈ lw_tbl := tb (List.mem_of_getElem? (i := 401) (by decide +kernel))
theorem ml_L_47 : Cond.methodLink RL 47 yX2_setPrice ∈ lw_tbl := tb (List.mem_of_getElem? (i := 466) (by decide +kernel))
theorem ml_L_38 : Cond.methodLink RL 38 yX2_setRights ∈ lw_tbl := tb (List.mem_of_getElem? (i := 425) (by decide +kernel))
theorem ml_L_27 : Cond.methodLink RL 27 yX2_setVersion ∈ lw_tbl := tb (List.mem_of_getElem? (i := 393) (by decide +kernel))
theorem ml_L_85 : Cond.methodLink RL 85 yX2_spare ∈ lw_tbl := tb (List.mem_of_getElem? (i := 586) (by decide +kernel))
theorem ml_L_94 : Cond.methodLink RL 94 yX2_toBuy ∈ lw_tbl := tb (List.mem_of_getElem? (i := 633) (by decide +kernel))
theorem ml_L_97 : Cond.methodLink RL 97 yX2_trueUp ∈ lw_tbl := tb (List.mem_of_getElem? (i := 640) (by decide +kernel))
theorem ml_L_53 : Cond.methodLink RL 53 yX2_units ∈ lw_tbl := tb (List.mem_of_getElem? (i := 483) (by decide +kernel))
theorem ml_L_68 : Cond.methodLink RL 68 yX2_unitsForAll ∈ lw_tbl := tb (List.mem_of_getElem? (i := 529) (by decide +kernel))
theorem ml_L_82 : Cond.methodLink RL 82 yX2_used ∈ lw_tbl := tb (List.mem_of_getElem? (i := 575) (by decide +kernel))
theorem ml_L_56 : Cond.methodLink RL 56 yX2_why ∈ lw_tbl := tb (List.mem_of_getElem? (i := 490) (by decide +kernel))
theorem fl_X0_25 : Cond.fieldLink RX0 25 RX0 (TX0 3).2.1 (TX0 3).2.2.1 ∈ lw_tbl := tb (List.mem_of_getElem? (i := 79) (by decide +kernel))
theorem fl_X0_66 : Cond.fieldLink RX0 66 RX0 (TX0 12).2.1 (TX0 12).2.2.1 ∈ lw_tbl := tb (List.mem_of_getElem? (i := 95) (by decide +kernel))
theorem fl_X0_73 : Cond.fieldLinkNest RX0 73 RX1 (TX1 6).2.1 (TX1 6).2.2.1 "Entitled" ∈ lw_tbl := tb (List.mem_of_getElem? (i := 48) (by decide +kernel))
theorem fl_X0_35 : Cond.fieldLink RX0 35 RX0 (TX0 6).2.1 (TX0 6).2.2.1 ∈ lw_tbl := tb (List.mem_of_getElem? (i := 84) (by decide +kernel))
theorem mx_X0_76 : Cond.methodLink RX0 76 Lib.Math.max.name ∈ lw_tbl := tb (List.mem_of_getElem? (i := 221) (by decide +kernel))
theorem fl_X0_82 : Cond.fieldLinkNest RX0 82 RX1 (TX1 4).2.1 (TX1 4).2.2.1 "Entitled" ∈ lw_tbl := tb (List.mem_of_getElem? (i := 43) (by decide +kernel))
theorem fl_X0_85 : Cond.fieldLinkNest RX0 85 RX1 (TX1 5).2.1 (TX1 5).2.2.1 "Entitled" ∈ lw_tbl := tb (List.mem_of_getElem? (i := 46) (by decide +kernel))
theorem ml_X0_88 : Cond.methodLinkNest RX0 88 yX2_isBetween "Entitled" ∈ lw_tbl := tb (List.mem_of_getElem? (i := 224) (by decide +kernel))
theorem fl_X0_60 : Cond.fieldLinkNest RX0 60 RX1 (TX1 1).2.1 (TX1 1).2.2.1 "Entitled" ∈ lw_tbl := tb (List.mem_of_getElem? (i := 34) (by decide +kernel))
theorem ml_X0_92 : Cond.methodLink RX0 92 yX0_unitsOfHolder ∈ lw_tbl := tb (List.mem_of_getElem? (i := 225) (by decide +kernel))
theorem fl_X0_9 : Cond.fieldLink RX0 9 RX0 (TX0 11).2.1 (TX0 11).2.2.1 ∈ lw_tbl := tb (List.mem_of_getElem? (i := 94) (by decide +kernel))
theorem fl_X0_41 : Cond.fieldLink RX0 41 RX0 (TX0 8).2.1 (TX0 8).2.2.1 ∈ lw_tbl := tb (List.mem_of_getElem? (i := 88) (by decide +kernel))
theorem fl_X0_45 : Cond.fieldLink RX0 45 RX0 (TX0 9).2.1 (TX0 9).2.2.1 ∈ lw_tbl := tb (List.mem_of_getElem? (i := 90) (by decide +kernel))
theorem fl_X0_48 : Cond.fieldLink RX0 48 RX0 (TX0 10).2.1 (TX0 10).2.2.1 ∈ lw_tbl := tb (List.mem_of_getElem? (i := 92) (by decide +kernel))
theorem fl_X0_15 : Cond.fieldLink RX0 15 RX0 (TX0 0).2.1 (TX0 0).2.2.1 ∈ lw_tbl := tb (List.mem_of_getElem? (i := 76) (by decide +kernel))
theorem fl_X0_19 : Cond.fieldLink RX0 19 RX0 (TX0 1).2.1 (TX0 1).2.2.1 ∈ lw_tbl := tb (List.mem_of_getElem? (i := 77) (by decide +kernel))
theorem fl_X0_22 : Cond.fieldLink RX0 22 RX0 (TX0 2).2.1 (TX0 2).2.2.1 ∈ lw_tbl := tb (List.mem_of_getElem? (i := 78) (by decide +kernel))
theorem fl_X0_29 : Cond.fieldLink RX0 29 RX0 (TX0 4).2.1 (TX0 4).2.2.1 ∈ lw_tbl := tb (List.mem_of_getElem? (i := 81) (by decide +kernel))
theorem fl_X0_32 : Cond.fieldLink RX0 32 RX0 (TX0 5).2.1 (TX0 5).2.2.1 ∈ lw_tbl := tb (List.mem_of_getElem? (i := 83) (by decide +kernel))
theorem fl_X0_38 : Cond.fieldLink RX0 38 RX0 (TX0 7).2.1 (TX0 7).2.2.1 ∈ lw_tbl := tb (List.mem_of_getElem? (i := 86) (by decide +kernel))
theorem fl_X0_51 : Cond.fieldLinkNest RX0 51 RX1 (TX1 0).2.1 (TX1 0).2.2.1 "Entitled" ∈ lw_tbl := tb (List.mem_of_getElem? (i := 32) (by decide +kernel))
theorem ml_X0_56 : Cond.methodLink RX0 56 yX0_misfit ∈ lw_tbl := tb (List.mem_of_getElem? (i := 195) (by decide +kernel))
theorem fl_X0_63 : Cond.fieldLinkNest RX0 63 RX1 (TX1 7).2.1 (TX1 7).2.2.1 "Entitled" ∈ lw_tbl := tb (List.mem_of_getElem? (i := 50) (by decide +kernel))
theorem fl_X0_64 : Cond.fieldLinkNest RX0 64 RX1 (TX1 3).2.1 (TX1 3).2.2.1 "Entitled" ∈ lw_tbl := tb (List.mem_of_getElem? (i := 39) (by decide +kernel))
theorem fl_X0_65 : Cond.fieldLinkNest RX0 65 RX1 (TX1 2).2.1 (TX1 2).2.2.1 "Entitled" ∈ lw_tbl := tb (List.mem_of_getElem? (i := 37) (by decide +kernel))
theorem ml_X0_96 : Cond.methodLink RX0 96 yX0_missing ∈ lw_tbl := tb (List.mem_of_getElem? (i := 615) (by decide +kernel))
theorem ml_X0_69 : Cond.methodLink RX0 69 yX0_changeNeed ∈ lw_tbl := tb (List.mem_of_getElem? (i := 217) (by decide +kernel))
theorem fl_X1_7 : Cond.fieldLink RX1 7 RX1 (TX1 0).2.1 (TX1 0).2.2.1 ∈ lw_tbl := tb (List.mem_of_getElem? (i := 30) (by decide +kernel))
theorem fl_X1_13 : Cond.fieldLink RX1 13 RX1 (TX1 1).2.1 (TX1 1).2.2.1 ∈ lw_tbl := tb (List.mem_of_getElem? (i := 33) (by decide +kernel))
theorem fl_X1_17 : Cond.fieldLink RX1 17 RX1 (TX1 2).2.1 (TX1 2).2.2.1 ∈ lw_tbl := tb (List.mem_of_getElem? (i := 35) (by decide +kernel))
theorem fl_X1_20 : Cond.fieldLink RX1 20 RX1 (TX1 3).2.1 (TX1 3).2.2.1 ∈ lw_tbl := tb (List.mem_of_getElem? (i := 38) (by decide +kernel))
theorem fl_X1_23 : Cond.fieldLink RX1 23 RX1 (TX1 4).2.1 (TX1 4).2.2.1 ∈ lw_tbl := tb (List.mem_of_getElem? (i := 41) (by decide +kernel))
theorem fl_X1_26 : Cond.fieldLink RX1 26 RX1 (TX1 5).2.1 (TX1 5).2.2.1 ∈ lw_tbl := tb (List.mem_of_getElem? (i := 44) (by decide +kernel))
theorem fl_X1_29 : Cond.fieldLink RX1 29 RX1 (TX1 6).2.1 (TX1 6).2.2.1 ∈ lw_tbl := tb (List.mem_of_getElem? (i := 47) (by decide +kernel))
theorem fl_X1_32 : Cond.fieldLink RX1 32 RX1 (TX1 7).2.1 (TX1 7).2.2.1 ∈ lw_tbl := tb (List.mem_of_getElem? (i := 49) (by decide +kernel))
theorem ml_X2_114 : Cond.methodLink RX2 114 yX2_entitlementAt ∈ lw_tbl := tb (List.mem_of_getElem? (i := 429) (by decide +kernel))
theorem ml_X2_33 : Cond.methodLink RX2 33 yX2_isBetween ∈ lw_tbl := tb (List.mem_of_getElem? (i := 164) (by decide +kernel))
theorem fl_X2_152 : Cond.fieldLinkNest RX2 152 RX0 (TX0 4).2.1 (TX0 4).2.2.1 "Entitled" ∈ lw_tbl := tb (List.mem_of_getElem? (i := 82) (by decide +kernel))
theorem fl_X2_11 : Cond.fieldLink RX2 11 RX2 (TX2 0).2.1 (TX2 0).2.2.1 ∈ lw_tbl := tb (List.mem_of_getElem? (i := 125) (by decide +kernel))
theorem fl_X2_75 : Cond.fieldLinkNest RX2 75 RX1 (TX1 0).2.1 (TX1 0).2.2.1 "Entitled" ∈ lw_tbl := tb (List.mem_of_getElem? (i := 31) (by decide +kernel))
theorem ml_X2_161 : Cond.methodLink RX2 161 yX2_countFitting ∈ lw_tbl := tb (List.mem_of_getElem? (i := 187) (by decide +kernel))
theorem fl_X2_18 : Cond.fieldLink RX2 18 RX2 (TX2 1).2.1 (TX2 1).2.2.1 ∈ lw_tbl := tb (List.mem_of_getElem? (i := 126) (by decide +kernel))
theorem ml_X2_174 : Cond.methodLinkNest RX2 174 yX0_clearNeed "Entitled" ∈ lw_tbl := tb (List.mem_of_getElem? (i := 183) (by decide +kernel))
theorem fl_X2_23 : Cond.fieldLink RX2 23 RX2 (TX2 6).2.1 (TX2 6).2.2.1 ∈ lw_tbl := tb (List.mem_of_getElem? (i := 131) (by decide +kernel))
theorem fl_X2_27 : Cond.fieldLink RX2 27 RX2 (TX2 7).2.1 (TX2 7).2.2.1 ∈ lw_tbl := tb (List.mem_of_getElem? (i := 132) (by decide +kernel))
theorem ml_X2_276 : Cond.methodLink RX2 276 yX2_clearNeeds ∈ lw_tbl := tb (List.mem_of_getElem? (i := 179) (by decide +kernel))
theorem fl_X2_197 : Cond.fieldLink RX2 197 RX2 (TX2 9).2.1 (TX2 9).2.2.1 ∈ lw_tbl := tb (List.mem_of_getElem? (i := 134) (by decide +kernel))
theorem ml_X2_165 : Cond.methodLinkNest RX2 165 yX0_fits "Entitled" ∈ lw_tbl := tb (List.mem_of_getElem? (i := 191) (by decide +kernel))
theorem fl_X2_55 : Cond.fieldLink RX2 55 RX2 (TX2 3).2.1 (TX2 3).2.2.1 ∈ lw_tbl := tb (List.mem_of_getElem? (i := 128) (by decide +kernel))
theorem ml_X2_184 : Cond.methodLink RX2 184 yX2_findCover ∈ lw_tbl := tb (List.mem_of_getElem? (i := 171) (by decide +kernel))
theorem ml_X2_189 : Cond.methodLink RX2 189 yX2_clearSearch ∈ lw_tbl := tb (List.mem_of_getElem? (i := 175) (by decide +kernel))
theorem ml_X2_193 : Cond.methodLink RX2 193 yX2_tryCovers ∈ lw_tbl := tb (List.mem_of_getElem? (i := 541) (by decide +kernel))
theorem ml_X2_37 : Cond.methodLink RX2 37 yX2_isRelease ∈ lw_tbl := tb (List.mem_of_getElem? (i := 254) (by decide +kernel))
theorem ml_X2_100 : Cond.methodLink RX2 100 yX2_isMetric ∈ lw_tbl := tb (List.mem_of_getElem? (i := 413) (by decide +kernel))
theorem ml_X2_45 : Cond.methodLink RX2 45 yX2_isPool ∈ lw_tbl := tb (List.mem_of_getElem? (i := 260) (by decide +kernel))
theorem fl_X2_106 : Cond.fieldLink RX2 106 RX2 (TX2 4).2.1 (TX2 4).2.2.1 ∈ lw_tbl := tb (List.mem_of_getElem? (i := 129) (by decide +kernel))
theorem ml_X2_111 : Cond.methodLinkNest RX2 111 yX0_fill "Entitled" ∈ lw_tbl := tb (List.mem_of_getElem? (i := 418) (by decide +kernel))
theorem ml_X2_234 : Cond.methodLink RX2 234 yX2_isThere ∈ lw_tbl := tb (List.mem_of_getElem? (i := 365) (by decide +kernel))
theorem ml_X2_200 : Cond.methodLink RX2 200 yX2_entitlementByCover ∈ lw_tbl := tb (List.mem_of_getElem? (i := 559) (by decide +kernel))
theorem fl_X2_30 : Cond.fieldLink RX2 30 RX2 (TX2 8).2.1 (TX2 8).2.2.1 ∈ lw_tbl := tb (List.mem_of_getElem? (i := 133) (by decide +kernel))
theorem ml_X2_246 : Cond.methodLink RX2 246 yX2_searchCover ∈ lw_tbl := tb (List.mem_of_getElem? (i := 199) (by decide +kernel))
theorem ml_X2_250 : Cond.methodLink RX2 250 yX2_searchPurchase ∈ lw_tbl := tb (List.mem_of_getElem? (i := 608) (by decide +kernel))
theorem ml_X2_71 : Cond.methodLink RX2 71 yX2_installAt ∈ lw_tbl := tb (List.mem_of_getElem? (i := 361) (by decide +kernel))
theorem ml_X2_177 : Cond.methodLinkNest RX2 177 yX0_serve "Entitled" ∈ lw_tbl := tb (List.mem_of_getElem? (i := 213) (by decide +kernel))
theorem ml_X2_15 : Cond.methodLinkNest RX2 15 yX1_init "Entitled" ∈ lw_tbl := tb (List.mem_of_getElem? (i := 26) (by decide +kernel))
theorem ml_X2_22 : Cond.methodLinkNest RX2 22 yX0_init "Entitled" ∈ lw_tbl := tb (List.mem_of_getElem? (i := 72) (by decide +kernel))
theorem ml_X2_41 : Cond.methodLink RX2 41 yX2_isHolder ∈ lw_tbl := tb (List.mem_of_getElem? (i := 257) (by decide +kernel))
theorem fl_X2_59 : Cond.fieldLink RX2 59 RX2 (TX2 2).2.1 (TX2 2).2.2.1 ∈ lw_tbl := tb (List.mem_of_getElem? (i := 127) (by decide +kernel))
theorem ml_X2_67 : Cond.methodLinkNest RX2 67 yX1_fill "Entitled" ∈ lw_tbl := tb (List.mem_of_getElem? (i := 349) (by decide +kernel))
theorem ml_X2_225 : Cond.methodLinkNest RX2 225 yX0_missing "Entitled" ∈ lw_tbl := tb (List.mem_of_getElem? (i := 229) (by decide +kernel))
theorem fl_X2_81 : Cond.fieldLinkNest RX2 81 RX1 (TX1 4).2.1 (TX1 4).2.2.1 "Entitled" ∈ lw_tbl := tb (List.mem_of_getElem? (i := 42) (by decide +kernel))
theorem fl_X2_84 : Cond.fieldLinkNest RX2 84 RX1 (TX1 5).2.1 (TX1 5).2.2.1 "Entitled" ∈ lw_tbl := tb (List.mem_of_getElem? (i := 45) (by decide +kernel))
theorem ml_X2_215 : Cond.methodLink RX2 215 yX2_checkAllCanBeCovered ∈ lw_tbl := tb (List.mem_of_getElem? (i := 598) (by decide +kernel))
theorem ml_X2_218 : Cond.methodLink RX2 218 yX2_findPurchase ∈ lw_tbl := tb (List.mem_of_getElem? (i := 603) (by decide +kernel))
theorem ml_X2_222 : Cond.methodLink RX2 222 yX2_tryPurchases ∈ lw_tbl := tb (List.mem_of_getElem? (i := 623) (by decide +kernel))
theorem ml_X2_206 : Cond.methodLink RX2 206 yX2_fitting ∈ lw_tbl := tb (List.mem_of_getElem? (i := 571) (by decide +kernel))
theorem ml_X2_253 : Cond.methodLink RX2 253 yX2_keepAsBest ∈ lw_tbl := tb (List.mem_of_getElem? (i := 202) (by decide +kernel))
theorem ml_X2_256 : Cond.methodLink RX2 256 yX2_give ∈ lw_tbl := tb (List.mem_of_getElem? (i := 209) (by decide +kernel))
theorem ml_X2_260 : Cond.methodLink RX2 260 yX2_takeBack ∈ lw_tbl := tb (List.mem_of_getElem? (i := 233) (by decide +kernel))
theorem ml_X2_263 : Cond.methodLinkNest RX2 263 yX0_missingPrice "Entitled" ∈ lw_tbl := tb (List.mem_of_getElem? (i := 611) (by decide +kernel))
theorem fl_X2_133 : Cond.fieldLinkNest RX2 133 RX0 (TX0 3).2.1 (TX0 3).2.2.1 "Entitled" ∈ lw_tbl := tb (List.mem_of_getElem? (i := 80) (by decide +kernel))
theorem fl_X2_142 : Cond.fieldLinkNest RX2 142 RX0 (TX0 6).2.1 (TX0 6).2.2.1 "Entitled" ∈ lw_tbl := tb (List.mem_of_getElem? (i := 85) (by decide +kernel))
theorem fl_X2_97 : Cond.fieldLinkNest RX2 97 RX1 (TX1 7).2.1 (TX1 7).2.2.1 "Entitled" ∈ lw_tbl := tb (List.mem_of_getElem? (i := 51) (by decide +kernel))
theorem fl_X2_147 : Cond.fieldLinkNest RX2 147 RX0 (TX0 7).2.1 (TX0 7).2.2.1 "Entitled" ∈ lw_tbl := tb (List.mem_of_getElem? (i := 87) (by decide +kernel))
theorem ml_X2_118 : Cond.methodLinkNest RX2 118 yX0_countRights "Entitled" ∈ lw_tbl := tb (List.mem_of_getElem? (i := 434) (by decide +kernel))
theorem fl_X2_122 : Cond.fieldLinkNest RX2 122 RX0 (TX0 8).2.1 (TX0 8).2.2.1 "Entitled" ∈ lw_tbl := tb (List.mem_of_getElem? (i := 89) (by decide +kernel))
theorem fl_X2_125 : Cond.fieldLinkNest RX2 125 RX0 (TX0 9).2.1 (TX0 9).2.2.1 "Entitled" ∈ lw_tbl := tb (List.mem_of_getElem? (i := 91) (by decide +kernel))
theorem fl_X2_128 : Cond.fieldLinkNest RX2 128 RX0 (TX0 10).2.1 (TX0 10).2.2.1 "Entitled" ∈ lw_tbl := tb (List.mem_of_getElem? (i := 93) (by decide +kernel))
theorem fl_X2_89 : Cond.fieldLinkNest RX2 89 RX1 (TX1 2).2.1 (TX1 2).2.2.1 "Entitled" ∈ lw_tbl := tb (List.mem_of_getElem? (i := 36) (by decide +kernel))
theorem fl_X2_92 : Cond.fieldLinkNest RX2 92 RX1 (TX1 3).2.1 (TX1 3).2.2.1 "Entitled" ∈ lw_tbl := tb (List.mem_of_getElem? (i := 40) (by decide +kernel))
theorem ml_X2_212 : Cond.methodLink RX2 212 yX2_used ∈ lw_tbl := tb (List.mem_of_getElem? (i := 590) (by decide +kernel))
theorem fl_X2_228 : Cond.fieldLink RX2 228 RX2 (TX2 5).2.1 (TX2 5).2.2.1 ∈ lw_tbl := tb (List.mem_of_getElem? (i := 130) (by decide +kernel))
theorem ml_X2_279 : Cond.methodLinkNest RX2 279 yX0_release "Entitled" ∈ lw_tbl := tb (List.mem_of_getElem? (i := 237) (by decide +kernel))
theorem ml_X2_209 : Cond.methodLink RX2 209 yX2_serveByBest ∈ lw_tbl := tb (List.mem_of_getElem? (i := 579) (by decide +kernel))
theorem ml_X2_266 : Cond.methodLink RX2 266 yX2_countGiven ∈ lw_tbl := tb (List.mem_of_getElem? (i := 544) (by decide +kernel))
theorem ml_X2_269 : Cond.methodLink RX2 269 yX2_isAllowed ∈ lw_tbl := tb (List.mem_of_getElem? (i := 548) (by decide +kernel))
theorem ml_X2_273 : Cond.methodLink RX2 273 yX2_sumOfMissing ∈ lw_tbl := tb (List.mem_of_getElem? (i := 626) (by decide +kernel))
theorem fl_X2_181 : Cond.fieldLinkNest RX2 181 RX0 (TX0 12).2.1 (TX0 12).2.2.1 "Entitled" ∈ lw_tbl := tb (List.mem_of_getElem? (i := 96) (by decide +kernel))
theorem ml_X2_157 : Cond.methodLinkNest RX2 157 yX0_misfit "Entitled" ∈ lw_tbl := tb (List.mem_of_getElem? (i := 494) (by decide +kernel))
theorem ml_X3_106 : Cond.methodLink RX3 106 yX3_noEntitlement ∈ lw_tbl := tb (List.mem_of_getElem? (i := 797) (by decide +kernel))
theorem ml_X3_89 : Cond.methodLink RX3 89 yX3_isIn ∈ lw_tbl := tb (List.mem_of_getElem? (i := 753) (by decide +kernel))
theorem ml_X3_93 : Cond.methodLink RX3 93 yX3_fail ∈ lw_tbl := tb (List.mem_of_getElem? (i := 756) (by decide +kernel))
theorem fl_X3_53 : Cond.fieldLink RX3 53 RX3 (TX3 20).2.1 (TX3 20).2.2.1 ∈ lw_tbl := tb (List.mem_of_getElem? (i := 678) (by decide +kernel))
theorem fl_X3_129 : Cond.fieldLink RX3 129 RX3 (TX3 4).2.1 (TX3 4).2.2.1 ∈ lw_tbl := tb (List.mem_of_getElem? (i := 662) (by decide +kernel))
theorem fl_X3_100 : Cond.fieldLink RX3 100 RX3 (TX3 1).2.1 (TX3 1).2.2.1 ∈ lw_tbl := tb (List.mem_of_getElem? (i := 659) (by decide +kernel))
theorem fl_X3_69 : Cond.fieldLink RX3 69 RX3 (TX3 25).2.1 (TX3 25).2.2.1 ∈ lw_tbl := tb (List.mem_of_getElem? (i := 683) (by decide +kernel))
theorem ml_X3_126 : Cond.methodLink RX3 126 yX3_needs ∈ lw_tbl := tb (List.mem_of_getElem? (i := 848) (by decide +kernel))
theorem ml_X3_158 : Cond.methodLink RX3 158 yX3_costs ∈ lw_tbl := tb (List.mem_of_getElem? (i := 917) (by decide +kernel))
theorem ml_X3_132 : Cond.methodLink RX3 132 yX3_take ∈ lw_tbl := tb (List.mem_of_getElem? (i := 872) (by decide +kernel))
theorem fl_X3_31 : Cond.fieldLink RX3 31 RX3 (TX3 13).2.1 (TX3 13).2.2.1 ∈ lw_tbl := tb (List.mem_of_getElem? (i := 671) (by decide +kernel))
theorem ml_X3_161 : Cond.methodLink RX3 161 yX3_buys ∈ lw_tbl := tb (List.mem_of_getElem? (i := 913) (by decide +kernel))
theorem fl_X3_86 : Cond.fieldLink RX3 86 RX3 (TX3 3).2.1 (TX3 3).2.2.1 ∈ lw_tbl := tb (List.mem_of_getElem? (i := 661) (by decide +kernel))
theorem ml_X3_117 : Cond.methodLink RX3 117 yX3_fits ∈ lw_tbl := tb (List.mem_of_getElem? (i := 836) (by decide +kernel))
theorem fl_X3_62 : Cond.fieldLink RX3 62 RX3 (TX3 23).2.1 (TX3 23).2.2.1 ∈ lw_tbl := tb (List.mem_of_getElem? (i := 681) (by decide +kernel))
theorem ml_X3_155 : Cond.methodLink RX3 155 yX3_beyond ∈ lw_tbl := tb (List.mem_of_getElem? (i := 921) (by decide +kernel))
theorem ml_X3_142 : Cond.methodLink RX3 142 yX3_begin ∈ lw_tbl := tb (List.mem_of_getElem? (i := 864) (by decide +kernel))
theorem fl_X3_97 : Cond.fieldLink RX3 97 RX3 (TX3 2).2.1 (TX3 2).2.2.1 ∈ lw_tbl := tb (List.mem_of_getElem? (i := 660) (by decide +kernel))
theorem ml_X3_135 : Cond.methodLink RX3 135 yX3_covers ∈ lw_tbl := tb (List.mem_of_getElem? (i := 868) (by decide +kernel))
theorem ml_X3_145 : Cond.methodLink RX3 145 yX3_put ∈ lw_tbl := tb (List.mem_of_getElem? (i := 880) (by decide +kernel))
theorem fl_X3_78 : Cond.fieldLink RX3 78 RX3 (TX3 0).2.1 (TX3 0).2.2.1 ∈ lw_tbl := tb (List.mem_of_getElem? (i := 658) (by decide +kernel))
theorem ml_X3_148 : Cond.methodLink RX3 148 yX3_cover ∈ lw_tbl := tb (List.mem_of_getElem? (i := 860) (by decide +kernel))
theorem ml_X3_151 : Cond.methodLink RX3 151 yX3_covered ∈ lw_tbl := tb (List.mem_of_getElem? (i := 888) (by decide +kernel))
theorem ml_X3_139 : Cond.methodLink RX3 139 yX3_isAllowed ∈ lw_tbl := tb (List.mem_of_getElem? (i := 876) (by decide +kernel))
theorem fl_X3_44 : Cond.fieldLink RX3 44 RX3 (TX3 17).2.1 (TX3 17).2.2.1 ∈ lw_tbl := tb (List.mem_of_getElem? (i := 675) (by decide +kernel))
theorem fl_X3_47 : Cond.fieldLink RX3 47 RX3 (TX3 18).2.1 (TX3 18).2.2.1 ∈ lw_tbl := tb (List.mem_of_getElem? (i := 676) (by decide +kernel))
theorem fl_X3_50 : Cond.fieldLink RX3 50 RX3 (TX3 19).2.1 (TX3 19).2.2.1 ∈ lw_tbl := tb (List.mem_of_getElem? (i := 677) (by decide +kernel))
theorem fl_X3_65 : Cond.fieldLink RX3 65 RX3 (TX3 24).2.1 (TX3 24).2.2.1 ∈ lw_tbl := tb (List.mem_of_getElem? (i := 682) (by decide +kernel))
theorem fl_X3_56 : Cond.fieldLink RX3 56 RX3 (TX3 21).2.1 (TX3 21).2.2.1 ∈ lw_tbl := tb (List.mem_of_getElem? (i := 679) (by decide +kernel))
theorem fl_X3_59 : Cond.fieldLink RX3 59 RX3 (TX3 22).2.1 (TX3 22).2.2.1 ∈ lw_tbl := tb (List.mem_of_getElem? (i := 680) (by decide +kernel))
theorem ml_X3_103 : Cond.methodLink RX3 103 yX3_noInstall ∈ lw_tbl := tb (List.mem_of_getElem? (i := 764) (by decide +kernel))
theorem ml_X3_113 : Cond.methodLink RX3 113 yX3_reasonOf ∈ lw_tbl := tb (List.mem_of_getElem? (i := 821) (by decide +kernel))
theorem ml_X3_120 : Cond.methodLink RX3 120 yX3_fits_ ∈ lw_tbl := tb (List.mem_of_getElem? (i := 832) (by decide +kernel))
theorem fl_X3_75 : Cond.fieldLink RX3 75 RX3 (TX3 27).2.1 (TX3 27).2.2.1 ∈ lw_tbl := tb (List.mem_of_getElem? (i := 685) (by decide +kernel))
theorem fl_X3_22 : Cond.fieldLink RX3 22 RX3 (TX3 10).2.1 (TX3 10).2.2.1 ∈ lw_tbl := tb (List.mem_of_getElem? (i := 668) (by decide +kernel))
theorem fl_X3_19 : Cond.fieldLink RX3 19 RX3 (TX3 9).2.1 (TX3 9).2.2.1 ∈ lw_tbl := tb (List.mem_of_getElem? (i := 667) (by decide +kernel))
theorem fl_X3_7 : Cond.fieldLink RX3 7 RX3 (TX3 6).2.1 (TX3 6).2.2.1 ∈ lw_tbl := tb (List.mem_of_getElem? (i := 664) (by decide +kernel))
theorem fl_X3_13 : Cond.fieldLink RX3 13 RX3 (TX3 7).2.1 (TX3 7).2.2.1 ∈ lw_tbl := tb (List.mem_of_getElem? (i := 665) (by decide +kernel))
theorem fl_X3_16 : Cond.fieldLink RX3 16 RX3 (TX3 8).2.1 (TX3 8).2.2.1 ∈ lw_tbl := tb (List.mem_of_getElem? (i := 666) (by decide +kernel))
theorem fl_X3_25 : Cond.fieldLink RX3 25 RX3 (TX3 11).2.1 (TX3 11).2.2.1 ∈ lw_tbl := tb (List.mem_of_getElem? (i := 669) (by decide +kernel))
theorem fl_X3_28 : Cond.fieldLink RX3 28 RX3 (TX3 12).2.1 (TX3 12).2.2.1 ∈ lw_tbl := tb (List.mem_of_getElem? (i := 670) (by decide +kernel))
theorem fl_X3_35 : Cond.fieldLink RX3 35 RX3 (TX3 14).2.1 (TX3 14).2.2.1 ∈ lw_tbl := tb (List.mem_of_getElem? (i := 672) (by decide +kernel))
theorem fl_X3_38 : Cond.fieldLink RX3 38 RX3 (TX3 15).2.1 (TX3 15).2.2.1 ∈ lw_tbl := tb (List.mem_of_getElem? (i := 673) (by decide +kernel))
theorem fl_X3_41 : Cond.fieldLink RX3 41 RX3 (TX3 16).2.1 (TX3 16).2.2.1 ∈ lw_tbl := tb (List.mem_of_getElem? (i := 674) (by decide +kernel))
theorem fl_X3_72 : Cond.fieldLink RX3 72 RX3 (TX3 26).2.1 (TX3 26).2.2.1 ∈ lw_tbl := tb (List.mem_of_getElem? (i := 684) (by decide +kernel))
theorem ml_X3_122 : Cond.methodLink RX3 122 yX3_greatest ∈ lw_tbl := tb (List.mem_of_getElem? (i := 852) (by decide +kernel))
theorem ml_X3_82 : Cond.methodLink RX3 82 yX3_isThere ∈ lw_tbl := tb (List.mem_of_getElem? (i := 768) (by decide +kernel))
theorem ml_X3_165 : Cond.methodLink RX3 165 yX3_noPurchase ∈ lw_tbl := tb (List.mem_of_getElem? (i := 909) (by decide +kernel))
theorem ml_X3_109 : Cond.methodLink RX3 109 yX3_isSet ∈ lw_tbl := tb (List.mem_of_getElem? (i := 825) (by decide +kernel))
theorem fl_X3_168 : Cond.fieldLink RX3 168 RX3 (TX3 5).2.1 (TX3 5).2.2.1 ∈ lw_tbl := tb (List.mem_of_getElem? (i := 663) (by decide +kernel))
theorem mw_X0_changeNeed : MWb yX0_changeNeed cX0_changeNeed 5 none 2 := ⟨tb (List.mem_of_getElem? (i := 220) (by decide +kernel)), tb (List.mem_of_getElem? (i := 3) (by decide +kernel)), ⟨by decide +kernel, by decide +kernel⟩, by decide +kernel, by decide, by decide +kernel⟩
theorem mw_X0_clearNeed : MWb yX0_clearNeed cX0_clearNeed 2 none 0 := ⟨tb (List.mem_of_getElem? (i := 186) (by decide +kernel)), tb (List.mem_of_getElem? (i := 3) (by decide +kernel)), ⟨by decide +kernel, by decide +kernel⟩, by decide +kernel, by decide, by decide +kernel⟩
theorem mw_X0_countRights : MWb yX0_countRights cX0_countRights 1 (some .int) 0 := ⟨tb (List.mem_of_getElem? (i := 437) (by decide +kernel)), tb (List.mem_of_getElem? (i := 3) (by decide +kernel)), ⟨by decide +kernel, by decide +kernel⟩, by decide +kernel, by decide, by decide +kernel⟩
theorem mw_X0_fill : MWb yX0_fill cX0_fill 7 none 6 := ⟨tb (List.mem_of_getElem? (i := 421) (by decide +kernel)), tb (List.mem_of_getElem? (i := 3) (by decide +kernel)), ⟨by decide +kernel, by decide +kernel⟩, by decide +kernel, by decide, by decide +kernel⟩
theorem mw_X0_fits : MWb yX0_fits cX0_fits 2 (some .boolean) 1 := ⟨tb (List.mem_of_getElem? (i := 194) (by decide +kernel)), tb (List.mem_of_getElem? (i := 3) (by decide +kernel)), ⟨by decide +kernel, by decide +kernel⟩, by decide +kernel, by decide, by decide +kernel⟩
theorem mw_X0_init : MWb yX0_init cX0_init 1 none 0 := ⟨tb (List.mem_of_getElem? (i := 74) (by decide +kernel)), tb (List.mem_of_getElem? (i := 3) (by decide +kernel)), ⟨by decide +kernel, by decide +kernel⟩, by decide +kernel, by decide, by decide +kernel⟩
theorem mw_X0_misfit : MWb yX0_misfit cX0_misfit 2 (some .char) 1 := ⟨tb (List.mem_of_getElem? (i := 198) (by decide +kernel)), tb (List.mem_of_getElem? (i := 3) (by decide +kernel)), ⟨by decide +kernel, by decide +kernel⟩, by decide +kernel, by decide, by decide +kernel⟩
theorem mw_X0_missing : MWb yX0_missing cX0_missing 1 (some .int) 0 := ⟨tb (List.mem_of_getElem? (i := 232) (by decide +kernel)), tb (List.mem_of_getElem? (i := 3) (by decide +kernel)), ⟨by decide +kernel, by decide +kernel⟩, by decide +kernel, by decide, by decide +kernel⟩
theorem mw_X0_missingPrice : MWb yX0_missingPrice cX0_missingPrice 1 (some .int) 0 := ⟨tb (List.mem_of_getElem? (i := 614) (by decide +kernel)), tb (List.mem_of_getElem? (i := 3) (by decide +kernel)), ⟨by decide +kernel, by decide +kernel⟩, by decide +kernel, by decide, by decide +kernel⟩
theorem mw_X0_release : MWb yX0_release cX0_release 2 none 1 := ⟨tb (List.mem_of_getElem? (i := 240) (by decide +kernel)), tb (List.mem_of_getElem? (i := 3) (by decide +kernel)), ⟨by decide +kernel, by decide +kernel⟩, by decide +kernel, by decide, by decide +kernel⟩
theorem mw_X0_serve : MWb yX0_serve cX0_serve 2 none 1 := ⟨tb (List.mem_of_getElem? (i := 216) (by decide +kernel)), tb (List.mem_of_getElem? (i := 3) (by decide +kernel)), ⟨by decide +kernel, by decide +kernel⟩, by decide +kernel, by decide, by decide +kernel⟩
theorem mw_X0_unitsOfHolder : MWb yX0_unitsOfHolder cX0_unitsOfHolder 5 (some .int) 1 := ⟨tb (List.mem_of_getElem? (i := 228) (by decide +kernel)), tb (List.mem_of_getElem? (i := 3) (by decide +kernel)), ⟨by decide +kernel, by decide +kernel⟩, by decide +kernel, by decide, by decide +kernel⟩
theorem mw_X1_fill : MWb yX1_fill cX1_fill 8 none 7 := ⟨tb (List.mem_of_getElem? (i := 352) (by decide +kernel)), tb (List.mem_of_getElem? (i := 2) (by decide +kernel)), ⟨by decide +kernel, by decide +kernel⟩, by decide +kernel, by decide, by decide +kernel⟩
theorem mw_X1_init : MWb yX1_init cX1_init 1 none 0 := ⟨tb (List.mem_of_getElem? (i := 28) (by decide +kernel)), tb (List.mem_of_getElem? (i := 2) (by decide +kernel)), ⟨by decide +kernel, by decide +kernel⟩, by decide +kernel, by decide, by decide +kernel⟩
theorem mw_X2_addUnits : MWb yX2_addUnits cX2_addUnits 4 (some .int) 2 := ⟨tb (List.mem_of_getElem? (i := 477) (by decide +kernel)), tb (List.mem_of_getElem? (i := 1) (by decide +kernel)), ⟨by decide +kernel, by decide +kernel⟩, by decide +kernel, by decide, by decide +kernel⟩
theorem mw_X2_checkAllCanBeCovered : MWb yX2_checkAllCanBeCovered cX2_checkAllCanBeCovered 2 none 0 := ⟨tb (List.mem_of_getElem? (i := 601) (by decide +kernel)), tb (List.mem_of_getElem? (i := 1) (by decide +kernel)), ⟨by decide +kernel, by decide +kernel⟩, by decide +kernel, by decide, by decide +kernel⟩
theorem mw_X2_clearNeeds : MWb yX2_clearNeeds cX2_clearNeeds 2 none 0 := ⟨tb (List.mem_of_getElem? (i := 182) (by decide +kernel)), tb (List.mem_of_getElem? (i := 1) (by decide +kernel)), ⟨by decide +kernel, by decide +kernel⟩, by decide +kernel, by decide, by decide +kernel⟩
theorem mw_X2_clearSearch : MWb yX2_clearSearch cX2_clearSearch 3 none 1 := ⟨tb (List.mem_of_getElem? (i := 178) (by decide +kernel)), tb (List.mem_of_getElem? (i := 1) (by decide +kernel)), ⟨by decide +kernel, by decide +kernel⟩, by decide +kernel, by decide, by decide +kernel⟩
theorem mw_X2_countFitting : MWb yX2_countFitting cX2_countFitting 4 (some .int) 1 := ⟨tb (List.mem_of_getElem? (i := 190) (by decide +kernel)), tb (List.mem_of_getElem? (i := 1) (by decide +kernel)), ⟨by decide +kernel, by decide +kernel⟩, by decide +kernel, by decide, by decide +kernel⟩
theorem mw_X2_countGiven : MWb yX2_countGiven cX2_countGiven 3 (some .int) 0 := ⟨tb (List.mem_of_getElem? (i := 547) (by decide +kernel)), tb (List.mem_of_getElem? (i := 1) (by decide +kernel)), ⟨by decide +kernel, by decide +kernel⟩, by decide +kernel, by decide, by decide +kernel⟩
theorem mw_X2_coverage : MWb yX2_coverage cX2_coverage 1 (some .float) 0 := ⟨tb (List.mem_of_getElem? (i := 650) (by decide +kernel)), tb (List.mem_of_getElem? (i := 1) (by decide +kernel)), ⟨by decide +kernel, by decide +kernel⟩, by decide +kernel, by decide, by decide +kernel⟩
theorem mw_X2_covered : MWb yX2_covered cX2_covered 1 (some .int) 0 := ⟨tb (List.mem_of_getElem? (i := 170) (by decide +kernel)), tb (List.mem_of_getElem? (i := 1) (by decide +kernel)), ⟨by decide +kernel, by decide +kernel⟩, by decide +kernel, by decide, by decide +kernel⟩
theorem mw_X2_coveredByTrying : MWb yX2_coveredByTrying cX2_coveredByTrying 1 (some .int) 0 := ⟨tb (List.mem_of_getElem? (i := 539) (by decide +kernel)), tb (List.mem_of_getElem? (i := 1) (by decide +kernel)), ⟨by decide +kernel, by decide +kernel⟩, by decide +kernel, by decide, by decide +kernel⟩
theorem mw_X2_entitle : MWb yX2_entitle cX2_entitle 8 (some .int) 6 := ⟨tb (List.mem_of_getElem? (i := 412) (by decide +kernel)), tb (List.mem_of_getElem? (i := 1) (by decide +kernel)), ⟨by decide +kernel, by decide +kernel⟩, by decide +kernel, by decide, by decide +kernel⟩
theorem mw_X2_entitlementAt : MWb yX2_entitlementAt cX2_entitlementAt 2 (some (.object "Entitled$Entitlement")) 1 := ⟨tb (List.mem_of_getElem? (i := 432) (by decide +kernel)), tb (List.mem_of_getElem? (i := 1) (by decide +kernel)), ⟨by decide +kernel, by decide +kernel⟩, by decide +kernel, by decide, by decide +kernel⟩
theorem mw_X2_entitlementByCover : MWb yX2_entitlementByCover cX2_entitlementByCover 2 (some .int) 1 := ⟨tb (List.mem_of_getElem? (i := 562) (by decide +kernel)), tb (List.mem_of_getElem? (i := 1) (by decide +kernel)), ⟨by decide +kernel, by decide +kernel⟩, by decide +kernel, by decide, by decide +kernel⟩
theorem mw_X2_entitlementOf : MWb yX2_entitlementOf cX2_entitlementOf 3 (some .int) 1 := ⟨tb (List.mem_of_getElem? (i := 558) (by decide +kernel)), tb (List.mem_of_getElem? (i := 1) (by decide +kernel)), ⟨by decide +kernel, by decide +kernel⟩, by decide +kernel, by decide, by decide +kernel⟩
theorem mw_X2_findCover : MWb yX2_findCover cX2_findCover 2 (some .int) 0 := ⟨tb (List.mem_of_getElem? (i := 174) (by decide +kernel)), tb (List.mem_of_getElem? (i := 1) (by decide +kernel)), ⟨by decide +kernel, by decide +kernel⟩, by decide +kernel, by decide, by decide +kernel⟩
theorem mw_X2_findPurchase : MWb yX2_findPurchase cX2_findPurchase 1 (some .int) 0 := ⟨tb (List.mem_of_getElem? (i := 606) (by decide +kernel)), tb (List.mem_of_getElem? (i := 1) (by decide +kernel)), ⟨by decide +kernel, by decide +kernel⟩, by decide +kernel, by decide, by decide +kernel⟩
theorem mw_X2_firstFitting : MWb yX2_firstFitting cX2_firstFitting 4 (some .int) 1 := ⟨tb (List.mem_of_getElem? (i := 509) (by decide +kernel)), tb (List.mem_of_getElem? (i := 1) (by decide +kernel)), ⟨by decide +kernel, by decide +kernel⟩, by decide +kernel, by decide, by decide +kernel⟩
theorem mw_X2_fitting : MWb yX2_fitting cX2_fitting 2 (some .int) 1 := ⟨tb (List.mem_of_getElem? (i := 501) (by decide +kernel)), tb (List.mem_of_getElem? (i := 1) (by decide +kernel)), ⟨by decide +kernel, by decide +kernel⟩, by decide +kernel, by decide, by decide +kernel⟩
theorem mw_X2_give : MWb yX2_give cX2_give 3 none 2 := ⟨tb (List.mem_of_getElem? (i := 212) (by decide +kernel)), tb (List.mem_of_getElem? (i := 1) (by decide +kernel)), ⟨by decide +kernel, by decide +kernel⟩, by decide +kernel, by decide, by decide +kernel⟩
theorem mw_X2_init : MWb yX2_init cX2_init 2 none 0 := ⟨tb (List.mem_of_getElem? (i := 19) (by decide +kernel)), tb (List.mem_of_getElem? (i := 1) (by decide +kernel)), ⟨by decide +kernel, by decide +kernel⟩, by decide +kernel, by decide, by decide +kernel⟩
theorem mw_X2_install : MWb yX2_install cX2_install 9 (some .int) 7 := ⟨tb (List.mem_of_getElem? (i := 253) (by decide +kernel)), tb (List.mem_of_getElem? (i := 1) (by decide +kernel)), ⟨by decide +kernel, by decide +kernel⟩, by decide +kernel, by decide, by decide +kernel⟩
theorem mw_X2_installAt : MWb yX2_installAt cX2_installAt 2 (some (.object "Entitled$Install")) 1 := ⟨tb (List.mem_of_getElem? (i := 364) (by decide +kernel)), tb (List.mem_of_getElem? (i := 1) (by decide +kernel)), ⟨by decide +kernel, by decide +kernel⟩, by decide +kernel, by decide, by decide +kernel⟩
theorem mw_X2_installs : MWb yX2_installs cX2_installs 1 (some .int) 0 := ⟨tb (List.mem_of_getElem? (i := 159) (by decide +kernel)), tb (List.mem_of_getElem? (i := 1) (by decide +kernel)), ⟨by decide +kernel, by decide +kernel⟩, by decide +kernel, by decide, by decide +kernel⟩
theorem mw_X2_isAllowed : MWb yX2_isAllowed cX2_isAllowed 2 (some .boolean) 0 := ⟨tb (List.mem_of_getElem? (i := 551) (by decide +kernel)), tb (List.mem_of_getElem? (i := 1) (by decide +kernel)), ⟨by decide +kernel, by decide +kernel⟩, by decide +kernel, by decide, by decide +kernel⟩
theorem mw_X2_isBetween : MWb yX2_isBetween cX2_isBetween 3 (some .boolean) 3 := ⟨tb (List.mem_of_getElem? (i := 166) (by decide +kernel)), tb (List.mem_of_getElem? (i := 1) (by decide +kernel)), ⟨by decide +kernel, by decide +kernel⟩, by decide +kernel, by decide, by decide +kernel⟩
theorem mw_X2_isHolder : MWb yX2_isHolder cX2_isHolder 1 (some .boolean) 1 := ⟨tb (List.mem_of_getElem? (i := 259) (by decide +kernel)), tb (List.mem_of_getElem? (i := 1) (by decide +kernel)), ⟨by decide +kernel, by decide +kernel⟩, by decide +kernel, by decide, by decide +kernel⟩
theorem mw_X2_isMetric : MWb yX2_isMetric cX2_isMetric 1 (some .boolean) 1 := ⟨tb (List.mem_of_getElem? (i := 415) (by decide +kernel)), tb (List.mem_of_getElem? (i := 1) (by decide +kernel)), ⟨by decide +kernel, by decide +kernel⟩, by decide +kernel, by decide, by decide +kernel⟩
theorem mw_X2_isPool : MWb yX2_isPool cX2_isPool 1 (some .boolean) 1 := ⟨tb (List.mem_of_getElem? (i := 262) (by decide +kernel)), tb (List.mem_of_getElem? (i := 1) (by decide +kernel)), ⟨by decide +kernel, by decide +kernel⟩, by decide +kernel, by decide, by decide +kernel⟩
theorem mw_X2_isRelease : MWb yX2_isRelease cX2_isRelease 2 (some .boolean) 2 := ⟨tb (List.mem_of_getElem? (i := 256) (by decide +kernel)), tb (List.mem_of_getElem? (i := 1) (by decide +kernel)), ⟨by decide +kernel, by decide +kernel⟩, by decide +kernel, by decide, by decide +kernel⟩
theorem mw_X2_isThere : MWb yX2_isThere cX2_isThere 2 (some .boolean) 1 := ⟨tb (List.mem_of_getElem? (i := 163) (by decide +kernel)), tb (List.mem_of_getElem? (i := 1) (by decide +kernel)), ⟨by decide +kernel, by decide +kernel⟩, by decide +kernel, by decide, by decide +kernel⟩
theorem mw_X2_keepAsBest : MWb yX2_keepAsBest cX2_keepAsBest 2 none 1 := ⟨tb (List.mem_of_getElem? (i := 205) (by decide +kernel)), tb (List.mem_of_getElem? (i := 1) (by decide +kernel)), ⟨by decide +kernel, by decide +kernel⟩, by decide +kernel, by decide, by decide +kernel⟩
theorem mw_X2_moveTo : MWb yX2_moveTo cX2_moveTo 6 (some .int) 3 := ⟨tb (List.mem_of_getElem? (i := 388) (by decide +kernel)), tb (List.mem_of_getElem? (i := 1) (by decide +kernel)), ⟨by decide +kernel, by decide +kernel⟩, by decide +kernel, by decide, by decide +kernel⟩
theorem mw_X2_purchase : MWb yX2_purchase cX2_purchase 1 (some .int) 0 := ⟨tb (List.mem_of_getElem? (i := 597) (by decide +kernel)), tb (List.mem_of_getElem? (i := 1) (by decide +kernel)), ⟨by decide +kernel, by decide +kernel⟩, by decide +kernel, by decide, by decide +kernel⟩
theorem mw_X2_purchaseByTrying : MWb yX2_purchaseByTrying cX2_purchaseByTrying 1 (some .int) 0 := ⟨tb (List.mem_of_getElem? (i := 622) (by decide +kernel)), tb (List.mem_of_getElem? (i := 1) (by decide +kernel)), ⟨by decide +kernel, by decide +kernel⟩, by decide +kernel, by decide, by decide +kernel⟩
theorem mw_X2_reason : MWb yX2_reason cX2_reason 2 (some .char) 1 := ⟨tb (List.mem_of_getElem? (i := 570) (by decide +kernel)), tb (List.mem_of_getElem? (i := 1) (by decide +kernel)), ⟨by decide +kernel, by decide +kernel⟩, by decide +kernel, by decide, by decide +kernel⟩
theorem mw_X2_retire : MWb yX2_retire cX2_retire 2 (some .int) 1 := ⟨tb (List.mem_of_getElem? (i := 360) (by decide +kernel)), tb (List.mem_of_getElem? (i := 1) (by decide +kernel)), ⟨by decide +kernel, by decide +kernel⟩, by decide +kernel, by decide, by decide +kernel⟩
theorem mw_X2_searchCover : MWb yX2_searchCover cX2_searchCover 4 none 3 := ⟨tb (List.mem_of_getElem? (i := 201) (by decide +kernel)), tb (List.mem_of_getElem? (i := 1) (by decide +kernel)), ⟨by decide +kernel, by decide +kernel⟩, by decide +kernel, by decide, by decide +kernel⟩
theorem mw_X2_searchPurchase : MWb yX2_searchPurchase cX2_searchPurchase 6 none 3 := ⟨tb (List.mem_of_getElem? (i := 610) (by decide +kernel)), tb (List.mem_of_getElem? (i := 1) (by decide +kernel)), ⟨by decide +kernel, by decide +kernel⟩, by decide +kernel, by decide, by decide +kernel⟩
theorem mw_X2_serveByBest : MWb yX2_serveByBest cX2_serveByBest 2 none 0 := ⟨tb (List.mem_of_getElem? (i := 582) (by decide +kernel)), tb (List.mem_of_getElem? (i := 1) (by decide +kernel)), ⟨by decide +kernel, by decide +kernel⟩, by decide +kernel, by decide, by decide +kernel⟩
theorem mw_X2_setMinimum : MWb yX2_setMinimum cX2_setMinimum 5 (some .int) 2 := ⟨tb (List.mem_of_getElem? (i := 445) (by decide +kernel)), tb (List.mem_of_getElem? (i := 1) (by decide +kernel)), ⟨by decide +kernel, by decide +kernel⟩, by decide +kernel, by decide, by decide +kernel⟩
theorem mw_X2_setPool : MWb yX2_setPool cX2_setPool 5 (some .int) 2 := ⟨tb (List.mem_of_getElem? (i := 404) (by decide +kernel)), tb (List.mem_of_getElem? (i := 1) (by decide +kernel)), ⟨by decide +kernel, by decide +kernel⟩, by decide +kernel, by decide, by decide +kernel⟩
theorem mw_X2_setPrice : MWb yX2_setPrice cX2_setPrice 5 (some .int) 2 := ⟨tb (List.mem_of_getElem? (i := 469) (by decide +kernel)), tb (List.mem_of_getElem? (i := 1) (by decide +kernel)), ⟨by decide +kernel, by decide +kernel⟩, by decide +kernel, by decide, by decide +kernel⟩
theorem mw_X2_setRights : MWb yX2_setRights cX2_setRights 7 (some .int) 4 := ⟨tb (List.mem_of_getElem? (i := 428) (by decide +kernel)), tb (List.mem_of_getElem? (i := 1) (by decide +kernel)), ⟨by decide +kernel, by decide +kernel⟩, by decide +kernel, by decide, by decide +kernel⟩
theorem mw_X2_setVersion : MWb yX2_setVersion cX2_setVersion 6 (some .int) 3 := ⟨tb (List.mem_of_getElem? (i := 396) (by decide +kernel)), tb (List.mem_of_getElem? (i := 1) (by decide +kernel)), ⟨by decide +kernel, by decide +kernel⟩, by decide +kernel, by decide, by decide +kernel⟩
theorem mw_X2_spare : MWb yX2_spare cX2_spare 3 (some .int) 1 := ⟨tb (List.mem_of_getElem? (i := 589) (by decide +kernel)), tb (List.mem_of_getElem? (i := 1) (by decide +kernel)), ⟨by decide +kernel, by decide +kernel⟩, by decide +kernel, by decide, by decide +kernel⟩
theorem mw_X2_spent : MWb yX2_spent cX2_spent 1 (some .long) 0 := ⟨tb (List.mem_of_getElem? (i := 244) (by decide +kernel)), tb (List.mem_of_getElem? (i := 1) (by decide +kernel)), ⟨by decide +kernel, by decide +kernel⟩, by decide +kernel, by decide, by decide +kernel⟩
theorem mw_X2_sumOfMissing : MWb yX2_sumOfMissing cX2_sumOfMissing 3 (some .int) 0 := ⟨tb (List.mem_of_getElem? (i := 629) (by decide +kernel)), tb (List.mem_of_getElem? (i := 1) (by decide +kernel)), ⟨by decide +kernel, by decide +kernel⟩, by decide +kernel, by decide, by decide +kernel⟩
theorem mw_X2_takeBack : MWb yX2_takeBack cX2_takeBack 3 none 2 := ⟨tb (List.mem_of_getElem? (i := 236) (by decide +kernel)), tb (List.mem_of_getElem? (i := 1) (by decide +kernel)), ⟨by decide +kernel, by decide +kernel⟩, by decide +kernel, by decide, by decide +kernel⟩
theorem mw_X2_toBuy : MWb yX2_toBuy cX2_toBuy 3 (some .int) 1 := ⟨tb (List.mem_of_getElem? (i := 636) (by decide +kernel)), tb (List.mem_of_getElem? (i := 1) (by decide +kernel)), ⟨by decide +kernel, by decide +kernel⟩, by decide +kernel, by decide, by decide +kernel⟩
theorem mw_X2_trueUp : MWb yX2_trueUp cX2_trueUp 3 (some .int) 0 := ⟨tb (List.mem_of_getElem? (i := 643) (by decide +kernel)), tb (List.mem_of_getElem? (i := 1) (by decide +kernel)), ⟨by decide +kernel, by decide +kernel⟩, by decide +kernel, by decide, by decide +kernel⟩
theorem mw_X2_tryCovers : MWb yX2_tryCovers cX2_tryCovers 3 none 2 := ⟨tb (List.mem_of_getElem? (i := 543) (by decide +kernel)), tb (List.mem_of_getElem? (i := 1) (by decide +kernel)), ⟨by decide +kernel, by decide +kernel⟩, by decide +kernel, by decide, by decide +kernel⟩
theorem mw_X2_tryPurchases : MWb yX2_tryPurchases cX2_tryPurchases 3 none 2 := ⟨tb (List.mem_of_getElem? (i := 625) (by decide +kernel)), tb (List.mem_of_getElem? (i := 1) (by decide +kernel)), ⟨by decide +kernel, by decide +kernel⟩, by decide +kernel, by decide, by decide +kernel⟩
theorem mw_X2_units : MWb yX2_units cX2_units 2 (some .int) 1 := ⟨tb (List.mem_of_getElem? (i := 486) (by decide +kernel)), tb (List.mem_of_getElem? (i := 1) (by decide +kernel)), ⟨by decide +kernel, by decide +kernel⟩, by decide +kernel, by decide, by decide +kernel⟩
theorem mw_X2_unitsForAll : MWb yX2_unitsForAll cX2_unitsForAll 4 (some .int) 1 := ⟨tb (List.mem_of_getElem? (i := 532) (by decide +kernel)), tb (List.mem_of_getElem? (i := 1) (by decide +kernel)), ⟨by decide +kernel, by decide +kernel⟩, by decide +kernel, by decide, by decide +kernel⟩
theorem mw_X2_used : MWb yX2_used cX2_used 3 (some .int) 1 := ⟨tb (List.mem_of_getElem? (i := 578) (by decide +kernel)), tb (List.mem_of_getElem? (i := 1) (by decide +kernel)), ⟨by decide +kernel, by decide +kernel⟩, by decide +kernel, by decide, by decide +kernel⟩
theorem mw_X2_why : MWb yX2_why cX2_why 4 (some .char) 2 := ⟨tb (List.mem_of_getElem? (i := 493) (by decide +kernel)), tb (List.mem_of_getElem? (i := 1) (by decide +kernel)), ⟨by decide +kernel, by decide +kernel⟩, by decide +kernel, by decide, by decide +kernel⟩
theorem mw_X3_addUnits : MWb yX3_addUnits cX3_addUnits 3 (some .int) 2 := ⟨tb (List.mem_of_getElem? (i := 812) (by decide +kernel)), tb (List.mem_of_getElem? (i := 4) (by decide +kernel)), ⟨by decide +kernel, by decide +kernel⟩, by decide +kernel, by decide, by decide +kernel⟩
theorem mw_X3_begin : MWb yX3_begin cX3_begin 2 none 0 := ⟨tb (List.mem_of_getElem? (i := 867) (by decide +kernel)), tb (List.mem_of_getElem? (i := 4) (by decide +kernel)), ⟨by decide +kernel, by decide +kernel⟩, by decide +kernel, by decide, by decide +kernel⟩
theorem mw_X3_beyond : MWb yX3_beyond cX3_beyond 3 (some .int) 1 := ⟨tb (List.mem_of_getElem? (i := 924) (by decide +kernel)), tb (List.mem_of_getElem? (i := 4) (by decide +kernel)), ⟨by decide +kernel, by decide +kernel⟩, by decide +kernel, by decide, by decide +kernel⟩
theorem mw_X3_buys : MWb yX3_buys cX3_buys 4 none 1 := ⟨tb (List.mem_of_getElem? (i := 916) (by decide +kernel)), tb (List.mem_of_getElem? (i := 4) (by decide +kernel)), ⟨by decide +kernel, by decide +kernel⟩, by decide +kernel, by decide, by decide +kernel⟩
theorem mw_X3_costs : MWb yX3_costs cX3_costs 3 (some .int) 0 := ⟨tb (List.mem_of_getElem? (i := 920) (by decide +kernel)), tb (List.mem_of_getElem? (i := 4) (by decide +kernel)), ⟨by decide +kernel, by decide +kernel⟩, by decide +kernel, by decide, by decide +kernel⟩
theorem mw_X3_cover : MWb yX3_cover cX3_cover 1 none 0 := ⟨tb (List.mem_of_getElem? (i := 863) (by decide +kernel)), tb (List.mem_of_getElem? (i := 4) (by decide +kernel)), ⟨by decide +kernel, by decide +kernel⟩, by decide +kernel, by decide, by decide +kernel⟩
theorem mw_X3_coverage : MWb yX3_coverage cX3_coverage 1 (some .float) 0 := ⟨tb (List.mem_of_getElem? (i := 944) (by decide +kernel)), tb (List.mem_of_getElem? (i := 4) (by decide +kernel)), ⟨by decide +kernel, by decide +kernel⟩, by decide +kernel, by decide, by decide +kernel⟩
theorem mw_X3_covered : MWb yX3_covered cX3_covered 1 (some .int) 0 := ⟨tb (List.mem_of_getElem? (i := 859) (by decide +kernel)), tb (List.mem_of_getElem? (i := 4) (by decide +kernel)), ⟨by decide +kernel, by decide +kernel⟩, by decide +kernel, by decide, by decide +kernel⟩
theorem mw_X3_coveredByTrying : MWb yX3_coveredByTrying cX3_coveredByTrying 1 (some .int) 0 := ⟨tb (List.mem_of_getElem? (i := 887) (by decide +kernel)), tb (List.mem_of_getElem? (i := 4) (by decide +kernel)), ⟨by decide +kernel, by decide +kernel⟩, by decide +kernel, by decide, by decide +kernel⟩
theorem mw_X3_covers : MWb yX3_covers cX3_covers 5 none 3 := ⟨tb (List.mem_of_getElem? (i := 871) (by decide +kernel)), tb (List.mem_of_getElem? (i := 4) (by decide +kernel)), ⟨by decide +kernel, by decide +kernel⟩, by decide +kernel, by decide, by decide +kernel⟩
theorem mw_X3_entitle : MWb yX3_entitle cX3_entitle 7 (some .int) 6 := ⟨tb (List.mem_of_getElem? (i := 792) (by decide +kernel)), tb (List.mem_of_getElem? (i := 4) (by decide +kernel)), ⟨by decide +kernel, by decide +kernel⟩, by decide +kernel, by decide, by decide +kernel⟩
theorem mw_X3_entitlementOf : MWb yX3_entitlementOf cX3_entitlementOf 2 (some .int) 1 := ⟨tb (List.mem_of_getElem? (i := 892) (by decide +kernel)), tb (List.mem_of_getElem? (i := 4) (by decide +kernel)), ⟨by decide +kernel, by decide +kernel⟩, by decide +kernel, by decide, by decide +kernel⟩
theorem mw_X3_fail : MWb yX3_fail cX3_fail 2 (some .int) 1 := ⟨tb (List.mem_of_getElem? (i := 759) (by decide +kernel)), tb (List.mem_of_getElem? (i := 4) (by decide +kernel)), ⟨by decide +kernel, by decide +kernel⟩, by decide +kernel, by decide, by decide +kernel⟩
theorem mw_X3_firstFitting : MWb yX3_firstFitting cX3_firstFitting 3 (some .int) 1 := ⟨tb (List.mem_of_getElem? (i := 843) (by decide +kernel)), tb (List.mem_of_getElem? (i := 4) (by decide +kernel)), ⟨by decide +kernel, by decide +kernel⟩, by decide +kernel, by decide, by decide +kernel⟩
theorem mw_X3_fits : MWb yX3_fits cX3_fits 3 (some .boolean) 2 := ⟨tb (List.mem_of_getElem? (i := 839) (by decide +kernel)), tb (List.mem_of_getElem? (i := 4) (by decide +kernel)), ⟨by decide +kernel, by decide +kernel⟩, by decide +kernel, by decide, by decide +kernel⟩
theorem mw_X3_fits_ : MWb yX3_fits_ cX3_fits_ 4 (some .int) 1 := ⟨tb (List.mem_of_getElem? (i := 835) (by decide +kernel)), tb (List.mem_of_getElem? (i := 4) (by decide +kernel)), ⟨by decide +kernel, by decide +kernel⟩, by decide +kernel, by decide, by decide +kernel⟩
theorem mw_X3_fitting : MWb yX3_fitting cX3_fitting 2 (some .int) 1 := ⟨tb (List.mem_of_getElem? (i := 831) (by decide +kernel)), tb (List.mem_of_getElem? (i := 4) (by decide +kernel)), ⟨by decide +kernel, by decide +kernel⟩, by decide +kernel, by decide, by decide +kernel⟩
theorem mw_X3_greatest : MWb yX3_greatest cX3_greatest 6 (some .int) 3 := ⟨tb (List.mem_of_getElem? (i := 855) (by decide +kernel)), tb (List.mem_of_getElem? (i := 4) (by decide +kernel)), ⟨by decide +kernel, by decide +kernel⟩, by decide +kernel, by decide, by decide +kernel⟩
theorem mw_X3_init : MWb yX3_init cX3_init 1 none 0 := ⟨tb (List.mem_of_getElem? (i := 656) (by decide +kernel)), tb (List.mem_of_getElem? (i := 4) (by decide +kernel)), ⟨by decide +kernel, by decide +kernel⟩, by decide +kernel, by decide, by decide +kernel⟩
theorem mw_X3_install : MWb yX3_install cX3_install 8 (some .int) 7 := ⟨tb (List.mem_of_getElem? (i := 752) (by decide +kernel)), tb (List.mem_of_getElem? (i := 4) (by decide +kernel)), ⟨by decide +kernel, by decide +kernel⟩, by decide +kernel, by decide, by decide +kernel⟩
theorem mw_X3_installs : MWb yX3_installs cX3_installs 1 (some .int) 0 := ⟨tb (List.mem_of_getElem? (i := 787) (by decide +kernel)), tb (List.mem_of_getElem? (i := 4) (by decide +kernel)), ⟨by decide +kernel, by decide +kernel⟩, by decide +kernel, by decide, by decide +kernel⟩
theorem mw_X3_isAllowed : MWb yX3_isAllowed cX3_isAllowed 2 (some .boolean) 1 := ⟨tb (List.mem_of_getElem? (i := 879) (by decide +kernel)), tb (List.mem_of_getElem? (i := 4) (by decide +kernel)), ⟨by decide +kernel, by decide +kernel⟩, by decide +kernel, by decide, by decide +kernel⟩
theorem mw_X3_isIn : MWb yX3_isIn cX3_isIn 3 (some .boolean) 3 := ⟨tb (List.mem_of_getElem? (i := 755) (by decide +kernel)), tb (List.mem_of_getElem? (i := 4) (by decide +kernel)), ⟨by decide +kernel, by decide +kernel⟩, by decide +kernel, by decide, by decide +kernel⟩
theorem mw_X3_isSet : MWb yX3_isSet cX3_isSet 4 (some .boolean) 2 := ⟨tb (List.mem_of_getElem? (i := 827) (by decide +kernel)), tb (List.mem_of_getElem? (i := 4) (by decide +kernel)), ⟨by decide +kernel, by decide +kernel⟩, by decide +kernel, by decide, by decide +kernel⟩
theorem mw_X3_isThere : MWb yX3_isThere cX3_isThere 2 (some .boolean) 1 := ⟨tb (List.mem_of_getElem? (i := 771) (by decide +kernel)), tb (List.mem_of_getElem? (i := 4) (by decide +kernel)), ⟨by decide +kernel, by decide +kernel⟩, by decide +kernel, by decide, by decide +kernel⟩
theorem mw_X3_moveTo : MWb yX3_moveTo cX3_moveTo 5 (some .int) 3 := ⟨tb (List.mem_of_getElem? (i := 775) (by decide +kernel)), tb (List.mem_of_getElem? (i := 4) (by decide +kernel)), ⟨by decide +kernel, by decide +kernel⟩, by decide +kernel, by decide, by decide +kernel⟩
theorem mw_X3_needs : MWb yX3_needs cX3_needs 5 (some .int) 1 := ⟨tb (List.mem_of_getElem? (i := 851) (by decide +kernel)), tb (List.mem_of_getElem? (i := 4) (by decide +kernel)), ⟨by decide +kernel, by decide +kernel⟩, by decide +kernel, by decide, by decide +kernel⟩
theorem mw_X3_noEntitlement : MWb yX3_noEntitlement cX3_noEntitlement 2 (some .boolean) 1 := ⟨tb (List.mem_of_getElem? (i := 800) (by decide +kernel)), tb (List.mem_of_getElem? (i := 4) (by decide +kernel)), ⟨by decide +kernel, by decide +kernel⟩, by decide +kernel, by decide, by decide +kernel⟩
theorem mw_X3_noInstall : MWb yX3_noInstall cX3_noInstall 2 (some .boolean) 1 := ⟨tb (List.mem_of_getElem? (i := 767) (by decide +kernel)), tb (List.mem_of_getElem? (i := 4) (by decide +kernel)), ⟨by decide +kernel, by decide +kernel⟩, by decide +kernel, by decide, by decide +kernel⟩
theorem mw_X3_noPurchase : MWb yX3_noPurchase cX3_noPurchase 3 (some .boolean) 1 := ⟨tb (List.mem_of_getElem? (i := 912) (by decide +kernel)), tb (List.mem_of_getElem? (i := 4) (by decide +kernel)), ⟨by decide +kernel, by decide +kernel⟩, by decide +kernel, by decide, by decide +kernel⟩
theorem mw_X3_purchase : MWb yX3_purchase cX3_purchase 1 (some .int) 0 := ⟨tb (List.mem_of_getElem? (i := 908) (by decide +kernel)), tb (List.mem_of_getElem? (i := 4) (by decide +kernel)), ⟨by decide +kernel, by decide +kernel⟩, by decide +kernel, by decide, by decide +kernel⟩
theorem mw_X3_purchaseByTrying : MWb yX3_purchaseByTrying cX3_purchaseByTrying 1 (some .int) 0 := ⟨tb (List.mem_of_getElem? (i := 928) (by decide +kernel)), tb (List.mem_of_getElem? (i := 4) (by decide +kernel)), ⟨by decide +kernel, by decide +kernel⟩, by decide +kernel, by decide, by decide +kernel⟩
theorem mw_X3_put : MWb yX3_put cX3_put 2 none 0 := ⟨tb (List.mem_of_getElem? (i := 883) (by decide +kernel)), tb (List.mem_of_getElem? (i := 4) (by decide +kernel)), ⟨by decide +kernel, by decide +kernel⟩, by decide +kernel, by decide, by decide +kernel⟩
theorem mw_X3_reason : MWb yX3_reason cX3_reason 2 (some .char) 1 := ⟨tb (List.mem_of_getElem? (i := 896) (by decide +kernel)), tb (List.mem_of_getElem? (i := 4) (by decide +kernel)), ⟨by decide +kernel, by decide +kernel⟩, by decide +kernel, by decide, by decide +kernel⟩
theorem mw_X3_reasonOf : MWb yX3_reasonOf cX3_reasonOf 3 (some .char) 2 := ⟨tb (List.mem_of_getElem? (i := 824) (by decide +kernel)), tb (List.mem_of_getElem? (i := 4) (by decide +kernel)), ⟨by decide +kernel, by decide +kernel⟩, by decide +kernel, by decide, by decide +kernel⟩
theorem mw_X3_retire : MWb yX3_retire cX3_retire 2 (some .int) 1 := ⟨tb (List.mem_of_getElem? (i := 763) (by decide +kernel)), tb (List.mem_of_getElem? (i := 4) (by decide +kernel)), ⟨by decide +kernel, by decide +kernel⟩, by decide +kernel, by decide, by decide +kernel⟩
theorem mw_X3_setMinimum : MWb yX3_setMinimum cX3_setMinimum 4 (some .int) 2 := ⟨tb (List.mem_of_getElem? (i := 804) (by decide +kernel)), tb (List.mem_of_getElem? (i := 4) (by decide +kernel)), ⟨by decide +kernel, by decide +kernel⟩, by decide +kernel, by decide, by decide +kernel⟩
theorem mw_X3_setPool : MWb yX3_setPool cX3_setPool 4 (some .int) 2 := ⟨tb (List.mem_of_getElem? (i := 783) (by decide +kernel)), tb (List.mem_of_getElem? (i := 4) (by decide +kernel)), ⟨by decide +kernel, by decide +kernel⟩, by decide +kernel, by decide, by decide +kernel⟩
theorem mw_X3_setPrice : MWb yX3_setPrice cX3_setPrice 4 (some .int) 2 := ⟨tb (List.mem_of_getElem? (i := 808) (by decide +kernel)), tb (List.mem_of_getElem? (i := 4) (by decide +kernel)), ⟨by decide +kernel, by decide +kernel⟩, by decide +kernel, by decide, by decide +kernel⟩
theorem mw_X3_setRights : MWb yX3_setRights cX3_setRights 6 (some .int) 4 := ⟨tb (List.mem_of_getElem? (i := 796) (by decide +kernel)), tb (List.mem_of_getElem? (i := 4) (by decide +kernel)), ⟨by decide +kernel, by decide +kernel⟩, by decide +kernel, by decide, by decide +kernel⟩
theorem mw_X3_setVersion : MWb yX3_setVersion cX3_setVersion 5 (some .int) 3 := ⟨tb (List.mem_of_getElem? (i := 779) (by decide +kernel)), tb (List.mem_of_getElem? (i := 4) (by decide +kernel)), ⟨by decide +kernel, by decide +kernel⟩, by decide +kernel, by decide, by decide +kernel⟩
theorem mw_X3_spare : MWb yX3_spare cX3_spare 2 (some .int) 1 := ⟨tb (List.mem_of_getElem? (i := 904) (by decide +kernel)), tb (List.mem_of_getElem? (i := 4) (by decide +kernel)), ⟨by decide +kernel, by decide +kernel⟩, by decide +kernel, by decide, by decide +kernel⟩
theorem mw_X3_spent : MWb yX3_spent cX3_spent 1 (some .long) 0 := ⟨tb (List.mem_of_getElem? (i := 940) (by decide +kernel)), tb (List.mem_of_getElem? (i := 4) (by decide +kernel)), ⟨by decide +kernel, by decide +kernel⟩, by decide +kernel, by decide, by decide +kernel⟩
theorem mw_X3_take : MWb yX3_take cX3_take 2 none 0 := ⟨tb (List.mem_of_getElem? (i := 875) (by decide +kernel)), tb (List.mem_of_getElem? (i := 4) (by decide +kernel)), ⟨by decide +kernel, by decide +kernel⟩, by decide +kernel, by decide, by decide +kernel⟩
theorem mw_X3_thrown : MWb yX3_thrown cX3_thrown 1 (some .int) 0 := ⟨tb (List.mem_of_getElem? (i := 748) (by decide +kernel)), tb (List.mem_of_getElem? (i := 4) (by decide +kernel)), ⟨by decide +kernel, by decide +kernel⟩, by decide +kernel, by decide, by decide +kernel⟩
theorem mw_X3_toBuy : MWb yX3_toBuy cX3_toBuy 2 (some .int) 1 := ⟨tb (List.mem_of_getElem? (i := 932) (by decide +kernel)), tb (List.mem_of_getElem? (i := 4) (by decide +kernel)), ⟨by decide +kernel, by decide +kernel⟩, by decide +kernel, by decide, by decide +kernel⟩
theorem mw_X3_trueUp : MWb yX3_trueUp cX3_trueUp 2 (some .int) 0 := ⟨tb (List.mem_of_getElem? (i := 936) (by decide +kernel)), tb (List.mem_of_getElem? (i := 4) (by decide +kernel)), ⟨by decide +kernel, by decide +kernel⟩, by decide +kernel, by decide, by decide +kernel⟩
theorem mw_X3_units : MWb yX3_units cX3_units 2 (some .int) 1 := ⟨tb (List.mem_of_getElem? (i := 816) (by decide +kernel)), tb (List.mem_of_getElem? (i := 4) (by decide +kernel)), ⟨by decide +kernel, by decide +kernel⟩, by decide +kernel, by decide, by decide +kernel⟩
theorem mw_X3_unitsForAll : MWb yX3_unitsForAll cX3_unitsForAll 3 (some .int) 1 := ⟨tb (List.mem_of_getElem? (i := 847) (by decide +kernel)), tb (List.mem_of_getElem? (i := 4) (by decide +kernel)), ⟨by decide +kernel, by decide +kernel⟩, by decide +kernel, by decide, by decide +kernel⟩
theorem mw_X3_used : MWb yX3_used cX3_used 2 (some .int) 1 := ⟨tb (List.mem_of_getElem? (i := 900) (by decide +kernel)), tb (List.mem_of_getElem? (i := 4) (by decide +kernel)), ⟨by decide +kernel, by decide +kernel⟩, by decide +kernel, by decide, by decide +kernel⟩
theorem mw_X3_why : MWb yX3_why cX3_why 3 (some .char) 2 := ⟨tb (List.mem_of_getElem? (i := 820) (by decide +kernel)), tb (List.mem_of_getElem? (i := 4) (by decide +kernel)), ⟨by decide +kernel, by decide +kernel⟩, by decide +kernel, by decide, by decide +kernel⟩
theorem mi_X0_changeNeed : MWi yX0_changeNeed RX0 := ⟨tb (List.mem_of_getElem? (i := 219) (by decide +kernel)), tp (List.mem_of_getElem? (i := 10) (by decide +kernel))⟩
theorem mi_X0_clearNeed : MWi yX0_clearNeed RX0 := ⟨tb (List.mem_of_getElem? (i := 185) (by decide +kernel)), tp (List.mem_of_getElem? (i := 3) (by decide +kernel))⟩
theorem mi_X0_countRights : MWi yX0_countRights RX0 := ⟨tb (List.mem_of_getElem? (i := 436) (by decide +kernel)), tp (List.mem_of_getElem? (i := 20) (by decide +kernel))⟩
theorem mi_X0_fill : MWi yX0_fill RX0 := ⟨tb (List.mem_of_getElem? (i := 420) (by decide +kernel)), tp (List.mem_of_getElem? (i := 18) (by decide +kernel))⟩
theorem mi_X0_fits : MWi yX0_fits RX0 := ⟨tb (List.mem_of_getElem? (i := 193) (by decide +kernel)), tp (List.mem_of_getElem? (i := 5) (by decide +kernel))⟩
theorem mi_X0_init : Cond.instanceMethod yX0_init ∈ lw_tbl := tb (List.mem_of_getElem? (i := 73) (by decide +kernel))
theorem mi_X0_misfit : MWi yX0_misfit RX0 := ⟨tb (List.mem_of_getElem? (i := 197) (by decide +kernel)), tp (List.mem_of_getElem? (i := 6) (by decide +kernel))⟩
theorem mi_X0_missing : MWi yX0_missing RX0 := ⟨tb (List.mem_of_getElem? (i := 231) (by decide +kernel)), tp (List.mem_of_getElem? (i := 12) (by decide +kernel))⟩
theorem mi_X0_missingPrice : MWi yX0_missingPrice RX0 := ⟨tb (List.mem_of_getElem? (i := 613) (by decide +kernel)), tp (List.mem_of_getElem? (i := 27) (by decide +kernel))⟩
theorem mi_X0_release : MWi yX0_release RX0 := ⟨tb (List.mem_of_getElem? (i := 239) (by decide +kernel)), tp (List.mem_of_getElem? (i := 14) (by decide +kernel))⟩
theorem mi_X0_serve : MWi yX0_serve RX0 := ⟨tb (List.mem_of_getElem? (i := 215) (by decide +kernel)), tp (List.mem_of_getElem? (i := 9) (by decide +kernel))⟩
theorem mi_X0_unitsOfHolder : MWi yX0_unitsOfHolder RX0 := ⟨tb (List.mem_of_getElem? (i := 227) (by decide +kernel)), tp (List.mem_of_getElem? (i := 11) (by decide +kernel))⟩
theorem mi_X1_fill : MWi yX1_fill RX1 := ⟨tb (List.mem_of_getElem? (i := 351) (by decide +kernel)), tp (List.mem_of_getElem? (i := 16) (by decide +kernel))⟩
theorem mi_X1_init : Cond.instanceMethod yX1_init ∈ lw_tbl := tb (List.mem_of_getElem? (i := 27) (by decide +kernel))
theorem mi_X2_addUnits : MWi yX2_addUnits RX2 := ⟨tb (List.mem_of_getElem? (i := 475) (by decide +kernel)), tb (List.mem_of_getElem? (i := 476) (by decide +kernel))⟩
theorem mi_X2_checkAllCanBeCovered : MWi yX2_checkAllCanBeCovered RX2 := ⟨tb (List.mem_of_getElem? (i := 600) (by decide +kernel)), tp (List.mem_of_getElem? (i := 25) (by decide +kernel))⟩
theorem mi_X2_clearNeeds : MWi yX2_clearNeeds RX2 := ⟨tb (List.mem_of_getElem? (i := 181) (by decide +kernel)), tp (List.mem_of_getElem? (i := 2) (by decide +kernel))⟩
theorem mi_X2_clearSearch : MWi yX2_clearSearch RX2 := ⟨tb (List.mem_of_getElem? (i := 177) (by decide +kernel)), tp (List.mem_of_getElem? (i := 1) (by decide +kernel))⟩
theorem mi_X2_countFitting : MWi yX2_countFitting RX2 := ⟨tb (List.mem_of_getElem? (i := 189) (by decide +kernel)), tp (List.mem_of_getElem? (i := 4) (by decide +kernel))⟩
theorem mi_X2_countGiven : MWi yX2_countGiven RX2 := ⟨tb (List.mem_of_getElem? (i := 546) (by decide +kernel)), tp (List.mem_of_getElem? (i := 21) (by decide +kernel))⟩
theorem mi_X2_coverage : MWi yX2_coverage RX2 := ⟨tb (List.mem_of_getElem? (i := 648) (by decide +kernel)), tb (List.mem_of_getElem? (i := 649) (by decide +kernel))⟩
theorem mi_X2_covered : MWi yX2_covered RX2 := ⟨tb (List.mem_of_getElem? (i := 168) (by decide +kernel)), tb (List.mem_of_getElem? (i := 169) (by decide +kernel))⟩
theorem mi_X2_coveredByTrying : MWi yX2_coveredByTrying RX2 := ⟨tb (List.mem_of_getElem? (i := 537) (by decide +kernel)), tb (List.mem_of_getElem? (i := 538) (by decide +kernel))⟩
theorem mi_X2_entitle : MWi yX2_entitle RX2 := ⟨tb (List.mem_of_getElem? (i := 410) (by decide +kernel)), tb (List.mem_of_getElem? (i := 411) (by decide +kernel))⟩
theorem mi_X2_entitlementAt : MWi yX2_entitlementAt RX2 := ⟨tb (List.mem_of_getElem? (i := 431) (by decide +kernel)), tp (List.mem_of_getElem? (i := 19) (by decide +kernel))⟩
theorem mi_X2_entitlementByCover : MWi yX2_entitlementByCover RX2 := ⟨tb (List.mem_of_getElem? (i := 561) (by decide +kernel)), tp (List.mem_of_getElem? (i := 23) (by decide +kernel))⟩
theorem mi_X2_entitlementOf : MWi yX2_entitlementOf RX2 := ⟨tb (List.mem_of_getElem? (i := 556) (by decide +kernel)), tb (List.mem_of_getElem? (i := 557) (by decide +kernel))⟩
theorem mi_X2_findCover : MWi yX2_findCover RX2 := ⟨tb (List.mem_of_getElem? (i := 173) (by decide +kernel)), tp (List.mem_of_getElem? (i := 0) (by decide +kernel))⟩
theorem mi_X2_findPurchase : MWi yX2_findPurchase RX2 := ⟨tb (List.mem_of_getElem? (i := 605) (by decide +kernel)), tp (List.mem_of_getElem? (i := 26) (by decide +kernel))⟩
theorem mi_X2_firstFitting : MWi yX2_firstFitting RX2 := ⟨tb (List.mem_of_getElem? (i := 507) (by decide +kernel)), tb (List.mem_of_getElem? (i := 508) (by decide +kernel))⟩
theorem mi_X2_fitting : MWi yX2_fitting RX2 := ⟨tb (List.mem_of_getElem? (i := 499) (by decide +kernel)), tb (List.mem_of_getElem? (i := 500) (by decide +kernel))⟩
theorem mi_X2_give : MWi yX2_give RX2 := ⟨tb (List.mem_of_getElem? (i := 211) (by decide +kernel)), tp (List.mem_of_getElem? (i := 8) (by decide +kernel))⟩
theorem mi_X2_init : Cond.instanceMethod yX2_init ∈ lw_tbl := tb (List.mem_of_getElem? (i := 18) (by decide +kernel))
theorem mi_X2_install : MWi yX2_install RX2 := ⟨tb (List.mem_of_getElem? (i := 251) (by decide +kernel)), tb (List.mem_of_getElem? (i := 252) (by decide +kernel))⟩
theorem mi_X2_installAt : MWi yX2_installAt RX2 := ⟨tb (List.mem_of_getElem? (i := 363) (by decide +kernel)), tp (List.mem_of_getElem? (i := 17) (by decide +kernel))⟩
theorem mi_X2_installs : MWi yX2_installs RX2 := ⟨tb (List.mem_of_getElem? (i := 157) (by decide +kernel)), tb (List.mem_of_getElem? (i := 158) (by decide +kernel))⟩
theorem mi_X2_isAllowed : MWi yX2_isAllowed RX2 := ⟨tb (List.mem_of_getElem? (i := 550) (by decide +kernel)), tp (List.mem_of_getElem? (i := 22) (by decide +kernel))⟩
theorem mi_X2_isBetween : Cond.static yX2_isBetween ∈ lw_tbl := tb (List.mem_of_getElem? (i := 165) (by decide +kernel))
theorem mi_X2_isHolder : Cond.static yX2_isHolder ∈ lw_tbl := tb (List.mem_of_getElem? (i := 258) (by decide +kernel))
theorem mi_X2_isMetric : Cond.static yX2_isMetric ∈ lw_tbl := tb (List.mem_of_getElem? (i := 414) (by decide +kernel))
theorem mi_X2_isPool : Cond.static yX2_isPool ∈ lw_tbl := tb (List.mem_of_getElem? (i := 261) (by decide +kernel))
theorem mi_X2_isRelease : Cond.static yX2_isRelease ∈ lw_tbl := tb (List.mem_of_getElem? (i := 255) (by decide +kernel))
theorem mi_X2_isThere : MWi yX2_isThere RX2 := ⟨tb (List.mem_of_getElem? (i := 161) (by decide +kernel)), tb (List.mem_of_getElem? (i := 162) (by decide +kernel))⟩
theorem mi_X2_keepAsBest : MWi yX2_keepAsBest RX2 := ⟨tb (List.mem_of_getElem? (i := 204) (by decide +kernel)), tp (List.mem_of_getElem? (i := 7) (by decide +kernel))⟩
theorem mi_X2_moveTo : MWi yX2_moveTo RX2 := ⟨tb (List.mem_of_getElem? (i := 386) (by decide +kernel)), tb (List.mem_of_getElem? (i := 387) (by decide +kernel))⟩
theorem mi_X2_purchase : MWi yX2_purchase RX2 := ⟨tb (List.mem_of_getElem? (i := 595) (by decide +kernel)), tb (List.mem_of_getElem? (i := 596) (by decide +kernel))⟩
theorem mi_X2_purchaseByTrying : MWi yX2_purchaseByTrying RX2 := ⟨tb (List.mem_of_getElem? (i := 620) (by decide +kernel)), tb (List.mem_of_getElem? (i := 621) (by decide +kernel))⟩
theorem mi_X2_reason : MWi yX2_reason RX2 := ⟨tb (List.mem_of_getElem? (i := 568) (by decide +kernel)), tb (List.mem_of_getElem? (i := 569) (by decide +kernel))⟩
theorem mi_X2_retire : MWi yX2_retire RX2 := ⟨tb (List.mem_of_getElem? (i := 358) (by decide +kernel)), tb (List.mem_of_getElem? (i := 359) (by decide +kernel))⟩
theorem mi_X2_searchCover : Cond.static yX2_searchCover ∈ lw_tbl := tb (List.mem_of_getElem? (i := 200) (by decide +kernel))
theorem mi_X2_searchPurchase : Cond.static yX2_searchPurchase ∈ lw_tbl := tb (List.mem_of_getElem? (i := 609) (by decide +kernel))
theorem mi_X2_serveByBest : MWi yX2_serveByBest RX2 := ⟨tb (List.mem_of_getElem? (i := 581) (by decide +kernel)), tp (List.mem_of_getElem? (i := 24) (by decide +kernel))⟩
theorem mi_X2_setMinimum : MWi yX2_setMinimum RX2 := ⟨tb (List.mem_of_getElem? (i := 443) (by decide +kernel)), tb (List.mem_of_getElem? (i := 444) (by decide +kernel))⟩
theorem mi_X2_setPool : MWi yX2_setPool RX2 := ⟨tb (List.mem_of_getElem? (i := 402) (by decide +kernel)), tb (List.mem_of_getElem? (i := 403) (by decide +kernel))⟩
theorem mi_X2_setPrice : MWi yX2_setPrice RX2 := ⟨tb (List.mem_of_getElem? (i := 467) (by decide +kernel)), tb (List.mem_of_getElem? (i := 468) (by decide +kernel))⟩
theorem mi_X2_setRights : MWi yX2_setRights RX2 := ⟨tb (List.mem_of_getElem? (i := 426) (by decide +kernel)), tb (List.mem_of_getElem? (i := 427) (by decide +kernel))⟩
theorem mi_X2_setVersion : MWi yX2_setVersion RX2 := ⟨tb (List.mem_of_getElem? (i := 394) (by decide +kernel)), tb (List.mem_of_getElem? (i := 395) (by decide +kernel))⟩
theorem mi_X2_spare : MWi yX2_spare RX2 := ⟨tb (List.mem_of_getElem? (i := 587) (by decide +kernel)), tb (List.mem_of_getElem? (i := 588) (by decide +kernel))⟩
theorem mi_X2_spent : MWi yX2_spent RX2 := ⟨tb (List.mem_of_getElem? (i := 242) (by decide +kernel)), tb (List.mem_of_getElem? (i := 243) (by decide +kernel))⟩
theorem mi_X2_sumOfMissing : MWi yX2_sumOfMissing RX2 := ⟨tb (List.mem_of_getElem? (i := 628) (by decide +kernel)), tp (List.mem_of_getElem? (i := 28) (by decide +kernel))⟩
theorem mi_X2_takeBack : MWi yX2_takeBack RX2 := ⟨tb (List.mem_of_getElem? (i := 235) (by decide +kernel)), tp (List.mem_of_getElem? (i := 13) (by decide +kernel))⟩
theorem mi_X2_toBuy : MWi yX2_toBuy RX2 := ⟨tb (List.mem_of_getElem? (i := 634) (by decide +kernel)), tb (List.mem_of_getElem? (i := 635) (by decide +kernel))⟩
theorem mi_X2_trueUp : MWi yX2_trueUp RX2 := ⟨tb (List.mem_of_getElem? (i := 641) (by decide +kernel)), tb (List.mem_of_getElem? (i := 642) (by decide +kernel))⟩
theorem mi_X2_tryCovers : Cond.static yX2_tryCovers ∈ lw_tbl := tb (List.mem_of_getElem? (i := 542) (by decide +kernel))
theorem mi_X2_tryPurchases : Cond.static yX2_tryPurchases ∈ lw_tbl := tb (List.mem_of_getElem? (i := 624) (by decide +kernel))
theorem mi_X2_units : MWi yX2_units RX2 := ⟨tb (List.mem_of_getElem? (i := 484) (by decide +kernel)), tb (List.mem_of_getElem? (i := 485) (by decide +kernel))⟩
theorem mi_X2_unitsForAll : MWi yX2_unitsForAll RX2 := ⟨tb (List.mem_of_getElem? (i := 530) (by decide +kernel)), tb (List.mem_of_getElem? (i := 531) (by decide +kernel))⟩
theorem mi_X2_used : MWi yX2_used RX2 := ⟨tb (List.mem_of_getElem? (i := 576) (by decide +kernel)), tb (List.mem_of_getElem? (i := 577) (by decide +kernel))⟩
theorem mi_X2_why : MWi yX2_why RX2 := ⟨tb (List.mem_of_getElem? (i := 491) (by decide +kernel)), tb (List.mem_of_getElem? (i := 492) (by decide +kernel))⟩
theorem mi_X3_addUnits : MWi yX3_addUnits RX3 := ⟨tb (List.mem_of_getElem? (i := 810) (by decide +kernel)), tb (List.mem_of_getElem? (i := 811) (by decide +kernel))⟩
theorem mi_X3_begin : MWi yX3_begin RX3 := ⟨tb (List.mem_of_getElem? (i := 866) (by decide +kernel)), tp (List.mem_of_getElem? (i := 38) (by decide +kernel))⟩
theorem mi_X3_beyond : MWi yX3_beyond RX3 := ⟨tb (List.mem_of_getElem? (i := 923) (by decide +kernel)), tp (List.mem_of_getElem? (i := 46) (by decide +kernel))⟩
theorem mi_X3_buys : MWi yX3_buys RX3 := ⟨tb (List.mem_of_getElem? (i := 915) (by decide +kernel)), tp (List.mem_of_getElem? (i := 44) (by decide +kernel))⟩
theorem mi_X3_costs : MWi yX3_costs RX3 := ⟨tb (List.mem_of_getElem? (i := 919) (by decide +kernel)), tp (List.mem_of_getElem? (i := 45) (by decide +kernel))⟩
theorem mi_X3_cover : MWi yX3_cover RX3 := ⟨tb (List.mem_of_getElem? (i := 862) (by decide +kernel)), tp (List.mem_of_getElem? (i := 37) (by decide +kernel))⟩
theorem mi_X3_coverage : MWi yX3_coverage RX3 := ⟨tb (List.mem_of_getElem? (i := 942) (by decide +kernel)), tb (List.mem_of_getElem? (i := 943) (by decide +kernel))⟩
theorem mi_X3_covered : MWi yX3_covered RX3 := ⟨tb (List.mem_of_getElem? (i := 857) (by decide +kernel)), tb (List.mem_of_getElem? (i := 858) (by decide +kernel))⟩
theorem mi_X3_coveredByTrying : MWi yX3_coveredByTrying RX3 := ⟨tb (List.mem_of_getElem? (i := 885) (by decide +kernel)), tb (List.mem_of_getElem? (i := 886) (by decide +kernel))⟩
theorem mi_X3_covers : MWi yX3_covers RX3 := ⟨tb (List.mem_of_getElem? (i := 870) (by decide +kernel)), tp (List.mem_of_getElem? (i := 39) (by decide +kernel))⟩
theorem mi_X3_entitle : MWi yX3_entitle RX3 := ⟨tb (List.mem_of_getElem? (i := 790) (by decide +kernel)), tb (List.mem_of_getElem? (i := 791) (by decide +kernel))⟩
theorem mi_X3_entitlementOf : MWi yX3_entitlementOf RX3 := ⟨tb (List.mem_of_getElem? (i := 890) (by decide +kernel)), tb (List.mem_of_getElem? (i := 891) (by decide +kernel))⟩
theorem mi_X3_fail : MWi yX3_fail RX3 := ⟨tb (List.mem_of_getElem? (i := 758) (by decide +kernel)), tp (List.mem_of_getElem? (i := 29) (by decide +kernel))⟩
theorem mi_X3_firstFitting : MWi yX3_firstFitting RX3 := ⟨tb (List.mem_of_getElem? (i := 841) (by decide +kernel)), tb (List.mem_of_getElem? (i := 842) (by decide +kernel))⟩
theorem mi_X3_fits : MWi yX3_fits RX3 := ⟨tb (List.mem_of_getElem? (i := 838) (by decide +kernel)), tp (List.mem_of_getElem? (i := 34) (by decide +kernel))⟩
theorem mi_X3_fits_ : MWi yX3_fits_ RX3 := ⟨tb (List.mem_of_getElem? (i := 834) (by decide +kernel)), tp (List.mem_of_getElem? (i := 33) (by decide +kernel))⟩
theorem mi_X3_fitting : MWi yX3_fitting RX3 := ⟨tb (List.mem_of_getElem? (i := 829) (by decide +kernel)), tb (List.mem_of_getElem? (i := 830) (by decide +kernel))⟩
theorem mi_X3_greatest : MWi yX3_greatest RX3 := ⟨tb (List.mem_of_getElem? (i := 854) (by decide +kernel)), tp (List.mem_of_getElem? (i := 36) (by decide +kernel))⟩
theorem mi_X3_init : Cond.instanceMethod yX3_init ∈ lw_tbl := tb (List.mem_of_getElem? (i := 655) (by decide +kernel))
theorem mi_X3_install : MWi yX3_install RX3 := ⟨tb (List.mem_of_getElem? (i := 750) (by decide +kernel)), tb (List.mem_of_getElem? (i := 751) (by decide +kernel))⟩
theorem mi_X3_installs : MWi yX3_installs RX3 := ⟨tb (List.mem_of_getElem? (i := 785) (by decide +kernel)), tb (List.mem_of_getElem? (i := 786) (by decide +kernel))⟩
theorem mi_X3_isAllowed : MWi yX3_isAllowed RX3 := ⟨tb (List.mem_of_getElem? (i := 878) (by decide +kernel)), tp (List.mem_of_getElem? (i := 41) (by decide +kernel))⟩
theorem mi_X3_isIn : Cond.static yX3_isIn ∈ lw_tbl := tb (List.mem_of_getElem? (i := 754) (by decide +kernel))
theorem mi_X3_isSet : Cond.static yX3_isSet ∈ lw_tbl := tb (List.mem_of_getElem? (i := 826) (by decide +kernel))
theorem mi_X3_isThere : MWi yX3_isThere RX3 := ⟨tb (List.mem_of_getElem? (i := 769) (by decide +kernel)), tb (List.mem_of_getElem? (i := 770) (by decide +kernel))⟩
theorem mi_X3_moveTo : MWi yX3_moveTo RX3 := ⟨tb (List.mem_of_getElem? (i := 773) (by decide +kernel)), tb (List.mem_of_getElem? (i := 774) (by decide +kernel))⟩
theorem mi_X3_needs : MWi yX3_needs RX3 := ⟨tb (List.mem_of_getElem? (i := 850) (by decide +kernel)), tp (List.mem_of_getElem? (i := 35) (by decide +kernel))⟩
theorem mi_X3_noEntitlement : MWi yX3_noEntitlement RX3 := ⟨tb (List.mem_of_getElem? (i := 799) (by decide +kernel)), tp (List.mem_of_getElem? (i := 31) (by decide +kernel))⟩
theorem mi_X3_noInstall : MWi yX3_noInstall RX3 := ⟨tb (List.mem_of_getElem? (i := 766) (by decide +kernel)), tp (List.mem_of_getElem? (i := 30) (by decide +kernel))⟩
theorem mi_X3_noPurchase : MWi yX3_noPurchase RX3 := ⟨tb (List.mem_of_getElem? (i := 911) (by decide +kernel)), tp (List.mem_of_getElem? (i := 43) (by decide +kernel))⟩
theorem mi_X3_purchase : MWi yX3_purchase RX3 := ⟨tb (List.mem_of_getElem? (i := 906) (by decide +kernel)), tb (List.mem_of_getElem? (i := 907) (by decide +kernel))⟩
theorem mi_X3_purchaseByTrying : MWi yX3_purchaseByTrying RX3 := ⟨tb (List.mem_of_getElem? (i := 926) (by decide +kernel)), tb (List.mem_of_getElem? (i := 927) (by decide +kernel))⟩
theorem mi_X3_put : MWi yX3_put RX3 := ⟨tb (List.mem_of_getElem? (i := 882) (by decide +kernel)), tp (List.mem_of_getElem? (i := 42) (by decide +kernel))⟩
theorem mi_X3_reason : MWi yX3_reason RX3 := ⟨tb (List.mem_of_getElem? (i := 894) (by decide +kernel)), tb (List.mem_of_getElem? (i := 895) (by decide +kernel))⟩
theorem mi_X3_reasonOf : MWi yX3_reasonOf RX3 := ⟨tb (List.mem_of_getElem? (i := 823) (by decide +kernel)), tp (List.mem_of_getElem? (i := 32) (by decide +kernel))⟩
theorem mi_X3_retire : MWi yX3_retire RX3 := ⟨tb (List.mem_of_getElem? (i := 761) (by decide +kernel)), tb (List.mem_of_getElem? (i := 762) (by decide +kernel))⟩
theorem mi_X3_setMinimum : MWi yX3_setMinimum RX3 := ⟨tb (List.mem_of_getElem? (i := 802) (by decide +kernel)), tb (List.mem_of_getElem? (i := 803) (by decide +kernel))⟩
theorem mi_X3_setPool : MWi yX3_setPool RX3 := ⟨tb (List.mem_of_getElem? (i := 781) (by decide +kernel)), tb (List.mem_of_getElem? (i := 782) (by decide +kernel))⟩
theorem mi_X3_setPrice : MWi yX3_setPrice RX3 := ⟨tb (List.mem_of_getElem? (i := 806) (by decide +kernel)), tb (List.mem_of_getElem? (i := 807) (by decide +kernel))⟩
theorem mi_X3_setRights : MWi yX3_setRights RX3 := ⟨tb (List.mem_of_getElem? (i := 794) (by decide +kernel)), tb (List.mem_of_getElem? (i := 795) (by decide +kernel))⟩
theorem mi_X3_setVersion : MWi yX3_setVersion RX3 := ⟨tb (List.mem_of_getElem? (i := 777) (by decide +kernel)), tb (List.mem_of_getElem? (i := 778) (by decide +kernel))⟩
theorem mi_X3_spare : MWi yX3_spare RX3 := ⟨tb (List.mem_of_getElem? (i := 902) (by decide +kernel)), tb (List.mem_of_getElem? (i := 903) (by decide +kernel))⟩
theorem mi_X3_spent : MWi yX3_spent RX3 := ⟨tb (List.mem_of_getElem? (i := 938) (by decide +kernel)), tb (List.mem_of_getElem? (i := 939) (by decide +kernel))⟩
theorem mi_X3_take : MWi yX3_take RX3 := ⟨tb (List.mem_of_getElem? (i := 874) (by decide +kernel)), tp (List.mem_of_getElem? (i := 40) (by decide +kernel))⟩
theorem mi_X3_thrown : MWi yX3_thrown RX3 := ⟨tb (List.mem_of_getElem? (i := 746) (by decide +kernel)), tb (List.mem_of_getElem? (i := 747) (by decide +kernel))⟩
theorem mi_X3_toBuy : MWi yX3_toBuy RX3 := ⟨tb (List.mem_of_getElem? (i := 930) (by decide +kernel)), tb (List.mem_of_getElem? (i := 931) (by decide +kernel))⟩
theorem mi_X3_trueUp : MWi yX3_trueUp RX3 := ⟨tb (List.mem_of_getElem? (i := 934) (by decide +kernel)), tb (List.mem_of_getElem? (i := 935) (by decide +kernel))⟩
theorem mi_X3_units : MWi yX3_units RX3 := ⟨tb (List.mem_of_getElem? (i := 814) (by decide +kernel)), tb (List.mem_of_getElem? (i := 815) (by decide +kernel))⟩
theorem mi_X3_unitsForAll : MWi yX3_unitsForAll RX3 := ⟨tb (List.mem_of_getElem? (i := 845) (by decide +kernel)), tb (List.mem_of_getElem? (i := 846) (by decide +kernel))⟩
theorem mi_X3_used : MWi yX3_used RX3 := ⟨tb (List.mem_of_getElem? (i := 898) (by decide +kernel)), tb (List.mem_of_getElem? (i := 899) (by decide +kernel))⟩
theorem mi_X3_why : MWi yX3_why RX3 := ⟨tb (List.mem_of_getElem? (i := 818) (by decide +kernel)), tb (List.mem_of_getElem? (i := 819) (by decide +kernel))⟩
theorem kl_48 : Cond.classLink "Entitled" 48 "java/lang/IllegalArgumentException" ∈ lw_tbl := tb (List.mem_of_getElem? (i := 263) (by decide +kernel))
theorem kl_62 : Cond.classLink "Entitled" 62 "java/lang/IllegalStateException" ∈ lw_tbl := tb (List.mem_of_getElem? (i := 333) (by decide +kernel))
theorem kl_237 : Cond.classLink "Entitled" 237 "java/lang/IndexOutOfBoundsException" ∈ lw_tbl := tb (List.mem_of_getElem? (i := 366) (by decide +kernel))
theorem kl_137 : Cond.classLink "Entitled" 137 "java/lang/UnsupportedOperationException" ∈ lw_tbl := tb (List.mem_of_getElem? (i := 447) (by decide +kernel))
theorem kl_169 : Cond.classLink "Entitled" 169 "java/util/NoSuchElementException" ∈ lw_tbl := tb (List.mem_of_getElem? (i := 510) (by decide +kernel))
theorem ki_xIAE : Cond.initialized xIAE ∈ lw_tbl := tb (List.mem_of_getElem? (i := 8) (by decide +kernel))
theorem ki_xISE : Cond.initialized xISE ∈ lw_tbl := tb (List.mem_of_getElem? (i := 9) (by decide +kernel))
theorem ki_xIOB : Cond.initialized xIOB ∈ lw_tbl := tb (List.mem_of_getElem? (i := 10) (by decide +kernel))
theorem ki_xUOE : Cond.initialized xUOE ∈ lw_tbl := tb (List.mem_of_getElem? (i := 11) (by decide +kernel))
theorem ki_xNSE : Cond.initialized xNSE ∈ lw_tbl := tb (List.mem_of_getElem? (i := 12) (by decide +kernel))
