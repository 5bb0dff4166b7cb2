theorem dX0_init_0 : decode cX0_init 0 = .ok (.aload_n 0, 1) := by decide +kernel
theorem dX0_init_1 : decode cX0_init 1 = .ok (.invokespecial 3, 3) := by decide +kernel
theorem dX0_init_4 : decode cX0_init 4 = .ok (.aload_n 0, 1) := by decide +kernel
theorem dX0_init_5 : decode cX0_init 5 = .ok (.bipush 40, 2) := by decide +kernel
theorem dX0_init_7 : decode cX0_init 7 = .ok (.newarray .int, 2) := by decide +kernel
theorem dX0_init_9 : decode cX0_init 9 = .ok (.putfield 9, 3) := by decide +kernel
theorem dX0_init_12 : decode cX0_init 12 = .ok (.return_, 1) := by decide +kernel
theorem dX0_fill_0 : decode cX0_fill 0 = .ok (.aload_n 0, 1) := by decide +kernel
theorem dX0_fill_1 : decode cX0_fill 1 = .ok (.iload_n 1, 1) := by decide +kernel
theorem dX0_fill_2 : decode cX0_fill 2 = .ok (.putfield 15, 3) := by decide +kernel
theorem dX0_fill_5 : decode cX0_fill 5 = .ok (.aload_n 0, 1) := by decide +kernel
theorem dX0_fill_6 : decode cX0_fill 6 = .ok (.iload_n 2, 1) := by decide +kernel
theorem dX0_fill_7 : decode cX0_fill 7 = .ok (.putfield 19, 3) := by decide +kernel
theorem dX0_fill_10 : decode cX0_fill 10 = .ok (.aload_n 0, 1) := by decide +kernel
theorem dX0_fill_11 : decode cX0_fill 11 = .ok (.iload_n 3, 1) := by decide +kernel
theorem dX0_fill_12 : decode cX0_fill 12 = .ok (.putfield 22, 3) := by decide +kernel
theorem dX0_fill_15 : decode cX0_fill 15 = .ok (.aload_n 0, 1) := by decide +kernel
theorem dX0_fill_16 : decode cX0_fill 16 = .ok (.iload 4, 2) := by decide +kernel
theorem dX0_fill_18 : decode cX0_fill 18 = .ok (.putfield 25, 3) := by decide +kernel
theorem dX0_fill_21 : decode cX0_fill 21 = .ok (.aload_n 0, 1) := by decide +kernel
theorem dX0_fill_22 : decode cX0_fill 22 = .ok (.iload 5, 2) := by decide +kernel
theorem dX0_fill_24 : decode cX0_fill 24 = .ok (.putfield 29, 3) := by decide +kernel
theorem dX0_fill_27 : decode cX0_fill 27 = .ok (.aload_n 0, 1) := by decide +kernel
theorem dX0_fill_28 : decode cX0_fill 28 = .ok (.iload 6, 2) := by decide +kernel
theorem dX0_fill_30 : decode cX0_fill 30 = .ok (.putfield 32, 3) := by decide +kernel
theorem dX0_fill_33 : decode cX0_fill 33 = .ok (.aload_n 0, 1) := by decide +kernel
theorem dX0_fill_34 : decode cX0_fill 34 = .ok (.iconst 1, 1) := by decide +kernel
theorem dX0_fill_35 : decode cX0_fill 35 = .ok (.putfield 35, 3) := by decide +kernel
theorem dX0_fill_38 : decode cX0_fill 38 = .ok (.aload_n 0, 1) := by decide +kernel
theorem dX0_fill_39 : decode cX0_fill 39 = .ok (.bipush 10, 2) := by decide +kernel
theorem dX0_fill_41 : decode cX0_fill 41 = .ok (.putfield 38, 3) := by decide +kernel
theorem dX0_fill_44 : decode cX0_fill 44 = .ok (.return_, 1) := by decide +kernel
theorem dX0_countRights_0 : decode cX0_countRights 0 = .ok (.aload_n 0, 1) := by decide +kernel
theorem dX0_countRights_1 : decode cX0_countRights 1 = .ok (.getfield 41, 3) := by decide +kernel
theorem dX0_countRights_4 : decode cX0_countRights 4 = .ok (.ifCond .eq 7, 3) := by decide +kernel
theorem dX0_countRights_7 : decode cX0_countRights 7 = .ok (.iconst 1, 1) := by decide +kernel
theorem dX0_countRights_8 : decode cX0_countRights 8 = .ok (.goto 4, 3) := by decide +kernel
theorem dX0_countRights_11 : decode cX0_countRights 11 = .ok (.iconst 0, 1) := by decide +kernel
theorem dX0_countRights_12 : decode cX0_countRights 12 = .ok (.aload_n 0, 1) := by decide +kernel
theorem dX0_countRights_13 : decode cX0_countRights 13 = .ok (.getfield 45, 3) := by decide +kernel
theorem dX0_countRights_16 : decode cX0_countRights 16 = .ok (.ifCond .eq 7, 3) := by decide +kernel
theorem dX0_countRights_19 : decode cX0_countRights 19 = .ok (.iconst 1, 1) := by decide +kernel
theorem dX0_countRights_20 : decode cX0_countRights 20 = .ok (.goto 4, 3) := by decide +kernel
theorem dX0_countRights_23 : decode cX0_countRights 23 = .ok (.iconst 0, 1) := by decide +kernel
theorem dX0_countRights_24 : decode cX0_countRights 24 = .ok (.iadd, 1) := by decide +kernel
theorem dX0_countRights_25 : decode cX0_countRights 25 = .ok (.aload_n 0, 1) := by decide +kernel
theorem dX0_countRights_26 : decode cX0_countRights 26 = .ok (.getfield 48, 3) := by decide +kernel
theorem dX0_countRights_29 : decode cX0_countRights 29 = .ok (.ifCond .eq 7, 3) := by decide +kernel
theorem dX0_countRights_32 : decode cX0_countRights 32 = .ok (.iconst 1, 1) := by decide +kernel
theorem dX0_countRights_33 : decode cX0_countRights 33 = .ok (.goto 4, 3) := by decide +kernel
theorem dX0_countRights_36 : decode cX0_countRights 36 = .ok (.iconst 0, 1) := by decide +kernel
theorem dX0_countRights_37 : decode cX0_countRights 37 = .ok (.iadd, 1) := by decide +kernel
theorem dX0_countRights_38 : decode cX0_countRights 38 = .ok (.ireturn, 1) := by decide +kernel
theorem dX0_fits_0 : decode cX0_fits 0 = .ok (.aload_n 1, 1) := by decide +kernel
theorem dX0_fits_1 : decode cX0_fits 1 = .ok (.getfield 51, 3) := by decide +kernel
theorem dX0_fits_4 : decode cX0_fits 4 = .ok (.ifCond .eq 17, 3) := by decide +kernel
theorem dX0_fits_7 : decode cX0_fits 7 = .ok (.aload_n 0, 1) := by decide +kernel
theorem dX0_fits_8 : decode cX0_fits 8 = .ok (.aload_n 1, 1) := by decide +kernel
theorem dX0_fits_9 : decode cX0_fits 9 = .ok (.invokevirtual 56, 3) := by decide +kernel
theorem dX0_fits_12 : decode cX0_fits 12 = .ok (.bipush 45, 2) := by decide +kernel
theorem dX0_fits_14 : decode cX0_fits 14 = .ok (.if_icmp .ne 7, 3) := by decide +kernel
theorem dX0_fits_17 : decode cX0_fits 17 = .ok (.iconst 1, 1) := by decide +kernel
theorem dX0_fits_18 : decode cX0_fits 18 = .ok (.goto 4, 3) := by decide +kernel
theorem dX0_fits_21 : decode cX0_fits 21 = .ok (.iconst 0, 1) := by decide +kernel
theorem dX0_fits_22 : decode cX0_fits 22 = .ok (.ireturn, 1) := by decide +kernel
theorem dX0_misfit_0 : decode cX0_misfit 0 = .ok (.aload_n 0, 1) := by decide +kernel
theorem dX0_misfit_1 : decode cX0_misfit 1 = .ok (.getfield 15, 3) := by decide +kernel
theorem dX0_misfit_4 : decode cX0_misfit 4 = .ok (.iconst 1, 1) := by decide +kernel
theorem dX0_misfit_5 : decode cX0_misfit 5 = .ok (.aload_n 1, 1) := by decide +kernel
theorem dX0_misfit_6 : decode cX0_misfit 6 = .ok (.getfield 60, 3) := by decide +kernel
theorem dX0_misfit_9 : decode cX0_misfit 9 = .ok (.ishl, 1) := by decide +kernel
theorem dX0_misfit_10 : decode cX0_misfit 10 = .ok (.iand, 1) := by decide +kernel
theorem dX0_misfit_11 : decode cX0_misfit 11 = .ok (.ifCond .ne 6, 3) := by decide +kernel
theorem dX0_misfit_14 : decode cX0_misfit 14 = .ok (.bipush 112, 2) := by decide +kernel
theorem dX0_misfit_16 : decode cX0_misfit 16 = .ok (.ireturn, 1) := by decide +kernel
theorem dX0_misfit_17 : decode cX0_misfit 17 = .ok (.aload_n 0, 1) := by decide +kernel
theorem dX0_misfit_18 : decode cX0_misfit 18 = .ok (.getfield 32, 3) := by decide +kernel
theorem dX0_misfit_21 : decode cX0_misfit 21 = .ok (.iconst (-1), 1) := by decide +kernel
theorem dX0_misfit_22 : decode cX0_misfit 22 = .ok (.if_icmp .eq 17, 3) := by decide +kernel
theorem dX0_misfit_25 : decode cX0_misfit 25 = .ok (.aload_n 0, 1) := by decide +kernel
theorem dX0_misfit_26 : decode cX0_misfit 26 = .ok (.getfield 32, 3) := by decide +kernel
theorem dX0_misfit_29 : decode cX0_misfit 29 = .ok (.aload_n 1, 1) := by decide +kernel
theorem dX0_misfit_30 : decode cX0_misfit 30 = .ok (.getfield 63, 3) := by decide +kernel
theorem dX0_misfit_33 : decode cX0_misfit 33 = .ok (.if_icmp .eq 6, 3) := by decide +kernel
theorem dX0_misfit_36 : decode cX0_misfit 36 = .ok (.bipush 111, 2) := by decide +kernel
theorem dX0_misfit_38 : decode cX0_misfit 38 = .ok (.ireturn, 1) := by decide +kernel
theorem dX0_misfit_39 : decode cX0_misfit 39 = .ok (.aload_n 1, 1) := by decide +kernel
theorem dX0_misfit_40 : decode cX0_misfit 40 = .ok (.getfield 64, 3) := by decide +kernel
theorem dX0_misfit_43 : decode cX0_misfit 43 = .ok (.aload_n 0, 1) := by decide +kernel
theorem dX0_misfit_44 : decode cX0_misfit 44 = .ok (.getfield 22, 3) := by decide +kernel
theorem dX0_misfit_47 : decode cX0_misfit 47 = .ok (.if_icmp .gt 21, 3) := by decide +kernel
theorem dX0_misfit_50 : decode cX0_misfit 50 = .ok (.aload_n 1, 1) := by decide +kernel
theorem dX0_misfit_51 : decode cX0_misfit 51 = .ok (.getfield 64, 3) := by decide +kernel
theorem dX0_misfit_54 : decode cX0_misfit 54 = .ok (.aload_n 0, 1) := by decide +kernel
theorem dX0_misfit_55 : decode cX0_misfit 55 = .ok (.getfield 22, 3) := by decide +kernel
theorem dX0_misfit_58 : decode cX0_misfit 58 = .ok (.if_icmp .ge 13, 3) := by decide +kernel
theorem dX0_misfit_61 : decode cX0_misfit 61 = .ok (.aload_n 0, 1) := by decide +kernel
theorem dX0_misfit_62 : decode cX0_misfit 62 = .ok (.getfield 41, 3) := by decide +kernel
theorem dX0_misfit_65 : decode cX0_misfit 65 = .ok (.ifCond .ne 6, 3) := by decide +kernel
theorem dX0_misfit_68 : decode cX0_misfit 68 = .ok (.bipush 101, 2) := by decide +kernel
theorem dX0_misfit_70 : decode cX0_misfit 70 = .ok (.ireturn, 1) := by decide +kernel
theorem dX0_misfit_71 : decode cX0_misfit 71 = .ok (.aload_n 1, 1) := by decide +kernel
theorem dX0_misfit_72 : decode cX0_misfit 72 = .ok (.getfield 65, 3) := by decide +kernel
theorem dX0_misfit_75 : decode cX0_misfit 75 = .ok (.aload_n 0, 1) := by decide +kernel
theorem dX0_misfit_76 : decode cX0_misfit 76 = .ok (.getfield 19, 3) := by decide +kernel
theorem dX0_misfit_79 : decode cX0_misfit 79 = .ok (.if_icmp .ge 10, 3) := by decide +kernel
theorem dX0_misfit_82 : decode cX0_misfit 82 = .ok (.aload_n 0, 1) := by decide +kernel
theorem dX0_misfit_83 : decode cX0_misfit 83 = .ok (.getfield 41, 3) := by decide +kernel
theorem dX0_misfit_86 : decode cX0_misfit 86 = .ok (.ifCond .eq 21, 3) := by decide +kernel
theorem dX0_misfit_89 : decode cX0_misfit 89 = .ok (.aload_n 1, 1) := by decide +kernel
theorem dX0_misfit_90 : decode cX0_misfit 90 = .ok (.getfield 65, 3) := by decide +kernel
theorem dX0_misfit_93 : decode cX0_misfit 93 = .ok (.aload_n 0, 1) := by decide +kernel
theorem dX0_misfit_94 : decode cX0_misfit 94 = .ok (.getfield 19, 3) := by decide +kernel
theorem dX0_misfit_97 : decode cX0_misfit 97 = .ok (.if_icmp .le 13, 3) := by decide +kernel
theorem dX0_misfit_100 : decode cX0_misfit 100 = .ok (.aload_n 0, 1) := by decide +kernel
theorem dX0_misfit_101 : decode cX0_misfit 101 = .ok (.getfield 45, 3) := by decide +kernel
theorem dX0_misfit_104 : decode cX0_misfit 104 = .ok (.ifCond .ne 6, 3) := by decide +kernel
theorem dX0_misfit_107 : decode cX0_misfit 107 = .ok (.bipush 118, 2) := by decide +kernel
theorem dX0_misfit_109 : decode cX0_misfit 109 = .ok (.ireturn, 1) := by decide +kernel
theorem dX0_misfit_110 : decode cX0_misfit 110 = .ok (.bipush 45, 2) := by decide +kernel
theorem dX0_misfit_112 : decode cX0_misfit 112 = .ok (.ireturn, 1) := by decide +kernel
theorem dX0_clearNeed_0 : decode cX0_clearNeed 0 = .ok (.iconst 0, 1) := by decide +kernel
theorem dX0_clearNeed_1 : decode cX0_clearNeed 1 = .ok (.istore_n 1, 1) := by decide +kernel
theorem dX0_clearNeed_2 : decode cX0_clearNeed 2 = .ok (.iload_n 1, 1) := by decide +kernel
theorem dX0_clearNeed_3 : decode cX0_clearNeed 3 = .ok (.aload_n 0, 1) := by decide +kernel
theorem dX0_clearNeed_4 : decode cX0_clearNeed 4 = .ok (.getfield 9, 3) := by decide +kernel
theorem dX0_clearNeed_7 : decode cX0_clearNeed 7 = .ok (.arraylength, 1) := by decide +kernel
theorem dX0_clearNeed_8 : decode cX0_clearNeed 8 = .ok (.if_icmp .ge 16, 3) := by decide +kernel
theorem dX0_clearNeed_11 : decode cX0_clearNeed 11 = .ok (.aload_n 0, 1) := by decide +kernel
theorem dX0_clearNeed_12 : decode cX0_clearNeed 12 = .ok (.getfield 9, 3) := by decide +kernel
theorem dX0_clearNeed_15 : decode cX0_clearNeed 15 = .ok (.iload_n 1, 1) := by decide +kernel
theorem dX0_clearNeed_16 : decode cX0_clearNeed 16 = .ok (.iconst 0, 1) := by decide +kernel
theorem dX0_clearNeed_17 : decode cX0_clearNeed 17 = .ok (.iastore, 1) := by decide +kernel
theorem dX0_clearNeed_18 : decode cX0_clearNeed 18 = .ok (.iinc 1 1, 3) := by decide +kernel
theorem dX0_clearNeed_21 : decode cX0_clearNeed 21 = .ok (.goto (-19), 3) := by decide +kernel
theorem dX0_clearNeed_24 : decode cX0_clearNeed 24 = .ok (.aload_n 0, 1) := by decide +kernel
theorem dX0_clearNeed_25 : decode cX0_clearNeed 25 = .ok (.iconst 0, 1) := by decide +kernel
theorem dX0_clearNeed_26 : decode cX0_clearNeed 26 = .ok (.putfield 66, 3) := by decide +kernel
theorem dX0_clearNeed_29 : decode cX0_clearNeed 29 = .ok (.return_, 1) := by decide +kernel
theorem dX0_serve_0 : decode cX0_serve 0 = .ok (.aload_n 0, 1) := by decide +kernel
theorem dX0_serve_1 : decode cX0_serve 1 = .ok (.aload_n 1, 1) := by decide +kernel
theorem dX0_serve_2 : decode cX0_serve 2 = .ok (.iconst 1, 1) := by decide +kernel
theorem dX0_serve_3 : decode cX0_serve 3 = .ok (.invokevirtual 69, 3) := by decide +kernel
theorem dX0_serve_6 : decode cX0_serve 6 = .ok (.return_, 1) := by decide +kernel
theorem dX0_release_0 : decode cX0_release 0 = .ok (.aload_n 0, 1) := by decide +kernel
theorem dX0_release_1 : decode cX0_release 1 = .ok (.aload_n 1, 1) := by decide +kernel
theorem dX0_release_2 : decode cX0_release 2 = .ok (.iconst (-1), 1) := by decide +kernel
theorem dX0_release_3 : decode cX0_release 3 = .ok (.invokevirtual 69, 3) := by decide +kernel
theorem dX0_release_6 : decode cX0_release 6 = .ok (.return_, 1) := by decide +kernel
theorem dX0_changeNeed_0 : decode cX0_changeNeed 0 = .ok (.aload_n 0, 1) := by decide +kernel
theorem dX0_changeNeed_1 : decode cX0_changeNeed 1 = .ok (.getfield 25, 3) := by decide +kernel
theorem dX0_changeNeed_4 : decode cX0_changeNeed 4 = .ok (.bipush 99, 2) := by decide +kernel
theorem dX0_changeNeed_6 : decode cX0_changeNeed 6 = .ok (.if_icmp .ne 26, 3) := by decide +kernel
theorem dX0_changeNeed_9 : decode cX0_changeNeed 9 = .ok (.aload_n 0, 1) := by decide +kernel
theorem dX0_changeNeed_10 : decode cX0_changeNeed 10 = .ok (.dup, 1) := by decide +kernel
theorem dX0_changeNeed_11 : decode cX0_changeNeed 11 = .ok (.getfield 66, 3) := by decide +kernel
theorem dX0_changeNeed_14 : decode cX0_changeNeed 14 = .ok (.iload_n 2, 1) := by decide +kernel
theorem dX0_changeNeed_15 : decode cX0_changeNeed 15 = .ok (.aload_n 1, 1) := by decide +kernel
theorem dX0_changeNeed_16 : decode cX0_changeNeed 16 = .ok (.getfield 73, 3) := by decide +kernel
theorem dX0_changeNeed_19 : decode cX0_changeNeed 19 = .ok (.aload_n 0, 1) := by decide +kernel
theorem dX0_changeNeed_20 : decode cX0_changeNeed 20 = .ok (.getfield 35, 3) := by decide +kernel
theorem dX0_changeNeed_23 : decode cX0_changeNeed 23 = .ok (.invokestatic 76, 3) := by decide +kernel
theorem dX0_changeNeed_26 : decode cX0_changeNeed 26 = .ok (.imul, 1) := by decide +kernel
theorem dX0_changeNeed_27 : decode cX0_changeNeed 27 = .ok (.iadd, 1) := by decide +kernel
theorem dX0_changeNeed_28 : decode cX0_changeNeed 28 = .ok (.putfield 66, 3) := by decide +kernel
theorem dX0_changeNeed_31 : decode cX0_changeNeed 31 = .ok (.return_, 1) := by decide +kernel
theorem dX0_changeNeed_32 : decode cX0_changeNeed 32 = .ok (.aload_n 0, 1) := by decide +kernel
theorem dX0_changeNeed_33 : decode cX0_changeNeed 33 = .ok (.getfield 25, 3) := by decide +kernel
theorem dX0_changeNeed_36 : decode cX0_changeNeed 36 = .ok (.bipush 100, 2) := by decide +kernel
theorem dX0_changeNeed_38 : decode cX0_changeNeed 38 = .ok (.if_icmp .ne 10, 3) := by decide +kernel
theorem dX0_changeNeed_41 : decode cX0_changeNeed 41 = .ok (.aload_n 1, 1) := by decide +kernel
theorem dX0_changeNeed_42 : decode cX0_changeNeed 42 = .ok (.getfield 82, 3) := by decide +kernel
theorem dX0_changeNeed_45 : decode cX0_changeNeed 45 = .ok (.goto 7, 3) := by decide +kernel
theorem dX0_changeNeed_48 : decode cX0_changeNeed 48 = .ok (.aload_n 1, 1) := by decide +kernel
theorem dX0_changeNeed_49 : decode cX0_changeNeed 49 = .ok (.getfield 85, 3) := by decide +kernel
theorem dX0_changeNeed_52 : decode cX0_changeNeed 52 = .ok (.istore_n 3, 1) := by decide +kernel
theorem dX0_changeNeed_53 : decode cX0_changeNeed 53 = .ok (.iload_n 3, 1) := by decide +kernel
theorem dX0_changeNeed_54 : decode cX0_changeNeed 54 = .ok (.iconst 0, 1) := by decide +kernel
theorem dX0_changeNeed_55 : decode cX0_changeNeed 55 = .ok (.bipush 9, 2) := by decide +kernel
theorem dX0_changeNeed_57 : decode cX0_changeNeed 57 = .ok (.invokestatic 88, 3) := by decide +kernel
theorem dX0_changeNeed_60 : decode cX0_changeNeed 60 = .ok (.ifCond .eq 15, 3) := by decide +kernel
theorem dX0_changeNeed_63 : decode cX0_changeNeed 63 = .ok (.aload_n 1, 1) := by decide +kernel
theorem dX0_changeNeed_64 : decode cX0_changeNeed 64 = .ok (.getfield 60, 3) := by decide +kernel
theorem dX0_changeNeed_67 : decode cX0_changeNeed 67 = .ok (.iconst 0, 1) := by decide +kernel
theorem dX0_changeNeed_68 : decode cX0_changeNeed 68 = .ok (.iconst 3, 1) := by decide +kernel
theorem dX0_changeNeed_69 : decode cX0_changeNeed 69 = .ok (.invokestatic 88, 3) := by decide +kernel
theorem dX0_changeNeed_72 : decode cX0_changeNeed 72 = .ok (.ifCond .ne 4, 3) := by decide +kernel
theorem dX0_changeNeed_75 : decode cX0_changeNeed 75 = .ok (.return_, 1) := by decide +kernel
theorem dX0_changeNeed_76 : decode cX0_changeNeed 76 = .ok (.aload_n 0, 1) := by decide +kernel
theorem dX0_changeNeed_77 : decode cX0_changeNeed 77 = .ok (.iload_n 3, 1) := by decide +kernel
theorem dX0_changeNeed_78 : decode cX0_changeNeed 78 = .ok (.invokevirtual 92, 3) := by decide +kernel
theorem dX0_changeNeed_81 : decode cX0_changeNeed 81 = .ok (.istore 4, 2) := by decide +kernel
theorem dX0_changeNeed_83 : decode cX0_changeNeed 83 = .ok (.aload_n 0, 1) := by decide +kernel
theorem dX0_changeNeed_84 : decode cX0_changeNeed 84 = .ok (.getfield 9, 3) := by decide +kernel
theorem dX0_changeNeed_87 : decode cX0_changeNeed 87 = .ok (.iload_n 3, 1) := by decide +kernel
theorem dX0_changeNeed_88 : decode cX0_changeNeed 88 = .ok (.iconst 4, 1) := by decide +kernel
theorem dX0_changeNeed_89 : decode cX0_changeNeed 89 = .ok (.imul, 1) := by decide +kernel
theorem dX0_changeNeed_90 : decode cX0_changeNeed 90 = .ok (.aload_n 1, 1) := by decide +kernel
theorem dX0_changeNeed_91 : decode cX0_changeNeed 91 = .ok (.getfield 60, 3) := by decide +kernel
theorem dX0_changeNeed_94 : decode cX0_changeNeed 94 = .ok (.iadd, 1) := by decide +kernel
theorem dX0_changeNeed_95 : decode cX0_changeNeed 95 = .ok (.dup2, 1) := by decide +kernel
theorem dX0_changeNeed_96 : decode cX0_changeNeed 96 = .ok (.iaload, 1) := by decide +kernel
theorem dX0_changeNeed_97 : decode cX0_changeNeed 97 = .ok (.iload_n 2, 1) := by decide +kernel
theorem dX0_changeNeed_98 : decode cX0_changeNeed 98 = .ok (.iadd, 1) := by decide +kernel
theorem dX0_changeNeed_99 : decode cX0_changeNeed 99 = .ok (.iastore, 1) := by decide +kernel
theorem dX0_changeNeed_100 : decode cX0_changeNeed 100 = .ok (.aload_n 0, 1) := by decide +kernel
theorem dX0_changeNeed_101 : decode cX0_changeNeed 101 = .ok (.dup, 1) := by decide +kernel
theorem dX0_changeNeed_102 : decode cX0_changeNeed 102 = .ok (.getfield 66, 3) := by decide +kernel
theorem dX0_changeNeed_105 : decode cX0_changeNeed 105 = .ok (.aload_n 0, 1) := by decide +kernel
theorem dX0_changeNeed_106 : decode cX0_changeNeed 106 = .ok (.iload_n 3, 1) := by decide +kernel
theorem dX0_changeNeed_107 : decode cX0_changeNeed 107 = .ok (.invokevirtual 92, 3) := by decide +kernel
theorem dX0_changeNeed_110 : decode cX0_changeNeed 110 = .ok (.iload 4, 2) := by decide +kernel
theorem dX0_changeNeed_112 : decode cX0_changeNeed 112 = .ok (.isub, 1) := by decide +kernel
theorem dX0_changeNeed_113 : decode cX0_changeNeed 113 = .ok (.iadd, 1) := by decide +kernel
theorem dX0_changeNeed_114 : decode cX0_changeNeed 114 = .ok (.putfield 66, 3) := by decide +kernel
theorem dX0_changeNeed_117 : decode cX0_changeNeed 117 = .ok (.return_, 1) := by decide +kernel
theorem dX0_unitsOfHolder_0 : decode cX0_unitsOfHolder 0 = .ok (.iconst 0, 1) := by decide +kernel
theorem dX0_unitsOfHolder_1 : decode cX0_unitsOfHolder 1 = .ok (.istore_n 2, 1) := by decide +kernel
theorem dX0_unitsOfHolder_2 : decode cX0_unitsOfHolder 2 = .ok (.iconst 0, 1) := by decide +kernel
theorem dX0_unitsOfHolder_3 : decode cX0_unitsOfHolder 3 = .ok (.istore_n 3, 1) := by decide +kernel
theorem dX0_unitsOfHolder_4 : decode cX0_unitsOfHolder 4 = .ok (.iload_n 3, 1) := by decide +kernel
theorem dX0_unitsOfHolder_5 : decode cX0_unitsOfHolder 5 = .ok (.iconst 4, 1) := by decide +kernel
theorem dX0_unitsOfHolder_6 : decode cX0_unitsOfHolder 6 = .ok (.if_icmp .ge 30, 3) := by decide +kernel
theorem dX0_unitsOfHolder_9 : decode cX0_unitsOfHolder 9 = .ok (.aload_n 0, 1) := by decide +kernel
theorem dX0_unitsOfHolder_10 : decode cX0_unitsOfHolder 10 = .ok (.getfield 9, 3) := by decide +kernel
theorem dX0_unitsOfHolder_13 : decode cX0_unitsOfHolder 13 = .ok (.iload_n 1, 1) := by decide +kernel
theorem dX0_unitsOfHolder_14 : decode cX0_unitsOfHolder 14 = .ok (.iconst 4, 1) := by decide +kernel
theorem dX0_unitsOfHolder_15 : decode cX0_unitsOfHolder 15 = .ok (.imul, 1) := by decide +kernel
theorem dX0_unitsOfHolder_16 : decode cX0_unitsOfHolder 16 = .ok (.iload_n 3, 1) := by decide +kernel
theorem dX0_unitsOfHolder_17 : decode cX0_unitsOfHolder 17 = .ok (.iadd, 1) := by decide +kernel
theorem dX0_unitsOfHolder_18 : decode cX0_unitsOfHolder 18 = .ok (.iaload, 1) := by decide +kernel
theorem dX0_unitsOfHolder_19 : decode cX0_unitsOfHolder 19 = .ok (.istore 4, 2) := by decide +kernel
theorem dX0_unitsOfHolder_21 : decode cX0_unitsOfHolder 21 = .ok (.iload 4, 2) := by decide +kernel
theorem dX0_unitsOfHolder_23 : decode cX0_unitsOfHolder 23 = .ok (.iload_n 2, 1) := by decide +kernel
theorem dX0_unitsOfHolder_24 : decode cX0_unitsOfHolder 24 = .ok (.if_icmp .le 6, 3) := by decide +kernel
theorem dX0_unitsOfHolder_27 : decode cX0_unitsOfHolder 27 = .ok (.iload 4, 2) := by decide +kernel
theorem dX0_unitsOfHolder_29 : decode cX0_unitsOfHolder 29 = .ok (.istore_n 2, 1) := by decide +kernel
theorem dX0_unitsOfHolder_30 : decode cX0_unitsOfHolder 30 = .ok (.iinc 3 1, 3) := by decide +kernel
theorem dX0_unitsOfHolder_33 : decode cX0_unitsOfHolder 33 = .ok (.goto (-29), 3) := by decide +kernel
theorem dX0_unitsOfHolder_36 : decode cX0_unitsOfHolder 36 = .ok (.aload_n 0, 1) := by decide +kernel
theorem dX0_unitsOfHolder_37 : decode cX0_unitsOfHolder 37 = .ok (.getfield 25, 3) := by decide +kernel
theorem dX0_unitsOfHolder_40 : decode cX0_unitsOfHolder 40 = .ok (.bipush 117, 2) := by decide +kernel
theorem dX0_unitsOfHolder_42 : decode cX0_unitsOfHolder 42 = .ok (.if_icmp .ne 18, 3) := by decide +kernel
theorem dX0_unitsOfHolder_45 : decode cX0_unitsOfHolder 45 = .ok (.aload_n 0, 1) := by decide +kernel
theorem dX0_unitsOfHolder_46 : decode cX0_unitsOfHolder 46 = .ok (.getfield 48, 3) := by decide +kernel
theorem dX0_unitsOfHolder_49 : decode cX0_unitsOfHolder 49 = .ok (.ifCond .eq 11, 3) := by decide +kernel
theorem dX0_unitsOfHolder_52 : decode cX0_unitsOfHolder 52 = .ok (.iload_n 2, 1) := by decide +kernel
theorem dX0_unitsOfHolder_53 : decode cX0_unitsOfHolder 53 = .ok (.iconst 1, 1) := by decide +kernel
theorem dX0_unitsOfHolder_54 : decode cX0_unitsOfHolder 54 = .ok (.iadd, 1) := by decide +kernel
theorem dX0_unitsOfHolder_55 : decode cX0_unitsOfHolder 55 = .ok (.iconst 2, 1) := by decide +kernel
theorem dX0_unitsOfHolder_56 : decode cX0_unitsOfHolder 56 = .ok (.idiv, 1) := by decide +kernel
theorem dX0_unitsOfHolder_57 : decode cX0_unitsOfHolder 57 = .ok (.goto 4, 3) := by decide +kernel
theorem dX0_unitsOfHolder_60 : decode cX0_unitsOfHolder 60 = .ok (.iload_n 2, 1) := by decide +kernel
theorem dX0_unitsOfHolder_61 : decode cX0_unitsOfHolder 61 = .ok (.ireturn, 1) := by decide +kernel
theorem dX0_missing_0 : decode cX0_missing 0 = .ok (.iconst 0, 1) := by decide +kernel
theorem dX0_missing_1 : decode cX0_missing 1 = .ok (.aload_n 0, 1) := by decide +kernel
theorem dX0_missing_2 : decode cX0_missing 2 = .ok (.getfield 66, 3) := by decide +kernel
theorem dX0_missing_5 : decode cX0_missing 5 = .ok (.aload_n 0, 1) := by decide +kernel
theorem dX0_missing_6 : decode cX0_missing 6 = .ok (.getfield 29, 3) := by decide +kernel
theorem dX0_missing_9 : decode cX0_missing 9 = .ok (.isub, 1) := by decide +kernel
theorem dX0_missing_10 : decode cX0_missing 10 = .ok (.invokestatic 76, 3) := by decide +kernel
theorem dX0_missing_13 : decode cX0_missing 13 = .ok (.ireturn, 1) := by decide +kernel
theorem dX0_missingPrice_0 : decode cX0_missingPrice 0 = .ok (.aload_n 0, 1) := by decide +kernel
theorem dX0_missingPrice_1 : decode cX0_missingPrice 1 = .ok (.getfield 38, 3) := by decide +kernel
theorem dX0_missingPrice_4 : decode cX0_missingPrice 4 = .ok (.aload_n 0, 1) := by decide +kernel
theorem dX0_missingPrice_5 : decode cX0_missingPrice 5 = .ok (.invokevirtual 96, 3) := by decide +kernel
theorem dX0_missingPrice_8 : decode cX0_missingPrice 8 = .ok (.imul, 1) := by decide +kernel
theorem dX0_missingPrice_9 : decode cX0_missingPrice 9 = .ok (.ireturn, 1) := by decide +kernel
theorem dX1_init_0 : decode cX1_init 0 = .ok (.aload_n 0, 1) := by decide +kernel
theorem dX1_init_1 : decode cX1_init 1 = .ok (.invokespecial 1, 3) := by decide +kernel
theorem dX1_init_4 : decode cX1_init 4 = .ok (.return_, 1) := by decide +kernel
theorem dX1_fill_0 : decode cX1_fill 0 = .ok (.aload_n 0, 1) := by decide +kernel
theorem dX1_fill_1 : decode cX1_fill 1 = .ok (.iconst 1, 1) := by decide +kernel
theorem dX1_fill_2 : decode cX1_fill 2 = .ok (.putfield 7, 3) := by decide +kernel
theorem dX1_fill_5 : decode cX1_fill 5 = .ok (.aload_n 0, 1) := by decide +kernel
theorem dX1_fill_6 : decode cX1_fill 6 = .ok (.iload_n 1, 1) := by decide +kernel
theorem dX1_fill_7 : decode cX1_fill 7 = .ok (.putfield 13, 3) := by decide +kernel
theorem dX1_fill_10 : decode cX1_fill 10 = .ok (.aload_n 0, 1) := by decide +kernel
theorem dX1_fill_11 : decode cX1_fill 11 = .ok (.iload_n 2, 1) := by decide +kernel
theorem dX1_fill_12 : decode cX1_fill 12 = .ok (.putfield 17, 3) := by decide +kernel
theorem dX1_fill_15 : decode cX1_fill 15 = .ok (.aload_n 0, 1) := by decide +kernel
theorem dX1_fill_16 : decode cX1_fill 16 = .ok (.iload_n 3, 1) := by decide +kernel
theorem dX1_fill_17 : decode cX1_fill 17 = .ok (.putfield 20, 3) := by decide +kernel
theorem dX1_fill_20 : decode cX1_fill 20 = .ok (.aload_n 0, 1) := by decide +kernel
theorem dX1_fill_21 : decode cX1_fill 21 = .ok (.iload 4, 2) := by decide +kernel
theorem dX1_fill_23 : decode cX1_fill 23 = .ok (.putfield 23, 3) := by decide +kernel
theorem dX1_fill_26 : decode cX1_fill 26 = .ok (.aload_n 0, 1) := by decide +kernel
theorem dX1_fill_27 : decode cX1_fill 27 = .ok (.iload 5, 2) := by decide +kernel
theorem dX1_fill_29 : decode cX1_fill 29 = .ok (.putfield 26, 3) := by decide +kernel
theorem dX1_fill_32 : decode cX1_fill 32 = .ok (.aload_n 0, 1) := by decide +kernel
theorem dX1_fill_33 : decode cX1_fill 33 = .ok (.iload 6, 2) := by decide +kernel
theorem dX1_fill_35 : decode cX1_fill 35 = .ok (.putfield 29, 3) := by decide +kernel
theorem dX1_fill_38 : decode cX1_fill 38 = .ok (.aload_n 0, 1) := by decide +kernel
theorem dX1_fill_39 : decode cX1_fill 39 = .ok (.iload 7, 2) := by decide +kernel
theorem dX1_fill_41 : decode cX1_fill 41 = .ok (.putfield 32, 3) := by decide +kernel
theorem dX1_fill_44 : decode cX1_fill 44 = .ok (.return_, 1) := by decide +kernel
theorem dX2_init_0 : decode cX2_init 0 = .ok (.aload_n 0, 1) := by decide +kernel
theorem dX2_init_1 : decode cX2_init 1 = .ok (.invokespecial 1, 3) := by decide +kernel
theorem dX2_init_4 : decode cX2_init 4 = .ok (.aload_n 0, 1) := by decide +kernel
theorem dX2_init_5 : decode cX2_init 5 = .ok (.bipush 12, 2) := by decide +kernel
theorem dX2_init_7 : decode cX2_init 7 = .ok (.anewarray 9, 3) := by decide +kernel
theorem dX2_init_10 : decode cX2_init 10 = .ok (.putfield 11, 3) := by decide +kernel
theorem dX2_init_13 : decode cX2_init 13 = .ok (.iconst 0, 1) := by decide +kernel
theorem dX2_init_14 : decode cX2_init 14 = .ok (.istore_n 1, 1) := by decide +kernel
theorem dX2_init_15 : decode cX2_init 15 = .ok (.iload_n 1, 1) := by decide +kernel
theorem dX2_init_16 : decode cX2_init 16 = .ok (.bipush 12, 2) := by decide +kernel
theorem dX2_init_18 : decode cX2_init 18 = .ok (.if_icmp .ge 22, 3) := by decide +kernel
theorem dX2_init_21 : decode cX2_init 21 = .ok (.aload_n 0, 1) := by decide +kernel
theorem dX2_init_22 : decode cX2_init 22 = .ok (.getfield 11, 3) := by decide +kernel
theorem dX2_init_25 : decode cX2_init 25 = .ok (.iload_n 1, 1) := by decide +kernel
theorem dX2_init_26 : decode cX2_init 26 = .ok (.new 9, 3) := by decide +kernel
theorem dX2_init_29 : decode cX2_init 29 = .ok (.dup, 1) := by decide +kernel
theorem dX2_init_30 : decode cX2_init 30 = .ok (.invokespecial 15, 3) := by decide +kernel
theorem dX2_init_33 : decode cX2_init 33 = .ok (.aastore, 1) := by decide +kernel
theorem dX2_init_34 : decode cX2_init 34 = .ok (.iinc 1 1, 3) := by decide +kernel
theorem dX2_init_37 : decode cX2_init 37 = .ok (.goto (-22), 3) := by decide +kernel
theorem dX2_init_40 : decode cX2_init 40 = .ok (.aload_n 0, 1) := by decide +kernel
theorem dX2_init_41 : decode cX2_init 41 = .ok (.iconst 5, 1) := by decide +kernel
theorem dX2_init_42 : decode cX2_init 42 = .ok (.anewarray 16, 3) := by decide +kernel
theorem dX2_init_45 : decode cX2_init 45 = .ok (.putfield 18, 3) := by decide +kernel
theorem dX2_init_48 : decode cX2_init 48 = .ok (.iconst 0, 1) := by decide +kernel
theorem dX2_init_49 : decode cX2_init 49 = .ok (.istore_n 1, 1) := by decide +kernel
theorem dX2_init_50 : decode cX2_init 50 = .ok (.iload_n 1, 1) := by decide +kernel
theorem dX2_init_51 : decode cX2_init 51 = .ok (.iconst 5, 1) := by decide +kernel
theorem dX2_init_52 : decode cX2_init 52 = .ok (.if_icmp .ge 22, 3) := by decide +kernel
theorem dX2_init_55 : decode cX2_init 55 = .ok (.aload_n 0, 1) := by decide +kernel
theorem dX2_init_56 : decode cX2_init 56 = .ok (.getfield 18, 3) := by decide +kernel
theorem dX2_init_59 : decode cX2_init 59 = .ok (.iload_n 1, 1) := by decide +kernel
theorem dX2_init_60 : decode cX2_init 60 = .ok (.new 16, 3) := by decide +kernel
theorem dX2_init_63 : decode cX2_init 63 = .ok (.dup, 1) := by decide +kernel
theorem dX2_init_64 : decode cX2_init 64 = .ok (.invokespecial 22, 3) := by decide +kernel
theorem dX2_init_67 : decode cX2_init 67 = .ok (.aastore, 1) := by decide +kernel
theorem dX2_init_68 : decode cX2_init 68 = .ok (.iinc 1 1, 3) := by decide +kernel
theorem dX2_init_71 : decode cX2_init 71 = .ok (.goto (-21), 3) := by decide +kernel
theorem dX2_init_74 : decode cX2_init 74 = .ok (.aload_n 0, 1) := by decide +kernel
theorem dX2_init_75 : decode cX2_init 75 = .ok (.bipush 12, 2) := by decide +kernel
theorem dX2_init_77 : decode cX2_init 77 = .ok (.newarray .int, 2) := by decide +kernel
theorem dX2_init_79 : decode cX2_init 79 = .ok (.putfield 23, 3) := by decide +kernel
theorem dX2_init_82 : decode cX2_init 82 = .ok (.aload_n 0, 1) := by decide +kernel
theorem dX2_init_83 : decode cX2_init 83 = .ok (.bipush 12, 2) := by decide +kernel
theorem dX2_init_85 : decode cX2_init 85 = .ok (.newarray .int, 2) := by decide +kernel
theorem dX2_init_87 : decode cX2_init 87 = .ok (.putfield 27, 3) := by decide +kernel
theorem dX2_init_90 : decode cX2_init 90 = .ok (.aload_n 0, 1) := by decide +kernel
theorem dX2_init_91 : decode cX2_init 91 = .ok (.bipush 13, 2) := by decide +kernel
theorem dX2_init_93 : decode cX2_init 93 = .ok (.newarray .int, 2) := by decide +kernel
theorem dX2_init_95 : decode cX2_init 95 = .ok (.putfield 30, 3) := by decide +kernel
theorem dX2_init_98 : decode cX2_init 98 = .ok (.return_, 1) := by decide +kernel
theorem dX2_install_0 : decode cX2_install 0 = .ok (.iload_n 1, 1) := by decide +kernel
theorem dX2_install_1 : decode cX2_install 1 = .ok (.iconst 0, 1) := by decide +kernel
theorem dX2_install_2 : decode cX2_install 2 = .ok (.iconst 3, 1) := by decide +kernel
theorem dX2_install_3 : decode cX2_install 3 = .ok (.invokestatic 33, 3) := by decide +kernel
theorem dX2_install_6 : decode cX2_install 6 = .ok (.ifCond .eq 46, 3) := by decide +kernel
theorem dX2_install_9 : decode cX2_install 9 = .ok (.iload_n 2, 1) := by decide +kernel
theorem dX2_install_10 : decode cX2_install 10 = .ok (.iload_n 3, 1) := by decide +kernel
theorem dX2_install_11 : decode cX2_install 11 = .ok (.invokestatic 37, 3) := by decide +kernel
theorem dX2_install_14 : decode cX2_install 14 = .ok (.ifCond .eq 38, 3) := by decide +kernel
theorem dX2_install_17 : decode cX2_install 17 = .ok (.iload 4, 2) := by decide +kernel
theorem dX2_install_19 : decode cX2_install 19 = .ok (.invokestatic 41, 3) := by decide +kernel
theorem dX2_install_22 : decode cX2_install 22 = .ok (.ifCond .eq 30, 3) := by decide +kernel
theorem dX2_install_25 : decode cX2_install 25 = .ok (.iload 5, 2) := by decide +kernel
theorem dX2_install_27 : decode cX2_install 27 = .ok (.invokestatic 41, 3) := by decide +kernel
theorem dX2_install_30 : decode cX2_install 30 = .ok (.ifCond .eq 22, 3) := by decide +kernel
theorem dX2_install_33 : decode cX2_install 33 = .ok (.iload 6, 2) := by decide +kernel
theorem dX2_install_35 : decode cX2_install 35 = .ok (.iconst 1, 1) := by decide +kernel
theorem dX2_install_36 : decode cX2_install 36 = .ok (.bipush 16, 2) := by decide +kernel
theorem dX2_install_38 : decode cX2_install 38 = .ok (.invokestatic 33, 3) := by decide +kernel
theorem dX2_install_41 : decode cX2_install 41 = .ok (.ifCond .eq 11, 3) := by decide +kernel
theorem dX2_install_44 : decode cX2_install 44 = .ok (.iload 7, 2) := by decide +kernel
theorem dX2_install_46 : decode cX2_install 46 = .ok (.invokestatic 45, 3) := by decide +kernel
theorem dX2_install_49 : decode cX2_install 49 = .ok (.ifCond .ne 13, 3) := by decide +kernel
theorem dX2_install_52 : decode cX2_install 52 = .ok (.new 48, 3) := by decide +kernel
theorem dX2_install_55 : decode cX2_install 55 = .ok (.dup, 1) := by decide +kernel
theorem dX2_install_56 : decode cX2_install 56 = .ok (.ldc 50, 2) := by decide +kernel
theorem dX2_install_58 : decode cX2_install 58 = .ok (.invokespecial 52, 3) := by decide +kernel
theorem dX2_install_61 : decode cX2_install 61 = .ok (.athrow, 1) := by decide +kernel
theorem dX2_install_62 : decode cX2_install 62 = .ok (.aload_n 0, 1) := by decide +kernel
theorem dX2_install_63 : decode cX2_install 63 = .ok (.getfield 55, 3) := by decide +kernel
theorem dX2_install_66 : decode cX2_install 66 = .ok (.bipush 6, 2) := by decide +kernel
theorem dX2_install_68 : decode cX2_install 68 = .ok (.if_icmp .ge 12, 3) := by decide +kernel
theorem dX2_install_71 : decode cX2_install 71 = .ok (.aload_n 0, 1) := by decide +kernel
theorem dX2_install_72 : decode cX2_install 72 = .ok (.getfield 59, 3) := by decide +kernel
theorem dX2_install_75 : decode cX2_install 75 = .ok (.bipush 12, 2) := by decide +kernel
theorem dX2_install_77 : decode cX2_install 77 = .ok (.if_icmp .lt 13, 3) := by decide +kernel
theorem dX2_install_80 : decode cX2_install 80 = .ok (.new 62, 3) := by decide +kernel
theorem dX2_install_83 : decode cX2_install 83 = .ok (.dup, 1) := by decide +kernel
theorem dX2_install_84 : decode cX2_install 84 = .ok (.ldc 64, 2) := by decide +kernel
theorem dX2_install_86 : decode cX2_install 86 = .ok (.invokespecial 66, 3) := by decide +kernel
theorem dX2_install_89 : decode cX2_install 89 = .ok (.athrow, 1) := by decide +kernel
theorem dX2_install_90 : decode cX2_install 90 = .ok (.aload_n 0, 1) := by decide +kernel
theorem dX2_install_91 : decode cX2_install 91 = .ok (.getfield 59, 3) := by decide +kernel
theorem dX2_install_94 : decode cX2_install 94 = .ok (.istore 8, 2) := by decide +kernel
theorem dX2_install_96 : decode cX2_install 96 = .ok (.aload_n 0, 1) := by decide +kernel
theorem dX2_install_97 : decode cX2_install 97 = .ok (.getfield 11, 3) := by decide +kernel
theorem dX2_install_100 : decode cX2_install 100 = .ok (.iload 8, 2) := by decide +kernel
theorem dX2_install_102 : decode cX2_install 102 = .ok (.aaload, 1) := by decide +kernel
theorem dX2_install_103 : decode cX2_install 103 = .ok (.iload_n 1, 1) := by decide +kernel
theorem dX2_install_104 : decode cX2_install 104 = .ok (.iload_n 2, 1) := by decide +kernel
theorem dX2_install_105 : decode cX2_install 105 = .ok (.iload_n 3, 1) := by decide +kernel
theorem dX2_install_106 : decode cX2_install 106 = .ok (.iload 4, 2) := by decide +kernel
theorem dX2_install_108 : decode cX2_install 108 = .ok (.iload 5, 2) := by decide +kernel
theorem dX2_install_110 : decode cX2_install 110 = .ok (.iload 6, 2) := by decide +kernel
theorem dX2_install_112 : decode cX2_install 112 = .ok (.iload 7, 2) := by decide +kernel
theorem dX2_install_114 : decode cX2_install 114 = .ok (.invokevirtual 67, 3) := by decide +kernel
theorem dX2_install_117 : decode cX2_install 117 = .ok (.aload_n 0, 1) := by decide +kernel
theorem dX2_install_118 : decode cX2_install 118 = .ok (.dup, 1) := by decide +kernel
theorem dX2_install_119 : decode cX2_install 119 = .ok (.getfield 59, 3) := by decide +kernel
theorem dX2_install_122 : decode cX2_install 122 = .ok (.iconst 1, 1) := by decide +kernel
theorem dX2_install_123 : decode cX2_install 123 = .ok (.iadd, 1) := by decide +kernel
theorem dX2_install_124 : decode cX2_install 124 = .ok (.putfield 59, 3) := by decide +kernel
theorem dX2_install_127 : decode cX2_install 127 = .ok (.aload_n 0, 1) := by decide +kernel
theorem dX2_install_128 : decode cX2_install 128 = .ok (.dup, 1) := by decide +kernel
theorem dX2_install_129 : decode cX2_install 129 = .ok (.getfield 55, 3) := by decide +kernel
theorem dX2_install_132 : decode cX2_install 132 = .ok (.iconst 1, 1) := by decide +kernel
theorem dX2_install_133 : decode cX2_install 133 = .ok (.iadd, 1) := by decide +kernel
theorem dX2_install_134 : decode cX2_install 134 = .ok (.putfield 55, 3) := by decide +kernel
theorem dX2_install_137 : decode cX2_install 137 = .ok (.iload 8, 2) := by decide +kernel
theorem dX2_install_139 : decode cX2_install 139 = .ok (.ireturn, 1) := by decide +kernel
theorem dX2_retire_0 : decode cX2_retire 0 = .ok (.aload_n 0, 1) := by decide +kernel
theorem dX2_retire_1 : decode cX2_retire 1 = .ok (.iload_n 1, 1) := by decide +kernel
theorem dX2_retire_2 : decode cX2_retire 2 = .ok (.invokevirtual 71, 3) := by decide +kernel
theorem dX2_retire_5 : decode cX2_retire 5 = .ok (.iconst 0, 1) := by decide +kernel
theorem dX2_retire_6 : decode cX2_retire 6 = .ok (.putfield 75, 3) := by decide +kernel
theorem dX2_retire_9 : decode cX2_retire 9 = .ok (.aload_n 0, 1) := by decide +kernel
theorem dX2_retire_10 : decode cX2_retire 10 = .ok (.dup, 1) := by decide +kernel
theorem dX2_retire_11 : decode cX2_retire 11 = .ok (.getfield 55, 3) := by decide +kernel
theorem dX2_retire_14 : decode cX2_retire 14 = .ok (.iconst 1, 1) := by decide +kernel
theorem dX2_retire_15 : decode cX2_retire 15 = .ok (.isub, 1) := by decide +kernel
theorem dX2_retire_16 : decode cX2_retire 16 = .ok (.putfield 55, 3) := by decide +kernel
theorem dX2_retire_19 : decode cX2_retire 19 = .ok (.aload_n 0, 1) := by decide +kernel
theorem dX2_retire_20 : decode cX2_retire 20 = .ok (.getfield 55, 3) := by decide +kernel
theorem dX2_retire_23 : decode cX2_retire 23 = .ok (.ireturn, 1) := by decide +kernel
theorem dX2_moveTo_0 : decode cX2_moveTo 0 = .ok (.aload_n 0, 1) := by decide +kernel
theorem dX2_moveTo_1 : decode cX2_moveTo 1 = .ok (.iload_n 1, 1) := by decide +kernel
theorem dX2_moveTo_2 : decode cX2_moveTo 2 = .ok (.invokevirtual 71, 3) := by decide +kernel
theorem dX2_moveTo_5 : decode cX2_moveTo 5 = .ok (.astore 4, 2) := by decide +kernel
theorem dX2_moveTo_7 : decode cX2_moveTo 7 = .ok (.iload_n 2, 1) := by decide +kernel
theorem dX2_moveTo_8 : decode cX2_moveTo 8 = .ok (.invokestatic 41, 3) := by decide +kernel
theorem dX2_moveTo_11 : decode cX2_moveTo 11 = .ok (.ifCond .eq 10, 3) := by decide +kernel
theorem dX2_moveTo_14 : decode cX2_moveTo 14 = .ok (.iload_n 3, 1) := by decide +kernel
theorem dX2_moveTo_15 : decode cX2_moveTo 15 = .ok (.invokestatic 41, 3) := by decide +kernel
theorem dX2_moveTo_18 : decode cX2_moveTo 18 = .ok (.ifCond .ne 13, 3) := by decide +kernel
theorem dX2_moveTo_21 : decode cX2_moveTo 21 = .ok (.new 48, 3) := by decide +kernel
theorem dX2_moveTo_24 : decode cX2_moveTo 24 = .ok (.dup, 1) := by decide +kernel
theorem dX2_moveTo_25 : decode cX2_moveTo 25 = .ok (.ldc 79, 2) := by decide +kernel
theorem dX2_moveTo_27 : decode cX2_moveTo 27 = .ok (.invokespecial 52, 3) := by decide +kernel
theorem dX2_moveTo_30 : decode cX2_moveTo 30 = .ok (.athrow, 1) := by decide +kernel
theorem dX2_moveTo_31 : decode cX2_moveTo 31 = .ok (.aload 4, 2) := by decide +kernel
theorem dX2_moveTo_33 : decode cX2_moveTo 33 = .ok (.getfield 81, 3) := by decide +kernel
theorem dX2_moveTo_36 : decode cX2_moveTo 36 = .ok (.istore 5, 2) := by decide +kernel
theorem dX2_moveTo_38 : decode cX2_moveTo 38 = .ok (.aload 4, 2) := by decide +kernel
theorem dX2_moveTo_40 : decode cX2_moveTo 40 = .ok (.iload_n 2, 1) := by decide +kernel
theorem dX2_moveTo_41 : decode cX2_moveTo 41 = .ok (.putfield 81, 3) := by decide +kernel
theorem dX2_moveTo_44 : decode cX2_moveTo 44 = .ok (.aload 4, 2) := by decide +kernel
theorem dX2_moveTo_46 : decode cX2_moveTo 46 = .ok (.iload_n 3, 1) := by decide +kernel
theorem dX2_moveTo_47 : decode cX2_moveTo 47 = .ok (.putfield 84, 3) := by decide +kernel
theorem dX2_moveTo_50 : decode cX2_moveTo 50 = .ok (.iload 5, 2) := by decide +kernel
theorem dX2_moveTo_52 : decode cX2_moveTo 52 = .ok (.ireturn, 1) := by decide +kernel
theorem dX2_setVersion_0 : decode cX2_setVersion 0 = .ok (.aload_n 0, 1) := by decide +kernel
theorem dX2_setVersion_1 : decode cX2_setVersion 1 = .ok (.iload_n 1, 1) := by decide +kernel
theorem dX2_setVersion_2 : decode cX2_setVersion 2 = .ok (.invokevirtual 71, 3) := by decide +kernel
theorem dX2_setVersion_5 : decode cX2_setVersion 5 = .ok (.astore 4, 2) := by decide +kernel
theorem dX2_setVersion_7 : decode cX2_setVersion 7 = .ok (.iload_n 2, 1) := by decide +kernel
theorem dX2_setVersion_8 : decode cX2_setVersion 8 = .ok (.iload_n 3, 1) := by decide +kernel
theorem dX2_setVersion_9 : decode cX2_setVersion 9 = .ok (.invokestatic 37, 3) := by decide +kernel
theorem dX2_setVersion_12 : decode cX2_setVersion 12 = .ok (.ifCond .ne 13, 3) := by decide +kernel
theorem dX2_setVersion_15 : decode cX2_setVersion 15 = .ok (.new 48, 3) := by decide +kernel
theorem dX2_setVersion_18 : decode cX2_setVersion 18 = .ok (.dup, 1) := by decide +kernel
theorem dX2_setVersion_19 : decode cX2_setVersion 19 = .ok (.ldc 87, 2) := by decide +kernel
theorem dX2_setVersion_21 : decode cX2_setVersion 21 = .ok (.invokespecial 52, 3) := by decide +kernel
theorem dX2_setVersion_24 : decode cX2_setVersion 24 = .ok (.athrow, 1) := by decide +kernel
theorem dX2_setVersion_25 : decode cX2_setVersion 25 = .ok (.aload 4, 2) := by decide +kernel
theorem dX2_setVersion_27 : decode cX2_setVersion 27 = .ok (.getfield 89, 3) := by decide +kernel
theorem dX2_setVersion_30 : decode cX2_setVersion 30 = .ok (.istore 5, 2) := by decide +kernel
theorem dX2_setVersion_32 : decode cX2_setVersion 32 = .ok (.aload 4, 2) := by decide +kernel
theorem dX2_setVersion_34 : decode cX2_setVersion 34 = .ok (.iload_n 2, 1) := by decide +kernel
theorem dX2_setVersion_35 : decode cX2_setVersion 35 = .ok (.putfield 89, 3) := by decide +kernel
theorem dX2_setVersion_38 : decode cX2_setVersion 38 = .ok (.aload 4, 2) := by decide +kernel
theorem dX2_setVersion_40 : decode cX2_setVersion 40 = .ok (.iload_n 3, 1) := by decide +kernel
theorem dX2_setVersion_41 : decode cX2_setVersion 41 = .ok (.putfield 92, 3) := by decide +kernel
theorem dX2_setVersion_44 : decode cX2_setVersion 44 = .ok (.iload 5, 2) := by decide +kernel
theorem dX2_setVersion_46 : decode cX2_setVersion 46 = .ok (.ireturn, 1) := by decide +kernel
theorem dX2_setPool_0 : decode cX2_setPool 0 = .ok (.aload_n 0, 1) := by decide +kernel
theorem dX2_setPool_1 : decode cX2_setPool 1 = .ok (.iload_n 1, 1) := by decide +kernel
theorem dX2_setPool_2 : decode cX2_setPool 2 = .ok (.invokevirtual 71, 3) := by decide +kernel
theorem dX2_setPool_5 : decode cX2_setPool 5 = .ok (.astore_n 3, 1) := by decide +kernel
theorem dX2_setPool_6 : decode cX2_setPool 6 = .ok (.iload_n 2, 1) := by decide +kernel
theorem dX2_setPool_7 : decode cX2_setPool 7 = .ok (.invokestatic 45, 3) := by decide +kernel
theorem dX2_setPool_10 : decode cX2_setPool 10 = .ok (.ifCond .ne 13, 3) := by decide +kernel
theorem dX2_setPool_13 : decode cX2_setPool 13 = .ok (.new 48, 3) := by decide +kernel
theorem dX2_setPool_16 : decode cX2_setPool 16 = .ok (.dup, 1) := by decide +kernel
theorem dX2_setPool_17 : decode cX2_setPool 17 = .ok (.ldc 95, 2) := by decide +kernel
theorem dX2_setPool_19 : decode cX2_setPool 19 = .ok (.invokespecial 52, 3) := by decide +kernel
theorem dX2_setPool_22 : decode cX2_setPool 22 = .ok (.athrow, 1) := by decide +kernel
theorem dX2_setPool_23 : decode cX2_setPool 23 = .ok (.aload_n 3, 1) := by decide +kernel
theorem dX2_setPool_24 : decode cX2_setPool 24 = .ok (.getfield 97, 3) := by decide +kernel
theorem dX2_setPool_27 : decode cX2_setPool 27 = .ok (.istore 4, 2) := by decide +kernel
theorem dX2_setPool_29 : decode cX2_setPool 29 = .ok (.aload_n 3, 1) := by decide +kernel
theorem dX2_setPool_30 : decode cX2_setPool 30 = .ok (.iload_n 2, 1) := by decide +kernel
theorem dX2_setPool_31 : decode cX2_setPool 31 = .ok (.putfield 97, 3) := by decide +kernel
theorem dX2_setPool_34 : decode cX2_setPool 34 = .ok (.iload 4, 2) := by decide +kernel
theorem dX2_setPool_36 : decode cX2_setPool 36 = .ok (.ireturn, 1) := by decide +kernel
theorem dX2_installs_0 : decode cX2_installs 0 = .ok (.aload_n 0, 1) := by decide +kernel
theorem dX2_installs_1 : decode cX2_installs 1 = .ok (.getfield 55, 3) := by decide +kernel
theorem dX2_installs_4 : decode cX2_installs 4 = .ok (.ireturn, 1) := by decide +kernel
theorem dX2_isThere_0 : decode cX2_isThere 0 = .ok (.iload_n 1, 1) := by decide +kernel
theorem dX2_isThere_1 : decode cX2_isThere 1 = .ok (.iconst 0, 1) := by decide +kernel
theorem dX2_isThere_2 : decode cX2_isThere 2 = .ok (.bipush 11, 2) := by decide +kernel
theorem dX2_isThere_4 : decode cX2_isThere 4 = .ok (.invokestatic 33, 3) := by decide +kernel
theorem dX2_isThere_7 : decode cX2_isThere 7 = .ok (.ifCond .eq 19, 3) := by decide +kernel
theorem dX2_isThere_10 : decode cX2_isThere 10 = .ok (.aload_n 0, 1) := by decide +kernel
theorem dX2_isThere_11 : decode cX2_isThere 11 = .ok (.getfield 11, 3) := by decide +kernel
theorem dX2_isThere_14 : decode cX2_isThere 14 = .ok (.iload_n 1, 1) := by decide +kernel
theorem dX2_isThere_15 : decode cX2_isThere 15 = .ok (.aaload, 1) := by decide +kernel
theorem dX2_isThere_16 : decode cX2_isThere 16 = .ok (.getfield 75, 3) := by decide +kernel
theorem dX2_isThere_19 : decode cX2_isThere 19 = .ok (.ifCond .eq 7, 3) := by decide +kernel
theorem dX2_isThere_22 : decode cX2_isThere 22 = .ok (.iconst 1, 1) := by decide +kernel
theorem dX2_isThere_23 : decode cX2_isThere 23 = .ok (.goto 4, 3) := by decide +kernel
theorem dX2_isThere_26 : decode cX2_isThere 26 = .ok (.iconst 0, 1) := by decide +kernel
theorem dX2_isThere_27 : decode cX2_isThere 27 = .ok (.ireturn, 1) := by decide +kernel
theorem dX2_entitle_0 : decode cX2_entitle 0 = .ok (.iload_n 1, 1) := by decide +kernel
theorem dX2_entitle_1 : decode cX2_entitle 1 = .ok (.iconst 1, 1) := by decide +kernel
theorem dX2_entitle_2 : decode cX2_entitle 2 = .ok (.bipush 15, 2) := by decide +kernel
theorem dX2_entitle_4 : decode cX2_entitle 4 = .ok (.invokestatic 33, 3) := by decide +kernel
theorem dX2_entitle_7 : decode cX2_entitle 7 = .ok (.ifCond .eq 44, 3) := by decide +kernel
theorem dX2_entitle_10 : decode cX2_entitle 10 = .ok (.iload_n 2, 1) := by decide +kernel
theorem dX2_entitle_11 : decode cX2_entitle 11 = .ok (.iload_n 3, 1) := by decide +kernel
theorem dX2_entitle_12 : decode cX2_entitle 12 = .ok (.invokestatic 37, 3) := by decide +kernel
theorem dX2_entitle_15 : decode cX2_entitle 15 = .ok (.ifCond .eq 36, 3) := by decide +kernel
theorem dX2_entitle_18 : decode cX2_entitle 18 = .ok (.iload 4, 2) := by decide +kernel
theorem dX2_entitle_20 : decode cX2_entitle 20 = .ok (.invokestatic 100, 3) := by decide +kernel
theorem dX2_entitle_23 : decode cX2_entitle 23 = .ok (.ifCond .eq 28, 3) := by decide +kernel
theorem dX2_entitle_26 : decode cX2_entitle 26 = .ok (.iload 5, 2) := by decide +kernel
theorem dX2_entitle_28 : decode cX2_entitle 28 = .ok (.iconst 0, 1) := by decide +kernel
theorem dX2_entitle_29 : decode cX2_entitle 29 = .ok (.bipush 99, 2) := by decide +kernel
theorem dX2_entitle_31 : decode cX2_entitle 31 = .ok (.invokestatic 33, 3) := by decide +kernel
theorem dX2_entitle_34 : decode cX2_entitle 34 = .ok (.ifCond .eq 17, 3) := by decide +kernel
theorem dX2_entitle_37 : decode cX2_entitle 37 = .ok (.iload 6, 2) := by decide +kernel
theorem dX2_entitle_39 : decode cX2_entitle 39 = .ok (.invokestatic 45, 3) := by decide +kernel
theorem dX2_entitle_42 : decode cX2_entitle 42 = .ok (.ifCond .ne 19, 3) := by decide +kernel
theorem dX2_entitle_45 : decode cX2_entitle 45 = .ok (.iload 6, 2) := by decide +kernel
theorem dX2_entitle_47 : decode cX2_entitle 47 = .ok (.iconst (-1), 1) := by decide +kernel
theorem dX2_entitle_48 : decode cX2_entitle 48 = .ok (.if_icmp .eq 13, 3) := by decide +kernel
theorem dX2_entitle_51 : decode cX2_entitle 51 = .ok (.new 48, 3) := by decide +kernel
theorem dX2_entitle_54 : decode cX2_entitle 54 = .ok (.dup, 1) := by decide +kernel
theorem dX2_entitle_55 : decode cX2_entitle 55 = .ok (.ldc 104, 2) := by decide +kernel
theorem dX2_entitle_57 : decode cX2_entitle 57 = .ok (.invokespecial 52, 3) := by decide +kernel
theorem dX2_entitle_60 : decode cX2_entitle 60 = .ok (.athrow, 1) := by decide +kernel
theorem dX2_entitle_61 : decode cX2_entitle 61 = .ok (.aload_n 0, 1) := by decide +kernel
theorem dX2_entitle_62 : decode cX2_entitle 62 = .ok (.getfield 106, 3) := by decide +kernel
theorem dX2_entitle_65 : decode cX2_entitle 65 = .ok (.iconst 5, 1) := by decide +kernel
theorem dX2_entitle_66 : decode cX2_entitle 66 = .ok (.if_icmp .lt 13, 3) := by decide +kernel
theorem dX2_entitle_69 : decode cX2_entitle 69 = .ok (.new 62, 3) := by decide +kernel
theorem dX2_entitle_72 : decode cX2_entitle 72 = .ok (.dup, 1) := by decide +kernel
theorem dX2_entitle_73 : decode cX2_entitle 73 = .ok (.ldc 109, 2) := by decide +kernel
theorem dX2_entitle_75 : decode cX2_entitle 75 = .ok (.invokespecial 66, 3) := by decide +kernel
theorem dX2_entitle_78 : decode cX2_entitle 78 = .ok (.athrow, 1) := by decide +kernel
theorem dX2_entitle_79 : decode cX2_entitle 79 = .ok (.aload_n 0, 1) := by decide +kernel
theorem dX2_entitle_80 : decode cX2_entitle 80 = .ok (.getfield 106, 3) := by decide +kernel
theorem dX2_entitle_83 : decode cX2_entitle 83 = .ok (.istore 7, 2) := by decide +kernel
theorem dX2_entitle_85 : decode cX2_entitle 85 = .ok (.aload_n 0, 1) := by decide +kernel
theorem dX2_entitle_86 : decode cX2_entitle 86 = .ok (.getfield 18, 3) := by decide +kernel
theorem dX2_entitle_89 : decode cX2_entitle 89 = .ok (.iload 7, 2) := by decide +kernel
theorem dX2_entitle_91 : decode cX2_entitle 91 = .ok (.aaload, 1) := by decide +kernel
theorem dX2_entitle_92 : decode cX2_entitle 92 = .ok (.iload_n 1, 1) := by decide +kernel
theorem dX2_entitle_93 : decode cX2_entitle 93 = .ok (.iload_n 2, 1) := by decide +kernel
theorem dX2_entitle_94 : decode cX2_entitle 94 = .ok (.iload_n 3, 1) := by decide +kernel
theorem dX2_entitle_95 : decode cX2_entitle 95 = .ok (.iload 4, 2) := by decide +kernel
theorem dX2_entitle_97 : decode cX2_entitle 97 = .ok (.iload 5, 2) := by decide +kernel
theorem dX2_entitle_99 : decode cX2_entitle 99 = .ok (.iload 6, 2) := by decide +kernel
theorem dX2_entitle_101 : decode cX2_entitle 101 = .ok (.invokevirtual 111, 3) := by decide +kernel
theorem dX2_entitle_104 : decode cX2_entitle 104 = .ok (.aload_n 0, 1) := by decide +kernel
theorem dX2_entitle_105 : decode cX2_entitle 105 = .ok (.dup, 1) := by decide +kernel
theorem dX2_entitle_106 : decode cX2_entitle 106 = .ok (.getfield 106, 3) := by decide +kernel
theorem dX2_entitle_109 : decode cX2_entitle 109 = .ok (.iconst 1, 1) := by decide +kernel
theorem dX2_entitle_110 : decode cX2_entitle 110 = .ok (.iadd, 1) := by decide +kernel
theorem dX2_entitle_111 : decode cX2_entitle 111 = .ok (.putfield 106, 3) := by decide +kernel
theorem dX2_entitle_114 : decode cX2_entitle 114 = .ok (.iload 7, 2) := by decide +kernel
theorem dX2_entitle_116 : decode cX2_entitle 116 = .ok (.ireturn, 1) := by decide +kernel
theorem dX2_setRights_0 : decode cX2_setRights 0 = .ok (.aload_n 0, 1) := by decide +kernel
theorem dX2_setRights_1 : decode cX2_setRights 1 = .ok (.iload_n 1, 1) := by decide +kernel
theorem dX2_setRights_2 : decode cX2_setRights 2 = .ok (.invokevirtual 114, 3) := by decide +kernel
theorem dX2_setRights_5 : decode cX2_setRights 5 = .ok (.astore 5, 2) := by decide +kernel
theorem dX2_setRights_7 : decode cX2_setRights 7 = .ok (.aload 5, 2) := by decide +kernel
theorem dX2_setRights_9 : decode cX2_setRights 9 = .ok (.invokevirtual 118, 3) := by decide +kernel
theorem dX2_setRights_12 : decode cX2_setRights 12 = .ok (.istore 6, 2) := by decide +kernel
theorem dX2_setRights_14 : decode cX2_setRights 14 = .ok (.aload 5, 2) := by decide +kernel
theorem dX2_setRights_16 : decode cX2_setRights 16 = .ok (.iload_n 2, 1) := by decide +kernel
theorem dX2_setRights_17 : decode cX2_setRights 17 = .ok (.putfield 122, 3) := by decide +kernel
theorem dX2_setRights_20 : decode cX2_setRights 20 = .ok (.aload 5, 2) := by decide +kernel
theorem dX2_setRights_22 : decode cX2_setRights 22 = .ok (.iload_n 3, 1) := by decide +kernel
theorem dX2_setRights_23 : decode cX2_setRights 23 = .ok (.putfield 125, 3) := by decide +kernel
theorem dX2_setRights_26 : decode cX2_setRights 26 = .ok (.aload 5, 2) := by decide +kernel
theorem dX2_setRights_28 : decode cX2_setRights 28 = .ok (.iload 4, 2) := by decide +kernel
theorem dX2_setRights_30 : decode cX2_setRights 30 = .ok (.putfield 128, 3) := by decide +kernel
theorem dX2_setRights_33 : decode cX2_setRights 33 = .ok (.iload 6, 2) := by decide +kernel
theorem dX2_setRights_35 : decode cX2_setRights 35 = .ok (.ireturn, 1) := by decide +kernel
theorem dX2_setMinimum_0 : decode cX2_setMinimum 0 = .ok (.aload_n 0, 1) := by decide +kernel
theorem dX2_setMinimum_1 : decode cX2_setMinimum 1 = .ok (.iload_n 1, 1) := by decide +kernel
theorem dX2_setMinimum_2 : decode cX2_setMinimum 2 = .ok (.invokevirtual 114, 3) := by decide +kernel
theorem dX2_setMinimum_5 : decode cX2_setMinimum 5 = .ok (.astore_n 3, 1) := by decide +kernel
theorem dX2_setMinimum_6 : decode cX2_setMinimum 6 = .ok (.iload_n 2, 1) := by decide +kernel
theorem dX2_setMinimum_7 : decode cX2_setMinimum 7 = .ok (.iconst 1, 1) := by decide +kernel
theorem dX2_setMinimum_8 : decode cX2_setMinimum 8 = .ok (.bipush 16, 2) := by decide +kernel
theorem dX2_setMinimum_10 : decode cX2_setMinimum 10 = .ok (.invokestatic 33, 3) := by decide +kernel
theorem dX2_setMinimum_13 : decode cX2_setMinimum 13 = .ok (.ifCond .ne 13, 3) := by decide +kernel
theorem dX2_setMinimum_16 : decode cX2_setMinimum 16 = .ok (.new 48, 3) := by decide +kernel
theorem dX2_setMinimum_19 : decode cX2_setMinimum 19 = .ok (.dup, 1) := by decide +kernel
theorem dX2_setMinimum_20 : decode cX2_setMinimum 20 = .ok (.ldc 131, 2) := by decide +kernel
theorem dX2_setMinimum_22 : decode cX2_setMinimum 22 = .ok (.invokespecial 52, 3) := by decide +kernel
theorem dX2_setMinimum_25 : decode cX2_setMinimum 25 = .ok (.athrow, 1) := by decide +kernel
theorem dX2_setMinimum_26 : decode cX2_setMinimum 26 = .ok (.aload_n 3, 1) := by decide +kernel
theorem dX2_setMinimum_27 : decode cX2_setMinimum 27 = .ok (.getfield 133, 3) := by decide +kernel
theorem dX2_setMinimum_30 : decode cX2_setMinimum 30 = .ok (.bipush 99, 2) := by decide +kernel
theorem dX2_setMinimum_32 : decode cX2_setMinimum 32 = .ok (.if_icmp .eq 13, 3) := by decide +kernel
theorem dX2_setMinimum_35 : decode cX2_setMinimum 35 = .ok (.new 137, 3) := by decide +kernel
theorem dX2_setMinimum_38 : decode cX2_setMinimum 38 = .ok (.dup, 1) := by decide +kernel
theorem dX2_setMinimum_39 : decode cX2_setMinimum 39 = .ok (.ldc 139, 2) := by decide +kernel
theorem dX2_setMinimum_41 : decode cX2_setMinimum 41 = .ok (.invokespecial 141, 3) := by decide +kernel
theorem dX2_setMinimum_44 : decode cX2_setMinimum 44 = .ok (.athrow, 1) := by decide +kernel
theorem dX2_setMinimum_45 : decode cX2_setMinimum 45 = .ok (.aload_n 3, 1) := by decide +kernel
theorem dX2_setMinimum_46 : decode cX2_setMinimum 46 = .ok (.getfield 142, 3) := by decide +kernel
theorem dX2_setMinimum_49 : decode cX2_setMinimum 49 = .ok (.istore 4, 2) := by decide +kernel
theorem dX2_setMinimum_51 : decode cX2_setMinimum 51 = .ok (.aload_n 3, 1) := by decide +kernel
theorem dX2_setMinimum_52 : decode cX2_setMinimum 52 = .ok (.iload_n 2, 1) := by decide +kernel
theorem dX2_setMinimum_53 : decode cX2_setMinimum 53 = .ok (.putfield 142, 3) := by decide +kernel
theorem dX2_setMinimum_56 : decode cX2_setMinimum 56 = .ok (.iload 4, 2) := by decide +kernel
theorem dX2_setMinimum_58 : decode cX2_setMinimum 58 = .ok (.ireturn, 1) := by decide +kernel
theorem dX2_setPrice_0 : decode cX2_setPrice 0 = .ok (.aload_n 0, 1) := by decide +kernel
theorem dX2_setPrice_1 : decode cX2_setPrice 1 = .ok (.iload_n 1, 1) := by decide +kernel
theorem dX2_setPrice_2 : decode cX2_setPrice 2 = .ok (.invokevirtual 114, 3) := by decide +kernel
theorem dX2_setPrice_5 : decode cX2_setPrice 5 = .ok (.astore_n 3, 1) := by decide +kernel
theorem dX2_setPrice_6 : decode cX2_setPrice 6 = .ok (.iload_n 2, 1) := by decide +kernel
theorem dX2_setPrice_7 : decode cX2_setPrice 7 = .ok (.iconst 1, 1) := by decide +kernel
theorem dX2_setPrice_8 : decode cX2_setPrice 8 = .ok (.bipush 99, 2) := by decide +kernel
theorem dX2_setPrice_10 : decode cX2_setPrice 10 = .ok (.invokestatic 33, 3) := by decide +kernel
theorem dX2_setPrice_13 : decode cX2_setPrice 13 = .ok (.ifCond .ne 13, 3) := by decide +kernel
theorem dX2_setPrice_16 : decode cX2_setPrice 16 = .ok (.new 48, 3) := by decide +kernel
theorem dX2_setPrice_19 : decode cX2_setPrice 19 = .ok (.dup, 1) := by decide +kernel
theorem dX2_setPrice_20 : decode cX2_setPrice 20 = .ok (.ldc 145, 2) := by decide +kernel
theorem dX2_setPrice_22 : decode cX2_setPrice 22 = .ok (.invokespecial 52, 3) := by decide +kernel
theorem dX2_setPrice_25 : decode cX2_setPrice 25 = .ok (.athrow, 1) := by decide +kernel
theorem dX2_setPrice_26 : decode cX2_setPrice 26 = .ok (.aload_n 3, 1) := by decide +kernel
theorem dX2_setPrice_27 : decode cX2_setPrice 27 = .ok (.getfield 147, 3) := by decide +kernel
theorem dX2_setPrice_30 : decode cX2_setPrice 30 = .ok (.istore 4, 2) := by decide +kernel
theorem dX2_setPrice_32 : decode cX2_setPrice 32 = .ok (.aload_n 3, 1) := by decide +kernel
theorem dX2_setPrice_33 : decode cX2_setPrice 33 = .ok (.iload_n 2, 1) := by decide +kernel
theorem dX2_setPrice_34 : decode cX2_setPrice 34 = .ok (.putfield 147, 3) := by decide +kernel
theorem dX2_setPrice_37 : decode cX2_setPrice 37 = .ok (.iload 4, 2) := by decide +kernel
theorem dX2_setPrice_39 : decode cX2_setPrice 39 = .ok (.ireturn, 1) := by decide +kernel
theorem dX2_addUnits_0 : decode cX2_addUnits 0 = .ok (.aload_n 0, 1) := by decide +kernel
theorem dX2_addUnits_1 : decode cX2_addUnits 1 = .ok (.iload_n 1, 1) := by decide +kernel
theorem dX2_addUnits_2 : decode cX2_addUnits 2 = .ok (.invokevirtual 114, 3) := by decide +kernel
theorem dX2_addUnits_5 : decode cX2_addUnits 5 = .ok (.astore_n 3, 1) := by decide +kernel
theorem dX2_addUnits_6 : decode cX2_addUnits 6 = .ok (.iload_n 2, 1) := by decide +kernel
theorem dX2_addUnits_7 : decode cX2_addUnits 7 = .ok (.iconst 1, 1) := by decide +kernel
theorem dX2_addUnits_8 : decode cX2_addUnits 8 = .ok (.bipush 99, 2) := by decide +kernel
theorem dX2_addUnits_10 : decode cX2_addUnits 10 = .ok (.invokestatic 33, 3) := by decide +kernel
theorem dX2_addUnits_13 : decode cX2_addUnits 13 = .ok (.ifCond .ne 13, 3) := by decide +kernel
theorem dX2_addUnits_16 : decode cX2_addUnits 16 = .ok (.new 48, 3) := by decide +kernel
theorem dX2_addUnits_19 : decode cX2_addUnits 19 = .ok (.dup, 1) := by decide +kernel
theorem dX2_addUnits_20 : decode cX2_addUnits 20 = .ok (.ldc 150, 2) := by decide +kernel
theorem dX2_addUnits_22 : decode cX2_addUnits 22 = .ok (.invokespecial 52, 3) := by decide +kernel
theorem dX2_addUnits_25 : decode cX2_addUnits 25 = .ok (.athrow, 1) := by decide +kernel
theorem dX2_addUnits_26 : decode cX2_addUnits 26 = .ok (.aload_n 3, 1) := by decide +kernel
theorem dX2_addUnits_27 : decode cX2_addUnits 27 = .ok (.getfield 152, 3) := by decide +kernel
theorem dX2_addUnits_30 : decode cX2_addUnits 30 = .ok (.iload_n 2, 1) := by decide +kernel
theorem dX2_addUnits_31 : decode cX2_addUnits 31 = .ok (.iadd, 1) := by decide +kernel
theorem dX2_addUnits_32 : decode cX2_addUnits 32 = .ok (.sipush 999, 3) := by decide +kernel
theorem dX2_addUnits_35 : decode cX2_addUnits 35 = .ok (.if_icmp .le 13, 3) := by decide +kernel
theorem dX2_addUnits_38 : decode cX2_addUnits 38 = .ok (.new 62, 3) := by decide +kernel
theorem dX2_addUnits_41 : decode cX2_addUnits 41 = .ok (.dup, 1) := by decide +kernel
theorem dX2_addUnits_42 : decode cX2_addUnits 42 = .ok (.ldc 155, 2) := by decide +kernel
theorem dX2_addUnits_44 : decode cX2_addUnits 44 = .ok (.invokespecial 66, 3) := by decide +kernel
theorem dX2_addUnits_47 : decode cX2_addUnits 47 = .ok (.athrow, 1) := by decide +kernel
theorem dX2_addUnits_48 : decode cX2_addUnits 48 = .ok (.aload_n 3, 1) := by decide +kernel
theorem dX2_addUnits_49 : decode cX2_addUnits 49 = .ok (.dup, 1) := by decide +kernel
theorem dX2_addUnits_50 : decode cX2_addUnits 50 = .ok (.getfield 152, 3) := by decide +kernel
theorem dX2_addUnits_53 : decode cX2_addUnits 53 = .ok (.iload_n 2, 1) := by decide +kernel
theorem dX2_addUnits_54 : decode cX2_addUnits 54 = .ok (.iadd, 1) := by decide +kernel
theorem dX2_addUnits_55 : decode cX2_addUnits 55 = .ok (.putfield 152, 3) := by decide +kernel
theorem dX2_addUnits_58 : decode cX2_addUnits 58 = .ok (.aload_n 3, 1) := by decide +kernel
theorem dX2_addUnits_59 : decode cX2_addUnits 59 = .ok (.getfield 152, 3) := by decide +kernel
theorem dX2_addUnits_62 : decode cX2_addUnits 62 = .ok (.ireturn, 1) := by decide +kernel
theorem dX2_units_0 : decode cX2_units 0 = .ok (.aload_n 0, 1) := by decide +kernel
theorem dX2_units_1 : decode cX2_units 1 = .ok (.iload_n 1, 1) := by decide +kernel
theorem dX2_units_2 : decode cX2_units 2 = .ok (.invokevirtual 114, 3) := by decide +kernel
theorem dX2_units_5 : decode cX2_units 5 = .ok (.getfield 152, 3) := by decide +kernel
theorem dX2_units_8 : decode cX2_units 8 = .ok (.ireturn, 1) := by decide +kernel
theorem dX2_why_0 : decode cX2_why 0 = .ok (.aload_n 0, 1) := by decide +kernel
theorem dX2_why_1 : decode cX2_why 1 = .ok (.iload_n 1, 1) := by decide +kernel
theorem dX2_why_2 : decode cX2_why 2 = .ok (.invokevirtual 71, 3) := by decide +kernel
theorem dX2_why_5 : decode cX2_why 5 = .ok (.astore_n 3, 1) := by decide +kernel
theorem dX2_why_6 : decode cX2_why 6 = .ok (.aload_n 0, 1) := by decide +kernel
theorem dX2_why_7 : decode cX2_why 7 = .ok (.iload_n 2, 1) := by decide +kernel
theorem dX2_why_8 : decode cX2_why 8 = .ok (.invokevirtual 114, 3) := by decide +kernel
theorem dX2_why_11 : decode cX2_why 11 = .ok (.aload_n 3, 1) := by decide +kernel
theorem dX2_why_12 : decode cX2_why 12 = .ok (.invokevirtual 157, 3) := by decide +kernel
theorem dX2_why_15 : decode cX2_why 15 = .ok (.ireturn, 1) := by decide +kernel
theorem dX2_fitting_0 : decode cX2_fitting 0 = .ok (.aload_n 0, 1) := by decide +kernel
theorem dX2_fitting_1 : decode cX2_fitting 1 = .ok (.aload_n 0, 1) := by decide +kernel
theorem dX2_fitting_2 : decode cX2_fitting 2 = .ok (.iload_n 1, 1) := by decide +kernel
theorem dX2_fitting_3 : decode cX2_fitting 3 = .ok (.invokevirtual 71, 3) := by decide +kernel
theorem dX2_fitting_6 : decode cX2_fitting 6 = .ok (.invokevirtual 161, 3) := by decide +kernel
theorem dX2_fitting_9 : decode cX2_fitting 9 = .ok (.ireturn, 1) := by decide +kernel
theorem dX2_firstFitting_0 : decode cX2_firstFitting 0 = .ok (.aload_n 0, 1) := by decide +kernel
theorem dX2_firstFitting_1 : decode cX2_firstFitting 1 = .ok (.iload_n 1, 1) := by decide +kernel
theorem dX2_firstFitting_2 : decode cX2_firstFitting 2 = .ok (.invokevirtual 71, 3) := by decide +kernel
theorem dX2_firstFitting_5 : decode cX2_firstFitting 5 = .ok (.astore_n 2, 1) := by decide +kernel
theorem dX2_firstFitting_6 : decode cX2_firstFitting 6 = .ok (.iconst 0, 1) := by decide +kernel
theorem dX2_firstFitting_7 : decode cX2_firstFitting 7 = .ok (.istore_n 3, 1) := by decide +kernel
theorem dX2_firstFitting_8 : decode cX2_firstFitting 8 = .ok (.iload_n 3, 1) := by decide +kernel
theorem dX2_firstFitting_9 : decode cX2_firstFitting 9 = .ok (.iconst 5, 1) := by decide +kernel
theorem dX2_firstFitting_10 : decode cX2_firstFitting 10 = .ok (.if_icmp .ge 24, 3) := by decide +kernel
theorem dX2_firstFitting_13 : decode cX2_firstFitting 13 = .ok (.aload_n 0, 1) := by decide +kernel
theorem dX2_firstFitting_14 : decode cX2_firstFitting 14 = .ok (.getfield 18, 3) := by decide +kernel
theorem dX2_firstFitting_17 : decode cX2_firstFitting 17 = .ok (.iload_n 3, 1) := by decide +kernel
theorem dX2_firstFitting_18 : decode cX2_firstFitting 18 = .ok (.aaload, 1) := by decide +kernel
theorem dX2_firstFitting_19 : decode cX2_firstFitting 19 = .ok (.aload_n 2, 1) := by decide +kernel
theorem dX2_firstFitting_20 : decode cX2_firstFitting 20 = .ok (.invokevirtual 165, 3) := by decide +kernel
theorem dX2_firstFitting_23 : decode cX2_firstFitting 23 = .ok (.ifCond .eq 5, 3) := by decide +kernel
theorem dX2_firstFitting_26 : decode cX2_firstFitting 26 = .ok (.iload_n 3, 1) := by decide +kernel
theorem dX2_firstFitting_27 : decode cX2_firstFitting 27 = .ok (.ireturn, 1) := by decide +kernel
theorem dX2_firstFitting_28 : decode cX2_firstFitting 28 = .ok (.iinc 3 1, 3) := by decide +kernel
theorem dX2_firstFitting_31 : decode cX2_firstFitting 31 = .ok (.goto (-23), 3) := by decide +kernel
theorem dX2_firstFitting_34 : decode cX2_firstFitting 34 = .ok (.new 169, 3) := by decide +kernel
theorem dX2_firstFitting_37 : decode cX2_firstFitting 37 = .ok (.dup, 1) := by decide +kernel
theorem dX2_firstFitting_38 : decode cX2_firstFitting 38 = .ok (.ldc 171, 2) := by decide +kernel
theorem dX2_firstFitting_40 : decode cX2_firstFitting 40 = .ok (.invokespecial 173, 3) := by decide +kernel
theorem dX2_firstFitting_43 : decode cX2_firstFitting 43 = .ok (.athrow, 1) := by decide +kernel
theorem dX2_unitsForAll_0 : decode cX2_unitsForAll 0 = .ok (.aload_n 0, 1) := by decide +kernel
theorem dX2_unitsForAll_1 : decode cX2_unitsForAll 1 = .ok (.iload_n 1, 1) := by decide +kernel
theorem dX2_unitsForAll_2 : decode cX2_unitsForAll 2 = .ok (.invokevirtual 114, 3) := by decide +kernel
theorem dX2_unitsForAll_5 : decode cX2_unitsForAll 5 = .ok (.astore_n 2, 1) := by decide +kernel
theorem dX2_unitsForAll_6 : decode cX2_unitsForAll 6 = .ok (.aload_n 2, 1) := by decide +kernel
theorem dX2_unitsForAll_7 : decode cX2_unitsForAll 7 = .ok (.invokevirtual 174, 3) := by decide +kernel
theorem dX2_unitsForAll_10 : decode cX2_unitsForAll 10 = .ok (.iconst 0, 1) := by decide +kernel
theorem dX2_unitsForAll_11 : decode cX2_unitsForAll 11 = .ok (.istore_n 3, 1) := by decide +kernel
theorem dX2_unitsForAll_12 : decode cX2_unitsForAll 12 = .ok (.iload_n 3, 1) := by decide +kernel
theorem dX2_unitsForAll_13 : decode cX2_unitsForAll 13 = .ok (.bipush 12, 2) := by decide +kernel
theorem dX2_unitsForAll_15 : decode cX2_unitsForAll 15 = .ok (.if_icmp .ge 32, 3) := by decide +kernel
theorem dX2_unitsForAll_18 : decode cX2_unitsForAll 18 = .ok (.aload_n 2, 1) := by decide +kernel
theorem dX2_unitsForAll_19 : decode cX2_unitsForAll 19 = .ok (.aload_n 0, 1) := by decide +kernel
theorem dX2_unitsForAll_20 : decode cX2_unitsForAll 20 = .ok (.getfield 11, 3) := by decide +kernel
theorem dX2_unitsForAll_23 : decode cX2_unitsForAll 23 = .ok (.iload_n 3, 1) := by decide +kernel
theorem dX2_unitsForAll_24 : decode cX2_unitsForAll 24 = .ok (.aaload, 1) := by decide +kernel
theorem dX2_unitsForAll_25 : decode cX2_unitsForAll 25 = .ok (.invokevirtual 165, 3) := by decide +kernel
theorem dX2_unitsForAll_28 : decode cX2_unitsForAll 28 = .ok (.ifCond .eq 13, 3) := by decide +kernel
theorem dX2_unitsForAll_31 : decode cX2_unitsForAll 31 = .ok (.aload_n 2, 1) := by decide +kernel
theorem dX2_unitsForAll_32 : decode cX2_unitsForAll 32 = .ok (.aload_n 0, 1) := by decide +kernel
theorem dX2_unitsForAll_33 : decode cX2_unitsForAll 33 = .ok (.getfield 11, 3) := by decide +kernel
theorem dX2_unitsForAll_36 : decode cX2_unitsForAll 36 = .ok (.iload_n 3, 1) := by decide +kernel
theorem dX2_unitsForAll_37 : decode cX2_unitsForAll 37 = .ok (.aaload, 1) := by decide +kernel
theorem dX2_unitsForAll_38 : decode cX2_unitsForAll 38 = .ok (.invokevirtual 177, 3) := by decide +kernel
theorem dX2_unitsForAll_41 : decode cX2_unitsForAll 41 = .ok (.iinc 3 1, 3) := by decide +kernel
theorem dX2_unitsForAll_44 : decode cX2_unitsForAll 44 = .ok (.goto (-32), 3) := by decide +kernel
theorem dX2_unitsForAll_47 : decode cX2_unitsForAll 47 = .ok (.aload_n 2, 1) := by decide +kernel
theorem dX2_unitsForAll_48 : decode cX2_unitsForAll 48 = .ok (.getfield 181, 3) := by decide +kernel
theorem dX2_unitsForAll_51 : decode cX2_unitsForAll 51 = .ok (.ireturn, 1) := by decide +kernel
theorem dX2_covered_0 : decode cX2_covered 0 = .ok (.aload_n 0, 1) := by decide +kernel
theorem dX2_covered_1 : decode cX2_covered 1 = .ok (.invokevirtual 184, 3) := by decide +kernel
theorem dX2_covered_4 : decode cX2_covered 4 = .ok (.ireturn, 1) := by decide +kernel
theorem dX2_coveredByTrying_0 : decode cX2_coveredByTrying 0 = .ok (.aload_n 0, 1) := by decide +kernel
theorem dX2_coveredByTrying_1 : decode cX2_coveredByTrying 1 = .ok (.getfield 55, 3) := by decide +kernel
theorem dX2_coveredByTrying_4 : decode cX2_coveredByTrying 4 = .ok (.iconst 4, 1) := by decide +kernel
theorem dX2_coveredByTrying_5 : decode cX2_coveredByTrying 5 = .ok (.if_icmp .le 13, 3) := by decide +kernel
theorem dX2_coveredByTrying_8 : decode cX2_coveredByTrying 8 = .ok (.new 137, 3) := by decide +kernel
theorem dX2_coveredByTrying_11 : decode cX2_coveredByTrying 11 = .ok (.dup, 1) := by decide +kernel
theorem dX2_coveredByTrying_12 : decode cX2_coveredByTrying 12 = .ok (.ldc 187, 2) := by decide +kernel
theorem dX2_coveredByTrying_14 : decode cX2_coveredByTrying 14 = .ok (.invokespecial 141, 3) := by decide +kernel
theorem dX2_coveredByTrying_17 : decode cX2_coveredByTrying 17 = .ok (.athrow, 1) := by decide +kernel
theorem dX2_coveredByTrying_18 : decode cX2_coveredByTrying 18 = .ok (.aload_n 0, 1) := by decide +kernel
theorem dX2_coveredByTrying_19 : decode cX2_coveredByTrying 19 = .ok (.iconst (-1), 1) := by decide +kernel
theorem dX2_coveredByTrying_20 : decode cX2_coveredByTrying 20 = .ok (.invokevirtual 189, 3) := by decide +kernel
theorem dX2_coveredByTrying_23 : decode cX2_coveredByTrying 23 = .ok (.aload_n 0, 1) := by decide +kernel
theorem dX2_coveredByTrying_24 : decode cX2_coveredByTrying 24 = .ok (.iconst 0, 1) := by decide +kernel
theorem dX2_coveredByTrying_25 : decode cX2_coveredByTrying 25 = .ok (.invokestatic 193, 3) := by decide +kernel
theorem dX2_coveredByTrying_28 : decode cX2_coveredByTrying 28 = .ok (.aload_n 0, 1) := by decide +kernel
theorem dX2_coveredByTrying_29 : decode cX2_coveredByTrying 29 = .ok (.getfield 197, 3) := by decide +kernel
theorem dX2_coveredByTrying_32 : decode cX2_coveredByTrying 32 = .ok (.ireturn, 1) := by decide +kernel
theorem dX2_entitlementOf_0 : decode cX2_entitlementOf 0 = .ok (.aload_n 0, 1) := by decide +kernel
theorem dX2_entitlementOf_1 : decode cX2_entitlementOf 1 = .ok (.iload_n 1, 1) := by decide +kernel
theorem dX2_entitlementOf_2 : decode cX2_entitlementOf 2 = .ok (.invokevirtual 200, 3) := by decide +kernel
theorem dX2_entitlementOf_5 : decode cX2_entitlementOf 5 = .ok (.istore_n 2, 1) := by decide +kernel
theorem dX2_entitlementOf_6 : decode cX2_entitlementOf 6 = .ok (.iload_n 2, 1) := by decide +kernel
theorem dX2_entitlementOf_7 : decode cX2_entitlementOf 7 = .ok (.iconst (-1), 1) := by decide +kernel
theorem dX2_entitlementOf_8 : decode cX2_entitlementOf 8 = .ok (.if_icmp .ne 13, 3) := by decide +kernel
theorem dX2_entitlementOf_11 : decode cX2_entitlementOf 11 = .ok (.new 169, 3) := by decide +kernel
theorem dX2_entitlementOf_14 : decode cX2_entitlementOf 14 = .ok (.dup, 1) := by decide +kernel
theorem dX2_entitlementOf_15 : decode cX2_entitlementOf 15 = .ok (.ldc 204, 2) := by decide +kernel
theorem dX2_entitlementOf_17 : decode cX2_entitlementOf 17 = .ok (.invokespecial 173, 3) := by decide +kernel
theorem dX2_entitlementOf_20 : decode cX2_entitlementOf 20 = .ok (.athrow, 1) := by decide +kernel
theorem dX2_entitlementOf_21 : decode cX2_entitlementOf 21 = .ok (.iload_n 2, 1) := by decide +kernel
theorem dX2_entitlementOf_22 : decode cX2_entitlementOf 22 = .ok (.ireturn, 1) := by decide +kernel
theorem dX2_reason_0 : decode cX2_reason 0 = .ok (.aload_n 0, 1) := by decide +kernel
theorem dX2_reason_1 : decode cX2_reason 1 = .ok (.iload_n 1, 1) := by decide +kernel
theorem dX2_reason_2 : decode cX2_reason 2 = .ok (.invokevirtual 200, 3) := by decide +kernel
theorem dX2_reason_5 : decode cX2_reason 5 = .ok (.iconst (-1), 1) := by decide +kernel
theorem dX2_reason_6 : decode cX2_reason 6 = .ok (.if_icmp .eq 6, 3) := by decide +kernel
theorem dX2_reason_9 : decode cX2_reason 9 = .ok (.bipush 99, 2) := by decide +kernel
theorem dX2_reason_11 : decode cX2_reason 11 = .ok (.ireturn, 1) := by decide +kernel
theorem dX2_reason_12 : decode cX2_reason 12 = .ok (.aload_n 0, 1) := by decide +kernel
theorem dX2_reason_13 : decode cX2_reason 13 = .ok (.iload_n 1, 1) := by decide +kernel
theorem dX2_reason_14 : decode cX2_reason 14 = .ok (.invokevirtual 206, 3) := by decide +kernel
theorem dX2_reason_17 : decode cX2_reason 17 = .ok (.ifCond .ne 8, 3) := by decide +kernel
theorem dX2_reason_20 : decode cX2_reason 20 = .ok (.bipush 110, 2) := by decide +kernel
theorem dX2_reason_22 : decode cX2_reason 22 = .ok (.goto 5, 3) := by decide +kernel
theorem dX2_reason_25 : decode cX2_reason 25 = .ok (.bipush 117, 2) := by decide +kernel
theorem dX2_reason_27 : decode cX2_reason 27 = .ok (.ireturn, 1) := by decide +kernel
theorem dX2_used_0 : decode cX2_used 0 = .ok (.aload_n 0, 1) := by decide +kernel
theorem dX2_used_1 : decode cX2_used 1 = .ok (.iload_n 1, 1) := by decide +kernel
theorem dX2_used_2 : decode cX2_used 2 = .ok (.invokevirtual 114, 3) := by decide +kernel
theorem dX2_used_5 : decode cX2_used 5 = .ok (.astore_n 2, 1) := by decide +kernel
theorem dX2_used_6 : decode cX2_used 6 = .ok (.aload_n 0, 1) := by decide +kernel
theorem dX2_used_7 : decode cX2_used 7 = .ok (.invokevirtual 184, 3) := by decide +kernel
theorem dX2_used_10 : decode cX2_used 10 = .ok (.pop, 1) := by decide +kernel
theorem dX2_used_11 : decode cX2_used 11 = .ok (.aload_n 0, 1) := by decide +kernel
theorem dX2_used_12 : decode cX2_used 12 = .ok (.invokevirtual 209, 3) := by decide +kernel
theorem dX2_used_15 : decode cX2_used 15 = .ok (.aload_n 2, 1) := by decide +kernel
theorem dX2_used_16 : decode cX2_used 16 = .ok (.getfield 181, 3) := by decide +kernel
theorem dX2_used_19 : decode cX2_used 19 = .ok (.ireturn, 1) := by decide +kernel
theorem dX2_spare_0 : decode cX2_spare 0 = .ok (.aload_n 0, 1) := by decide +kernel
theorem dX2_spare_1 : decode cX2_spare 1 = .ok (.iload_n 1, 1) := by decide +kernel
theorem dX2_spare_2 : decode cX2_spare 2 = .ok (.invokevirtual 212, 3) := by decide +kernel
theorem dX2_spare_5 : decode cX2_spare 5 = .ok (.istore_n 2, 1) := by decide +kernel
theorem dX2_spare_6 : decode cX2_spare 6 = .ok (.aload_n 0, 1) := by decide +kernel
theorem dX2_spare_7 : decode cX2_spare 7 = .ok (.iload_n 1, 1) := by decide +kernel
theorem dX2_spare_8 : decode cX2_spare 8 = .ok (.invokevirtual 114, 3) := by decide +kernel
theorem dX2_spare_11 : decode cX2_spare 11 = .ok (.getfield 152, 3) := by decide +kernel
theorem dX2_spare_14 : decode cX2_spare 14 = .ok (.iload_n 2, 1) := by decide +kernel
theorem dX2_spare_15 : decode cX2_spare 15 = .ok (.isub, 1) := by decide +kernel
theorem dX2_spare_16 : decode cX2_spare 16 = .ok (.ireturn, 1) := by decide +kernel
theorem dX2_purchase_0 : decode cX2_purchase 0 = .ok (.aload_n 0, 1) := by decide +kernel
theorem dX2_purchase_1 : decode cX2_purchase 1 = .ok (.invokevirtual 215, 3) := by decide +kernel
theorem dX2_purchase_4 : decode cX2_purchase 4 = .ok (.aload_n 0, 1) := by decide +kernel
theorem dX2_purchase_5 : decode cX2_purchase 5 = .ok (.invokevirtual 218, 3) := by decide +kernel
theorem dX2_purchase_8 : decode cX2_purchase 8 = .ok (.ireturn, 1) := by decide +kernel
theorem dX2_purchaseByTrying_0 : decode cX2_purchaseByTrying 0 = .ok (.aload_n 0, 1) := by decide +kernel
theorem dX2_purchaseByTrying_1 : decode cX2_purchaseByTrying 1 = .ok (.getfield 55, 3) := by decide +kernel
theorem dX2_purchaseByTrying_4 : decode cX2_purchaseByTrying 4 = .ok (.iconst 4, 1) := by decide +kernel
theorem dX2_purchaseByTrying_5 : decode cX2_purchaseByTrying 5 = .ok (.if_icmp .le 13, 3) := by decide +kernel
theorem dX2_purchaseByTrying_8 : decode cX2_purchaseByTrying 8 = .ok (.new 137, 3) := by decide +kernel
theorem dX2_purchaseByTrying_11 : decode cX2_purchaseByTrying 11 = .ok (.dup, 1) := by decide +kernel
theorem dX2_purchaseByTrying_12 : decode cX2_purchaseByTrying 12 = .ok (.ldc 187, 2) := by decide +kernel
theorem dX2_purchaseByTrying_14 : decode cX2_purchaseByTrying 14 = .ok (.invokespecial 141, 3) := by decide +kernel
theorem dX2_purchaseByTrying_17 : decode cX2_purchaseByTrying 17 = .ok (.athrow, 1) := by decide +kernel
theorem dX2_purchaseByTrying_18 : decode cX2_purchaseByTrying 18 = .ok (.aload_n 0, 1) := by decide +kernel
theorem dX2_purchaseByTrying_19 : decode cX2_purchaseByTrying 19 = .ok (.invokevirtual 215, 3) := by decide +kernel
theorem dX2_purchaseByTrying_22 : decode cX2_purchaseByTrying 22 = .ok (.aload_n 0, 1) := by decide +kernel
theorem dX2_purchaseByTrying_23 : decode cX2_purchaseByTrying 23 = .ok (.ldc 221, 2) := by decide +kernel
theorem dX2_purchaseByTrying_25 : decode cX2_purchaseByTrying 25 = .ok (.invokevirtual 189, 3) := by decide +kernel
theorem dX2_purchaseByTrying_28 : decode cX2_purchaseByTrying 28 = .ok (.aload_n 0, 1) := by decide +kernel
theorem dX2_purchaseByTrying_29 : decode cX2_purchaseByTrying 29 = .ok (.iconst 0, 1) := by decide +kernel
theorem dX2_purchaseByTrying_30 : decode cX2_purchaseByTrying 30 = .ok (.invokestatic 222, 3) := by decide +kernel
theorem dX2_purchaseByTrying_33 : decode cX2_purchaseByTrying 33 = .ok (.aload_n 0, 1) := by decide +kernel
theorem dX2_purchaseByTrying_34 : decode cX2_purchaseByTrying 34 = .ok (.getfield 197, 3) := by decide +kernel
theorem dX2_purchaseByTrying_37 : decode cX2_purchaseByTrying 37 = .ok (.ireturn, 1) := by decide +kernel
theorem dX2_toBuy_0 : decode cX2_toBuy 0 = .ok (.aload_n 0, 1) := by decide +kernel
theorem dX2_toBuy_1 : decode cX2_toBuy 1 = .ok (.iload_n 1, 1) := by decide +kernel
theorem dX2_toBuy_2 : decode cX2_toBuy 2 = .ok (.invokevirtual 114, 3) := by decide +kernel
theorem dX2_toBuy_5 : decode cX2_toBuy 5 = .ok (.astore_n 2, 1) := by decide +kernel
theorem dX2_toBuy_6 : decode cX2_toBuy 6 = .ok (.aload_n 0, 1) := by decide +kernel
theorem dX2_toBuy_7 : decode cX2_toBuy 7 = .ok (.invokevirtual 215, 3) := by decide +kernel
theorem dX2_toBuy_10 : decode cX2_toBuy 10 = .ok (.aload_n 0, 1) := by decide +kernel
theorem dX2_toBuy_11 : decode cX2_toBuy 11 = .ok (.invokevirtual 218, 3) := by decide +kernel
theorem dX2_toBuy_14 : decode cX2_toBuy 14 = .ok (.pop, 1) := by decide +kernel
theorem dX2_toBuy_15 : decode cX2_toBuy 15 = .ok (.aload_n 0, 1) := by decide +kernel
theorem dX2_toBuy_16 : decode cX2_toBuy 16 = .ok (.invokevirtual 209, 3) := by decide +kernel
theorem dX2_toBuy_19 : decode cX2_toBuy 19 = .ok (.aload_n 2, 1) := by decide +kernel
theorem dX2_toBuy_20 : decode cX2_toBuy 20 = .ok (.invokevirtual 225, 3) := by decide +kernel
theorem dX2_toBuy_23 : decode cX2_toBuy 23 = .ok (.ireturn, 1) := by decide +kernel
theorem dX2_trueUp_0 : decode cX2_trueUp 0 = .ok (.aload_n 0, 1) := by decide +kernel
theorem dX2_trueUp_1 : decode cX2_trueUp 1 = .ok (.invokevirtual 215, 3) := by decide +kernel
theorem dX2_trueUp_4 : decode cX2_trueUp 4 = .ok (.aload_n 0, 1) := by decide +kernel
theorem dX2_trueUp_5 : decode cX2_trueUp 5 = .ok (.invokevirtual 218, 3) := by decide +kernel
theorem dX2_trueUp_8 : decode cX2_trueUp 8 = .ok (.istore_n 1, 1) := by decide +kernel
theorem dX2_trueUp_9 : decode cX2_trueUp 9 = .ok (.aload_n 0, 1) := by decide +kernel
theorem dX2_trueUp_10 : decode cX2_trueUp 10 = .ok (.invokevirtual 209, 3) := by decide +kernel
theorem dX2_trueUp_13 : decode cX2_trueUp 13 = .ok (.iconst 0, 1) := by decide +kernel
theorem dX2_trueUp_14 : decode cX2_trueUp 14 = .ok (.istore_n 2, 1) := by decide +kernel
theorem dX2_trueUp_15 : decode cX2_trueUp 15 = .ok (.iload_n 2, 1) := by decide +kernel
theorem dX2_trueUp_16 : decode cX2_trueUp 16 = .ok (.iconst 5, 1) := by decide +kernel
theorem dX2_trueUp_17 : decode cX2_trueUp 17 = .ok (.if_icmp .ge 32, 3) := by decide +kernel
theorem dX2_trueUp_20 : decode cX2_trueUp 20 = .ok (.aload_n 0, 1) := by decide +kernel
theorem dX2_trueUp_21 : decode cX2_trueUp 21 = .ok (.getfield 18, 3) := by decide +kernel
theorem dX2_trueUp_24 : decode cX2_trueUp 24 = .ok (.iload_n 2, 1) := by decide +kernel
theorem dX2_trueUp_25 : decode cX2_trueUp 25 = .ok (.aaload, 1) := by decide +kernel
theorem dX2_trueUp_26 : decode cX2_trueUp 26 = .ok (.dup, 1) := by decide +kernel
theorem dX2_trueUp_27 : decode cX2_trueUp 27 = .ok (.getfield 152, 3) := by decide +kernel
theorem dX2_trueUp_30 : decode cX2_trueUp 30 = .ok (.aload_n 0, 1) := by decide +kernel
theorem dX2_trueUp_31 : decode cX2_trueUp 31 = .ok (.getfield 18, 3) := by decide +kernel
theorem dX2_trueUp_34 : decode cX2_trueUp 34 = .ok (.iload_n 2, 1) := by decide +kernel
theorem dX2_trueUp_35 : decode cX2_trueUp 35 = .ok (.aaload, 1) := by decide +kernel
theorem dX2_trueUp_36 : decode cX2_trueUp 36 = .ok (.invokevirtual 225, 3) := by decide +kernel
theorem dX2_trueUp_39 : decode cX2_trueUp 39 = .ok (.iadd, 1) := by decide +kernel
theorem dX2_trueUp_40 : decode cX2_trueUp 40 = .ok (.putfield 152, 3) := by decide +kernel
theorem dX2_trueUp_43 : decode cX2_trueUp 43 = .ok (.iinc 2 1, 3) := by decide +kernel
theorem dX2_trueUp_46 : decode cX2_trueUp 46 = .ok (.goto (-31), 3) := by decide +kernel
theorem dX2_trueUp_49 : decode cX2_trueUp 49 = .ok (.aload_n 0, 1) := by decide +kernel
theorem dX2_trueUp_50 : decode cX2_trueUp 50 = .ok (.dup, 1) := by decide +kernel
theorem dX2_trueUp_51 : decode cX2_trueUp 51 = .ok (.getfield 228, 3) := by decide +kernel
theorem dX2_trueUp_54 : decode cX2_trueUp 54 = .ok (.iload_n 1, 1) := by decide +kernel
theorem dX2_trueUp_55 : decode cX2_trueUp 55 = .ok (.i2l, 1) := by decide +kernel
theorem dX2_trueUp_56 : decode cX2_trueUp 56 = .ok (.ladd, 1) := by decide +kernel
theorem dX2_trueUp_57 : decode cX2_trueUp 57 = .ok (.putfield 228, 3) := by decide +kernel
theorem dX2_trueUp_60 : decode cX2_trueUp 60 = .ok (.iload_n 1, 1) := by decide +kernel
theorem dX2_trueUp_61 : decode cX2_trueUp 61 = .ok (.ireturn, 1) := by decide +kernel
theorem dX2_spent_0 : decode cX2_spent 0 = .ok (.aload_n 0, 1) := by decide +kernel
theorem dX2_spent_1 : decode cX2_spent 1 = .ok (.getfield 228, 3) := by decide +kernel
theorem dX2_spent_4 : decode cX2_spent 4 = .ok (.lreturn, 1) := by decide +kernel
theorem dX2_coverage_0 : decode cX2_coverage 0 = .ok (.aload_n 0, 1) := by decide +kernel
theorem dX2_coverage_1 : decode cX2_coverage 1 = .ok (.getfield 55, 3) := by decide +kernel
theorem dX2_coverage_4 : decode cX2_coverage 4 = .ok (.ifCond .ne 13, 3) := by decide +kernel
theorem dX2_coverage_7 : decode cX2_coverage 7 = .ok (.new 169, 3) := by decide +kernel
theorem dX2_coverage_10 : decode cX2_coverage 10 = .ok (.dup, 1) := by decide +kernel
theorem dX2_coverage_11 : decode cX2_coverage 11 = .ok (.ldc 232, 2) := by decide +kernel
theorem dX2_coverage_13 : decode cX2_coverage 13 = .ok (.invokespecial 173, 3) := by decide +kernel
theorem dX2_coverage_16 : decode cX2_coverage 16 = .ok (.athrow, 1) := by decide +kernel
theorem dX2_coverage_17 : decode cX2_coverage 17 = .ok (.aload_n 0, 1) := by decide +kernel
theorem dX2_coverage_18 : decode cX2_coverage 18 = .ok (.invokevirtual 184, 3) := by decide +kernel
theorem dX2_coverage_21 : decode cX2_coverage 21 = .ok (.i2f, 1) := by decide +kernel
theorem dX2_coverage_22 : decode cX2_coverage 22 = .ok (.aload_n 0, 1) := by decide +kernel
theorem dX2_coverage_23 : decode cX2_coverage 23 = .ok (.getfield 55, 3) := by decide +kernel
theorem dX2_coverage_26 : decode cX2_coverage 26 = .ok (.i2f, 1) := by decide +kernel
theorem dX2_coverage_27 : decode cX2_coverage 27 = .ok (.fdiv, 1) := by decide +kernel
theorem dX2_coverage_28 : decode cX2_coverage 28 = .ok (.freturn, 1) := by decide +kernel
theorem dX2_isBetween_0 : decode cX2_isBetween 0 = .ok (.iload_n 0, 1) := by decide +kernel
theorem dX2_isBetween_1 : decode cX2_isBetween 1 = .ok (.iload_n 1, 1) := by decide +kernel
theorem dX2_isBetween_2 : decode cX2_isBetween 2 = .ok (.if_icmp .lt 12, 3) := by decide +kernel
theorem dX2_isBetween_5 : decode cX2_isBetween 5 = .ok (.iload_n 0, 1) := by decide +kernel
theorem dX2_isBetween_6 : decode cX2_isBetween 6 = .ok (.iload_n 2, 1) := by decide +kernel
theorem dX2_isBetween_7 : decode cX2_isBetween 7 = .ok (.if_icmp .gt 7, 3) := by decide +kernel
theorem dX2_isBetween_10 : decode cX2_isBetween 10 = .ok (.iconst 1, 1) := by decide +kernel
theorem dX2_isBetween_11 : decode cX2_isBetween 11 = .ok (.goto 4, 3) := by decide +kernel
theorem dX2_isBetween_14 : decode cX2_isBetween 14 = .ok (.iconst 0, 1) := by decide +kernel
theorem dX2_isBetween_15 : decode cX2_isBetween 15 = .ok (.ireturn, 1) := by decide +kernel
theorem dX2_isRelease_0 : decode cX2_isRelease 0 = .ok (.iload_n 0, 1) := by decide +kernel
theorem dX2_isRelease_1 : decode cX2_isRelease 1 = .ok (.iconst 1, 1) := by decide +kernel
theorem dX2_isRelease_2 : decode cX2_isRelease 2 = .ok (.bipush 9, 2) := by decide +kernel
theorem dX2_isRelease_4 : decode cX2_isRelease 4 = .ok (.invokestatic 33, 3) := by decide +kernel
theorem dX2_isRelease_7 : decode cX2_isRelease 7 = .ok (.ifCond .eq 16, 3) := by decide +kernel
theorem dX2_isRelease_10 : decode cX2_isRelease 10 = .ok (.iload_n 1, 1) := by decide +kernel
theorem dX2_isRelease_11 : decode cX2_isRelease 11 = .ok (.iconst 1, 1) := by decide +kernel
theorem dX2_isRelease_12 : decode cX2_isRelease 12 = .ok (.iconst 3, 1) := by decide +kernel
theorem dX2_isRelease_13 : decode cX2_isRelease 13 = .ok (.invokestatic 33, 3) := by decide +kernel
theorem dX2_isRelease_16 : decode cX2_isRelease 16 = .ok (.ifCond .eq 7, 3) := by decide +kernel
theorem dX2_isRelease_19 : decode cX2_isRelease 19 = .ok (.iconst 1, 1) := by decide +kernel
theorem dX2_isRelease_20 : decode cX2_isRelease 20 = .ok (.goto 4, 3) := by decide +kernel
theorem dX2_isRelease_23 : decode cX2_isRelease 23 = .ok (.iconst 0, 1) := by decide +kernel
theorem dX2_isRelease_24 : decode cX2_isRelease 24 = .ok (.ireturn, 1) := by decide +kernel
theorem dX2_isHolder_0 : decode cX2_isHolder 0 = .ok (.iload_n 0, 1) := by decide +kernel
theorem dX2_isHolder_1 : decode cX2_isHolder 1 = .ok (.iconst 0, 1) := by decide +kernel
theorem dX2_isHolder_2 : decode cX2_isHolder 2 = .ok (.bipush 9, 2) := by decide +kernel
theorem dX2_isHolder_4 : decode cX2_isHolder 4 = .ok (.invokestatic 33, 3) := by decide +kernel
theorem dX2_isHolder_7 : decode cX2_isHolder 7 = .ok (.ireturn, 1) := by decide +kernel
theorem dX2_isPool_0 : decode cX2_isPool 0 = .ok (.iload_n 0, 1) := by decide +kernel
theorem dX2_isPool_1 : decode cX2_isPool 1 = .ok (.iconst 0, 1) := by decide +kernel
theorem dX2_isPool_2 : decode cX2_isPool 2 = .ok (.iconst 2, 1) := by decide +kernel
theorem dX2_isPool_3 : decode cX2_isPool 3 = .ok (.invokestatic 33, 3) := by decide +kernel
theorem dX2_isPool_6 : decode cX2_isPool 6 = .ok (.ireturn, 1) := by decide +kernel
theorem dX2_isMetric_0 : decode cX2_isMetric 0 = .ok (.iload_n 0, 1) := by decide +kernel
theorem dX2_isMetric_1 : decode cX2_isMetric 1 = .ok (.bipush 100, 2) := by decide +kernel
theorem dX2_isMetric_3 : decode cX2_isMetric 3 = .ok (.if_icmp .eq 15, 3) := by decide +kernel
theorem dX2_isMetric_6 : decode cX2_isMetric 6 = .ok (.iload_n 0, 1) := by decide +kernel
theorem dX2_isMetric_7 : decode cX2_isMetric 7 = .ok (.bipush 117, 2) := by decide +kernel
theorem dX2_isMetric_9 : decode cX2_isMetric 9 = .ok (.if_icmp .eq 9, 3) := by decide +kernel
theorem dX2_isMetric_12 : decode cX2_isMetric 12 = .ok (.iload_n 0, 1) := by decide +kernel
theorem dX2_isMetric_13 : decode cX2_isMetric 13 = .ok (.bipush 99, 2) := by decide +kernel
theorem dX2_isMetric_15 : decode cX2_isMetric 15 = .ok (.if_icmp .ne 7, 3) := by decide +kernel
theorem dX2_isMetric_18 : decode cX2_isMetric 18 = .ok (.iconst 1, 1) := by decide +kernel
theorem dX2_isMetric_19 : decode cX2_isMetric 19 = .ok (.goto 4, 3) := by decide +kernel
theorem dX2_isMetric_22 : decode cX2_isMetric 22 = .ok (.iconst 0, 1) := by decide +kernel
theorem dX2_isMetric_23 : decode cX2_isMetric 23 = .ok (.ireturn, 1) := by decide +kernel
theorem dX2_installAt_0 : decode cX2_installAt 0 = .ok (.aload_n 0, 1) := by decide +kernel
theorem dX2_installAt_1 : decode cX2_installAt 1 = .ok (.iload_n 1, 1) := by decide +kernel
theorem dX2_installAt_2 : decode cX2_installAt 2 = .ok (.invokevirtual 234, 3) := by decide +kernel
theorem dX2_installAt_5 : decode cX2_installAt 5 = .ok (.ifCond .ne 13, 3) := by decide +kernel
theorem dX2_installAt_8 : decode cX2_installAt 8 = .ok (.new 237, 3) := by decide +kernel
theorem dX2_installAt_11 : decode cX2_installAt 11 = .ok (.dup, 1) := by decide +kernel
theorem dX2_installAt_12 : decode cX2_installAt 12 = .ok (.ldc 239, 2) := by decide +kernel
theorem dX2_installAt_14 : decode cX2_installAt 14 = .ok (.invokespecial 241, 3) := by decide +kernel
theorem dX2_installAt_17 : decode cX2_installAt 17 = .ok (.athrow, 1) := by decide +kernel
theorem dX2_installAt_18 : decode cX2_installAt 18 = .ok (.aload_n 0, 1) := by decide +kernel
theorem dX2_installAt_19 : decode cX2_installAt 19 = .ok (.getfield 11, 3) := by decide +kernel
theorem dX2_installAt_22 : decode cX2_installAt 22 = .ok (.iload_n 1, 1) := by decide +kernel
theorem dX2_installAt_23 : decode cX2_installAt 23 = .ok (.aaload, 1) := by decide +kernel
theorem dX2_installAt_24 : decode cX2_installAt 24 = .ok (.areturn, 1) := by decide +kernel
theorem dX2_entitlementAt_0 : decode cX2_entitlementAt 0 = .ok (.iload_n 1, 1) := by decide +kernel
theorem dX2_entitlementAt_1 : decode cX2_entitlementAt 1 = .ok (.iconst 0, 1) := by decide +kernel
theorem dX2_entitlementAt_2 : decode cX2_entitlementAt 2 = .ok (.aload_n 0, 1) := by decide +kernel
theorem dX2_entitlementAt_3 : decode cX2_entitlementAt 3 = .ok (.getfield 106, 3) := by decide +kernel
theorem dX2_entitlementAt_6 : decode cX2_entitlementAt 6 = .ok (.iconst 1, 1) := by decide +kernel
theorem dX2_entitlementAt_7 : decode cX2_entitlementAt 7 = .ok (.isub, 1) := by decide +kernel
theorem dX2_entitlementAt_8 : decode cX2_entitlementAt 8 = .ok (.invokestatic 33, 3) := by decide +kernel
theorem dX2_entitlementAt_11 : decode cX2_entitlementAt 11 = .ok (.ifCond .ne 13, 3) := by decide +kernel
theorem dX2_entitlementAt_14 : decode cX2_entitlementAt 14 = .ok (.new 237, 3) := by decide +kernel
theorem dX2_entitlementAt_17 : decode cX2_entitlementAt 17 = .ok (.dup, 1) := by decide +kernel
theorem dX2_entitlementAt_18 : decode cX2_entitlementAt 18 = .ok (.ldc 242, 2) := by decide +kernel
theorem dX2_entitlementAt_20 : decode cX2_entitlementAt 20 = .ok (.invokespecial 241, 3) := by decide +kernel
theorem dX2_entitlementAt_23 : decode cX2_entitlementAt 23 = .ok (.athrow, 1) := by decide +kernel
theorem dX2_entitlementAt_24 : decode cX2_entitlementAt 24 = .ok (.aload_n 0, 1) := by decide +kernel
theorem dX2_entitlementAt_25 : decode cX2_entitlementAt 25 = .ok (.getfield 18, 3) := by decide +kernel
theorem dX2_entitlementAt_28 : decode cX2_entitlementAt 28 = .ok (.iload_n 1, 1) := by decide +kernel
theorem dX2_entitlementAt_29 : decode cX2_entitlementAt 29 = .ok (.aaload, 1) := by decide +kernel
theorem dX2_entitlementAt_30 : decode cX2_entitlementAt 30 = .ok (.areturn, 1) := by decide +kernel
theorem dX2_countFitting_0 : decode cX2_countFitting 0 = .ok (.iconst 0, 1) := by decide +kernel
theorem dX2_countFitting_1 : decode cX2_countFitting 1 = .ok (.istore_n 2, 1) := by decide +kernel
theorem dX2_countFitting_2 : decode cX2_countFitting 2 = .ok (.iconst 0, 1) := by decide +kernel
theorem dX2_countFitting_3 : decode cX2_countFitting 3 = .ok (.istore_n 3, 1) := by decide +kernel
theorem dX2_countFitting_4 : decode cX2_countFitting 4 = .ok (.iload_n 3, 1) := by decide +kernel
theorem dX2_countFitting_5 : decode cX2_countFitting 5 = .ok (.iconst 5, 1) := by decide +kernel
theorem dX2_countFitting_6 : decode cX2_countFitting 6 = .ok (.if_icmp .ge 25, 3) := by decide +kernel
theorem dX2_countFitting_9 : decode cX2_countFitting 9 = .ok (.aload_n 0, 1) := by decide +kernel
theorem dX2_countFitting_10 : decode cX2_countFitting 10 = .ok (.getfield 18, 3) := by decide +kernel
theorem dX2_countFitting_13 : decode cX2_countFitting 13 = .ok (.iload_n 3, 1) := by decide +kernel
theorem dX2_countFitting_14 : decode cX2_countFitting 14 = .ok (.aaload, 1) := by decide +kernel
theorem dX2_countFitting_15 : decode cX2_countFitting 15 = .ok (.aload_n 1, 1) := by decide +kernel
theorem dX2_countFitting_16 : decode cX2_countFitting 16 = .ok (.invokevirtual 165, 3) := by decide +kernel
theorem dX2_countFitting_19 : decode cX2_countFitting 19 = .ok (.ifCond .eq 6, 3) := by decide +kernel
theorem dX2_countFitting_22 : decode cX2_countFitting 22 = .ok (.iinc 2 1, 3) := by decide +kernel
theorem dX2_countFitting_25 : decode cX2_countFitting 25 = .ok (.iinc 3 1, 3) := by decide +kernel
theorem dX2_countFitting_28 : decode cX2_countFitting 28 = .ok (.goto (-24), 3) := by decide +kernel
theorem dX2_countFitting_31 : decode cX2_countFitting 31 = .ok (.iload_n 2, 1) := by decide +kernel
theorem dX2_countFitting_32 : decode cX2_countFitting 32 = .ok (.ireturn, 1) := by decide +kernel
theorem dX2_entitlementByCover_0 : decode cX2_entitlementByCover 0 = .ok (.aload_n 0, 1) := by decide +kernel
theorem dX2_entitlementByCover_1 : decode cX2_entitlementByCover 1 = .ok (.iload_n 1, 1) := by decide +kernel
theorem dX2_entitlementByCover_2 : decode cX2_entitlementByCover 2 = .ok (.invokevirtual 234, 3) := by decide +kernel
theorem dX2_entitlementByCover_5 : decode cX2_entitlementByCover 5 = .ok (.ifCond .ne 13, 3) := by decide +kernel
theorem dX2_entitlementByCover_8 : decode cX2_entitlementByCover 8 = .ok (.new 237, 3) := by decide +kernel
theorem dX2_entitlementByCover_11 : decode cX2_entitlementByCover 11 = .ok (.dup, 1) := by decide +kernel
theorem dX2_entitlementByCover_12 : decode cX2_entitlementByCover 12 = .ok (.ldc 239, 2) := by decide +kernel
theorem dX2_entitlementByCover_14 : decode cX2_entitlementByCover 14 = .ok (.invokespecial 241, 3) := by decide +kernel
theorem dX2_entitlementByCover_17 : decode cX2_entitlementByCover 17 = .ok (.athrow, 1) := by decide +kernel
theorem dX2_entitlementByCover_18 : decode cX2_entitlementByCover 18 = .ok (.aload_n 0, 1) := by decide +kernel
theorem dX2_entitlementByCover_19 : decode cX2_entitlementByCover 19 = .ok (.invokevirtual 184, 3) := by decide +kernel
theorem dX2_entitlementByCover_22 : decode cX2_entitlementByCover 22 = .ok (.pop, 1) := by decide +kernel
theorem dX2_entitlementByCover_23 : decode cX2_entitlementByCover 23 = .ok (.aload_n 0, 1) := by decide +kernel
theorem dX2_entitlementByCover_24 : decode cX2_entitlementByCover 24 = .ok (.getfield 27, 3) := by decide +kernel
theorem dX2_entitlementByCover_27 : decode cX2_entitlementByCover 27 = .ok (.iload_n 1, 1) := by decide +kernel
theorem dX2_entitlementByCover_28 : decode cX2_entitlementByCover 28 = .ok (.iaload, 1) := by decide +kernel
theorem dX2_entitlementByCover_29 : decode cX2_entitlementByCover 29 = .ok (.ireturn, 1) := by decide +kernel
theorem dX2_checkAllCanBeCovered_0 : decode cX2_checkAllCanBeCovered 0 = .ok (.iconst 0, 1) := by decide +kernel
theorem dX2_checkAllCanBeCovered_1 : decode cX2_checkAllCanBeCovered 1 = .ok (.istore_n 1, 1) := by decide +kernel
theorem dX2_checkAllCanBeCovered_2 : decode cX2_checkAllCanBeCovered 2 = .ok (.iload_n 1, 1) := by decide +kernel
theorem dX2_checkAllCanBeCovered_3 : decode cX2_checkAllCanBeCovered 3 = .ok (.bipush 12, 2) := by decide +kernel
theorem dX2_checkAllCanBeCovered_5 : decode cX2_checkAllCanBeCovered 5 = .ok (.if_icmp .ge 44, 3) := by decide +kernel
theorem dX2_checkAllCanBeCovered_8 : decode cX2_checkAllCanBeCovered 8 = .ok (.aload_n 0, 1) := by decide +kernel
theorem dX2_checkAllCanBeCovered_9 : decode cX2_checkAllCanBeCovered 9 = .ok (.getfield 11, 3) := by decide +kernel
theorem dX2_checkAllCanBeCovered_12 : decode cX2_checkAllCanBeCovered 12 = .ok (.iload_n 1, 1) := by decide +kernel
theorem dX2_checkAllCanBeCovered_13 : decode cX2_checkAllCanBeCovered 13 = .ok (.aaload, 1) := by decide +kernel
theorem dX2_checkAllCanBeCovered_14 : decode cX2_checkAllCanBeCovered 14 = .ok (.getfield 75, 3) := by decide +kernel
theorem dX2_checkAllCanBeCovered_17 : decode cX2_checkAllCanBeCovered 17 = .ok (.ifCond .eq 26, 3) := by decide +kernel
theorem dX2_checkAllCanBeCovered_20 : decode cX2_checkAllCanBeCovered 20 = .ok (.aload_n 0, 1) := by decide +kernel
theorem dX2_checkAllCanBeCovered_21 : decode cX2_checkAllCanBeCovered 21 = .ok (.aload_n 0, 1) := by decide +kernel
theorem dX2_checkAllCanBeCovered_22 : decode cX2_checkAllCanBeCovered 22 = .ok (.getfield 11, 3) := by decide +kernel
theorem dX2_checkAllCanBeCovered_25 : decode cX2_checkAllCanBeCovered 25 = .ok (.iload_n 1, 1) := by decide +kernel
theorem dX2_checkAllCanBeCovered_26 : decode cX2_checkAllCanBeCovered 26 = .ok (.aaload, 1) := by decide +kernel
theorem dX2_checkAllCanBeCovered_27 : decode cX2_checkAllCanBeCovered 27 = .ok (.invokevirtual 161, 3) := by decide +kernel
theorem dX2_checkAllCanBeCovered_30 : decode cX2_checkAllCanBeCovered 30 = .ok (.ifCond .ne 13, 3) := by decide +kernel
theorem dX2_checkAllCanBeCovered_33 : decode cX2_checkAllCanBeCovered 33 = .ok (.new 169, 3) := by decide +kernel
theorem dX2_checkAllCanBeCovered_36 : decode cX2_checkAllCanBeCovered 36 = .ok (.dup, 1) := by decide +kernel
theorem dX2_checkAllCanBeCovered_37 : decode cX2_checkAllCanBeCovered 37 = .ok (.ldc 244, 2) := by decide +kernel
theorem dX2_checkAllCanBeCovered_39 : decode cX2_checkAllCanBeCovered 39 = .ok (.invokespecial 173, 3) := by decide +kernel
theorem dX2_checkAllCanBeCovered_42 : decode cX2_checkAllCanBeCovered 42 = .ok (.athrow, 1) := by decide +kernel
theorem dX2_checkAllCanBeCovered_43 : decode cX2_checkAllCanBeCovered 43 = .ok (.iinc 1 1, 3) := by decide +kernel
theorem dX2_checkAllCanBeCovered_46 : decode cX2_checkAllCanBeCovered 46 = .ok (.goto (-44), 3) := by decide +kernel
theorem dX2_checkAllCanBeCovered_49 : decode cX2_checkAllCanBeCovered 49 = .ok (.return_, 1) := by decide +kernel
theorem dX2_findCover_0 : decode cX2_findCover 0 = .ok (.aload_n 0, 1) := by decide +kernel
theorem dX2_findCover_1 : decode cX2_findCover 1 = .ok (.iconst (-1), 1) := by decide +kernel
theorem dX2_findCover_2 : decode cX2_findCover 2 = .ok (.invokevirtual 189, 3) := by decide +kernel
theorem dX2_findCover_5 : decode cX2_findCover 5 = .ok (.aload_n 0, 1) := by decide +kernel
theorem dX2_findCover_6 : decode cX2_findCover 6 = .ok (.getfield 30, 3) := by decide +kernel
theorem dX2_findCover_9 : decode cX2_findCover 9 = .ok (.bipush 12, 2) := by decide +kernel
theorem dX2_findCover_11 : decode cX2_findCover 11 = .ok (.iconst 0, 1) := by decide +kernel
theorem dX2_findCover_12 : decode cX2_findCover 12 = .ok (.iastore, 1) := by decide +kernel
theorem dX2_findCover_13 : decode cX2_findCover 13 = .ok (.bipush 11, 2) := by decide +kernel
theorem dX2_findCover_15 : decode cX2_findCover 15 = .ok (.istore_n 1, 1) := by decide +kernel
theorem dX2_findCover_16 : decode cX2_findCover 16 = .ok (.iload_n 1, 1) := by decide +kernel
theorem dX2_findCover_17 : decode cX2_findCover 17 = .ok (.ifCond .lt 42, 3) := by decide +kernel
theorem dX2_findCover_20 : decode cX2_findCover 20 = .ok (.aload_n 0, 1) := by decide +kernel
theorem dX2_findCover_21 : decode cX2_findCover 21 = .ok (.getfield 30, 3) := by decide +kernel
theorem dX2_findCover_24 : decode cX2_findCover 24 = .ok (.iload_n 1, 1) := by decide +kernel
theorem dX2_findCover_25 : decode cX2_findCover 25 = .ok (.aload_n 0, 1) := by decide +kernel
theorem dX2_findCover_26 : decode cX2_findCover 26 = .ok (.getfield 30, 3) := by decide +kernel
theorem dX2_findCover_29 : decode cX2_findCover 29 = .ok (.iload_n 1, 1) := by decide +kernel
theorem dX2_findCover_30 : decode cX2_findCover 30 = .ok (.iconst 1, 1) := by decide +kernel
theorem dX2_findCover_31 : decode cX2_findCover 31 = .ok (.iadd, 1) := by decide +kernel
theorem dX2_findCover_32 : decode cX2_findCover 32 = .ok (.iaload, 1) := by decide +kernel
theorem dX2_findCover_33 : decode cX2_findCover 33 = .ok (.aload_n 0, 1) := by decide +kernel
theorem dX2_findCover_34 : decode cX2_findCover 34 = .ok (.aload_n 0, 1) := by decide +kernel
theorem dX2_findCover_35 : decode cX2_findCover 35 = .ok (.getfield 11, 3) := by decide +kernel
theorem dX2_findCover_38 : decode cX2_findCover 38 = .ok (.iload_n 1, 1) := by decide +kernel
theorem dX2_findCover_39 : decode cX2_findCover 39 = .ok (.aaload, 1) := by decide +kernel
theorem dX2_findCover_40 : decode cX2_findCover 40 = .ok (.invokevirtual 161, 3) := by decide +kernel
theorem dX2_findCover_43 : decode cX2_findCover 43 = .ok (.ifCond .le 7, 3) := by decide +kernel
theorem dX2_findCover_46 : decode cX2_findCover 46 = .ok (.iconst 1, 1) := by decide +kernel
theorem dX2_findCover_47 : decode cX2_findCover 47 = .ok (.goto 4, 3) := by decide +kernel
theorem dX2_findCover_50 : decode cX2_findCover 50 = .ok (.iconst 0, 1) := by decide +kernel
theorem dX2_findCover_51 : decode cX2_findCover 51 = .ok (.iadd, 1) := by decide +kernel
theorem dX2_findCover_52 : decode cX2_findCover 52 = .ok (.iastore, 1) := by decide +kernel
theorem dX2_findCover_53 : decode cX2_findCover 53 = .ok (.iinc 1 (-1), 3) := by decide +kernel
theorem dX2_findCover_56 : decode cX2_findCover 56 = .ok (.goto (-40), 3) := by decide +kernel
theorem dX2_findCover_59 : decode cX2_findCover 59 = .ok (.aload_n 0, 1) := by decide +kernel
theorem dX2_findCover_60 : decode cX2_findCover 60 = .ok (.iconst 0, 1) := by decide +kernel
theorem dX2_findCover_61 : decode cX2_findCover 61 = .ok (.iconst 0, 1) := by decide +kernel
theorem dX2_findCover_62 : decode cX2_findCover 62 = .ok (.invokestatic 246, 3) := by decide +kernel
theorem dX2_findCover_65 : decode cX2_findCover 65 = .ok (.aload_n 0, 1) := by decide +kernel
theorem dX2_findCover_66 : decode cX2_findCover 66 = .ok (.getfield 197, 3) := by decide +kernel
theorem dX2_findCover_69 : decode cX2_findCover 69 = .ok (.ireturn, 1) := by decide +kernel
theorem dX2_findPurchase_0 : decode cX2_findPurchase 0 = .ok (.aload_n 0, 1) := by decide +kernel
theorem dX2_findPurchase_1 : decode cX2_findPurchase 1 = .ok (.ldc 221, 2) := by decide +kernel
theorem dX2_findPurchase_3 : decode cX2_findPurchase 3 = .ok (.invokevirtual 189, 3) := by decide +kernel
theorem dX2_findPurchase_6 : decode cX2_findPurchase 6 = .ok (.aload_n 0, 1) := by decide +kernel
theorem dX2_findPurchase_7 : decode cX2_findPurchase 7 = .ok (.iconst 0, 1) := by decide +kernel
theorem dX2_findPurchase_8 : decode cX2_findPurchase 8 = .ok (.iconst 0, 1) := by decide +kernel
theorem dX2_findPurchase_9 : decode cX2_findPurchase 9 = .ok (.invokestatic 250, 3) := by decide +kernel
theorem dX2_findPurchase_12 : decode cX2_findPurchase 12 = .ok (.aload_n 0, 1) := by decide +kernel
theorem dX2_findPurchase_13 : decode cX2_findPurchase 13 = .ok (.getfield 197, 3) := by decide +kernel
theorem dX2_findPurchase_16 : decode cX2_findPurchase 16 = .ok (.ireturn, 1) := by decide +kernel
theorem dX2_searchCover_0 : decode cX2_searchCover 0 = .ok (.iload_n 1, 1) := by decide +kernel
theorem dX2_searchCover_1 : decode cX2_searchCover 1 = .ok (.ifCond .lt 24, 3) := by decide +kernel
theorem dX2_searchCover_4 : decode cX2_searchCover 4 = .ok (.iload_n 1, 1) := by decide +kernel
theorem dX2_searchCover_5 : decode cX2_searchCover 5 = .ok (.bipush 12, 2) := by decide +kernel
theorem dX2_searchCover_7 : decode cX2_searchCover 7 = .ok (.if_icmp .gt 18, 3) := by decide +kernel
theorem dX2_searchCover_10 : decode cX2_searchCover 10 = .ok (.iload_n 2, 1) := by decide +kernel
theorem dX2_searchCover_11 : decode cX2_searchCover 11 = .ok (.aload_n 0, 1) := by decide +kernel
theorem dX2_searchCover_12 : decode cX2_searchCover 12 = .ok (.getfield 30, 3) := by decide +kernel
theorem dX2_searchCover_15 : decode cX2_searchCover 15 = .ok (.iload_n 1, 1) := by decide +kernel
theorem dX2_searchCover_16 : decode cX2_searchCover 16 = .ok (.iaload, 1) := by decide +kernel
theorem dX2_searchCover_17 : decode cX2_searchCover 17 = .ok (.iadd, 1) := by decide +kernel
theorem dX2_searchCover_18 : decode cX2_searchCover 18 = .ok (.aload_n 0, 1) := by decide +kernel
theorem dX2_searchCover_19 : decode cX2_searchCover 19 = .ok (.getfield 197, 3) := by decide +kernel
theorem dX2_searchCover_22 : decode cX2_searchCover 22 = .ok (.if_icmp .gt 4, 3) := by decide +kernel
theorem dX2_searchCover_25 : decode cX2_searchCover 25 = .ok (.return_, 1) := by decide +kernel
theorem dX2_searchCover_26 : decode cX2_searchCover 26 = .ok (.iload_n 1, 1) := by decide +kernel
theorem dX2_searchCover_27 : decode cX2_searchCover 27 = .ok (.bipush 12, 2) := by decide +kernel
theorem dX2_searchCover_29 : decode cX2_searchCover 29 = .ok (.if_icmp .ne 9, 3) := by decide +kernel
theorem dX2_searchCover_32 : decode cX2_searchCover 32 = .ok (.aload_n 0, 1) := by decide +kernel
theorem dX2_searchCover_33 : decode cX2_searchCover 33 = .ok (.iload_n 2, 1) := by decide +kernel
theorem dX2_searchCover_34 : decode cX2_searchCover 34 = .ok (.invokevirtual 253, 3) := by decide +kernel
theorem dX2_searchCover_37 : decode cX2_searchCover 37 = .ok (.return_, 1) := by decide +kernel
theorem dX2_searchCover_38 : decode cX2_searchCover 38 = .ok (.iconst 0, 1) := by decide +kernel
theorem dX2_searchCover_39 : decode cX2_searchCover 39 = .ok (.istore_n 3, 1) := by decide +kernel
theorem dX2_searchCover_40 : decode cX2_searchCover 40 = .ok (.iload_n 3, 1) := by decide +kernel
theorem dX2_searchCover_41 : decode cX2_searchCover 41 = .ok (.iconst 5, 1) := by decide +kernel
theorem dX2_searchCover_42 : decode cX2_searchCover 42 = .ok (.if_icmp .ge 61, 3) := by decide +kernel
theorem dX2_searchCover_45 : decode cX2_searchCover 45 = .ok (.aload_n 0, 1) := by decide +kernel
theorem dX2_searchCover_46 : decode cX2_searchCover 46 = .ok (.getfield 18, 3) := by decide +kernel
theorem dX2_searchCover_49 : decode cX2_searchCover 49 = .ok (.iload_n 3, 1) := by decide +kernel
theorem dX2_searchCover_50 : decode cX2_searchCover 50 = .ok (.aaload, 1) := by decide +kernel
theorem dX2_searchCover_51 : decode cX2_searchCover 51 = .ok (.aload_n 0, 1) := by decide +kernel
theorem dX2_searchCover_52 : decode cX2_searchCover 52 = .ok (.getfield 11, 3) := by decide +kernel
theorem dX2_searchCover_55 : decode cX2_searchCover 55 = .ok (.iload_n 1, 1) := by decide +kernel
theorem dX2_searchCover_56 : decode cX2_searchCover 56 = .ok (.aaload, 1) := by decide +kernel
theorem dX2_searchCover_57 : decode cX2_searchCover 57 = .ok (.invokevirtual 165, 3) := by decide +kernel
theorem dX2_searchCover_60 : decode cX2_searchCover 60 = .ok (.ifCond .eq 37, 3) := by decide +kernel
theorem dX2_searchCover_63 : decode cX2_searchCover 63 = .ok (.aload_n 0, 1) := by decide +kernel
theorem dX2_searchCover_64 : decode cX2_searchCover 64 = .ok (.iload_n 1, 1) := by decide +kernel
theorem dX2_searchCover_65 : decode cX2_searchCover 65 = .ok (.iload_n 3, 1) := by decide +kernel
theorem dX2_searchCover_66 : decode cX2_searchCover 66 = .ok (.invokevirtual 256, 3) := by decide +kernel
theorem dX2_searchCover_69 : decode cX2_searchCover 69 = .ok (.aload_n 0, 1) := by decide +kernel
theorem dX2_searchCover_70 : decode cX2_searchCover 70 = .ok (.getfield 18, 3) := by decide +kernel
theorem dX2_searchCover_73 : decode cX2_searchCover 73 = .ok (.iload_n 3, 1) := by decide +kernel
theorem dX2_searchCover_74 : decode cX2_searchCover 74 = .ok (.aaload, 1) := by decide +kernel
theorem dX2_searchCover_75 : decode cX2_searchCover 75 = .ok (.invokevirtual 225, 3) := by decide +kernel
theorem dX2_searchCover_78 : decode cX2_searchCover 78 = .ok (.ifCond .ne 13, 3) := by decide +kernel
theorem dX2_searchCover_81 : decode cX2_searchCover 81 = .ok (.aload_n 0, 1) := by decide +kernel
theorem dX2_searchCover_82 : decode cX2_searchCover 82 = .ok (.iload_n 1, 1) := by decide +kernel
theorem dX2_searchCover_83 : decode cX2_searchCover 83 = .ok (.iconst 1, 1) := by decide +kernel
theorem dX2_searchCover_84 : decode cX2_searchCover 84 = .ok (.iadd, 1) := by decide +kernel
theorem dX2_searchCover_85 : decode cX2_searchCover 85 = .ok (.iload_n 2, 1) := by decide +kernel
theorem dX2_searchCover_86 : decode cX2_searchCover 86 = .ok (.iconst 1, 1) := by decide +kernel
theorem dX2_searchCover_87 : decode cX2_searchCover 87 = .ok (.iadd, 1) := by decide +kernel
theorem dX2_searchCover_88 : decode cX2_searchCover 88 = .ok (.invokestatic 246, 3) := by decide +kernel
theorem dX2_searchCover_91 : decode cX2_searchCover 91 = .ok (.aload_n 0, 1) := by decide +kernel
theorem dX2_searchCover_92 : decode cX2_searchCover 92 = .ok (.iload_n 1, 1) := by decide +kernel
theorem dX2_searchCover_93 : decode cX2_searchCover 93 = .ok (.iload_n 3, 1) := by decide +kernel
theorem dX2_searchCover_94 : decode cX2_searchCover 94 = .ok (.invokevirtual 260, 3) := by decide +kernel
theorem dX2_searchCover_97 : decode cX2_searchCover 97 = .ok (.iinc 3 1, 3) := by decide +kernel
theorem dX2_searchCover_100 : decode cX2_searchCover 100 = .ok (.goto (-60), 3) := by decide +kernel
theorem dX2_searchCover_103 : decode cX2_searchCover 103 = .ok (.aload_n 0, 1) := by decide +kernel
theorem dX2_searchCover_104 : decode cX2_searchCover 104 = .ok (.iload_n 1, 1) := by decide +kernel
theorem dX2_searchCover_105 : decode cX2_searchCover 105 = .ok (.iconst 1, 1) := by decide +kernel
theorem dX2_searchCover_106 : decode cX2_searchCover 106 = .ok (.iadd, 1) := by decide +kernel
theorem dX2_searchCover_107 : decode cX2_searchCover 107 = .ok (.iload_n 2, 1) := by decide +kernel
theorem dX2_searchCover_108 : decode cX2_searchCover 108 = .ok (.invokestatic 246, 3) := by decide +kernel
theorem dX2_searchCover_111 : decode cX2_searchCover 111 = .ok (.return_, 1) := by decide +kernel
theorem dX2_searchPurchase_0 : decode cX2_searchPurchase 0 = .ok (.iload_n 1, 1) := by decide +kernel
theorem dX2_searchPurchase_1 : decode cX2_searchPurchase 1 = .ok (.ifCond .lt 17, 3) := by decide +kernel
theorem dX2_searchPurchase_4 : decode cX2_searchPurchase 4 = .ok (.iload_n 1, 1) := by decide +kernel
theorem dX2_searchPurchase_5 : decode cX2_searchPurchase 5 = .ok (.bipush 12, 2) := by decide +kernel
theorem dX2_searchPurchase_7 : decode cX2_searchPurchase 7 = .ok (.if_icmp .gt 11, 3) := by decide +kernel
theorem dX2_searchPurchase_10 : decode cX2_searchPurchase 10 = .ok (.iload_n 2, 1) := by decide +kernel
theorem dX2_searchPurchase_11 : decode cX2_searchPurchase 11 = .ok (.aload_n 0, 1) := by decide +kernel
theorem dX2_searchPurchase_12 : decode cX2_searchPurchase 12 = .ok (.getfield 197, 3) := by decide +kernel
theorem dX2_searchPurchase_15 : decode cX2_searchPurchase 15 = .ok (.if_icmp .lt 4, 3) := by decide +kernel
theorem dX2_searchPurchase_18 : decode cX2_searchPurchase 18 = .ok (.return_, 1) := by decide +kernel
theorem dX2_searchPurchase_19 : decode cX2_searchPurchase 19 = .ok (.iload_n 1, 1) := by decide +kernel
theorem dX2_searchPurchase_20 : decode cX2_searchPurchase 20 = .ok (.bipush 12, 2) := by decide +kernel
theorem dX2_searchPurchase_22 : decode cX2_searchPurchase 22 = .ok (.if_icmp .ne 9, 3) := by decide +kernel
theorem dX2_searchPurchase_25 : decode cX2_searchPurchase 25 = .ok (.aload_n 0, 1) := by decide +kernel
theorem dX2_searchPurchase_26 : decode cX2_searchPurchase 26 = .ok (.iload_n 2, 1) := by decide +kernel
theorem dX2_searchPurchase_27 : decode cX2_searchPurchase 27 = .ok (.invokevirtual 253, 3) := by decide +kernel
theorem dX2_searchPurchase_30 : decode cX2_searchPurchase 30 = .ok (.return_, 1) := by decide +kernel
theorem dX2_searchPurchase_31 : decode cX2_searchPurchase 31 = .ok (.aload_n 0, 1) := by decide +kernel
theorem dX2_searchPurchase_32 : decode cX2_searchPurchase 32 = .ok (.getfield 11, 3) := by decide +kernel
theorem dX2_searchPurchase_35 : decode cX2_searchPurchase 35 = .ok (.iload_n 1, 1) := by decide +kernel
theorem dX2_searchPurchase_36 : decode cX2_searchPurchase 36 = .ok (.aaload, 1) := by decide +kernel
theorem dX2_searchPurchase_37 : decode cX2_searchPurchase 37 = .ok (.getfield 75, 3) := by decide +kernel
theorem dX2_searchPurchase_40 : decode cX2_searchPurchase 40 = .ok (.ifCond .ne 12, 3) := by decide +kernel
theorem dX2_searchPurchase_43 : decode cX2_searchPurchase 43 = .ok (.aload_n 0, 1) := by decide +kernel
theorem dX2_searchPurchase_44 : decode cX2_searchPurchase 44 = .ok (.iload_n 1, 1) := by decide +kernel
theorem dX2_searchPurchase_45 : decode cX2_searchPurchase 45 = .ok (.iconst 1, 1) := by decide +kernel
theorem dX2_searchPurchase_46 : decode cX2_searchPurchase 46 = .ok (.iadd, 1) := by decide +kernel
theorem dX2_searchPurchase_47 : decode cX2_searchPurchase 47 = .ok (.iload_n 2, 1) := by decide +kernel
theorem dX2_searchPurchase_48 : decode cX2_searchPurchase 48 = .ok (.invokestatic 250, 3) := by decide +kernel
theorem dX2_searchPurchase_51 : decode cX2_searchPurchase 51 = .ok (.return_, 1) := by decide +kernel
theorem dX2_searchPurchase_52 : decode cX2_searchPurchase 52 = .ok (.iconst 0, 1) := by decide +kernel
theorem dX2_searchPurchase_53 : decode cX2_searchPurchase 53 = .ok (.istore_n 3, 1) := by decide +kernel
theorem dX2_searchPurchase_54 : decode cX2_searchPurchase 54 = .ok (.iload_n 3, 1) := by decide +kernel
theorem dX2_searchPurchase_55 : decode cX2_searchPurchase 55 = .ok (.iconst 5, 1) := by decide +kernel
theorem dX2_searchPurchase_56 : decode cX2_searchPurchase 56 = .ok (.if_icmp .ge 67, 3) := by decide +kernel
theorem dX2_searchPurchase_59 : decode cX2_searchPurchase 59 = .ok (.aload_n 0, 1) := by decide +kernel
theorem dX2_searchPurchase_60 : decode cX2_searchPurchase 60 = .ok (.getfield 18, 3) := by decide +kernel
theorem dX2_searchPurchase_63 : decode cX2_searchPurchase 63 = .ok (.iload_n 3, 1) := by decide +kernel
theorem dX2_searchPurchase_64 : decode cX2_searchPurchase 64 = .ok (.aaload, 1) := by decide +kernel
theorem dX2_searchPurchase_65 : decode cX2_searchPurchase 65 = .ok (.astore 4, 2) := by decide +kernel
theorem dX2_searchPurchase_67 : decode cX2_searchPurchase 67 = .ok (.aload 4, 2) := by decide +kernel
theorem dX2_searchPurchase_69 : decode cX2_searchPurchase 69 = .ok (.aload_n 0, 1) := by decide +kernel
theorem dX2_searchPurchase_70 : decode cX2_searchPurchase 70 = .ok (.getfield 11, 3) := by decide +kernel
theorem dX2_searchPurchase_73 : decode cX2_searchPurchase 73 = .ok (.iload_n 1, 1) := by decide +kernel
theorem dX2_searchPurchase_74 : decode cX2_searchPurchase 74 = .ok (.aaload, 1) := by decide +kernel
theorem dX2_searchPurchase_75 : decode cX2_searchPurchase 75 = .ok (.invokevirtual 165, 3) := by decide +kernel
theorem dX2_searchPurchase_78 : decode cX2_searchPurchase 78 = .ok (.ifCond .eq 39, 3) := by decide +kernel
theorem dX2_searchPurchase_81 : decode cX2_searchPurchase 81 = .ok (.iload_n 2, 1) := by decide +kernel
theorem dX2_searchPurchase_82 : decode cX2_searchPurchase 82 = .ok (.aload 4, 2) := by decide +kernel
theorem dX2_searchPurchase_84 : decode cX2_searchPurchase 84 = .ok (.invokevirtual 263, 3) := by decide +kernel
theorem dX2_searchPurchase_87 : decode cX2_searchPurchase 87 = .ok (.isub, 1) := by decide +kernel
theorem dX2_searchPurchase_88 : decode cX2_searchPurchase 88 = .ok (.istore 5, 2) := by decide +kernel
theorem dX2_searchPurchase_90 : decode cX2_searchPurchase 90 = .ok (.aload_n 0, 1) := by decide +kernel
theorem dX2_searchPurchase_91 : decode cX2_searchPurchase 91 = .ok (.iload_n 1, 1) := by decide +kernel
theorem dX2_searchPurchase_92 : decode cX2_searchPurchase 92 = .ok (.iload_n 3, 1) := by decide +kernel
theorem dX2_searchPurchase_93 : decode cX2_searchPurchase 93 = .ok (.invokevirtual 256, 3) := by decide +kernel
theorem dX2_searchPurchase_96 : decode cX2_searchPurchase 96 = .ok (.aload_n 0, 1) := by decide +kernel
theorem dX2_searchPurchase_97 : decode cX2_searchPurchase 97 = .ok (.iload_n 1, 1) := by decide +kernel
theorem dX2_searchPurchase_98 : decode cX2_searchPurchase 98 = .ok (.iconst 1, 1) := by decide +kernel
theorem dX2_searchPurchase_99 : decode cX2_searchPurchase 99 = .ok (.iadd, 1) := by decide +kernel
theorem dX2_searchPurchase_100 : decode cX2_searchPurchase 100 = .ok (.iload 5, 2) := by decide +kernel
theorem dX2_searchPurchase_102 : decode cX2_searchPurchase 102 = .ok (.aload 4, 2) := by decide +kernel
theorem dX2_searchPurchase_104 : decode cX2_searchPurchase 104 = .ok (.invokevirtual 263, 3) := by decide +kernel
theorem dX2_searchPurchase_107 : decode cX2_searchPurchase 107 = .ok (.iadd, 1) := by decide +kernel
theorem dX2_searchPurchase_108 : decode cX2_searchPurchase 108 = .ok (.invokestatic 250, 3) := by decide +kernel
theorem dX2_searchPurchase_111 : decode cX2_searchPurchase 111 = .ok (.aload_n 0, 1) := by decide +kernel
theorem dX2_searchPurchase_112 : decode cX2_searchPurchase 112 = .ok (.iload_n 1, 1) := by decide +kernel
theorem dX2_searchPurchase_113 : decode cX2_searchPurchase 113 = .ok (.iload_n 3, 1) := by decide +kernel
theorem dX2_searchPurchase_114 : decode cX2_searchPurchase 114 = .ok (.invokevirtual 260, 3) := by decide +kernel
theorem dX2_searchPurchase_117 : decode cX2_searchPurchase 117 = .ok (.iinc 3 1, 3) := by decide +kernel
theorem dX2_searchPurchase_120 : decode cX2_searchPurchase 120 = .ok (.goto (-66), 3) := by decide +kernel
theorem dX2_searchPurchase_123 : decode cX2_searchPurchase 123 = .ok (.return_, 1) := by decide +kernel
theorem dX2_tryCovers_0 : decode cX2_tryCovers 0 = .ok (.iload_n 1, 1) := by decide +kernel
theorem dX2_tryCovers_1 : decode cX2_tryCovers 1 = .ok (.ifCond .lt 9, 3) := by decide +kernel
theorem dX2_tryCovers_4 : decode cX2_tryCovers 4 = .ok (.iload_n 1, 1) := by decide +kernel
theorem dX2_tryCovers_5 : decode cX2_tryCovers 5 = .ok (.bipush 12, 2) := by decide +kernel
theorem dX2_tryCovers_7 : decode cX2_tryCovers 7 = .ok (.if_icmp .lt 29, 3) := by decide +kernel
theorem dX2_tryCovers_10 : decode cX2_tryCovers 10 = .ok (.aload_n 0, 1) := by decide +kernel
theorem dX2_tryCovers_11 : decode cX2_tryCovers 11 = .ok (.invokevirtual 266, 3) := by decide +kernel
theorem dX2_tryCovers_14 : decode cX2_tryCovers 14 = .ok (.istore_n 2, 1) := by decide +kernel
theorem dX2_tryCovers_15 : decode cX2_tryCovers 15 = .ok (.aload_n 0, 1) := by decide +kernel
theorem dX2_tryCovers_16 : decode cX2_tryCovers 16 = .ok (.invokevirtual 269, 3) := by decide +kernel
theorem dX2_tryCovers_19 : decode cX2_tryCovers 19 = .ok (.ifCond .eq 16, 3) := by decide +kernel
theorem dX2_tryCovers_22 : decode cX2_tryCovers 22 = .ok (.iload_n 2, 1) := by decide +kernel
theorem dX2_tryCovers_23 : decode cX2_tryCovers 23 = .ok (.aload_n 0, 1) := by decide +kernel
theorem dX2_tryCovers_24 : decode cX2_tryCovers 24 = .ok (.getfield 197, 3) := by decide +kernel
theorem dX2_tryCovers_27 : decode cX2_tryCovers 27 = .ok (.if_icmp .le 8, 3) := by decide +kernel
theorem dX2_tryCovers_30 : decode cX2_tryCovers 30 = .ok (.aload_n 0, 1) := by decide +kernel
theorem dX2_tryCovers_31 : decode cX2_tryCovers 31 = .ok (.iload_n 2, 1) := by decide +kernel
theorem dX2_tryCovers_32 : decode cX2_tryCovers 32 = .ok (.invokevirtual 253, 3) := by decide +kernel
theorem dX2_tryCovers_35 : decode cX2_tryCovers 35 = .ok (.return_, 1) := by decide +kernel
theorem dX2_tryCovers_36 : decode cX2_tryCovers 36 = .ok (.iconst 0, 1) := by decide +kernel
theorem dX2_tryCovers_37 : decode cX2_tryCovers 37 = .ok (.istore_n 2, 1) := by decide +kernel
theorem dX2_tryCovers_38 : decode cX2_tryCovers 38 = .ok (.iload_n 2, 1) := by decide +kernel
theorem dX2_tryCovers_39 : decode cX2_tryCovers 39 = .ok (.iconst 5, 1) := by decide +kernel
theorem dX2_tryCovers_40 : decode cX2_tryCovers 40 = .ok (.if_icmp .ge 46, 3) := by decide +kernel
theorem dX2_tryCovers_43 : decode cX2_tryCovers 43 = .ok (.aload_n 0, 1) := by decide +kernel
theorem dX2_tryCovers_44 : decode cX2_tryCovers 44 = .ok (.getfield 18, 3) := by decide +kernel
theorem dX2_tryCovers_47 : decode cX2_tryCovers 47 = .ok (.iload_n 2, 1) := by decide +kernel
theorem dX2_tryCovers_48 : decode cX2_tryCovers 48 = .ok (.aaload, 1) := by decide +kernel
theorem dX2_tryCovers_49 : decode cX2_tryCovers 49 = .ok (.aload_n 0, 1) := by decide +kernel
theorem dX2_tryCovers_50 : decode cX2_tryCovers 50 = .ok (.getfield 11, 3) := by decide +kernel
theorem dX2_tryCovers_53 : decode cX2_tryCovers 53 = .ok (.iload_n 1, 1) := by decide +kernel
theorem dX2_tryCovers_54 : decode cX2_tryCovers 54 = .ok (.aaload, 1) := by decide +kernel
theorem dX2_tryCovers_55 : decode cX2_tryCovers 55 = .ok (.invokevirtual 165, 3) := by decide +kernel
theorem dX2_tryCovers_58 : decode cX2_tryCovers 58 = .ok (.ifCond .eq 22, 3) := by decide +kernel
theorem dX2_tryCovers_61 : decode cX2_tryCovers 61 = .ok (.aload_n 0, 1) := by decide +kernel
theorem dX2_tryCovers_62 : decode cX2_tryCovers 62 = .ok (.iload_n 1, 1) := by decide +kernel
theorem dX2_tryCovers_63 : decode cX2_tryCovers 63 = .ok (.iload_n 2, 1) := by decide +kernel
theorem dX2_tryCovers_64 : decode cX2_tryCovers 64 = .ok (.invokevirtual 256, 3) := by decide +kernel
theorem dX2_tryCovers_67 : decode cX2_tryCovers 67 = .ok (.aload_n 0, 1) := by decide +kernel
theorem dX2_tryCovers_68 : decode cX2_tryCovers 68 = .ok (.iload_n 1, 1) := by decide +kernel
theorem dX2_tryCovers_69 : decode cX2_tryCovers 69 = .ok (.iconst 1, 1) := by decide +kernel
theorem dX2_tryCovers_70 : decode cX2_tryCovers 70 = .ok (.iadd, 1) := by decide +kernel
theorem dX2_tryCovers_71 : decode cX2_tryCovers 71 = .ok (.invokestatic 193, 3) := by decide +kernel
theorem dX2_tryCovers_74 : decode cX2_tryCovers 74 = .ok (.aload_n 0, 1) := by decide +kernel
theorem dX2_tryCovers_75 : decode cX2_tryCovers 75 = .ok (.iload_n 1, 1) := by decide +kernel
theorem dX2_tryCovers_76 : decode cX2_tryCovers 76 = .ok (.iload_n 2, 1) := by decide +kernel
theorem dX2_tryCovers_77 : decode cX2_tryCovers 77 = .ok (.invokevirtual 260, 3) := by decide +kernel
theorem dX2_tryCovers_80 : decode cX2_tryCovers 80 = .ok (.iinc 2 1, 3) := by decide +kernel
theorem dX2_tryCovers_83 : decode cX2_tryCovers 83 = .ok (.goto (-45), 3) := by decide +kernel
theorem dX2_tryCovers_86 : decode cX2_tryCovers 86 = .ok (.aload_n 0, 1) := by decide +kernel
theorem dX2_tryCovers_87 : decode cX2_tryCovers 87 = .ok (.iload_n 1, 1) := by decide +kernel
theorem dX2_tryCovers_88 : decode cX2_tryCovers 88 = .ok (.iconst 1, 1) := by decide +kernel
theorem dX2_tryCovers_89 : decode cX2_tryCovers 89 = .ok (.iadd, 1) := by decide +kernel
theorem dX2_tryCovers_90 : decode cX2_tryCovers 90 = .ok (.invokestatic 193, 3) := by decide +kernel
theorem dX2_tryCovers_93 : decode cX2_tryCovers 93 = .ok (.return_, 1) := by decide +kernel
theorem dX2_tryPurchases_0 : decode cX2_tryPurchases 0 = .ok (.iload_n 1, 1) := by decide +kernel
theorem dX2_tryPurchases_1 : decode cX2_tryPurchases 1 = .ok (.ifCond .lt 9, 3) := by decide +kernel
theorem dX2_tryPurchases_4 : decode cX2_tryPurchases 4 = .ok (.iload_n 1, 1) := by decide +kernel
theorem dX2_tryPurchases_5 : decode cX2_tryPurchases 5 = .ok (.bipush 12, 2) := by decide +kernel
theorem dX2_tryPurchases_7 : decode cX2_tryPurchases 7 = .ok (.if_icmp .lt 22, 3) := by decide +kernel
theorem dX2_tryPurchases_10 : decode cX2_tryPurchases 10 = .ok (.aload_n 0, 1) := by decide +kernel
theorem dX2_tryPurchases_11 : decode cX2_tryPurchases 11 = .ok (.invokevirtual 273, 3) := by decide +kernel
theorem dX2_tryPurchases_14 : decode cX2_tryPurchases 14 = .ok (.istore_n 2, 1) := by decide +kernel
theorem dX2_tryPurchases_15 : decode cX2_tryPurchases 15 = .ok (.iload_n 2, 1) := by decide +kernel
theorem dX2_tryPurchases_16 : decode cX2_tryPurchases 16 = .ok (.aload_n 0, 1) := by decide +kernel
theorem dX2_tryPurchases_17 : decode cX2_tryPurchases 17 = .ok (.getfield 197, 3) := by decide +kernel
theorem dX2_tryPurchases_20 : decode cX2_tryPurchases 20 = .ok (.if_icmp .ge 8, 3) := by decide +kernel
theorem dX2_tryPurchases_23 : decode cX2_tryPurchases 23 = .ok (.aload_n 0, 1) := by decide +kernel
theorem dX2_tryPurchases_24 : decode cX2_tryPurchases 24 = .ok (.iload_n 2, 1) := by decide +kernel
theorem dX2_tryPurchases_25 : decode cX2_tryPurchases 25 = .ok (.invokevirtual 253, 3) := by decide +kernel
theorem dX2_tryPurchases_28 : decode cX2_tryPurchases 28 = .ok (.return_, 1) := by decide +kernel
theorem dX2_tryPurchases_29 : decode cX2_tryPurchases 29 = .ok (.aload_n 0, 1) := by decide +kernel
theorem dX2_tryPurchases_30 : decode cX2_tryPurchases 30 = .ok (.getfield 11, 3) := by decide +kernel
theorem dX2_tryPurchases_33 : decode cX2_tryPurchases 33 = .ok (.iload_n 1, 1) := by decide +kernel
theorem dX2_tryPurchases_34 : decode cX2_tryPurchases 34 = .ok (.aaload, 1) := by decide +kernel
theorem dX2_tryPurchases_35 : decode cX2_tryPurchases 35 = .ok (.getfield 75, 3) := by decide +kernel
theorem dX2_tryPurchases_38 : decode cX2_tryPurchases 38 = .ok (.ifCond .ne 11, 3) := by decide +kernel
theorem dX2_tryPurchases_41 : decode cX2_tryPurchases 41 = .ok (.aload_n 0, 1) := by decide +kernel
theorem dX2_tryPurchases_42 : decode cX2_tryPurchases 42 = .ok (.iload_n 1, 1) := by decide +kernel
theorem dX2_tryPurchases_43 : decode cX2_tryPurchases 43 = .ok (.iconst 1, 1) := by decide +kernel
theorem dX2_tryPurchases_44 : decode cX2_tryPurchases 44 = .ok (.iadd, 1) := by decide +kernel
theorem dX2_tryPurchases_45 : decode cX2_tryPurchases 45 = .ok (.invokestatic 222, 3) := by decide +kernel
theorem dX2_tryPurchases_48 : decode cX2_tryPurchases 48 = .ok (.return_, 1) := by decide +kernel
theorem dX2_tryPurchases_49 : decode cX2_tryPurchases 49 = .ok (.iconst 0, 1) := by decide +kernel
theorem dX2_tryPurchases_50 : decode cX2_tryPurchases 50 = .ok (.istore_n 2, 1) := by decide +kernel
theorem dX2_tryPurchases_51 : decode cX2_tryPurchases 51 = .ok (.iload_n 2, 1) := by decide +kernel
theorem dX2_tryPurchases_52 : decode cX2_tryPurchases 52 = .ok (.iconst 5, 1) := by decide +kernel
theorem dX2_tryPurchases_53 : decode cX2_tryPurchases 53 = .ok (.if_icmp .ge 46, 3) := by decide +kernel
theorem dX2_tryPurchases_56 : decode cX2_tryPurchases 56 = .ok (.aload_n 0, 1) := by decide +kernel
theorem dX2_tryPurchases_57 : decode cX2_tryPurchases 57 = .ok (.getfield 18, 3) := by decide +kernel
theorem dX2_tryPurchases_60 : decode cX2_tryPurchases 60 = .ok (.iload_n 2, 1) := by decide +kernel
theorem dX2_tryPurchases_61 : decode cX2_tryPurchases 61 = .ok (.aaload, 1) := by decide +kernel
theorem dX2_tryPurchases_62 : decode cX2_tryPurchases 62 = .ok (.aload_n 0, 1) := by decide +kernel
theorem dX2_tryPurchases_63 : decode cX2_tryPurchases 63 = .ok (.getfield 11, 3) := by decide +kernel
theorem dX2_tryPurchases_66 : decode cX2_tryPurchases 66 = .ok (.iload_n 1, 1) := by decide +kernel
theorem dX2_tryPurchases_67 : decode cX2_tryPurchases 67 = .ok (.aaload, 1) := by decide +kernel
theorem dX2_tryPurchases_68 : decode cX2_tryPurchases 68 = .ok (.invokevirtual 165, 3) := by decide +kernel
theorem dX2_tryPurchases_71 : decode cX2_tryPurchases 71 = .ok (.ifCond .eq 22, 3) := by decide +kernel
theorem dX2_tryPurchases_74 : decode cX2_tryPurchases 74 = .ok (.aload_n 0, 1) := by decide +kernel
theorem dX2_tryPurchases_75 : decode cX2_tryPurchases 75 = .ok (.iload_n 1, 1) := by decide +kernel
theorem dX2_tryPurchases_76 : decode cX2_tryPurchases 76 = .ok (.iload_n 2, 1) := by decide +kernel
theorem dX2_tryPurchases_77 : decode cX2_tryPurchases 77 = .ok (.invokevirtual 256, 3) := by decide +kernel
theorem dX2_tryPurchases_80 : decode cX2_tryPurchases 80 = .ok (.aload_n 0, 1) := by decide +kernel
theorem dX2_tryPurchases_81 : decode cX2_tryPurchases 81 = .ok (.iload_n 1, 1) := by decide +kernel
theorem dX2_tryPurchases_82 : decode cX2_tryPurchases 82 = .ok (.iconst 1, 1) := by decide +kernel
theorem dX2_tryPurchases_83 : decode cX2_tryPurchases 83 = .ok (.iadd, 1) := by decide +kernel
theorem dX2_tryPurchases_84 : decode cX2_tryPurchases 84 = .ok (.invokestatic 222, 3) := by decide +kernel
theorem dX2_tryPurchases_87 : decode cX2_tryPurchases 87 = .ok (.aload_n 0, 1) := by decide +kernel
theorem dX2_tryPurchases_88 : decode cX2_tryPurchases 88 = .ok (.iload_n 1, 1) := by decide +kernel
theorem dX2_tryPurchases_89 : decode cX2_tryPurchases 89 = .ok (.iload_n 2, 1) := by decide +kernel
theorem dX2_tryPurchases_90 : decode cX2_tryPurchases 90 = .ok (.invokevirtual 260, 3) := by decide +kernel
theorem dX2_tryPurchases_93 : decode cX2_tryPurchases 93 = .ok (.iinc 2 1, 3) := by decide +kernel
theorem dX2_tryPurchases_96 : decode cX2_tryPurchases 96 = .ok (.goto (-45), 3) := by decide +kernel
theorem dX2_tryPurchases_99 : decode cX2_tryPurchases 99 = .ok (.return_, 1) := by decide +kernel
theorem dX2_clearSearch_0 : decode cX2_clearSearch 0 = .ok (.iconst 0, 1) := by decide +kernel
theorem dX2_clearSearch_1 : decode cX2_clearSearch 1 = .ok (.istore_n 2, 1) := by decide +kernel
theorem dX2_clearSearch_2 : decode cX2_clearSearch 2 = .ok (.iload_n 2, 1) := by decide +kernel
theorem dX2_clearSearch_3 : decode cX2_clearSearch 3 = .ok (.bipush 12, 2) := by decide +kernel
theorem dX2_clearSearch_5 : decode cX2_clearSearch 5 = .ok (.if_icmp .ge 23, 3) := by decide +kernel
theorem dX2_clearSearch_8 : decode cX2_clearSearch 8 = .ok (.aload_n 0, 1) := by decide +kernel
theorem dX2_clearSearch_9 : decode cX2_clearSearch 9 = .ok (.getfield 23, 3) := by decide +kernel
theorem dX2_clearSearch_12 : decode cX2_clearSearch 12 = .ok (.iload_n 2, 1) := by decide +kernel
theorem dX2_clearSearch_13 : decode cX2_clearSearch 13 = .ok (.iconst (-1), 1) := by decide +kernel
theorem dX2_clearSearch_14 : decode cX2_clearSearch 14 = .ok (.iastore, 1) := by decide +kernel
theorem dX2_clearSearch_15 : decode cX2_clearSearch 15 = .ok (.aload_n 0, 1) := by decide +kernel
theorem dX2_clearSearch_16 : decode cX2_clearSearch 16 = .ok (.getfield 27, 3) := by decide +kernel
theorem dX2_clearSearch_19 : decode cX2_clearSearch 19 = .ok (.iload_n 2, 1) := by decide +kernel
theorem dX2_clearSearch_20 : decode cX2_clearSearch 20 = .ok (.iconst (-1), 1) := by decide +kernel
theorem dX2_clearSearch_21 : decode cX2_clearSearch 21 = .ok (.iastore, 1) := by decide +kernel
theorem dX2_clearSearch_22 : decode cX2_clearSearch 22 = .ok (.iinc 2 1, 3) := by decide +kernel
theorem dX2_clearSearch_25 : decode cX2_clearSearch 25 = .ok (.goto (-23), 3) := by decide +kernel
theorem dX2_clearSearch_28 : decode cX2_clearSearch 28 = .ok (.aload_n 0, 1) := by decide +kernel
theorem dX2_clearSearch_29 : decode cX2_clearSearch 29 = .ok (.invokevirtual 276, 3) := by decide +kernel
theorem dX2_clearSearch_32 : decode cX2_clearSearch 32 = .ok (.aload_n 0, 1) := by decide +kernel
theorem dX2_clearSearch_33 : decode cX2_clearSearch 33 = .ok (.iload_n 1, 1) := by decide +kernel
theorem dX2_clearSearch_34 : decode cX2_clearSearch 34 = .ok (.putfield 197, 3) := by decide +kernel
theorem dX2_clearSearch_37 : decode cX2_clearSearch 37 = .ok (.return_, 1) := by decide +kernel
theorem dX2_clearNeeds_0 : decode cX2_clearNeeds 0 = .ok (.iconst 0, 1) := by decide +kernel
theorem dX2_clearNeeds_1 : decode cX2_clearNeeds 1 = .ok (.istore_n 1, 1) := by decide +kernel
theorem dX2_clearNeeds_2 : decode cX2_clearNeeds 2 = .ok (.iload_n 1, 1) := by decide +kernel
theorem dX2_clearNeeds_3 : decode cX2_clearNeeds 3 = .ok (.iconst 5, 1) := by decide +kernel
theorem dX2_clearNeeds_4 : decode cX2_clearNeeds 4 = .ok (.if_icmp .ge 18, 3) := by decide +kernel
theorem dX2_clearNeeds_7 : decode cX2_clearNeeds 7 = .ok (.aload_n 0, 1) := by decide +kernel
theorem dX2_clearNeeds_8 : decode cX2_clearNeeds 8 = .ok (.getfield 18, 3) := by decide +kernel
theorem dX2_clearNeeds_11 : decode cX2_clearNeeds 11 = .ok (.iload_n 1, 1) := by decide +kernel
theorem dX2_clearNeeds_12 : decode cX2_clearNeeds 12 = .ok (.aaload, 1) := by decide +kernel
theorem dX2_clearNeeds_13 : decode cX2_clearNeeds 13 = .ok (.invokevirtual 174, 3) := by decide +kernel
theorem dX2_clearNeeds_16 : decode cX2_clearNeeds 16 = .ok (.iinc 1 1, 3) := by decide +kernel
theorem dX2_clearNeeds_19 : decode cX2_clearNeeds 19 = .ok (.goto (-17), 3) := by decide +kernel
theorem dX2_clearNeeds_22 : decode cX2_clearNeeds 22 = .ok (.return_, 1) := by decide +kernel
theorem dX2_give_0 : decode cX2_give 0 = .ok (.aload_n 0, 1) := by decide +kernel
theorem dX2_give_1 : decode cX2_give 1 = .ok (.getfield 23, 3) := by decide +kernel
theorem dX2_give_4 : decode cX2_give 4 = .ok (.iload_n 1, 1) := by decide +kernel
theorem dX2_give_5 : decode cX2_give 5 = .ok (.iload_n 2, 1) := by decide +kernel
theorem dX2_give_6 : decode cX2_give 6 = .ok (.iastore, 1) := by decide +kernel
theorem dX2_give_7 : decode cX2_give 7 = .ok (.aload_n 0, 1) := by decide +kernel
theorem dX2_give_8 : decode cX2_give 8 = .ok (.getfield 18, 3) := by decide +kernel
theorem dX2_give_11 : decode cX2_give 11 = .ok (.iload_n 2, 1) := by decide +kernel
theorem dX2_give_12 : decode cX2_give 12 = .ok (.aaload, 1) := by decide +kernel
theorem dX2_give_13 : decode cX2_give 13 = .ok (.aload_n 0, 1) := by decide +kernel
theorem dX2_give_14 : decode cX2_give 14 = .ok (.getfield 11, 3) := by decide +kernel
theorem dX2_give_17 : decode cX2_give 17 = .ok (.iload_n 1, 1) := by decide +kernel
theorem dX2_give_18 : decode cX2_give 18 = .ok (.aaload, 1) := by decide +kernel
theorem dX2_give_19 : decode cX2_give 19 = .ok (.invokevirtual 177, 3) := by decide +kernel
theorem dX2_give_22 : decode cX2_give 22 = .ok (.return_, 1) := by decide +kernel
theorem dX2_takeBack_0 : decode cX2_takeBack 0 = .ok (.aload_n 0, 1) := by decide +kernel
theorem dX2_takeBack_1 : decode cX2_takeBack 1 = .ok (.getfield 23, 3) := by decide +kernel
theorem dX2_takeBack_4 : decode cX2_takeBack 4 = .ok (.iload_n 1, 1) := by decide +kernel
theorem dX2_takeBack_5 : decode cX2_takeBack 5 = .ok (.iconst (-1), 1) := by decide +kernel
theorem dX2_takeBack_6 : decode cX2_takeBack 6 = .ok (.iastore, 1) := by decide +kernel
theorem dX2_takeBack_7 : decode cX2_takeBack 7 = .ok (.aload_n 0, 1) := by decide +kernel
theorem dX2_takeBack_8 : decode cX2_takeBack 8 = .ok (.getfield 18, 3) := by decide +kernel
theorem dX2_takeBack_11 : decode cX2_takeBack 11 = .ok (.iload_n 2, 1) := by decide +kernel
theorem dX2_takeBack_12 : decode cX2_takeBack 12 = .ok (.aaload, 1) := by decide +kernel
theorem dX2_takeBack_13 : decode cX2_takeBack 13 = .ok (.aload_n 0, 1) := by decide +kernel
theorem dX2_takeBack_14 : decode cX2_takeBack 14 = .ok (.getfield 11, 3) := by decide +kernel
theorem dX2_takeBack_17 : decode cX2_takeBack 17 = .ok (.iload_n 1, 1) := by decide +kernel
theorem dX2_takeBack_18 : decode cX2_takeBack 18 = .ok (.aaload, 1) := by decide +kernel
theorem dX2_takeBack_19 : decode cX2_takeBack 19 = .ok (.invokevirtual 279, 3) := by decide +kernel
theorem dX2_takeBack_22 : decode cX2_takeBack 22 = .ok (.return_, 1) := by decide +kernel
theorem dX2_keepAsBest_0 : decode cX2_keepAsBest 0 = .ok (.aload_n 0, 1) := by decide +kernel
theorem dX2_keepAsBest_1 : decode cX2_keepAsBest 1 = .ok (.iload_n 1, 1) := by decide +kernel
theorem dX2_keepAsBest_2 : decode cX2_keepAsBest 2 = .ok (.putfield 197, 3) := by decide +kernel
theorem dX2_keepAsBest_5 : decode cX2_keepAsBest 5 = .ok (.aload_n 0, 1) := by decide +kernel
theorem dX2_keepAsBest_6 : decode cX2_keepAsBest 6 = .ok (.getfield 23, 3) := by decide +kernel
theorem dX2_keepAsBest_9 : decode cX2_keepAsBest 9 = .ok (.iconst 0, 1) := by decide +kernel
theorem dX2_keepAsBest_10 : decode cX2_keepAsBest 10 = .ok (.aload_n 0, 1) := by decide +kernel
theorem dX2_keepAsBest_11 : decode cX2_keepAsBest 11 = .ok (.getfield 27, 3) := by decide +kernel
theorem dX2_keepAsBest_14 : decode cX2_keepAsBest 14 = .ok (.iconst 0, 1) := by decide +kernel
theorem dX2_keepAsBest_15 : decode cX2_keepAsBest 15 = .ok (.bipush 12, 2) := by decide +kernel
theorem dX2_keepAsBest_17 : decode cX2_keepAsBest 17 = .ok (.invokestatic 282, 3) := by decide +kernel
theorem dX2_keepAsBest_20 : decode cX2_keepAsBest 20 = .ok (.return_, 1) := by decide +kernel
theorem dX2_serveByBest_0 : decode cX2_serveByBest 0 = .ok (.aload_n 0, 1) := by decide +kernel
theorem dX2_serveByBest_1 : decode cX2_serveByBest 1 = .ok (.invokevirtual 276, 3) := by decide +kernel
theorem dX2_serveByBest_4 : decode cX2_serveByBest 4 = .ok (.iconst 0, 1) := by decide +kernel
theorem dX2_serveByBest_5 : decode cX2_serveByBest 5 = .ok (.istore_n 1, 1) := by decide +kernel
theorem dX2_serveByBest_6 : decode cX2_serveByBest 6 = .ok (.iload_n 1, 1) := by decide +kernel
theorem dX2_serveByBest_7 : decode cX2_serveByBest 7 = .ok (.bipush 12, 2) := by decide +kernel
theorem dX2_serveByBest_9 : decode cX2_serveByBest 9 = .ok (.if_icmp .ge 43, 3) := by decide +kernel
theorem dX2_serveByBest_12 : decode cX2_serveByBest 12 = .ok (.aload_n 0, 1) := by decide +kernel
theorem dX2_serveByBest_13 : decode cX2_serveByBest 13 = .ok (.getfield 27, 3) := by decide +kernel
theorem dX2_serveByBest_16 : decode cX2_serveByBest 16 = .ok (.iload_n 1, 1) := by decide +kernel
theorem dX2_serveByBest_17 : decode cX2_serveByBest 17 = .ok (.iaload, 1) := by decide +kernel
theorem dX2_serveByBest_18 : decode cX2_serveByBest 18 = .ok (.iconst 0, 1) := by decide +kernel
theorem dX2_serveByBest_19 : decode cX2_serveByBest 19 = .ok (.iconst 4, 1) := by decide +kernel
theorem dX2_serveByBest_20 : decode cX2_serveByBest 20 = .ok (.invokestatic 33, 3) := by decide +kernel
theorem dX2_serveByBest_23 : decode cX2_serveByBest 23 = .ok (.ifCond .eq 23, 3) := by decide +kernel
theorem dX2_serveByBest_26 : decode cX2_serveByBest 26 = .ok (.aload_n 0, 1) := by decide +kernel
theorem dX2_serveByBest_27 : decode cX2_serveByBest 27 = .ok (.getfield 18, 3) := by decide +kernel
theorem dX2_serveByBest_30 : decode cX2_serveByBest 30 = .ok (.aload_n 0, 1) := by decide +kernel
theorem dX2_serveByBest_31 : decode cX2_serveByBest 31 = .ok (.getfield 27, 3) := by decide +kernel
theorem dX2_serveByBest_34 : decode cX2_serveByBest 34 = .ok (.iload_n 1, 1) := by decide +kernel
theorem dX2_serveByBest_35 : decode cX2_serveByBest 35 = .ok (.iaload, 1) := by decide +kernel
theorem dX2_serveByBest_36 : decode cX2_serveByBest 36 = .ok (.aaload, 1) := by decide +kernel
theorem dX2_serveByBest_37 : decode cX2_serveByBest 37 = .ok (.aload_n 0, 1) := by decide +kernel
theorem dX2_serveByBest_38 : decode cX2_serveByBest 38 = .ok (.getfield 11, 3) := by decide +kernel
theorem dX2_serveByBest_41 : decode cX2_serveByBest 41 = .ok (.iload_n 1, 1) := by decide +kernel
theorem dX2_serveByBest_42 : decode cX2_serveByBest 42 = .ok (.aaload, 1) := by decide +kernel
theorem dX2_serveByBest_43 : decode cX2_serveByBest 43 = .ok (.invokevirtual 177, 3) := by decide +kernel
theorem dX2_serveByBest_46 : decode cX2_serveByBest 46 = .ok (.iinc 1 1, 3) := by decide +kernel
theorem dX2_serveByBest_49 : decode cX2_serveByBest 49 = .ok (.goto (-43), 3) := by decide +kernel
theorem dX2_serveByBest_52 : decode cX2_serveByBest 52 = .ok (.return_, 1) := by decide +kernel
theorem dX2_countGiven_0 : decode cX2_countGiven 0 = .ok (.iconst 0, 1) := by decide +kernel
theorem dX2_countGiven_1 : decode cX2_countGiven 1 = .ok (.istore_n 1, 1) := by decide +kernel
theorem dX2_countGiven_2 : decode cX2_countGiven 2 = .ok (.iconst 0, 1) := by decide +kernel
theorem dX2_countGiven_3 : decode cX2_countGiven 3 = .ok (.istore_n 2, 1) := by decide +kernel
theorem dX2_countGiven_4 : decode cX2_countGiven 4 = .ok (.iload_n 2, 1) := by decide +kernel
theorem dX2_countGiven_5 : decode cX2_countGiven 5 = .ok (.bipush 12, 2) := by decide +kernel
theorem dX2_countGiven_7 : decode cX2_countGiven 7 = .ok (.if_icmp .ge 22, 3) := by decide +kernel
theorem dX2_countGiven_10 : decode cX2_countGiven 10 = .ok (.aload_n 0, 1) := by decide +kernel
theorem dX2_countGiven_11 : decode cX2_countGiven 11 = .ok (.getfield 23, 3) := by decide +kernel
theorem dX2_countGiven_14 : decode cX2_countGiven 14 = .ok (.iload_n 2, 1) := by decide +kernel
theorem dX2_countGiven_15 : decode cX2_countGiven 15 = .ok (.iaload, 1) := by decide +kernel
theorem dX2_countGiven_16 : decode cX2_countGiven 16 = .ok (.iconst (-1), 1) := by decide +kernel
theorem dX2_countGiven_17 : decode cX2_countGiven 17 = .ok (.if_icmp .eq 6, 3) := by decide +kernel
theorem dX2_countGiven_20 : decode cX2_countGiven 20 = .ok (.iinc 1 1, 3) := by decide +kernel
theorem dX2_countGiven_23 : decode cX2_countGiven 23 = .ok (.iinc 2 1, 3) := by decide +kernel
theorem dX2_countGiven_26 : decode cX2_countGiven 26 = .ok (.goto (-22), 3) := by decide +kernel
theorem dX2_countGiven_29 : decode cX2_countGiven 29 = .ok (.iload_n 1, 1) := by decide +kernel
theorem dX2_countGiven_30 : decode cX2_countGiven 30 = .ok (.ireturn, 1) := by decide +kernel
theorem dX2_isAllowed_0 : decode cX2_isAllowed 0 = .ok (.iconst 0, 1) := by decide +kernel
theorem dX2_isAllowed_1 : decode cX2_isAllowed 1 = .ok (.istore_n 1, 1) := by decide +kernel
theorem dX2_isAllowed_2 : decode cX2_isAllowed 2 = .ok (.iload_n 1, 1) := by decide +kernel
theorem dX2_isAllowed_3 : decode cX2_isAllowed 3 = .ok (.iconst 5, 1) := by decide +kernel
theorem dX2_isAllowed_4 : decode cX2_isAllowed 4 = .ok (.if_icmp .ge 23, 3) := by decide +kernel
theorem dX2_isAllowed_7 : decode cX2_isAllowed 7 = .ok (.aload_n 0, 1) := by decide +kernel
theorem dX2_isAllowed_8 : decode cX2_isAllowed 8 = .ok (.getfield 18, 3) := by decide +kernel
theorem dX2_isAllowed_11 : decode cX2_isAllowed 11 = .ok (.iload_n 1, 1) := by decide +kernel
theorem dX2_isAllowed_12 : decode cX2_isAllowed 12 = .ok (.aaload, 1) := by decide +kernel
theorem dX2_isAllowed_13 : decode cX2_isAllowed 13 = .ok (.invokevirtual 225, 3) := by decide +kernel
theorem dX2_isAllowed_16 : decode cX2_isAllowed 16 = .ok (.ifCond .le 5, 3) := by decide +kernel
theorem dX2_isAllowed_19 : decode cX2_isAllowed 19 = .ok (.iconst 0, 1) := by decide +kernel
theorem dX2_isAllowed_20 : decode cX2_isAllowed 20 = .ok (.ireturn, 1) := by decide +kernel
theorem dX2_isAllowed_21 : decode cX2_isAllowed 21 = .ok (.iinc 1 1, 3) := by decide +kernel
theorem dX2_isAllowed_24 : decode cX2_isAllowed 24 = .ok (.goto (-22), 3) := by decide +kernel
theorem dX2_isAllowed_27 : decode cX2_isAllowed 27 = .ok (.iconst 1, 1) := by decide +kernel
theorem dX2_isAllowed_28 : decode cX2_isAllowed 28 = .ok (.ireturn, 1) := by decide +kernel
theorem dX2_sumOfMissing_0 : decode cX2_sumOfMissing 0 = .ok (.iconst 0, 1) := by decide +kernel
theorem dX2_sumOfMissing_1 : decode cX2_sumOfMissing 1 = .ok (.istore_n 1, 1) := by decide +kernel
theorem dX2_sumOfMissing_2 : decode cX2_sumOfMissing 2 = .ok (.iconst 0, 1) := by decide +kernel
theorem dX2_sumOfMissing_3 : decode cX2_sumOfMissing 3 = .ok (.istore_n 2, 1) := by decide +kernel
theorem dX2_sumOfMissing_4 : decode cX2_sumOfMissing 4 = .ok (.iload_n 2, 1) := by decide +kernel
theorem dX2_sumOfMissing_5 : decode cX2_sumOfMissing 5 = .ok (.iconst 5, 1) := by decide +kernel
theorem dX2_sumOfMissing_6 : decode cX2_sumOfMissing 6 = .ok (.if_icmp .ge 21, 3) := by decide +kernel
theorem dX2_sumOfMissing_9 : decode cX2_sumOfMissing 9 = .ok (.iload_n 1, 1) := by decide +kernel
theorem dX2_sumOfMissing_10 : decode cX2_sumOfMissing 10 = .ok (.aload_n 0, 1) := by decide +kernel
theorem dX2_sumOfMissing_11 : decode cX2_sumOfMissing 11 = .ok (.getfield 18, 3) := by decide +kernel
theorem dX2_sumOfMissing_14 : decode cX2_sumOfMissing 14 = .ok (.iload_n 2, 1) := by decide +kernel
theorem dX2_sumOfMissing_15 : decode cX2_sumOfMissing 15 = .ok (.aaload, 1) := by decide +kernel
theorem dX2_sumOfMissing_16 : decode cX2_sumOfMissing 16 = .ok (.invokevirtual 263, 3) := by decide +kernel
theorem dX2_sumOfMissing_19 : decode cX2_sumOfMissing 19 = .ok (.iadd, 1) := by decide +kernel
theorem dX2_sumOfMissing_20 : decode cX2_sumOfMissing 20 = .ok (.istore_n 1, 1) := by decide +kernel
theorem dX2_sumOfMissing_21 : decode cX2_sumOfMissing 21 = .ok (.iinc 2 1, 3) := by decide +kernel
theorem dX2_sumOfMissing_24 : decode cX2_sumOfMissing 24 = .ok (.goto (-20), 3) := by decide +kernel
theorem dX2_sumOfMissing_27 : decode cX2_sumOfMissing 27 = .ok (.iload_n 1, 1) := by decide +kernel
theorem dX2_sumOfMissing_28 : decode cX2_sumOfMissing 28 = .ok (.ireturn, 1) := by decide +kernel
theorem dX3_init_0 : decode cX3_init 0 = .ok (.aload_n 0, 1) := by decide +kernel
theorem dX3_init_1 : decode cX3_init 1 = .ok (.invokespecial 1, 3) := by decide +kernel
theorem dX3_init_4 : decode cX3_init 4 = .ok (.aload_n 0, 1) := by decide +kernel
theorem dX3_init_5 : decode cX3_init 5 = .ok (.iload_n 1, 1) := by decide +kernel
theorem dX3_init_6 : decode cX3_init 6 = .ok (.ldc 7, 2) := by decide +kernel
theorem dX3_init_8 : decode cX3_init 8 = .ok (.imul, 1) := by decide +kernel
theorem dX3_init_9 : decode cX3_init 9 = .ok (.sipush 12345, 3) := by decide +kernel
theorem dX3_init_12 : decode cX3_init 12 = .ok (.iadd, 1) := by decide +kernel
theorem dX3_init_13 : decode cX3_init 13 = .ok (.putfield 8, 3) := by decide +kernel
theorem dX3_init_16 : decode cX3_init 16 = .ok (.return_, 1) := by decide +kernel
theorem dX3_next_0 : decode cX3_next 0 = .ok (.aload_n 0, 1) := by decide +kernel
theorem dX3_next_1 : decode cX3_next 1 = .ok (.aload_n 0, 1) := by decide +kernel
theorem dX3_next_2 : decode cX3_next 2 = .ok (.getfield 8, 3) := by decide +kernel
theorem dX3_next_5 : decode cX3_next 5 = .ok (.ldc 14, 2) := by decide +kernel
theorem dX3_next_7 : decode cX3_next 7 = .ok (.imul, 1) := by decide +kernel
theorem dX3_next_8 : decode cX3_next 8 = .ok (.sipush 12345, 3) := by decide +kernel
theorem dX3_next_11 : decode cX3_next 11 = .ok (.iadd, 1) := by decide +kernel
theorem dX3_next_12 : decode cX3_next 12 = .ok (.putfield 8, 3) := by decide +kernel
theorem dX3_next_15 : decode cX3_next 15 = .ok (.aload_n 0, 1) := by decide +kernel
theorem dX3_next_16 : decode cX3_next 16 = .ok (.getfield 8, 3) := by decide +kernel
theorem dX3_next_19 : decode cX3_next 19 = .ok (.bipush 16, 2) := by decide +kernel
theorem dX3_next_21 : decode cX3_next 21 = .ok (.iushr, 1) := by decide +kernel
theorem dX3_next_22 : decode cX3_next 22 = .ok (.sipush 32767, 3) := by decide +kernel
theorem dX3_next_25 : decode cX3_next 25 = .ok (.iand, 1) := by decide +kernel
theorem dX3_next_26 : decode cX3_next 26 = .ok (.iconst 1, 1) := by decide +kernel
theorem dX3_next_27 : decode cX3_next 27 = .ok (.iload_n 1, 1) := by decide +kernel
theorem dX3_next_28 : decode cX3_next 28 = .ok (.invokestatic 15, 3) := by decide +kernel
theorem dX3_next_31 : decode cX3_next 31 = .ok (.irem, 1) := by decide +kernel
theorem dX3_next_32 : decode cX3_next 32 = .ok (.ireturn, 1) := by decide +kernel
