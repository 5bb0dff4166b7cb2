theorem dX3_init_0 : decode cX3_init 0 = .ok (.aload_n 0, 1) := by decide +kernel
theorem dX3_init_1 : decode cX3_init 1 = .ok (.invokespecial 1, 3) := by decide +kernel
theorem dX3_init_4 : decode cX3_init 4 = .ok (.aload_n 0, 1) := by decide +kernel
theorem dX3_init_5 : decode cX3_init 5 = .ok (.bipush 12, 2) := by decide +kernel
theorem dX3_init_7 : decode cX3_init 7 = .ok (.newarray .int, 2) := by decide +kernel
theorem dX3_init_9 : decode cX3_init 9 = .ok (.putfield 7, 3) := by decide +kernel
theorem dX3_init_12 : decode cX3_init 12 = .ok (.aload_n 0, 1) := by decide +kernel
theorem dX3_init_13 : decode cX3_init 13 = .ok (.bipush 12, 2) := by decide +kernel
theorem dX3_init_15 : decode cX3_init 15 = .ok (.newarray .int, 2) := by decide +kernel
theorem dX3_init_17 : decode cX3_init 17 = .ok (.putfield 13, 3) := by decide +kernel
theorem dX3_init_20 : decode cX3_init 20 = .ok (.aload_n 0, 1) := by decide +kernel
theorem dX3_init_21 : decode cX3_init 21 = .ok (.bipush 12, 2) := by decide +kernel
theorem dX3_init_23 : decode cX3_init 23 = .ok (.newarray .int, 2) := by decide +kernel
theorem dX3_init_25 : decode cX3_init 25 = .ok (.putfield 16, 3) := by decide +kernel
theorem dX3_init_28 : decode cX3_init 28 = .ok (.aload_n 0, 1) := by decide +kernel
theorem dX3_init_29 : decode cX3_init 29 = .ok (.bipush 12, 2) := by decide +kernel
theorem dX3_init_31 : decode cX3_init 31 = .ok (.newarray .int, 2) := by decide +kernel
theorem dX3_init_33 : decode cX3_init 33 = .ok (.putfield 19, 3) := by decide +kernel
theorem dX3_init_36 : decode cX3_init 36 = .ok (.aload_n 0, 1) := by decide +kernel
theorem dX3_init_37 : decode cX3_init 37 = .ok (.bipush 12, 2) := by decide +kernel
theorem dX3_init_39 : decode cX3_init 39 = .ok (.newarray .int, 2) := by decide +kernel
theorem dX3_init_41 : decode cX3_init 41 = .ok (.putfield 22, 3) := by decide +kernel
theorem dX3_init_44 : decode cX3_init 44 = .ok (.aload_n 0, 1) := by decide +kernel
theorem dX3_init_45 : decode cX3_init 45 = .ok (.bipush 12, 2) := by decide +kernel
theorem dX3_init_47 : decode cX3_init 47 = .ok (.newarray .int, 2) := by decide +kernel
theorem dX3_init_49 : decode cX3_init 49 = .ok (.putfield 25, 3) := by decide +kernel
theorem dX3_init_52 : decode cX3_init 52 = .ok (.aload_n 0, 1) := by decide +kernel
theorem dX3_init_53 : decode cX3_init 53 = .ok (.bipush 12, 2) := by decide +kernel
theorem dX3_init_55 : decode cX3_init 55 = .ok (.newarray .int, 2) := by decide +kernel
theorem dX3_init_57 : decode cX3_init 57 = .ok (.putfield 28, 3) := by decide +kernel
theorem dX3_init_60 : decode cX3_init 60 = .ok (.aload_n 0, 1) := by decide +kernel
theorem dX3_init_61 : decode cX3_init 61 = .ok (.bipush 12, 2) := by decide +kernel
theorem dX3_init_63 : decode cX3_init 63 = .ok (.newarray .boolean, 2) := by decide +kernel
theorem dX3_init_65 : decode cX3_init 65 = .ok (.putfield 31, 3) := by decide +kernel
theorem dX3_init_68 : decode cX3_init 68 = .ok (.aload_n 0, 1) := by decide +kernel
theorem dX3_init_69 : decode cX3_init 69 = .ok (.iconst 5, 1) := by decide +kernel
theorem dX3_init_70 : decode cX3_init 70 = .ok (.newarray .boolean, 2) := by decide +kernel
theorem dX3_init_72 : decode cX3_init 72 = .ok (.putfield 35, 3) := by decide +kernel
theorem dX3_init_75 : decode cX3_init 75 = .ok (.aload_n 0, 1) := by decide +kernel
theorem dX3_init_76 : decode cX3_init 76 = .ok (.iconst 5, 1) := by decide +kernel
theorem dX3_init_77 : decode cX3_init 77 = .ok (.newarray .boolean, 2) := by decide +kernel
theorem dX3_init_79 : decode cX3_init 79 = .ok (.putfield 38, 3) := by decide +kernel
theorem dX3_init_82 : decode cX3_init 82 = .ok (.aload_n 0, 1) := by decide +kernel
theorem dX3_init_83 : decode cX3_init 83 = .ok (.iconst 5, 1) := by decide +kernel
theorem dX3_init_84 : decode cX3_init 84 = .ok (.newarray .boolean, 2) := by decide +kernel
theorem dX3_init_86 : decode cX3_init 86 = .ok (.putfield 41, 3) := by decide +kernel
theorem dX3_init_89 : decode cX3_init 89 = .ok (.aload_n 0, 1) := by decide +kernel
theorem dX3_init_90 : decode cX3_init 90 = .ok (.iconst 5, 1) := by decide +kernel
theorem dX3_init_91 : decode cX3_init 91 = .ok (.newarray .int, 2) := by decide +kernel
theorem dX3_init_93 : decode cX3_init 93 = .ok (.putfield 44, 3) := by decide +kernel
theorem dX3_init_96 : decode cX3_init 96 = .ok (.aload_n 0, 1) := by decide +kernel
theorem dX3_init_97 : decode cX3_init 97 = .ok (.iconst 5, 1) := by decide +kernel
theorem dX3_init_98 : decode cX3_init 98 = .ok (.newarray .int, 2) := by decide +kernel
theorem dX3_init_100 : decode cX3_init 100 = .ok (.putfield 47, 3) := by decide +kernel
theorem dX3_init_103 : decode cX3_init 103 = .ok (.aload_n 0, 1) := by decide +kernel
theorem dX3_init_104 : decode cX3_init 104 = .ok (.iconst 5, 1) := by decide +kernel
theorem dX3_init_105 : decode cX3_init 105 = .ok (.newarray .int, 2) := by decide +kernel
theorem dX3_init_107 : decode cX3_init 107 = .ok (.putfield 50, 3) := by decide +kernel
theorem dX3_init_110 : decode cX3_init 110 = .ok (.aload_n 0, 1) := by decide +kernel
theorem dX3_init_111 : decode cX3_init 111 = .ok (.iconst 5, 1) := by decide +kernel
theorem dX3_init_112 : decode cX3_init 112 = .ok (.newarray .int, 2) := by decide +kernel
theorem dX3_init_114 : decode cX3_init 114 = .ok (.putfield 53, 3) := by decide +kernel
theorem dX3_init_117 : decode cX3_init 117 = .ok (.aload_n 0, 1) := by decide +kernel
theorem dX3_init_118 : decode cX3_init 118 = .ok (.iconst 5, 1) := by decide +kernel
theorem dX3_init_119 : decode cX3_init 119 = .ok (.newarray .int, 2) := by decide +kernel
theorem dX3_init_121 : decode cX3_init 121 = .ok (.putfield 56, 3) := by decide +kernel
theorem dX3_init_124 : decode cX3_init 124 = .ok (.aload_n 0, 1) := by decide +kernel
theorem dX3_init_125 : decode cX3_init 125 = .ok (.iconst 5, 1) := by decide +kernel
theorem dX3_init_126 : decode cX3_init 126 = .ok (.newarray .int, 2) := by decide +kernel
theorem dX3_init_128 : decode cX3_init 128 = .ok (.putfield 59, 3) := by decide +kernel
theorem dX3_init_131 : decode cX3_init 131 = .ok (.aload_n 0, 1) := by decide +kernel
theorem dX3_init_132 : decode cX3_init 132 = .ok (.iconst 5, 1) := by decide +kernel
theorem dX3_init_133 : decode cX3_init 133 = .ok (.newarray .int, 2) := by decide +kernel
theorem dX3_init_135 : decode cX3_init 135 = .ok (.putfield 62, 3) := by decide +kernel
theorem dX3_init_138 : decode cX3_init 138 = .ok (.aload_n 0, 1) := by decide +kernel
theorem dX3_init_139 : decode cX3_init 139 = .ok (.iconst 5, 1) := by decide +kernel
theorem dX3_init_140 : decode cX3_init 140 = .ok (.newarray .char, 2) := by decide +kernel
theorem dX3_init_142 : decode cX3_init 142 = .ok (.putfield 65, 3) := by decide +kernel
theorem dX3_init_145 : decode cX3_init 145 = .ok (.aload_n 0, 1) := by decide +kernel
theorem dX3_init_146 : decode cX3_init 146 = .ok (.bipush 12, 2) := by decide +kernel
theorem dX3_init_148 : decode cX3_init 148 = .ok (.newarray .int, 2) := by decide +kernel
theorem dX3_init_150 : decode cX3_init 150 = .ok (.putfield 69, 3) := by decide +kernel
theorem dX3_init_153 : decode cX3_init 153 = .ok (.aload_n 0, 1) := by decide +kernel
theorem dX3_init_154 : decode cX3_init 154 = .ok (.bipush 12, 2) := by decide +kernel
theorem dX3_init_156 : decode cX3_init 156 = .ok (.newarray .int, 2) := by decide +kernel
theorem dX3_init_158 : decode cX3_init 158 = .ok (.putfield 72, 3) := by decide +kernel
theorem dX3_init_161 : decode cX3_init 161 = .ok (.aload_n 0, 1) := by decide +kernel
theorem dX3_init_162 : decode cX3_init 162 = .ok (.iconst 4, 1) := by decide +kernel
theorem dX3_init_163 : decode cX3_init 163 = .ok (.newarray .int, 2) := by decide +kernel
theorem dX3_init_165 : decode cX3_init 165 = .ok (.putfield 75, 3) := by decide +kernel
theorem dX3_init_168 : decode cX3_init 168 = .ok (.return_, 1) := by decide +kernel
theorem dX3_thrown_0 : decode cX3_thrown 0 = .ok (.aload_n 0, 1) := by decide +kernel
theorem dX3_thrown_1 : decode cX3_thrown 1 = .ok (.getfield 78, 3) := by decide +kernel
theorem dX3_thrown_4 : decode cX3_thrown 4 = .ok (.ireturn, 1) := by decide +kernel
theorem dX3_fail_0 : decode cX3_fail 0 = .ok (.aload_n 0, 1) := by decide +kernel
theorem dX3_fail_1 : decode cX3_fail 1 = .ok (.iload_n 1, 1) := by decide +kernel
theorem dX3_fail_2 : decode cX3_fail 2 = .ok (.putfield 78, 3) := by decide +kernel
theorem dX3_fail_5 : decode cX3_fail 5 = .ok (.iconst 0, 1) := by decide +kernel
theorem dX3_fail_6 : decode cX3_fail 6 = .ok (.ireturn, 1) := by decide +kernel
theorem dX3_isIn_0 : decode cX3_isIn 0 = .ok (.iload_n 0, 1) := by decide +kernel
theorem dX3_isIn_1 : decode cX3_isIn 1 = .ok (.iload_n 1, 1) := by decide +kernel
theorem dX3_isIn_2 : decode cX3_isIn 2 = .ok (.if_icmp .lt 12, 3) := by decide +kernel
theorem dX3_isIn_5 : decode cX3_isIn 5 = .ok (.iload_n 0, 1) := by decide +kernel
theorem dX3_isIn_6 : decode cX3_isIn 6 = .ok (.iload_n 2, 1) := by decide +kernel
theorem dX3_isIn_7 : decode cX3_isIn 7 = .ok (.if_icmp .gt 7, 3) := by decide +kernel
theorem dX3_isIn_10 : decode cX3_isIn 10 = .ok (.iconst 1, 1) := by decide +kernel
theorem dX3_isIn_11 : decode cX3_isIn 11 = .ok (.goto 4, 3) := by decide +kernel
theorem dX3_isIn_14 : decode cX3_isIn 14 = .ok (.iconst 0, 1) := by decide +kernel
theorem dX3_isIn_15 : decode cX3_isIn 15 = .ok (.ireturn, 1) := by decide +kernel
theorem dX3_noInstall_0 : decode cX3_noInstall 0 = .ok (.aload_n 0, 1) := by decide +kernel
theorem dX3_noInstall_1 : decode cX3_noInstall 1 = .ok (.aload_n 0, 1) := by decide +kernel
theorem dX3_noInstall_2 : decode cX3_noInstall 2 = .ok (.iload_n 1, 1) := by decide +kernel
theorem dX3_noInstall_3 : decode cX3_noInstall 3 = .ok (.invokevirtual 82, 3) := by decide +kernel
theorem dX3_noInstall_6 : decode cX3_noInstall 6 = .ok (.ifCond .eq 7, 3) := by decide +kernel
theorem dX3_noInstall_9 : decode cX3_noInstall 9 = .ok (.iconst 0, 1) := by decide +kernel
theorem dX3_noInstall_10 : decode cX3_noInstall 10 = .ok (.goto 4, 3) := by decide +kernel
theorem dX3_noInstall_13 : decode cX3_noInstall 13 = .ok (.iconst 1, 1) := by decide +kernel
theorem dX3_noInstall_14 : decode cX3_noInstall 14 = .ok (.putfield 78, 3) := by decide +kernel
theorem dX3_noInstall_17 : decode cX3_noInstall 17 = .ok (.aload_n 0, 1) := by decide +kernel
theorem dX3_noInstall_18 : decode cX3_noInstall 18 = .ok (.getfield 78, 3) := by decide +kernel
theorem dX3_noInstall_21 : decode cX3_noInstall 21 = .ok (.ifCond .eq 7, 3) := by decide +kernel
theorem dX3_noInstall_24 : decode cX3_noInstall 24 = .ok (.iconst 1, 1) := by decide +kernel
theorem dX3_noInstall_25 : decode cX3_noInstall 25 = .ok (.goto 4, 3) := by decide +kernel
theorem dX3_noInstall_28 : decode cX3_noInstall 28 = .ok (.iconst 0, 1) := by decide +kernel
theorem dX3_noInstall_29 : decode cX3_noInstall 29 = .ok (.ireturn, 1) := by decide +kernel
theorem dX3_noEntitlement_0 : decode cX3_noEntitlement 0 = .ok (.aload_n 0, 1) := by decide +kernel
theorem dX3_noEntitlement_1 : decode cX3_noEntitlement 1 = .ok (.iload_n 1, 1) := by decide +kernel
theorem dX3_noEntitlement_2 : decode cX3_noEntitlement 2 = .ok (.iconst 0, 1) := by decide +kernel
theorem dX3_noEntitlement_3 : decode cX3_noEntitlement 3 = .ok (.aload_n 0, 1) := by decide +kernel
theorem dX3_noEntitlement_4 : decode cX3_noEntitlement 4 = .ok (.getfield 86, 3) := by decide +kernel
theorem dX3_noEntitlement_7 : decode cX3_noEntitlement 7 = .ok (.iconst 1, 1) := by decide +kernel
theorem dX3_noEntitlement_8 : decode cX3_noEntitlement 8 = .ok (.isub, 1) := by decide +kernel
theorem dX3_noEntitlement_9 : decode cX3_noEntitlement 9 = .ok (.invokestatic 89, 3) := by decide +kernel
theorem dX3_noEntitlement_12 : decode cX3_noEntitlement 12 = .ok (.ifCond .eq 7, 3) := by decide +kernel
theorem dX3_noEntitlement_15 : decode cX3_noEntitlement 15 = .ok (.iconst 0, 1) := by decide +kernel
theorem dX3_noEntitlement_16 : decode cX3_noEntitlement 16 = .ok (.goto 4, 3) := by decide +kernel
theorem dX3_noEntitlement_19 : decode cX3_noEntitlement 19 = .ok (.iconst 1, 1) := by decide +kernel
theorem dX3_noEntitlement_20 : decode cX3_noEntitlement 20 = .ok (.putfield 78, 3) := by decide +kernel
theorem dX3_noEntitlement_23 : decode cX3_noEntitlement 23 = .ok (.aload_n 0, 1) := by decide +kernel
theorem dX3_noEntitlement_24 : decode cX3_noEntitlement 24 = .ok (.getfield 78, 3) := by decide +kernel
theorem dX3_noEntitlement_27 : decode cX3_noEntitlement 27 = .ok (.ifCond .eq 7, 3) := by decide +kernel
theorem dX3_noEntitlement_30 : decode cX3_noEntitlement 30 = .ok (.iconst 1, 1) := by decide +kernel
theorem dX3_noEntitlement_31 : decode cX3_noEntitlement 31 = .ok (.goto 4, 3) := by decide +kernel
theorem dX3_noEntitlement_34 : decode cX3_noEntitlement 34 = .ok (.iconst 0, 1) := by decide +kernel
theorem dX3_noEntitlement_35 : decode cX3_noEntitlement 35 = .ok (.ireturn, 1) := by decide +kernel
theorem dX3_install_0 : decode cX3_install 0 = .ok (.iload_n 1, 1) := by decide +kernel
theorem dX3_install_1 : decode cX3_install 1 = .ok (.iconst 0, 1) := by decide +kernel
theorem dX3_install_2 : decode cX3_install 2 = .ok (.iconst 3, 1) := by decide +kernel
theorem dX3_install_3 : decode cX3_install 3 = .ok (.invokestatic 89, 3) := by decide +kernel
theorem dX3_install_6 : decode cX3_install 6 = .ok (.ifCond .eq 65, 3) := by decide +kernel
theorem dX3_install_9 : decode cX3_install 9 = .ok (.iload_n 2, 1) := by decide +kernel
theorem dX3_install_10 : decode cX3_install 10 = .ok (.iconst 1, 1) := by decide +kernel
theorem dX3_install_11 : decode cX3_install 11 = .ok (.bipush 9, 2) := by decide +kernel
theorem dX3_install_13 : decode cX3_install 13 = .ok (.invokestatic 89, 3) := by decide +kernel
theorem dX3_install_16 : decode cX3_install 16 = .ok (.ifCond .eq 55, 3) := by decide +kernel
theorem dX3_install_19 : decode cX3_install 19 = .ok (.iload_n 3, 1) := by decide +kernel
theorem dX3_install_20 : decode cX3_install 20 = .ok (.iconst 1, 1) := by decide +kernel
theorem dX3_install_21 : decode cX3_install 21 = .ok (.iconst 3, 1) := by decide +kernel
theorem dX3_install_22 : decode cX3_install 22 = .ok (.invokestatic 89, 3) := by decide +kernel
theorem dX3_install_25 : decode cX3_install 25 = .ok (.ifCond .eq 46, 3) := by decide +kernel
theorem dX3_install_28 : decode cX3_install 28 = .ok (.iload 4, 2) := by decide +kernel
theorem dX3_install_30 : decode cX3_install 30 = .ok (.iconst 0, 1) := by decide +kernel
theorem dX3_install_31 : decode cX3_install 31 = .ok (.bipush 9, 2) := by decide +kernel
theorem dX3_install_33 : decode cX3_install 33 = .ok (.invokestatic 89, 3) := by decide +kernel
theorem dX3_install_36 : decode cX3_install 36 = .ok (.ifCond .eq 35, 3) := by decide +kernel
theorem dX3_install_39 : decode cX3_install 39 = .ok (.iload 5, 2) := by decide +kernel
theorem dX3_install_41 : decode cX3_install 41 = .ok (.iconst 0, 1) := by decide +kernel
theorem dX3_install_42 : decode cX3_install 42 = .ok (.bipush 9, 2) := by decide +kernel
theorem dX3_install_44 : decode cX3_install 44 = .ok (.invokestatic 89, 3) := by decide +kernel
theorem dX3_install_47 : decode cX3_install 47 = .ok (.ifCond .eq 24, 3) := by decide +kernel
theorem dX3_install_50 : decode cX3_install 50 = .ok (.iload 6, 2) := by decide +kernel
theorem dX3_install_52 : decode cX3_install 52 = .ok (.iconst 1, 1) := by decide +kernel
theorem dX3_install_53 : decode cX3_install 53 = .ok (.bipush 16, 2) := by decide +kernel
theorem dX3_install_55 : decode cX3_install 55 = .ok (.invokestatic 89, 3) := by decide +kernel
theorem dX3_install_58 : decode cX3_install 58 = .ok (.ifCond .eq 13, 3) := by decide +kernel
theorem dX3_install_61 : decode cX3_install 61 = .ok (.iload 7, 2) := by decide +kernel
theorem dX3_install_63 : decode cX3_install 63 = .ok (.iconst 0, 1) := by decide +kernel
theorem dX3_install_64 : decode cX3_install 64 = .ok (.iconst 2, 1) := by decide +kernel
theorem dX3_install_65 : decode cX3_install 65 = .ok (.invokestatic 89, 3) := by decide +kernel
theorem dX3_install_68 : decode cX3_install 68 = .ok (.ifCond .ne 9, 3) := by decide +kernel
theorem dX3_install_71 : decode cX3_install 71 = .ok (.aload_n 0, 1) := by decide +kernel
theorem dX3_install_72 : decode cX3_install 72 = .ok (.iconst 1, 1) := by decide +kernel
theorem dX3_install_73 : decode cX3_install 73 = .ok (.invokevirtual 93, 3) := by decide +kernel
theorem dX3_install_76 : decode cX3_install 76 = .ok (.ireturn, 1) := by decide +kernel
theorem dX3_install_77 : decode cX3_install 77 = .ok (.aload_n 0, 1) := by decide +kernel
theorem dX3_install_78 : decode cX3_install 78 = .ok (.getfield 97, 3) := by decide +kernel
theorem dX3_install_81 : decode cX3_install 81 = .ok (.bipush 6, 2) := by decide +kernel
theorem dX3_install_83 : decode cX3_install 83 = .ok (.if_icmp .eq 12, 3) := by decide +kernel
theorem dX3_install_86 : decode cX3_install 86 = .ok (.aload_n 0, 1) := by decide +kernel
theorem dX3_install_87 : decode cX3_install 87 = .ok (.getfield 100, 3) := by decide +kernel
theorem dX3_install_90 : decode cX3_install 90 = .ok (.bipush 12, 2) := by decide +kernel
theorem dX3_install_92 : decode cX3_install 92 = .ok (.if_icmp .ne 9, 3) := by decide +kernel
theorem dX3_install_95 : decode cX3_install 95 = .ok (.aload_n 0, 1) := by decide +kernel
theorem dX3_install_96 : decode cX3_install 96 = .ok (.iconst 2, 1) := by decide +kernel
theorem dX3_install_97 : decode cX3_install 97 = .ok (.invokevirtual 93, 3) := by decide +kernel
theorem dX3_install_100 : decode cX3_install 100 = .ok (.ireturn, 1) := by decide +kernel
theorem dX3_install_101 : decode cX3_install 101 = .ok (.aload_n 0, 1) := by decide +kernel
theorem dX3_install_102 : decode cX3_install 102 = .ok (.iconst 0, 1) := by decide +kernel
theorem dX3_install_103 : decode cX3_install 103 = .ok (.putfield 78, 3) := by decide +kernel
theorem dX3_install_106 : decode cX3_install 106 = .ok (.aload_n 0, 1) := by decide +kernel
theorem dX3_install_107 : decode cX3_install 107 = .ok (.getfield 7, 3) := by decide +kernel
theorem dX3_install_110 : decode cX3_install 110 = .ok (.aload_n 0, 1) := by decide +kernel
theorem dX3_install_111 : decode cX3_install 111 = .ok (.getfield 100, 3) := by decide +kernel
theorem dX3_install_114 : decode cX3_install 114 = .ok (.iload_n 1, 1) := by decide +kernel
theorem dX3_install_115 : decode cX3_install 115 = .ok (.iastore, 1) := by decide +kernel
theorem dX3_install_116 : decode cX3_install 116 = .ok (.aload_n 0, 1) := by decide +kernel
theorem dX3_install_117 : decode cX3_install 117 = .ok (.getfield 13, 3) := by decide +kernel
theorem dX3_install_120 : decode cX3_install 120 = .ok (.aload_n 0, 1) := by decide +kernel
theorem dX3_install_121 : decode cX3_install 121 = .ok (.getfield 100, 3) := by decide +kernel
theorem dX3_install_124 : decode cX3_install 124 = .ok (.iload_n 2, 1) := by decide +kernel
theorem dX3_install_125 : decode cX3_install 125 = .ok (.iastore, 1) := by decide +kernel
theorem dX3_install_126 : decode cX3_install 126 = .ok (.aload_n 0, 1) := by decide +kernel
theorem dX3_install_127 : decode cX3_install 127 = .ok (.getfield 16, 3) := by decide +kernel
theorem dX3_install_130 : decode cX3_install 130 = .ok (.aload_n 0, 1) := by decide +kernel
theorem dX3_install_131 : decode cX3_install 131 = .ok (.getfield 100, 3) := by decide +kernel
theorem dX3_install_134 : decode cX3_install 134 = .ok (.iload_n 3, 1) := by decide +kernel
theorem dX3_install_135 : decode cX3_install 135 = .ok (.iastore, 1) := by decide +kernel
theorem dX3_install_136 : decode cX3_install 136 = .ok (.aload_n 0, 1) := by decide +kernel
theorem dX3_install_137 : decode cX3_install 137 = .ok (.getfield 19, 3) := by decide +kernel
theorem dX3_install_140 : decode cX3_install 140 = .ok (.aload_n 0, 1) := by decide +kernel
theorem dX3_install_141 : decode cX3_install 141 = .ok (.getfield 100, 3) := by decide +kernel
theorem dX3_install_144 : decode cX3_install 144 = .ok (.iload 4, 2) := by decide +kernel
theorem dX3_install_146 : decode cX3_install 146 = .ok (.iastore, 1) := by decide +kernel
theorem dX3_install_147 : decode cX3_install 147 = .ok (.aload_n 0, 1) := by decide +kernel
theorem dX3_install_148 : decode cX3_install 148 = .ok (.getfield 22, 3) := by decide +kernel
theorem dX3_install_151 : decode cX3_install 151 = .ok (.aload_n 0, 1) := by decide +kernel
theorem dX3_install_152 : decode cX3_install 152 = .ok (.getfield 100, 3) := by decide +kernel
theorem dX3_install_155 : decode cX3_install 155 = .ok (.iload 5, 2) := by decide +kernel
theorem dX3_install_157 : decode cX3_install 157 = .ok (.iastore, 1) := by decide +kernel
theorem dX3_install_158 : decode cX3_install 158 = .ok (.aload_n 0, 1) := by decide +kernel
theorem dX3_install_159 : decode cX3_install 159 = .ok (.getfield 25, 3) := by decide +kernel
theorem dX3_install_162 : decode cX3_install 162 = .ok (.aload_n 0, 1) := by decide +kernel
theorem dX3_install_163 : decode cX3_install 163 = .ok (.getfield 100, 3) := by decide +kernel
theorem dX3_install_166 : decode cX3_install 166 = .ok (.iload 6, 2) := by decide +kernel
theorem dX3_install_168 : decode cX3_install 168 = .ok (.iastore, 1) := by decide +kernel
theorem dX3_install_169 : decode cX3_install 169 = .ok (.aload_n 0, 1) := by decide +kernel
theorem dX3_install_170 : decode cX3_install 170 = .ok (.getfield 28, 3) := by decide +kernel
theorem dX3_install_173 : decode cX3_install 173 = .ok (.aload_n 0, 1) := by decide +kernel
theorem dX3_install_174 : decode cX3_install 174 = .ok (.getfield 100, 3) := by decide +kernel
theorem dX3_install_177 : decode cX3_install 177 = .ok (.iload 7, 2) := by decide +kernel
theorem dX3_install_179 : decode cX3_install 179 = .ok (.iastore, 1) := by decide +kernel
theorem dX3_install_180 : decode cX3_install 180 = .ok (.aload_n 0, 1) := by decide +kernel
theorem dX3_install_181 : decode cX3_install 181 = .ok (.dup, 1) := by decide +kernel
theorem dX3_install_182 : decode cX3_install 182 = .ok (.getfield 97, 3) := by decide +kernel
theorem dX3_install_185 : decode cX3_install 185 = .ok (.iconst 1, 1) := by decide +kernel
theorem dX3_install_186 : decode cX3_install 186 = .ok (.iadd, 1) := by decide +kernel
theorem dX3_install_187 : decode cX3_install 187 = .ok (.putfield 97, 3) := by decide +kernel
theorem dX3_install_190 : decode cX3_install 190 = .ok (.aload_n 0, 1) := by decide +kernel
theorem dX3_install_191 : decode cX3_install 191 = .ok (.dup, 1) := by decide +kernel
theorem dX3_install_192 : decode cX3_install 192 = .ok (.getfield 100, 3) := by decide +kernel
theorem dX3_install_195 : decode cX3_install 195 = .ok (.dup_x1, 1) := by decide +kernel
theorem dX3_install_196 : decode cX3_install 196 = .ok (.iconst 1, 1) := by decide +kernel
theorem dX3_install_197 : decode cX3_install 197 = .ok (.iadd, 1) := by decide +kernel
theorem dX3_install_198 : decode cX3_install 198 = .ok (.putfield 100, 3) := by decide +kernel
theorem dX3_install_201 : decode cX3_install 201 = .ok (.ireturn, 1) := by decide +kernel
theorem dX3_retire_0 : decode cX3_retire 0 = .ok (.aload_n 0, 1) := by decide +kernel
theorem dX3_retire_1 : decode cX3_retire 1 = .ok (.iload_n 1, 1) := by decide +kernel
theorem dX3_retire_2 : decode cX3_retire 2 = .ok (.invokevirtual 103, 3) := by decide +kernel
theorem dX3_retire_5 : decode cX3_retire 5 = .ok (.ifCond .eq 5, 3) := by decide +kernel
theorem dX3_retire_8 : decode cX3_retire 8 = .ok (.iconst 0, 1) := by decide +kernel
theorem dX3_retire_9 : decode cX3_retire 9 = .ok (.ireturn, 1) := by decide +kernel
theorem dX3_retire_10 : decode cX3_retire 10 = .ok (.aload_n 0, 1) := by decide +kernel
theorem dX3_retire_11 : decode cX3_retire 11 = .ok (.getfield 31, 3) := by decide +kernel
theorem dX3_retire_14 : decode cX3_retire 14 = .ok (.iload_n 1, 1) := by decide +kernel
theorem dX3_retire_15 : decode cX3_retire 15 = .ok (.iconst 1, 1) := by decide +kernel
theorem dX3_retire_16 : decode cX3_retire 16 = .ok (.bastore, 1) := by decide +kernel
theorem dX3_retire_17 : decode cX3_retire 17 = .ok (.aload_n 0, 1) := by decide +kernel
theorem dX3_retire_18 : decode cX3_retire 18 = .ok (.dup, 1) := by decide +kernel
theorem dX3_retire_19 : decode cX3_retire 19 = .ok (.getfield 97, 3) := by decide +kernel
theorem dX3_retire_22 : decode cX3_retire 22 = .ok (.iconst 1, 1) := by decide +kernel
theorem dX3_retire_23 : decode cX3_retire 23 = .ok (.isub, 1) := by decide +kernel
theorem dX3_retire_24 : decode cX3_retire 24 = .ok (.dup_x1, 1) := by decide +kernel
theorem dX3_retire_25 : decode cX3_retire 25 = .ok (.putfield 97, 3) := by decide +kernel
theorem dX3_retire_28 : decode cX3_retire 28 = .ok (.ireturn, 1) := by decide +kernel
theorem dX3_moveTo_0 : decode cX3_moveTo 0 = .ok (.aload_n 0, 1) := by decide +kernel
theorem dX3_moveTo_1 : decode cX3_moveTo 1 = .ok (.iload_n 1, 1) := by decide +kernel
theorem dX3_moveTo_2 : decode cX3_moveTo 2 = .ok (.invokevirtual 103, 3) := by decide +kernel
theorem dX3_moveTo_5 : decode cX3_moveTo 5 = .ok (.ifCond .eq 5, 3) := by decide +kernel
theorem dX3_moveTo_8 : decode cX3_moveTo 8 = .ok (.iconst 0, 1) := by decide +kernel
theorem dX3_moveTo_9 : decode cX3_moveTo 9 = .ok (.ireturn, 1) := by decide +kernel
theorem dX3_moveTo_10 : decode cX3_moveTo 10 = .ok (.iload_n 2, 1) := by decide +kernel
theorem dX3_moveTo_11 : decode cX3_moveTo 11 = .ok (.iconst 0, 1) := by decide +kernel
theorem dX3_moveTo_12 : decode cX3_moveTo 12 = .ok (.bipush 9, 2) := by decide +kernel
theorem dX3_moveTo_14 : decode cX3_moveTo 14 = .ok (.invokestatic 89, 3) := by decide +kernel
theorem dX3_moveTo_17 : decode cX3_moveTo 17 = .ok (.ifCond .eq 13, 3) := by decide +kernel
theorem dX3_moveTo_20 : decode cX3_moveTo 20 = .ok (.iload_n 3, 1) := by decide +kernel
theorem dX3_moveTo_21 : decode cX3_moveTo 21 = .ok (.iconst 0, 1) := by decide +kernel
theorem dX3_moveTo_22 : decode cX3_moveTo 22 = .ok (.bipush 9, 2) := by decide +kernel
theorem dX3_moveTo_24 : decode cX3_moveTo 24 = .ok (.invokestatic 89, 3) := by decide +kernel
theorem dX3_moveTo_27 : decode cX3_moveTo 27 = .ok (.ifCond .ne 9, 3) := by decide +kernel
theorem dX3_moveTo_30 : decode cX3_moveTo 30 = .ok (.aload_n 0, 1) := by decide +kernel
theorem dX3_moveTo_31 : decode cX3_moveTo 31 = .ok (.iconst 2, 1) := by decide +kernel
theorem dX3_moveTo_32 : decode cX3_moveTo 32 = .ok (.invokevirtual 93, 3) := by decide +kernel
theorem dX3_moveTo_35 : decode cX3_moveTo 35 = .ok (.ireturn, 1) := by decide +kernel
theorem dX3_moveTo_36 : decode cX3_moveTo 36 = .ok (.aload_n 0, 1) := by decide +kernel
theorem dX3_moveTo_37 : decode cX3_moveTo 37 = .ok (.getfield 19, 3) := by decide +kernel
theorem dX3_moveTo_40 : decode cX3_moveTo 40 = .ok (.iload_n 1, 1) := by decide +kernel
theorem dX3_moveTo_41 : decode cX3_moveTo 41 = .ok (.iaload, 1) := by decide +kernel
theorem dX3_moveTo_42 : decode cX3_moveTo 42 = .ok (.istore 4, 2) := by decide +kernel
theorem dX3_moveTo_44 : decode cX3_moveTo 44 = .ok (.aload_n 0, 1) := by decide +kernel
theorem dX3_moveTo_45 : decode cX3_moveTo 45 = .ok (.getfield 19, 3) := by decide +kernel
theorem dX3_moveTo_48 : decode cX3_moveTo 48 = .ok (.iload_n 1, 1) := by decide +kernel
theorem dX3_moveTo_49 : decode cX3_moveTo 49 = .ok (.iload_n 2, 1) := by decide +kernel
theorem dX3_moveTo_50 : decode cX3_moveTo 50 = .ok (.iastore, 1) := by decide +kernel
theorem dX3_moveTo_51 : decode cX3_moveTo 51 = .ok (.aload_n 0, 1) := by decide +kernel
theorem dX3_moveTo_52 : decode cX3_moveTo 52 = .ok (.getfield 22, 3) := by decide +kernel
theorem dX3_moveTo_55 : decode cX3_moveTo 55 = .ok (.iload_n 1, 1) := by decide +kernel
theorem dX3_moveTo_56 : decode cX3_moveTo 56 = .ok (.iload_n 3, 1) := by decide +kernel
theorem dX3_moveTo_57 : decode cX3_moveTo 57 = .ok (.iastore, 1) := by decide +kernel
theorem dX3_moveTo_58 : decode cX3_moveTo 58 = .ok (.iload 4, 2) := by decide +kernel
theorem dX3_moveTo_60 : decode cX3_moveTo 60 = .ok (.ireturn, 1) := by decide +kernel
theorem dX3_setVersion_0 : decode cX3_setVersion 0 = .ok (.aload_n 0, 1) := by decide +kernel
theorem dX3_setVersion_1 : decode cX3_setVersion 1 = .ok (.iload_n 1, 1) := by decide +kernel
theorem dX3_setVersion_2 : decode cX3_setVersion 2 = .ok (.invokevirtual 103, 3) := by decide +kernel
theorem dX3_setVersion_5 : decode cX3_setVersion 5 = .ok (.ifCond .eq 5, 3) := by decide +kernel
theorem dX3_setVersion_8 : decode cX3_setVersion 8 = .ok (.iconst 0, 1) := by decide +kernel
theorem dX3_setVersion_9 : decode cX3_setVersion 9 = .ok (.ireturn, 1) := by decide +kernel
theorem dX3_setVersion_10 : decode cX3_setVersion 10 = .ok (.iload_n 2, 1) := by decide +kernel
theorem dX3_setVersion_11 : decode cX3_setVersion 11 = .ok (.iconst 1, 1) := by decide +kernel
theorem dX3_setVersion_12 : decode cX3_setVersion 12 = .ok (.bipush 9, 2) := by decide +kernel
theorem dX3_setVersion_14 : decode cX3_setVersion 14 = .ok (.invokestatic 89, 3) := by decide +kernel
theorem dX3_setVersion_17 : decode cX3_setVersion 17 = .ok (.ifCond .eq 12, 3) := by decide +kernel
theorem dX3_setVersion_20 : decode cX3_setVersion 20 = .ok (.iload_n 3, 1) := by decide +kernel
theorem dX3_setVersion_21 : decode cX3_setVersion 21 = .ok (.iconst 1, 1) := by decide +kernel
theorem dX3_setVersion_22 : decode cX3_setVersion 22 = .ok (.iconst 3, 1) := by decide +kernel
theorem dX3_setVersion_23 : decode cX3_setVersion 23 = .ok (.invokestatic 89, 3) := by decide +kernel
theorem dX3_setVersion_26 : decode cX3_setVersion 26 = .ok (.ifCond .ne 9, 3) := by decide +kernel
theorem dX3_setVersion_29 : decode cX3_setVersion 29 = .ok (.aload_n 0, 1) := by decide +kernel
theorem dX3_setVersion_30 : decode cX3_setVersion 30 = .ok (.iconst 2, 1) := by decide +kernel
theorem dX3_setVersion_31 : decode cX3_setVersion 31 = .ok (.invokevirtual 93, 3) := by decide +kernel
theorem dX3_setVersion_34 : decode cX3_setVersion 34 = .ok (.ireturn, 1) := by decide +kernel
theorem dX3_setVersion_35 : decode cX3_setVersion 35 = .ok (.aload_n 0, 1) := by decide +kernel
theorem dX3_setVersion_36 : decode cX3_setVersion 36 = .ok (.getfield 13, 3) := by decide +kernel
theorem dX3_setVersion_39 : decode cX3_setVersion 39 = .ok (.iload_n 1, 1) := by decide +kernel
theorem dX3_setVersion_40 : decode cX3_setVersion 40 = .ok (.iaload, 1) := by decide +kernel
theorem dX3_setVersion_41 : decode cX3_setVersion 41 = .ok (.istore 4, 2) := by decide +kernel
theorem dX3_setVersion_43 : decode cX3_setVersion 43 = .ok (.aload_n 0, 1) := by decide +kernel
theorem dX3_setVersion_44 : decode cX3_setVersion 44 = .ok (.getfield 13, 3) := by decide +kernel
theorem dX3_setVersion_47 : decode cX3_setVersion 47 = .ok (.iload_n 1, 1) := by decide +kernel
theorem dX3_setVersion_48 : decode cX3_setVersion 48 = .ok (.iload_n 2, 1) := by decide +kernel
theorem dX3_setVersion_49 : decode cX3_setVersion 49 = .ok (.iastore, 1) := by decide +kernel
theorem dX3_setVersion_50 : decode cX3_setVersion 50 = .ok (.aload_n 0, 1) := by decide +kernel
theorem dX3_setVersion_51 : decode cX3_setVersion 51 = .ok (.getfield 16, 3) := by decide +kernel
theorem dX3_setVersion_54 : decode cX3_setVersion 54 = .ok (.iload_n 1, 1) := by decide +kernel
theorem dX3_setVersion_55 : decode cX3_setVersion 55 = .ok (.iload_n 3, 1) := by decide +kernel
theorem dX3_setVersion_56 : decode cX3_setVersion 56 = .ok (.iastore, 1) := by decide +kernel
theorem dX3_setVersion_57 : decode cX3_setVersion 57 = .ok (.iload 4, 2) := by decide +kernel
theorem dX3_setVersion_59 : decode cX3_setVersion 59 = .ok (.ireturn, 1) := by decide +kernel
theorem dX3_setPool_0 : decode cX3_setPool 0 = .ok (.aload_n 0, 1) := by decide +kernel
theorem dX3_setPool_1 : decode cX3_setPool 1 = .ok (.iload_n 1, 1) := by decide +kernel
theorem dX3_setPool_2 : decode cX3_setPool 2 = .ok (.invokevirtual 103, 3) := by decide +kernel
theorem dX3_setPool_5 : decode cX3_setPool 5 = .ok (.ifCond .eq 5, 3) := by decide +kernel
theorem dX3_setPool_8 : decode cX3_setPool 8 = .ok (.iconst 0, 1) := by decide +kernel
theorem dX3_setPool_9 : decode cX3_setPool 9 = .ok (.ireturn, 1) := by decide +kernel
theorem dX3_setPool_10 : decode cX3_setPool 10 = .ok (.iload_n 2, 1) := by decide +kernel
theorem dX3_setPool_11 : decode cX3_setPool 11 = .ok (.iconst 0, 1) := by decide +kernel
theorem dX3_setPool_12 : decode cX3_setPool 12 = .ok (.iconst 2, 1) := by decide +kernel
theorem dX3_setPool_13 : decode cX3_setPool 13 = .ok (.invokestatic 89, 3) := by decide +kernel
theorem dX3_setPool_16 : decode cX3_setPool 16 = .ok (.ifCond .ne 9, 3) := by decide +kernel
theorem dX3_setPool_19 : decode cX3_setPool 19 = .ok (.aload_n 0, 1) := by decide +kernel
theorem dX3_setPool_20 : decode cX3_setPool 20 = .ok (.iconst 2, 1) := by decide +kernel
theorem dX3_setPool_21 : decode cX3_setPool 21 = .ok (.invokevirtual 93, 3) := by decide +kernel
theorem dX3_setPool_24 : decode cX3_setPool 24 = .ok (.ireturn, 1) := by decide +kernel
theorem dX3_setPool_25 : decode cX3_setPool 25 = .ok (.aload_n 0, 1) := by decide +kernel
theorem dX3_setPool_26 : decode cX3_setPool 26 = .ok (.getfield 28, 3) := by decide +kernel
theorem dX3_setPool_29 : decode cX3_setPool 29 = .ok (.iload_n 1, 1) := by decide +kernel
theorem dX3_setPool_30 : decode cX3_setPool 30 = .ok (.iaload, 1) := by decide +kernel
theorem dX3_setPool_31 : decode cX3_setPool 31 = .ok (.istore_n 3, 1) := by decide +kernel
theorem dX3_setPool_32 : decode cX3_setPool 32 = .ok (.aload_n 0, 1) := by decide +kernel
theorem dX3_setPool_33 : decode cX3_setPool 33 = .ok (.getfield 28, 3) := by decide +kernel
theorem dX3_setPool_36 : decode cX3_setPool 36 = .ok (.iload_n 1, 1) := by decide +kernel
theorem dX3_setPool_37 : decode cX3_setPool 37 = .ok (.iload_n 2, 1) := by decide +kernel
theorem dX3_setPool_38 : decode cX3_setPool 38 = .ok (.iastore, 1) := by decide +kernel
theorem dX3_setPool_39 : decode cX3_setPool 39 = .ok (.iload_n 3, 1) := by decide +kernel
theorem dX3_setPool_40 : decode cX3_setPool 40 = .ok (.ireturn, 1) := by decide +kernel
theorem dX3_installs_0 : decode cX3_installs 0 = .ok (.aload_n 0, 1) := by decide +kernel
theorem dX3_installs_1 : decode cX3_installs 1 = .ok (.getfield 97, 3) := by decide +kernel
theorem dX3_installs_4 : decode cX3_installs 4 = .ok (.ireturn, 1) := by decide +kernel
theorem dX3_isThere_0 : decode cX3_isThere 0 = .ok (.iload_n 1, 1) := by decide +kernel
theorem dX3_isThere_1 : decode cX3_isThere 1 = .ok (.iconst 0, 1) := by decide +kernel
theorem dX3_isThere_2 : decode cX3_isThere 2 = .ok (.aload_n 0, 1) := by decide +kernel
theorem dX3_isThere_3 : decode cX3_isThere 3 = .ok (.getfield 100, 3) := by decide +kernel
theorem dX3_isThere_6 : decode cX3_isThere 6 = .ok (.iconst 1, 1) := by decide +kernel
theorem dX3_isThere_7 : decode cX3_isThere 7 = .ok (.isub, 1) := by decide +kernel
theorem dX3_isThere_8 : decode cX3_isThere 8 = .ok (.invokestatic 89, 3) := by decide +kernel
theorem dX3_isThere_11 : decode cX3_isThere 11 = .ok (.ifCond .eq 16, 3) := by decide +kernel
theorem dX3_isThere_14 : decode cX3_isThere 14 = .ok (.aload_n 0, 1) := by decide +kernel
theorem dX3_isThere_15 : decode cX3_isThere 15 = .ok (.getfield 31, 3) := by decide +kernel
theorem dX3_isThere_18 : decode cX3_isThere 18 = .ok (.iload_n 1, 1) := by decide +kernel
theorem dX3_isThere_19 : decode cX3_isThere 19 = .ok (.baload, 1) := by decide +kernel
theorem dX3_isThere_20 : decode cX3_isThere 20 = .ok (.ifCond .ne 7, 3) := by decide +kernel
theorem dX3_isThere_23 : decode cX3_isThere 23 = .ok (.iconst 1, 1) := by decide +kernel
theorem dX3_isThere_24 : decode cX3_isThere 24 = .ok (.goto 4, 3) := by decide +kernel
theorem dX3_isThere_27 : decode cX3_isThere 27 = .ok (.iconst 0, 1) := by decide +kernel
theorem dX3_isThere_28 : decode cX3_isThere 28 = .ok (.ireturn, 1) := by decide +kernel
theorem dX3_entitle_0 : decode cX3_entitle 0 = .ok (.iload_n 1, 1) := by decide +kernel
theorem dX3_entitle_1 : decode cX3_entitle 1 = .ok (.iconst 1, 1) := by decide +kernel
theorem dX3_entitle_2 : decode cX3_entitle 2 = .ok (.bipush 15, 2) := by decide +kernel
theorem dX3_entitle_4 : decode cX3_entitle 4 = .ok (.invokestatic 89, 3) := by decide +kernel
theorem dX3_entitle_7 : decode cX3_entitle 7 = .ok (.ifCond .eq 64, 3) := by decide +kernel
theorem dX3_entitle_10 : decode cX3_entitle 10 = .ok (.iload_n 2, 1) := by decide +kernel
theorem dX3_entitle_11 : decode cX3_entitle 11 = .ok (.iconst 1, 1) := by decide +kernel
theorem dX3_entitle_12 : decode cX3_entitle 12 = .ok (.bipush 9, 2) := by decide +kernel
theorem dX3_entitle_14 : decode cX3_entitle 14 = .ok (.invokestatic 89, 3) := by decide +kernel
theorem dX3_entitle_17 : decode cX3_entitle 17 = .ok (.ifCond .eq 54, 3) := by decide +kernel
theorem dX3_entitle_20 : decode cX3_entitle 20 = .ok (.iload_n 3, 1) := by decide +kernel
theorem dX3_entitle_21 : decode cX3_entitle 21 = .ok (.iconst 1, 1) := by decide +kernel
theorem dX3_entitle_22 : decode cX3_entitle 22 = .ok (.iconst 3, 1) := by decide +kernel
theorem dX3_entitle_23 : decode cX3_entitle 23 = .ok (.invokestatic 89, 3) := by decide +kernel
theorem dX3_entitle_26 : decode cX3_entitle 26 = .ok (.ifCond .eq 45, 3) := by decide +kernel
theorem dX3_entitle_29 : decode cX3_entitle 29 = .ok (.iload 4, 2) := by decide +kernel
theorem dX3_entitle_31 : decode cX3_entitle 31 = .ok (.bipush 100, 2) := by decide +kernel
theorem dX3_entitle_33 : decode cX3_entitle 33 = .ok (.if_icmp .eq 17, 3) := by decide +kernel
theorem dX3_entitle_36 : decode cX3_entitle 36 = .ok (.iload 4, 2) := by decide +kernel
theorem dX3_entitle_38 : decode cX3_entitle 38 = .ok (.bipush 117, 2) := by decide +kernel
theorem dX3_entitle_40 : decode cX3_entitle 40 = .ok (.if_icmp .eq 10, 3) := by decide +kernel
theorem dX3_entitle_43 : decode cX3_entitle 43 = .ok (.iload 4, 2) := by decide +kernel
theorem dX3_entitle_45 : decode cX3_entitle 45 = .ok (.bipush 99, 2) := by decide +kernel
theorem dX3_entitle_47 : decode cX3_entitle 47 = .ok (.if_icmp .ne 24, 3) := by decide +kernel
theorem dX3_entitle_50 : decode cX3_entitle 50 = .ok (.iload 5, 2) := by decide +kernel
theorem dX3_entitle_52 : decode cX3_entitle 52 = .ok (.iconst 0, 1) := by decide +kernel
theorem dX3_entitle_53 : decode cX3_entitle 53 = .ok (.bipush 99, 2) := by decide +kernel
theorem dX3_entitle_55 : decode cX3_entitle 55 = .ok (.invokestatic 89, 3) := by decide +kernel
theorem dX3_entitle_58 : decode cX3_entitle 58 = .ok (.ifCond .eq 13, 3) := by decide +kernel
theorem dX3_entitle_61 : decode cX3_entitle 61 = .ok (.iload 6, 2) := by decide +kernel
theorem dX3_entitle_63 : decode cX3_entitle 63 = .ok (.iconst (-1), 1) := by decide +kernel
theorem dX3_entitle_64 : decode cX3_entitle 64 = .ok (.iconst 2, 1) := by decide +kernel
theorem dX3_entitle_65 : decode cX3_entitle 65 = .ok (.invokestatic 89, 3) := by decide +kernel
theorem dX3_entitle_68 : decode cX3_entitle 68 = .ok (.ifCond .ne 9, 3) := by decide +kernel
theorem dX3_entitle_71 : decode cX3_entitle 71 = .ok (.aload_n 0, 1) := by decide +kernel
theorem dX3_entitle_72 : decode cX3_entitle 72 = .ok (.iconst 1, 1) := by decide +kernel
theorem dX3_entitle_73 : decode cX3_entitle 73 = .ok (.invokevirtual 93, 3) := by decide +kernel
theorem dX3_entitle_76 : decode cX3_entitle 76 = .ok (.ireturn, 1) := by decide +kernel
theorem dX3_entitle_77 : decode cX3_entitle 77 = .ok (.aload_n 0, 1) := by decide +kernel
theorem dX3_entitle_78 : decode cX3_entitle 78 = .ok (.getfield 86, 3) := by decide +kernel
theorem dX3_entitle_81 : decode cX3_entitle 81 = .ok (.iconst 5, 1) := by decide +kernel
theorem dX3_entitle_82 : decode cX3_entitle 82 = .ok (.if_icmp .ne 9, 3) := by decide +kernel
theorem dX3_entitle_85 : decode cX3_entitle 85 = .ok (.aload_n 0, 1) := by decide +kernel
theorem dX3_entitle_86 : decode cX3_entitle 86 = .ok (.iconst 2, 1) := by decide +kernel
theorem dX3_entitle_87 : decode cX3_entitle 87 = .ok (.invokevirtual 93, 3) := by decide +kernel
theorem dX3_entitle_90 : decode cX3_entitle 90 = .ok (.ireturn, 1) := by decide +kernel
theorem dX3_entitle_91 : decode cX3_entitle 91 = .ok (.aload_n 0, 1) := by decide +kernel
theorem dX3_entitle_92 : decode cX3_entitle 92 = .ok (.iconst 0, 1) := by decide +kernel
theorem dX3_entitle_93 : decode cX3_entitle 93 = .ok (.putfield 78, 3) := by decide +kernel
theorem dX3_entitle_96 : decode cX3_entitle 96 = .ok (.aload_n 0, 1) := by decide +kernel
theorem dX3_entitle_97 : decode cX3_entitle 97 = .ok (.getfield 44, 3) := by decide +kernel
theorem dX3_entitle_100 : decode cX3_entitle 100 = .ok (.aload_n 0, 1) := by decide +kernel
theorem dX3_entitle_101 : decode cX3_entitle 101 = .ok (.getfield 86, 3) := by decide +kernel
theorem dX3_entitle_104 : decode cX3_entitle 104 = .ok (.iload_n 1, 1) := by decide +kernel
theorem dX3_entitle_105 : decode cX3_entitle 105 = .ok (.iastore, 1) := by decide +kernel
theorem dX3_entitle_106 : decode cX3_entitle 106 = .ok (.aload_n 0, 1) := by decide +kernel
theorem dX3_entitle_107 : decode cX3_entitle 107 = .ok (.getfield 47, 3) := by decide +kernel
theorem dX3_entitle_110 : decode cX3_entitle 110 = .ok (.aload_n 0, 1) := by decide +kernel
theorem dX3_entitle_111 : decode cX3_entitle 111 = .ok (.getfield 86, 3) := by decide +kernel
theorem dX3_entitle_114 : decode cX3_entitle 114 = .ok (.iload_n 2, 1) := by decide +kernel
theorem dX3_entitle_115 : decode cX3_entitle 115 = .ok (.iastore, 1) := by decide +kernel
theorem dX3_entitle_116 : decode cX3_entitle 116 = .ok (.aload_n 0, 1) := by decide +kernel
theorem dX3_entitle_117 : decode cX3_entitle 117 = .ok (.getfield 50, 3) := by decide +kernel
theorem dX3_entitle_120 : decode cX3_entitle 120 = .ok (.aload_n 0, 1) := by decide +kernel
theorem dX3_entitle_121 : decode cX3_entitle 121 = .ok (.getfield 86, 3) := by decide +kernel
theorem dX3_entitle_124 : decode cX3_entitle 124 = .ok (.iload_n 3, 1) := by decide +kernel
theorem dX3_entitle_125 : decode cX3_entitle 125 = .ok (.iastore, 1) := by decide +kernel
theorem dX3_entitle_126 : decode cX3_entitle 126 = .ok (.aload_n 0, 1) := by decide +kernel
theorem dX3_entitle_127 : decode cX3_entitle 127 = .ok (.getfield 65, 3) := by decide +kernel
theorem dX3_entitle_130 : decode cX3_entitle 130 = .ok (.aload_n 0, 1) := by decide +kernel
theorem dX3_entitle_131 : decode cX3_entitle 131 = .ok (.getfield 86, 3) := by decide +kernel
theorem dX3_entitle_134 : decode cX3_entitle 134 = .ok (.iload 4, 2) := by decide +kernel
theorem dX3_entitle_136 : decode cX3_entitle 136 = .ok (.castore, 1) := by decide +kernel
theorem dX3_entitle_137 : decode cX3_entitle 137 = .ok (.aload_n 0, 1) := by decide +kernel
theorem dX3_entitle_138 : decode cX3_entitle 138 = .ok (.getfield 53, 3) := by decide +kernel
theorem dX3_entitle_141 : decode cX3_entitle 141 = .ok (.aload_n 0, 1) := by decide +kernel
theorem dX3_entitle_142 : decode cX3_entitle 142 = .ok (.getfield 86, 3) := by decide +kernel
theorem dX3_entitle_145 : decode cX3_entitle 145 = .ok (.iload 5, 2) := by decide +kernel
theorem dX3_entitle_147 : decode cX3_entitle 147 = .ok (.iastore, 1) := by decide +kernel
theorem dX3_entitle_148 : decode cX3_entitle 148 = .ok (.aload_n 0, 1) := by decide +kernel
theorem dX3_entitle_149 : decode cX3_entitle 149 = .ok (.getfield 56, 3) := by decide +kernel
theorem dX3_entitle_152 : decode cX3_entitle 152 = .ok (.aload_n 0, 1) := by decide +kernel
theorem dX3_entitle_153 : decode cX3_entitle 153 = .ok (.getfield 86, 3) := by decide +kernel
theorem dX3_entitle_156 : decode cX3_entitle 156 = .ok (.iload 6, 2) := by decide +kernel
theorem dX3_entitle_158 : decode cX3_entitle 158 = .ok (.iastore, 1) := by decide +kernel
theorem dX3_entitle_159 : decode cX3_entitle 159 = .ok (.aload_n 0, 1) := by decide +kernel
theorem dX3_entitle_160 : decode cX3_entitle 160 = .ok (.getfield 59, 3) := by decide +kernel
theorem dX3_entitle_163 : decode cX3_entitle 163 = .ok (.aload_n 0, 1) := by decide +kernel
theorem dX3_entitle_164 : decode cX3_entitle 164 = .ok (.getfield 86, 3) := by decide +kernel
theorem dX3_entitle_167 : decode cX3_entitle 167 = .ok (.iconst 1, 1) := by decide +kernel
theorem dX3_entitle_168 : decode cX3_entitle 168 = .ok (.iastore, 1) := by decide +kernel
theorem dX3_entitle_169 : decode cX3_entitle 169 = .ok (.aload_n 0, 1) := by decide +kernel
theorem dX3_entitle_170 : decode cX3_entitle 170 = .ok (.getfield 62, 3) := by decide +kernel
theorem dX3_entitle_173 : decode cX3_entitle 173 = .ok (.aload_n 0, 1) := by decide +kernel
theorem dX3_entitle_174 : decode cX3_entitle 174 = .ok (.getfield 86, 3) := by decide +kernel
theorem dX3_entitle_177 : decode cX3_entitle 177 = .ok (.bipush 10, 2) := by decide +kernel
theorem dX3_entitle_179 : decode cX3_entitle 179 = .ok (.iastore, 1) := by decide +kernel
theorem dX3_entitle_180 : decode cX3_entitle 180 = .ok (.aload_n 0, 1) := by decide +kernel
theorem dX3_entitle_181 : decode cX3_entitle 181 = .ok (.dup, 1) := by decide +kernel
theorem dX3_entitle_182 : decode cX3_entitle 182 = .ok (.getfield 86, 3) := by decide +kernel
theorem dX3_entitle_185 : decode cX3_entitle 185 = .ok (.dup_x1, 1) := by decide +kernel
theorem dX3_entitle_186 : decode cX3_entitle 186 = .ok (.iconst 1, 1) := by decide +kernel
theorem dX3_entitle_187 : decode cX3_entitle 187 = .ok (.iadd, 1) := by decide +kernel
theorem dX3_entitle_188 : decode cX3_entitle 188 = .ok (.putfield 86, 3) := by decide +kernel
theorem dX3_entitle_191 : decode cX3_entitle 191 = .ok (.ireturn, 1) := by decide +kernel
theorem dX3_setRights_0 : decode cX3_setRights 0 = .ok (.aload_n 0, 1) := by decide +kernel
theorem dX3_setRights_1 : decode cX3_setRights 1 = .ok (.iload_n 1, 1) := by decide +kernel
theorem dX3_setRights_2 : decode cX3_setRights 2 = .ok (.invokevirtual 106, 3) := by decide +kernel
theorem dX3_setRights_5 : decode cX3_setRights 5 = .ok (.ifCond .eq 5, 3) := by decide +kernel
theorem dX3_setRights_8 : decode cX3_setRights 8 = .ok (.iconst 0, 1) := by decide +kernel
theorem dX3_setRights_9 : decode cX3_setRights 9 = .ok (.ireturn, 1) := by decide +kernel
theorem dX3_setRights_10 : decode cX3_setRights 10 = .ok (.aload_n 0, 1) := by decide +kernel
theorem dX3_setRights_11 : decode cX3_setRights 11 = .ok (.getfield 35, 3) := by decide +kernel
theorem dX3_setRights_14 : decode cX3_setRights 14 = .ok (.iload_n 1, 1) := by decide +kernel
theorem dX3_setRights_15 : decode cX3_setRights 15 = .ok (.baload, 1) := by decide +kernel
theorem dX3_setRights_16 : decode cX3_setRights 16 = .ok (.ifCond .eq 7, 3) := by decide +kernel
theorem dX3_setRights_19 : decode cX3_setRights 19 = .ok (.iconst 1, 1) := by decide +kernel
theorem dX3_setRights_20 : decode cX3_setRights 20 = .ok (.goto 4, 3) := by decide +kernel
theorem dX3_setRights_23 : decode cX3_setRights 23 = .ok (.iconst 0, 1) := by decide +kernel
theorem dX3_setRights_24 : decode cX3_setRights 24 = .ok (.aload_n 0, 1) := by decide +kernel
theorem dX3_setRights_25 : decode cX3_setRights 25 = .ok (.getfield 38, 3) := by decide +kernel
theorem dX3_setRights_28 : decode cX3_setRights 28 = .ok (.iload_n 1, 1) := by decide +kernel
theorem dX3_setRights_29 : decode cX3_setRights 29 = .ok (.baload, 1) := by decide +kernel
theorem dX3_setRights_30 : decode cX3_setRights 30 = .ok (.ifCond .eq 7, 3) := by decide +kernel
theorem dX3_setRights_33 : decode cX3_setRights 33 = .ok (.iconst 1, 1) := by decide +kernel
theorem dX3_setRights_34 : decode cX3_setRights 34 = .ok (.goto 4, 3) := by decide +kernel
theorem dX3_setRights_37 : decode cX3_setRights 37 = .ok (.iconst 0, 1) := by decide +kernel
theorem dX3_setRights_38 : decode cX3_setRights 38 = .ok (.iadd, 1) := by decide +kernel
theorem dX3_setRights_39 : decode cX3_setRights 39 = .ok (.aload_n 0, 1) := by decide +kernel
theorem dX3_setRights_40 : decode cX3_setRights 40 = .ok (.getfield 41, 3) := by decide +kernel
theorem dX3_setRights_43 : decode cX3_setRights 43 = .ok (.iload_n 1, 1) := by decide +kernel
theorem dX3_setRights_44 : decode cX3_setRights 44 = .ok (.baload, 1) := by decide +kernel
theorem dX3_setRights_45 : decode cX3_setRights 45 = .ok (.ifCond .eq 7, 3) := by decide +kernel
theorem dX3_setRights_48 : decode cX3_setRights 48 = .ok (.iconst 1, 1) := by decide +kernel
theorem dX3_setRights_49 : decode cX3_setRights 49 = .ok (.goto 4, 3) := by decide +kernel
theorem dX3_setRights_52 : decode cX3_setRights 52 = .ok (.iconst 0, 1) := by decide +kernel
theorem dX3_setRights_53 : decode cX3_setRights 53 = .ok (.iadd, 1) := by decide +kernel
theorem dX3_setRights_54 : decode cX3_setRights 54 = .ok (.istore 5, 2) := by decide +kernel
theorem dX3_setRights_56 : decode cX3_setRights 56 = .ok (.aload_n 0, 1) := by decide +kernel
theorem dX3_setRights_57 : decode cX3_setRights 57 = .ok (.getfield 35, 3) := by decide +kernel
theorem dX3_setRights_60 : decode cX3_setRights 60 = .ok (.iload_n 1, 1) := by decide +kernel
theorem dX3_setRights_61 : decode cX3_setRights 61 = .ok (.iload_n 2, 1) := by decide +kernel
theorem dX3_setRights_62 : decode cX3_setRights 62 = .ok (.bastore, 1) := by decide +kernel
theorem dX3_setRights_63 : decode cX3_setRights 63 = .ok (.aload_n 0, 1) := by decide +kernel
theorem dX3_setRights_64 : decode cX3_setRights 64 = .ok (.getfield 38, 3) := by decide +kernel
theorem dX3_setRights_67 : decode cX3_setRights 67 = .ok (.iload_n 1, 1) := by decide +kernel
theorem dX3_setRights_68 : decode cX3_setRights 68 = .ok (.iload_n 3, 1) := by decide +kernel
theorem dX3_setRights_69 : decode cX3_setRights 69 = .ok (.bastore, 1) := by decide +kernel
theorem dX3_setRights_70 : decode cX3_setRights 70 = .ok (.aload_n 0, 1) := by decide +kernel
theorem dX3_setRights_71 : decode cX3_setRights 71 = .ok (.getfield 41, 3) := by decide +kernel
theorem dX3_setRights_74 : decode cX3_setRights 74 = .ok (.iload_n 1, 1) := by decide +kernel
theorem dX3_setRights_75 : decode cX3_setRights 75 = .ok (.iload 4, 2) := by decide +kernel
theorem dX3_setRights_77 : decode cX3_setRights 77 = .ok (.bastore, 1) := by decide +kernel
theorem dX3_setRights_78 : decode cX3_setRights 78 = .ok (.iload 5, 2) := by decide +kernel
theorem dX3_setRights_80 : decode cX3_setRights 80 = .ok (.ireturn, 1) := by decide +kernel
theorem dX3_setMinimum_0 : decode cX3_setMinimum 0 = .ok (.aload_n 0, 1) := by decide +kernel
theorem dX3_setMinimum_1 : decode cX3_setMinimum 1 = .ok (.iload_n 1, 1) := by decide +kernel
theorem dX3_setMinimum_2 : decode cX3_setMinimum 2 = .ok (.invokevirtual 106, 3) := by decide +kernel
theorem dX3_setMinimum_5 : decode cX3_setMinimum 5 = .ok (.ifCond .eq 5, 3) := by decide +kernel
theorem dX3_setMinimum_8 : decode cX3_setMinimum 8 = .ok (.iconst 0, 1) := by decide +kernel
theorem dX3_setMinimum_9 : decode cX3_setMinimum 9 = .ok (.ireturn, 1) := by decide +kernel
theorem dX3_setMinimum_10 : decode cX3_setMinimum 10 = .ok (.iload_n 2, 1) := by decide +kernel
theorem dX3_setMinimum_11 : decode cX3_setMinimum 11 = .ok (.iconst 1, 1) := by decide +kernel
theorem dX3_setMinimum_12 : decode cX3_setMinimum 12 = .ok (.bipush 16, 2) := by decide +kernel
theorem dX3_setMinimum_14 : decode cX3_setMinimum 14 = .ok (.invokestatic 89, 3) := by decide +kernel
theorem dX3_setMinimum_17 : decode cX3_setMinimum 17 = .ok (.ifCond .ne 9, 3) := by decide +kernel
theorem dX3_setMinimum_20 : decode cX3_setMinimum 20 = .ok (.aload_n 0, 1) := by decide +kernel
theorem dX3_setMinimum_21 : decode cX3_setMinimum 21 = .ok (.iconst 2, 1) := by decide +kernel
theorem dX3_setMinimum_22 : decode cX3_setMinimum 22 = .ok (.invokevirtual 93, 3) := by decide +kernel
theorem dX3_setMinimum_25 : decode cX3_setMinimum 25 = .ok (.ireturn, 1) := by decide +kernel
theorem dX3_setMinimum_26 : decode cX3_setMinimum 26 = .ok (.aload_n 0, 1) := by decide +kernel
theorem dX3_setMinimum_27 : decode cX3_setMinimum 27 = .ok (.getfield 65, 3) := by decide +kernel
theorem dX3_setMinimum_30 : decode cX3_setMinimum 30 = .ok (.iload_n 1, 1) := by decide +kernel
theorem dX3_setMinimum_31 : decode cX3_setMinimum 31 = .ok (.caload, 1) := by decide +kernel
theorem dX3_setMinimum_32 : decode cX3_setMinimum 32 = .ok (.bipush 99, 2) := by decide +kernel
theorem dX3_setMinimum_34 : decode cX3_setMinimum 34 = .ok (.if_icmp .eq 9, 3) := by decide +kernel
theorem dX3_setMinimum_37 : decode cX3_setMinimum 37 = .ok (.aload_n 0, 1) := by decide +kernel
theorem dX3_setMinimum_38 : decode cX3_setMinimum 38 = .ok (.iconst 3, 1) := by decide +kernel
theorem dX3_setMinimum_39 : decode cX3_setMinimum 39 = .ok (.invokevirtual 93, 3) := by decide +kernel
theorem dX3_setMinimum_42 : decode cX3_setMinimum 42 = .ok (.ireturn, 1) := by decide +kernel
theorem dX3_setMinimum_43 : decode cX3_setMinimum 43 = .ok (.aload_n 0, 1) := by decide +kernel
theorem dX3_setMinimum_44 : decode cX3_setMinimum 44 = .ok (.getfield 59, 3) := by decide +kernel
theorem dX3_setMinimum_47 : decode cX3_setMinimum 47 = .ok (.iload_n 1, 1) := by decide +kernel
theorem dX3_setMinimum_48 : decode cX3_setMinimum 48 = .ok (.iaload, 1) := by decide +kernel
theorem dX3_setMinimum_49 : decode cX3_setMinimum 49 = .ok (.istore_n 3, 1) := by decide +kernel
theorem dX3_setMinimum_50 : decode cX3_setMinimum 50 = .ok (.aload_n 0, 1) := by decide +kernel
theorem dX3_setMinimum_51 : decode cX3_setMinimum 51 = .ok (.getfield 59, 3) := by decide +kernel
theorem dX3_setMinimum_54 : decode cX3_setMinimum 54 = .ok (.iload_n 1, 1) := by decide +kernel
theorem dX3_setMinimum_55 : decode cX3_setMinimum 55 = .ok (.iload_n 2, 1) := by decide +kernel
theorem dX3_setMinimum_56 : decode cX3_setMinimum 56 = .ok (.iastore, 1) := by decide +kernel
theorem dX3_setMinimum_57 : decode cX3_setMinimum 57 = .ok (.iload_n 3, 1) := by decide +kernel
theorem dX3_setMinimum_58 : decode cX3_setMinimum 58 = .ok (.ireturn, 1) := by decide +kernel
theorem dX3_setPrice_0 : decode cX3_setPrice 0 = .ok (.aload_n 0, 1) := by decide +kernel
theorem dX3_setPrice_1 : decode cX3_setPrice 1 = .ok (.iload_n 1, 1) := by decide +kernel
theorem dX3_setPrice_2 : decode cX3_setPrice 2 = .ok (.invokevirtual 106, 3) := by decide +kernel
theorem dX3_setPrice_5 : decode cX3_setPrice 5 = .ok (.ifCond .eq 5, 3) := by decide +kernel
theorem dX3_setPrice_8 : decode cX3_setPrice 8 = .ok (.iconst 0, 1) := by decide +kernel
theorem dX3_setPrice_9 : decode cX3_setPrice 9 = .ok (.ireturn, 1) := by decide +kernel
theorem dX3_setPrice_10 : decode cX3_setPrice 10 = .ok (.iload_n 2, 1) := by decide +kernel
theorem dX3_setPrice_11 : decode cX3_setPrice 11 = .ok (.iconst 1, 1) := by decide +kernel
theorem dX3_setPrice_12 : decode cX3_setPrice 12 = .ok (.bipush 99, 2) := by decide +kernel
theorem dX3_setPrice_14 : decode cX3_setPrice 14 = .ok (.invokestatic 89, 3) := by decide +kernel
theorem dX3_setPrice_17 : decode cX3_setPrice 17 = .ok (.ifCond .ne 9, 3) := by decide +kernel
theorem dX3_setPrice_20 : decode cX3_setPrice 20 = .ok (.aload_n 0, 1) := by decide +kernel
theorem dX3_setPrice_21 : decode cX3_setPrice 21 = .ok (.iconst 2, 1) := by decide +kernel
theorem dX3_setPrice_22 : decode cX3_setPrice 22 = .ok (.invokevirtual 93, 3) := by decide +kernel
theorem dX3_setPrice_25 : decode cX3_setPrice 25 = .ok (.ireturn, 1) := by decide +kernel
theorem dX3_setPrice_26 : decode cX3_setPrice 26 = .ok (.aload_n 0, 1) := by decide +kernel
theorem dX3_setPrice_27 : decode cX3_setPrice 27 = .ok (.getfield 62, 3) := by decide +kernel
theorem dX3_setPrice_30 : decode cX3_setPrice 30 = .ok (.iload_n 1, 1) := by decide +kernel
theorem dX3_setPrice_31 : decode cX3_setPrice 31 = .ok (.iaload, 1) := by decide +kernel
theorem dX3_setPrice_32 : decode cX3_setPrice 32 = .ok (.istore_n 3, 1) := by decide +kernel
theorem dX3_setPrice_33 : decode cX3_setPrice 33 = .ok (.aload_n 0, 1) := by decide +kernel
theorem dX3_setPrice_34 : decode cX3_setPrice 34 = .ok (.getfield 62, 3) := by decide +kernel
theorem dX3_setPrice_37 : decode cX3_setPrice 37 = .ok (.iload_n 1, 1) := by decide +kernel
theorem dX3_setPrice_38 : decode cX3_setPrice 38 = .ok (.iload_n 2, 1) := by decide +kernel
theorem dX3_setPrice_39 : decode cX3_setPrice 39 = .ok (.iastore, 1) := by decide +kernel
theorem dX3_setPrice_40 : decode cX3_setPrice 40 = .ok (.iload_n 3, 1) := by decide +kernel
theorem dX3_setPrice_41 : decode cX3_setPrice 41 = .ok (.ireturn, 1) := by decide +kernel
theorem dX3_addUnits_0 : decode cX3_addUnits 0 = .ok (.aload_n 0, 1) := by decide +kernel
theorem dX3_addUnits_1 : decode cX3_addUnits 1 = .ok (.iload_n 1, 1) := by decide +kernel
theorem dX3_addUnits_2 : decode cX3_addUnits 2 = .ok (.invokevirtual 106, 3) := by decide +kernel
theorem dX3_addUnits_5 : decode cX3_addUnits 5 = .ok (.ifCond .eq 5, 3) := by decide +kernel
theorem dX3_addUnits_8 : decode cX3_addUnits 8 = .ok (.iconst 0, 1) := by decide +kernel
theorem dX3_addUnits_9 : decode cX3_addUnits 9 = .ok (.ireturn, 1) := by decide +kernel
theorem dX3_addUnits_10 : decode cX3_addUnits 10 = .ok (.iload_n 2, 1) := by decide +kernel
theorem dX3_addUnits_11 : decode cX3_addUnits 11 = .ok (.iconst 1, 1) := by decide +kernel
theorem dX3_addUnits_12 : decode cX3_addUnits 12 = .ok (.bipush 99, 2) := by decide +kernel
theorem dX3_addUnits_14 : decode cX3_addUnits 14 = .ok (.invokestatic 89, 3) := by decide +kernel
theorem dX3_addUnits_17 : decode cX3_addUnits 17 = .ok (.ifCond .ne 9, 3) := by decide +kernel
theorem dX3_addUnits_20 : decode cX3_addUnits 20 = .ok (.aload_n 0, 1) := by decide +kernel
theorem dX3_addUnits_21 : decode cX3_addUnits 21 = .ok (.iconst 2, 1) := by decide +kernel
theorem dX3_addUnits_22 : decode cX3_addUnits 22 = .ok (.invokevirtual 93, 3) := by decide +kernel
theorem dX3_addUnits_25 : decode cX3_addUnits 25 = .ok (.ireturn, 1) := by decide +kernel
theorem dX3_addUnits_26 : decode cX3_addUnits 26 = .ok (.aload_n 0, 1) := by decide +kernel
theorem dX3_addUnits_27 : decode cX3_addUnits 27 = .ok (.getfield 53, 3) := by decide +kernel
theorem dX3_addUnits_30 : decode cX3_addUnits 30 = .ok (.iload_n 1, 1) := by decide +kernel
theorem dX3_addUnits_31 : decode cX3_addUnits 31 = .ok (.iaload, 1) := by decide +kernel
theorem dX3_addUnits_32 : decode cX3_addUnits 32 = .ok (.iload_n 2, 1) := by decide +kernel
theorem dX3_addUnits_33 : decode cX3_addUnits 33 = .ok (.iadd, 1) := by decide +kernel
theorem dX3_addUnits_34 : decode cX3_addUnits 34 = .ok (.sipush 999, 3) := by decide +kernel
theorem dX3_addUnits_37 : decode cX3_addUnits 37 = .ok (.if_icmp .le 9, 3) := by decide +kernel
theorem dX3_addUnits_40 : decode cX3_addUnits 40 = .ok (.aload_n 0, 1) := by decide +kernel
theorem dX3_addUnits_41 : decode cX3_addUnits 41 = .ok (.iconst 3, 1) := by decide +kernel
theorem dX3_addUnits_42 : decode cX3_addUnits 42 = .ok (.invokevirtual 93, 3) := by decide +kernel
theorem dX3_addUnits_45 : decode cX3_addUnits 45 = .ok (.ireturn, 1) := by decide +kernel
theorem dX3_addUnits_46 : decode cX3_addUnits 46 = .ok (.aload_n 0, 1) := by decide +kernel
theorem dX3_addUnits_47 : decode cX3_addUnits 47 = .ok (.getfield 53, 3) := by decide +kernel
theorem dX3_addUnits_50 : decode cX3_addUnits 50 = .ok (.iload_n 1, 1) := by decide +kernel
theorem dX3_addUnits_51 : decode cX3_addUnits 51 = .ok (.dup2, 1) := by decide +kernel
theorem dX3_addUnits_52 : decode cX3_addUnits 52 = .ok (.iaload, 1) := by decide +kernel
theorem dX3_addUnits_53 : decode cX3_addUnits 53 = .ok (.iload_n 2, 1) := by decide +kernel
theorem dX3_addUnits_54 : decode cX3_addUnits 54 = .ok (.iadd, 1) := by decide +kernel
theorem dX3_addUnits_55 : decode cX3_addUnits 55 = .ok (.iastore, 1) := by decide +kernel
theorem dX3_addUnits_56 : decode cX3_addUnits 56 = .ok (.aload_n 0, 1) := by decide +kernel
theorem dX3_addUnits_57 : decode cX3_addUnits 57 = .ok (.getfield 53, 3) := by decide +kernel
theorem dX3_addUnits_60 : decode cX3_addUnits 60 = .ok (.iload_n 1, 1) := by decide +kernel
theorem dX3_addUnits_61 : decode cX3_addUnits 61 = .ok (.iaload, 1) := by decide +kernel
theorem dX3_addUnits_62 : decode cX3_addUnits 62 = .ok (.ireturn, 1) := by decide +kernel
theorem dX3_units_0 : decode cX3_units 0 = .ok (.aload_n 0, 1) := by decide +kernel
theorem dX3_units_1 : decode cX3_units 1 = .ok (.iload_n 1, 1) := by decide +kernel
theorem dX3_units_2 : decode cX3_units 2 = .ok (.invokevirtual 106, 3) := by decide +kernel
theorem dX3_units_5 : decode cX3_units 5 = .ok (.ifCond .eq 7, 3) := by decide +kernel
theorem dX3_units_8 : decode cX3_units 8 = .ok (.iconst 0, 1) := by decide +kernel
theorem dX3_units_9 : decode cX3_units 9 = .ok (.goto 9, 3) := by decide +kernel
theorem dX3_units_12 : decode cX3_units 12 = .ok (.aload_n 0, 1) := by decide +kernel
theorem dX3_units_13 : decode cX3_units 13 = .ok (.getfield 53, 3) := by decide +kernel
theorem dX3_units_16 : decode cX3_units 16 = .ok (.iload_n 1, 1) := by decide +kernel
theorem dX3_units_17 : decode cX3_units 17 = .ok (.iaload, 1) := by decide +kernel
theorem dX3_units_18 : decode cX3_units 18 = .ok (.ireturn, 1) := by decide +kernel
theorem dX3_isSet_0 : decode cX3_isSet 0 = .ok (.iload_n 0, 1) := by decide +kernel
theorem dX3_isSet_1 : decode cX3_isSet 1 = .ok (.istore_n 2, 1) := by decide +kernel
theorem dX3_isSet_2 : decode cX3_isSet 2 = .ok (.iconst 0, 1) := by decide +kernel
theorem dX3_isSet_3 : decode cX3_isSet 3 = .ok (.istore_n 3, 1) := by decide +kernel
theorem dX3_isSet_4 : decode cX3_isSet 4 = .ok (.iload_n 3, 1) := by decide +kernel
theorem dX3_isSet_5 : decode cX3_isSet 5 = .ok (.iload_n 1, 1) := by decide +kernel
theorem dX3_isSet_6 : decode cX3_isSet 6 = .ok (.if_icmp .ge 13, 3) := by decide +kernel
theorem dX3_isSet_9 : decode cX3_isSet 9 = .ok (.iload_n 2, 1) := by decide +kernel
theorem dX3_isSet_10 : decode cX3_isSet 10 = .ok (.iconst 2, 1) := by decide +kernel
theorem dX3_isSet_11 : decode cX3_isSet 11 = .ok (.idiv, 1) := by decide +kernel
theorem dX3_isSet_12 : decode cX3_isSet 12 = .ok (.istore_n 2, 1) := by decide +kernel
theorem dX3_isSet_13 : decode cX3_isSet 13 = .ok (.iinc 3 1, 3) := by decide +kernel
theorem dX3_isSet_16 : decode cX3_isSet 16 = .ok (.goto (-12), 3) := by decide +kernel
theorem dX3_isSet_19 : decode cX3_isSet 19 = .ok (.iload_n 2, 1) := by decide +kernel
theorem dX3_isSet_20 : decode cX3_isSet 20 = .ok (.iconst 2, 1) := by decide +kernel
theorem dX3_isSet_21 : decode cX3_isSet 21 = .ok (.irem, 1) := by decide +kernel
theorem dX3_isSet_22 : decode cX3_isSet 22 = .ok (.iconst 1, 1) := by decide +kernel
theorem dX3_isSet_23 : decode cX3_isSet 23 = .ok (.if_icmp .ne 7, 3) := by decide +kernel
theorem dX3_isSet_26 : decode cX3_isSet 26 = .ok (.iconst 1, 1) := by decide +kernel
theorem dX3_isSet_27 : decode cX3_isSet 27 = .ok (.goto 4, 3) := by decide +kernel
theorem dX3_isSet_30 : decode cX3_isSet 30 = .ok (.iconst 0, 1) := by decide +kernel
theorem dX3_isSet_31 : decode cX3_isSet 31 = .ok (.ireturn, 1) := by decide +kernel
theorem dX3_reasonOf_0 : decode cX3_reasonOf 0 = .ok (.aload_n 0, 1) := by decide +kernel
theorem dX3_reasonOf_1 : decode cX3_reasonOf 1 = .ok (.getfield 44, 3) := by decide +kernel
theorem dX3_reasonOf_4 : decode cX3_reasonOf 4 = .ok (.iload_n 2, 1) := by decide +kernel
theorem dX3_reasonOf_5 : decode cX3_reasonOf 5 = .ok (.iaload, 1) := by decide +kernel
theorem dX3_reasonOf_6 : decode cX3_reasonOf 6 = .ok (.aload_n 0, 1) := by decide +kernel
theorem dX3_reasonOf_7 : decode cX3_reasonOf 7 = .ok (.getfield 7, 3) := by decide +kernel
theorem dX3_reasonOf_10 : decode cX3_reasonOf 10 = .ok (.iload_n 1, 1) := by decide +kernel
theorem dX3_reasonOf_11 : decode cX3_reasonOf 11 = .ok (.iaload, 1) := by decide +kernel
theorem dX3_reasonOf_12 : decode cX3_reasonOf 12 = .ok (.invokestatic 109, 3) := by decide +kernel
theorem dX3_reasonOf_15 : decode cX3_reasonOf 15 = .ok (.ifCond .ne 6, 3) := by decide +kernel
theorem dX3_reasonOf_18 : decode cX3_reasonOf 18 = .ok (.bipush 112, 2) := by decide +kernel
theorem dX3_reasonOf_20 : decode cX3_reasonOf 20 = .ok (.ireturn, 1) := by decide +kernel
theorem dX3_reasonOf_21 : decode cX3_reasonOf 21 = .ok (.aload_n 0, 1) := by decide +kernel
theorem dX3_reasonOf_22 : decode cX3_reasonOf 22 = .ok (.getfield 56, 3) := by decide +kernel
theorem dX3_reasonOf_25 : decode cX3_reasonOf 25 = .ok (.iload_n 2, 1) := by decide +kernel
theorem dX3_reasonOf_26 : decode cX3_reasonOf 26 = .ok (.iaload, 1) := by decide +kernel
theorem dX3_reasonOf_27 : decode cX3_reasonOf 27 = .ok (.iconst (-1), 1) := by decide +kernel
theorem dX3_reasonOf_28 : decode cX3_reasonOf 28 = .ok (.if_icmp .eq 21, 3) := by decide +kernel
theorem dX3_reasonOf_31 : decode cX3_reasonOf 31 = .ok (.aload_n 0, 1) := by decide +kernel
theorem dX3_reasonOf_32 : decode cX3_reasonOf 32 = .ok (.getfield 56, 3) := by decide +kernel
theorem dX3_reasonOf_35 : decode cX3_reasonOf 35 = .ok (.iload_n 2, 1) := by decide +kernel
theorem dX3_reasonOf_36 : decode cX3_reasonOf 36 = .ok (.iaload, 1) := by decide +kernel
theorem dX3_reasonOf_37 : decode cX3_reasonOf 37 = .ok (.aload_n 0, 1) := by decide +kernel
theorem dX3_reasonOf_38 : decode cX3_reasonOf 38 = .ok (.getfield 28, 3) := by decide +kernel
theorem dX3_reasonOf_41 : decode cX3_reasonOf 41 = .ok (.iload_n 1, 1) := by decide +kernel
theorem dX3_reasonOf_42 : decode cX3_reasonOf 42 = .ok (.iaload, 1) := by decide +kernel
theorem dX3_reasonOf_43 : decode cX3_reasonOf 43 = .ok (.if_icmp .eq 6, 3) := by decide +kernel
theorem dX3_reasonOf_46 : decode cX3_reasonOf 46 = .ok (.bipush 111, 2) := by decide +kernel
theorem dX3_reasonOf_48 : decode cX3_reasonOf 48 = .ok (.ireturn, 1) := by decide +kernel
theorem dX3_reasonOf_49 : decode cX3_reasonOf 49 = .ok (.aload_n 0, 1) := by decide +kernel
theorem dX3_reasonOf_50 : decode cX3_reasonOf 50 = .ok (.getfield 16, 3) := by decide +kernel
theorem dX3_reasonOf_53 : decode cX3_reasonOf 53 = .ok (.iload_n 1, 1) := by decide +kernel
theorem dX3_reasonOf_54 : decode cX3_reasonOf 54 = .ok (.iaload, 1) := by decide +kernel
theorem dX3_reasonOf_55 : decode cX3_reasonOf 55 = .ok (.aload_n 0, 1) := by decide +kernel
theorem dX3_reasonOf_56 : decode cX3_reasonOf 56 = .ok (.getfield 50, 3) := by decide +kernel
theorem dX3_reasonOf_59 : decode cX3_reasonOf 59 = .ok (.iload_n 2, 1) := by decide +kernel
theorem dX3_reasonOf_60 : decode cX3_reasonOf 60 = .ok (.iaload, 1) := by decide +kernel
theorem dX3_reasonOf_61 : decode cX3_reasonOf 61 = .ok (.if_icmp .gt 27, 3) := by decide +kernel
theorem dX3_reasonOf_64 : decode cX3_reasonOf 64 = .ok (.aload_n 0, 1) := by decide +kernel
theorem dX3_reasonOf_65 : decode cX3_reasonOf 65 = .ok (.getfield 16, 3) := by decide +kernel
theorem dX3_reasonOf_68 : decode cX3_reasonOf 68 = .ok (.iload_n 1, 1) := by decide +kernel
theorem dX3_reasonOf_69 : decode cX3_reasonOf 69 = .ok (.iaload, 1) := by decide +kernel
theorem dX3_reasonOf_70 : decode cX3_reasonOf 70 = .ok (.aload_n 0, 1) := by decide +kernel
theorem dX3_reasonOf_71 : decode cX3_reasonOf 71 = .ok (.getfield 50, 3) := by decide +kernel
theorem dX3_reasonOf_74 : decode cX3_reasonOf 74 = .ok (.iload_n 2, 1) := by decide +kernel
theorem dX3_reasonOf_75 : decode cX3_reasonOf 75 = .ok (.iaload, 1) := by decide +kernel
theorem dX3_reasonOf_76 : decode cX3_reasonOf 76 = .ok (.if_icmp .ge 15, 3) := by decide +kernel
theorem dX3_reasonOf_79 : decode cX3_reasonOf 79 = .ok (.aload_n 0, 1) := by decide +kernel
theorem dX3_reasonOf_80 : decode cX3_reasonOf 80 = .ok (.getfield 35, 3) := by decide +kernel
theorem dX3_reasonOf_83 : decode cX3_reasonOf 83 = .ok (.iload_n 2, 1) := by decide +kernel
theorem dX3_reasonOf_84 : decode cX3_reasonOf 84 = .ok (.baload, 1) := by decide +kernel
theorem dX3_reasonOf_85 : decode cX3_reasonOf 85 = .ok (.ifCond .ne 6, 3) := by decide +kernel
theorem dX3_reasonOf_88 : decode cX3_reasonOf 88 = .ok (.bipush 101, 2) := by decide +kernel
theorem dX3_reasonOf_90 : decode cX3_reasonOf 90 = .ok (.ireturn, 1) := by decide +kernel
theorem dX3_reasonOf_91 : decode cX3_reasonOf 91 = .ok (.aload_n 0, 1) := by decide +kernel
theorem dX3_reasonOf_92 : decode cX3_reasonOf 92 = .ok (.getfield 13, 3) := by decide +kernel
theorem dX3_reasonOf_95 : decode cX3_reasonOf 95 = .ok (.iload_n 1, 1) := by decide +kernel
theorem dX3_reasonOf_96 : decode cX3_reasonOf 96 = .ok (.iaload, 1) := by decide +kernel
theorem dX3_reasonOf_97 : decode cX3_reasonOf 97 = .ok (.aload_n 0, 1) := by decide +kernel
theorem dX3_reasonOf_98 : decode cX3_reasonOf 98 = .ok (.getfield 47, 3) := by decide +kernel
theorem dX3_reasonOf_101 : decode cX3_reasonOf 101 = .ok (.iload_n 2, 1) := by decide +kernel
theorem dX3_reasonOf_102 : decode cX3_reasonOf 102 = .ok (.iaload, 1) := by decide +kernel
theorem dX3_reasonOf_103 : decode cX3_reasonOf 103 = .ok (.if_icmp .ge 12, 3) := by decide +kernel
theorem dX3_reasonOf_106 : decode cX3_reasonOf 106 = .ok (.aload_n 0, 1) := by decide +kernel
theorem dX3_reasonOf_107 : decode cX3_reasonOf 107 = .ok (.getfield 35, 3) := by decide +kernel
theorem dX3_reasonOf_110 : decode cX3_reasonOf 110 = .ok (.iload_n 2, 1) := by decide +kernel
theorem dX3_reasonOf_111 : decode cX3_reasonOf 111 = .ok (.baload, 1) := by decide +kernel
theorem dX3_reasonOf_112 : decode cX3_reasonOf 112 = .ok (.ifCond .eq 27, 3) := by decide +kernel
theorem dX3_reasonOf_115 : decode cX3_reasonOf 115 = .ok (.aload_n 0, 1) := by decide +kernel
theorem dX3_reasonOf_116 : decode cX3_reasonOf 116 = .ok (.getfield 13, 3) := by decide +kernel
theorem dX3_reasonOf_119 : decode cX3_reasonOf 119 = .ok (.iload_n 1, 1) := by decide +kernel
theorem dX3_reasonOf_120 : decode cX3_reasonOf 120 = .ok (.iaload, 1) := by decide +kernel
theorem dX3_reasonOf_121 : decode cX3_reasonOf 121 = .ok (.aload_n 0, 1) := by decide +kernel
theorem dX3_reasonOf_122 : decode cX3_reasonOf 122 = .ok (.getfield 47, 3) := by decide +kernel
theorem dX3_reasonOf_125 : decode cX3_reasonOf 125 = .ok (.iload_n 2, 1) := by decide +kernel
theorem dX3_reasonOf_126 : decode cX3_reasonOf 126 = .ok (.iaload, 1) := by decide +kernel
theorem dX3_reasonOf_127 : decode cX3_reasonOf 127 = .ok (.if_icmp .le 17, 3) := by decide +kernel
theorem dX3_reasonOf_130 : decode cX3_reasonOf 130 = .ok (.aload_n 0, 1) := by decide +kernel
theorem dX3_reasonOf_131 : decode cX3_reasonOf 131 = .ok (.getfield 38, 3) := by decide +kernel
theorem dX3_reasonOf_134 : decode cX3_reasonOf 134 = .ok (.iload_n 2, 1) := by decide +kernel
theorem dX3_reasonOf_135 : decode cX3_reasonOf 135 = .ok (.baload, 1) := by decide +kernel
theorem dX3_reasonOf_136 : decode cX3_reasonOf 136 = .ok (.ifCond .ne 8, 3) := by decide +kernel
theorem dX3_reasonOf_139 : decode cX3_reasonOf 139 = .ok (.bipush 118, 2) := by decide +kernel
theorem dX3_reasonOf_141 : decode cX3_reasonOf 141 = .ok (.goto 5, 3) := by decide +kernel
theorem dX3_reasonOf_144 : decode cX3_reasonOf 144 = .ok (.bipush 45, 2) := by decide +kernel
theorem dX3_reasonOf_146 : decode cX3_reasonOf 146 = .ok (.ireturn, 1) := by decide +kernel
theorem dX3_fits_0 : decode cX3_fits 0 = .ok (.aload_n 0, 1) := by decide +kernel
theorem dX3_fits_1 : decode cX3_fits 1 = .ok (.iload_n 1, 1) := by decide +kernel
theorem dX3_fits_2 : decode cX3_fits 2 = .ok (.iload_n 2, 1) := by decide +kernel
theorem dX3_fits_3 : decode cX3_fits 3 = .ok (.invokevirtual 113, 3) := by decide +kernel
theorem dX3_fits_6 : decode cX3_fits 6 = .ok (.bipush 45, 2) := by decide +kernel
theorem dX3_fits_8 : decode cX3_fits 8 = .ok (.if_icmp .ne 7, 3) := by decide +kernel
theorem dX3_fits_11 : decode cX3_fits 11 = .ok (.iconst 1, 1) := by decide +kernel
theorem dX3_fits_12 : decode cX3_fits 12 = .ok (.goto 4, 3) := by decide +kernel
theorem dX3_fits_15 : decode cX3_fits 15 = .ok (.iconst 0, 1) := by decide +kernel
theorem dX3_fits_16 : decode cX3_fits 16 = .ok (.ireturn, 1) := by decide +kernel
theorem dX3_why_0 : decode cX3_why 0 = .ok (.aload_n 0, 1) := by decide +kernel
theorem dX3_why_1 : decode cX3_why 1 = .ok (.iload_n 1, 1) := by decide +kernel
theorem dX3_why_2 : decode cX3_why 2 = .ok (.invokevirtual 103, 3) := by decide +kernel
theorem dX3_why_5 : decode cX3_why 5 = .ok (.ifCond .ne 11, 3) := by decide +kernel
theorem dX3_why_8 : decode cX3_why 8 = .ok (.aload_n 0, 1) := by decide +kernel
theorem dX3_why_9 : decode cX3_why 9 = .ok (.iload_n 2, 1) := by decide +kernel
theorem dX3_why_10 : decode cX3_why 10 = .ok (.invokevirtual 106, 3) := by decide +kernel
theorem dX3_why_13 : decode cX3_why 13 = .ok (.ifCond .eq 8, 3) := by decide +kernel
theorem dX3_why_16 : decode cX3_why 16 = .ok (.bipush 112, 2) := by decide +kernel
theorem dX3_why_18 : decode cX3_why 18 = .ok (.goto 9, 3) := by decide +kernel
theorem dX3_why_21 : decode cX3_why 21 = .ok (.aload_n 0, 1) := by decide +kernel
theorem dX3_why_22 : decode cX3_why 22 = .ok (.iload_n 1, 1) := by decide +kernel
theorem dX3_why_23 : decode cX3_why 23 = .ok (.iload_n 2, 1) := by decide +kernel
theorem dX3_why_24 : decode cX3_why 24 = .ok (.invokevirtual 113, 3) := by decide +kernel
theorem dX3_why_27 : decode cX3_why 27 = .ok (.ireturn, 1) := by decide +kernel
theorem dX3_fits__0 : decode cX3_fits_ 0 = .ok (.iconst 0, 1) := by decide +kernel
theorem dX3_fits__1 : decode cX3_fits_ 1 = .ok (.istore_n 2, 1) := by decide +kernel
theorem dX3_fits__2 : decode cX3_fits_ 2 = .ok (.iconst 0, 1) := by decide +kernel
theorem dX3_fits__3 : decode cX3_fits_ 3 = .ok (.istore_n 3, 1) := by decide +kernel
theorem dX3_fits__4 : decode cX3_fits_ 4 = .ok (.iload_n 3, 1) := by decide +kernel
theorem dX3_fits__5 : decode cX3_fits_ 5 = .ok (.aload_n 0, 1) := by decide +kernel
theorem dX3_fits__6 : decode cX3_fits_ 6 = .ok (.getfield 86, 3) := by decide +kernel
theorem dX3_fits__9 : decode cX3_fits_ 9 = .ok (.if_icmp .ge 26, 3) := by decide +kernel
theorem dX3_fits__12 : decode cX3_fits_ 12 = .ok (.iload_n 2, 1) := by decide +kernel
theorem dX3_fits__13 : decode cX3_fits_ 13 = .ok (.aload_n 0, 1) := by decide +kernel
theorem dX3_fits__14 : decode cX3_fits_ 14 = .ok (.iload_n 1, 1) := by decide +kernel
theorem dX3_fits__15 : decode cX3_fits_ 15 = .ok (.iload_n 3, 1) := by decide +kernel
theorem dX3_fits__16 : decode cX3_fits_ 16 = .ok (.invokevirtual 117, 3) := by decide +kernel
theorem dX3_fits__19 : decode cX3_fits_ 19 = .ok (.ifCond .eq 7, 3) := by decide +kernel
theorem dX3_fits__22 : decode cX3_fits_ 22 = .ok (.iconst 1, 1) := by decide +kernel
theorem dX3_fits__23 : decode cX3_fits_ 23 = .ok (.goto 4, 3) := by decide +kernel
theorem dX3_fits__26 : decode cX3_fits_ 26 = .ok (.iconst 0, 1) := by decide +kernel
theorem dX3_fits__27 : decode cX3_fits_ 27 = .ok (.iadd, 1) := by decide +kernel
theorem dX3_fits__28 : decode cX3_fits_ 28 = .ok (.istore_n 2, 1) := by decide +kernel
theorem dX3_fits__29 : decode cX3_fits_ 29 = .ok (.iinc 3 1, 3) := by decide +kernel
theorem dX3_fits__32 : decode cX3_fits_ 32 = .ok (.goto (-28), 3) := by decide +kernel
theorem dX3_fits__35 : decode cX3_fits_ 35 = .ok (.iload_n 2, 1) := by decide +kernel
theorem dX3_fits__36 : decode cX3_fits_ 36 = .ok (.ireturn, 1) := by decide +kernel
theorem dX3_fitting_0 : decode cX3_fitting 0 = .ok (.aload_n 0, 1) := by decide +kernel
theorem dX3_fitting_1 : decode cX3_fitting 1 = .ok (.iload_n 1, 1) := by decide +kernel
theorem dX3_fitting_2 : decode cX3_fitting 2 = .ok (.invokevirtual 103, 3) := by decide +kernel
theorem dX3_fitting_5 : decode cX3_fitting 5 = .ok (.ifCond .eq 7, 3) := by decide +kernel
theorem dX3_fitting_8 : decode cX3_fitting 8 = .ok (.iconst 0, 1) := by decide +kernel
theorem dX3_fitting_9 : decode cX3_fitting 9 = .ok (.goto 8, 3) := by decide +kernel
theorem dX3_fitting_12 : decode cX3_fitting 12 = .ok (.aload_n 0, 1) := by decide +kernel
theorem dX3_fitting_13 : decode cX3_fitting 13 = .ok (.iload_n 1, 1) := by decide +kernel
theorem dX3_fitting_14 : decode cX3_fitting 14 = .ok (.invokevirtual 120, 3) := by decide +kernel
theorem dX3_fitting_17 : decode cX3_fitting 17 = .ok (.ireturn, 1) := by decide +kernel
theorem dX3_firstFitting_0 : decode cX3_firstFitting 0 = .ok (.aload_n 0, 1) := by decide +kernel
theorem dX3_firstFitting_1 : decode cX3_firstFitting 1 = .ok (.iload_n 1, 1) := by decide +kernel
theorem dX3_firstFitting_2 : decode cX3_firstFitting 2 = .ok (.invokevirtual 103, 3) := by decide +kernel
theorem dX3_firstFitting_5 : decode cX3_firstFitting 5 = .ok (.ifCond .eq 5, 3) := by decide +kernel
theorem dX3_firstFitting_8 : decode cX3_firstFitting 8 = .ok (.iconst 0, 1) := by decide +kernel
theorem dX3_firstFitting_9 : decode cX3_firstFitting 9 = .ok (.ireturn, 1) := by decide +kernel
theorem dX3_firstFitting_10 : decode cX3_firstFitting 10 = .ok (.iconst 0, 1) := by decide +kernel
theorem dX3_firstFitting_11 : decode cX3_firstFitting 11 = .ok (.istore_n 2, 1) := by decide +kernel
theorem dX3_firstFitting_12 : decode cX3_firstFitting 12 = .ok (.iload_n 2, 1) := by decide +kernel
theorem dX3_firstFitting_13 : decode cX3_firstFitting 13 = .ok (.aload_n 0, 1) := by decide +kernel
theorem dX3_firstFitting_14 : decode cX3_firstFitting 14 = .ok (.getfield 86, 3) := by decide +kernel
theorem dX3_firstFitting_17 : decode cX3_firstFitting 17 = .ok (.if_icmp .ge 20, 3) := by decide +kernel
theorem dX3_firstFitting_20 : decode cX3_firstFitting 20 = .ok (.aload_n 0, 1) := by decide +kernel
theorem dX3_firstFitting_21 : decode cX3_firstFitting 21 = .ok (.iload_n 1, 1) := by decide +kernel
theorem dX3_firstFitting_22 : decode cX3_firstFitting 22 = .ok (.iload_n 2, 1) := by decide +kernel
theorem dX3_firstFitting_23 : decode cX3_firstFitting 23 = .ok (.invokevirtual 117, 3) := by decide +kernel
theorem dX3_firstFitting_26 : decode cX3_firstFitting 26 = .ok (.ifCond .eq 5, 3) := by decide +kernel
theorem dX3_firstFitting_29 : decode cX3_firstFitting 29 = .ok (.iload_n 2, 1) := by decide +kernel
theorem dX3_firstFitting_30 : decode cX3_firstFitting 30 = .ok (.ireturn, 1) := by decide +kernel
theorem dX3_firstFitting_31 : decode cX3_firstFitting 31 = .ok (.iinc 2 1, 3) := by decide +kernel
theorem dX3_firstFitting_34 : decode cX3_firstFitting 34 = .ok (.goto (-22), 3) := by decide +kernel
theorem dX3_firstFitting_37 : decode cX3_firstFitting 37 = .ok (.aload_n 0, 1) := by decide +kernel
theorem dX3_firstFitting_38 : decode cX3_firstFitting 38 = .ok (.iconst 2, 1) := by decide +kernel
theorem dX3_firstFitting_39 : decode cX3_firstFitting 39 = .ok (.invokevirtual 93, 3) := by decide +kernel
theorem dX3_firstFitting_42 : decode cX3_firstFitting 42 = .ok (.ireturn, 1) := by decide +kernel
theorem dX3_greatest_0 : decode cX3_greatest 0 = .ok (.iconst 0, 1) := by decide +kernel
theorem dX3_greatest_1 : decode cX3_greatest 1 = .ok (.istore 4, 2) := by decide +kernel
theorem dX3_greatest_3 : decode cX3_greatest 3 = .ok (.iload 4, 2) := by decide +kernel
theorem dX3_greatest_5 : decode cX3_greatest 5 = .ok (.iconst 4, 1) := by decide +kernel
theorem dX3_greatest_6 : decode cX3_greatest 6 = .ok (.if_icmp .ge 17, 3) := by decide +kernel
theorem dX3_greatest_9 : decode cX3_greatest 9 = .ok (.aload_n 0, 1) := by decide +kernel
theorem dX3_greatest_10 : decode cX3_greatest 10 = .ok (.getfield 75, 3) := by decide +kernel
theorem dX3_greatest_13 : decode cX3_greatest 13 = .ok (.iload 4, 2) := by decide +kernel
theorem dX3_greatest_15 : decode cX3_greatest 15 = .ok (.iconst 0, 1) := by decide +kernel
theorem dX3_greatest_16 : decode cX3_greatest 16 = .ok (.iastore, 1) := by decide +kernel
theorem dX3_greatest_17 : decode cX3_greatest 17 = .ok (.iinc 4 1, 3) := by decide +kernel
theorem dX3_greatest_20 : decode cX3_greatest 20 = .ok (.goto (-17), 3) := by decide +kernel
theorem dX3_greatest_23 : decode cX3_greatest 23 = .ok (.iconst 0, 1) := by decide +kernel
theorem dX3_greatest_24 : decode cX3_greatest 24 = .ok (.istore 4, 2) := by decide +kernel
theorem dX3_greatest_26 : decode cX3_greatest 26 = .ok (.iload 4, 2) := by decide +kernel
theorem dX3_greatest_28 : decode cX3_greatest 28 = .ok (.aload_n 0, 1) := by decide +kernel
theorem dX3_greatest_29 : decode cX3_greatest 29 = .ok (.getfield 100, 3) := by decide +kernel
theorem dX3_greatest_32 : decode cX3_greatest 32 = .ok (.if_icmp .ge 71, 3) := by decide +kernel
theorem dX3_greatest_35 : decode cX3_greatest 35 = .ok (.aload_n 0, 1) := by decide +kernel
theorem dX3_greatest_36 : decode cX3_greatest 36 = .ok (.getfield 31, 3) := by decide +kernel
theorem dX3_greatest_39 : decode cX3_greatest 39 = .ok (.iload 4, 2) := by decide +kernel
theorem dX3_greatest_41 : decode cX3_greatest 41 = .ok (.baload, 1) := by decide +kernel
theorem dX3_greatest_42 : decode cX3_greatest 42 = .ok (.ifCond .ne 55, 3) := by decide +kernel
theorem dX3_greatest_45 : decode cX3_greatest 45 = .ok (.aload_n 0, 1) := by decide +kernel
theorem dX3_greatest_46 : decode cX3_greatest 46 = .ok (.getfield 69, 3) := by decide +kernel
theorem dX3_greatest_49 : decode cX3_greatest 49 = .ok (.iload 4, 2) := by decide +kernel
theorem dX3_greatest_51 : decode cX3_greatest 51 = .ok (.iaload, 1) := by decide +kernel
theorem dX3_greatest_52 : decode cX3_greatest 52 = .ok (.iload_n 1, 1) := by decide +kernel
theorem dX3_greatest_53 : decode cX3_greatest 53 = .ok (.if_icmp .ne 44, 3) := by decide +kernel
theorem dX3_greatest_56 : decode cX3_greatest 56 = .ok (.iload_n 3, 1) := by decide +kernel
theorem dX3_greatest_57 : decode cX3_greatest 57 = .ok (.ifCond .eq 13, 3) := by decide +kernel
theorem dX3_greatest_60 : decode cX3_greatest 60 = .ok (.aload_n 0, 1) := by decide +kernel
theorem dX3_greatest_61 : decode cX3_greatest 61 = .ok (.getfield 22, 3) := by decide +kernel
theorem dX3_greatest_64 : decode cX3_greatest 64 = .ok (.iload 4, 2) := by decide +kernel
theorem dX3_greatest_66 : decode cX3_greatest 66 = .ok (.iaload, 1) := by decide +kernel
theorem dX3_greatest_67 : decode cX3_greatest 67 = .ok (.goto 10, 3) := by decide +kernel
theorem dX3_greatest_70 : decode cX3_greatest 70 = .ok (.aload_n 0, 1) := by decide +kernel
theorem dX3_greatest_71 : decode cX3_greatest 71 = .ok (.getfield 19, 3) := by decide +kernel
theorem dX3_greatest_74 : decode cX3_greatest 74 = .ok (.iload 4, 2) := by decide +kernel
theorem dX3_greatest_76 : decode cX3_greatest 76 = .ok (.iaload, 1) := by decide +kernel
theorem dX3_greatest_77 : decode cX3_greatest 77 = .ok (.iload_n 2, 1) := by decide +kernel
theorem dX3_greatest_78 : decode cX3_greatest 78 = .ok (.if_icmp .ne 19, 3) := by decide +kernel
theorem dX3_greatest_81 : decode cX3_greatest 81 = .ok (.aload_n 0, 1) := by decide +kernel
theorem dX3_greatest_82 : decode cX3_greatest 82 = .ok (.getfield 75, 3) := by decide +kernel
theorem dX3_greatest_85 : decode cX3_greatest 85 = .ok (.aload_n 0, 1) := by decide +kernel
theorem dX3_greatest_86 : decode cX3_greatest 86 = .ok (.getfield 7, 3) := by decide +kernel
theorem dX3_greatest_89 : decode cX3_greatest 89 = .ok (.iload 4, 2) := by decide +kernel
theorem dX3_greatest_91 : decode cX3_greatest 91 = .ok (.iaload, 1) := by decide +kernel
theorem dX3_greatest_92 : decode cX3_greatest 92 = .ok (.dup2, 1) := by decide +kernel
theorem dX3_greatest_93 : decode cX3_greatest 93 = .ok (.iaload, 1) := by decide +kernel
theorem dX3_greatest_94 : decode cX3_greatest 94 = .ok (.iconst 1, 1) := by decide +kernel
theorem dX3_greatest_95 : decode cX3_greatest 95 = .ok (.iadd, 1) := by decide +kernel
theorem dX3_greatest_96 : decode cX3_greatest 96 = .ok (.iastore, 1) := by decide +kernel
theorem dX3_greatest_97 : decode cX3_greatest 97 = .ok (.iinc 4 1, 3) := by decide +kernel
theorem dX3_greatest_100 : decode cX3_greatest 100 = .ok (.goto (-74), 3) := by decide +kernel
theorem dX3_greatest_103 : decode cX3_greatest 103 = .ok (.iconst 0, 1) := by decide +kernel
theorem dX3_greatest_104 : decode cX3_greatest 104 = .ok (.istore 4, 2) := by decide +kernel
theorem dX3_greatest_106 : decode cX3_greatest 106 = .ok (.iconst 0, 1) := by decide +kernel
theorem dX3_greatest_107 : decode cX3_greatest 107 = .ok (.istore 5, 2) := by decide +kernel
theorem dX3_greatest_109 : decode cX3_greatest 109 = .ok (.iload 5, 2) := by decide +kernel
theorem dX3_greatest_111 : decode cX3_greatest 111 = .ok (.iconst 4, 1) := by decide +kernel
theorem dX3_greatest_112 : decode cX3_greatest 112 = .ok (.if_icmp .ge 30, 3) := by decide +kernel
theorem dX3_greatest_115 : decode cX3_greatest 115 = .ok (.aload_n 0, 1) := by decide +kernel
theorem dX3_greatest_116 : decode cX3_greatest 116 = .ok (.getfield 75, 3) := by decide +kernel
theorem dX3_greatest_119 : decode cX3_greatest 119 = .ok (.iload 5, 2) := by decide +kernel
theorem dX3_greatest_121 : decode cX3_greatest 121 = .ok (.iaload, 1) := by decide +kernel
theorem dX3_greatest_122 : decode cX3_greatest 122 = .ok (.iload 4, 2) := by decide +kernel
theorem dX3_greatest_124 : decode cX3_greatest 124 = .ok (.if_icmp .le 12, 3) := by decide +kernel
theorem dX3_greatest_127 : decode cX3_greatest 127 = .ok (.aload_n 0, 1) := by decide +kernel
theorem dX3_greatest_128 : decode cX3_greatest 128 = .ok (.getfield 75, 3) := by decide +kernel
theorem dX3_greatest_131 : decode cX3_greatest 131 = .ok (.iload 5, 2) := by decide +kernel
theorem dX3_greatest_133 : decode cX3_greatest 133 = .ok (.iaload, 1) := by decide +kernel
theorem dX3_greatest_134 : decode cX3_greatest 134 = .ok (.istore 4, 2) := by decide +kernel
theorem dX3_greatest_136 : decode cX3_greatest 136 = .ok (.iinc 5 1, 3) := by decide +kernel
theorem dX3_greatest_139 : decode cX3_greatest 139 = .ok (.goto (-30), 3) := by decide +kernel
theorem dX3_greatest_142 : decode cX3_greatest 142 = .ok (.iload 4, 2) := by decide +kernel
theorem dX3_greatest_144 : decode cX3_greatest 144 = .ok (.ireturn, 1) := by decide +kernel
theorem dX3_needs_0 : decode cX3_needs 0 = .ok (.iconst 0, 1) := by decide +kernel
theorem dX3_needs_1 : decode cX3_needs 1 = .ok (.istore_n 2, 1) := by decide +kernel
theorem dX3_needs_2 : decode cX3_needs 2 = .ok (.aload_n 0, 1) := by decide +kernel
theorem dX3_needs_3 : decode cX3_needs 3 = .ok (.getfield 65, 3) := by decide +kernel
theorem dX3_needs_6 : decode cX3_needs 6 = .ok (.iload_n 1, 1) := by decide +kernel
theorem dX3_needs_7 : decode cX3_needs 7 = .ok (.caload, 1) := by decide +kernel
theorem dX3_needs_8 : decode cX3_needs 8 = .ok (.bipush 99, 2) := by decide +kernel
theorem dX3_needs_10 : decode cX3_needs 10 = .ok (.if_icmp .ne 73, 3) := by decide +kernel
theorem dX3_needs_13 : decode cX3_needs 13 = .ok (.iconst 0, 1) := by decide +kernel
theorem dX3_needs_14 : decode cX3_needs 14 = .ok (.istore_n 3, 1) := by decide +kernel
theorem dX3_needs_15 : decode cX3_needs 15 = .ok (.iload_n 3, 1) := by decide +kernel
theorem dX3_needs_16 : decode cX3_needs 16 = .ok (.aload_n 0, 1) := by decide +kernel
theorem dX3_needs_17 : decode cX3_needs 17 = .ok (.getfield 100, 3) := by decide +kernel
theorem dX3_needs_20 : decode cX3_needs 20 = .ok (.if_icmp .ge 61, 3) := by decide +kernel
theorem dX3_needs_23 : decode cX3_needs 23 = .ok (.aload_n 0, 1) := by decide +kernel
theorem dX3_needs_24 : decode cX3_needs 24 = .ok (.getfield 31, 3) := by decide +kernel
theorem dX3_needs_27 : decode cX3_needs 27 = .ok (.iload_n 3, 1) := by decide +kernel
theorem dX3_needs_28 : decode cX3_needs 28 = .ok (.baload, 1) := by decide +kernel
theorem dX3_needs_29 : decode cX3_needs 29 = .ok (.ifCond .ne 46, 3) := by decide +kernel
theorem dX3_needs_32 : decode cX3_needs 32 = .ok (.aload_n 0, 1) := by decide +kernel
theorem dX3_needs_33 : decode cX3_needs 33 = .ok (.getfield 69, 3) := by decide +kernel
theorem dX3_needs_36 : decode cX3_needs 36 = .ok (.iload_n 3, 1) := by decide +kernel
theorem dX3_needs_37 : decode cX3_needs 37 = .ok (.iaload, 1) := by decide +kernel
theorem dX3_needs_38 : decode cX3_needs 38 = .ok (.iload_n 1, 1) := by decide +kernel
theorem dX3_needs_39 : decode cX3_needs 39 = .ok (.if_icmp .ne 36, 3) := by decide +kernel
theorem dX3_needs_42 : decode cX3_needs 42 = .ok (.iload_n 2, 1) := by decide +kernel
theorem dX3_needs_43 : decode cX3_needs 43 = .ok (.aload_n 0, 1) := by decide +kernel
theorem dX3_needs_44 : decode cX3_needs 44 = .ok (.getfield 25, 3) := by decide +kernel
theorem dX3_needs_47 : decode cX3_needs 47 = .ok (.iload_n 3, 1) := by decide +kernel
theorem dX3_needs_48 : decode cX3_needs 48 = .ok (.iaload, 1) := by decide +kernel
theorem dX3_needs_49 : decode cX3_needs 49 = .ok (.aload_n 0, 1) := by decide +kernel
theorem dX3_needs_50 : decode cX3_needs 50 = .ok (.getfield 59, 3) := by decide +kernel
theorem dX3_needs_53 : decode cX3_needs 53 = .ok (.iload_n 1, 1) := by decide +kernel
theorem dX3_needs_54 : decode cX3_needs 54 = .ok (.iaload, 1) := by decide +kernel
theorem dX3_needs_55 : decode cX3_needs 55 = .ok (.if_icmp .le 12, 3) := by decide +kernel
theorem dX3_needs_58 : decode cX3_needs 58 = .ok (.aload_n 0, 1) := by decide +kernel
theorem dX3_needs_59 : decode cX3_needs 59 = .ok (.getfield 25, 3) := by decide +kernel
theorem dX3_needs_62 : decode cX3_needs 62 = .ok (.iload_n 3, 1) := by decide +kernel
theorem dX3_needs_63 : decode cX3_needs 63 = .ok (.iaload, 1) := by decide +kernel
theorem dX3_needs_64 : decode cX3_needs 64 = .ok (.goto 9, 3) := by decide +kernel
theorem dX3_needs_67 : decode cX3_needs 67 = .ok (.aload_n 0, 1) := by decide +kernel
theorem dX3_needs_68 : decode cX3_needs 68 = .ok (.getfield 59, 3) := by decide +kernel
theorem dX3_needs_71 : decode cX3_needs 71 = .ok (.iload_n 1, 1) := by decide +kernel
theorem dX3_needs_72 : decode cX3_needs 72 = .ok (.iaload, 1) := by decide +kernel
theorem dX3_needs_73 : decode cX3_needs 73 = .ok (.iadd, 1) := by decide +kernel
theorem dX3_needs_74 : decode cX3_needs 74 = .ok (.istore_n 2, 1) := by decide +kernel
theorem dX3_needs_75 : decode cX3_needs 75 = .ok (.iinc 3 1, 3) := by decide +kernel
theorem dX3_needs_78 : decode cX3_needs 78 = .ok (.goto (-63), 3) := by decide +kernel
theorem dX3_needs_81 : decode cX3_needs 81 = .ok (.iload_n 2, 1) := by decide +kernel
theorem dX3_needs_82 : decode cX3_needs 82 = .ok (.ireturn, 1) := by decide +kernel
theorem dX3_needs_83 : decode cX3_needs 83 = .ok (.iconst 0, 1) := by decide +kernel
theorem dX3_needs_84 : decode cX3_needs 84 = .ok (.istore_n 3, 1) := by decide +kernel
theorem dX3_needs_85 : decode cX3_needs 85 = .ok (.iload_n 3, 1) := by decide +kernel
theorem dX3_needs_86 : decode cX3_needs 86 = .ok (.bipush 10, 2) := by decide +kernel
theorem dX3_needs_88 : decode cX3_needs 88 = .ok (.if_icmp .ge 67, 3) := by decide +kernel
theorem dX3_needs_91 : decode cX3_needs 91 = .ok (.aload_n 0, 1) := by decide +kernel
theorem dX3_needs_92 : decode cX3_needs 92 = .ok (.iload_n 1, 1) := by decide +kernel
theorem dX3_needs_93 : decode cX3_needs 93 = .ok (.iload_n 3, 1) := by decide +kernel
theorem dX3_needs_94 : decode cX3_needs 94 = .ok (.aload_n 0, 1) := by decide +kernel
theorem dX3_needs_95 : decode cX3_needs 95 = .ok (.getfield 65, 3) := by decide +kernel
theorem dX3_needs_98 : decode cX3_needs 98 = .ok (.iload_n 1, 1) := by decide +kernel
theorem dX3_needs_99 : decode cX3_needs 99 = .ok (.caload, 1) := by decide +kernel
theorem dX3_needs_100 : decode cX3_needs 100 = .ok (.bipush 117, 2) := by decide +kernel
theorem dX3_needs_102 : decode cX3_needs 102 = .ok (.if_icmp .ne 7, 3) := by decide +kernel
theorem dX3_needs_105 : decode cX3_needs 105 = .ok (.iconst 1, 1) := by decide +kernel
theorem dX3_needs_106 : decode cX3_needs 106 = .ok (.goto 4, 3) := by decide +kernel
theorem dX3_needs_109 : decode cX3_needs 109 = .ok (.iconst 0, 1) := by decide +kernel
theorem dX3_needs_110 : decode cX3_needs 110 = .ok (.invokevirtual 122, 3) := by decide +kernel
theorem dX3_needs_113 : decode cX3_needs 113 = .ok (.istore 4, 2) := by decide +kernel
theorem dX3_needs_115 : decode cX3_needs 115 = .ok (.iload_n 2, 1) := by decide +kernel
theorem dX3_needs_116 : decode cX3_needs 116 = .ok (.aload_n 0, 1) := by decide +kernel
theorem dX3_needs_117 : decode cX3_needs 117 = .ok (.getfield 65, 3) := by decide +kernel
theorem dX3_needs_120 : decode cX3_needs 120 = .ok (.iload_n 1, 1) := by decide +kernel
theorem dX3_needs_121 : decode cX3_needs 121 = .ok (.caload, 1) := by decide +kernel
theorem dX3_needs_122 : decode cX3_needs 122 = .ok (.bipush 117, 2) := by decide +kernel
theorem dX3_needs_124 : decode cX3_needs 124 = .ok (.if_icmp .ne 21, 3) := by decide +kernel
theorem dX3_needs_127 : decode cX3_needs 127 = .ok (.aload_n 0, 1) := by decide +kernel
theorem dX3_needs_128 : decode cX3_needs 128 = .ok (.getfield 41, 3) := by decide +kernel
theorem dX3_needs_131 : decode cX3_needs 131 = .ok (.iload_n 1, 1) := by decide +kernel
theorem dX3_needs_132 : decode cX3_needs 132 = .ok (.baload, 1) := by decide +kernel
theorem dX3_needs_133 : decode cX3_needs 133 = .ok (.ifCond .eq 12, 3) := by decide +kernel
theorem dX3_needs_136 : decode cX3_needs 136 = .ok (.iload 4, 2) := by decide +kernel
theorem dX3_needs_138 : decode cX3_needs 138 = .ok (.iconst 1, 1) := by decide +kernel
theorem dX3_needs_139 : decode cX3_needs 139 = .ok (.iadd, 1) := by decide +kernel
theorem dX3_needs_140 : decode cX3_needs 140 = .ok (.iconst 2, 1) := by decide +kernel
theorem dX3_needs_141 : decode cX3_needs 141 = .ok (.idiv, 1) := by decide +kernel
theorem dX3_needs_142 : decode cX3_needs 142 = .ok (.goto 5, 3) := by decide +kernel
theorem dX3_needs_145 : decode cX3_needs 145 = .ok (.iload 4, 2) := by decide +kernel
theorem dX3_needs_147 : decode cX3_needs 147 = .ok (.iadd, 1) := by decide +kernel
theorem dX3_needs_148 : decode cX3_needs 148 = .ok (.istore_n 2, 1) := by decide +kernel
theorem dX3_needs_149 : decode cX3_needs 149 = .ok (.iinc 3 1, 3) := by decide +kernel
theorem dX3_needs_152 : decode cX3_needs 152 = .ok (.goto (-67), 3) := by decide +kernel
theorem dX3_needs_155 : decode cX3_needs 155 = .ok (.iload_n 2, 1) := by decide +kernel
theorem dX3_needs_156 : decode cX3_needs 156 = .ok (.ireturn, 1) := by decide +kernel
theorem dX3_unitsForAll_0 : decode cX3_unitsForAll 0 = .ok (.aload_n 0, 1) := by decide +kernel
theorem dX3_unitsForAll_1 : decode cX3_unitsForAll 1 = .ok (.iload_n 1, 1) := by decide +kernel
theorem dX3_unitsForAll_2 : decode cX3_unitsForAll 2 = .ok (.invokevirtual 106, 3) := by decide +kernel
theorem dX3_unitsForAll_5 : decode cX3_unitsForAll 5 = .ok (.ifCond .eq 5, 3) := by decide +kernel
theorem dX3_unitsForAll_8 : decode cX3_unitsForAll 8 = .ok (.iconst 0, 1) := by decide +kernel
theorem dX3_unitsForAll_9 : decode cX3_unitsForAll 9 = .ok (.ireturn, 1) := by decide +kernel
theorem dX3_unitsForAll_10 : decode cX3_unitsForAll 10 = .ok (.iconst 0, 1) := by decide +kernel
theorem dX3_unitsForAll_11 : decode cX3_unitsForAll 11 = .ok (.istore_n 2, 1) := by decide +kernel
theorem dX3_unitsForAll_12 : decode cX3_unitsForAll 12 = .ok (.iload_n 2, 1) := by decide +kernel
theorem dX3_unitsForAll_13 : decode cX3_unitsForAll 13 = .ok (.aload_n 0, 1) := by decide +kernel
theorem dX3_unitsForAll_14 : decode cX3_unitsForAll 14 = .ok (.getfield 100, 3) := by decide +kernel
theorem dX3_unitsForAll_17 : decode cX3_unitsForAll 17 = .ok (.if_icmp .ge 29, 3) := by decide +kernel
theorem dX3_unitsForAll_20 : decode cX3_unitsForAll 20 = .ok (.aload_n 0, 1) := by decide +kernel
theorem dX3_unitsForAll_21 : decode cX3_unitsForAll 21 = .ok (.getfield 69, 3) := by decide +kernel
theorem dX3_unitsForAll_24 : decode cX3_unitsForAll 24 = .ok (.iload_n 2, 1) := by decide +kernel
theorem dX3_unitsForAll_25 : decode cX3_unitsForAll 25 = .ok (.aload_n 0, 1) := by decide +kernel
theorem dX3_unitsForAll_26 : decode cX3_unitsForAll 26 = .ok (.iload_n 2, 1) := by decide +kernel
theorem dX3_unitsForAll_27 : decode cX3_unitsForAll 27 = .ok (.iload_n 1, 1) := by decide +kernel
theorem dX3_unitsForAll_28 : decode cX3_unitsForAll 28 = .ok (.invokevirtual 117, 3) := by decide +kernel
theorem dX3_unitsForAll_31 : decode cX3_unitsForAll 31 = .ok (.ifCond .eq 7, 3) := by decide +kernel
theorem dX3_unitsForAll_34 : decode cX3_unitsForAll 34 = .ok (.iload_n 1, 1) := by decide +kernel
theorem dX3_unitsForAll_35 : decode cX3_unitsForAll 35 = .ok (.goto 4, 3) := by decide +kernel
theorem dX3_unitsForAll_38 : decode cX3_unitsForAll 38 = .ok (.iconst (-1), 1) := by decide +kernel
theorem dX3_unitsForAll_39 : decode cX3_unitsForAll 39 = .ok (.iastore, 1) := by decide +kernel
theorem dX3_unitsForAll_40 : decode cX3_unitsForAll 40 = .ok (.iinc 2 1, 3) := by decide +kernel
theorem dX3_unitsForAll_43 : decode cX3_unitsForAll 43 = .ok (.goto (-31), 3) := by decide +kernel
theorem dX3_unitsForAll_46 : decode cX3_unitsForAll 46 = .ok (.aload_n 0, 1) := by decide +kernel
theorem dX3_unitsForAll_47 : decode cX3_unitsForAll 47 = .ok (.iload_n 1, 1) := by decide +kernel
theorem dX3_unitsForAll_48 : decode cX3_unitsForAll 48 = .ok (.invokevirtual 126, 3) := by decide +kernel
theorem dX3_unitsForAll_51 : decode cX3_unitsForAll 51 = .ok (.ireturn, 1) := by decide +kernel
theorem dX3_take_0 : decode cX3_take 0 = .ok (.iconst 0, 1) := by decide +kernel
theorem dX3_take_1 : decode cX3_take 1 = .ok (.istore_n 1, 1) := by decide +kernel
theorem dX3_take_2 : decode cX3_take 2 = .ok (.iload_n 1, 1) := by decide +kernel
theorem dX3_take_3 : decode cX3_take 3 = .ok (.aload_n 0, 1) := by decide +kernel
theorem dX3_take_4 : decode cX3_take 4 = .ok (.getfield 100, 3) := by decide +kernel
theorem dX3_take_7 : decode cX3_take 7 = .ok (.if_icmp .ge 21, 3) := by decide +kernel
theorem dX3_take_10 : decode cX3_take 10 = .ok (.aload_n 0, 1) := by decide +kernel
theorem dX3_take_11 : decode cX3_take 11 = .ok (.getfield 72, 3) := by decide +kernel
theorem dX3_take_14 : decode cX3_take 14 = .ok (.iload_n 1, 1) := by decide +kernel
theorem dX3_take_15 : decode cX3_take 15 = .ok (.aload_n 0, 1) := by decide +kernel
theorem dX3_take_16 : decode cX3_take 16 = .ok (.getfield 69, 3) := by decide +kernel
theorem dX3_take_19 : decode cX3_take 19 = .ok (.iload_n 1, 1) := by decide +kernel
theorem dX3_take_20 : decode cX3_take 20 = .ok (.iaload, 1) := by decide +kernel
theorem dX3_take_21 : decode cX3_take 21 = .ok (.iastore, 1) := by decide +kernel
theorem dX3_take_22 : decode cX3_take 22 = .ok (.iinc 1 1, 3) := by decide +kernel
theorem dX3_take_25 : decode cX3_take 25 = .ok (.goto (-23), 3) := by decide +kernel
theorem dX3_take_28 : decode cX3_take 28 = .ok (.return_, 1) := by decide +kernel
theorem dX3_put_0 : decode cX3_put 0 = .ok (.iconst 0, 1) := by decide +kernel
theorem dX3_put_1 : decode cX3_put 1 = .ok (.istore_n 1, 1) := by decide +kernel
theorem dX3_put_2 : decode cX3_put 2 = .ok (.iload_n 1, 1) := by decide +kernel
theorem dX3_put_3 : decode cX3_put 3 = .ok (.aload_n 0, 1) := by decide +kernel
theorem dX3_put_4 : decode cX3_put 4 = .ok (.getfield 100, 3) := by decide +kernel
theorem dX3_put_7 : decode cX3_put 7 = .ok (.if_icmp .ge 21, 3) := by decide +kernel
theorem dX3_put_10 : decode cX3_put 10 = .ok (.aload_n 0, 1) := by decide +kernel
theorem dX3_put_11 : decode cX3_put 11 = .ok (.getfield 69, 3) := by decide +kernel
theorem dX3_put_14 : decode cX3_put 14 = .ok (.iload_n 1, 1) := by decide +kernel
theorem dX3_put_15 : decode cX3_put 15 = .ok (.aload_n 0, 1) := by decide +kernel
theorem dX3_put_16 : decode cX3_put 16 = .ok (.getfield 72, 3) := by decide +kernel
theorem dX3_put_19 : decode cX3_put 19 = .ok (.iload_n 1, 1) := by decide +kernel
theorem dX3_put_20 : decode cX3_put 20 = .ok (.iaload, 1) := by decide +kernel
theorem dX3_put_21 : decode cX3_put 21 = .ok (.iastore, 1) := by decide +kernel
theorem dX3_put_22 : decode cX3_put 22 = .ok (.iinc 1 1, 3) := by decide +kernel
theorem dX3_put_25 : decode cX3_put 25 = .ok (.goto (-23), 3) := by decide +kernel
theorem dX3_put_28 : decode cX3_put 28 = .ok (.return_, 1) := by decide +kernel
theorem dX3_begin_0 : decode cX3_begin 0 = .ok (.aload_n 0, 1) := by decide +kernel
theorem dX3_begin_1 : decode cX3_begin 1 = .ok (.iconst (-1), 1) := by decide +kernel
theorem dX3_begin_2 : decode cX3_begin 2 = .ok (.putfield 129, 3) := by decide +kernel
theorem dX3_begin_5 : decode cX3_begin 5 = .ok (.iconst 0, 1) := by decide +kernel
theorem dX3_begin_6 : decode cX3_begin 6 = .ok (.istore_n 1, 1) := by decide +kernel
theorem dX3_begin_7 : decode cX3_begin 7 = .ok (.iload_n 1, 1) := by decide +kernel
theorem dX3_begin_8 : decode cX3_begin 8 = .ok (.aload_n 0, 1) := by decide +kernel
theorem dX3_begin_9 : decode cX3_begin 9 = .ok (.getfield 100, 3) := by decide +kernel
theorem dX3_begin_12 : decode cX3_begin 12 = .ok (.if_icmp .ge 16, 3) := by decide +kernel
theorem dX3_begin_15 : decode cX3_begin 15 = .ok (.aload_n 0, 1) := by decide +kernel
theorem dX3_begin_16 : decode cX3_begin 16 = .ok (.getfield 69, 3) := by decide +kernel
theorem dX3_begin_19 : decode cX3_begin 19 = .ok (.iload_n 1, 1) := by decide +kernel
theorem dX3_begin_20 : decode cX3_begin 20 = .ok (.iconst (-1), 1) := by decide +kernel
theorem dX3_begin_21 : decode cX3_begin 21 = .ok (.iastore, 1) := by decide +kernel
theorem dX3_begin_22 : decode cX3_begin 22 = .ok (.iinc 1 1, 3) := by decide +kernel
theorem dX3_begin_25 : decode cX3_begin 25 = .ok (.goto (-18), 3) := by decide +kernel
theorem dX3_begin_28 : decode cX3_begin 28 = .ok (.return_, 1) := by decide +kernel
theorem dX3_isAllowed_0 : decode cX3_isAllowed 0 = .ok (.aload_n 0, 1) := by decide +kernel
theorem dX3_isAllowed_1 : decode cX3_isAllowed 1 = .ok (.iload_n 1, 1) := by decide +kernel
theorem dX3_isAllowed_2 : decode cX3_isAllowed 2 = .ok (.invokevirtual 126, 3) := by decide +kernel
theorem dX3_isAllowed_5 : decode cX3_isAllowed 5 = .ok (.aload_n 0, 1) := by decide +kernel
theorem dX3_isAllowed_6 : decode cX3_isAllowed 6 = .ok (.getfield 53, 3) := by decide +kernel
theorem dX3_isAllowed_9 : decode cX3_isAllowed 9 = .ok (.iload_n 1, 1) := by decide +kernel
theorem dX3_isAllowed_10 : decode cX3_isAllowed 10 = .ok (.iaload, 1) := by decide +kernel
theorem dX3_isAllowed_11 : decode cX3_isAllowed 11 = .ok (.if_icmp .gt 7, 3) := by decide +kernel
theorem dX3_isAllowed_14 : decode cX3_isAllowed 14 = .ok (.iconst 1, 1) := by decide +kernel
theorem dX3_isAllowed_15 : decode cX3_isAllowed 15 = .ok (.goto 4, 3) := by decide +kernel
theorem dX3_isAllowed_18 : decode cX3_isAllowed 18 = .ok (.iconst 0, 1) := by decide +kernel
theorem dX3_isAllowed_19 : decode cX3_isAllowed 19 = .ok (.ireturn, 1) := by decide +kernel
theorem dX3_covers_0 : decode cX3_covers 0 = .ok (.iload_n 2, 1) := by decide +kernel
theorem dX3_covers_1 : decode cX3_covers 1 = .ok (.iload_n 3, 1) := by decide +kernel
theorem dX3_covers_2 : decode cX3_covers 2 = .ok (.iadd, 1) := by decide +kernel
theorem dX3_covers_3 : decode cX3_covers 3 = .ok (.aload_n 0, 1) := by decide +kernel
theorem dX3_covers_4 : decode cX3_covers 4 = .ok (.getfield 129, 3) := by decide +kernel
theorem dX3_covers_7 : decode cX3_covers 7 = .ok (.if_icmp .gt 4, 3) := by decide +kernel
theorem dX3_covers_10 : decode cX3_covers 10 = .ok (.return_, 1) := by decide +kernel
theorem dX3_covers_11 : decode cX3_covers 11 = .ok (.iload_n 1, 1) := by decide +kernel
theorem dX3_covers_12 : decode cX3_covers 12 = .ok (.aload_n 0, 1) := by decide +kernel
theorem dX3_covers_13 : decode cX3_covers 13 = .ok (.getfield 100, 3) := by decide +kernel
theorem dX3_covers_16 : decode cX3_covers 16 = .ok (.if_icmp .ne 13, 3) := by decide +kernel
theorem dX3_covers_19 : decode cX3_covers 19 = .ok (.aload_n 0, 1) := by decide +kernel
theorem dX3_covers_20 : decode cX3_covers 20 = .ok (.iload_n 2, 1) := by decide +kernel
theorem dX3_covers_21 : decode cX3_covers 21 = .ok (.putfield 129, 3) := by decide +kernel
theorem dX3_covers_24 : decode cX3_covers 24 = .ok (.aload_n 0, 1) := by decide +kernel
theorem dX3_covers_25 : decode cX3_covers 25 = .ok (.invokevirtual 132, 3) := by decide +kernel
theorem dX3_covers_28 : decode cX3_covers 28 = .ok (.return_, 1) := by decide +kernel
theorem dX3_covers_29 : decode cX3_covers 29 = .ok (.aload_n 0, 1) := by decide +kernel
theorem dX3_covers_30 : decode cX3_covers 30 = .ok (.getfield 31, 3) := by decide +kernel
theorem dX3_covers_33 : decode cX3_covers 33 = .ok (.iload_n 1, 1) := by decide +kernel
theorem dX3_covers_34 : decode cX3_covers 34 = .ok (.baload, 1) := by decide +kernel
theorem dX3_covers_35 : decode cX3_covers 35 = .ok (.ifCond .eq 13, 3) := by decide +kernel
theorem dX3_covers_38 : decode cX3_covers 38 = .ok (.aload_n 0, 1) := by decide +kernel
theorem dX3_covers_39 : decode cX3_covers 39 = .ok (.iload_n 1, 1) := by decide +kernel
theorem dX3_covers_40 : decode cX3_covers 40 = .ok (.iconst 1, 1) := by decide +kernel
theorem dX3_covers_41 : decode cX3_covers 41 = .ok (.iadd, 1) := by decide +kernel
theorem dX3_covers_42 : decode cX3_covers 42 = .ok (.iload_n 2, 1) := by decide +kernel
theorem dX3_covers_43 : decode cX3_covers 43 = .ok (.iload_n 3, 1) := by decide +kernel
theorem dX3_covers_44 : decode cX3_covers 44 = .ok (.invokevirtual 135, 3) := by decide +kernel
theorem dX3_covers_47 : decode cX3_covers 47 = .ok (.return_, 1) := by decide +kernel
theorem dX3_covers_48 : decode cX3_covers 48 = .ok (.iconst 0, 1) := by decide +kernel
theorem dX3_covers_49 : decode cX3_covers 49 = .ok (.istore 4, 2) := by decide +kernel
theorem dX3_covers_51 : decode cX3_covers 51 = .ok (.iload 4, 2) := by decide +kernel
theorem dX3_covers_53 : decode cX3_covers 53 = .ok (.aload_n 0, 1) := by decide +kernel
theorem dX3_covers_54 : decode cX3_covers 54 = .ok (.getfield 86, 3) := by decide +kernel
theorem dX3_covers_57 : decode cX3_covers 57 = .ok (.if_icmp .ge 52, 3) := by decide +kernel
theorem dX3_covers_60 : decode cX3_covers 60 = .ok (.aload_n 0, 1) := by decide +kernel
theorem dX3_covers_61 : decode cX3_covers 61 = .ok (.iload_n 1, 1) := by decide +kernel
theorem dX3_covers_62 : decode cX3_covers 62 = .ok (.iload 4, 2) := by decide +kernel
theorem dX3_covers_64 : decode cX3_covers 64 = .ok (.invokevirtual 117, 3) := by decide +kernel
theorem dX3_covers_67 : decode cX3_covers 67 = .ok (.ifCond .ne 6, 3) := by decide +kernel
theorem dX3_covers_70 : decode cX3_covers 70 = .ok (.goto 33, 3) := by decide +kernel
theorem dX3_covers_73 : decode cX3_covers 73 = .ok (.aload_n 0, 1) := by decide +kernel
theorem dX3_covers_74 : decode cX3_covers 74 = .ok (.getfield 69, 3) := by decide +kernel
theorem dX3_covers_77 : decode cX3_covers 77 = .ok (.iload_n 1, 1) := by decide +kernel
theorem dX3_covers_78 : decode cX3_covers 78 = .ok (.iload 4, 2) := by decide +kernel
theorem dX3_covers_80 : decode cX3_covers 80 = .ok (.iastore, 1) := by decide +kernel
theorem dX3_covers_81 : decode cX3_covers 81 = .ok (.aload_n 0, 1) := by decide +kernel
theorem dX3_covers_82 : decode cX3_covers 82 = .ok (.iload 4, 2) := by decide +kernel
theorem dX3_covers_84 : decode cX3_covers 84 = .ok (.invokevirtual 139, 3) := by decide +kernel
theorem dX3_covers_87 : decode cX3_covers 87 = .ok (.ifCond .eq 16, 3) := by decide +kernel
theorem dX3_covers_90 : decode cX3_covers 90 = .ok (.aload_n 0, 1) := by decide +kernel
theorem dX3_covers_91 : decode cX3_covers 91 = .ok (.iload_n 1, 1) := by decide +kernel
theorem dX3_covers_92 : decode cX3_covers 92 = .ok (.iconst 1, 1) := by decide +kernel
theorem dX3_covers_93 : decode cX3_covers 93 = .ok (.iadd, 1) := by decide +kernel
theorem dX3_covers_94 : decode cX3_covers 94 = .ok (.iload_n 2, 1) := by decide +kernel
theorem dX3_covers_95 : decode cX3_covers 95 = .ok (.iconst 1, 1) := by decide +kernel
theorem dX3_covers_96 : decode cX3_covers 96 = .ok (.iadd, 1) := by decide +kernel
theorem dX3_covers_97 : decode cX3_covers 97 = .ok (.iload_n 3, 1) := by decide +kernel
theorem dX3_covers_98 : decode cX3_covers 98 = .ok (.iconst 1, 1) := by decide +kernel
theorem dX3_covers_99 : decode cX3_covers 99 = .ok (.isub, 1) := by decide +kernel
theorem dX3_covers_100 : decode cX3_covers 100 = .ok (.invokevirtual 135, 3) := by decide +kernel
theorem dX3_covers_103 : decode cX3_covers 103 = .ok (.iinc 4 1, 3) := by decide +kernel
theorem dX3_covers_106 : decode cX3_covers 106 = .ok (.goto (-55), 3) := by decide +kernel
theorem dX3_covers_109 : decode cX3_covers 109 = .ok (.aload_n 0, 1) := by decide +kernel
theorem dX3_covers_110 : decode cX3_covers 110 = .ok (.getfield 69, 3) := by decide +kernel
theorem dX3_covers_113 : decode cX3_covers 113 = .ok (.iload_n 1, 1) := by decide +kernel
theorem dX3_covers_114 : decode cX3_covers 114 = .ok (.iconst (-1), 1) := by decide +kernel
theorem dX3_covers_115 : decode cX3_covers 115 = .ok (.iastore, 1) := by decide +kernel
theorem dX3_covers_116 : decode cX3_covers 116 = .ok (.aload_n 0, 1) := by decide +kernel
theorem dX3_covers_117 : decode cX3_covers 117 = .ok (.iload_n 1, 1) := by decide +kernel
theorem dX3_covers_118 : decode cX3_covers 118 = .ok (.iconst 1, 1) := by decide +kernel
theorem dX3_covers_119 : decode cX3_covers 119 = .ok (.iadd, 1) := by decide +kernel
theorem dX3_covers_120 : decode cX3_covers 120 = .ok (.iload_n 2, 1) := by decide +kernel
theorem dX3_covers_121 : decode cX3_covers 121 = .ok (.iload_n 3, 1) := by decide +kernel
theorem dX3_covers_122 : decode cX3_covers 122 = .ok (.iconst 1, 1) := by decide +kernel
theorem dX3_covers_123 : decode cX3_covers 123 = .ok (.isub, 1) := by decide +kernel
theorem dX3_covers_124 : decode cX3_covers 124 = .ok (.invokevirtual 135, 3) := by decide +kernel
theorem dX3_covers_127 : decode cX3_covers 127 = .ok (.return_, 1) := by decide +kernel
theorem dX3_cover_0 : decode cX3_cover 0 = .ok (.aload_n 0, 1) := by decide +kernel
theorem dX3_cover_1 : decode cX3_cover 1 = .ok (.invokevirtual 142, 3) := by decide +kernel
theorem dX3_cover_4 : decode cX3_cover 4 = .ok (.aload_n 0, 1) := by decide +kernel
theorem dX3_cover_5 : decode cX3_cover 5 = .ok (.iconst 0, 1) := by decide +kernel
theorem dX3_cover_6 : decode cX3_cover 6 = .ok (.iconst 0, 1) := by decide +kernel
theorem dX3_cover_7 : decode cX3_cover 7 = .ok (.aload_n 0, 1) := by decide +kernel
theorem dX3_cover_8 : decode cX3_cover 8 = .ok (.getfield 97, 3) := by decide +kernel
theorem dX3_cover_11 : decode cX3_cover 11 = .ok (.invokevirtual 135, 3) := by decide +kernel
theorem dX3_cover_14 : decode cX3_cover 14 = .ok (.aload_n 0, 1) := by decide +kernel
theorem dX3_cover_15 : decode cX3_cover 15 = .ok (.invokevirtual 145, 3) := by decide +kernel
theorem dX3_cover_18 : decode cX3_cover 18 = .ok (.return_, 1) := by decide +kernel
theorem dX3_covered_0 : decode cX3_covered 0 = .ok (.aload_n 0, 1) := by decide +kernel
theorem dX3_covered_1 : decode cX3_covered 1 = .ok (.invokevirtual 148, 3) := by decide +kernel
theorem dX3_covered_4 : decode cX3_covered 4 = .ok (.aload_n 0, 1) := by decide +kernel
theorem dX3_covered_5 : decode cX3_covered 5 = .ok (.getfield 129, 3) := by decide +kernel
theorem dX3_covered_8 : decode cX3_covered 8 = .ok (.ireturn, 1) := by decide +kernel
theorem dX3_coveredByTrying_0 : decode cX3_coveredByTrying 0 = .ok (.aload_n 0, 1) := by decide +kernel
theorem dX3_coveredByTrying_1 : decode cX3_coveredByTrying 1 = .ok (.getfield 97, 3) := by decide +kernel
theorem dX3_coveredByTrying_4 : decode cX3_coveredByTrying 4 = .ok (.iconst 4, 1) := by decide +kernel
theorem dX3_coveredByTrying_5 : decode cX3_coveredByTrying 5 = .ok (.if_icmp .le 9, 3) := by decide +kernel
theorem dX3_coveredByTrying_8 : decode cX3_coveredByTrying 8 = .ok (.aload_n 0, 1) := by decide +kernel
theorem dX3_coveredByTrying_9 : decode cX3_coveredByTrying 9 = .ok (.iconst 1, 1) := by decide +kernel
theorem dX3_coveredByTrying_10 : decode cX3_coveredByTrying 10 = .ok (.invokevirtual 93, 3) := by decide +kernel
theorem dX3_coveredByTrying_13 : decode cX3_coveredByTrying 13 = .ok (.ireturn, 1) := by decide +kernel
theorem dX3_coveredByTrying_14 : decode cX3_coveredByTrying 14 = .ok (.aload_n 0, 1) := by decide +kernel
theorem dX3_coveredByTrying_15 : decode cX3_coveredByTrying 15 = .ok (.iconst 0, 1) := by decide +kernel
theorem dX3_coveredByTrying_16 : decode cX3_coveredByTrying 16 = .ok (.putfield 78, 3) := by decide +kernel
theorem dX3_coveredByTrying_19 : decode cX3_coveredByTrying 19 = .ok (.aload_n 0, 1) := by decide +kernel
theorem dX3_coveredByTrying_20 : decode cX3_coveredByTrying 20 = .ok (.invokevirtual 151, 3) := by decide +kernel
theorem dX3_coveredByTrying_23 : decode cX3_coveredByTrying 23 = .ok (.ireturn, 1) := by decide +kernel
theorem dX3_entitlementOf_0 : decode cX3_entitlementOf 0 = .ok (.aload_n 0, 1) := by decide +kernel
theorem dX3_entitlementOf_1 : decode cX3_entitlementOf 1 = .ok (.iload_n 1, 1) := by decide +kernel
theorem dX3_entitlementOf_2 : decode cX3_entitlementOf 2 = .ok (.invokevirtual 103, 3) := by decide +kernel
theorem dX3_entitlementOf_5 : decode cX3_entitlementOf 5 = .ok (.ifCond .eq 5, 3) := by decide +kernel
theorem dX3_entitlementOf_8 : decode cX3_entitlementOf 8 = .ok (.iconst 0, 1) := by decide +kernel
theorem dX3_entitlementOf_9 : decode cX3_entitlementOf 9 = .ok (.ireturn, 1) := by decide +kernel
theorem dX3_entitlementOf_10 : decode cX3_entitlementOf 10 = .ok (.aload_n 0, 1) := by decide +kernel
theorem dX3_entitlementOf_11 : decode cX3_entitlementOf 11 = .ok (.invokevirtual 148, 3) := by decide +kernel
theorem dX3_entitlementOf_14 : decode cX3_entitlementOf 14 = .ok (.aload_n 0, 1) := by decide +kernel
theorem dX3_entitlementOf_15 : decode cX3_entitlementOf 15 = .ok (.getfield 69, 3) := by decide +kernel
theorem dX3_entitlementOf_18 : decode cX3_entitlementOf 18 = .ok (.iload_n 1, 1) := by decide +kernel
theorem dX3_entitlementOf_19 : decode cX3_entitlementOf 19 = .ok (.iaload, 1) := by decide +kernel
theorem dX3_entitlementOf_20 : decode cX3_entitlementOf 20 = .ok (.iconst (-1), 1) := by decide +kernel
theorem dX3_entitlementOf_21 : decode cX3_entitlementOf 21 = .ok (.if_icmp .ne 9, 3) := by decide +kernel
theorem dX3_entitlementOf_24 : decode cX3_entitlementOf 24 = .ok (.aload_n 0, 1) := by decide +kernel
theorem dX3_entitlementOf_25 : decode cX3_entitlementOf 25 = .ok (.iconst 2, 1) := by decide +kernel
theorem dX3_entitlementOf_26 : decode cX3_entitlementOf 26 = .ok (.invokevirtual 93, 3) := by decide +kernel
theorem dX3_entitlementOf_29 : decode cX3_entitlementOf 29 = .ok (.ireturn, 1) := by decide +kernel
theorem dX3_entitlementOf_30 : decode cX3_entitlementOf 30 = .ok (.aload_n 0, 1) := by decide +kernel
theorem dX3_entitlementOf_31 : decode cX3_entitlementOf 31 = .ok (.getfield 69, 3) := by decide +kernel
theorem dX3_entitlementOf_34 : decode cX3_entitlementOf 34 = .ok (.iload_n 1, 1) := by decide +kernel
theorem dX3_entitlementOf_35 : decode cX3_entitlementOf 35 = .ok (.iaload, 1) := by decide +kernel
theorem dX3_entitlementOf_36 : decode cX3_entitlementOf 36 = .ok (.ireturn, 1) := by decide +kernel
theorem dX3_reason_0 : decode cX3_reason 0 = .ok (.aload_n 0, 1) := by decide +kernel
theorem dX3_reason_1 : decode cX3_reason 1 = .ok (.iload_n 1, 1) := by decide +kernel
theorem dX3_reason_2 : decode cX3_reason 2 = .ok (.invokevirtual 103, 3) := by decide +kernel
theorem dX3_reason_5 : decode cX3_reason 5 = .ok (.ifCond .eq 6, 3) := by decide +kernel
theorem dX3_reason_8 : decode cX3_reason 8 = .ok (.bipush 99, 2) := by decide +kernel
theorem dX3_reason_10 : decode cX3_reason 10 = .ok (.ireturn, 1) := by decide +kernel
theorem dX3_reason_11 : decode cX3_reason 11 = .ok (.aload_n 0, 1) := by decide +kernel
theorem dX3_reason_12 : decode cX3_reason 12 = .ok (.invokevirtual 148, 3) := by decide +kernel
theorem dX3_reason_15 : decode cX3_reason 15 = .ok (.aload_n 0, 1) := by decide +kernel
theorem dX3_reason_16 : decode cX3_reason 16 = .ok (.getfield 69, 3) := by decide +kernel
theorem dX3_reason_19 : decode cX3_reason 19 = .ok (.iload_n 1, 1) := by decide +kernel
theorem dX3_reason_20 : decode cX3_reason 20 = .ok (.iaload, 1) := by decide +kernel
theorem dX3_reason_21 : decode cX3_reason 21 = .ok (.iconst (-1), 1) := by decide +kernel
theorem dX3_reason_22 : decode cX3_reason 22 = .ok (.if_icmp .eq 8, 3) := by decide +kernel
theorem dX3_reason_25 : decode cX3_reason 25 = .ok (.bipush 99, 2) := by decide +kernel
theorem dX3_reason_27 : decode cX3_reason 27 = .ok (.goto 18, 3) := by decide +kernel
theorem dX3_reason_30 : decode cX3_reason 30 = .ok (.aload_n 0, 1) := by decide +kernel
theorem dX3_reason_31 : decode cX3_reason 31 = .ok (.iload_n 1, 1) := by decide +kernel
theorem dX3_reason_32 : decode cX3_reason 32 = .ok (.invokevirtual 120, 3) := by decide +kernel
theorem dX3_reason_35 : decode cX3_reason 35 = .ok (.ifCond .ne 8, 3) := by decide +kernel
theorem dX3_reason_38 : decode cX3_reason 38 = .ok (.bipush 110, 2) := by decide +kernel
theorem dX3_reason_40 : decode cX3_reason 40 = .ok (.goto 5, 3) := by decide +kernel
theorem dX3_reason_43 : decode cX3_reason 43 = .ok (.bipush 117, 2) := by decide +kernel
theorem dX3_reason_45 : decode cX3_reason 45 = .ok (.ireturn, 1) := by decide +kernel
theorem dX3_used_0 : decode cX3_used 0 = .ok (.aload_n 0, 1) := by decide +kernel
theorem dX3_used_1 : decode cX3_used 1 = .ok (.iload_n 1, 1) := by decide +kernel
theorem dX3_used_2 : decode cX3_used 2 = .ok (.invokevirtual 106, 3) := by decide +kernel
theorem dX3_used_5 : decode cX3_used 5 = .ok (.ifCond .eq 5, 3) := by decide +kernel
theorem dX3_used_8 : decode cX3_used 8 = .ok (.iconst 0, 1) := by decide +kernel
theorem dX3_used_9 : decode cX3_used 9 = .ok (.ireturn, 1) := by decide +kernel
theorem dX3_used_10 : decode cX3_used 10 = .ok (.aload_n 0, 1) := by decide +kernel
theorem dX3_used_11 : decode cX3_used 11 = .ok (.invokevirtual 148, 3) := by decide +kernel
theorem dX3_used_14 : decode cX3_used 14 = .ok (.aload_n 0, 1) := by decide +kernel
theorem dX3_used_15 : decode cX3_used 15 = .ok (.iload_n 1, 1) := by decide +kernel
theorem dX3_used_16 : decode cX3_used 16 = .ok (.invokevirtual 126, 3) := by decide +kernel
theorem dX3_used_19 : decode cX3_used 19 = .ok (.ireturn, 1) := by decide +kernel
theorem dX3_spare_0 : decode cX3_spare 0 = .ok (.aload_n 0, 1) := by decide +kernel
theorem dX3_spare_1 : decode cX3_spare 1 = .ok (.iload_n 1, 1) := by decide +kernel
theorem dX3_spare_2 : decode cX3_spare 2 = .ok (.invokevirtual 106, 3) := by decide +kernel
theorem dX3_spare_5 : decode cX3_spare 5 = .ok (.ifCond .eq 5, 3) := by decide +kernel
theorem dX3_spare_8 : decode cX3_spare 8 = .ok (.iconst 0, 1) := by decide +kernel
theorem dX3_spare_9 : decode cX3_spare 9 = .ok (.ireturn, 1) := by decide +kernel
theorem dX3_spare_10 : decode cX3_spare 10 = .ok (.aload_n 0, 1) := by decide +kernel
theorem dX3_spare_11 : decode cX3_spare 11 = .ok (.invokevirtual 148, 3) := by decide +kernel
theorem dX3_spare_14 : decode cX3_spare 14 = .ok (.aload_n 0, 1) := by decide +kernel
theorem dX3_spare_15 : decode cX3_spare 15 = .ok (.getfield 53, 3) := by decide +kernel
theorem dX3_spare_18 : decode cX3_spare 18 = .ok (.iload_n 1, 1) := by decide +kernel
theorem dX3_spare_19 : decode cX3_spare 19 = .ok (.iaload, 1) := by decide +kernel
theorem dX3_spare_20 : decode cX3_spare 20 = .ok (.aload_n 0, 1) := by decide +kernel
theorem dX3_spare_21 : decode cX3_spare 21 = .ok (.iload_n 1, 1) := by decide +kernel
theorem dX3_spare_22 : decode cX3_spare 22 = .ok (.invokevirtual 126, 3) := by decide +kernel
theorem dX3_spare_25 : decode cX3_spare 25 = .ok (.isub, 1) := by decide +kernel
theorem dX3_spare_26 : decode cX3_spare 26 = .ok (.ireturn, 1) := by decide +kernel
theorem dX3_beyond_0 : decode cX3_beyond 0 = .ok (.aload_n 0, 1) := by decide +kernel
theorem dX3_beyond_1 : decode cX3_beyond 1 = .ok (.iload_n 1, 1) := by decide +kernel
theorem dX3_beyond_2 : decode cX3_beyond 2 = .ok (.invokevirtual 126, 3) := by decide +kernel
theorem dX3_beyond_5 : decode cX3_beyond 5 = .ok (.aload_n 0, 1) := by decide +kernel
theorem dX3_beyond_6 : decode cX3_beyond 6 = .ok (.getfield 53, 3) := by decide +kernel
theorem dX3_beyond_9 : decode cX3_beyond 9 = .ok (.iload_n 1, 1) := by decide +kernel
theorem dX3_beyond_10 : decode cX3_beyond 10 = .ok (.iaload, 1) := by decide +kernel
theorem dX3_beyond_11 : decode cX3_beyond 11 = .ok (.isub, 1) := by decide +kernel
theorem dX3_beyond_12 : decode cX3_beyond 12 = .ok (.istore_n 2, 1) := by decide +kernel
theorem dX3_beyond_13 : decode cX3_beyond 13 = .ok (.iload_n 2, 1) := by decide +kernel
theorem dX3_beyond_14 : decode cX3_beyond 14 = .ok (.ifCond .le 7, 3) := by decide +kernel
theorem dX3_beyond_17 : decode cX3_beyond 17 = .ok (.iload_n 2, 1) := by decide +kernel
theorem dX3_beyond_18 : decode cX3_beyond 18 = .ok (.goto 4, 3) := by decide +kernel
theorem dX3_beyond_21 : decode cX3_beyond 21 = .ok (.iconst 0, 1) := by decide +kernel
theorem dX3_beyond_22 : decode cX3_beyond 22 = .ok (.ireturn, 1) := by decide +kernel
theorem dX3_costs_0 : decode cX3_costs 0 = .ok (.iconst 0, 1) := by decide +kernel
theorem dX3_costs_1 : decode cX3_costs 1 = .ok (.istore_n 1, 1) := by decide +kernel
theorem dX3_costs_2 : decode cX3_costs 2 = .ok (.iconst 0, 1) := by decide +kernel
theorem dX3_costs_3 : decode cX3_costs 3 = .ok (.istore_n 2, 1) := by decide +kernel
theorem dX3_costs_4 : decode cX3_costs 4 = .ok (.iload_n 2, 1) := by decide +kernel
theorem dX3_costs_5 : decode cX3_costs 5 = .ok (.aload_n 0, 1) := by decide +kernel
theorem dX3_costs_6 : decode cX3_costs 6 = .ok (.getfield 86, 3) := by decide +kernel
theorem dX3_costs_9 : decode cX3_costs 9 = .ok (.if_icmp .ge 24, 3) := by decide +kernel
theorem dX3_costs_12 : decode cX3_costs 12 = .ok (.iload_n 1, 1) := by decide +kernel
theorem dX3_costs_13 : decode cX3_costs 13 = .ok (.aload_n 0, 1) := by decide +kernel
theorem dX3_costs_14 : decode cX3_costs 14 = .ok (.getfield 62, 3) := by decide +kernel
theorem dX3_costs_17 : decode cX3_costs 17 = .ok (.iload_n 2, 1) := by decide +kernel
theorem dX3_costs_18 : decode cX3_costs 18 = .ok (.iaload, 1) := by decide +kernel
theorem dX3_costs_19 : decode cX3_costs 19 = .ok (.aload_n 0, 1) := by decide +kernel
theorem dX3_costs_20 : decode cX3_costs 20 = .ok (.iload_n 2, 1) := by decide +kernel
theorem dX3_costs_21 : decode cX3_costs 21 = .ok (.invokevirtual 155, 3) := by decide +kernel
theorem dX3_costs_24 : decode cX3_costs 24 = .ok (.imul, 1) := by decide +kernel
theorem dX3_costs_25 : decode cX3_costs 25 = .ok (.iadd, 1) := by decide +kernel
theorem dX3_costs_26 : decode cX3_costs 26 = .ok (.istore_n 1, 1) := by decide +kernel
theorem dX3_costs_27 : decode cX3_costs 27 = .ok (.iinc 2 1, 3) := by decide +kernel
theorem dX3_costs_30 : decode cX3_costs 30 = .ok (.goto (-26), 3) := by decide +kernel
theorem dX3_costs_33 : decode cX3_costs 33 = .ok (.iload_n 1, 1) := by decide +kernel
theorem dX3_costs_34 : decode cX3_costs 34 = .ok (.ireturn, 1) := by decide +kernel
theorem dX3_buys_0 : decode cX3_buys 0 = .ok (.aload_n 0, 1) := by decide +kernel
theorem dX3_buys_1 : decode cX3_buys 1 = .ok (.invokevirtual 158, 3) := by decide +kernel
theorem dX3_buys_4 : decode cX3_buys 4 = .ok (.istore_n 2, 1) := by decide +kernel
theorem dX3_buys_5 : decode cX3_buys 5 = .ok (.aload_n 0, 1) := by decide +kernel
theorem dX3_buys_6 : decode cX3_buys 6 = .ok (.getfield 129, 3) := by decide +kernel
theorem dX3_buys_9 : decode cX3_buys 9 = .ok (.iconst (-1), 1) := by decide +kernel
theorem dX3_buys_10 : decode cX3_buys 10 = .ok (.if_icmp .eq 12, 3) := by decide +kernel
theorem dX3_buys_13 : decode cX3_buys 13 = .ok (.iload_n 2, 1) := by decide +kernel
theorem dX3_buys_14 : decode cX3_buys 14 = .ok (.aload_n 0, 1) := by decide +kernel
theorem dX3_buys_15 : decode cX3_buys 15 = .ok (.getfield 129, 3) := by decide +kernel
theorem dX3_buys_18 : decode cX3_buys 18 = .ok (.if_icmp .lt 4, 3) := by decide +kernel
theorem dX3_buys_21 : decode cX3_buys 21 = .ok (.return_, 1) := by decide +kernel
theorem dX3_buys_22 : decode cX3_buys 22 = .ok (.iload_n 1, 1) := by decide +kernel
theorem dX3_buys_23 : decode cX3_buys 23 = .ok (.aload_n 0, 1) := by decide +kernel
theorem dX3_buys_24 : decode cX3_buys 24 = .ok (.getfield 100, 3) := by decide +kernel
theorem dX3_buys_27 : decode cX3_buys 27 = .ok (.if_icmp .ne 13, 3) := by decide +kernel
theorem dX3_buys_30 : decode cX3_buys 30 = .ok (.aload_n 0, 1) := by decide +kernel
theorem dX3_buys_31 : decode cX3_buys 31 = .ok (.iload_n 2, 1) := by decide +kernel
theorem dX3_buys_32 : decode cX3_buys 32 = .ok (.putfield 129, 3) := by decide +kernel
theorem dX3_buys_35 : decode cX3_buys 35 = .ok (.aload_n 0, 1) := by decide +kernel
theorem dX3_buys_36 : decode cX3_buys 36 = .ok (.invokevirtual 132, 3) := by decide +kernel
theorem dX3_buys_39 : decode cX3_buys 39 = .ok (.return_, 1) := by decide +kernel
theorem dX3_buys_40 : decode cX3_buys 40 = .ok (.aload_n 0, 1) := by decide +kernel
theorem dX3_buys_41 : decode cX3_buys 41 = .ok (.getfield 31, 3) := by decide +kernel
theorem dX3_buys_44 : decode cX3_buys 44 = .ok (.iload_n 1, 1) := by decide +kernel
theorem dX3_buys_45 : decode cX3_buys 45 = .ok (.baload, 1) := by decide +kernel
theorem dX3_buys_46 : decode cX3_buys 46 = .ok (.ifCond .eq 11, 3) := by decide +kernel
theorem dX3_buys_49 : decode cX3_buys 49 = .ok (.aload_n 0, 1) := by decide +kernel
theorem dX3_buys_50 : decode cX3_buys 50 = .ok (.iload_n 1, 1) := by decide +kernel
theorem dX3_buys_51 : decode cX3_buys 51 = .ok (.iconst 1, 1) := by decide +kernel
theorem dX3_buys_52 : decode cX3_buys 52 = .ok (.iadd, 1) := by decide +kernel
theorem dX3_buys_53 : decode cX3_buys 53 = .ok (.invokevirtual 161, 3) := by decide +kernel
theorem dX3_buys_56 : decode cX3_buys 56 = .ok (.return_, 1) := by decide +kernel
theorem dX3_buys_57 : decode cX3_buys 57 = .ok (.iconst 0, 1) := by decide +kernel
theorem dX3_buys_58 : decode cX3_buys 58 = .ok (.istore_n 3, 1) := by decide +kernel
theorem dX3_buys_59 : decode cX3_buys 59 = .ok (.iload_n 3, 1) := by decide +kernel
theorem dX3_buys_60 : decode cX3_buys 60 = .ok (.aload_n 0, 1) := by decide +kernel
theorem dX3_buys_61 : decode cX3_buys 61 = .ok (.getfield 86, 3) := by decide +kernel
theorem dX3_buys_64 : decode cX3_buys 64 = .ok (.if_icmp .ge 35, 3) := by decide +kernel
theorem dX3_buys_67 : decode cX3_buys 67 = .ok (.aload_n 0, 1) := by decide +kernel
theorem dX3_buys_68 : decode cX3_buys 68 = .ok (.iload_n 1, 1) := by decide +kernel
theorem dX3_buys_69 : decode cX3_buys 69 = .ok (.iload_n 3, 1) := by decide +kernel
theorem dX3_buys_70 : decode cX3_buys 70 = .ok (.invokevirtual 117, 3) := by decide +kernel
theorem dX3_buys_73 : decode cX3_buys 73 = .ok (.ifCond .ne 6, 3) := by decide +kernel
theorem dX3_buys_76 : decode cX3_buys 76 = .ok (.goto 17, 3) := by decide +kernel
theorem dX3_buys_79 : decode cX3_buys 79 = .ok (.aload_n 0, 1) := by decide +kernel
theorem dX3_buys_80 : decode cX3_buys 80 = .ok (.getfield 69, 3) := by decide +kernel
theorem dX3_buys_83 : decode cX3_buys 83 = .ok (.iload_n 1, 1) := by decide +kernel
theorem dX3_buys_84 : decode cX3_buys 84 = .ok (.iload_n 3, 1) := by decide +kernel
theorem dX3_buys_85 : decode cX3_buys 85 = .ok (.iastore, 1) := by decide +kernel
theorem dX3_buys_86 : decode cX3_buys 86 = .ok (.aload_n 0, 1) := by decide +kernel
theorem dX3_buys_87 : decode cX3_buys 87 = .ok (.iload_n 1, 1) := by decide +kernel
theorem dX3_buys_88 : decode cX3_buys 88 = .ok (.iconst 1, 1) := by decide +kernel
theorem dX3_buys_89 : decode cX3_buys 89 = .ok (.iadd, 1) := by decide +kernel
theorem dX3_buys_90 : decode cX3_buys 90 = .ok (.invokevirtual 161, 3) := by decide +kernel
theorem dX3_buys_93 : decode cX3_buys 93 = .ok (.iinc 3 1, 3) := by decide +kernel
theorem dX3_buys_96 : decode cX3_buys 96 = .ok (.goto (-37), 3) := by decide +kernel
theorem dX3_buys_99 : decode cX3_buys 99 = .ok (.aload_n 0, 1) := by decide +kernel
theorem dX3_buys_100 : decode cX3_buys 100 = .ok (.getfield 69, 3) := by decide +kernel
theorem dX3_buys_103 : decode cX3_buys 103 = .ok (.iload_n 1, 1) := by decide +kernel
theorem dX3_buys_104 : decode cX3_buys 104 = .ok (.iconst (-1), 1) := by decide +kernel
theorem dX3_buys_105 : decode cX3_buys 105 = .ok (.iastore, 1) := by decide +kernel
theorem dX3_buys_106 : decode cX3_buys 106 = .ok (.return_, 1) := by decide +kernel
theorem dX3_noPurchase_0 : decode cX3_noPurchase 0 = .ok (.iconst 0, 1) := by decide +kernel
theorem dX3_noPurchase_1 : decode cX3_noPurchase 1 = .ok (.istore_n 2, 1) := by decide +kernel
theorem dX3_noPurchase_2 : decode cX3_noPurchase 2 = .ok (.iload_n 2, 1) := by decide +kernel
theorem dX3_noPurchase_3 : decode cX3_noPurchase 3 = .ok (.aload_n 0, 1) := by decide +kernel
theorem dX3_noPurchase_4 : decode cX3_noPurchase 4 = .ok (.getfield 100, 3) := by decide +kernel
theorem dX3_noPurchase_7 : decode cX3_noPurchase 7 = .ok (.if_icmp .ge 36, 3) := by decide +kernel
theorem dX3_noPurchase_10 : decode cX3_noPurchase 10 = .ok (.aload_n 0, 1) := by decide +kernel
theorem dX3_noPurchase_11 : decode cX3_noPurchase 11 = .ok (.getfield 31, 3) := by decide +kernel
theorem dX3_noPurchase_14 : decode cX3_noPurchase 14 = .ok (.iload_n 2, 1) := by decide +kernel
theorem dX3_noPurchase_15 : decode cX3_noPurchase 15 = .ok (.baload, 1) := by decide +kernel
theorem dX3_noPurchase_16 : decode cX3_noPurchase 16 = .ok (.ifCond .ne 21, 3) := by decide +kernel
theorem dX3_noPurchase_19 : decode cX3_noPurchase 19 = .ok (.aload_n 0, 1) := by decide +kernel
theorem dX3_noPurchase_20 : decode cX3_noPurchase 20 = .ok (.iload_n 2, 1) := by decide +kernel
theorem dX3_noPurchase_21 : decode cX3_noPurchase 21 = .ok (.invokevirtual 120, 3) := by decide +kernel
theorem dX3_noPurchase_24 : decode cX3_noPurchase 24 = .ok (.ifCond .le 6, 3) := by decide +kernel
theorem dX3_noPurchase_27 : decode cX3_noPurchase 27 = .ok (.goto 10, 3) := by decide +kernel
theorem dX3_noPurchase_30 : decode cX3_noPurchase 30 = .ok (.aload_n 0, 1) := by decide +kernel
theorem dX3_noPurchase_31 : decode cX3_noPurchase 31 = .ok (.iload_n 1, 1) := by decide +kernel
theorem dX3_noPurchase_32 : decode cX3_noPurchase 32 = .ok (.putfield 78, 3) := by decide +kernel
theorem dX3_noPurchase_35 : decode cX3_noPurchase 35 = .ok (.iconst 1, 1) := by decide +kernel
theorem dX3_noPurchase_36 : decode cX3_noPurchase 36 = .ok (.ireturn, 1) := by decide +kernel
theorem dX3_noPurchase_37 : decode cX3_noPurchase 37 = .ok (.iinc 2 1, 3) := by decide +kernel
theorem dX3_noPurchase_40 : decode cX3_noPurchase 40 = .ok (.goto (-38), 3) := by decide +kernel
theorem dX3_noPurchase_43 : decode cX3_noPurchase 43 = .ok (.aload_n 0, 1) := by decide +kernel
theorem dX3_noPurchase_44 : decode cX3_noPurchase 44 = .ok (.iconst 0, 1) := by decide +kernel
theorem dX3_noPurchase_45 : decode cX3_noPurchase 45 = .ok (.putfield 78, 3) := by decide +kernel
theorem dX3_noPurchase_48 : decode cX3_noPurchase 48 = .ok (.aload_n 0, 1) := by decide +kernel
theorem dX3_noPurchase_49 : decode cX3_noPurchase 49 = .ok (.invokevirtual 142, 3) := by decide +kernel
theorem dX3_noPurchase_52 : decode cX3_noPurchase 52 = .ok (.aload_n 0, 1) := by decide +kernel
theorem dX3_noPurchase_53 : decode cX3_noPurchase 53 = .ok (.iconst 0, 1) := by decide +kernel
theorem dX3_noPurchase_54 : decode cX3_noPurchase 54 = .ok (.invokevirtual 161, 3) := by decide +kernel
theorem dX3_noPurchase_57 : decode cX3_noPurchase 57 = .ok (.aload_n 0, 1) := by decide +kernel
theorem dX3_noPurchase_58 : decode cX3_noPurchase 58 = .ok (.invokevirtual 145, 3) := by decide +kernel
theorem dX3_noPurchase_61 : decode cX3_noPurchase 61 = .ok (.iconst 0, 1) := by decide +kernel
theorem dX3_noPurchase_62 : decode cX3_noPurchase 62 = .ok (.ireturn, 1) := by decide +kernel
theorem dX3_purchase_0 : decode cX3_purchase 0 = .ok (.aload_n 0, 1) := by decide +kernel
theorem dX3_purchase_1 : decode cX3_purchase 1 = .ok (.iconst 1, 1) := by decide +kernel
theorem dX3_purchase_2 : decode cX3_purchase 2 = .ok (.invokevirtual 165, 3) := by decide +kernel
theorem dX3_purchase_5 : decode cX3_purchase 5 = .ok (.ifCond .eq 7, 3) := by decide +kernel
theorem dX3_purchase_8 : decode cX3_purchase 8 = .ok (.iconst 0, 1) := by decide +kernel
theorem dX3_purchase_9 : decode cX3_purchase 9 = .ok (.goto 7, 3) := by decide +kernel
theorem dX3_purchase_12 : decode cX3_purchase 12 = .ok (.aload_n 0, 1) := by decide +kernel
theorem dX3_purchase_13 : decode cX3_purchase 13 = .ok (.getfield 129, 3) := by decide +kernel
theorem dX3_purchase_16 : decode cX3_purchase 16 = .ok (.ireturn, 1) := by decide +kernel
theorem dX3_purchaseByTrying_0 : decode cX3_purchaseByTrying 0 = .ok (.aload_n 0, 1) := by decide +kernel
theorem dX3_purchaseByTrying_1 : decode cX3_purchaseByTrying 1 = .ok (.getfield 97, 3) := by decide +kernel
theorem dX3_purchaseByTrying_4 : decode cX3_purchaseByTrying 4 = .ok (.iconst 4, 1) := by decide +kernel
theorem dX3_purchaseByTrying_5 : decode cX3_purchaseByTrying 5 = .ok (.if_icmp .le 9, 3) := by decide +kernel
theorem dX3_purchaseByTrying_8 : decode cX3_purchaseByTrying 8 = .ok (.aload_n 0, 1) := by decide +kernel
theorem dX3_purchaseByTrying_9 : decode cX3_purchaseByTrying 9 = .ok (.iconst 1, 1) := by decide +kernel
theorem dX3_purchaseByTrying_10 : decode cX3_purchaseByTrying 10 = .ok (.invokevirtual 93, 3) := by decide +kernel
theorem dX3_purchaseByTrying_13 : decode cX3_purchaseByTrying 13 = .ok (.ireturn, 1) := by decide +kernel
theorem dX3_purchaseByTrying_14 : decode cX3_purchaseByTrying 14 = .ok (.aload_n 0, 1) := by decide +kernel
theorem dX3_purchaseByTrying_15 : decode cX3_purchaseByTrying 15 = .ok (.iconst 2, 1) := by decide +kernel
theorem dX3_purchaseByTrying_16 : decode cX3_purchaseByTrying 16 = .ok (.invokevirtual 165, 3) := by decide +kernel
theorem dX3_purchaseByTrying_19 : decode cX3_purchaseByTrying 19 = .ok (.ifCond .eq 7, 3) := by decide +kernel
theorem dX3_purchaseByTrying_22 : decode cX3_purchaseByTrying 22 = .ok (.iconst 0, 1) := by decide +kernel
theorem dX3_purchaseByTrying_23 : decode cX3_purchaseByTrying 23 = .ok (.goto 7, 3) := by decide +kernel
theorem dX3_purchaseByTrying_26 : decode cX3_purchaseByTrying 26 = .ok (.aload_n 0, 1) := by decide +kernel
theorem dX3_purchaseByTrying_27 : decode cX3_purchaseByTrying 27 = .ok (.getfield 129, 3) := by decide +kernel
theorem dX3_purchaseByTrying_30 : decode cX3_purchaseByTrying 30 = .ok (.ireturn, 1) := by decide +kernel
theorem dX3_toBuy_0 : decode cX3_toBuy 0 = .ok (.aload_n 0, 1) := by decide +kernel
theorem dX3_toBuy_1 : decode cX3_toBuy 1 = .ok (.iload_n 1, 1) := by decide +kernel
theorem dX3_toBuy_2 : decode cX3_toBuy 2 = .ok (.invokevirtual 106, 3) := by decide +kernel
theorem dX3_toBuy_5 : decode cX3_toBuy 5 = .ok (.ifCond .eq 5, 3) := by decide +kernel
theorem dX3_toBuy_8 : decode cX3_toBuy 8 = .ok (.iconst 0, 1) := by decide +kernel
theorem dX3_toBuy_9 : decode cX3_toBuy 9 = .ok (.ireturn, 1) := by decide +kernel
theorem dX3_toBuy_10 : decode cX3_toBuy 10 = .ok (.aload_n 0, 1) := by decide +kernel
theorem dX3_toBuy_11 : decode cX3_toBuy 11 = .ok (.iconst 2, 1) := by decide +kernel
theorem dX3_toBuy_12 : decode cX3_toBuy 12 = .ok (.invokevirtual 165, 3) := by decide +kernel
theorem dX3_toBuy_15 : decode cX3_toBuy 15 = .ok (.ifCond .eq 7, 3) := by decide +kernel
theorem dX3_toBuy_18 : decode cX3_toBuy 18 = .ok (.iconst 0, 1) := by decide +kernel
theorem dX3_toBuy_19 : decode cX3_toBuy 19 = .ok (.goto 8, 3) := by decide +kernel
theorem dX3_toBuy_22 : decode cX3_toBuy 22 = .ok (.aload_n 0, 1) := by decide +kernel
theorem dX3_toBuy_23 : decode cX3_toBuy 23 = .ok (.iload_n 1, 1) := by decide +kernel
theorem dX3_toBuy_24 : decode cX3_toBuy 24 = .ok (.invokevirtual 155, 3) := by decide +kernel
theorem dX3_toBuy_27 : decode cX3_toBuy 27 = .ok (.ireturn, 1) := by decide +kernel
theorem dX3_trueUp_0 : decode cX3_trueUp 0 = .ok (.aload_n 0, 1) := by decide +kernel
theorem dX3_trueUp_1 : decode cX3_trueUp 1 = .ok (.iconst 1, 1) := by decide +kernel
theorem dX3_trueUp_2 : decode cX3_trueUp 2 = .ok (.invokevirtual 165, 3) := by decide +kernel
theorem dX3_trueUp_5 : decode cX3_trueUp 5 = .ok (.ifCond .eq 5, 3) := by decide +kernel
theorem dX3_trueUp_8 : decode cX3_trueUp 8 = .ok (.iconst 0, 1) := by decide +kernel
theorem dX3_trueUp_9 : decode cX3_trueUp 9 = .ok (.ireturn, 1) := by decide +kernel
theorem dX3_trueUp_10 : decode cX3_trueUp 10 = .ok (.iconst 0, 1) := by decide +kernel
theorem dX3_trueUp_11 : decode cX3_trueUp 11 = .ok (.istore_n 1, 1) := by decide +kernel
theorem dX3_trueUp_12 : decode cX3_trueUp 12 = .ok (.iload_n 1, 1) := by decide +kernel
theorem dX3_trueUp_13 : decode cX3_trueUp 13 = .ok (.aload_n 0, 1) := by decide +kernel
theorem dX3_trueUp_14 : decode cX3_trueUp 14 = .ok (.getfield 86, 3) := by decide +kernel
theorem dX3_trueUp_17 : decode cX3_trueUp 17 = .ok (.if_icmp .ge 23, 3) := by decide +kernel
theorem dX3_trueUp_20 : decode cX3_trueUp 20 = .ok (.aload_n 0, 1) := by decide +kernel
theorem dX3_trueUp_21 : decode cX3_trueUp 21 = .ok (.getfield 53, 3) := by decide +kernel
theorem dX3_trueUp_24 : decode cX3_trueUp 24 = .ok (.iload_n 1, 1) := by decide +kernel
theorem dX3_trueUp_25 : decode cX3_trueUp 25 = .ok (.dup2, 1) := by decide +kernel
theorem dX3_trueUp_26 : decode cX3_trueUp 26 = .ok (.iaload, 1) := by decide +kernel
theorem dX3_trueUp_27 : decode cX3_trueUp 27 = .ok (.aload_n 0, 1) := by decide +kernel
theorem dX3_trueUp_28 : decode cX3_trueUp 28 = .ok (.iload_n 1, 1) := by decide +kernel
theorem dX3_trueUp_29 : decode cX3_trueUp 29 = .ok (.invokevirtual 155, 3) := by decide +kernel
theorem dX3_trueUp_32 : decode cX3_trueUp 32 = .ok (.iadd, 1) := by decide +kernel
theorem dX3_trueUp_33 : decode cX3_trueUp 33 = .ok (.iastore, 1) := by decide +kernel
theorem dX3_trueUp_34 : decode cX3_trueUp 34 = .ok (.iinc 1 1, 3) := by decide +kernel
theorem dX3_trueUp_37 : decode cX3_trueUp 37 = .ok (.goto (-25), 3) := by decide +kernel
theorem dX3_trueUp_40 : decode cX3_trueUp 40 = .ok (.aload_n 0, 1) := by decide +kernel
theorem dX3_trueUp_41 : decode cX3_trueUp 41 = .ok (.dup, 1) := by decide +kernel
theorem dX3_trueUp_42 : decode cX3_trueUp 42 = .ok (.getfield 168, 3) := by decide +kernel
theorem dX3_trueUp_45 : decode cX3_trueUp 45 = .ok (.aload_n 0, 1) := by decide +kernel
theorem dX3_trueUp_46 : decode cX3_trueUp 46 = .ok (.getfield 129, 3) := by decide +kernel
theorem dX3_trueUp_49 : decode cX3_trueUp 49 = .ok (.i2l, 1) := by decide +kernel
theorem dX3_trueUp_50 : decode cX3_trueUp 50 = .ok (.ladd, 1) := by decide +kernel
theorem dX3_trueUp_51 : decode cX3_trueUp 51 = .ok (.putfield 168, 3) := by decide +kernel
theorem dX3_trueUp_54 : decode cX3_trueUp 54 = .ok (.aload_n 0, 1) := by decide +kernel
theorem dX3_trueUp_55 : decode cX3_trueUp 55 = .ok (.getfield 129, 3) := by decide +kernel
theorem dX3_trueUp_58 : decode cX3_trueUp 58 = .ok (.ireturn, 1) := by decide +kernel
theorem dX3_spent_0 : decode cX3_spent 0 = .ok (.aload_n 0, 1) := by decide +kernel
theorem dX3_spent_1 : decode cX3_spent 1 = .ok (.getfield 168, 3) := by decide +kernel
theorem dX3_spent_4 : decode cX3_spent 4 = .ok (.lreturn, 1) := by decide +kernel
theorem dX3_coverage_0 : decode cX3_coverage 0 = .ok (.aload_n 0, 1) := by decide +kernel
theorem dX3_coverage_1 : decode cX3_coverage 1 = .ok (.aload_n 0, 1) := by decide +kernel
theorem dX3_coverage_2 : decode cX3_coverage 2 = .ok (.getfield 97, 3) := by decide +kernel
theorem dX3_coverage_5 : decode cX3_coverage 5 = .ok (.ifCond .ne 7, 3) := by decide +kernel
theorem dX3_coverage_8 : decode cX3_coverage 8 = .ok (.iconst 1, 1) := by decide +kernel
theorem dX3_coverage_9 : decode cX3_coverage 9 = .ok (.goto 4, 3) := by decide +kernel
theorem dX3_coverage_12 : decode cX3_coverage 12 = .ok (.iconst 0, 1) := by decide +kernel
theorem dX3_coverage_13 : decode cX3_coverage 13 = .ok (.putfield 78, 3) := by decide +kernel
theorem dX3_coverage_16 : decode cX3_coverage 16 = .ok (.aload_n 0, 1) := by decide +kernel
theorem dX3_coverage_17 : decode cX3_coverage 17 = .ok (.getfield 97, 3) := by decide +kernel
theorem dX3_coverage_20 : decode cX3_coverage 20 = .ok (.ifCond .ne 5, 3) := by decide +kernel
theorem dX3_coverage_23 : decode cX3_coverage 23 = .ok (.fconst 0, 1) := by decide +kernel
theorem dX3_coverage_24 : decode cX3_coverage 24 = .ok (.freturn, 1) := by decide +kernel
theorem dX3_coverage_25 : decode cX3_coverage 25 = .ok (.aload_n 0, 1) := by decide +kernel
theorem dX3_coverage_26 : decode cX3_coverage 26 = .ok (.invokevirtual 148, 3) := by decide +kernel
theorem dX3_coverage_29 : decode cX3_coverage 29 = .ok (.aload_n 0, 1) := by decide +kernel
theorem dX3_coverage_30 : decode cX3_coverage 30 = .ok (.getfield 129, 3) := by decide +kernel
theorem dX3_coverage_33 : decode cX3_coverage 33 = .ok (.i2f, 1) := by decide +kernel
theorem dX3_coverage_34 : decode cX3_coverage 34 = .ok (.aload_n 0, 1) := by decide +kernel
theorem dX3_coverage_35 : decode cX3_coverage 35 = .ok (.getfield 97, 3) := by decide +kernel
theorem dX3_coverage_38 : decode cX3_coverage 38 = .ok (.i2f, 1) := by decide +kernel
theorem dX3_coverage_39 : decode cX3_coverage 39 = .ok (.fdiv, 1) := by decide +kernel
theorem dX3_coverage_40 : decode cX3_coverage 40 = .ok (.freturn, 1) := by decide +kernel
