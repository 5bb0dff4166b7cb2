theorem dJ5_init_d00df_0 : decode cJ5_init_d00df 0 = .ok (.aload_n 0, 1) := by decide +kernel
theorem dJ5_init_d00df_1 : decode cJ5_init_d00df 1 = .ok (.invokespecial 3, 3) := by decide +kernel
theorem dJ5_init_d00df_4 : decode cJ5_init_d00df 4 = .ok (.getstatic 18, 3) := by decide +kernel
theorem dJ5_init_d00df_7 : decode cJ5_init_d00df 7 = .ok (.ifCond .eq 18, 3) := by decide +kernel
theorem dJ5_init_d00df_10 : decode cJ5_init_d00df 10 = .ok (.aload_n 0, 1) := by decide +kernel
theorem dJ5_init_d00df_11 : decode cJ5_init_d00df 11 = .ok (.iload_n 1, 1) := by decide +kernel
theorem dJ5_init_d00df_12 : decode cJ5_init_d00df 12 = .ok (.newarray .byte, 2) := by decide +kernel
theorem dJ5_init_d00df_14 : decode cJ5_init_d00df 14 = .ok (.putfield 15, 3) := by decide +kernel
theorem dJ5_init_d00df_17 : decode cJ5_init_d00df 17 = .ok (.aload_n 0, 1) := by decide +kernel
theorem dJ5_init_d00df_18 : decode cJ5_init_d00df 18 = .ok (.iconst 0, 1) := by decide +kernel
theorem dJ5_init_d00df_19 : decode cJ5_init_d00df 19 = .ok (.putfield 22, 3) := by decide +kernel
theorem dJ5_init_d00df_22 : decode cJ5_init_d00df 22 = .ok (.goto 16, 3) := by decide +kernel
theorem dJ5_init_d00df_25 : decode cJ5_init_d00df 25 = .ok (.aload_n 0, 1) := by decide +kernel
theorem dJ5_init_d00df_26 : decode cJ5_init_d00df 26 = .ok (.iload_n 1, 1) := by decide +kernel
theorem dJ5_init_d00df_27 : decode cJ5_init_d00df 27 = .ok (.invokestatic 26, 3) := by decide +kernel
theorem dJ5_init_d00df_30 : decode cJ5_init_d00df 30 = .ok (.putfield 15, 3) := by decide +kernel
theorem dJ5_init_d00df_33 : decode cJ5_init_d00df 33 = .ok (.aload_n 0, 1) := by decide +kernel
theorem dJ5_init_d00df_34 : decode cJ5_init_d00df 34 = .ok (.iconst 1, 1) := by decide +kernel
theorem dJ5_init_d00df_35 : decode cJ5_init_d00df 35 = .ok (.putfield 22, 3) := by decide +kernel
theorem dJ5_init_d00df_38 : decode cJ5_init_d00df 38 = .ok (.return_, 1) := by decide +kernel
theorem dJ5_length_8abf5_0 : decode cJ5_length_8abf5 0 = .ok (.aload_n 0, 1) := by decide +kernel
theorem dJ5_length_8abf5_1 : decode cJ5_length_8abf5 1 = .ok (.getfield 79, 3) := by decide +kernel
theorem dJ5_length_8abf5_4 : decode cJ5_length_8abf5 4 = .ok (.ireturn, 1) := by decide +kernel
theorem dJ5_ensureCapacityInternal_d00df_0 : decode cJ5_ensureCapacityInternal_d00df 0 = .ok (.aload_n 0, 1) := by decide +kernel
theorem dJ5_ensureCapacityInternal_d00df_1 : decode cJ5_ensureCapacityInternal_d00df 1 = .ok (.getfield 15, 3) := by decide +kernel
theorem dJ5_ensureCapacityInternal_d00df_4 : decode cJ5_ensureCapacityInternal_d00df 4 = .ok (.arraylength, 1) := by decide +kernel
theorem dJ5_ensureCapacityInternal_d00df_5 : decode cJ5_ensureCapacityInternal_d00df 5 = .ok (.aload_n 0, 1) := by decide +kernel
theorem dJ5_ensureCapacityInternal_d00df_6 : decode cJ5_ensureCapacityInternal_d00df 6 = .ok (.getfield 22, 3) := by decide +kernel
theorem dJ5_ensureCapacityInternal_d00df_9 : decode cJ5_ensureCapacityInternal_d00df 9 = .ok (.ishr, 1) := by decide +kernel
theorem dJ5_ensureCapacityInternal_d00df_10 : decode cJ5_ensureCapacityInternal_d00df 10 = .ok (.istore_n 2, 1) := by decide +kernel
theorem dJ5_ensureCapacityInternal_d00df_11 : decode cJ5_ensureCapacityInternal_d00df 11 = .ok (.iload_n 1, 1) := by decide +kernel
theorem dJ5_ensureCapacityInternal_d00df_12 : decode cJ5_ensureCapacityInternal_d00df 12 = .ok (.iload_n 2, 1) := by decide +kernel
theorem dJ5_ensureCapacityInternal_d00df_13 : decode cJ5_ensureCapacityInternal_d00df 13 = .ok (.isub, 1) := by decide +kernel
theorem dJ5_ensureCapacityInternal_d00df_14 : decode cJ5_ensureCapacityInternal_d00df 14 = .ok (.ifCond .le 24, 3) := by decide +kernel
theorem dJ5_ensureCapacityInternal_d00df_17 : decode cJ5_ensureCapacityInternal_d00df 17 = .ok (.aload_n 0, 1) := by decide +kernel
theorem dJ5_ensureCapacityInternal_d00df_18 : decode cJ5_ensureCapacityInternal_d00df 18 = .ok (.aload_n 0, 1) := by decide +kernel
theorem dJ5_ensureCapacityInternal_d00df_19 : decode cJ5_ensureCapacityInternal_d00df 19 = .ok (.getfield 15, 3) := by decide +kernel
theorem dJ5_ensureCapacityInternal_d00df_22 : decode cJ5_ensureCapacityInternal_d00df 22 = .ok (.aload_n 0, 1) := by decide +kernel
theorem dJ5_ensureCapacityInternal_d00df_23 : decode cJ5_ensureCapacityInternal_d00df 23 = .ok (.iload_n 1, 1) := by decide +kernel
theorem dJ5_ensureCapacityInternal_d00df_24 : decode cJ5_ensureCapacityInternal_d00df 24 = .ok (.invokevirtual 104, 3) := by decide +kernel
theorem dJ5_ensureCapacityInternal_d00df_27 : decode cJ5_ensureCapacityInternal_d00df 27 = .ok (.aload_n 0, 1) := by decide +kernel
theorem dJ5_ensureCapacityInternal_d00df_28 : decode cJ5_ensureCapacityInternal_d00df 28 = .ok (.getfield 22, 3) := by decide +kernel
theorem dJ5_ensureCapacityInternal_d00df_31 : decode cJ5_ensureCapacityInternal_d00df 31 = .ok (.ishl, 1) := by decide +kernel
theorem dJ5_ensureCapacityInternal_d00df_32 : decode cJ5_ensureCapacityInternal_d00df 32 = .ok (.invokestatic 108, 3) := by decide +kernel
theorem dJ5_ensureCapacityInternal_d00df_35 : decode cJ5_ensureCapacityInternal_d00df 35 = .ok (.putfield 15, 3) := by decide +kernel
theorem dJ5_ensureCapacityInternal_d00df_38 : decode cJ5_ensureCapacityInternal_d00df 38 = .ok (.return_, 1) := by decide +kernel
theorem dJ5_newCapacity_0f7a4_0 : decode cJ5_newCapacity_0f7a4 0 = .ok (.aload_n 0, 1) := by decide +kernel
theorem dJ5_newCapacity_0f7a4_1 : decode cJ5_newCapacity_0f7a4 1 = .ok (.getfield 15, 3) := by decide +kernel
theorem dJ5_newCapacity_0f7a4_4 : decode cJ5_newCapacity_0f7a4 4 = .ok (.arraylength, 1) := by decide +kernel
theorem dJ5_newCapacity_0f7a4_5 : decode cJ5_newCapacity_0f7a4 5 = .ok (.istore_n 2, 1) := by decide +kernel
theorem dJ5_newCapacity_0f7a4_6 : decode cJ5_newCapacity_0f7a4 6 = .ok (.iload_n 1, 1) := by decide +kernel
theorem dJ5_newCapacity_0f7a4_7 : decode cJ5_newCapacity_0f7a4 7 = .ok (.aload_n 0, 1) := by decide +kernel
theorem dJ5_newCapacity_0f7a4_8 : decode cJ5_newCapacity_0f7a4 8 = .ok (.getfield 22, 3) := by decide +kernel
theorem dJ5_newCapacity_0f7a4_11 : decode cJ5_newCapacity_0f7a4 11 = .ok (.ishl, 1) := by decide +kernel
theorem dJ5_newCapacity_0f7a4_12 : decode cJ5_newCapacity_0f7a4 12 = .ok (.istore_n 3, 1) := by decide +kernel
theorem dJ5_newCapacity_0f7a4_13 : decode cJ5_newCapacity_0f7a4 13 = .ok (.iload_n 3, 1) := by decide +kernel
theorem dJ5_newCapacity_0f7a4_14 : decode cJ5_newCapacity_0f7a4 14 = .ok (.iload_n 2, 1) := by decide +kernel
theorem dJ5_newCapacity_0f7a4_15 : decode cJ5_newCapacity_0f7a4 15 = .ok (.isub, 1) := by decide +kernel
theorem dJ5_newCapacity_0f7a4_16 : decode cJ5_newCapacity_0f7a4 16 = .ok (.istore 4, 2) := by decide +kernel
theorem dJ5_newCapacity_0f7a4_18 : decode cJ5_newCapacity_0f7a4 18 = .ok (.iload_n 2, 1) := by decide +kernel
theorem dJ5_newCapacity_0f7a4_19 : decode cJ5_newCapacity_0f7a4 19 = .ok (.iload 4, 2) := by decide +kernel
theorem dJ5_newCapacity_0f7a4_21 : decode cJ5_newCapacity_0f7a4 21 = .ok (.iload_n 2, 1) := by decide +kernel
theorem dJ5_newCapacity_0f7a4_22 : decode cJ5_newCapacity_0f7a4 22 = .ok (.iconst 2, 1) := by decide +kernel
theorem dJ5_newCapacity_0f7a4_23 : decode cJ5_newCapacity_0f7a4 23 = .ok (.aload_n 0, 1) := by decide +kernel
theorem dJ5_newCapacity_0f7a4_24 : decode cJ5_newCapacity_0f7a4 24 = .ok (.getfield 22, 3) := by decide +kernel
theorem dJ5_newCapacity_0f7a4_27 : decode cJ5_newCapacity_0f7a4 27 = .ok (.ishl, 1) := by decide +kernel
theorem dJ5_newCapacity_0f7a4_28 : decode cJ5_newCapacity_0f7a4 28 = .ok (.iadd, 1) := by decide +kernel
theorem dJ5_newCapacity_0f7a4_29 : decode cJ5_newCapacity_0f7a4 29 = .ok (.invokestatic 114, 3) := by decide +kernel
theorem dJ5_newCapacity_0f7a4_32 : decode cJ5_newCapacity_0f7a4 32 = .ok (.istore 5, 2) := by decide +kernel
theorem dJ5_newCapacity_0f7a4_34 : decode cJ5_newCapacity_0f7a4 34 = .ok (.iload 5, 2) := by decide +kernel
theorem dJ5_newCapacity_0f7a4_36 : decode cJ5_newCapacity_0f7a4 36 = .ok (.ldc 39, 2) := by decide +kernel
theorem dJ5_newCapacity_0f7a4_38 : decode cJ5_newCapacity_0f7a4 38 = .ok (.if_icmp .ne 13, 3) := by decide +kernel
theorem dJ5_newCapacity_0f7a4_41 : decode cJ5_newCapacity_0f7a4 41 = .ok (.new 120, 3) := by decide +kernel
theorem dJ5_newCapacity_0f7a4_44 : decode cJ5_newCapacity_0f7a4 44 = .ok (.dup, 1) := by decide +kernel
theorem dJ5_newCapacity_0f7a4_45 : decode cJ5_newCapacity_0f7a4 45 = .ok (.ldc 122, 2) := by decide +kernel
theorem dJ5_newCapacity_0f7a4_47 : decode cJ5_newCapacity_0f7a4 47 = .ok (.invokespecial 124, 3) := by decide +kernel
theorem dJ5_newCapacity_0f7a4_50 : decode cJ5_newCapacity_0f7a4 50 = .ok (.athrow, 1) := by decide +kernel
theorem dJ5_newCapacity_0f7a4_51 : decode cJ5_newCapacity_0f7a4 51 = .ok (.iload 5, 2) := by decide +kernel
theorem dJ5_newCapacity_0f7a4_53 : decode cJ5_newCapacity_0f7a4 53 = .ok (.aload_n 0, 1) := by decide +kernel
theorem dJ5_newCapacity_0f7a4_54 : decode cJ5_newCapacity_0f7a4 54 = .ok (.getfield 22, 3) := by decide +kernel
theorem dJ5_newCapacity_0f7a4_57 : decode cJ5_newCapacity_0f7a4 57 = .ok (.ishr, 1) := by decide +kernel
theorem dJ5_newCapacity_0f7a4_58 : decode cJ5_newCapacity_0f7a4 58 = .ok (.ireturn, 1) := by decide +kernel
theorem dJ5_append_cf1ce_0 : decode cJ5_append_cf1ce 0 = .ok (.aload_n 1, 1) := by decide +kernel
theorem dJ5_append_cf1ce_1 : decode cJ5_append_cf1ce 1 = .ok (.ifnonnull 8, 3) := by decide +kernel
theorem dJ5_append_cf1ce_4 : decode cJ5_append_cf1ce 4 = .ok (.aload_n 0, 1) := by decide +kernel
theorem dJ5_append_cf1ce_5 : decode cJ5_append_cf1ce 5 = .ok (.invokevirtual 204, 3) := by decide +kernel
theorem dJ5_append_cf1ce_8 : decode cJ5_append_cf1ce 8 = .ok (.areturn, 1) := by decide +kernel
theorem dJ5_append_cf1ce_9 : decode cJ5_append_cf1ce 9 = .ok (.aload_n 1, 1) := by decide +kernel
theorem dJ5_append_cf1ce_10 : decode cJ5_append_cf1ce 10 = .ok (.invokevirtual 32, 3) := by decide +kernel
theorem dJ5_append_cf1ce_13 : decode cJ5_append_cf1ce 13 = .ok (.istore_n 2, 1) := by decide +kernel
theorem dJ5_append_cf1ce_14 : decode cJ5_append_cf1ce 14 = .ok (.aload_n 0, 1) := by decide +kernel
theorem dJ5_append_cf1ce_15 : decode cJ5_append_cf1ce 15 = .ok (.aload_n 0, 1) := by decide +kernel
theorem dJ5_append_cf1ce_16 : decode cJ5_append_cf1ce 16 = .ok (.getfield 79, 3) := by decide +kernel
theorem dJ5_append_cf1ce_19 : decode cJ5_append_cf1ce 19 = .ok (.iload_n 2, 1) := by decide +kernel
theorem dJ5_append_cf1ce_20 : decode cJ5_append_cf1ce 20 = .ok (.iadd, 1) := by decide +kernel
theorem dJ5_append_cf1ce_21 : decode cJ5_append_cf1ce 21 = .ok (.invokevirtual 100, 3) := by decide +kernel
theorem dJ5_append_cf1ce_24 : decode cJ5_append_cf1ce 24 = .ok (.aload_n 0, 1) := by decide +kernel
theorem dJ5_append_cf1ce_25 : decode cJ5_append_cf1ce 25 = .ok (.aload_n 0, 1) := by decide +kernel
theorem dJ5_append_cf1ce_26 : decode cJ5_append_cf1ce 26 = .ok (.getfield 79, 3) := by decide +kernel
theorem dJ5_append_cf1ce_29 : decode cJ5_append_cf1ce 29 = .ok (.aload_n 1, 1) := by decide +kernel
theorem dJ5_append_cf1ce_30 : decode cJ5_append_cf1ce 30 = .ok (.invokevirtual 208, 3) := by decide +kernel
theorem dJ5_append_cf1ce_33 : decode cJ5_append_cf1ce 33 = .ok (.aload_n 0, 1) := by decide +kernel
theorem dJ5_append_cf1ce_34 : decode cJ5_append_cf1ce 34 = .ok (.dup, 1) := by decide +kernel
theorem dJ5_append_cf1ce_35 : decode cJ5_append_cf1ce 35 = .ok (.getfield 79, 3) := by decide +kernel
theorem dJ5_append_cf1ce_38 : decode cJ5_append_cf1ce 38 = .ok (.iload_n 2, 1) := by decide +kernel
theorem dJ5_append_cf1ce_39 : decode cJ5_append_cf1ce 39 = .ok (.iadd, 1) := by decide +kernel
theorem dJ5_append_cf1ce_40 : decode cJ5_append_cf1ce 40 = .ok (.putfield 79, 3) := by decide +kernel
theorem dJ5_append_cf1ce_43 : decode cJ5_append_cf1ce 43 = .ok (.aload_n 0, 1) := by decide +kernel
theorem dJ5_append_cf1ce_44 : decode cJ5_append_cf1ce 44 = .ok (.areturn, 1) := by decide +kernel
theorem dJ5_append_8f9a3_0 : decode cJ5_append_8f9a3 0 = .ok (.aload_n 1, 1) := by decide +kernel
theorem dJ5_append_8f9a3_1 : decode cJ5_append_8f9a3 1 = .ok (.ifnonnull 8, 3) := by decide +kernel
theorem dJ5_append_8f9a3_4 : decode cJ5_append_8f9a3 4 = .ok (.aload_n 0, 1) := by decide +kernel
theorem dJ5_append_8f9a3_5 : decode cJ5_append_8f9a3 5 = .ok (.invokevirtual 204, 3) := by decide +kernel
theorem dJ5_append_8f9a3_8 : decode cJ5_append_8f9a3 8 = .ok (.areturn, 1) := by decide +kernel
theorem dJ5_append_8f9a3_9 : decode cJ5_append_8f9a3 9 = .ok (.aload_n 1, 1) := by decide +kernel
theorem dJ5_append_8f9a3_10 : decode cJ5_append_8f9a3 10 = .ok (.instanceof 1, 3) := by decide +kernel
theorem dJ5_append_8f9a3_13 : decode cJ5_append_8f9a3 13 = .ok (.ifCond .eq 12, 3) := by decide +kernel
theorem dJ5_append_8f9a3_16 : decode cJ5_append_8f9a3 16 = .ok (.aload_n 0, 1) := by decide +kernel
theorem dJ5_append_8f9a3_17 : decode cJ5_append_8f9a3 17 = .ok (.aload_n 1, 1) := by decide +kernel
theorem dJ5_append_8f9a3_18 : decode cJ5_append_8f9a3 18 = .ok (.checkcast 1, 3) := by decide +kernel
theorem dJ5_append_8f9a3_21 : decode cJ5_append_8f9a3 21 = .ok (.invokevirtual 43, 3) := by decide +kernel
theorem dJ5_append_8f9a3_24 : decode cJ5_append_8f9a3 24 = .ok (.areturn, 1) := by decide +kernel
theorem dJ5_append_8f9a3_25 : decode cJ5_append_8f9a3 25 = .ok (.aload_n 1, 1) := by decide +kernel
theorem dJ5_append_8f9a3_26 : decode cJ5_append_8f9a3 26 = .ok (.instanceof 10, 3) := by decide +kernel
theorem dJ5_append_8f9a3_29 : decode cJ5_append_8f9a3 29 = .ok (.ifCond .eq 12, 3) := by decide +kernel
theorem dJ5_append_8f9a3_32 : decode cJ5_append_8f9a3 32 = .ok (.aload_n 0, 1) := by decide +kernel
theorem dJ5_append_8f9a3_33 : decode cJ5_append_8f9a3 33 = .ok (.aload_n 1, 1) := by decide +kernel
theorem dJ5_append_8f9a3_34 : decode cJ5_append_8f9a3 34 = .ok (.checkcast 10, 3) := by decide +kernel
theorem dJ5_append_8f9a3_37 : decode cJ5_append_8f9a3 37 = .ok (.invokevirtual 212, 3) := by decide +kernel
theorem dJ5_append_8f9a3_40 : decode cJ5_append_8f9a3 40 = .ok (.areturn, 1) := by decide +kernel
theorem dJ5_append_8f9a3_41 : decode cJ5_append_8f9a3 41 = .ok (.aload_n 0, 1) := by decide +kernel
theorem dJ5_append_8f9a3_42 : decode cJ5_append_8f9a3 42 = .ok (.aload_n 1, 1) := by decide +kernel
theorem dJ5_append_8f9a3_43 : decode cJ5_append_8f9a3 43 = .ok (.iconst 0, 1) := by decide +kernel
theorem dJ5_append_8f9a3_44 : decode cJ5_append_8f9a3 44 = .ok (.aload_n 1, 1) := by decide +kernel
theorem dJ5_append_8f9a3_45 : decode cJ5_append_8f9a3 45 = .ok (.invokeinterface 47 1, 5) := by decide +kernel
theorem dJ5_append_8f9a3_50 : decode cJ5_append_8f9a3 50 = .ok (.invokevirtual 223, 3) := by decide +kernel
theorem dJ5_append_8f9a3_53 : decode cJ5_append_8f9a3 53 = .ok (.areturn, 1) := by decide +kernel
theorem dJ5_append_a1634_0 : decode cJ5_append_a1634 0 = .ok (.aload_n 1, 1) := by decide +kernel
theorem dJ5_append_a1634_1 : decode cJ5_append_a1634 1 = .ok (.arraylength, 1) := by decide +kernel
theorem dJ5_append_a1634_2 : decode cJ5_append_a1634 2 = .ok (.istore_n 2, 1) := by decide +kernel
theorem dJ5_append_a1634_3 : decode cJ5_append_a1634 3 = .ok (.aload_n 0, 1) := by decide +kernel
theorem dJ5_append_a1634_4 : decode cJ5_append_a1634 4 = .ok (.aload_n 0, 1) := by decide +kernel
theorem dJ5_append_a1634_5 : decode cJ5_append_a1634 5 = .ok (.getfield 79, 3) := by decide +kernel
theorem dJ5_append_a1634_8 : decode cJ5_append_a1634 8 = .ok (.iload_n 2, 1) := by decide +kernel
theorem dJ5_append_a1634_9 : decode cJ5_append_a1634 9 = .ok (.iadd, 1) := by decide +kernel
theorem dJ5_append_a1634_10 : decode cJ5_append_a1634 10 = .ok (.invokevirtual 100, 3) := by decide +kernel
theorem dJ5_append_a1634_13 : decode cJ5_append_a1634 13 = .ok (.aload_n 0, 1) := by decide +kernel
theorem dJ5_append_a1634_14 : decode cJ5_append_a1634 14 = .ok (.aload_n 1, 1) := by decide +kernel
theorem dJ5_append_a1634_15 : decode cJ5_append_a1634 15 = .ok (.iconst 0, 1) := by decide +kernel
theorem dJ5_append_a1634_16 : decode cJ5_append_a1634 16 = .ok (.iload_n 2, 1) := by decide +kernel
theorem dJ5_append_a1634_17 : decode cJ5_append_a1634 17 = .ok (.invokevirtual 239, 3) := by decide +kernel
theorem dJ5_append_a1634_20 : decode cJ5_append_a1634 20 = .ok (.aload_n 0, 1) := by decide +kernel
theorem dJ5_append_a1634_21 : decode cJ5_append_a1634 21 = .ok (.areturn, 1) := by decide +kernel
theorem dJ5_append_34b3d_0 : decode cJ5_append_34b3d 0 = .ok (.aload_n 0, 1) := by decide +kernel
theorem dJ5_append_34b3d_1 : decode cJ5_append_34b3d 1 = .ok (.aload_n 0, 1) := by decide +kernel
theorem dJ5_append_34b3d_2 : decode cJ5_append_34b3d 2 = .ok (.getfield 79, 3) := by decide +kernel
theorem dJ5_append_34b3d_5 : decode cJ5_append_34b3d 5 = .ok (.iload_n 1, 1) := by decide +kernel
theorem dJ5_append_34b3d_6 : decode cJ5_append_34b3d 6 = .ok (.ifCond .eq 7, 3) := by decide +kernel
theorem dJ5_append_34b3d_9 : decode cJ5_append_34b3d 9 = .ok (.iconst 4, 1) := by decide +kernel
theorem dJ5_append_34b3d_10 : decode cJ5_append_34b3d 10 = .ok (.goto 4, 3) := by decide +kernel
theorem dJ5_append_34b3d_13 : decode cJ5_append_34b3d 13 = .ok (.iconst 5, 1) := by decide +kernel
theorem dJ5_append_34b3d_14 : decode cJ5_append_34b3d 14 = .ok (.iadd, 1) := by decide +kernel
theorem dJ5_append_34b3d_15 : decode cJ5_append_34b3d 15 = .ok (.invokevirtual 100, 3) := by decide +kernel
theorem dJ5_append_34b3d_18 : decode cJ5_append_34b3d 18 = .ok (.aload_n 0, 1) := by decide +kernel
theorem dJ5_append_34b3d_19 : decode cJ5_append_34b3d 19 = .ok (.getfield 79, 3) := by decide +kernel
theorem dJ5_append_34b3d_22 : decode cJ5_append_34b3d 22 = .ok (.istore_n 2, 1) := by decide +kernel
theorem dJ5_append_34b3d_23 : decode cJ5_append_34b3d 23 = .ok (.aload_n 0, 1) := by decide +kernel
theorem dJ5_append_34b3d_24 : decode cJ5_append_34b3d 24 = .ok (.getfield 15, 3) := by decide +kernel
theorem dJ5_append_34b3d_27 : decode cJ5_append_34b3d 27 = .ok (.astore_n 3, 1) := by decide +kernel
theorem dJ5_append_34b3d_28 : decode cJ5_append_34b3d 28 = .ok (.aload_n 0, 1) := by decide +kernel
theorem dJ5_append_34b3d_29 : decode cJ5_append_34b3d 29 = .ok (.invokevirtual 83, 3) := by decide +kernel
theorem dJ5_append_34b3d_32 : decode cJ5_append_34b3d 32 = .ok (.ifCond .eq 85, 3) := by decide +kernel
theorem dJ5_append_34b3d_35 : decode cJ5_append_34b3d 35 = .ok (.iload_n 1, 1) := by decide +kernel
theorem dJ5_append_34b3d_36 : decode cJ5_append_34b3d 36 = .ok (.ifCond .eq 38, 3) := by decide +kernel
theorem dJ5_append_34b3d_39 : decode cJ5_append_34b3d 39 = .ok (.aload_n 3, 1) := by decide +kernel
theorem dJ5_append_34b3d_40 : decode cJ5_append_34b3d 40 = .ok (.iload_n 2, 1) := by decide +kernel
theorem dJ5_append_34b3d_41 : decode cJ5_append_34b3d 41 = .ok (.iinc 2 1, 3) := by decide +kernel
theorem dJ5_append_34b3d_44 : decode cJ5_append_34b3d 44 = .ok (.bipush 116, 2) := by decide +kernel
theorem dJ5_append_34b3d_46 : decode cJ5_append_34b3d 46 = .ok (.bastore, 1) := by decide +kernel
theorem dJ5_append_34b3d_47 : decode cJ5_append_34b3d 47 = .ok (.aload_n 3, 1) := by decide +kernel
theorem dJ5_append_34b3d_48 : decode cJ5_append_34b3d 48 = .ok (.iload_n 2, 1) := by decide +kernel
theorem dJ5_append_34b3d_49 : decode cJ5_append_34b3d 49 = .ok (.iinc 2 1, 3) := by decide +kernel
theorem dJ5_append_34b3d_52 : decode cJ5_append_34b3d 52 = .ok (.bipush 114, 2) := by decide +kernel
theorem dJ5_append_34b3d_54 : decode cJ5_append_34b3d 54 = .ok (.bastore, 1) := by decide +kernel
theorem dJ5_append_34b3d_55 : decode cJ5_append_34b3d 55 = .ok (.aload_n 3, 1) := by decide +kernel
theorem dJ5_append_34b3d_56 : decode cJ5_append_34b3d 56 = .ok (.iload_n 2, 1) := by decide +kernel
theorem dJ5_append_34b3d_57 : decode cJ5_append_34b3d 57 = .ok (.iinc 2 1, 3) := by decide +kernel
theorem dJ5_append_34b3d_60 : decode cJ5_append_34b3d 60 = .ok (.bipush 117, 2) := by decide +kernel
theorem dJ5_append_34b3d_62 : decode cJ5_append_34b3d 62 = .ok (.bastore, 1) := by decide +kernel
theorem dJ5_append_34b3d_63 : decode cJ5_append_34b3d 63 = .ok (.aload_n 3, 1) := by decide +kernel
theorem dJ5_append_34b3d_64 : decode cJ5_append_34b3d 64 = .ok (.iload_n 2, 1) := by decide +kernel
theorem dJ5_append_34b3d_65 : decode cJ5_append_34b3d 65 = .ok (.iinc 2 1, 3) := by decide +kernel
theorem dJ5_append_34b3d_68 : decode cJ5_append_34b3d 68 = .ok (.bipush 101, 2) := by decide +kernel
theorem dJ5_append_34b3d_70 : decode cJ5_append_34b3d 70 = .ok (.bastore, 1) := by decide +kernel
theorem dJ5_append_34b3d_71 : decode cJ5_append_34b3d 71 = .ok (.goto 83, 3) := by decide +kernel
theorem dJ5_append_34b3d_74 : decode cJ5_append_34b3d 74 = .ok (.aload_n 3, 1) := by decide +kernel
theorem dJ5_append_34b3d_75 : decode cJ5_append_34b3d 75 = .ok (.iload_n 2, 1) := by decide +kernel
theorem dJ5_append_34b3d_76 : decode cJ5_append_34b3d 76 = .ok (.iinc 2 1, 3) := by decide +kernel
theorem dJ5_append_34b3d_79 : decode cJ5_append_34b3d 79 = .ok (.bipush 102, 2) := by decide +kernel
theorem dJ5_append_34b3d_81 : decode cJ5_append_34b3d 81 = .ok (.bastore, 1) := by decide +kernel
theorem dJ5_append_34b3d_82 : decode cJ5_append_34b3d 82 = .ok (.aload_n 3, 1) := by decide +kernel
theorem dJ5_append_34b3d_83 : decode cJ5_append_34b3d 83 = .ok (.iload_n 2, 1) := by decide +kernel
theorem dJ5_append_34b3d_84 : decode cJ5_append_34b3d 84 = .ok (.iinc 2 1, 3) := by decide +kernel
theorem dJ5_append_34b3d_87 : decode cJ5_append_34b3d 87 = .ok (.bipush 97, 2) := by decide +kernel
theorem dJ5_append_34b3d_89 : decode cJ5_append_34b3d 89 = .ok (.bastore, 1) := by decide +kernel
theorem dJ5_append_34b3d_90 : decode cJ5_append_34b3d 90 = .ok (.aload_n 3, 1) := by decide +kernel
theorem dJ5_append_34b3d_91 : decode cJ5_append_34b3d 91 = .ok (.iload_n 2, 1) := by decide +kernel
theorem dJ5_append_34b3d_92 : decode cJ5_append_34b3d 92 = .ok (.iinc 2 1, 3) := by decide +kernel
theorem dJ5_append_34b3d_95 : decode cJ5_append_34b3d 95 = .ok (.bipush 108, 2) := by decide +kernel
theorem dJ5_append_34b3d_97 : decode cJ5_append_34b3d 97 = .ok (.bastore, 1) := by decide +kernel
theorem dJ5_append_34b3d_98 : decode cJ5_append_34b3d 98 = .ok (.aload_n 3, 1) := by decide +kernel
theorem dJ5_append_34b3d_99 : decode cJ5_append_34b3d 99 = .ok (.iload_n 2, 1) := by decide +kernel
theorem dJ5_append_34b3d_100 : decode cJ5_append_34b3d 100 = .ok (.iinc 2 1, 3) := by decide +kernel
theorem dJ5_append_34b3d_103 : decode cJ5_append_34b3d 103 = .ok (.bipush 115, 2) := by decide +kernel
theorem dJ5_append_34b3d_105 : decode cJ5_append_34b3d 105 = .ok (.bastore, 1) := by decide +kernel
theorem dJ5_append_34b3d_106 : decode cJ5_append_34b3d 106 = .ok (.aload_n 3, 1) := by decide +kernel
theorem dJ5_append_34b3d_107 : decode cJ5_append_34b3d 107 = .ok (.iload_n 2, 1) := by decide +kernel
theorem dJ5_append_34b3d_108 : decode cJ5_append_34b3d 108 = .ok (.iinc 2 1, 3) := by decide +kernel
theorem dJ5_append_34b3d_111 : decode cJ5_append_34b3d 111 = .ok (.bipush 101, 2) := by decide +kernel
theorem dJ5_append_34b3d_113 : decode cJ5_append_34b3d 113 = .ok (.bastore, 1) := by decide +kernel
theorem dJ5_append_34b3d_114 : decode cJ5_append_34b3d 114 = .ok (.goto 40, 3) := by decide +kernel
theorem dJ5_append_34b3d_117 : decode cJ5_append_34b3d 117 = .ok (.iload_n 1, 1) := by decide +kernel
theorem dJ5_append_34b3d_118 : decode cJ5_append_34b3d 118 = .ok (.ifCond .eq 20, 3) := by decide +kernel
theorem dJ5_append_34b3d_121 : decode cJ5_append_34b3d 121 = .ok (.aload_n 3, 1) := by decide +kernel
theorem dJ5_append_34b3d_122 : decode cJ5_append_34b3d 122 = .ok (.iload_n 2, 1) := by decide +kernel
theorem dJ5_append_34b3d_123 : decode cJ5_append_34b3d 123 = .ok (.bipush 116, 2) := by decide +kernel
theorem dJ5_append_34b3d_125 : decode cJ5_append_34b3d 125 = .ok (.bipush 114, 2) := by decide +kernel
theorem dJ5_append_34b3d_127 : decode cJ5_append_34b3d 127 = .ok (.bipush 117, 2) := by decide +kernel
theorem dJ5_append_34b3d_129 : decode cJ5_append_34b3d 129 = .ok (.bipush 101, 2) := by decide +kernel
theorem dJ5_append_34b3d_131 : decode cJ5_append_34b3d 131 = .ok (.invokestatic 226, 3) := by decide +kernel
theorem dJ5_append_34b3d_134 : decode cJ5_append_34b3d 134 = .ok (.istore_n 2, 1) := by decide +kernel
theorem dJ5_append_34b3d_135 : decode cJ5_append_34b3d 135 = .ok (.goto 19, 3) := by decide +kernel
theorem dJ5_append_34b3d_138 : decode cJ5_append_34b3d 138 = .ok (.aload_n 3, 1) := by decide +kernel
theorem dJ5_append_34b3d_139 : decode cJ5_append_34b3d 139 = .ok (.iload_n 2, 1) := by decide +kernel
theorem dJ5_append_34b3d_140 : decode cJ5_append_34b3d 140 = .ok (.bipush 102, 2) := by decide +kernel
theorem dJ5_append_34b3d_142 : decode cJ5_append_34b3d 142 = .ok (.bipush 97, 2) := by decide +kernel
theorem dJ5_append_34b3d_144 : decode cJ5_append_34b3d 144 = .ok (.bipush 108, 2) := by decide +kernel
theorem dJ5_append_34b3d_146 : decode cJ5_append_34b3d 146 = .ok (.bipush 115, 2) := by decide +kernel
theorem dJ5_append_34b3d_148 : decode cJ5_append_34b3d 148 = .ok (.bipush 101, 2) := by decide +kernel
theorem dJ5_append_34b3d_150 : decode cJ5_append_34b3d 150 = .ok (.invokestatic 242, 3) := by decide +kernel
theorem dJ5_append_34b3d_153 : decode cJ5_append_34b3d 153 = .ok (.istore_n 2, 1) := by decide +kernel
theorem dJ5_append_34b3d_154 : decode cJ5_append_34b3d 154 = .ok (.aload_n 0, 1) := by decide +kernel
theorem dJ5_append_34b3d_155 : decode cJ5_append_34b3d 155 = .ok (.iload_n 2, 1) := by decide +kernel
theorem dJ5_append_34b3d_156 : decode cJ5_append_34b3d 156 = .ok (.putfield 79, 3) := by decide +kernel
theorem dJ5_append_34b3d_159 : decode cJ5_append_34b3d 159 = .ok (.aload_n 0, 1) := by decide +kernel
theorem dJ5_append_34b3d_160 : decode cJ5_append_34b3d 160 = .ok (.areturn, 1) := by decide +kernel
theorem dJ5_append_3fe6f_0 : decode cJ5_append_3fe6f 0 = .ok (.aload_n 0, 1) := by decide +kernel
theorem dJ5_append_3fe6f_1 : decode cJ5_append_3fe6f 1 = .ok (.aload_n 0, 1) := by decide +kernel
theorem dJ5_append_3fe6f_2 : decode cJ5_append_3fe6f 2 = .ok (.getfield 79, 3) := by decide +kernel
theorem dJ5_append_3fe6f_5 : decode cJ5_append_3fe6f 5 = .ok (.iconst 1, 1) := by decide +kernel
theorem dJ5_append_3fe6f_6 : decode cJ5_append_3fe6f 6 = .ok (.iadd, 1) := by decide +kernel
theorem dJ5_append_3fe6f_7 : decode cJ5_append_3fe6f 7 = .ok (.invokevirtual 100, 3) := by decide +kernel
theorem dJ5_append_3fe6f_10 : decode cJ5_append_3fe6f 10 = .ok (.aload_n 0, 1) := by decide +kernel
theorem dJ5_append_3fe6f_11 : decode cJ5_append_3fe6f 11 = .ok (.invokevirtual 83, 3) := by decide +kernel
theorem dJ5_append_3fe6f_14 : decode cJ5_append_3fe6f 14 = .ok (.ifCond .eq 31, 3) := by decide +kernel
theorem dJ5_append_3fe6f_17 : decode cJ5_append_3fe6f 17 = .ok (.iload_n 1, 1) := by decide +kernel
theorem dJ5_append_3fe6f_18 : decode cJ5_append_3fe6f 18 = .ok (.invokestatic 191, 3) := by decide +kernel
theorem dJ5_append_3fe6f_21 : decode cJ5_append_3fe6f 21 = .ok (.ifCond .eq 24, 3) := by decide +kernel
theorem dJ5_append_3fe6f_24 : decode cJ5_append_3fe6f 24 = .ok (.aload_n 0, 1) := by decide +kernel
theorem dJ5_append_3fe6f_25 : decode cJ5_append_3fe6f 25 = .ok (.getfield 15, 3) := by decide +kernel
theorem dJ5_append_3fe6f_28 : decode cJ5_append_3fe6f 28 = .ok (.aload_n 0, 1) := by decide +kernel
theorem dJ5_append_3fe6f_29 : decode cJ5_append_3fe6f 29 = .ok (.dup, 1) := by decide +kernel
theorem dJ5_append_3fe6f_30 : decode cJ5_append_3fe6f 30 = .ok (.getfield 79, 3) := by decide +kernel
theorem dJ5_append_3fe6f_33 : decode cJ5_append_3fe6f 33 = .ok (.dup_x1, 1) := by decide +kernel
theorem dJ5_append_3fe6f_34 : decode cJ5_append_3fe6f 34 = .ok (.iconst 1, 1) := by decide +kernel
theorem dJ5_append_3fe6f_35 : decode cJ5_append_3fe6f 35 = .ok (.iadd, 1) := by decide +kernel
theorem dJ5_append_3fe6f_36 : decode cJ5_append_3fe6f 36 = .ok (.putfield 79, 3) := by decide +kernel
theorem dJ5_append_3fe6f_39 : decode cJ5_append_3fe6f 39 = .ok (.iload_n 1, 1) := by decide +kernel
theorem dJ5_append_3fe6f_40 : decode cJ5_append_3fe6f 40 = .ok (.i2b, 1) := by decide +kernel
theorem dJ5_append_3fe6f_41 : decode cJ5_append_3fe6f 41 = .ok (.bastore, 1) := by decide +kernel
theorem dJ5_append_3fe6f_42 : decode cJ5_append_3fe6f 42 = .ok (.goto 33, 3) := by decide +kernel
theorem dJ5_append_3fe6f_45 : decode cJ5_append_3fe6f 45 = .ok (.aload_n 0, 1) := by decide +kernel
theorem dJ5_append_3fe6f_46 : decode cJ5_append_3fe6f 46 = .ok (.invokevirtual 83, 3) := by decide +kernel
theorem dJ5_append_3fe6f_49 : decode cJ5_append_3fe6f 49 = .ok (.ifCond .eq 7, 3) := by decide +kernel
theorem dJ5_append_3fe6f_52 : decode cJ5_append_3fe6f 52 = .ok (.aload_n 0, 1) := by decide +kernel
theorem dJ5_append_3fe6f_53 : decode cJ5_append_3fe6f 53 = .ok (.invokevirtual 195, 3) := by decide +kernel
theorem dJ5_append_3fe6f_56 : decode cJ5_append_3fe6f 56 = .ok (.aload_n 0, 1) := by decide +kernel
theorem dJ5_append_3fe6f_57 : decode cJ5_append_3fe6f 57 = .ok (.getfield 15, 3) := by decide +kernel
theorem dJ5_append_3fe6f_60 : decode cJ5_append_3fe6f 60 = .ok (.aload_n 0, 1) := by decide +kernel
theorem dJ5_append_3fe6f_61 : decode cJ5_append_3fe6f 61 = .ok (.dup, 1) := by decide +kernel
theorem dJ5_append_3fe6f_62 : decode cJ5_append_3fe6f 62 = .ok (.getfield 79, 3) := by decide +kernel
theorem dJ5_append_3fe6f_65 : decode cJ5_append_3fe6f 65 = .ok (.dup_x1, 1) := by decide +kernel
theorem dJ5_append_3fe6f_66 : decode cJ5_append_3fe6f 66 = .ok (.iconst 1, 1) := by decide +kernel
theorem dJ5_append_3fe6f_67 : decode cJ5_append_3fe6f 67 = .ok (.iadd, 1) := by decide +kernel
theorem dJ5_append_3fe6f_68 : decode cJ5_append_3fe6f 68 = .ok (.putfield 79, 3) := by decide +kernel
theorem dJ5_append_3fe6f_71 : decode cJ5_append_3fe6f 71 = .ok (.iload_n 1, 1) := by decide +kernel
theorem dJ5_append_3fe6f_72 : decode cJ5_append_3fe6f 72 = .ok (.invokestatic 197, 3) := by decide +kernel
theorem dJ5_append_3fe6f_75 : decode cJ5_append_3fe6f 75 = .ok (.aload_n 0, 1) := by decide +kernel
theorem dJ5_append_3fe6f_76 : decode cJ5_append_3fe6f 76 = .ok (.areturn, 1) := by decide +kernel
theorem dJ5_append_c97b9_0 : decode cJ5_append_c97b9 0 = .ok (.aload_n 0, 1) := by decide +kernel
theorem dJ5_append_c97b9_1 : decode cJ5_append_c97b9 1 = .ok (.getfield 79, 3) := by decide +kernel
theorem dJ5_append_c97b9_4 : decode cJ5_append_c97b9 4 = .ok (.istore_n 2, 1) := by decide +kernel
theorem dJ5_append_c97b9_5 : decode cJ5_append_c97b9 5 = .ok (.iload_n 2, 1) := by decide +kernel
theorem dJ5_append_c97b9_6 : decode cJ5_append_c97b9 6 = .ok (.iload_n 1, 1) := by decide +kernel
theorem dJ5_append_c97b9_7 : decode cJ5_append_c97b9 7 = .ok (.invokestatic 245, 3) := by decide +kernel
theorem dJ5_append_c97b9_10 : decode cJ5_append_c97b9 10 = .ok (.iadd, 1) := by decide +kernel
theorem dJ5_append_c97b9_11 : decode cJ5_append_c97b9 11 = .ok (.istore_n 3, 1) := by decide +kernel
theorem dJ5_append_c97b9_12 : decode cJ5_append_c97b9 12 = .ok (.aload_n 0, 1) := by decide +kernel
theorem dJ5_append_c97b9_13 : decode cJ5_append_c97b9 13 = .ok (.iload_n 3, 1) := by decide +kernel
theorem dJ5_append_c97b9_14 : decode cJ5_append_c97b9 14 = .ok (.invokevirtual 100, 3) := by decide +kernel
theorem dJ5_append_c97b9_17 : decode cJ5_append_c97b9 17 = .ok (.aload_n 0, 1) := by decide +kernel
theorem dJ5_append_c97b9_18 : decode cJ5_append_c97b9 18 = .ok (.invokevirtual 83, 3) := by decide +kernel
theorem dJ5_append_c97b9_21 : decode cJ5_append_c97b9 21 = .ok (.ifCond .eq 16, 3) := by decide +kernel
theorem dJ5_append_c97b9_24 : decode cJ5_append_c97b9 24 = .ok (.iload_n 1, 1) := by decide +kernel
theorem dJ5_append_c97b9_25 : decode cJ5_append_c97b9 25 = .ok (.iload_n 3, 1) := by decide +kernel
theorem dJ5_append_c97b9_26 : decode cJ5_append_c97b9 26 = .ok (.aload_n 0, 1) := by decide +kernel
theorem dJ5_append_c97b9_27 : decode cJ5_append_c97b9 27 = .ok (.getfield 15, 3) := by decide +kernel
theorem dJ5_append_c97b9_30 : decode cJ5_append_c97b9 30 = .ok (.invokestatic 248, 3) := by decide +kernel
theorem dJ5_append_c97b9_33 : decode cJ5_append_c97b9 33 = .ok (.pop, 1) := by decide +kernel
theorem dJ5_append_c97b9_34 : decode cJ5_append_c97b9 34 = .ok (.goto 14, 3) := by decide +kernel
theorem dJ5_append_c97b9_37 : decode cJ5_append_c97b9 37 = .ok (.iload_n 1, 1) := by decide +kernel
theorem dJ5_append_c97b9_38 : decode cJ5_append_c97b9 38 = .ok (.iload_n 2, 1) := by decide +kernel
theorem dJ5_append_c97b9_39 : decode cJ5_append_c97b9 39 = .ok (.iload_n 3, 1) := by decide +kernel
theorem dJ5_append_c97b9_40 : decode cJ5_append_c97b9 40 = .ok (.aload_n 0, 1) := by decide +kernel
theorem dJ5_append_c97b9_41 : decode cJ5_append_c97b9 41 = .ok (.getfield 15, 3) := by decide +kernel
theorem dJ5_append_c97b9_44 : decode cJ5_append_c97b9 44 = .ok (.invokestatic 251, 3) := by decide +kernel
theorem dJ5_append_c97b9_47 : decode cJ5_append_c97b9 47 = .ok (.pop, 1) := by decide +kernel
theorem dJ5_append_c97b9_48 : decode cJ5_append_c97b9 48 = .ok (.aload_n 0, 1) := by decide +kernel
theorem dJ5_append_c97b9_49 : decode cJ5_append_c97b9 49 = .ok (.iload_n 3, 1) := by decide +kernel
theorem dJ5_append_c97b9_50 : decode cJ5_append_c97b9 50 = .ok (.putfield 79, 3) := by decide +kernel
theorem dJ5_append_c97b9_53 : decode cJ5_append_c97b9 53 = .ok (.aload_n 0, 1) := by decide +kernel
theorem dJ5_append_c97b9_54 : decode cJ5_append_c97b9 54 = .ok (.areturn, 1) := by decide +kernel
theorem dJ5_append_66267_0 : decode cJ5_append_66267 0 = .ok (.aload_n 0, 1) := by decide +kernel
theorem dJ5_append_66267_1 : decode cJ5_append_66267 1 = .ok (.getfield 79, 3) := by decide +kernel
theorem dJ5_append_66267_4 : decode cJ5_append_66267 4 = .ok (.istore_n 3, 1) := by decide +kernel
theorem dJ5_append_66267_5 : decode cJ5_append_66267 5 = .ok (.iload_n 3, 1) := by decide +kernel
theorem dJ5_append_66267_6 : decode cJ5_append_66267 6 = .ok (.lload_n 1, 1) := by decide +kernel
theorem dJ5_append_66267_7 : decode cJ5_append_66267 7 = .ok (.invokestatic 254, 3) := by decide +kernel
theorem dJ5_append_66267_10 : decode cJ5_append_66267 10 = .ok (.iadd, 1) := by decide +kernel
theorem dJ5_append_66267_11 : decode cJ5_append_66267 11 = .ok (.istore 4, 2) := by decide +kernel
theorem dJ5_append_66267_13 : decode cJ5_append_66267 13 = .ok (.aload_n 0, 1) := by decide +kernel
theorem dJ5_append_66267_14 : decode cJ5_append_66267 14 = .ok (.iload 4, 2) := by decide +kernel
theorem dJ5_append_66267_16 : decode cJ5_append_66267 16 = .ok (.invokevirtual 100, 3) := by decide +kernel
theorem dJ5_append_66267_19 : decode cJ5_append_66267 19 = .ok (.aload_n 0, 1) := by decide +kernel
theorem dJ5_append_66267_20 : decode cJ5_append_66267 20 = .ok (.invokevirtual 83, 3) := by decide +kernel
theorem dJ5_append_66267_23 : decode cJ5_append_66267 23 = .ok (.ifCond .eq 17, 3) := by decide +kernel
theorem dJ5_append_66267_26 : decode cJ5_append_66267 26 = .ok (.lload_n 1, 1) := by decide +kernel
theorem dJ5_append_66267_27 : decode cJ5_append_66267 27 = .ok (.iload 4, 2) := by decide +kernel
theorem dJ5_append_66267_29 : decode cJ5_append_66267 29 = .ok (.aload_n 0, 1) := by decide +kernel
theorem dJ5_append_66267_30 : decode cJ5_append_66267 30 = .ok (.getfield 15, 3) := by decide +kernel
theorem dJ5_append_66267_33 : decode cJ5_append_66267 33 = .ok (.invokestatic 259, 3) := by decide +kernel
theorem dJ5_append_66267_36 : decode cJ5_append_66267 36 = .ok (.pop, 1) := by decide +kernel
theorem dJ5_append_66267_37 : decode cJ5_append_66267 37 = .ok (.goto 15, 3) := by decide +kernel
theorem dJ5_append_66267_40 : decode cJ5_append_66267 40 = .ok (.lload_n 1, 1) := by decide +kernel
theorem dJ5_append_66267_41 : decode cJ5_append_66267 41 = .ok (.iload_n 3, 1) := by decide +kernel
theorem dJ5_append_66267_42 : decode cJ5_append_66267 42 = .ok (.iload 4, 2) := by decide +kernel
theorem dJ5_append_66267_44 : decode cJ5_append_66267 44 = .ok (.aload_n 0, 1) := by decide +kernel
theorem dJ5_append_66267_45 : decode cJ5_append_66267 45 = .ok (.getfield 15, 3) := by decide +kernel
theorem dJ5_append_66267_48 : decode cJ5_append_66267 48 = .ok (.invokestatic 262, 3) := by decide +kernel
theorem dJ5_append_66267_51 : decode cJ5_append_66267 51 = .ok (.pop, 1) := by decide +kernel
theorem dJ5_append_66267_52 : decode cJ5_append_66267 52 = .ok (.aload_n 0, 1) := by decide +kernel
theorem dJ5_append_66267_53 : decode cJ5_append_66267 53 = .ok (.iload 4, 2) := by decide +kernel
theorem dJ5_append_66267_55 : decode cJ5_append_66267 55 = .ok (.putfield 79, 3) := by decide +kernel
theorem dJ5_append_66267_58 : decode cJ5_append_66267 58 = .ok (.aload_n 0, 1) := by decide +kernel
theorem dJ5_append_66267_59 : decode cJ5_append_66267 59 = .ok (.areturn, 1) := by decide +kernel
theorem dJ5_append_b089e_0 : decode cJ5_append_b089e 0 = .ok (.fload_n 1, 1) := by decide +kernel
theorem dJ5_append_b089e_1 : decode cJ5_append_b089e 1 = .ok (.aload_n 0, 1) := by decide +kernel
theorem dJ5_append_b089e_2 : decode cJ5_append_b089e 2 = .ok (.invokestatic 265, 3) := by decide +kernel
theorem dJ5_append_b089e_5 : decode cJ5_append_b089e 5 = .ok (.pop, 1) := by decide +kernel
theorem dJ5_append_b089e_6 : decode cJ5_append_b089e 6 = .ok (.goto 13, 3) := by decide +kernel
theorem dJ5_append_b089e_9 : decode cJ5_append_b089e 9 = .ok (.astore_n 2, 1) := by decide +kernel
theorem dJ5_append_b089e_10 : decode cJ5_append_b089e 10 = .ok (.new 273, 3) := by decide +kernel
theorem dJ5_append_b089e_13 : decode cJ5_append_b089e 13 = .ok (.dup, 1) := by decide +kernel
theorem dJ5_append_b089e_14 : decode cJ5_append_b089e 14 = .ok (.aload_n 2, 1) := by decide +kernel
theorem dJ5_append_b089e_15 : decode cJ5_append_b089e 15 = .ok (.invokespecial 275, 3) := by decide +kernel
theorem dJ5_append_b089e_18 : decode cJ5_append_b089e 18 = .ok (.athrow, 1) := by decide +kernel
theorem dJ5_append_b089e_19 : decode cJ5_append_b089e 19 = .ok (.aload_n 0, 1) := by decide +kernel
theorem dJ5_append_b089e_20 : decode cJ5_append_b089e 20 = .ok (.areturn, 1) := by decide +kernel
theorem dJ5_getValue_6d5f1_0 : decode cJ5_getValue_6d5f1 0 = .ok (.aload_n 0, 1) := by decide +kernel
theorem dJ5_getValue_6d5f1_1 : decode cJ5_getValue_6d5f1 1 = .ok (.getfield 15, 3) := by decide +kernel
theorem dJ5_getValue_6d5f1_4 : decode cJ5_getValue_6d5f1 4 = .ok (.areturn, 1) := by decide +kernel
theorem dJ5_isLatin1_aae02_0 : decode cJ5_isLatin1_aae02 0 = .ok (.getstatic 18, 3) := by decide +kernel
theorem dJ5_isLatin1_aae02_3 : decode cJ5_isLatin1_aae02 3 = .ok (.ifCond .eq 14, 3) := by decide +kernel
theorem dJ5_isLatin1_aae02_6 : decode cJ5_isLatin1_aae02 6 = .ok (.aload_n 0, 1) := by decide +kernel
theorem dJ5_isLatin1_aae02_7 : decode cJ5_isLatin1_aae02 7 = .ok (.getfield 22, 3) := by decide +kernel
theorem dJ5_isLatin1_aae02_10 : decode cJ5_isLatin1_aae02 10 = .ok (.ifCond .ne 7, 3) := by decide +kernel
theorem dJ5_isLatin1_aae02_13 : decode cJ5_isLatin1_aae02 13 = .ok (.iconst 1, 1) := by decide +kernel
theorem dJ5_isLatin1_aae02_14 : decode cJ5_isLatin1_aae02 14 = .ok (.goto 4, 3) := by decide +kernel
theorem dJ5_isLatin1_aae02_17 : decode cJ5_isLatin1_aae02 17 = .ok (.iconst 0, 1) := by decide +kernel
theorem dJ5_isLatin1_aae02_18 : decode cJ5_isLatin1_aae02 18 = .ok (.ireturn, 1) := by decide +kernel
theorem dJ5_inflateIfNeededFor_a7421_0 : decode cJ5_inflateIfNeededFor_a7421 0 = .ok (.getstatic 18, 3) := by decide +kernel
theorem dJ5_inflateIfNeededFor_a7421_3 : decode cJ5_inflateIfNeededFor_a7421 3 = .ok (.ifCond .eq 18, 3) := by decide +kernel
theorem dJ5_inflateIfNeededFor_a7421_6 : decode cJ5_inflateIfNeededFor_a7421 6 = .ok (.aload_n 0, 1) := by decide +kernel
theorem dJ5_inflateIfNeededFor_a7421_7 : decode cJ5_inflateIfNeededFor_a7421 7 = .ok (.getfield 22, 3) := by decide +kernel
theorem dJ5_inflateIfNeededFor_a7421_10 : decode cJ5_inflateIfNeededFor_a7421 10 = .ok (.aload_n 1, 1) := by decide +kernel
theorem dJ5_inflateIfNeededFor_a7421_11 : decode cJ5_inflateIfNeededFor_a7421 11 = .ok (.invokevirtual 40, 3) := by decide +kernel
theorem dJ5_inflateIfNeededFor_a7421_14 : decode cJ5_inflateIfNeededFor_a7421 14 = .ok (.if_icmp .eq 7, 3) := by decide +kernel
theorem dJ5_inflateIfNeededFor_a7421_17 : decode cJ5_inflateIfNeededFor_a7421 17 = .ok (.aload_n 0, 1) := by decide +kernel
theorem dJ5_inflateIfNeededFor_a7421_18 : decode cJ5_inflateIfNeededFor_a7421 18 = .ok (.invokevirtual 195, 3) := by decide +kernel
theorem dJ5_inflateIfNeededFor_a7421_21 : decode cJ5_inflateIfNeededFor_a7421 21 = .ok (.return_, 1) := by decide +kernel
theorem dJ5_putStringAt_47b60_0 : decode cJ5_putStringAt_47b60 0 = .ok (.aload_n 0, 1) := by decide +kernel
theorem dJ5_putStringAt_47b60_1 : decode cJ5_putStringAt_47b60 1 = .ok (.aload_n 2, 1) := by decide +kernel
theorem dJ5_putStringAt_47b60_2 : decode cJ5_putStringAt_47b60 2 = .ok (.invokevirtual 397, 3) := by decide +kernel
theorem dJ5_putStringAt_47b60_5 : decode cJ5_putStringAt_47b60 5 = .ok (.aload_n 2, 1) := by decide +kernel
theorem dJ5_putStringAt_47b60_6 : decode cJ5_putStringAt_47b60 6 = .ok (.aload_n 0, 1) := by decide +kernel
theorem dJ5_putStringAt_47b60_7 : decode cJ5_putStringAt_47b60 7 = .ok (.getfield 15, 3) := by decide +kernel
theorem dJ5_putStringAt_47b60_10 : decode cJ5_putStringAt_47b60 10 = .ok (.iload_n 1, 1) := by decide +kernel
theorem dJ5_putStringAt_47b60_11 : decode cJ5_putStringAt_47b60 11 = .ok (.aload_n 0, 1) := by decide +kernel
theorem dJ5_putStringAt_47b60_12 : decode cJ5_putStringAt_47b60 12 = .ok (.getfield 22, 3) := by decide +kernel
theorem dJ5_putStringAt_47b60_15 : decode cJ5_putStringAt_47b60 15 = .ok (.invokevirtual 399, 3) := by decide +kernel
theorem dJ5_putStringAt_47b60_18 : decode cJ5_putStringAt_47b60 18 = .ok (.return_, 1) := by decide +kernel
theorem dJ5_appendChars_0ad70_0 : decode cJ5_appendChars_0ad70 0 = .ok (.aload_n 0, 1) := by decide +kernel
theorem dJ5_appendChars_0ad70_1 : decode cJ5_appendChars_0ad70 1 = .ok (.getfield 79, 3) := by decide +kernel
theorem dJ5_appendChars_0ad70_4 : decode cJ5_appendChars_0ad70 4 = .ok (.istore 4, 2) := by decide +kernel
theorem dJ5_appendChars_0ad70_6 : decode cJ5_appendChars_0ad70 6 = .ok (.aload_n 0, 1) := by decide +kernel
theorem dJ5_appendChars_0ad70_7 : decode cJ5_appendChars_0ad70 7 = .ok (.invokevirtual 83, 3) := by decide +kernel
theorem dJ5_appendChars_0ad70_10 : decode cJ5_appendChars_0ad70 10 = .ok (.ifCond .eq 97, 3) := by decide +kernel
theorem dJ5_appendChars_0ad70_13 : decode cJ5_appendChars_0ad70 13 = .ok (.aload_n 0, 1) := by decide +kernel
theorem dJ5_appendChars_0ad70_14 : decode cJ5_appendChars_0ad70 14 = .ok (.getfield 15, 3) := by decide +kernel
theorem dJ5_appendChars_0ad70_17 : decode cJ5_appendChars_0ad70 17 = .ok (.astore 5, 2) := by decide +kernel
theorem dJ5_appendChars_0ad70_19 : decode cJ5_appendChars_0ad70 19 = .ok (.iload_n 2, 1) := by decide +kernel
theorem dJ5_appendChars_0ad70_20 : decode cJ5_appendChars_0ad70 20 = .ok (.istore 6, 2) := by decide +kernel
theorem dJ5_appendChars_0ad70_22 : decode cJ5_appendChars_0ad70 22 = .ok (.iload 4, 2) := by decide +kernel
theorem dJ5_appendChars_0ad70_24 : decode cJ5_appendChars_0ad70 24 = .ok (.istore 7, 2) := by decide +kernel
theorem dJ5_appendChars_0ad70_26 : decode cJ5_appendChars_0ad70 26 = .ok (.iload 6, 2) := by decide +kernel
theorem dJ5_appendChars_0ad70_28 : decode cJ5_appendChars_0ad70 28 = .ok (.iload_n 3, 1) := by decide +kernel
theorem dJ5_appendChars_0ad70_29 : decode cJ5_appendChars_0ad70 29 = .ok (.if_icmp .ge 75, 3) := by decide +kernel
theorem dJ5_appendChars_0ad70_32 : decode cJ5_appendChars_0ad70 32 = .ok (.aload_n 1, 1) := by decide +kernel
theorem dJ5_appendChars_0ad70_33 : decode cJ5_appendChars_0ad70 33 = .ok (.iload 6, 2) := by decide +kernel
theorem dJ5_appendChars_0ad70_35 : decode cJ5_appendChars_0ad70 35 = .ok (.caload, 1) := by decide +kernel
theorem dJ5_appendChars_0ad70_36 : decode cJ5_appendChars_0ad70 36 = .ok (.istore 8, 2) := by decide +kernel
theorem dJ5_appendChars_0ad70_38 : decode cJ5_appendChars_0ad70 38 = .ok (.iload 8, 2) := by decide +kernel
theorem dJ5_appendChars_0ad70_40 : decode cJ5_appendChars_0ad70 40 = .ok (.invokestatic 191, 3) := by decide +kernel
theorem dJ5_appendChars_0ad70_43 : decode cJ5_appendChars_0ad70 43 = .ok (.ifCond .eq 17, 3) := by decide +kernel
theorem dJ5_appendChars_0ad70_46 : decode cJ5_appendChars_0ad70 46 = .ok (.aload 5, 2) := by decide +kernel
theorem dJ5_appendChars_0ad70_48 : decode cJ5_appendChars_0ad70 48 = .ok (.iload 7, 2) := by decide +kernel
theorem dJ5_appendChars_0ad70_50 : decode cJ5_appendChars_0ad70 50 = .ok (.iinc 7 1, 3) := by decide +kernel
theorem dJ5_appendChars_0ad70_53 : decode cJ5_appendChars_0ad70 53 = .ok (.iload 8, 2) := by decide +kernel
theorem dJ5_appendChars_0ad70_55 : decode cJ5_appendChars_0ad70 55 = .ok (.i2b, 1) := by decide +kernel
theorem dJ5_appendChars_0ad70_56 : decode cJ5_appendChars_0ad70 56 = .ok (.bastore, 1) := by decide +kernel
theorem dJ5_appendChars_0ad70_57 : decode cJ5_appendChars_0ad70 57 = .ok (.goto 41, 3) := by decide +kernel
theorem dJ5_appendChars_0ad70_60 : decode cJ5_appendChars_0ad70 60 = .ok (.aload_n 0, 1) := by decide +kernel
theorem dJ5_appendChars_0ad70_61 : decode cJ5_appendChars_0ad70 61 = .ok (.iload 7, 2) := by decide +kernel
theorem dJ5_appendChars_0ad70_63 : decode cJ5_appendChars_0ad70 63 = .ok (.dup, 1) := by decide +kernel
theorem dJ5_appendChars_0ad70_64 : decode cJ5_appendChars_0ad70 64 = .ok (.istore 4, 2) := by decide +kernel
theorem dJ5_appendChars_0ad70_66 : decode cJ5_appendChars_0ad70 66 = .ok (.putfield 79, 3) := by decide +kernel
theorem dJ5_appendChars_0ad70_69 : decode cJ5_appendChars_0ad70 69 = .ok (.aload_n 0, 1) := by decide +kernel
theorem dJ5_appendChars_0ad70_70 : decode cJ5_appendChars_0ad70 70 = .ok (.invokevirtual 195, 3) := by decide +kernel
theorem dJ5_appendChars_0ad70_73 : decode cJ5_appendChars_0ad70 73 = .ok (.aload_n 0, 1) := by decide +kernel
theorem dJ5_appendChars_0ad70_74 : decode cJ5_appendChars_0ad70 74 = .ok (.getfield 15, 3) := by decide +kernel
theorem dJ5_appendChars_0ad70_77 : decode cJ5_appendChars_0ad70 77 = .ok (.iload 7, 2) := by decide +kernel
theorem dJ5_appendChars_0ad70_79 : decode cJ5_appendChars_0ad70 79 = .ok (.aload_n 1, 1) := by decide +kernel
theorem dJ5_appendChars_0ad70_80 : decode cJ5_appendChars_0ad70 80 = .ok (.iload 6, 2) := by decide +kernel
theorem dJ5_appendChars_0ad70_82 : decode cJ5_appendChars_0ad70 82 = .ok (.iload_n 3, 1) := by decide +kernel
theorem dJ5_appendChars_0ad70_83 : decode cJ5_appendChars_0ad70 83 = .ok (.invokestatic 386, 3) := by decide +kernel
theorem dJ5_appendChars_0ad70_86 : decode cJ5_appendChars_0ad70 86 = .ok (.aload_n 0, 1) := by decide +kernel
theorem dJ5_appendChars_0ad70_87 : decode cJ5_appendChars_0ad70 87 = .ok (.iload 4, 2) := by decide +kernel
theorem dJ5_appendChars_0ad70_89 : decode cJ5_appendChars_0ad70 89 = .ok (.iload_n 3, 1) := by decide +kernel
theorem dJ5_appendChars_0ad70_90 : decode cJ5_appendChars_0ad70 90 = .ok (.iadd, 1) := by decide +kernel
theorem dJ5_appendChars_0ad70_91 : decode cJ5_appendChars_0ad70 91 = .ok (.iload 6, 2) := by decide +kernel
theorem dJ5_appendChars_0ad70_93 : decode cJ5_appendChars_0ad70 93 = .ok (.isub, 1) := by decide +kernel
theorem dJ5_appendChars_0ad70_94 : decode cJ5_appendChars_0ad70 94 = .ok (.putfield 79, 3) := by decide +kernel
theorem dJ5_appendChars_0ad70_97 : decode cJ5_appendChars_0ad70 97 = .ok (.return_, 1) := by decide +kernel
theorem dJ5_appendChars_0ad70_98 : decode cJ5_appendChars_0ad70 98 = .ok (.iinc 6 1, 3) := by decide +kernel
theorem dJ5_appendChars_0ad70_101 : decode cJ5_appendChars_0ad70 101 = .ok (.goto (-75), 3) := by decide +kernel
theorem dJ5_appendChars_0ad70_104 : decode cJ5_appendChars_0ad70 104 = .ok (.goto 15, 3) := by decide +kernel
theorem dJ5_appendChars_0ad70_107 : decode cJ5_appendChars_0ad70 107 = .ok (.aload_n 0, 1) := by decide +kernel
theorem dJ5_appendChars_0ad70_108 : decode cJ5_appendChars_0ad70 108 = .ok (.getfield 15, 3) := by decide +kernel
theorem dJ5_appendChars_0ad70_111 : decode cJ5_appendChars_0ad70 111 = .ok (.iload 4, 2) := by decide +kernel
theorem dJ5_appendChars_0ad70_113 : decode cJ5_appendChars_0ad70 113 = .ok (.aload_n 1, 1) := by decide +kernel
theorem dJ5_appendChars_0ad70_114 : decode cJ5_appendChars_0ad70 114 = .ok (.iload_n 2, 1) := by decide +kernel
theorem dJ5_appendChars_0ad70_115 : decode cJ5_appendChars_0ad70 115 = .ok (.iload_n 3, 1) := by decide +kernel
theorem dJ5_appendChars_0ad70_116 : decode cJ5_appendChars_0ad70 116 = .ok (.invokestatic 386, 3) := by decide +kernel
theorem dJ5_appendChars_0ad70_119 : decode cJ5_appendChars_0ad70 119 = .ok (.aload_n 0, 1) := by decide +kernel
theorem dJ5_appendChars_0ad70_120 : decode cJ5_appendChars_0ad70 120 = .ok (.iload 4, 2) := by decide +kernel
theorem dJ5_appendChars_0ad70_122 : decode cJ5_appendChars_0ad70 122 = .ok (.iload_n 3, 1) := by decide +kernel
theorem dJ5_appendChars_0ad70_123 : decode cJ5_appendChars_0ad70 123 = .ok (.iadd, 1) := by decide +kernel
theorem dJ5_appendChars_0ad70_124 : decode cJ5_appendChars_0ad70 124 = .ok (.iload_n 2, 1) := by decide +kernel
theorem dJ5_appendChars_0ad70_125 : decode cJ5_appendChars_0ad70 125 = .ok (.isub, 1) := by decide +kernel
theorem dJ5_appendChars_0ad70_126 : decode cJ5_appendChars_0ad70 126 = .ok (.putfield 79, 3) := by decide +kernel
theorem dJ5_appendChars_0ad70_129 : decode cJ5_appendChars_0ad70 129 = .ok (.return_, 1) := by decide +kernel
theorem dJ6_getChars_ba4f3_0 : decode cJ6_getChars_ba4f3 0 = .ok (.iload_n 1, 1) := by decide +kernel
theorem dJ6_getChars_ba4f3_1 : decode cJ6_getChars_ba4f3 1 = .ok (.istore 5, 2) := by decide +kernel
theorem dJ6_getChars_ba4f3_3 : decode cJ6_getChars_ba4f3 3 = .ok (.iload_n 0, 1) := by decide +kernel
theorem dJ6_getChars_ba4f3_4 : decode cJ6_getChars_ba4f3 4 = .ok (.ifCond .ge 7, 3) := by decide +kernel
theorem dJ6_getChars_ba4f3_7 : decode cJ6_getChars_ba4f3 7 = .ok (.iconst 1, 1) := by decide +kernel
theorem dJ6_getChars_ba4f3_8 : decode cJ6_getChars_ba4f3 8 = .ok (.goto 4, 3) := by decide +kernel
theorem dJ6_getChars_ba4f3_11 : decode cJ6_getChars_ba4f3 11 = .ok (.iconst 0, 1) := by decide +kernel
theorem dJ6_getChars_ba4f3_12 : decode cJ6_getChars_ba4f3 12 = .ok (.istore 6, 2) := by decide +kernel
theorem dJ6_getChars_ba4f3_14 : decode cJ6_getChars_ba4f3 14 = .ok (.iload 6, 2) := by decide +kernel
theorem dJ6_getChars_ba4f3_16 : decode cJ6_getChars_ba4f3 16 = .ok (.ifCond .ne 6, 3) := by decide +kernel
theorem dJ6_getChars_ba4f3_19 : decode cJ6_getChars_ba4f3 19 = .ok (.iload_n 0, 1) := by decide +kernel
theorem dJ6_getChars_ba4f3_20 : decode cJ6_getChars_ba4f3 20 = .ok (.ineg, 1) := by decide +kernel
theorem dJ6_getChars_ba4f3_21 : decode cJ6_getChars_ba4f3 21 = .ok (.istore_n 0, 1) := by decide +kernel
theorem dJ6_getChars_ba4f3_22 : decode cJ6_getChars_ba4f3 22 = .ok (.iload_n 0, 1) := by decide +kernel
theorem dJ6_getChars_ba4f3_23 : decode cJ6_getChars_ba4f3 23 = .ok (.bipush (-100), 2) := by decide +kernel
theorem dJ6_getChars_ba4f3_25 : decode cJ6_getChars_ba4f3 25 = .ok (.if_icmp .gt 47, 3) := by decide +kernel
theorem dJ6_getChars_ba4f3_28 : decode cJ6_getChars_ba4f3 28 = .ok (.iload_n 0, 1) := by decide +kernel
theorem dJ6_getChars_ba4f3_29 : decode cJ6_getChars_ba4f3 29 = .ok (.bipush 100, 2) := by decide +kernel
theorem dJ6_getChars_ba4f3_31 : decode cJ6_getChars_ba4f3 31 = .ok (.idiv, 1) := by decide +kernel
theorem dJ6_getChars_ba4f3_32 : decode cJ6_getChars_ba4f3 32 = .ok (.istore_n 3, 1) := by decide +kernel
theorem dJ6_getChars_ba4f3_33 : decode cJ6_getChars_ba4f3 33 = .ok (.iload_n 3, 1) := by decide +kernel
theorem dJ6_getChars_ba4f3_34 : decode cJ6_getChars_ba4f3 34 = .ok (.bipush 100, 2) := by decide +kernel
theorem dJ6_getChars_ba4f3_36 : decode cJ6_getChars_ba4f3 36 = .ok (.imul, 1) := by decide +kernel
theorem dJ6_getChars_ba4f3_37 : decode cJ6_getChars_ba4f3 37 = .ok (.iload_n 0, 1) := by decide +kernel
theorem dJ6_getChars_ba4f3_38 : decode cJ6_getChars_ba4f3 38 = .ok (.isub, 1) := by decide +kernel
theorem dJ6_getChars_ba4f3_39 : decode cJ6_getChars_ba4f3 39 = .ok (.istore 4, 2) := by decide +kernel
theorem dJ6_getChars_ba4f3_41 : decode cJ6_getChars_ba4f3 41 = .ok (.iload_n 3, 1) := by decide +kernel
theorem dJ6_getChars_ba4f3_42 : decode cJ6_getChars_ba4f3 42 = .ok (.istore_n 0, 1) := by decide +kernel
theorem dJ6_getChars_ba4f3_43 : decode cJ6_getChars_ba4f3 43 = .ok (.aload_n 2, 1) := by decide +kernel
theorem dJ6_getChars_ba4f3_44 : decode cJ6_getChars_ba4f3 44 = .ok (.iinc 5 (-1), 3) := by decide +kernel
theorem dJ6_getChars_ba4f3_47 : decode cJ6_getChars_ba4f3 47 = .ok (.iload 5, 2) := by decide +kernel
theorem dJ6_getChars_ba4f3_49 : decode cJ6_getChars_ba4f3 49 = .ok (.getstatic 83, 3) := by decide +kernel
theorem dJ6_getChars_ba4f3_52 : decode cJ6_getChars_ba4f3 52 = .ok (.iload 4, 2) := by decide +kernel
theorem dJ6_getChars_ba4f3_54 : decode cJ6_getChars_ba4f3 54 = .ok (.baload, 1) := by decide +kernel
theorem dJ6_getChars_ba4f3_55 : decode cJ6_getChars_ba4f3 55 = .ok (.bastore, 1) := by decide +kernel
theorem dJ6_getChars_ba4f3_56 : decode cJ6_getChars_ba4f3 56 = .ok (.aload_n 2, 1) := by decide +kernel
theorem dJ6_getChars_ba4f3_57 : decode cJ6_getChars_ba4f3 57 = .ok (.iinc 5 (-1), 3) := by decide +kernel
theorem dJ6_getChars_ba4f3_60 : decode cJ6_getChars_ba4f3 60 = .ok (.iload 5, 2) := by decide +kernel
theorem dJ6_getChars_ba4f3_62 : decode cJ6_getChars_ba4f3 62 = .ok (.getstatic 87, 3) := by decide +kernel
theorem dJ6_getChars_ba4f3_65 : decode cJ6_getChars_ba4f3 65 = .ok (.iload 4, 2) := by decide +kernel
theorem dJ6_getChars_ba4f3_67 : decode cJ6_getChars_ba4f3 67 = .ok (.baload, 1) := by decide +kernel
theorem dJ6_getChars_ba4f3_68 : decode cJ6_getChars_ba4f3 68 = .ok (.bastore, 1) := by decide +kernel
theorem dJ6_getChars_ba4f3_69 : decode cJ6_getChars_ba4f3 69 = .ok (.goto (-47), 3) := by decide +kernel
theorem dJ6_getChars_ba4f3_72 : decode cJ6_getChars_ba4f3 72 = .ok (.aload_n 2, 1) := by decide +kernel
theorem dJ6_getChars_ba4f3_73 : decode cJ6_getChars_ba4f3 73 = .ok (.iinc 5 (-1), 3) := by decide +kernel
theorem dJ6_getChars_ba4f3_76 : decode cJ6_getChars_ba4f3 76 = .ok (.iload 5, 2) := by decide +kernel
theorem dJ6_getChars_ba4f3_78 : decode cJ6_getChars_ba4f3 78 = .ok (.getstatic 83, 3) := by decide +kernel
theorem dJ6_getChars_ba4f3_81 : decode cJ6_getChars_ba4f3 81 = .ok (.iload_n 0, 1) := by decide +kernel
theorem dJ6_getChars_ba4f3_82 : decode cJ6_getChars_ba4f3 82 = .ok (.ineg, 1) := by decide +kernel
theorem dJ6_getChars_ba4f3_83 : decode cJ6_getChars_ba4f3 83 = .ok (.baload, 1) := by decide +kernel
theorem dJ6_getChars_ba4f3_84 : decode cJ6_getChars_ba4f3 84 = .ok (.bastore, 1) := by decide +kernel
theorem dJ6_getChars_ba4f3_85 : decode cJ6_getChars_ba4f3 85 = .ok (.iload_n 0, 1) := by decide +kernel
theorem dJ6_getChars_ba4f3_86 : decode cJ6_getChars_ba4f3 86 = .ok (.bipush (-9), 2) := by decide +kernel
theorem dJ6_getChars_ba4f3_88 : decode cJ6_getChars_ba4f3 88 = .ok (.if_icmp .ge 16, 3) := by decide +kernel
theorem dJ6_getChars_ba4f3_91 : decode cJ6_getChars_ba4f3 91 = .ok (.aload_n 2, 1) := by decide +kernel
theorem dJ6_getChars_ba4f3_92 : decode cJ6_getChars_ba4f3 92 = .ok (.iinc 5 (-1), 3) := by decide +kernel
theorem dJ6_getChars_ba4f3_95 : decode cJ6_getChars_ba4f3 95 = .ok (.iload 5, 2) := by decide +kernel
theorem dJ6_getChars_ba4f3_97 : decode cJ6_getChars_ba4f3 97 = .ok (.getstatic 87, 3) := by decide +kernel
theorem dJ6_getChars_ba4f3_100 : decode cJ6_getChars_ba4f3 100 = .ok (.iload_n 0, 1) := by decide +kernel
theorem dJ6_getChars_ba4f3_101 : decode cJ6_getChars_ba4f3 101 = .ok (.ineg, 1) := by decide +kernel
theorem dJ6_getChars_ba4f3_102 : decode cJ6_getChars_ba4f3 102 = .ok (.baload, 1) := by decide +kernel
theorem dJ6_getChars_ba4f3_103 : decode cJ6_getChars_ba4f3 103 = .ok (.bastore, 1) := by decide +kernel
theorem dJ6_getChars_ba4f3_104 : decode cJ6_getChars_ba4f3 104 = .ok (.iload 6, 2) := by decide +kernel
theorem dJ6_getChars_ba4f3_106 : decode cJ6_getChars_ba4f3 106 = .ok (.ifCond .eq 12, 3) := by decide +kernel
theorem dJ6_getChars_ba4f3_109 : decode cJ6_getChars_ba4f3 109 = .ok (.aload_n 2, 1) := by decide +kernel
theorem dJ6_getChars_ba4f3_110 : decode cJ6_getChars_ba4f3 110 = .ok (.iinc 5 (-1), 3) := by decide +kernel
theorem dJ6_getChars_ba4f3_113 : decode cJ6_getChars_ba4f3 113 = .ok (.iload 5, 2) := by decide +kernel
theorem dJ6_getChars_ba4f3_115 : decode cJ6_getChars_ba4f3 115 = .ok (.bipush 45, 2) := by decide +kernel
theorem dJ6_getChars_ba4f3_117 : decode cJ6_getChars_ba4f3 117 = .ok (.bastore, 1) := by decide +kernel
theorem dJ6_getChars_ba4f3_118 : decode cJ6_getChars_ba4f3 118 = .ok (.iload 5, 2) := by decide +kernel
theorem dJ6_getChars_ba4f3_120 : decode cJ6_getChars_ba4f3 120 = .ok (.ireturn, 1) := by decide +kernel
theorem dJ6_stringSize_0f7a4_0 : decode cJ6_stringSize_0f7a4 0 = .ok (.iconst 1, 1) := by decide +kernel
theorem dJ6_stringSize_0f7a4_1 : decode cJ6_stringSize_0f7a4 1 = .ok (.istore_n 1, 1) := by decide +kernel
theorem dJ6_stringSize_0f7a4_2 : decode cJ6_stringSize_0f7a4 2 = .ok (.iload_n 0, 1) := by decide +kernel
theorem dJ6_stringSize_0f7a4_3 : decode cJ6_stringSize_0f7a4 3 = .ok (.ifCond .lt 8, 3) := by decide +kernel
theorem dJ6_stringSize_0f7a4_6 : decode cJ6_stringSize_0f7a4 6 = .ok (.iconst 0, 1) := by decide +kernel
theorem dJ6_stringSize_0f7a4_7 : decode cJ6_stringSize_0f7a4 7 = .ok (.istore_n 1, 1) := by decide +kernel
theorem dJ6_stringSize_0f7a4_8 : decode cJ6_stringSize_0f7a4 8 = .ok (.iload_n 0, 1) := by decide +kernel
theorem dJ6_stringSize_0f7a4_9 : decode cJ6_stringSize_0f7a4 9 = .ok (.ineg, 1) := by decide +kernel
theorem dJ6_stringSize_0f7a4_10 : decode cJ6_stringSize_0f7a4 10 = .ok (.istore_n 0, 1) := by decide +kernel
theorem dJ6_stringSize_0f7a4_11 : decode cJ6_stringSize_0f7a4 11 = .ok (.bipush (-10), 2) := by decide +kernel
theorem dJ6_stringSize_0f7a4_13 : decode cJ6_stringSize_0f7a4 13 = .ok (.istore_n 2, 1) := by decide +kernel
theorem dJ6_stringSize_0f7a4_14 : decode cJ6_stringSize_0f7a4 14 = .ok (.iconst 1, 1) := by decide +kernel
theorem dJ6_stringSize_0f7a4_15 : decode cJ6_stringSize_0f7a4 15 = .ok (.istore_n 3, 1) := by decide +kernel
theorem dJ6_stringSize_0f7a4_16 : decode cJ6_stringSize_0f7a4 16 = .ok (.iload_n 3, 1) := by decide +kernel
theorem dJ6_stringSize_0f7a4_17 : decode cJ6_stringSize_0f7a4 17 = .ok (.bipush 10, 2) := by decide +kernel
theorem dJ6_stringSize_0f7a4_19 : decode cJ6_stringSize_0f7a4 19 = .ok (.if_icmp .ge 23, 3) := by decide +kernel
theorem dJ6_stringSize_0f7a4_22 : decode cJ6_stringSize_0f7a4 22 = .ok (.iload_n 0, 1) := by decide +kernel
theorem dJ6_stringSize_0f7a4_23 : decode cJ6_stringSize_0f7a4 23 = .ok (.iload_n 2, 1) := by decide +kernel
theorem dJ6_stringSize_0f7a4_24 : decode cJ6_stringSize_0f7a4 24 = .ok (.if_icmp .le 7, 3) := by decide +kernel
theorem dJ6_stringSize_0f7a4_27 : decode cJ6_stringSize_0f7a4 27 = .ok (.iload_n 3, 1) := by decide +kernel
theorem dJ6_stringSize_0f7a4_28 : decode cJ6_stringSize_0f7a4 28 = .ok (.iload_n 1, 1) := by decide +kernel
theorem dJ6_stringSize_0f7a4_29 : decode cJ6_stringSize_0f7a4 29 = .ok (.iadd, 1) := by decide +kernel
theorem dJ6_stringSize_0f7a4_30 : decode cJ6_stringSize_0f7a4 30 = .ok (.ireturn, 1) := by decide +kernel
theorem dJ6_stringSize_0f7a4_31 : decode cJ6_stringSize_0f7a4 31 = .ok (.bipush 10, 2) := by decide +kernel
theorem dJ6_stringSize_0f7a4_33 : decode cJ6_stringSize_0f7a4 33 = .ok (.iload_n 2, 1) := by decide +kernel
theorem dJ6_stringSize_0f7a4_34 : decode cJ6_stringSize_0f7a4 34 = .ok (.imul, 1) := by decide +kernel
theorem dJ6_stringSize_0f7a4_35 : decode cJ6_stringSize_0f7a4 35 = .ok (.istore_n 2, 1) := by decide +kernel
theorem dJ6_stringSize_0f7a4_36 : decode cJ6_stringSize_0f7a4 36 = .ok (.iinc 3 1, 3) := by decide +kernel
theorem dJ6_stringSize_0f7a4_39 : decode cJ6_stringSize_0f7a4 39 = .ok (.goto (-23), 3) := by decide +kernel
theorem dJ6_stringSize_0f7a4_42 : decode cJ6_stringSize_0f7a4 42 = .ok (.bipush 10, 2) := by decide +kernel
theorem dJ6_stringSize_0f7a4_44 : decode cJ6_stringSize_0f7a4 44 = .ok (.iload_n 1, 1) := by decide +kernel
theorem dJ6_stringSize_0f7a4_45 : decode cJ6_stringSize_0f7a4 45 = .ok (.iadd, 1) := by decide +kernel
theorem dJ6_stringSize_0f7a4_46 : decode cJ6_stringSize_0f7a4 46 = .ok (.ireturn, 1) := by decide +kernel
theorem dJ6_numberOfLeadingZeros_0f7a4_0 : decode cJ6_numberOfLeadingZeros_0f7a4 0 = .ok (.iload_n 0, 1) := by decide +kernel
theorem dJ6_numberOfLeadingZeros_0f7a4_1 : decode cJ6_numberOfLeadingZeros_0f7a4 1 = .ok (.ifCond .gt 14, 3) := by decide +kernel
theorem dJ6_numberOfLeadingZeros_0f7a4_4 : decode cJ6_numberOfLeadingZeros_0f7a4 4 = .ok (.iload_n 0, 1) := by decide +kernel
theorem dJ6_numberOfLeadingZeros_0f7a4_5 : decode cJ6_numberOfLeadingZeros_0f7a4 5 = .ok (.ifCond .ne 8, 3) := by decide +kernel
theorem dJ6_numberOfLeadingZeros_0f7a4_8 : decode cJ6_numberOfLeadingZeros_0f7a4 8 = .ok (.bipush 32, 2) := by decide +kernel
theorem dJ6_numberOfLeadingZeros_0f7a4_10 : decode cJ6_numberOfLeadingZeros_0f7a4 10 = .ok (.goto 4, 3) := by decide +kernel
theorem dJ6_numberOfLeadingZeros_0f7a4_13 : decode cJ6_numberOfLeadingZeros_0f7a4 13 = .ok (.iconst 0, 1) := by decide +kernel
theorem dJ6_numberOfLeadingZeros_0f7a4_14 : decode cJ6_numberOfLeadingZeros_0f7a4 14 = .ok (.ireturn, 1) := by decide +kernel
theorem dJ6_numberOfLeadingZeros_0f7a4_15 : decode cJ6_numberOfLeadingZeros_0f7a4 15 = .ok (.bipush 31, 2) := by decide +kernel
theorem dJ6_numberOfLeadingZeros_0f7a4_17 : decode cJ6_numberOfLeadingZeros_0f7a4 17 = .ok (.istore_n 1, 1) := by decide +kernel
theorem dJ6_numberOfLeadingZeros_0f7a4_18 : decode cJ6_numberOfLeadingZeros_0f7a4 18 = .ok (.iload_n 0, 1) := by decide +kernel
theorem dJ6_numberOfLeadingZeros_0f7a4_19 : decode cJ6_numberOfLeadingZeros_0f7a4 19 = .ok (.ldc_w 264, 3) := by decide +kernel
theorem dJ6_numberOfLeadingZeros_0f7a4_22 : decode cJ6_numberOfLeadingZeros_0f7a4 22 = .ok (.if_icmp .lt 11, 3) := by decide +kernel
theorem dJ6_numberOfLeadingZeros_0f7a4_25 : decode cJ6_numberOfLeadingZeros_0f7a4 25 = .ok (.iinc 1 (-16), 3) := by decide +kernel
theorem dJ6_numberOfLeadingZeros_0f7a4_28 : decode cJ6_numberOfLeadingZeros_0f7a4 28 = .ok (.iload_n 0, 1) := by decide +kernel
theorem dJ6_numberOfLeadingZeros_0f7a4_29 : decode cJ6_numberOfLeadingZeros_0f7a4 29 = .ok (.bipush 16, 2) := by decide +kernel
theorem dJ6_numberOfLeadingZeros_0f7a4_31 : decode cJ6_numberOfLeadingZeros_0f7a4 31 = .ok (.iushr, 1) := by decide +kernel
theorem dJ6_numberOfLeadingZeros_0f7a4_32 : decode cJ6_numberOfLeadingZeros_0f7a4 32 = .ok (.istore_n 0, 1) := by decide +kernel
theorem dJ6_numberOfLeadingZeros_0f7a4_33 : decode cJ6_numberOfLeadingZeros_0f7a4 33 = .ok (.iload_n 0, 1) := by decide +kernel
theorem dJ6_numberOfLeadingZeros_0f7a4_34 : decode cJ6_numberOfLeadingZeros_0f7a4 34 = .ok (.sipush 256, 3) := by decide +kernel
theorem dJ6_numberOfLeadingZeros_0f7a4_37 : decode cJ6_numberOfLeadingZeros_0f7a4 37 = .ok (.if_icmp .lt 11, 3) := by decide +kernel
theorem dJ6_numberOfLeadingZeros_0f7a4_40 : decode cJ6_numberOfLeadingZeros_0f7a4 40 = .ok (.iinc 1 (-8), 3) := by decide +kernel
theorem dJ6_numberOfLeadingZeros_0f7a4_43 : decode cJ6_numberOfLeadingZeros_0f7a4 43 = .ok (.iload_n 0, 1) := by decide +kernel
theorem dJ6_numberOfLeadingZeros_0f7a4_44 : decode cJ6_numberOfLeadingZeros_0f7a4 44 = .ok (.bipush 8, 2) := by decide +kernel
theorem dJ6_numberOfLeadingZeros_0f7a4_46 : decode cJ6_numberOfLeadingZeros_0f7a4 46 = .ok (.iushr, 1) := by decide +kernel
theorem dJ6_numberOfLeadingZeros_0f7a4_47 : decode cJ6_numberOfLeadingZeros_0f7a4 47 = .ok (.istore_n 0, 1) := by decide +kernel
theorem dJ6_numberOfLeadingZeros_0f7a4_48 : decode cJ6_numberOfLeadingZeros_0f7a4 48 = .ok (.iload_n 0, 1) := by decide +kernel
theorem dJ6_numberOfLeadingZeros_0f7a4_49 : decode cJ6_numberOfLeadingZeros_0f7a4 49 = .ok (.bipush 16, 2) := by decide +kernel
theorem dJ6_numberOfLeadingZeros_0f7a4_51 : decode cJ6_numberOfLeadingZeros_0f7a4 51 = .ok (.if_icmp .lt 10, 3) := by decide +kernel
theorem dJ6_numberOfLeadingZeros_0f7a4_54 : decode cJ6_numberOfLeadingZeros_0f7a4 54 = .ok (.iinc 1 (-4), 3) := by decide +kernel
theorem dJ6_numberOfLeadingZeros_0f7a4_57 : decode cJ6_numberOfLeadingZeros_0f7a4 57 = .ok (.iload_n 0, 1) := by decide +kernel
theorem dJ6_numberOfLeadingZeros_0f7a4_58 : decode cJ6_numberOfLeadingZeros_0f7a4 58 = .ok (.iconst 4, 1) := by decide +kernel
theorem dJ6_numberOfLeadingZeros_0f7a4_59 : decode cJ6_numberOfLeadingZeros_0f7a4 59 = .ok (.iushr, 1) := by decide +kernel
theorem dJ6_numberOfLeadingZeros_0f7a4_60 : decode cJ6_numberOfLeadingZeros_0f7a4 60 = .ok (.istore_n 0, 1) := by decide +kernel
theorem dJ6_numberOfLeadingZeros_0f7a4_61 : decode cJ6_numberOfLeadingZeros_0f7a4 61 = .ok (.iload_n 0, 1) := by decide +kernel
theorem dJ6_numberOfLeadingZeros_0f7a4_62 : decode cJ6_numberOfLeadingZeros_0f7a4 62 = .ok (.iconst 4, 1) := by decide +kernel
theorem dJ6_numberOfLeadingZeros_0f7a4_63 : decode cJ6_numberOfLeadingZeros_0f7a4 63 = .ok (.if_icmp .lt 10, 3) := by decide +kernel
theorem dJ6_numberOfLeadingZeros_0f7a4_66 : decode cJ6_numberOfLeadingZeros_0f7a4 66 = .ok (.iinc 1 (-2), 3) := by decide +kernel
theorem dJ6_numberOfLeadingZeros_0f7a4_69 : decode cJ6_numberOfLeadingZeros_0f7a4 69 = .ok (.iload_n 0, 1) := by decide +kernel
theorem dJ6_numberOfLeadingZeros_0f7a4_70 : decode cJ6_numberOfLeadingZeros_0f7a4 70 = .ok (.iconst 2, 1) := by decide +kernel
theorem dJ6_numberOfLeadingZeros_0f7a4_71 : decode cJ6_numberOfLeadingZeros_0f7a4 71 = .ok (.iushr, 1) := by decide +kernel
theorem dJ6_numberOfLeadingZeros_0f7a4_72 : decode cJ6_numberOfLeadingZeros_0f7a4 72 = .ok (.istore_n 0, 1) := by decide +kernel
theorem dJ6_numberOfLeadingZeros_0f7a4_73 : decode cJ6_numberOfLeadingZeros_0f7a4 73 = .ok (.iload_n 1, 1) := by decide +kernel
theorem dJ6_numberOfLeadingZeros_0f7a4_74 : decode cJ6_numberOfLeadingZeros_0f7a4 74 = .ok (.iload_n 0, 1) := by decide +kernel
theorem dJ6_numberOfLeadingZeros_0f7a4_75 : decode cJ6_numberOfLeadingZeros_0f7a4 75 = .ok (.iconst 1, 1) := by decide +kernel
theorem dJ6_numberOfLeadingZeros_0f7a4_76 : decode cJ6_numberOfLeadingZeros_0f7a4 76 = .ok (.iushr, 1) := by decide +kernel
theorem dJ6_numberOfLeadingZeros_0f7a4_77 : decode cJ6_numberOfLeadingZeros_0f7a4 77 = .ok (.isub, 1) := by decide +kernel
theorem dJ6_numberOfLeadingZeros_0f7a4_78 : decode cJ6_numberOfLeadingZeros_0f7a4 78 = .ok (.ireturn, 1) := by decide +kernel
theorem dJ13_getChars_11360_0 : decode cJ13_getChars_11360 0 = .ok (.iload_n 2, 1) := by decide +kernel
theorem dJ13_getChars_11360_1 : decode cJ13_getChars_11360 1 = .ok (.istore 7, 2) := by decide +kernel
theorem dJ13_getChars_11360_3 : decode cJ13_getChars_11360 3 = .ok (.lload_n 0, 1) := by decide +kernel
theorem dJ13_getChars_11360_4 : decode cJ13_getChars_11360 4 = .ok (.lconst 0, 1) := by decide +kernel
theorem dJ13_getChars_11360_5 : decode cJ13_getChars_11360 5 = .ok (.lcmp, 1) := by decide +kernel
theorem dJ13_getChars_11360_6 : decode cJ13_getChars_11360 6 = .ok (.ifCond .ge 7, 3) := by decide +kernel
theorem dJ13_getChars_11360_9 : decode cJ13_getChars_11360 9 = .ok (.iconst 1, 1) := by decide +kernel
theorem dJ13_getChars_11360_10 : decode cJ13_getChars_11360 10 = .ok (.goto 4, 3) := by decide +kernel
theorem dJ13_getChars_11360_13 : decode cJ13_getChars_11360 13 = .ok (.iconst 0, 1) := by decide +kernel
theorem dJ13_getChars_11360_14 : decode cJ13_getChars_11360 14 = .ok (.istore 8, 2) := by decide +kernel
theorem dJ13_getChars_11360_16 : decode cJ13_getChars_11360 16 = .ok (.iload 8, 2) := by decide +kernel
theorem dJ13_getChars_11360_18 : decode cJ13_getChars_11360 18 = .ok (.ifCond .ne 6, 3) := by decide +kernel
theorem dJ13_getChars_11360_21 : decode cJ13_getChars_11360 21 = .ok (.lload_n 0, 1) := by decide +kernel
theorem dJ13_getChars_11360_22 : decode cJ13_getChars_11360 22 = .ok (.lneg, 1) := by decide +kernel
theorem dJ13_getChars_11360_23 : decode cJ13_getChars_11360 23 = .ok (.lstore_n 0, 1) := by decide +kernel
theorem dJ13_getChars_11360_24 : decode cJ13_getChars_11360 24 = .ok (.lload_n 0, 1) := by decide +kernel
theorem dJ13_getChars_11360_25 : decode cJ13_getChars_11360 25 = .ok (.ldc2_w 129, 3) := by decide +kernel
theorem dJ13_getChars_11360_28 : decode cJ13_getChars_11360 28 = .ok (.lcmp, 1) := by decide +kernel
theorem dJ13_getChars_11360_29 : decode cJ13_getChars_11360 29 = .ok (.ifCond .gt 53, 3) := by decide +kernel
theorem dJ13_getChars_11360_32 : decode cJ13_getChars_11360 32 = .ok (.lload_n 0, 1) := by decide +kernel
theorem dJ13_getChars_11360_33 : decode cJ13_getChars_11360 33 = .ok (.ldc2_w 131, 3) := by decide +kernel
theorem dJ13_getChars_11360_36 : decode cJ13_getChars_11360 36 = .ok (.ldiv, 1) := by decide +kernel
theorem dJ13_getChars_11360_37 : decode cJ13_getChars_11360 37 = .ok (.lstore 4, 2) := by decide +kernel
theorem dJ13_getChars_11360_39 : decode cJ13_getChars_11360 39 = .ok (.lload 4, 2) := by decide +kernel
theorem dJ13_getChars_11360_41 : decode cJ13_getChars_11360 41 = .ok (.ldc2_w 131, 3) := by decide +kernel
theorem dJ13_getChars_11360_44 : decode cJ13_getChars_11360 44 = .ok (.lmul, 1) := by decide +kernel
theorem dJ13_getChars_11360_45 : decode cJ13_getChars_11360 45 = .ok (.lload_n 0, 1) := by decide +kernel
theorem dJ13_getChars_11360_46 : decode cJ13_getChars_11360 46 = .ok (.lsub, 1) := by decide +kernel
theorem dJ13_getChars_11360_47 : decode cJ13_getChars_11360 47 = .ok (.l2i, 1) := by decide +kernel
theorem dJ13_getChars_11360_48 : decode cJ13_getChars_11360 48 = .ok (.istore 6, 2) := by decide +kernel
theorem dJ13_getChars_11360_50 : decode cJ13_getChars_11360 50 = .ok (.lload 4, 2) := by decide +kernel
theorem dJ13_getChars_11360_52 : decode cJ13_getChars_11360 52 = .ok (.lstore_n 0, 1) := by decide +kernel
theorem dJ13_getChars_11360_53 : decode cJ13_getChars_11360 53 = .ok (.aload_n 3, 1) := by decide +kernel
theorem dJ13_getChars_11360_54 : decode cJ13_getChars_11360 54 = .ok (.iinc 7 (-1), 3) := by decide +kernel
theorem dJ13_getChars_11360_57 : decode cJ13_getChars_11360 57 = .ok (.iload 7, 2) := by decide +kernel
theorem dJ13_getChars_11360_59 : decode cJ13_getChars_11360 59 = .ok (.getstatic 133, 3) := by decide +kernel
theorem dJ13_getChars_11360_62 : decode cJ13_getChars_11360 62 = .ok (.iload 6, 2) := by decide +kernel
theorem dJ13_getChars_11360_64 : decode cJ13_getChars_11360 64 = .ok (.baload, 1) := by decide +kernel
theorem dJ13_getChars_11360_65 : decode cJ13_getChars_11360 65 = .ok (.bastore, 1) := by decide +kernel
theorem dJ13_getChars_11360_66 : decode cJ13_getChars_11360 66 = .ok (.aload_n 3, 1) := by decide +kernel
theorem dJ13_getChars_11360_67 : decode cJ13_getChars_11360 67 = .ok (.iinc 7 (-1), 3) := by decide +kernel
theorem dJ13_getChars_11360_70 : decode cJ13_getChars_11360 70 = .ok (.iload 7, 2) := by decide +kernel
theorem dJ13_getChars_11360_72 : decode cJ13_getChars_11360 72 = .ok (.getstatic 137, 3) := by decide +kernel
theorem dJ13_getChars_11360_75 : decode cJ13_getChars_11360 75 = .ok (.iload 6, 2) := by decide +kernel
theorem dJ13_getChars_11360_77 : decode cJ13_getChars_11360 77 = .ok (.baload, 1) := by decide +kernel
theorem dJ13_getChars_11360_78 : decode cJ13_getChars_11360 78 = .ok (.bastore, 1) := by decide +kernel
theorem dJ13_getChars_11360_79 : decode cJ13_getChars_11360 79 = .ok (.goto (-55), 3) := by decide +kernel
theorem dJ13_getChars_11360_82 : decode cJ13_getChars_11360 82 = .ok (.lload_n 0, 1) := by decide +kernel
theorem dJ13_getChars_11360_83 : decode cJ13_getChars_11360 83 = .ok (.l2i, 1) := by decide +kernel
theorem dJ13_getChars_11360_84 : decode cJ13_getChars_11360 84 = .ok (.istore 10, 2) := by decide +kernel
theorem dJ13_getChars_11360_86 : decode cJ13_getChars_11360 86 = .ok (.iload 10, 2) := by decide +kernel
theorem dJ13_getChars_11360_88 : decode cJ13_getChars_11360 88 = .ok (.bipush (-100), 2) := by decide +kernel
theorem dJ13_getChars_11360_90 : decode cJ13_getChars_11360 90 = .ok (.if_icmp .gt 53, 3) := by decide +kernel
theorem dJ13_getChars_11360_93 : decode cJ13_getChars_11360 93 = .ok (.iload 10, 2) := by decide +kernel
theorem dJ13_getChars_11360_95 : decode cJ13_getChars_11360 95 = .ok (.bipush 100, 2) := by decide +kernel
theorem dJ13_getChars_11360_97 : decode cJ13_getChars_11360 97 = .ok (.idiv, 1) := by decide +kernel
theorem dJ13_getChars_11360_98 : decode cJ13_getChars_11360 98 = .ok (.istore 9, 2) := by decide +kernel
theorem dJ13_getChars_11360_100 : decode cJ13_getChars_11360 100 = .ok (.iload 9, 2) := by decide +kernel
theorem dJ13_getChars_11360_102 : decode cJ13_getChars_11360 102 = .ok (.bipush 100, 2) := by decide +kernel
theorem dJ13_getChars_11360_104 : decode cJ13_getChars_11360 104 = .ok (.imul, 1) := by decide +kernel
theorem dJ13_getChars_11360_105 : decode cJ13_getChars_11360 105 = .ok (.iload 10, 2) := by decide +kernel
theorem dJ13_getChars_11360_107 : decode cJ13_getChars_11360 107 = .ok (.isub, 1) := by decide +kernel
theorem dJ13_getChars_11360_108 : decode cJ13_getChars_11360 108 = .ok (.istore 6, 2) := by decide +kernel
theorem dJ13_getChars_11360_110 : decode cJ13_getChars_11360 110 = .ok (.iload 9, 2) := by decide +kernel
theorem dJ13_getChars_11360_112 : decode cJ13_getChars_11360 112 = .ok (.istore 10, 2) := by decide +kernel
theorem dJ13_getChars_11360_114 : decode cJ13_getChars_11360 114 = .ok (.aload_n 3, 1) := by decide +kernel
theorem dJ13_getChars_11360_115 : decode cJ13_getChars_11360 115 = .ok (.iinc 7 (-1), 3) := by decide +kernel
theorem dJ13_getChars_11360_118 : decode cJ13_getChars_11360 118 = .ok (.iload 7, 2) := by decide +kernel
theorem dJ13_getChars_11360_120 : decode cJ13_getChars_11360 120 = .ok (.getstatic 133, 3) := by decide +kernel
theorem dJ13_getChars_11360_123 : decode cJ13_getChars_11360 123 = .ok (.iload 6, 2) := by decide +kernel
theorem dJ13_getChars_11360_125 : decode cJ13_getChars_11360 125 = .ok (.baload, 1) := by decide +kernel
theorem dJ13_getChars_11360_126 : decode cJ13_getChars_11360 126 = .ok (.bastore, 1) := by decide +kernel
theorem dJ13_getChars_11360_127 : decode cJ13_getChars_11360 127 = .ok (.aload_n 3, 1) := by decide +kernel
theorem dJ13_getChars_11360_128 : decode cJ13_getChars_11360 128 = .ok (.iinc 7 (-1), 3) := by decide +kernel
theorem dJ13_getChars_11360_131 : decode cJ13_getChars_11360 131 = .ok (.iload 7, 2) := by decide +kernel
theorem dJ13_getChars_11360_133 : decode cJ13_getChars_11360 133 = .ok (.getstatic 137, 3) := by decide +kernel
theorem dJ13_getChars_11360_136 : decode cJ13_getChars_11360 136 = .ok (.iload 6, 2) := by decide +kernel
theorem dJ13_getChars_11360_138 : decode cJ13_getChars_11360 138 = .ok (.baload, 1) := by decide +kernel
theorem dJ13_getChars_11360_139 : decode cJ13_getChars_11360 139 = .ok (.bastore, 1) := by decide +kernel
theorem dJ13_getChars_11360_140 : decode cJ13_getChars_11360 140 = .ok (.goto (-54), 3) := by decide +kernel
theorem dJ13_getChars_11360_143 : decode cJ13_getChars_11360 143 = .ok (.aload_n 3, 1) := by decide +kernel
theorem dJ13_getChars_11360_144 : decode cJ13_getChars_11360 144 = .ok (.iinc 7 (-1), 3) := by decide +kernel
theorem dJ13_getChars_11360_147 : decode cJ13_getChars_11360 147 = .ok (.iload 7, 2) := by decide +kernel
theorem dJ13_getChars_11360_149 : decode cJ13_getChars_11360 149 = .ok (.getstatic 133, 3) := by decide +kernel
theorem dJ13_getChars_11360_152 : decode cJ13_getChars_11360 152 = .ok (.iload 10, 2) := by decide +kernel
theorem dJ13_getChars_11360_154 : decode cJ13_getChars_11360 154 = .ok (.ineg, 1) := by decide +kernel
theorem dJ13_getChars_11360_155 : decode cJ13_getChars_11360 155 = .ok (.baload, 1) := by decide +kernel
theorem dJ13_getChars_11360_156 : decode cJ13_getChars_11360 156 = .ok (.bastore, 1) := by decide +kernel
theorem dJ13_getChars_11360_157 : decode cJ13_getChars_11360 157 = .ok (.iload 10, 2) := by decide +kernel
theorem dJ13_getChars_11360_159 : decode cJ13_getChars_11360 159 = .ok (.bipush (-9), 2) := by decide +kernel
theorem dJ13_getChars_11360_161 : decode cJ13_getChars_11360 161 = .ok (.if_icmp .ge 17, 3) := by decide +kernel
theorem dJ13_getChars_11360_164 : decode cJ13_getChars_11360 164 = .ok (.aload_n 3, 1) := by decide +kernel
theorem dJ13_getChars_11360_165 : decode cJ13_getChars_11360 165 = .ok (.iinc 7 (-1), 3) := by decide +kernel
theorem dJ13_getChars_11360_168 : decode cJ13_getChars_11360 168 = .ok (.iload 7, 2) := by decide +kernel
theorem dJ13_getChars_11360_170 : decode cJ13_getChars_11360 170 = .ok (.getstatic 137, 3) := by decide +kernel
theorem dJ13_getChars_11360_173 : decode cJ13_getChars_11360 173 = .ok (.iload 10, 2) := by decide +kernel
theorem dJ13_getChars_11360_175 : decode cJ13_getChars_11360 175 = .ok (.ineg, 1) := by decide +kernel
theorem dJ13_getChars_11360_176 : decode cJ13_getChars_11360 176 = .ok (.baload, 1) := by decide +kernel
theorem dJ13_getChars_11360_177 : decode cJ13_getChars_11360 177 = .ok (.bastore, 1) := by decide +kernel
theorem dJ13_getChars_11360_178 : decode cJ13_getChars_11360 178 = .ok (.iload 8, 2) := by decide +kernel
theorem dJ13_getChars_11360_180 : decode cJ13_getChars_11360 180 = .ok (.ifCond .eq 12, 3) := by decide +kernel
theorem dJ13_getChars_11360_183 : decode cJ13_getChars_11360 183 = .ok (.aload_n 3, 1) := by decide +kernel
theorem dJ13_getChars_11360_184 : decode cJ13_getChars_11360 184 = .ok (.iinc 7 (-1), 3) := by decide +kernel
theorem dJ13_getChars_11360_187 : decode cJ13_getChars_11360 187 = .ok (.iload 7, 2) := by decide +kernel
theorem dJ13_getChars_11360_189 : decode cJ13_getChars_11360 189 = .ok (.bipush 45, 2) := by decide +kernel
theorem dJ13_getChars_11360_191 : decode cJ13_getChars_11360 191 = .ok (.bastore, 1) := by decide +kernel
theorem dJ13_getChars_11360_192 : decode cJ13_getChars_11360 192 = .ok (.iload 7, 2) := by decide +kernel
theorem dJ13_getChars_11360_194 : decode cJ13_getChars_11360 194 = .ok (.ireturn, 1) := by decide +kernel
theorem dJ13_stringSize_95d88_0 : decode cJ13_stringSize_95d88 0 = .ok (.iconst 1, 1) := by decide +kernel
theorem dJ13_stringSize_95d88_1 : decode cJ13_stringSize_95d88 1 = .ok (.istore_n 2, 1) := by decide +kernel
theorem dJ13_stringSize_95d88_2 : decode cJ13_stringSize_95d88 2 = .ok (.lload_n 0, 1) := by decide +kernel
theorem dJ13_stringSize_95d88_3 : decode cJ13_stringSize_95d88 3 = .ok (.lconst 0, 1) := by decide +kernel
theorem dJ13_stringSize_95d88_4 : decode cJ13_stringSize_95d88 4 = .ok (.lcmp, 1) := by decide +kernel
theorem dJ13_stringSize_95d88_5 : decode cJ13_stringSize_95d88 5 = .ok (.ifCond .lt 8, 3) := by decide +kernel
theorem dJ13_stringSize_95d88_8 : decode cJ13_stringSize_95d88 8 = .ok (.iconst 0, 1) := by decide +kernel
theorem dJ13_stringSize_95d88_9 : decode cJ13_stringSize_95d88 9 = .ok (.istore_n 2, 1) := by decide +kernel
theorem dJ13_stringSize_95d88_10 : decode cJ13_stringSize_95d88 10 = .ok (.lload_n 0, 1) := by decide +kernel
theorem dJ13_stringSize_95d88_11 : decode cJ13_stringSize_95d88 11 = .ok (.lneg, 1) := by decide +kernel
theorem dJ13_stringSize_95d88_12 : decode cJ13_stringSize_95d88 12 = .ok (.lstore_n 0, 1) := by decide +kernel
theorem dJ13_stringSize_95d88_13 : decode cJ13_stringSize_95d88 13 = .ok (.ldc2_w 140, 3) := by decide +kernel
theorem dJ13_stringSize_95d88_16 : decode cJ13_stringSize_95d88 16 = .ok (.lstore_n 3, 1) := by decide +kernel
theorem dJ13_stringSize_95d88_17 : decode cJ13_stringSize_95d88 17 = .ok (.iconst 1, 1) := by decide +kernel
theorem dJ13_stringSize_95d88_18 : decode cJ13_stringSize_95d88 18 = .ok (.istore 5, 2) := by decide +kernel
theorem dJ13_stringSize_95d88_20 : decode cJ13_stringSize_95d88 20 = .ok (.iload 5, 2) := by decide +kernel
theorem dJ13_stringSize_95d88_22 : decode cJ13_stringSize_95d88 22 = .ok (.bipush 19, 2) := by decide +kernel
theorem dJ13_stringSize_95d88_24 : decode cJ13_stringSize_95d88 24 = .ok (.if_icmp .ge 26, 3) := by decide +kernel
theorem dJ13_stringSize_95d88_27 : decode cJ13_stringSize_95d88 27 = .ok (.lload_n 0, 1) := by decide +kernel
theorem dJ13_stringSize_95d88_28 : decode cJ13_stringSize_95d88 28 = .ok (.lload_n 3, 1) := by decide +kernel
theorem dJ13_stringSize_95d88_29 : decode cJ13_stringSize_95d88 29 = .ok (.lcmp, 1) := by decide +kernel
theorem dJ13_stringSize_95d88_30 : decode cJ13_stringSize_95d88 30 = .ok (.ifCond .le 8, 3) := by decide +kernel
theorem dJ13_stringSize_95d88_33 : decode cJ13_stringSize_95d88 33 = .ok (.iload 5, 2) := by decide +kernel
theorem dJ13_stringSize_95d88_35 : decode cJ13_stringSize_95d88 35 = .ok (.iload_n 2, 1) := by decide +kernel
theorem dJ13_stringSize_95d88_36 : decode cJ13_stringSize_95d88 36 = .ok (.iadd, 1) := by decide +kernel
theorem dJ13_stringSize_95d88_37 : decode cJ13_stringSize_95d88 37 = .ok (.ireturn, 1) := by decide +kernel
theorem dJ13_stringSize_95d88_38 : decode cJ13_stringSize_95d88 38 = .ok (.ldc2_w 53, 3) := by decide +kernel
theorem dJ13_stringSize_95d88_41 : decode cJ13_stringSize_95d88 41 = .ok (.lload_n 3, 1) := by decide +kernel
theorem dJ13_stringSize_95d88_42 : decode cJ13_stringSize_95d88 42 = .ok (.lmul, 1) := by decide +kernel
theorem dJ13_stringSize_95d88_43 : decode cJ13_stringSize_95d88 43 = .ok (.lstore_n 3, 1) := by decide +kernel
theorem dJ13_stringSize_95d88_44 : decode cJ13_stringSize_95d88 44 = .ok (.iinc 5 1, 3) := by decide +kernel
theorem dJ13_stringSize_95d88_47 : decode cJ13_stringSize_95d88 47 = .ok (.goto (-27), 3) := by decide +kernel
theorem dJ13_stringSize_95d88_50 : decode cJ13_stringSize_95d88 50 = .ok (.bipush 19, 2) := by decide +kernel
theorem dJ13_stringSize_95d88_52 : decode cJ13_stringSize_95d88 52 = .ok (.iload_n 2, 1) := by decide +kernel
theorem dJ13_stringSize_95d88_53 : decode cJ13_stringSize_95d88 53 = .ok (.iadd, 1) := by decide +kernel
theorem dJ13_stringSize_95d88_54 : decode cJ13_stringSize_95d88 54 = .ok (.ireturn, 1) := by decide +kernel
theorem dJ9_multiplyHigh_f86c9_0 : decode cJ9_multiplyHigh_f86c9 0 = .ok (.lload_n 0, 1) := by decide +kernel
theorem dJ9_multiplyHigh_f86c9_1 : decode cJ9_multiplyHigh_f86c9 1 = .ok (.bipush 32, 2) := by decide +kernel
theorem dJ9_multiplyHigh_f86c9_3 : decode cJ9_multiplyHigh_f86c9 3 = .ok (.lshr, 1) := by decide +kernel
theorem dJ9_multiplyHigh_f86c9_4 : decode cJ9_multiplyHigh_f86c9 4 = .ok (.lstore 4, 2) := by decide +kernel
theorem dJ9_multiplyHigh_f86c9_6 : decode cJ9_multiplyHigh_f86c9 6 = .ok (.lload_n 0, 1) := by decide +kernel
theorem dJ9_multiplyHigh_f86c9_7 : decode cJ9_multiplyHigh_f86c9 7 = .ok (.ldc2_w 138, 3) := by decide +kernel
theorem dJ9_multiplyHigh_f86c9_10 : decode cJ9_multiplyHigh_f86c9 10 = .ok (.land, 1) := by decide +kernel
theorem dJ9_multiplyHigh_f86c9_11 : decode cJ9_multiplyHigh_f86c9 11 = .ok (.lstore 6, 2) := by decide +kernel
theorem dJ9_multiplyHigh_f86c9_13 : decode cJ9_multiplyHigh_f86c9 13 = .ok (.lload_n 2, 1) := by decide +kernel
theorem dJ9_multiplyHigh_f86c9_14 : decode cJ9_multiplyHigh_f86c9 14 = .ok (.bipush 32, 2) := by decide +kernel
theorem dJ9_multiplyHigh_f86c9_16 : decode cJ9_multiplyHigh_f86c9 16 = .ok (.lshr, 1) := by decide +kernel
theorem dJ9_multiplyHigh_f86c9_17 : decode cJ9_multiplyHigh_f86c9 17 = .ok (.lstore 8, 2) := by decide +kernel
theorem dJ9_multiplyHigh_f86c9_19 : decode cJ9_multiplyHigh_f86c9 19 = .ok (.lload_n 2, 1) := by decide +kernel
theorem dJ9_multiplyHigh_f86c9_20 : decode cJ9_multiplyHigh_f86c9 20 = .ok (.ldc2_w 138, 3) := by decide +kernel
theorem dJ9_multiplyHigh_f86c9_23 : decode cJ9_multiplyHigh_f86c9 23 = .ok (.land, 1) := by decide +kernel
theorem dJ9_multiplyHigh_f86c9_24 : decode cJ9_multiplyHigh_f86c9 24 = .ok (.lstore 10, 2) := by decide +kernel
theorem dJ9_multiplyHigh_f86c9_26 : decode cJ9_multiplyHigh_f86c9 26 = .ok (.lload 6, 2) := by decide +kernel
theorem dJ9_multiplyHigh_f86c9_28 : decode cJ9_multiplyHigh_f86c9 28 = .ok (.lload 10, 2) := by decide +kernel
theorem dJ9_multiplyHigh_f86c9_30 : decode cJ9_multiplyHigh_f86c9 30 = .ok (.lmul, 1) := by decide +kernel
theorem dJ9_multiplyHigh_f86c9_31 : decode cJ9_multiplyHigh_f86c9 31 = .ok (.lstore 12, 2) := by decide +kernel
theorem dJ9_multiplyHigh_f86c9_33 : decode cJ9_multiplyHigh_f86c9 33 = .ok (.lload 4, 2) := by decide +kernel
theorem dJ9_multiplyHigh_f86c9_35 : decode cJ9_multiplyHigh_f86c9 35 = .ok (.lload 10, 2) := by decide +kernel
theorem dJ9_multiplyHigh_f86c9_37 : decode cJ9_multiplyHigh_f86c9 37 = .ok (.lmul, 1) := by decide +kernel
theorem dJ9_multiplyHigh_f86c9_38 : decode cJ9_multiplyHigh_f86c9 38 = .ok (.lload 12, 2) := by decide +kernel
theorem dJ9_multiplyHigh_f86c9_40 : decode cJ9_multiplyHigh_f86c9 40 = .ok (.bipush 32, 2) := by decide +kernel
theorem dJ9_multiplyHigh_f86c9_42 : decode cJ9_multiplyHigh_f86c9 42 = .ok (.lushr, 1) := by decide +kernel
theorem dJ9_multiplyHigh_f86c9_43 : decode cJ9_multiplyHigh_f86c9 43 = .ok (.ladd, 1) := by decide +kernel
theorem dJ9_multiplyHigh_f86c9_44 : decode cJ9_multiplyHigh_f86c9 44 = .ok (.lstore 14, 2) := by decide +kernel
theorem dJ9_multiplyHigh_f86c9_46 : decode cJ9_multiplyHigh_f86c9 46 = .ok (.lload 14, 2) := by decide +kernel
theorem dJ9_multiplyHigh_f86c9_48 : decode cJ9_multiplyHigh_f86c9 48 = .ok (.ldc2_w 138, 3) := by decide +kernel
theorem dJ9_multiplyHigh_f86c9_51 : decode cJ9_multiplyHigh_f86c9 51 = .ok (.land, 1) := by decide +kernel
theorem dJ9_multiplyHigh_f86c9_52 : decode cJ9_multiplyHigh_f86c9 52 = .ok (.lstore 16, 2) := by decide +kernel
theorem dJ9_multiplyHigh_f86c9_54 : decode cJ9_multiplyHigh_f86c9 54 = .ok (.lload 14, 2) := by decide +kernel
theorem dJ9_multiplyHigh_f86c9_56 : decode cJ9_multiplyHigh_f86c9 56 = .ok (.bipush 32, 2) := by decide +kernel
theorem dJ9_multiplyHigh_f86c9_58 : decode cJ9_multiplyHigh_f86c9 58 = .ok (.lshr, 1) := by decide +kernel
theorem dJ9_multiplyHigh_f86c9_59 : decode cJ9_multiplyHigh_f86c9 59 = .ok (.lstore 18, 2) := by decide +kernel
theorem dJ9_multiplyHigh_f86c9_61 : decode cJ9_multiplyHigh_f86c9 61 = .ok (.lload 16, 2) := by decide +kernel
theorem dJ9_multiplyHigh_f86c9_63 : decode cJ9_multiplyHigh_f86c9 63 = .ok (.lload 6, 2) := by decide +kernel
theorem dJ9_multiplyHigh_f86c9_65 : decode cJ9_multiplyHigh_f86c9 65 = .ok (.lload 8, 2) := by decide +kernel
theorem dJ9_multiplyHigh_f86c9_67 : decode cJ9_multiplyHigh_f86c9 67 = .ok (.lmul, 1) := by decide +kernel
theorem dJ9_multiplyHigh_f86c9_68 : decode cJ9_multiplyHigh_f86c9 68 = .ok (.ladd, 1) := by decide +kernel
theorem dJ9_multiplyHigh_f86c9_69 : decode cJ9_multiplyHigh_f86c9 69 = .ok (.lstore 16, 2) := by decide +kernel
theorem dJ9_multiplyHigh_f86c9_71 : decode cJ9_multiplyHigh_f86c9 71 = .ok (.lload 4, 2) := by decide +kernel
theorem dJ9_multiplyHigh_f86c9_73 : decode cJ9_multiplyHigh_f86c9 73 = .ok (.lload 8, 2) := by decide +kernel
theorem dJ9_multiplyHigh_f86c9_75 : decode cJ9_multiplyHigh_f86c9 75 = .ok (.lmul, 1) := by decide +kernel
theorem dJ9_multiplyHigh_f86c9_76 : decode cJ9_multiplyHigh_f86c9 76 = .ok (.lload 18, 2) := by decide +kernel
theorem dJ9_multiplyHigh_f86c9_78 : decode cJ9_multiplyHigh_f86c9 78 = .ok (.ladd, 1) := by decide +kernel
theorem dJ9_multiplyHigh_f86c9_79 : decode cJ9_multiplyHigh_f86c9 79 = .ok (.lload 16, 2) := by decide +kernel
theorem dJ9_multiplyHigh_f86c9_81 : decode cJ9_multiplyHigh_f86c9 81 = .ok (.bipush 32, 2) := by decide +kernel
theorem dJ9_multiplyHigh_f86c9_83 : decode cJ9_multiplyHigh_f86c9 83 = .ok (.lshr, 1) := by decide +kernel
theorem dJ9_multiplyHigh_f86c9_84 : decode cJ9_multiplyHigh_f86c9 84 = .ok (.ladd, 1) := by decide +kernel
theorem dJ9_multiplyHigh_f86c9_85 : decode cJ9_multiplyHigh_f86c9 85 = .ok (.lreturn, 1) := by decide +kernel
theorem dJ9_max_7cf53_0 : decode cJ9_max_7cf53 0 = .ok (.iload_n 0, 1) := by decide +kernel
theorem dJ9_max_7cf53_1 : decode cJ9_max_7cf53 1 = .ok (.iload_n 1, 1) := by decide +kernel
theorem dJ9_max_7cf53_2 : decode cJ9_max_7cf53 2 = .ok (.if_icmp .lt 7, 3) := by decide +kernel
theorem dJ9_max_7cf53_5 : decode cJ9_max_7cf53 5 = .ok (.iload_n 0, 1) := by decide +kernel
theorem dJ9_max_7cf53_6 : decode cJ9_max_7cf53 6 = .ok (.goto 4, 3) := by decide +kernel
theorem dJ9_max_7cf53_9 : decode cJ9_max_7cf53 9 = .ok (.iload_n 1, 1) := by decide +kernel
theorem dJ9_max_7cf53_10 : decode cJ9_max_7cf53 10 = .ok (.ireturn, 1) := by decide +kernel
theorem dJ9_min_7cf53_0 : decode cJ9_min_7cf53 0 = .ok (.iload_n 0, 1) := by decide +kernel
theorem dJ9_min_7cf53_1 : decode cJ9_min_7cf53 1 = .ok (.iload_n 1, 1) := by decide +kernel
theorem dJ9_min_7cf53_2 : decode cJ9_min_7cf53 2 = .ok (.if_icmp .gt 7, 3) := by decide +kernel
theorem dJ9_min_7cf53_5 : decode cJ9_min_7cf53 5 = .ok (.iload_n 0, 1) := by decide +kernel
theorem dJ9_min_7cf53_6 : decode cJ9_min_7cf53 6 = .ok (.goto 4, 3) := by decide +kernel
theorem dJ9_min_7cf53_9 : decode cJ9_min_7cf53 9 = .ok (.iload_n 1, 1) := by decide +kernel
theorem dJ9_min_7cf53_10 : decode cJ9_min_7cf53 10 = .ok (.ireturn, 1) := by decide +kernel
theorem dJ0_init_81219_0 : decode cJ0_init_81219 0 = .ok (.aload_n 0, 1) := by decide +kernel
theorem dJ0_init_81219_1 : decode cJ0_init_81219 1 = .ok (.aload_n 1, 1) := by decide +kernel
theorem dJ0_init_81219_2 : decode cJ0_init_81219 2 = .ok (.aconst_null, 1) := by decide +kernel
theorem dJ0_init_81219_3 : decode cJ0_init_81219 3 = .ok (.invokespecial 489, 3) := by decide +kernel
theorem dJ0_init_81219_6 : decode cJ0_init_81219 6 = .ok (.return_, 1) := by decide +kernel
theorem dJ0_length_8abf5_0 : decode cJ0_length_8abf5 0 = .ok (.aload_n 0, 1) := by decide +kernel
theorem dJ0_length_8abf5_1 : decode cJ0_length_8abf5 1 = .ok (.getfield 9, 3) := by decide +kernel
theorem dJ0_length_8abf5_4 : decode cJ0_length_8abf5 4 = .ok (.arraylength, 1) := by decide +kernel
theorem dJ0_length_8abf5_5 : decode cJ0_length_8abf5 5 = .ok (.aload_n 0, 1) := by decide +kernel
theorem dJ0_length_8abf5_6 : decode cJ0_length_8abf5 6 = .ok (.invokevirtual 335, 3) := by decide +kernel
theorem dJ0_length_8abf5_9 : decode cJ0_length_8abf5 9 = .ok (.ishr, 1) := by decide +kernel
theorem dJ0_length_8abf5_10 : decode cJ0_length_8abf5 10 = .ok (.ireturn, 1) := by decide +kernel
theorem dJ0_charAt_5068e_0 : decode cJ0_charAt_5068e 0 = .ok (.aload_n 0, 1) := by decide +kernel
theorem dJ0_charAt_5068e_1 : decode cJ0_charAt_5068e 1 = .ok (.invokevirtual 492, 3) := by decide +kernel
theorem dJ0_charAt_5068e_4 : decode cJ0_charAt_5068e 4 = .ok (.ifCond .eq 12, 3) := by decide +kernel
theorem dJ0_charAt_5068e_7 : decode cJ0_charAt_5068e 7 = .ok (.aload_n 0, 1) := by decide +kernel
theorem dJ0_charAt_5068e_8 : decode cJ0_charAt_5068e 8 = .ok (.getfield 9, 3) := by decide +kernel
theorem dJ0_charAt_5068e_11 : decode cJ0_charAt_5068e 11 = .ok (.iload_n 1, 1) := by decide +kernel
theorem dJ0_charAt_5068e_12 : decode cJ0_charAt_5068e 12 = .ok (.invokestatic 495, 3) := by decide +kernel
theorem dJ0_charAt_5068e_15 : decode cJ0_charAt_5068e 15 = .ok (.ireturn, 1) := by decide +kernel
theorem dJ0_charAt_5068e_16 : decode cJ0_charAt_5068e 16 = .ok (.aload_n 0, 1) := by decide +kernel
theorem dJ0_charAt_5068e_17 : decode cJ0_charAt_5068e 17 = .ok (.getfield 9, 3) := by decide +kernel
theorem dJ0_charAt_5068e_20 : decode cJ0_charAt_5068e 20 = .ok (.iload_n 1, 1) := by decide +kernel
theorem dJ0_charAt_5068e_21 : decode cJ0_charAt_5068e 21 = .ok (.invokestatic 498, 3) := by decide +kernel
theorem dJ0_charAt_5068e_24 : decode cJ0_charAt_5068e 24 = .ok (.ireturn, 1) := by decide +kernel
theorem dJ0_equals_9ea2d_0 : decode cJ0_equals_9ea2d 0 = .ok (.aload_n 0, 1) := by decide +kernel
theorem dJ0_equals_9ea2d_1 : decode cJ0_equals_9ea2d 1 = .ok (.aload_n 1, 1) := by decide +kernel
theorem dJ0_equals_9ea2d_2 : decode cJ0_equals_9ea2d 2 = .ok (.if_acmp .ne 5, 3) := by decide +kernel
theorem dJ0_equals_9ea2d_5 : decode cJ0_equals_9ea2d 5 = .ok (.iconst 1, 1) := by decide +kernel
theorem dJ0_equals_9ea2d_6 : decode cJ0_equals_9ea2d 6 = .ok (.ireturn, 1) := by decide +kernel
theorem dJ0_equals_9ea2d_7 : decode cJ0_equals_9ea2d 7 = .ok (.aload_n 1, 1) := by decide +kernel
theorem dJ0_equals_9ea2d_8 : decode cJ0_equals_9ea2d 8 = .ok (.instanceof 10, 3) := by decide +kernel
theorem dJ0_equals_9ea2d_11 : decode cJ0_equals_9ea2d 11 = .ok (.ifCond .eq 43, 3) := by decide +kernel
theorem dJ0_equals_9ea2d_14 : decode cJ0_equals_9ea2d 14 = .ok (.aload_n 1, 1) := by decide +kernel
theorem dJ0_equals_9ea2d_15 : decode cJ0_equals_9ea2d 15 = .ok (.checkcast 10, 3) := by decide +kernel
theorem dJ0_equals_9ea2d_18 : decode cJ0_equals_9ea2d 18 = .ok (.astore_n 2, 1) := by decide +kernel
theorem dJ0_equals_9ea2d_19 : decode cJ0_equals_9ea2d 19 = .ok (.getstatic 38, 3) := by decide +kernel
theorem dJ0_equals_9ea2d_22 : decode cJ0_equals_9ea2d 22 = .ok (.ifCond .eq 14, 3) := by decide +kernel
theorem dJ0_equals_9ea2d_25 : decode cJ0_equals_9ea2d 25 = .ok (.aload_n 0, 1) := by decide +kernel
theorem dJ0_equals_9ea2d_26 : decode cJ0_equals_9ea2d 26 = .ok (.getfield 15, 3) := by decide +kernel
theorem dJ0_equals_9ea2d_29 : decode cJ0_equals_9ea2d 29 = .ok (.aload_n 2, 1) := by decide +kernel
theorem dJ0_equals_9ea2d_30 : decode cJ0_equals_9ea2d 30 = .ok (.getfield 15, 3) := by decide +kernel
theorem dJ0_equals_9ea2d_33 : decode cJ0_equals_9ea2d 33 = .ok (.if_icmp .ne 21, 3) := by decide +kernel
theorem dJ0_equals_9ea2d_36 : decode cJ0_equals_9ea2d 36 = .ok (.aload_n 0, 1) := by decide +kernel
theorem dJ0_equals_9ea2d_37 : decode cJ0_equals_9ea2d 37 = .ok (.getfield 9, 3) := by decide +kernel
theorem dJ0_equals_9ea2d_40 : decode cJ0_equals_9ea2d 40 = .ok (.aload_n 2, 1) := by decide +kernel
theorem dJ0_equals_9ea2d_41 : decode cJ0_equals_9ea2d 41 = .ok (.getfield 9, 3) := by decide +kernel
theorem dJ0_equals_9ea2d_44 : decode cJ0_equals_9ea2d 44 = .ok (.invokestatic 541, 3) := by decide +kernel
theorem dJ0_equals_9ea2d_47 : decode cJ0_equals_9ea2d 47 = .ok (.ifCond .eq 7, 3) := by decide +kernel
theorem dJ0_equals_9ea2d_50 : decode cJ0_equals_9ea2d 50 = .ok (.iconst 1, 1) := by decide +kernel
theorem dJ0_equals_9ea2d_51 : decode cJ0_equals_9ea2d 51 = .ok (.goto 4, 3) := by decide +kernel
theorem dJ0_equals_9ea2d_54 : decode cJ0_equals_9ea2d 54 = .ok (.iconst 0, 1) := by decide +kernel
theorem dJ0_equals_9ea2d_55 : decode cJ0_equals_9ea2d 55 = .ok (.ireturn, 1) := by decide +kernel
theorem dJ0_getBytes_840e7_0 : decode cJ0_getBytes_840e7 0 = .ok (.aload_n 0, 1) := by decide +kernel
theorem dJ0_getBytes_840e7_1 : decode cJ0_getBytes_840e7 1 = .ok (.invokevirtual 335, 3) := by decide +kernel
theorem dJ0_getBytes_840e7_4 : decode cJ0_getBytes_840e7 4 = .ok (.iload_n 3, 1) := by decide +kernel
theorem dJ0_getBytes_840e7_5 : decode cJ0_getBytes_840e7 5 = .ok (.if_icmp .ne 23, 3) := by decide +kernel
theorem dJ0_getBytes_840e7_8 : decode cJ0_getBytes_840e7 8 = .ok (.aload_n 0, 1) := by decide +kernel
theorem dJ0_getBytes_840e7_9 : decode cJ0_getBytes_840e7 9 = .ok (.getfield 9, 3) := by decide +kernel
theorem dJ0_getBytes_840e7_12 : decode cJ0_getBytes_840e7 12 = .ok (.iconst 0, 1) := by decide +kernel
theorem dJ0_getBytes_840e7_13 : decode cJ0_getBytes_840e7 13 = .ok (.aload_n 1, 1) := by decide +kernel
theorem dJ0_getBytes_840e7_14 : decode cJ0_getBytes_840e7 14 = .ok (.iload_n 2, 1) := by decide +kernel
theorem dJ0_getBytes_840e7_15 : decode cJ0_getBytes_840e7 15 = .ok (.iload_n 3, 1) := by decide +kernel
theorem dJ0_getBytes_840e7_16 : decode cJ0_getBytes_840e7 16 = .ok (.ishl, 1) := by decide +kernel
theorem dJ0_getBytes_840e7_17 : decode cJ0_getBytes_840e7 17 = .ok (.aload_n 0, 1) := by decide +kernel
theorem dJ0_getBytes_840e7_18 : decode cJ0_getBytes_840e7 18 = .ok (.getfield 9, 3) := by decide +kernel
theorem dJ0_getBytes_840e7_21 : decode cJ0_getBytes_840e7 21 = .ok (.arraylength, 1) := by decide +kernel
theorem dJ0_getBytes_840e7_22 : decode cJ0_getBytes_840e7 22 = .ok (.invokestatic 212, 3) := by decide +kernel
theorem dJ0_getBytes_840e7_25 : decode cJ0_getBytes_840e7 25 = .ok (.goto 18, 3) := by decide +kernel
theorem dJ0_getBytes_840e7_28 : decode cJ0_getBytes_840e7 28 = .ok (.aload_n 0, 1) := by decide +kernel
theorem dJ0_getBytes_840e7_29 : decode cJ0_getBytes_840e7 29 = .ok (.getfield 9, 3) := by decide +kernel
theorem dJ0_getBytes_840e7_32 : decode cJ0_getBytes_840e7 32 = .ok (.iconst 0, 1) := by decide +kernel
theorem dJ0_getBytes_840e7_33 : decode cJ0_getBytes_840e7 33 = .ok (.aload_n 1, 1) := by decide +kernel
theorem dJ0_getBytes_840e7_34 : decode cJ0_getBytes_840e7 34 = .ok (.iload_n 2, 1) := by decide +kernel
theorem dJ0_getBytes_840e7_35 : decode cJ0_getBytes_840e7 35 = .ok (.aload_n 0, 1) := by decide +kernel
theorem dJ0_getBytes_840e7_36 : decode cJ0_getBytes_840e7 36 = .ok (.getfield 9, 3) := by decide +kernel
theorem dJ0_getBytes_840e7_39 : decode cJ0_getBytes_840e7 39 = .ok (.arraylength, 1) := by decide +kernel
theorem dJ0_getBytes_840e7_40 : decode cJ0_getBytes_840e7 40 = .ok (.invokestatic 106, 3) := by decide +kernel
theorem dJ0_getBytes_840e7_43 : decode cJ0_getBytes_840e7 43 = .ok (.return_, 1) := by decide +kernel
theorem dJ0_init_db425_0 : decode cJ0_init_db425 0 = .ok (.aload_n 0, 1) := by decide +kernel
theorem dJ0_init_db425_1 : decode cJ0_init_db425 1 = .ok (.invokespecial 1, 3) := by decide +kernel
theorem dJ0_init_db425_4 : decode cJ0_init_db425 4 = .ok (.aload_n 1, 1) := by decide +kernel
theorem dJ0_init_db425_5 : decode cJ0_init_db425 5 = .ok (.invokevirtual 552, 3) := by decide +kernel
theorem dJ0_init_db425_8 : decode cJ0_init_db425 8 = .ok (.astore_n 3, 1) := by decide +kernel
theorem dJ0_init_db425_9 : decode cJ0_init_db425 9 = .ok (.aload_n 1, 1) := by decide +kernel
theorem dJ0_init_db425_10 : decode cJ0_init_db425 10 = .ok (.invokevirtual 549, 3) := by decide +kernel
theorem dJ0_init_db425_13 : decode cJ0_init_db425 13 = .ok (.istore 4, 2) := by decide +kernel
theorem dJ0_init_db425_15 : decode cJ0_init_db425 15 = .ok (.aload_n 1, 1) := by decide +kernel
theorem dJ0_init_db425_16 : decode cJ0_init_db425 16 = .ok (.invokevirtual 1047, 3) := by decide +kernel
theorem dJ0_init_db425_19 : decode cJ0_init_db425 19 = .ok (.ifCond .eq 22, 3) := by decide +kernel
theorem dJ0_init_db425_22 : decode cJ0_init_db425 22 = .ok (.aload_n 0, 1) := by decide +kernel
theorem dJ0_init_db425_23 : decode cJ0_init_db425 23 = .ok (.iconst 0, 1) := by decide +kernel
theorem dJ0_init_db425_24 : decode cJ0_init_db425 24 = .ok (.putfield 15, 3) := by decide +kernel
theorem dJ0_init_db425_27 : decode cJ0_init_db425 27 = .ok (.aload_n 0, 1) := by decide +kernel
theorem dJ0_init_db425_28 : decode cJ0_init_db425 28 = .ok (.aload_n 3, 1) := by decide +kernel
theorem dJ0_init_db425_29 : decode cJ0_init_db425 29 = .ok (.iconst 0, 1) := by decide +kernel
theorem dJ0_init_db425_30 : decode cJ0_init_db425 30 = .ok (.iload 4, 2) := by decide +kernel
theorem dJ0_init_db425_32 : decode cJ0_init_db425 32 = .ok (.invokestatic 54, 3) := by decide +kernel
theorem dJ0_init_db425_35 : decode cJ0_init_db425 35 = .ok (.putfield 9, 3) := by decide +kernel
theorem dJ0_init_db425_38 : decode cJ0_init_db425 38 = .ok (.goto 59, 3) := by decide +kernel
theorem dJ0_init_db425_41 : decode cJ0_init_db425 41 = .ok (.getstatic 38, 3) := by decide +kernel
theorem dJ0_init_db425_44 : decode cJ0_init_db425 44 = .ok (.ifCond .eq 35, 3) := by decide +kernel
theorem dJ0_init_db425_47 : decode cJ0_init_db425 47 = .ok (.aload_n 1, 1) := by decide +kernel
theorem dJ0_init_db425_48 : decode cJ0_init_db425 48 = .ok (.getfield 1048, 3) := by decide +kernel
theorem dJ0_init_db425_51 : decode cJ0_init_db425 51 = .ok (.ifCond .eq 28, 3) := by decide +kernel
theorem dJ0_init_db425_54 : decode cJ0_init_db425 54 = .ok (.aload_n 0, 1) := by decide +kernel
theorem dJ0_init_db425_55 : decode cJ0_init_db425 55 = .ok (.aload_n 3, 1) := by decide +kernel
theorem dJ0_init_db425_56 : decode cJ0_init_db425 56 = .ok (.iconst 0, 1) := by decide +kernel
theorem dJ0_init_db425_57 : decode cJ0_init_db425 57 = .ok (.iload 4, 2) := by decide +kernel
theorem dJ0_init_db425_59 : decode cJ0_init_db425 59 = .ok (.invokestatic 1051, 3) := by decide +kernel
theorem dJ0_init_db425_62 : decode cJ0_init_db425 62 = .ok (.putfield 9, 3) := by decide +kernel
theorem dJ0_init_db425_65 : decode cJ0_init_db425 65 = .ok (.aload_n 0, 1) := by decide +kernel
theorem dJ0_init_db425_66 : decode cJ0_init_db425 66 = .ok (.aload_n 0, 1) := by decide +kernel
theorem dJ0_init_db425_67 : decode cJ0_init_db425 67 = .ok (.getfield 9, 3) := by decide +kernel
theorem dJ0_init_db425_70 : decode cJ0_init_db425 70 = .ok (.iload 4, 2) := by decide +kernel
theorem dJ0_init_db425_72 : decode cJ0_init_db425 72 = .ok (.invokestatic 47, 3) := by decide +kernel
theorem dJ0_init_db425_75 : decode cJ0_init_db425 75 = .ok (.putfield 15, 3) := by decide +kernel
theorem dJ0_init_db425_78 : decode cJ0_init_db425 78 = .ok (.return_, 1) := by decide +kernel
theorem dJ0_init_db425_79 : decode cJ0_init_db425 79 = .ok (.aload_n 0, 1) := by decide +kernel
theorem dJ0_init_db425_80 : decode cJ0_init_db425 80 = .ok (.iconst 1, 1) := by decide +kernel
theorem dJ0_init_db425_81 : decode cJ0_init_db425 81 = .ok (.putfield 15, 3) := by decide +kernel
theorem dJ0_init_db425_84 : decode cJ0_init_db425 84 = .ok (.aload_n 0, 1) := by decide +kernel
theorem dJ0_init_db425_85 : decode cJ0_init_db425 85 = .ok (.aload_n 3, 1) := by decide +kernel
theorem dJ0_init_db425_86 : decode cJ0_init_db425 86 = .ok (.iconst 0, 1) := by decide +kernel
theorem dJ0_init_db425_87 : decode cJ0_init_db425 87 = .ok (.iload 4, 2) := by decide +kernel
theorem dJ0_init_db425_89 : decode cJ0_init_db425 89 = .ok (.iconst 1, 1) := by decide +kernel
theorem dJ0_init_db425_90 : decode cJ0_init_db425 90 = .ok (.ishl, 1) := by decide +kernel
theorem dJ0_init_db425_91 : decode cJ0_init_db425 91 = .ok (.invokestatic 54, 3) := by decide +kernel
theorem dJ0_init_db425_94 : decode cJ0_init_db425 94 = .ok (.putfield 9, 3) := by decide +kernel
theorem dJ0_init_db425_97 : decode cJ0_init_db425 97 = .ok (.return_, 1) := by decide +kernel
theorem dJ0_coder_7d493_0 : decode cJ0_coder_7d493 0 = .ok (.getstatic 38, 3) := by decide +kernel
theorem dJ0_coder_7d493_3 : decode cJ0_coder_7d493 3 = .ok (.ifCond .eq 10, 3) := by decide +kernel
theorem dJ0_coder_7d493_6 : decode cJ0_coder_7d493 6 = .ok (.aload_n 0, 1) := by decide +kernel
theorem dJ0_coder_7d493_7 : decode cJ0_coder_7d493 7 = .ok (.getfield 15, 3) := by decide +kernel
theorem dJ0_coder_7d493_10 : decode cJ0_coder_7d493 10 = .ok (.goto 4, 3) := by decide +kernel
theorem dJ0_coder_7d493_13 : decode cJ0_coder_7d493 13 = .ok (.iconst 1, 1) := by decide +kernel
theorem dJ0_coder_7d493_14 : decode cJ0_coder_7d493 14 = .ok (.ireturn, 1) := by decide +kernel
theorem dJ0_isLatin1_aae02_0 : decode cJ0_isLatin1_aae02 0 = .ok (.getstatic 38, 3) := by decide +kernel
theorem dJ0_isLatin1_aae02_3 : decode cJ0_isLatin1_aae02 3 = .ok (.ifCond .eq 14, 3) := by decide +kernel
theorem dJ0_isLatin1_aae02_6 : decode cJ0_isLatin1_aae02 6 = .ok (.aload_n 0, 1) := by decide +kernel
theorem dJ0_isLatin1_aae02_7 : decode cJ0_isLatin1_aae02 7 = .ok (.getfield 15, 3) := by decide +kernel
theorem dJ0_isLatin1_aae02_10 : decode cJ0_isLatin1_aae02 10 = .ok (.ifCond .ne 7, 3) := by decide +kernel
theorem dJ0_isLatin1_aae02_13 : decode cJ0_isLatin1_aae02 13 = .ok (.iconst 1, 1) := by decide +kernel
theorem dJ0_isLatin1_aae02_14 : decode cJ0_isLatin1_aae02 14 = .ok (.goto 4, 3) := by decide +kernel
theorem dJ0_isLatin1_aae02_17 : decode cJ0_isLatin1_aae02 17 = .ok (.iconst 0, 1) := by decide +kernel
theorem dJ0_isLatin1_aae02_18 : decode cJ0_isLatin1_aae02 18 = .ok (.ireturn, 1) := by decide +kernel
theorem dJ0_checkIndex_df160_0 : decode cJ0_checkIndex_df160 0 = .ok (.iload_n 0, 1) := by decide +kernel
theorem dJ0_checkIndex_df160_1 : decode cJ0_checkIndex_df160 1 = .ok (.iload_n 1, 1) := by decide +kernel
theorem dJ0_checkIndex_df160_2 : decode cJ0_checkIndex_df160 2 = .ok (.getstatic 1053, 3) := by decide +kernel
theorem dJ0_checkIndex_df160_5 : decode cJ0_checkIndex_df160 5 = .ok (.invokestatic 1059, 3) := by decide +kernel
theorem dJ0_checkIndex_df160_8 : decode cJ0_checkIndex_df160 8 = .ok (.pop, 1) := by decide +kernel
theorem dJ0_checkIndex_df160_9 : decode cJ0_checkIndex_df160 9 = .ok (.return_, 1) := by decide +kernel
theorem dJ4_init_da8c8_0 : decode cJ4_init_da8c8 0 = .ok (.aload_n 0, 1) := by decide +kernel
theorem dJ4_init_da8c8_1 : decode cJ4_init_da8c8 1 = .ok (.bipush 16, 2) := by decide +kernel
theorem dJ4_init_da8c8_3 : decode cJ4_init_da8c8 3 = .ok (.invokespecial 1, 3) := by decide +kernel
theorem dJ4_init_da8c8_6 : decode cJ4_init_da8c8 6 = .ok (.return_, 1) := by decide +kernel
theorem dJ4_append_15ec4_0 : decode cJ4_append_15ec4 0 = .ok (.aload_n 0, 1) := by decide +kernel
theorem dJ4_append_15ec4_1 : decode cJ4_append_15ec4 1 = .ok (.aload_n 1, 1) := by decide +kernel
theorem dJ4_append_15ec4_2 : decode cJ4_append_15ec4 2 = .ok (.invokespecial 29, 3) := by decide +kernel
theorem dJ4_append_15ec4_5 : decode cJ4_append_15ec4 5 = .ok (.pop, 1) := by decide +kernel
theorem dJ4_append_15ec4_6 : decode cJ4_append_15ec4 6 = .ok (.aload_n 0, 1) := by decide +kernel
theorem dJ4_append_15ec4_7 : decode cJ4_append_15ec4 7 = .ok (.areturn, 1) := by decide +kernel
theorem dJ4_append_1fab5_0 : decode cJ4_append_1fab5 0 = .ok (.aload_n 0, 1) := by decide +kernel
theorem dJ4_append_1fab5_1 : decode cJ4_append_1fab5 1 = .ok (.aload_n 1, 1) := by decide +kernel
theorem dJ4_append_1fab5_2 : decode cJ4_append_1fab5 2 = .ok (.invokespecial 35, 3) := by decide +kernel
theorem dJ4_append_1fab5_5 : decode cJ4_append_1fab5 5 = .ok (.pop, 1) := by decide +kernel
theorem dJ4_append_1fab5_6 : decode cJ4_append_1fab5 6 = .ok (.aload_n 0, 1) := by decide +kernel
theorem dJ4_append_1fab5_7 : decode cJ4_append_1fab5 7 = .ok (.areturn, 1) := by decide +kernel
theorem dJ4_append_37e8c_0 : decode cJ4_append_37e8c 0 = .ok (.aload_n 0, 1) := by decide +kernel
theorem dJ4_append_37e8c_1 : decode cJ4_append_37e8c 1 = .ok (.aload_n 1, 1) := by decide +kernel
theorem dJ4_append_37e8c_2 : decode cJ4_append_37e8c 2 = .ok (.invokespecial 41, 3) := by decide +kernel
theorem dJ4_append_37e8c_5 : decode cJ4_append_37e8c 5 = .ok (.pop, 1) := by decide +kernel
theorem dJ4_append_37e8c_6 : decode cJ4_append_37e8c 6 = .ok (.aload_n 0, 1) := by decide +kernel
theorem dJ4_append_37e8c_7 : decode cJ4_append_37e8c 7 = .ok (.areturn, 1) := by decide +kernel
theorem dJ4_append_9f485_0 : decode cJ4_append_9f485 0 = .ok (.aload_n 0, 1) := by decide +kernel
theorem dJ4_append_9f485_1 : decode cJ4_append_9f485 1 = .ok (.iload_n 1, 1) := by decide +kernel
theorem dJ4_append_9f485_2 : decode cJ4_append_9f485 2 = .ok (.invokespecial 47, 3) := by decide +kernel
theorem dJ4_append_9f485_5 : decode cJ4_append_9f485 5 = .ok (.pop, 1) := by decide +kernel
theorem dJ4_append_9f485_6 : decode cJ4_append_9f485 6 = .ok (.aload_n 0, 1) := by decide +kernel
theorem dJ4_append_9f485_7 : decode cJ4_append_9f485 7 = .ok (.areturn, 1) := by decide +kernel
theorem dJ4_append_cf468_0 : decode cJ4_append_cf468 0 = .ok (.aload_n 0, 1) := by decide +kernel
theorem dJ4_append_cf468_1 : decode cJ4_append_cf468 1 = .ok (.iload_n 1, 1) := by decide +kernel
theorem dJ4_append_cf468_2 : decode cJ4_append_cf468 2 = .ok (.invokespecial 50, 3) := by decide +kernel
theorem dJ4_append_cf468_5 : decode cJ4_append_cf468 5 = .ok (.pop, 1) := by decide +kernel
theorem dJ4_append_cf468_6 : decode cJ4_append_cf468 6 = .ok (.aload_n 0, 1) := by decide +kernel
theorem dJ4_append_cf468_7 : decode cJ4_append_cf468 7 = .ok (.areturn, 1) := by decide +kernel
theorem dJ4_append_bf812_0 : decode cJ4_append_bf812 0 = .ok (.aload_n 0, 1) := by decide +kernel
theorem dJ4_append_bf812_1 : decode cJ4_append_bf812 1 = .ok (.iload_n 1, 1) := by decide +kernel
theorem dJ4_append_bf812_2 : decode cJ4_append_bf812 2 = .ok (.invokespecial 53, 3) := by decide +kernel
theorem dJ4_append_bf812_5 : decode cJ4_append_bf812 5 = .ok (.pop, 1) := by decide +kernel
theorem dJ4_append_bf812_6 : decode cJ4_append_bf812 6 = .ok (.aload_n 0, 1) := by decide +kernel
theorem dJ4_append_bf812_7 : decode cJ4_append_bf812 7 = .ok (.areturn, 1) := by decide +kernel
theorem dJ4_append_f7089_0 : decode cJ4_append_f7089 0 = .ok (.aload_n 0, 1) := by decide +kernel
theorem dJ4_append_f7089_1 : decode cJ4_append_f7089 1 = .ok (.lload_n 1, 1) := by decide +kernel
theorem dJ4_append_f7089_2 : decode cJ4_append_f7089 2 = .ok (.invokespecial 56, 3) := by decide +kernel
theorem dJ4_append_f7089_5 : decode cJ4_append_f7089 5 = .ok (.pop, 1) := by decide +kernel
theorem dJ4_append_f7089_6 : decode cJ4_append_f7089 6 = .ok (.aload_n 0, 1) := by decide +kernel
theorem dJ4_append_f7089_7 : decode cJ4_append_f7089 7 = .ok (.areturn, 1) := by decide +kernel
theorem dJ4_append_9d4c8_0 : decode cJ4_append_9d4c8 0 = .ok (.aload_n 0, 1) := by decide +kernel
theorem dJ4_append_9d4c8_1 : decode cJ4_append_9d4c8 1 = .ok (.fload_n 1, 1) := by decide +kernel
theorem dJ4_append_9d4c8_2 : decode cJ4_append_9d4c8 2 = .ok (.invokespecial 59, 3) := by decide +kernel
theorem dJ4_append_9d4c8_5 : decode cJ4_append_9d4c8 5 = .ok (.pop, 1) := by decide +kernel
theorem dJ4_append_9d4c8_6 : decode cJ4_append_9d4c8 6 = .ok (.aload_n 0, 1) := by decide +kernel
theorem dJ4_append_9d4c8_7 : decode cJ4_append_9d4c8 7 = .ok (.areturn, 1) := by decide +kernel
theorem dJ4_toString_0e30d_0 : decode cJ4_toString_0e30d 0 = .ok (.new 18, 3) := by decide +kernel
theorem dJ4_toString_0e30d_3 : decode cJ4_toString_0e30d 3 = .ok (.dup, 1) := by decide +kernel
theorem dJ4_toString_0e30d_4 : decode cJ4_toString_0e30d 4 = .ok (.aload_n 0, 1) := by decide +kernel
theorem dJ4_toString_0e30d_5 : decode cJ4_toString_0e30d 5 = .ok (.invokespecial 137, 3) := by decide +kernel
theorem dJ4_toString_0e30d_8 : decode cJ4_toString_0e30d 8 = .ok (.areturn, 1) := by decide +kernel
theorem dJ4_append_cf1ce_0 : decode cJ4_append_cf1ce 0 = .ok (.aload_n 0, 1) := by decide +kernel
theorem dJ4_append_cf1ce_1 : decode cJ4_append_cf1ce 1 = .ok (.aload_n 1, 1) := by decide +kernel
theorem dJ4_append_cf1ce_2 : decode cJ4_append_cf1ce 2 = .ok (.invokevirtual 23, 3) := by decide +kernel
theorem dJ4_append_cf1ce_5 : decode cJ4_append_cf1ce 5 = .ok (.areturn, 1) := by decide +kernel
theorem dJ4_length_8abf5_0 : decode cJ4_length_8abf5 0 = .ok (.aload_n 0, 1) := by decide +kernel
theorem dJ4_length_8abf5_1 : decode cJ4_length_8abf5 1 = .ok (.invokespecial 343, 3) := by decide +kernel
theorem dJ4_length_8abf5_4 : decode cJ4_length_8abf5 4 = .ok (.ireturn, 1) := by decide +kernel
theorem dJ4_append_996db_0 : decode cJ4_append_996db 0 = .ok (.aload_n 0, 1) := by decide +kernel
theorem dJ4_append_996db_1 : decode cJ4_append_996db 1 = .ok (.aload_n 1, 1) := by decide +kernel
theorem dJ4_append_996db_2 : decode cJ4_append_996db 2 = .ok (.invokevirtual 299, 3) := by decide +kernel
theorem dJ4_append_996db_5 : decode cJ4_append_996db 5 = .ok (.areturn, 1) := by decide +kernel
theorem dJ1_charAt_3b067_0 : decode cJ1_charAt_3b067 0 = .ok (.iload_n 1, 1) := by decide +kernel
theorem dJ1_charAt_3b067_1 : decode cJ1_charAt_3b067 1 = .ok (.aload_n 0, 1) := by decide +kernel
theorem dJ1_charAt_3b067_2 : decode cJ1_charAt_3b067 2 = .ok (.arraylength, 1) := by decide +kernel
theorem dJ1_charAt_3b067_3 : decode cJ1_charAt_3b067 3 = .ok (.invokestatic 9, 3) := by decide +kernel
theorem dJ1_charAt_3b067_6 : decode cJ1_charAt_3b067 6 = .ok (.aload_n 0, 1) := by decide +kernel
theorem dJ1_charAt_3b067_7 : decode cJ1_charAt_3b067 7 = .ok (.iload_n 1, 1) := by decide +kernel
theorem dJ1_charAt_3b067_8 : decode cJ1_charAt_3b067 8 = .ok (.baload, 1) := by decide +kernel
theorem dJ1_charAt_3b067_9 : decode cJ1_charAt_3b067 9 = .ok (.sipush 255, 3) := by decide +kernel
theorem dJ1_charAt_3b067_12 : decode cJ1_charAt_3b067 12 = .ok (.iand, 1) := by decide +kernel
theorem dJ1_charAt_3b067_13 : decode cJ1_charAt_3b067 13 = .ok (.i2c, 1) := by decide +kernel
theorem dJ1_charAt_3b067_14 : decode cJ1_charAt_3b067 14 = .ok (.ireturn, 1) := by decide +kernel
theorem dJ1_canEncode_fc78d_0 : decode cJ1_canEncode_fc78d 0 = .ok (.iload_n 0, 1) := by decide +kernel
theorem dJ1_canEncode_fc78d_1 : decode cJ1_canEncode_fc78d 1 = .ok (.sipush 255, 3) := by decide +kernel
theorem dJ1_canEncode_fc78d_4 : decode cJ1_canEncode_fc78d 4 = .ok (.if_icmp .gt 7, 3) := by decide +kernel
theorem dJ1_canEncode_fc78d_7 : decode cJ1_canEncode_fc78d 7 = .ok (.iconst 1, 1) := by decide +kernel
theorem dJ1_canEncode_fc78d_8 : decode cJ1_canEncode_fc78d 8 = .ok (.goto 4, 3) := by decide +kernel
theorem dJ1_canEncode_fc78d_11 : decode cJ1_canEncode_fc78d 11 = .ok (.iconst 0, 1) := by decide +kernel
theorem dJ1_canEncode_fc78d_12 : decode cJ1_canEncode_fc78d 12 = .ok (.ireturn, 1) := by decide +kernel
theorem dJ1_equals_b5fdf_0 : decode cJ1_equals_b5fdf 0 = .ok (.aload_n 0, 1) := by decide +kernel
theorem dJ1_equals_b5fdf_1 : decode cJ1_equals_b5fdf 1 = .ok (.arraylength, 1) := by decide +kernel
theorem dJ1_equals_b5fdf_2 : decode cJ1_equals_b5fdf 2 = .ok (.aload_n 1, 1) := by decide +kernel
theorem dJ1_equals_b5fdf_3 : decode cJ1_equals_b5fdf 3 = .ok (.arraylength, 1) := by decide +kernel
theorem dJ1_equals_b5fdf_4 : decode cJ1_equals_b5fdf 4 = .ok (.if_icmp .ne 30, 3) := by decide +kernel
theorem dJ1_equals_b5fdf_7 : decode cJ1_equals_b5fdf 7 = .ok (.iconst 0, 1) := by decide +kernel
theorem dJ1_equals_b5fdf_8 : decode cJ1_equals_b5fdf 8 = .ok (.istore_n 2, 1) := by decide +kernel
theorem dJ1_equals_b5fdf_9 : decode cJ1_equals_b5fdf 9 = .ok (.iload_n 2, 1) := by decide +kernel
theorem dJ1_equals_b5fdf_10 : decode cJ1_equals_b5fdf 10 = .ok (.aload_n 0, 1) := by decide +kernel
theorem dJ1_equals_b5fdf_11 : decode cJ1_equals_b5fdf 11 = .ok (.arraylength, 1) := by decide +kernel
theorem dJ1_equals_b5fdf_12 : decode cJ1_equals_b5fdf 12 = .ok (.if_icmp .ge 20, 3) := by decide +kernel
theorem dJ1_equals_b5fdf_15 : decode cJ1_equals_b5fdf 15 = .ok (.aload_n 0, 1) := by decide +kernel
theorem dJ1_equals_b5fdf_16 : decode cJ1_equals_b5fdf 16 = .ok (.iload_n 2, 1) := by decide +kernel
theorem dJ1_equals_b5fdf_17 : decode cJ1_equals_b5fdf 17 = .ok (.baload, 1) := by decide +kernel
theorem dJ1_equals_b5fdf_18 : decode cJ1_equals_b5fdf 18 = .ok (.aload_n 1, 1) := by decide +kernel
theorem dJ1_equals_b5fdf_19 : decode cJ1_equals_b5fdf 19 = .ok (.iload_n 2, 1) := by decide +kernel
theorem dJ1_equals_b5fdf_20 : decode cJ1_equals_b5fdf 20 = .ok (.baload, 1) := by decide +kernel
theorem dJ1_equals_b5fdf_21 : decode cJ1_equals_b5fdf 21 = .ok (.if_icmp .eq 5, 3) := by decide +kernel
theorem dJ1_equals_b5fdf_24 : decode cJ1_equals_b5fdf 24 = .ok (.iconst 0, 1) := by decide +kernel
theorem dJ1_equals_b5fdf_25 : decode cJ1_equals_b5fdf 25 = .ok (.ireturn, 1) := by decide +kernel
theorem dJ1_equals_b5fdf_26 : decode cJ1_equals_b5fdf 26 = .ok (.iinc 2 1, 3) := by decide +kernel
theorem dJ1_equals_b5fdf_29 : decode cJ1_equals_b5fdf 29 = .ok (.goto (-20), 3) := by decide +kernel
theorem dJ1_equals_b5fdf_32 : decode cJ1_equals_b5fdf 32 = .ok (.iconst 1, 1) := by decide +kernel
theorem dJ1_equals_b5fdf_33 : decode cJ1_equals_b5fdf 33 = .ok (.ireturn, 1) := by decide +kernel
theorem dJ1_equals_b5fdf_34 : decode cJ1_equals_b5fdf 34 = .ok (.iconst 0, 1) := by decide +kernel
theorem dJ1_equals_b5fdf_35 : decode cJ1_equals_b5fdf 35 = .ok (.ireturn, 1) := by decide +kernel
theorem dJ7_copyOf_9075b_0 : decode cJ7_copyOf_9075b 0 = .ok (.iload_n 1, 1) := by decide +kernel
theorem dJ7_copyOf_9075b_1 : decode cJ7_copyOf_9075b 1 = .ok (.aload_n 0, 1) := by decide +kernel
theorem dJ7_copyOf_9075b_2 : decode cJ7_copyOf_9075b 2 = .ok (.arraylength, 1) := by decide +kernel
theorem dJ7_copyOf_9075b_3 : decode cJ7_copyOf_9075b 3 = .ok (.if_icmp .ne 11, 3) := by decide +kernel
theorem dJ7_copyOf_9075b_6 : decode cJ7_copyOf_9075b 6 = .ok (.aload_n 0, 1) := by decide +kernel
theorem dJ7_copyOf_9075b_7 : decode cJ7_copyOf_9075b 7 = .ok (.invokevirtual 310, 3) := by decide +kernel
theorem dJ7_copyOf_9075b_10 : decode cJ7_copyOf_9075b 10 = .ok (.checkcast 311, 3) := by decide +kernel
theorem dJ7_copyOf_9075b_13 : decode cJ7_copyOf_9075b 13 = .ok (.areturn, 1) := by decide +kernel
theorem dJ7_copyOf_9075b_14 : decode cJ7_copyOf_9075b 14 = .ok (.iload_n 1, 1) := by decide +kernel
theorem dJ7_copyOf_9075b_15 : decode cJ7_copyOf_9075b 15 = .ok (.newarray .byte, 2) := by decide +kernel
theorem dJ7_copyOf_9075b_17 : decode cJ7_copyOf_9075b 17 = .ok (.astore_n 2, 1) := by decide +kernel
theorem dJ7_copyOf_9075b_18 : decode cJ7_copyOf_9075b 18 = .ok (.aload_n 0, 1) := by decide +kernel
theorem dJ7_copyOf_9075b_19 : decode cJ7_copyOf_9075b 19 = .ok (.iconst 0, 1) := by decide +kernel
theorem dJ7_copyOf_9075b_20 : decode cJ7_copyOf_9075b 20 = .ok (.aload_n 2, 1) := by decide +kernel
theorem dJ7_copyOf_9075b_21 : decode cJ7_copyOf_9075b 21 = .ok (.iconst 0, 1) := by decide +kernel
theorem dJ7_copyOf_9075b_22 : decode cJ7_copyOf_9075b 22 = .ok (.aload_n 0, 1) := by decide +kernel
theorem dJ7_copyOf_9075b_23 : decode cJ7_copyOf_9075b 23 = .ok (.arraylength, 1) := by decide +kernel
theorem dJ7_copyOf_9075b_24 : decode cJ7_copyOf_9075b 24 = .ok (.iload_n 1, 1) := by decide +kernel
theorem dJ7_copyOf_9075b_25 : decode cJ7_copyOf_9075b 25 = .ok (.invokestatic 304, 3) := by decide +kernel
theorem dJ7_copyOf_9075b_28 : decode cJ7_copyOf_9075b 28 = .ok (.invokestatic 150, 3) := by decide +kernel
theorem dJ7_copyOf_9075b_31 : decode cJ7_copyOf_9075b 31 = .ok (.aload_n 2, 1) := by decide +kernel
theorem dJ7_copyOf_9075b_32 : decode cJ7_copyOf_9075b 32 = .ok (.areturn, 1) := by decide +kernel
theorem dJ7_checkLength_df160_0 : decode cJ7_checkLength_df160 0 = .ok (.iload_n 1, 1) := by decide +kernel
theorem dJ7_checkLength_df160_1 : decode cJ7_checkLength_df160 1 = .ok (.iload_n 0, 1) := by decide +kernel
theorem dJ7_checkLength_df160_2 : decode cJ7_checkLength_df160 2 = .ok (.if_icmp .ge 35, 3) := by decide +kernel
theorem dJ7_checkLength_df160_5 : decode cJ7_checkLength_df160 5 = .ok (.new 43, 3) := by decide +kernel
theorem dJ7_checkLength_df160_8 : decode cJ7_checkLength_df160 8 = .ok (.dup, 1) := by decide +kernel
theorem dJ7_checkLength_df160_9 : decode cJ7_checkLength_df160 9 = .ok (.new 45, 3) := by decide +kernel
theorem dJ7_checkLength_df160_12 : decode cJ7_checkLength_df160 12 = .ok (.dup, 1) := by decide +kernel
theorem dJ7_checkLength_df160_13 : decode cJ7_checkLength_df160 13 = .ok (.invokespecial 47, 3) := by decide +kernel
theorem dJ7_checkLength_df160_16 : decode cJ7_checkLength_df160 16 = .ok (.iload_n 0, 1) := by decide +kernel
theorem dJ7_checkLength_df160_17 : decode cJ7_checkLength_df160 17 = .ok (.invokevirtual 54, 3) := by decide +kernel
theorem dJ7_checkLength_df160_20 : decode cJ7_checkLength_df160 20 = .ok (.ldc_w 337, 3) := by decide +kernel
theorem dJ7_checkLength_df160_23 : decode cJ7_checkLength_df160 23 = .ok (.invokevirtual 50, 3) := by decide +kernel
theorem dJ7_checkLength_df160_26 : decode cJ7_checkLength_df160 26 = .ok (.iload_n 1, 1) := by decide +kernel
theorem dJ7_checkLength_df160_27 : decode cJ7_checkLength_df160 27 = .ok (.invokevirtual 54, 3) := by decide +kernel
theorem dJ7_checkLength_df160_30 : decode cJ7_checkLength_df160 30 = .ok (.invokevirtual 61, 3) := by decide +kernel
theorem dJ7_checkLength_df160_33 : decode cJ7_checkLength_df160 33 = .ok (.invokespecial 65, 3) := by decide +kernel
theorem dJ7_checkLength_df160_36 : decode cJ7_checkLength_df160 36 = .ok (.athrow, 1) := by decide +kernel
theorem dJ7_checkLength_df160_37 : decode cJ7_checkLength_df160 37 = .ok (.return_, 1) := by decide +kernel
theorem dJ7_copyOfRange_39247_0 : decode cJ7_copyOfRange_39247 0 = .ok (.iload_n 1, 1) := by decide +kernel
theorem dJ7_copyOfRange_39247_1 : decode cJ7_copyOfRange_39247 1 = .ok (.ifCond .ne 9, 3) := by decide +kernel
theorem dJ7_copyOfRange_39247_4 : decode cJ7_copyOfRange_39247 4 = .ok (.iload_n 2, 1) := by decide +kernel
theorem dJ7_copyOfRange_39247_5 : decode cJ7_copyOfRange_39247 5 = .ok (.aload_n 0, 1) := by decide +kernel
theorem dJ7_copyOfRange_39247_6 : decode cJ7_copyOfRange_39247 6 = .ok (.arraylength, 1) := by decide +kernel
theorem dJ7_copyOfRange_39247_7 : decode cJ7_copyOfRange_39247 7 = .ok (.if_icmp .eq 10, 3) := by decide +kernel
theorem dJ7_copyOfRange_39247_10 : decode cJ7_copyOfRange_39247 10 = .ok (.aload_n 0, 1) := by decide +kernel
theorem dJ7_copyOfRange_39247_11 : decode cJ7_copyOfRange_39247 11 = .ok (.iload_n 1, 1) := by decide +kernel
theorem dJ7_copyOfRange_39247_12 : decode cJ7_copyOfRange_39247 12 = .ok (.iload_n 2, 1) := by decide +kernel
theorem dJ7_copyOfRange_39247_13 : decode cJ7_copyOfRange_39247 13 = .ok (.invokestatic 339, 3) := by decide +kernel
theorem dJ7_copyOfRange_39247_16 : decode cJ7_copyOfRange_39247 16 = .ok (.areturn, 1) := by decide +kernel
theorem dJ7_copyOfRange_39247_17 : decode cJ7_copyOfRange_39247 17 = .ok (.aload_n 0, 1) := by decide +kernel
theorem dJ7_copyOfRange_39247_18 : decode cJ7_copyOfRange_39247 18 = .ok (.invokevirtual 310, 3) := by decide +kernel
theorem dJ7_copyOfRange_39247_21 : decode cJ7_copyOfRange_39247 21 = .ok (.checkcast 311, 3) := by decide +kernel
theorem dJ7_copyOfRange_39247_24 : decode cJ7_copyOfRange_39247 24 = .ok (.areturn, 1) := by decide +kernel
theorem dJ7_copyOfRangeByte_39247_0 : decode cJ7_copyOfRangeByte_39247 0 = .ok (.iload_n 1, 1) := by decide +kernel
theorem dJ7_copyOfRangeByte_39247_1 : decode cJ7_copyOfRangeByte_39247 1 = .ok (.iload_n 2, 1) := by decide +kernel
theorem dJ7_copyOfRangeByte_39247_2 : decode cJ7_copyOfRangeByte_39247 2 = .ok (.invokestatic 343, 3) := by decide +kernel
theorem dJ7_copyOfRangeByte_39247_5 : decode cJ7_copyOfRangeByte_39247 5 = .ok (.iload_n 2, 1) := by decide +kernel
theorem dJ7_copyOfRangeByte_39247_6 : decode cJ7_copyOfRangeByte_39247 6 = .ok (.iload_n 1, 1) := by decide +kernel
theorem dJ7_copyOfRangeByte_39247_7 : decode cJ7_copyOfRangeByte_39247 7 = .ok (.isub, 1) := by decide +kernel
theorem dJ7_copyOfRangeByte_39247_8 : decode cJ7_copyOfRangeByte_39247 8 = .ok (.istore_n 3, 1) := by decide +kernel
theorem dJ7_copyOfRangeByte_39247_9 : decode cJ7_copyOfRangeByte_39247 9 = .ok (.iload_n 3, 1) := by decide +kernel
theorem dJ7_copyOfRangeByte_39247_10 : decode cJ7_copyOfRangeByte_39247 10 = .ok (.newarray .byte, 2) := by decide +kernel
theorem dJ7_copyOfRangeByte_39247_12 : decode cJ7_copyOfRangeByte_39247 12 = .ok (.astore 4, 2) := by decide +kernel
theorem dJ7_copyOfRangeByte_39247_14 : decode cJ7_copyOfRangeByte_39247 14 = .ok (.aload_n 0, 1) := by decide +kernel
theorem dJ7_copyOfRangeByte_39247_15 : decode cJ7_copyOfRangeByte_39247 15 = .ok (.iload_n 1, 1) := by decide +kernel
theorem dJ7_copyOfRangeByte_39247_16 : decode cJ7_copyOfRangeByte_39247 16 = .ok (.aload 4, 2) := by decide +kernel
theorem dJ7_copyOfRangeByte_39247_18 : decode cJ7_copyOfRangeByte_39247 18 = .ok (.iconst 0, 1) := by decide +kernel
theorem dJ7_copyOfRangeByte_39247_19 : decode cJ7_copyOfRangeByte_39247 19 = .ok (.aload_n 0, 1) := by decide +kernel
theorem dJ7_copyOfRangeByte_39247_20 : decode cJ7_copyOfRangeByte_39247 20 = .ok (.arraylength, 1) := by decide +kernel
theorem dJ7_copyOfRangeByte_39247_21 : decode cJ7_copyOfRangeByte_39247 21 = .ok (.iload_n 1, 1) := by decide +kernel
theorem dJ7_copyOfRangeByte_39247_22 : decode cJ7_copyOfRangeByte_39247 22 = .ok (.isub, 1) := by decide +kernel
theorem dJ7_copyOfRangeByte_39247_23 : decode cJ7_copyOfRangeByte_39247 23 = .ok (.iload_n 3, 1) := by decide +kernel
theorem dJ7_copyOfRangeByte_39247_24 : decode cJ7_copyOfRangeByte_39247 24 = .ok (.invokestatic 304, 3) := by decide +kernel
theorem dJ7_copyOfRangeByte_39247_27 : decode cJ7_copyOfRangeByte_39247 27 = .ok (.invokestatic 150, 3) := by decide +kernel
theorem dJ7_copyOfRangeByte_39247_30 : decode cJ7_copyOfRangeByte_39247 30 = .ok (.aload 4, 2) := by decide +kernel
theorem dJ7_copyOfRangeByte_39247_32 : decode cJ7_copyOfRangeByte_39247 32 = .ok (.areturn, 1) := by decide +kernel
theorem dJx40b00_init_da8c8_0 : decode cJx40b00_init_da8c8 0 = .ok (.aload_n 0, 1) := by decide +kernel
theorem dJx40b00_init_da8c8_1 : decode cJx40b00_init_da8c8 1 = .ok (.invokespecial 5, 3) := by decide +kernel
theorem dJx40b00_init_da8c8_4 : decode cJx40b00_init_da8c8 4 = .ok (.aload_n 0, 1) := by decide +kernel
theorem dJx40b00_init_da8c8_5 : decode cJx40b00_init_da8c8 5 = .ok (.bipush 15, 2) := by decide +kernel
theorem dJx40b00_init_da8c8_7 : decode cJx40b00_init_da8c8 7 = .ok (.newarray .byte, 2) := by decide +kernel
theorem dJx40b00_init_da8c8_9 : decode cJx40b00_init_da8c8 9 = .ok (.putfield 11, 3) := by decide +kernel
theorem dJx40b00_init_da8c8_12 : decode cJx40b00_init_da8c8 12 = .ok (.return_, 1) := by decide +kernel
theorem dJx40b00_appendTo_8d9f2_0 : decode cJx40b00_appendTo_8d9f2 0 = .ok (.new 3, 3) := by decide +kernel
theorem dJx40b00_appendTo_8d9f2_3 : decode cJx40b00_appendTo_8d9f2 3 = .ok (.dup, 1) := by decide +kernel
theorem dJx40b00_appendTo_8d9f2_4 : decode cJx40b00_appendTo_8d9f2 4 = .ok (.invokespecial 15, 3) := by decide +kernel
theorem dJx40b00_appendTo_8d9f2_7 : decode cJx40b00_appendTo_8d9f2 7 = .ok (.fload_n 0, 1) := by decide +kernel
theorem dJx40b00_appendTo_8d9f2_8 : decode cJx40b00_appendTo_8d9f2 8 = .ok (.aload_n 1, 1) := by decide +kernel
theorem dJx40b00_appendTo_8d9f2_9 : decode cJx40b00_appendTo_8d9f2 9 = .ok (.invokevirtual 20, 3) := by decide +kernel
theorem dJx40b00_appendTo_8d9f2_12 : decode cJx40b00_appendTo_8d9f2 12 = .ok (.areturn, 1) := by decide +kernel
theorem dJx40b00_appendDecimalTo_8d9f2_0 : decode cJx40b00_appendDecimalTo_8d9f2 0 = .ok (.aload_n 0, 1) := by decide +kernel
theorem dJx40b00_appendDecimalTo_8d9f2_1 : decode cJx40b00_appendDecimalTo_8d9f2 1 = .ok (.fload_n 1, 1) := by decide +kernel
theorem dJx40b00_appendDecimalTo_8d9f2_2 : decode cJx40b00_appendDecimalTo_8d9f2 2 = .ok (.invokevirtual 24, 3) := by decide +kernel
theorem dJx40b00_appendDecimalTo_8d9f2_5 : decode cJx40b00_appendDecimalTo_8d9f2 5 = .ok (.tableswitch 190 0 4 #[35, 154, 163, 172, 181], 35) := by decide +kernel
theorem dJx40b00_appendDecimalTo_8d9f2_40 : decode cJx40b00_appendDecimalTo_8d9f2 40 = .ok (.aload_n 0, 1) := by decide +kernel
theorem dJx40b00_appendDecimalTo_8d9f2_41 : decode cJx40b00_appendDecimalTo_8d9f2 41 = .ok (.getfield 42, 3) := by decide +kernel
theorem dJx40b00_appendDecimalTo_8d9f2_44 : decode cJx40b00_appendDecimalTo_8d9f2 44 = .ok (.iconst 1, 1) := by decide +kernel
theorem dJx40b00_appendDecimalTo_8d9f2_45 : decode cJx40b00_appendDecimalTo_8d9f2 45 = .ok (.iadd, 1) := by decide +kernel
theorem dJx40b00_appendDecimalTo_8d9f2_46 : decode cJx40b00_appendDecimalTo_8d9f2 46 = .ok (.newarray .char, 2) := by decide +kernel
theorem dJx40b00_appendDecimalTo_8d9f2_48 : decode cJx40b00_appendDecimalTo_8d9f2 48 = .ok (.astore_n 3, 1) := by decide +kernel
theorem dJx40b00_appendDecimalTo_8d9f2_49 : decode cJx40b00_appendDecimalTo_8d9f2 49 = .ok (.iconst 0, 1) := by decide +kernel
theorem dJx40b00_appendDecimalTo_8d9f2_50 : decode cJx40b00_appendDecimalTo_8d9f2 50 = .ok (.istore 4, 2) := by decide +kernel
theorem dJx40b00_appendDecimalTo_8d9f2_52 : decode cJx40b00_appendDecimalTo_8d9f2 52 = .ok (.iload 4, 2) := by decide +kernel
theorem dJx40b00_appendDecimalTo_8d9f2_54 : decode cJx40b00_appendDecimalTo_8d9f2 54 = .ok (.aload_n 3, 1) := by decide +kernel
theorem dJx40b00_appendDecimalTo_8d9f2_55 : decode cJx40b00_appendDecimalTo_8d9f2 55 = .ok (.arraylength, 1) := by decide +kernel
theorem dJx40b00_appendDecimalTo_8d9f2_56 : decode cJx40b00_appendDecimalTo_8d9f2 56 = .ok (.if_icmp .ge 21, 3) := by decide +kernel
theorem dJx40b00_appendDecimalTo_8d9f2_59 : decode cJx40b00_appendDecimalTo_8d9f2 59 = .ok (.aload_n 3, 1) := by decide +kernel
theorem dJx40b00_appendDecimalTo_8d9f2_60 : decode cJx40b00_appendDecimalTo_8d9f2 60 = .ok (.iload 4, 2) := by decide +kernel
theorem dJx40b00_appendDecimalTo_8d9f2_62 : decode cJx40b00_appendDecimalTo_8d9f2 62 = .ok (.aload_n 0, 1) := by decide +kernel
theorem dJx40b00_appendDecimalTo_8d9f2_63 : decode cJx40b00_appendDecimalTo_8d9f2 63 = .ok (.getfield 11, 3) := by decide +kernel
theorem dJx40b00_appendDecimalTo_8d9f2_66 : decode cJx40b00_appendDecimalTo_8d9f2 66 = .ok (.iload 4, 2) := by decide +kernel
theorem dJx40b00_appendDecimalTo_8d9f2_68 : decode cJx40b00_appendDecimalTo_8d9f2 68 = .ok (.baload, 1) := by decide +kernel
theorem dJx40b00_appendDecimalTo_8d9f2_69 : decode cJx40b00_appendDecimalTo_8d9f2 69 = .ok (.i2c, 1) := by decide +kernel
theorem dJx40b00_appendDecimalTo_8d9f2_70 : decode cJx40b00_appendDecimalTo_8d9f2 70 = .ok (.castore, 1) := by decide +kernel
theorem dJx40b00_appendDecimalTo_8d9f2_71 : decode cJx40b00_appendDecimalTo_8d9f2 71 = .ok (.iinc 4 1, 3) := by decide +kernel
theorem dJx40b00_appendDecimalTo_8d9f2_74 : decode cJx40b00_appendDecimalTo_8d9f2 74 = .ok (.goto (-22), 3) := by decide +kernel
theorem dJx40b00_appendDecimalTo_8d9f2_77 : decode cJx40b00_appendDecimalTo_8d9f2 77 = .ok (.aload_n 2, 1) := by decide +kernel
theorem dJx40b00_appendDecimalTo_8d9f2_78 : decode cJx40b00_appendDecimalTo_8d9f2 78 = .ok (.instanceof 46, 3) := by decide +kernel
theorem dJx40b00_appendDecimalTo_8d9f2_81 : decode cJx40b00_appendDecimalTo_8d9f2 81 = .ok (.ifCond .eq 16, 3) := by decide +kernel
theorem dJx40b00_appendDecimalTo_8d9f2_84 : decode cJx40b00_appendDecimalTo_8d9f2 84 = .ok (.aload_n 2, 1) := by decide +kernel
theorem dJx40b00_appendDecimalTo_8d9f2_85 : decode cJx40b00_appendDecimalTo_8d9f2 85 = .ok (.checkcast 46, 3) := by decide +kernel
theorem dJx40b00_appendDecimalTo_8d9f2_88 : decode cJx40b00_appendDecimalTo_8d9f2 88 = .ok (.astore 4, 2) := by decide +kernel
theorem dJx40b00_appendDecimalTo_8d9f2_90 : decode cJx40b00_appendDecimalTo_8d9f2 90 = .ok (.aload 4, 2) := by decide +kernel
theorem dJx40b00_appendDecimalTo_8d9f2_92 : decode cJx40b00_appendDecimalTo_8d9f2 92 = .ok (.aload_n 3, 1) := by decide +kernel
theorem dJx40b00_appendDecimalTo_8d9f2_93 : decode cJx40b00_appendDecimalTo_8d9f2 93 = .ok (.invokevirtual 48, 3) := by decide +kernel
theorem dJx40b00_appendDecimalTo_8d9f2_96 : decode cJx40b00_appendDecimalTo_8d9f2 96 = .ok (.areturn, 1) := by decide +kernel
theorem dJx40b00_appendDecimalTo_8d9f2_97 : decode cJx40b00_appendDecimalTo_8d9f2 97 = .ok (.aload_n 2, 1) := by decide +kernel
theorem dJx40b00_appendDecimalTo_8d9f2_98 : decode cJx40b00_appendDecimalTo_8d9f2 98 = .ok (.instanceof 52, 3) := by decide +kernel
theorem dJx40b00_appendDecimalTo_8d9f2_101 : decode cJx40b00_appendDecimalTo_8d9f2 101 = .ok (.ifCond .eq 16, 3) := by decide +kernel
theorem dJx40b00_appendDecimalTo_8d9f2_104 : decode cJx40b00_appendDecimalTo_8d9f2 104 = .ok (.aload_n 2, 1) := by decide +kernel
theorem dJx40b00_appendDecimalTo_8d9f2_105 : decode cJx40b00_appendDecimalTo_8d9f2 105 = .ok (.checkcast 52, 3) := by decide +kernel
theorem dJx40b00_appendDecimalTo_8d9f2_108 : decode cJx40b00_appendDecimalTo_8d9f2 108 = .ok (.astore 4, 2) := by decide +kernel
theorem dJx40b00_appendDecimalTo_8d9f2_110 : decode cJx40b00_appendDecimalTo_8d9f2 110 = .ok (.aload 4, 2) := by decide +kernel
theorem dJx40b00_appendDecimalTo_8d9f2_112 : decode cJx40b00_appendDecimalTo_8d9f2 112 = .ok (.aload_n 3, 1) := by decide +kernel
theorem dJx40b00_appendDecimalTo_8d9f2_113 : decode cJx40b00_appendDecimalTo_8d9f2 113 = .ok (.invokevirtual 54, 3) := by decide +kernel
theorem dJx40b00_appendDecimalTo_8d9f2_116 : decode cJx40b00_appendDecimalTo_8d9f2 116 = .ok (.areturn, 1) := by decide +kernel
theorem dJx40b00_appendDecimalTo_8d9f2_117 : decode cJx40b00_appendDecimalTo_8d9f2 117 = .ok (.aload_n 3, 1) := by decide +kernel
theorem dJx40b00_appendDecimalTo_8d9f2_118 : decode cJx40b00_appendDecimalTo_8d9f2 118 = .ok (.astore 4, 2) := by decide +kernel
theorem dJx40b00_appendDecimalTo_8d9f2_120 : decode cJx40b00_appendDecimalTo_8d9f2 120 = .ok (.aload 4, 2) := by decide +kernel
theorem dJx40b00_appendDecimalTo_8d9f2_122 : decode cJx40b00_appendDecimalTo_8d9f2 122 = .ok (.arraylength, 1) := by decide +kernel
theorem dJx40b00_appendDecimalTo_8d9f2_123 : decode cJx40b00_appendDecimalTo_8d9f2 123 = .ok (.istore 5, 2) := by decide +kernel
theorem dJx40b00_appendDecimalTo_8d9f2_125 : decode cJx40b00_appendDecimalTo_8d9f2 125 = .ok (.iconst 0, 1) := by decide +kernel
theorem dJx40b00_appendDecimalTo_8d9f2_126 : decode cJx40b00_appendDecimalTo_8d9f2 126 = .ok (.istore 6, 2) := by decide +kernel
theorem dJx40b00_appendDecimalTo_8d9f2_128 : decode cJx40b00_appendDecimalTo_8d9f2 128 = .ok (.iload 6, 2) := by decide +kernel
theorem dJx40b00_appendDecimalTo_8d9f2_130 : decode cJx40b00_appendDecimalTo_8d9f2 130 = .ok (.iload 5, 2) := by decide +kernel
theorem dJx40b00_appendDecimalTo_8d9f2_132 : decode cJx40b00_appendDecimalTo_8d9f2 132 = .ok (.if_icmp .ge 25, 3) := by decide +kernel
theorem dJx40b00_appendDecimalTo_8d9f2_135 : decode cJx40b00_appendDecimalTo_8d9f2 135 = .ok (.aload 4, 2) := by decide +kernel
theorem dJx40b00_appendDecimalTo_8d9f2_137 : decode cJx40b00_appendDecimalTo_8d9f2 137 = .ok (.iload 6, 2) := by decide +kernel
theorem dJx40b00_appendDecimalTo_8d9f2_139 : decode cJx40b00_appendDecimalTo_8d9f2 139 = .ok (.caload, 1) := by decide +kernel
theorem dJx40b00_appendDecimalTo_8d9f2_140 : decode cJx40b00_appendDecimalTo_8d9f2 140 = .ok (.istore 7, 2) := by decide +kernel
theorem dJx40b00_appendDecimalTo_8d9f2_142 : decode cJx40b00_appendDecimalTo_8d9f2 142 = .ok (.aload_n 2, 1) := by decide +kernel
theorem dJx40b00_appendDecimalTo_8d9f2_143 : decode cJx40b00_appendDecimalTo_8d9f2 143 = .ok (.iload 7, 2) := by decide +kernel
theorem dJx40b00_appendDecimalTo_8d9f2_145 : decode cJx40b00_appendDecimalTo_8d9f2 145 = .ok (.invokeinterface 57 2, 5) := by decide +kernel
theorem dJx40b00_appendDecimalTo_8d9f2_150 : decode cJx40b00_appendDecimalTo_8d9f2 150 = .ok (.pop, 1) := by decide +kernel
theorem dJx40b00_appendDecimalTo_8d9f2_151 : decode cJx40b00_appendDecimalTo_8d9f2 151 = .ok (.iinc 6 1, 3) := by decide +kernel
theorem dJx40b00_appendDecimalTo_8d9f2_154 : decode cJx40b00_appendDecimalTo_8d9f2 154 = .ok (.goto (-26), 3) := by decide +kernel
theorem dJx40b00_appendDecimalTo_8d9f2_157 : decode cJx40b00_appendDecimalTo_8d9f2 157 = .ok (.aload_n 2, 1) := by decide +kernel
theorem dJx40b00_appendDecimalTo_8d9f2_158 : decode cJx40b00_appendDecimalTo_8d9f2 158 = .ok (.areturn, 1) := by decide +kernel
theorem dJx40b00_appendDecimalTo_8d9f2_159 : decode cJx40b00_appendDecimalTo_8d9f2 159 = .ok (.aload_n 2, 1) := by decide +kernel
theorem dJx40b00_appendDecimalTo_8d9f2_160 : decode cJx40b00_appendDecimalTo_8d9f2 160 = .ok (.ldc 32, 2) := by decide +kernel
theorem dJx40b00_appendDecimalTo_8d9f2_162 : decode cJx40b00_appendDecimalTo_8d9f2 162 = .ok (.invokeinterface 62 2, 5) := by decide +kernel
theorem dJx40b00_appendDecimalTo_8d9f2_167 : decode cJx40b00_appendDecimalTo_8d9f2 167 = .ok (.areturn, 1) := by decide +kernel
theorem dJx40b00_appendDecimalTo_8d9f2_168 : decode cJx40b00_appendDecimalTo_8d9f2 168 = .ok (.aload_n 2, 1) := by decide +kernel
theorem dJx40b00_appendDecimalTo_8d9f2_169 : decode cJx40b00_appendDecimalTo_8d9f2 169 = .ok (.ldc 34, 2) := by decide +kernel
theorem dJx40b00_appendDecimalTo_8d9f2_171 : decode cJx40b00_appendDecimalTo_8d9f2 171 = .ok (.invokeinterface 62 2, 5) := by decide +kernel
theorem dJx40b00_appendDecimalTo_8d9f2_176 : decode cJx40b00_appendDecimalTo_8d9f2 176 = .ok (.areturn, 1) := by decide +kernel
theorem dJx40b00_appendDecimalTo_8d9f2_177 : decode cJx40b00_appendDecimalTo_8d9f2 177 = .ok (.aload_n 2, 1) := by decide +kernel
theorem dJx40b00_appendDecimalTo_8d9f2_178 : decode cJx40b00_appendDecimalTo_8d9f2 178 = .ok (.ldc 36, 2) := by decide +kernel
theorem dJx40b00_appendDecimalTo_8d9f2_180 : decode cJx40b00_appendDecimalTo_8d9f2 180 = .ok (.invokeinterface 62 2, 5) := by decide +kernel
theorem dJx40b00_appendDecimalTo_8d9f2_185 : decode cJx40b00_appendDecimalTo_8d9f2 185 = .ok (.areturn, 1) := by decide +kernel
theorem dJx40b00_appendDecimalTo_8d9f2_186 : decode cJx40b00_appendDecimalTo_8d9f2 186 = .ok (.aload_n 2, 1) := by decide +kernel
theorem dJx40b00_appendDecimalTo_8d9f2_187 : decode cJx40b00_appendDecimalTo_8d9f2 187 = .ok (.ldc 38, 2) := by decide +kernel
theorem dJx40b00_appendDecimalTo_8d9f2_189 : decode cJx40b00_appendDecimalTo_8d9f2 189 = .ok (.invokeinterface 62 2, 5) := by decide +kernel
theorem dJx40b00_appendDecimalTo_8d9f2_194 : decode cJx40b00_appendDecimalTo_8d9f2 194 = .ok (.areturn, 1) := by decide +kernel
theorem dJx40b00_appendDecimalTo_8d9f2_195 : decode cJx40b00_appendDecimalTo_8d9f2 195 = .ok (.aload_n 2, 1) := by decide +kernel
theorem dJx40b00_appendDecimalTo_8d9f2_196 : decode cJx40b00_appendDecimalTo_8d9f2 196 = .ok (.ldc 40, 2) := by decide +kernel
theorem dJx40b00_appendDecimalTo_8d9f2_198 : decode cJx40b00_appendDecimalTo_8d9f2 198 = .ok (.invokeinterface 62 2, 5) := by decide +kernel
theorem dJx40b00_appendDecimalTo_8d9f2_203 : decode cJx40b00_appendDecimalTo_8d9f2 203 = .ok (.areturn, 1) := by decide +kernel
theorem dJx40b00_toDecimal_5c35a_0 : decode cJx40b00_toDecimal_5c35a 0 = .ok (.fload_n 1, 1) := by decide +kernel
theorem dJx40b00_toDecimal_5c35a_1 : decode cJx40b00_toDecimal_5c35a 1 = .ok (.invokestatic 65, 3) := by decide +kernel
theorem dJx40b00_toDecimal_5c35a_4 : decode cJx40b00_toDecimal_5c35a 4 = .ok (.istore_n 2, 1) := by decide +kernel
theorem dJx40b00_toDecimal_5c35a_5 : decode cJx40b00_toDecimal_5c35a 5 = .ok (.iload_n 2, 1) := by decide +kernel
theorem dJx40b00_toDecimal_5c35a_6 : decode cJx40b00_toDecimal_5c35a 6 = .ok (.ldc 68, 2) := by decide +kernel
theorem dJx40b00_toDecimal_5c35a_8 : decode cJx40b00_toDecimal_5c35a 8 = .ok (.iand, 1) := by decide +kernel
theorem dJx40b00_toDecimal_5c35a_9 : decode cJx40b00_toDecimal_5c35a 9 = .ok (.istore_n 3, 1) := by decide +kernel
theorem dJx40b00_toDecimal_5c35a_10 : decode cJx40b00_toDecimal_5c35a 10 = .ok (.iload_n 2, 1) := by decide +kernel
theorem dJx40b00_toDecimal_5c35a_11 : decode cJx40b00_toDecimal_5c35a 11 = .ok (.bipush 23, 2) := by decide +kernel
theorem dJx40b00_toDecimal_5c35a_13 : decode cJx40b00_toDecimal_5c35a 13 = .ok (.iushr, 1) := by decide +kernel
theorem dJx40b00_toDecimal_5c35a_14 : decode cJx40b00_toDecimal_5c35a 14 = .ok (.sipush 255, 3) := by decide +kernel
theorem dJx40b00_toDecimal_5c35a_17 : decode cJx40b00_toDecimal_5c35a 17 = .ok (.iand, 1) := by decide +kernel
theorem dJx40b00_toDecimal_5c35a_18 : decode cJx40b00_toDecimal_5c35a 18 = .ok (.istore 4, 2) := by decide +kernel
theorem dJx40b00_toDecimal_5c35a_20 : decode cJx40b00_toDecimal_5c35a 20 = .ok (.iload 4, 2) := by decide +kernel
theorem dJx40b00_toDecimal_5c35a_22 : decode cJx40b00_toDecimal_5c35a 22 = .ok (.sipush 255, 3) := by decide +kernel
theorem dJx40b00_toDecimal_5c35a_25 : decode cJx40b00_toDecimal_5c35a 25 = .ok (.if_icmp .ge 145, 3) := by decide +kernel
theorem dJx40b00_toDecimal_5c35a_28 : decode cJx40b00_toDecimal_5c35a 28 = .ok (.aload_n 0, 1) := by decide +kernel
theorem dJx40b00_toDecimal_5c35a_29 : decode cJx40b00_toDecimal_5c35a 29 = .ok (.iconst (-1), 1) := by decide +kernel
theorem dJx40b00_toDecimal_5c35a_30 : decode cJx40b00_toDecimal_5c35a 30 = .ok (.putfield 42, 3) := by decide +kernel
theorem dJx40b00_toDecimal_5c35a_33 : decode cJx40b00_toDecimal_5c35a 33 = .ok (.iload_n 2, 1) := by decide +kernel
theorem dJx40b00_toDecimal_5c35a_34 : decode cJx40b00_toDecimal_5c35a 34 = .ok (.ifCond .ge 9, 3) := by decide +kernel
theorem dJx40b00_toDecimal_5c35a_37 : decode cJx40b00_toDecimal_5c35a 37 = .ok (.aload_n 0, 1) := by decide +kernel
theorem dJx40b00_toDecimal_5c35a_38 : decode cJx40b00_toDecimal_5c35a 38 = .ok (.bipush 45, 2) := by decide +kernel
theorem dJx40b00_toDecimal_5c35a_40 : decode cJx40b00_toDecimal_5c35a 40 = .ok (.invokevirtual 69, 3) := by decide +kernel
theorem dJx40b00_toDecimal_5c35a_43 : decode cJx40b00_toDecimal_5c35a 43 = .ok (.iload 4, 2) := by decide +kernel
theorem dJx40b00_toDecimal_5c35a_45 : decode cJx40b00_toDecimal_5c35a 45 = .ok (.ifCond .eq 80, 3) := by decide +kernel
theorem dJx40b00_toDecimal_5c35a_48 : decode cJx40b00_toDecimal_5c35a 48 = .ok (.sipush 150, 3) := by decide +kernel
theorem dJx40b00_toDecimal_5c35a_51 : decode cJx40b00_toDecimal_5c35a 51 = .ok (.iload 4, 2) := by decide +kernel
theorem dJx40b00_toDecimal_5c35a_53 : decode cJx40b00_toDecimal_5c35a 53 = .ok (.isub, 1) := by decide +kernel
theorem dJx40b00_toDecimal_5c35a_54 : decode cJx40b00_toDecimal_5c35a 54 = .ok (.istore 5, 2) := by decide +kernel
theorem dJx40b00_toDecimal_5c35a_56 : decode cJx40b00_toDecimal_5c35a 56 = .ok (.ldc 72, 2) := by decide +kernel
theorem dJx40b00_toDecimal_5c35a_58 : decode cJx40b00_toDecimal_5c35a 58 = .ok (.iload_n 3, 1) := by decide +kernel
theorem dJx40b00_toDecimal_5c35a_59 : decode cJx40b00_toDecimal_5c35a 59 = .ok (.ior, 1) := by decide +kernel
theorem dJx40b00_toDecimal_5c35a_60 : decode cJx40b00_toDecimal_5c35a 60 = .ok (.istore 6, 2) := by decide +kernel
theorem dJx40b00_toDecimal_5c35a_62 : decode cJx40b00_toDecimal_5c35a 62 = .ok (.iconst 0, 1) := by decide +kernel
theorem dJx40b00_toDecimal_5c35a_63 : decode cJx40b00_toDecimal_5c35a 63 = .ok (.iload 5, 2) := by decide +kernel
theorem dJx40b00_toDecimal_5c35a_65 : decode cJx40b00_toDecimal_5c35a 65 = .ok (.if_icmp .ge 7, 3) := by decide +kernel
theorem dJx40b00_toDecimal_5c35a_68 : decode cJx40b00_toDecimal_5c35a 68 = .ok (.iconst 1, 1) := by decide +kernel
theorem dJx40b00_toDecimal_5c35a_69 : decode cJx40b00_toDecimal_5c35a 69 = .ok (.goto 4, 3) := by decide +kernel
theorem dJx40b00_toDecimal_5c35a_72 : decode cJx40b00_toDecimal_5c35a 72 = .ok (.iconst 0, 1) := by decide +kernel
theorem dJx40b00_toDecimal_5c35a_73 : decode cJx40b00_toDecimal_5c35a 73 = .ok (.iload 5, 2) := by decide +kernel
theorem dJx40b00_toDecimal_5c35a_75 : decode cJx40b00_toDecimal_5c35a 75 = .ok (.bipush 24, 2) := by decide +kernel
theorem dJx40b00_toDecimal_5c35a_77 : decode cJx40b00_toDecimal_5c35a 77 = .ok (.if_icmp .ge 7, 3) := by decide +kernel
theorem dJx40b00_toDecimal_5c35a_80 : decode cJx40b00_toDecimal_5c35a 80 = .ok (.iconst 1, 1) := by decide +kernel
theorem dJx40b00_toDecimal_5c35a_81 : decode cJx40b00_toDecimal_5c35a 81 = .ok (.goto 4, 3) := by decide +kernel
theorem dJx40b00_toDecimal_5c35a_84 : decode cJx40b00_toDecimal_5c35a 84 = .ok (.iconst 0, 1) := by decide +kernel
theorem dJx40b00_toDecimal_5c35a_85 : decode cJx40b00_toDecimal_5c35a 85 = .ok (.iand, 1) := by decide +kernel
theorem dJx40b00_toDecimal_5c35a_86 : decode cJx40b00_toDecimal_5c35a 86 = .ok (.ifCond .eq 28, 3) := by decide +kernel
theorem dJx40b00_toDecimal_5c35a_89 : decode cJx40b00_toDecimal_5c35a 89 = .ok (.iload 6, 2) := by decide +kernel
theorem dJx40b00_toDecimal_5c35a_91 : decode cJx40b00_toDecimal_5c35a 91 = .ok (.iload 5, 2) := by decide +kernel
theorem dJx40b00_toDecimal_5c35a_93 : decode cJx40b00_toDecimal_5c35a 93 = .ok (.ishr, 1) := by decide +kernel
theorem dJx40b00_toDecimal_5c35a_94 : decode cJx40b00_toDecimal_5c35a 94 = .ok (.istore 7, 2) := by decide +kernel
theorem dJx40b00_toDecimal_5c35a_96 : decode cJx40b00_toDecimal_5c35a 96 = .ok (.iload 7, 2) := by decide +kernel
theorem dJx40b00_toDecimal_5c35a_98 : decode cJx40b00_toDecimal_5c35a 98 = .ok (.iload 5, 2) := by decide +kernel
theorem dJx40b00_toDecimal_5c35a_100 : decode cJx40b00_toDecimal_5c35a 100 = .ok (.ishl, 1) := by decide +kernel
theorem dJx40b00_toDecimal_5c35a_101 : decode cJx40b00_toDecimal_5c35a 101 = .ok (.iload 6, 2) := by decide +kernel
theorem dJx40b00_toDecimal_5c35a_103 : decode cJx40b00_toDecimal_5c35a 103 = .ok (.if_icmp .ne 11, 3) := by decide +kernel
theorem dJx40b00_toDecimal_5c35a_106 : decode cJx40b00_toDecimal_5c35a 106 = .ok (.aload_n 0, 1) := by decide +kernel
theorem dJx40b00_toDecimal_5c35a_107 : decode cJx40b00_toDecimal_5c35a 107 = .ok (.iload 7, 2) := by decide +kernel
theorem dJx40b00_toDecimal_5c35a_109 : decode cJx40b00_toDecimal_5c35a 109 = .ok (.iconst 0, 1) := by decide +kernel
theorem dJx40b00_toDecimal_5c35a_110 : decode cJx40b00_toDecimal_5c35a 110 = .ok (.invokevirtual 73, 3) := by decide +kernel
theorem dJx40b00_toDecimal_5c35a_113 : decode cJx40b00_toDecimal_5c35a 113 = .ok (.ireturn, 1) := by decide +kernel
theorem dJx40b00_toDecimal_5c35a_114 : decode cJx40b00_toDecimal_5c35a 114 = .ok (.aload_n 0, 1) := by decide +kernel
theorem dJx40b00_toDecimal_5c35a_115 : decode cJx40b00_toDecimal_5c35a 115 = .ok (.iload 5, 2) := by decide +kernel
theorem dJx40b00_toDecimal_5c35a_117 : decode cJx40b00_toDecimal_5c35a 117 = .ok (.ineg, 1) := by decide +kernel
theorem dJx40b00_toDecimal_5c35a_118 : decode cJx40b00_toDecimal_5c35a 118 = .ok (.iload 6, 2) := by decide +kernel
theorem dJx40b00_toDecimal_5c35a_120 : decode cJx40b00_toDecimal_5c35a 120 = .ok (.iconst 0, 1) := by decide +kernel
theorem dJx40b00_toDecimal_5c35a_121 : decode cJx40b00_toDecimal_5c35a 121 = .ok (.invokevirtual 77, 3) := by decide +kernel
theorem dJx40b00_toDecimal_5c35a_124 : decode cJx40b00_toDecimal_5c35a 124 = .ok (.ireturn, 1) := by decide +kernel
theorem dJx40b00_toDecimal_5c35a_125 : decode cJx40b00_toDecimal_5c35a 125 = .ok (.iload_n 3, 1) := by decide +kernel
theorem dJx40b00_toDecimal_5c35a_126 : decode cJx40b00_toDecimal_5c35a 126 = .ok (.ifCond .eq 34, 3) := by decide +kernel
theorem dJx40b00_toDecimal_5c35a_129 : decode cJx40b00_toDecimal_5c35a 129 = .ok (.iload_n 3, 1) := by decide +kernel
theorem dJx40b00_toDecimal_5c35a_130 : decode cJx40b00_toDecimal_5c35a 130 = .ok (.bipush 8, 2) := by decide +kernel
theorem dJx40b00_toDecimal_5c35a_132 : decode cJx40b00_toDecimal_5c35a 132 = .ok (.if_icmp .ge 18, 3) := by decide +kernel
theorem dJx40b00_toDecimal_5c35a_135 : decode cJx40b00_toDecimal_5c35a 135 = .ok (.aload_n 0, 1) := by decide +kernel
theorem dJx40b00_toDecimal_5c35a_136 : decode cJx40b00_toDecimal_5c35a 136 = .ok (.sipush (-149), 3) := by decide +kernel
theorem dJx40b00_toDecimal_5c35a_139 : decode cJx40b00_toDecimal_5c35a 139 = .ok (.bipush 10, 2) := by decide +kernel
theorem dJx40b00_toDecimal_5c35a_141 : decode cJx40b00_toDecimal_5c35a 141 = .ok (.iload_n 3, 1) := by decide +kernel
theorem dJx40b00_toDecimal_5c35a_142 : decode cJx40b00_toDecimal_5c35a 142 = .ok (.imul, 1) := by decide +kernel
theorem dJx40b00_toDecimal_5c35a_143 : decode cJx40b00_toDecimal_5c35a 143 = .ok (.iconst (-1), 1) := by decide +kernel
theorem dJx40b00_toDecimal_5c35a_144 : decode cJx40b00_toDecimal_5c35a 144 = .ok (.invokevirtual 77, 3) := by decide +kernel
theorem dJx40b00_toDecimal_5c35a_147 : decode cJx40b00_toDecimal_5c35a 147 = .ok (.goto 12, 3) := by decide +kernel
theorem dJx40b00_toDecimal_5c35a_150 : decode cJx40b00_toDecimal_5c35a 150 = .ok (.aload_n 0, 1) := by decide +kernel
theorem dJx40b00_toDecimal_5c35a_151 : decode cJx40b00_toDecimal_5c35a 151 = .ok (.sipush (-149), 3) := by decide +kernel
theorem dJx40b00_toDecimal_5c35a_154 : decode cJx40b00_toDecimal_5c35a 154 = .ok (.iload_n 3, 1) := by decide +kernel
theorem dJx40b00_toDecimal_5c35a_155 : decode cJx40b00_toDecimal_5c35a 155 = .ok (.iconst 0, 1) := by decide +kernel
theorem dJx40b00_toDecimal_5c35a_156 : decode cJx40b00_toDecimal_5c35a 156 = .ok (.invokevirtual 77, 3) := by decide +kernel
theorem dJx40b00_toDecimal_5c35a_159 : decode cJx40b00_toDecimal_5c35a 159 = .ok (.ireturn, 1) := by decide +kernel
theorem dJx40b00_toDecimal_5c35a_160 : decode cJx40b00_toDecimal_5c35a 160 = .ok (.iload_n 2, 1) := by decide +kernel
theorem dJx40b00_toDecimal_5c35a_161 : decode cJx40b00_toDecimal_5c35a 161 = .ok (.ifCond .ne 7, 3) := by decide +kernel
theorem dJx40b00_toDecimal_5c35a_164 : decode cJx40b00_toDecimal_5c35a 164 = .ok (.iconst 1, 1) := by decide +kernel
theorem dJx40b00_toDecimal_5c35a_165 : decode cJx40b00_toDecimal_5c35a 165 = .ok (.goto 4, 3) := by decide +kernel
theorem dJx40b00_toDecimal_5c35a_168 : decode cJx40b00_toDecimal_5c35a 168 = .ok (.iconst 2, 1) := by decide +kernel
theorem dJx40b00_toDecimal_5c35a_169 : decode cJx40b00_toDecimal_5c35a 169 = .ok (.ireturn, 1) := by decide +kernel
theorem dJx40b00_toDecimal_5c35a_170 : decode cJx40b00_toDecimal_5c35a 170 = .ok (.iload_n 3, 1) := by decide +kernel
theorem dJx40b00_toDecimal_5c35a_171 : decode cJx40b00_toDecimal_5c35a 171 = .ok (.ifCond .eq 5, 3) := by decide +kernel
theorem dJx40b00_toDecimal_5c35a_174 : decode cJx40b00_toDecimal_5c35a 174 = .ok (.iconst 5, 1) := by decide +kernel
theorem dJx40b00_toDecimal_5c35a_175 : decode cJx40b00_toDecimal_5c35a 175 = .ok (.ireturn, 1) := by decide +kernel
theorem dJx40b00_toDecimal_5c35a_176 : decode cJx40b00_toDecimal_5c35a 176 = .ok (.iload_n 2, 1) := by decide +kernel
theorem dJx40b00_toDecimal_5c35a_177 : decode cJx40b00_toDecimal_5c35a 177 = .ok (.ifCond .le 7, 3) := by decide +kernel
theorem dJx40b00_toDecimal_5c35a_180 : decode cJx40b00_toDecimal_5c35a 180 = .ok (.iconst 3, 1) := by decide +kernel
theorem dJx40b00_toDecimal_5c35a_181 : decode cJx40b00_toDecimal_5c35a 181 = .ok (.goto 4, 3) := by decide +kernel
theorem dJx40b00_toDecimal_5c35a_184 : decode cJx40b00_toDecimal_5c35a 184 = .ok (.iconst 4, 1) := by decide +kernel
theorem dJx40b00_toDecimal_5c35a_185 : decode cJx40b00_toDecimal_5c35a 185 = .ok (.ireturn, 1) := by decide +kernel
theorem dJx40b00_toDecimal_cabcc_0 : decode cJx40b00_toDecimal_cabcc 0 = .ok (.iload_n 2, 1) := by decide +kernel
theorem dJx40b00_toDecimal_cabcc_1 : decode cJx40b00_toDecimal_cabcc 1 = .ok (.iconst 1, 1) := by decide +kernel
theorem dJx40b00_toDecimal_cabcc_2 : decode cJx40b00_toDecimal_cabcc 2 = .ok (.iand, 1) := by decide +kernel
theorem dJx40b00_toDecimal_cabcc_3 : decode cJx40b00_toDecimal_cabcc 3 = .ok (.istore 4, 2) := by decide +kernel
theorem dJx40b00_toDecimal_cabcc_5 : decode cJx40b00_toDecimal_cabcc 5 = .ok (.iload_n 2, 1) := by decide +kernel
theorem dJx40b00_toDecimal_cabcc_6 : decode cJx40b00_toDecimal_cabcc 6 = .ok (.iconst 2, 1) := by decide +kernel
theorem dJx40b00_toDecimal_cabcc_7 : decode cJx40b00_toDecimal_cabcc 7 = .ok (.ishl, 1) := by decide +kernel
theorem dJx40b00_toDecimal_cabcc_8 : decode cJx40b00_toDecimal_cabcc 8 = .ok (.i2l, 1) := by decide +kernel
theorem dJx40b00_toDecimal_cabcc_9 : decode cJx40b00_toDecimal_cabcc 9 = .ok (.lstore 5, 2) := by decide +kernel
theorem dJx40b00_toDecimal_cabcc_11 : decode cJx40b00_toDecimal_cabcc 11 = .ok (.lload 5, 2) := by decide +kernel
theorem dJx40b00_toDecimal_cabcc_13 : decode cJx40b00_toDecimal_cabcc 13 = .ok (.ldc2_w 80, 3) := by decide +kernel
theorem dJx40b00_toDecimal_cabcc_16 : decode cJx40b00_toDecimal_cabcc 16 = .ok (.ladd, 1) := by decide +kernel
theorem dJx40b00_toDecimal_cabcc_17 : decode cJx40b00_toDecimal_cabcc 17 = .ok (.lstore 7, 2) := by decide +kernel
theorem dJx40b00_toDecimal_cabcc_19 : decode cJx40b00_toDecimal_cabcc 19 = .ok (.iload_n 2, 1) := by decide +kernel
theorem dJx40b00_toDecimal_cabcc_20 : decode cJx40b00_toDecimal_cabcc 20 = .ok (.ldc 72, 2) := by decide +kernel
theorem dJx40b00_toDecimal_cabcc_22 : decode cJx40b00_toDecimal_cabcc 22 = .ok (.if_icmp .eq 7, 3) := by decide +kernel
theorem dJx40b00_toDecimal_cabcc_25 : decode cJx40b00_toDecimal_cabcc 25 = .ok (.iconst 1, 1) := by decide +kernel
theorem dJx40b00_toDecimal_cabcc_26 : decode cJx40b00_toDecimal_cabcc 26 = .ok (.goto 4, 3) := by decide +kernel
theorem dJx40b00_toDecimal_cabcc_29 : decode cJx40b00_toDecimal_cabcc 29 = .ok (.iconst 0, 1) := by decide +kernel
theorem dJx40b00_toDecimal_cabcc_30 : decode cJx40b00_toDecimal_cabcc 30 = .ok (.iload_n 1, 1) := by decide +kernel
theorem dJx40b00_toDecimal_cabcc_31 : decode cJx40b00_toDecimal_cabcc 31 = .ok (.sipush (-149), 3) := by decide +kernel
theorem dJx40b00_toDecimal_cabcc_34 : decode cJx40b00_toDecimal_cabcc 34 = .ok (.if_icmp .ne 7, 3) := by decide +kernel
theorem dJx40b00_toDecimal_cabcc_37 : decode cJx40b00_toDecimal_cabcc 37 = .ok (.iconst 1, 1) := by decide +kernel
theorem dJx40b00_toDecimal_cabcc_38 : decode cJx40b00_toDecimal_cabcc 38 = .ok (.goto 4, 3) := by decide +kernel
theorem dJx40b00_toDecimal_cabcc_41 : decode cJx40b00_toDecimal_cabcc 41 = .ok (.iconst 0, 1) := by decide +kernel
theorem dJx40b00_toDecimal_cabcc_42 : decode cJx40b00_toDecimal_cabcc 42 = .ok (.ior, 1) := by decide +kernel
theorem dJx40b00_toDecimal_cabcc_43 : decode cJx40b00_toDecimal_cabcc 43 = .ok (.ifCond .eq 20, 3) := by decide +kernel
theorem dJx40b00_toDecimal_cabcc_46 : decode cJx40b00_toDecimal_cabcc 46 = .ok (.lload 5, 2) := by decide +kernel
theorem dJx40b00_toDecimal_cabcc_48 : decode cJx40b00_toDecimal_cabcc 48 = .ok (.ldc2_w 80, 3) := by decide +kernel
theorem dJx40b00_toDecimal_cabcc_51 : decode cJx40b00_toDecimal_cabcc 51 = .ok (.lsub, 1) := by decide +kernel
theorem dJx40b00_toDecimal_cabcc_52 : decode cJx40b00_toDecimal_cabcc 52 = .ok (.lstore 9, 2) := by decide +kernel
theorem dJx40b00_toDecimal_cabcc_54 : decode cJx40b00_toDecimal_cabcc 54 = .ok (.iload_n 1, 1) := by decide +kernel
theorem dJx40b00_toDecimal_cabcc_55 : decode cJx40b00_toDecimal_cabcc 55 = .ok (.invokestatic 82, 3) := by decide +kernel
theorem dJx40b00_toDecimal_cabcc_58 : decode cJx40b00_toDecimal_cabcc 58 = .ok (.istore 11, 2) := by decide +kernel
theorem dJx40b00_toDecimal_cabcc_60 : decode cJx40b00_toDecimal_cabcc 60 = .ok (.goto 15, 3) := by decide +kernel
theorem dJx40b00_toDecimal_cabcc_63 : decode cJx40b00_toDecimal_cabcc 63 = .ok (.lload 5, 2) := by decide +kernel
theorem dJx40b00_toDecimal_cabcc_65 : decode cJx40b00_toDecimal_cabcc 65 = .ok (.lconst 1, 1) := by decide +kernel
theorem dJx40b00_toDecimal_cabcc_66 : decode cJx40b00_toDecimal_cabcc 66 = .ok (.lsub, 1) := by decide +kernel
theorem dJx40b00_toDecimal_cabcc_67 : decode cJx40b00_toDecimal_cabcc 67 = .ok (.lstore 9, 2) := by decide +kernel
theorem dJx40b00_toDecimal_cabcc_69 : decode cJx40b00_toDecimal_cabcc 69 = .ok (.iload_n 1, 1) := by decide +kernel
theorem dJx40b00_toDecimal_cabcc_70 : decode cJx40b00_toDecimal_cabcc 70 = .ok (.invokestatic 88, 3) := by decide +kernel
theorem dJx40b00_toDecimal_cabcc_73 : decode cJx40b00_toDecimal_cabcc 73 = .ok (.istore 11, 2) := by decide +kernel
theorem dJx40b00_toDecimal_cabcc_75 : decode cJx40b00_toDecimal_cabcc 75 = .ok (.iload_n 1, 1) := by decide +kernel
theorem dJx40b00_toDecimal_cabcc_76 : decode cJx40b00_toDecimal_cabcc 76 = .ok (.iload 11, 2) := by decide +kernel
theorem dJx40b00_toDecimal_cabcc_78 : decode cJx40b00_toDecimal_cabcc 78 = .ok (.ineg, 1) := by decide +kernel
theorem dJx40b00_toDecimal_cabcc_79 : decode cJx40b00_toDecimal_cabcc 79 = .ok (.invokestatic 91, 3) := by decide +kernel
theorem dJx40b00_toDecimal_cabcc_82 : decode cJx40b00_toDecimal_cabcc 82 = .ok (.iadd, 1) := by decide +kernel
theorem dJx40b00_toDecimal_cabcc_83 : decode cJx40b00_toDecimal_cabcc 83 = .ok (.bipush 33, 2) := by decide +kernel
theorem dJx40b00_toDecimal_cabcc_85 : decode cJx40b00_toDecimal_cabcc 85 = .ok (.iadd, 1) := by decide +kernel
theorem dJx40b00_toDecimal_cabcc_86 : decode cJx40b00_toDecimal_cabcc 86 = .ok (.istore 12, 2) := by decide +kernel
theorem dJx40b00_toDecimal_cabcc_88 : decode cJx40b00_toDecimal_cabcc 88 = .ok (.iload 11, 2) := by decide +kernel
theorem dJx40b00_toDecimal_cabcc_90 : decode cJx40b00_toDecimal_cabcc 90 = .ok (.invokestatic 94, 3) := by decide +kernel
theorem dJx40b00_toDecimal_cabcc_93 : decode cJx40b00_toDecimal_cabcc 93 = .ok (.lconst 1, 1) := by decide +kernel
theorem dJx40b00_toDecimal_cabcc_94 : decode cJx40b00_toDecimal_cabcc 94 = .ok (.ladd, 1) := by decide +kernel
theorem dJx40b00_toDecimal_cabcc_95 : decode cJx40b00_toDecimal_cabcc 95 = .ok (.lstore 13, 2) := by decide +kernel
theorem dJx40b00_toDecimal_cabcc_97 : decode cJx40b00_toDecimal_cabcc 97 = .ok (.lload 13, 2) := by decide +kernel
theorem dJx40b00_toDecimal_cabcc_99 : decode cJx40b00_toDecimal_cabcc 99 = .ok (.lload 5, 2) := by decide +kernel
theorem dJx40b00_toDecimal_cabcc_101 : decode cJx40b00_toDecimal_cabcc 101 = .ok (.iload 12, 2) := by decide +kernel
theorem dJx40b00_toDecimal_cabcc_103 : decode cJx40b00_toDecimal_cabcc 103 = .ok (.lshl, 1) := by decide +kernel
theorem dJx40b00_toDecimal_cabcc_104 : decode cJx40b00_toDecimal_cabcc 104 = .ok (.invokestatic 98, 3) := by decide +kernel
theorem dJx40b00_toDecimal_cabcc_107 : decode cJx40b00_toDecimal_cabcc 107 = .ok (.istore 15, 2) := by decide +kernel
theorem dJx40b00_toDecimal_cabcc_109 : decode cJx40b00_toDecimal_cabcc 109 = .ok (.lload 13, 2) := by decide +kernel
theorem dJx40b00_toDecimal_cabcc_111 : decode cJx40b00_toDecimal_cabcc 111 = .ok (.lload 9, 2) := by decide +kernel
theorem dJx40b00_toDecimal_cabcc_113 : decode cJx40b00_toDecimal_cabcc 113 = .ok (.iload 12, 2) := by decide +kernel
theorem dJx40b00_toDecimal_cabcc_115 : decode cJx40b00_toDecimal_cabcc 115 = .ok (.lshl, 1) := by decide +kernel
theorem dJx40b00_toDecimal_cabcc_116 : decode cJx40b00_toDecimal_cabcc 116 = .ok (.invokestatic 98, 3) := by decide +kernel
theorem dJx40b00_toDecimal_cabcc_119 : decode cJx40b00_toDecimal_cabcc 119 = .ok (.istore 16, 2) := by decide +kernel
theorem dJx40b00_toDecimal_cabcc_121 : decode cJx40b00_toDecimal_cabcc 121 = .ok (.lload 13, 2) := by decide +kernel
theorem dJx40b00_toDecimal_cabcc_123 : decode cJx40b00_toDecimal_cabcc 123 = .ok (.lload 7, 2) := by decide +kernel
theorem dJx40b00_toDecimal_cabcc_125 : decode cJx40b00_toDecimal_cabcc 125 = .ok (.iload 12, 2) := by decide +kernel
theorem dJx40b00_toDecimal_cabcc_127 : decode cJx40b00_toDecimal_cabcc 127 = .ok (.lshl, 1) := by decide +kernel
theorem dJx40b00_toDecimal_cabcc_128 : decode cJx40b00_toDecimal_cabcc 128 = .ok (.invokestatic 98, 3) := by decide +kernel
theorem dJx40b00_toDecimal_cabcc_131 : decode cJx40b00_toDecimal_cabcc 131 = .ok (.istore 17, 2) := by decide +kernel
theorem dJx40b00_toDecimal_cabcc_133 : decode cJx40b00_toDecimal_cabcc 133 = .ok (.iload 15, 2) := by decide +kernel
theorem dJx40b00_toDecimal_cabcc_135 : decode cJx40b00_toDecimal_cabcc 135 = .ok (.iconst 2, 1) := by decide +kernel
theorem dJx40b00_toDecimal_cabcc_136 : decode cJx40b00_toDecimal_cabcc 136 = .ok (.ishr, 1) := by decide +kernel
theorem dJx40b00_toDecimal_cabcc_137 : decode cJx40b00_toDecimal_cabcc 137 = .ok (.istore 18, 2) := by decide +kernel
theorem dJx40b00_toDecimal_cabcc_139 : decode cJx40b00_toDecimal_cabcc 139 = .ok (.iload 18, 2) := by decide +kernel
theorem dJx40b00_toDecimal_cabcc_141 : decode cJx40b00_toDecimal_cabcc 141 = .ok (.bipush 100, 2) := by decide +kernel
theorem dJx40b00_toDecimal_cabcc_143 : decode cJx40b00_toDecimal_cabcc 143 = .ok (.if_icmp .lt 90, 3) := by decide +kernel
theorem dJx40b00_toDecimal_cabcc_146 : decode cJx40b00_toDecimal_cabcc 146 = .ok (.bipush 10, 2) := by decide +kernel
theorem dJx40b00_toDecimal_cabcc_148 : decode cJx40b00_toDecimal_cabcc 148 = .ok (.iload 18, 2) := by decide +kernel
theorem dJx40b00_toDecimal_cabcc_150 : decode cJx40b00_toDecimal_cabcc 150 = .ok (.i2l, 1) := by decide +kernel
theorem dJx40b00_toDecimal_cabcc_151 : decode cJx40b00_toDecimal_cabcc 151 = .ok (.ldc2_w 102, 3) := by decide +kernel
theorem dJx40b00_toDecimal_cabcc_154 : decode cJx40b00_toDecimal_cabcc 154 = .ok (.lmul, 1) := by decide +kernel
theorem dJx40b00_toDecimal_cabcc_155 : decode cJx40b00_toDecimal_cabcc 155 = .ok (.bipush 34, 2) := by decide +kernel
theorem dJx40b00_toDecimal_cabcc_157 : decode cJx40b00_toDecimal_cabcc 157 = .ok (.lushr, 1) := by decide +kernel
theorem dJx40b00_toDecimal_cabcc_158 : decode cJx40b00_toDecimal_cabcc 158 = .ok (.l2i, 1) := by decide +kernel
theorem dJx40b00_toDecimal_cabcc_159 : decode cJx40b00_toDecimal_cabcc 159 = .ok (.imul, 1) := by decide +kernel
theorem dJx40b00_toDecimal_cabcc_160 : decode cJx40b00_toDecimal_cabcc 160 = .ok (.istore 19, 2) := by decide +kernel
theorem dJx40b00_toDecimal_cabcc_162 : decode cJx40b00_toDecimal_cabcc 162 = .ok (.iload 19, 2) := by decide +kernel
theorem dJx40b00_toDecimal_cabcc_164 : decode cJx40b00_toDecimal_cabcc 164 = .ok (.bipush 10, 2) := by decide +kernel
theorem dJx40b00_toDecimal_cabcc_166 : decode cJx40b00_toDecimal_cabcc 166 = .ok (.iadd, 1) := by decide +kernel
theorem dJx40b00_toDecimal_cabcc_167 : decode cJx40b00_toDecimal_cabcc 167 = .ok (.istore 20, 2) := by decide +kernel
theorem dJx40b00_toDecimal_cabcc_169 : decode cJx40b00_toDecimal_cabcc 169 = .ok (.iload 16, 2) := by decide +kernel
theorem dJx40b00_toDecimal_cabcc_171 : decode cJx40b00_toDecimal_cabcc 171 = .ok (.iload 4, 2) := by decide +kernel
theorem dJx40b00_toDecimal_cabcc_173 : decode cJx40b00_toDecimal_cabcc 173 = .ok (.iadd, 1) := by decide +kernel
theorem dJx40b00_toDecimal_cabcc_174 : decode cJx40b00_toDecimal_cabcc 174 = .ok (.iload 19, 2) := by decide +kernel
theorem dJx40b00_toDecimal_cabcc_176 : decode cJx40b00_toDecimal_cabcc 176 = .ok (.iconst 2, 1) := by decide +kernel
theorem dJx40b00_toDecimal_cabcc_177 : decode cJx40b00_toDecimal_cabcc 177 = .ok (.ishl, 1) := by decide +kernel
theorem dJx40b00_toDecimal_cabcc_178 : decode cJx40b00_toDecimal_cabcc 178 = .ok (.if_icmp .gt 7, 3) := by decide +kernel
theorem dJx40b00_toDecimal_cabcc_181 : decode cJx40b00_toDecimal_cabcc 181 = .ok (.iconst 1, 1) := by decide +kernel
theorem dJx40b00_toDecimal_cabcc_182 : decode cJx40b00_toDecimal_cabcc 182 = .ok (.goto 4, 3) := by decide +kernel
theorem dJx40b00_toDecimal_cabcc_185 : decode cJx40b00_toDecimal_cabcc 185 = .ok (.iconst 0, 1) := by decide +kernel
theorem dJx40b00_toDecimal_cabcc_186 : decode cJx40b00_toDecimal_cabcc 186 = .ok (.istore 21, 2) := by decide +kernel
theorem dJx40b00_toDecimal_cabcc_188 : decode cJx40b00_toDecimal_cabcc 188 = .ok (.iload 20, 2) := by decide +kernel
theorem dJx40b00_toDecimal_cabcc_190 : decode cJx40b00_toDecimal_cabcc 190 = .ok (.iconst 2, 1) := by decide +kernel
theorem dJx40b00_toDecimal_cabcc_191 : decode cJx40b00_toDecimal_cabcc 191 = .ok (.ishl, 1) := by decide +kernel
theorem dJx40b00_toDecimal_cabcc_192 : decode cJx40b00_toDecimal_cabcc 192 = .ok (.iload 4, 2) := by decide +kernel
theorem dJx40b00_toDecimal_cabcc_194 : decode cJx40b00_toDecimal_cabcc 194 = .ok (.iadd, 1) := by decide +kernel
theorem dJx40b00_toDecimal_cabcc_195 : decode cJx40b00_toDecimal_cabcc 195 = .ok (.iload 17, 2) := by decide +kernel
theorem dJx40b00_toDecimal_cabcc_197 : decode cJx40b00_toDecimal_cabcc 197 = .ok (.if_icmp .gt 7, 3) := by decide +kernel
theorem dJx40b00_toDecimal_cabcc_200 : decode cJx40b00_toDecimal_cabcc 200 = .ok (.iconst 1, 1) := by decide +kernel
theorem dJx40b00_toDecimal_cabcc_201 : decode cJx40b00_toDecimal_cabcc 201 = .ok (.goto 4, 3) := by decide +kernel
theorem dJx40b00_toDecimal_cabcc_204 : decode cJx40b00_toDecimal_cabcc 204 = .ok (.iconst 0, 1) := by decide +kernel
theorem dJx40b00_toDecimal_cabcc_205 : decode cJx40b00_toDecimal_cabcc 205 = .ok (.istore 22, 2) := by decide +kernel
theorem dJx40b00_toDecimal_cabcc_207 : decode cJx40b00_toDecimal_cabcc 207 = .ok (.iload 21, 2) := by decide +kernel
theorem dJx40b00_toDecimal_cabcc_209 : decode cJx40b00_toDecimal_cabcc 209 = .ok (.iload 22, 2) := by decide +kernel
theorem dJx40b00_toDecimal_cabcc_211 : decode cJx40b00_toDecimal_cabcc 211 = .ok (.if_icmp .eq 22, 3) := by decide +kernel
theorem dJx40b00_toDecimal_cabcc_214 : decode cJx40b00_toDecimal_cabcc 214 = .ok (.aload_n 0, 1) := by decide +kernel
theorem dJx40b00_toDecimal_cabcc_215 : decode cJx40b00_toDecimal_cabcc 215 = .ok (.iload 21, 2) := by decide +kernel
theorem dJx40b00_toDecimal_cabcc_217 : decode cJx40b00_toDecimal_cabcc 217 = .ok (.ifCond .eq 8, 3) := by decide +kernel
theorem dJx40b00_toDecimal_cabcc_220 : decode cJx40b00_toDecimal_cabcc 220 = .ok (.iload 19, 2) := by decide +kernel
theorem dJx40b00_toDecimal_cabcc_222 : decode cJx40b00_toDecimal_cabcc 222 = .ok (.goto 5, 3) := by decide +kernel
theorem dJx40b00_toDecimal_cabcc_225 : decode cJx40b00_toDecimal_cabcc 225 = .ok (.iload 20, 2) := by decide +kernel
theorem dJx40b00_toDecimal_cabcc_227 : decode cJx40b00_toDecimal_cabcc 227 = .ok (.iload 11, 2) := by decide +kernel
theorem dJx40b00_toDecimal_cabcc_229 : decode cJx40b00_toDecimal_cabcc 229 = .ok (.invokevirtual 73, 3) := by decide +kernel
theorem dJx40b00_toDecimal_cabcc_232 : decode cJx40b00_toDecimal_cabcc 232 = .ok (.ireturn, 1) := by decide +kernel
theorem dJx40b00_toDecimal_cabcc_233 : decode cJx40b00_toDecimal_cabcc 233 = .ok (.iload 18, 2) := by decide +kernel
theorem dJx40b00_toDecimal_cabcc_235 : decode cJx40b00_toDecimal_cabcc 235 = .ok (.iconst 1, 1) := by decide +kernel
theorem dJx40b00_toDecimal_cabcc_236 : decode cJx40b00_toDecimal_cabcc 236 = .ok (.iadd, 1) := by decide +kernel
theorem dJx40b00_toDecimal_cabcc_237 : decode cJx40b00_toDecimal_cabcc 237 = .ok (.istore 19, 2) := by decide +kernel
theorem dJx40b00_toDecimal_cabcc_239 : decode cJx40b00_toDecimal_cabcc 239 = .ok (.iload 16, 2) := by decide +kernel
theorem dJx40b00_toDecimal_cabcc_241 : decode cJx40b00_toDecimal_cabcc 241 = .ok (.iload 4, 2) := by decide +kernel
theorem dJx40b00_toDecimal_cabcc_243 : decode cJx40b00_toDecimal_cabcc 243 = .ok (.iadd, 1) := by decide +kernel
theorem dJx40b00_toDecimal_cabcc_244 : decode cJx40b00_toDecimal_cabcc 244 = .ok (.iload 18, 2) := by decide +kernel
theorem dJx40b00_toDecimal_cabcc_246 : decode cJx40b00_toDecimal_cabcc 246 = .ok (.iconst 2, 1) := by decide +kernel
theorem dJx40b00_toDecimal_cabcc_247 : decode cJx40b00_toDecimal_cabcc 247 = .ok (.ishl, 1) := by decide +kernel
theorem dJx40b00_toDecimal_cabcc_248 : decode cJx40b00_toDecimal_cabcc 248 = .ok (.if_icmp .gt 7, 3) := by decide +kernel
theorem dJx40b00_toDecimal_cabcc_251 : decode cJx40b00_toDecimal_cabcc 251 = .ok (.iconst 1, 1) := by decide +kernel
theorem dJx40b00_toDecimal_cabcc_252 : decode cJx40b00_toDecimal_cabcc 252 = .ok (.goto 4, 3) := by decide +kernel
theorem dJx40b00_toDecimal_cabcc_255 : decode cJx40b00_toDecimal_cabcc 255 = .ok (.iconst 0, 1) := by decide +kernel
theorem dJx40b00_toDecimal_cabcc_256 : decode cJx40b00_toDecimal_cabcc 256 = .ok (.istore 20, 2) := by decide +kernel
theorem dJx40b00_toDecimal_cabcc_258 : decode cJx40b00_toDecimal_cabcc 258 = .ok (.iload 19, 2) := by decide +kernel
theorem dJx40b00_toDecimal_cabcc_260 : decode cJx40b00_toDecimal_cabcc 260 = .ok (.iconst 2, 1) := by decide +kernel
theorem dJx40b00_toDecimal_cabcc_261 : decode cJx40b00_toDecimal_cabcc 261 = .ok (.ishl, 1) := by decide +kernel
theorem dJx40b00_toDecimal_cabcc_262 : decode cJx40b00_toDecimal_cabcc 262 = .ok (.iload 4, 2) := by decide +kernel
theorem dJx40b00_toDecimal_cabcc_264 : decode cJx40b00_toDecimal_cabcc 264 = .ok (.iadd, 1) := by decide +kernel
theorem dJx40b00_toDecimal_cabcc_265 : decode cJx40b00_toDecimal_cabcc 265 = .ok (.iload 17, 2) := by decide +kernel
theorem dJx40b00_toDecimal_cabcc_267 : decode cJx40b00_toDecimal_cabcc 267 = .ok (.if_icmp .gt 7, 3) := by decide +kernel
theorem dJx40b00_toDecimal_cabcc_270 : decode cJx40b00_toDecimal_cabcc 270 = .ok (.iconst 1, 1) := by decide +kernel
theorem dJx40b00_toDecimal_cabcc_271 : decode cJx40b00_toDecimal_cabcc 271 = .ok (.goto 4, 3) := by decide +kernel
theorem dJx40b00_toDecimal_cabcc_274 : decode cJx40b00_toDecimal_cabcc 274 = .ok (.iconst 0, 1) := by decide +kernel
theorem dJx40b00_toDecimal_cabcc_275 : decode cJx40b00_toDecimal_cabcc 275 = .ok (.istore 21, 2) := by decide +kernel
theorem dJx40b00_toDecimal_cabcc_277 : decode cJx40b00_toDecimal_cabcc 277 = .ok (.iload 20, 2) := by decide +kernel
theorem dJx40b00_toDecimal_cabcc_279 : decode cJx40b00_toDecimal_cabcc 279 = .ok (.iload 21, 2) := by decide +kernel
theorem dJx40b00_toDecimal_cabcc_281 : decode cJx40b00_toDecimal_cabcc 281 = .ok (.if_icmp .eq 24, 3) := by decide +kernel
theorem dJx40b00_toDecimal_cabcc_284 : decode cJx40b00_toDecimal_cabcc 284 = .ok (.aload_n 0, 1) := by decide +kernel
theorem dJx40b00_toDecimal_cabcc_285 : decode cJx40b00_toDecimal_cabcc 285 = .ok (.iload 20, 2) := by decide +kernel
theorem dJx40b00_toDecimal_cabcc_287 : decode cJx40b00_toDecimal_cabcc 287 = .ok (.ifCond .eq 8, 3) := by decide +kernel
theorem dJx40b00_toDecimal_cabcc_290 : decode cJx40b00_toDecimal_cabcc 290 = .ok (.iload 18, 2) := by decide +kernel
theorem dJx40b00_toDecimal_cabcc_292 : decode cJx40b00_toDecimal_cabcc 292 = .ok (.goto 5, 3) := by decide +kernel
theorem dJx40b00_toDecimal_cabcc_295 : decode cJx40b00_toDecimal_cabcc 295 = .ok (.iload 19, 2) := by decide +kernel
theorem dJx40b00_toDecimal_cabcc_297 : decode cJx40b00_toDecimal_cabcc 297 = .ok (.iload 11, 2) := by decide +kernel
theorem dJx40b00_toDecimal_cabcc_299 : decode cJx40b00_toDecimal_cabcc 299 = .ok (.iload_n 3, 1) := by decide +kernel
theorem dJx40b00_toDecimal_cabcc_300 : decode cJx40b00_toDecimal_cabcc 300 = .ok (.iadd, 1) := by decide +kernel
theorem dJx40b00_toDecimal_cabcc_301 : decode cJx40b00_toDecimal_cabcc 301 = .ok (.invokevirtual 73, 3) := by decide +kernel
theorem dJx40b00_toDecimal_cabcc_304 : decode cJx40b00_toDecimal_cabcc 304 = .ok (.ireturn, 1) := by decide +kernel
theorem dJx40b00_toDecimal_cabcc_305 : decode cJx40b00_toDecimal_cabcc 305 = .ok (.iload 15, 2) := by decide +kernel
theorem dJx40b00_toDecimal_cabcc_307 : decode cJx40b00_toDecimal_cabcc 307 = .ok (.iload 18, 2) := by decide +kernel
theorem dJx40b00_toDecimal_cabcc_309 : decode cJx40b00_toDecimal_cabcc 309 = .ok (.iload 19, 2) := by decide +kernel
theorem dJx40b00_toDecimal_cabcc_311 : decode cJx40b00_toDecimal_cabcc 311 = .ok (.iadd, 1) := by decide +kernel
theorem dJx40b00_toDecimal_cabcc_312 : decode cJx40b00_toDecimal_cabcc 312 = .ok (.iconst 1, 1) := by decide +kernel
theorem dJx40b00_toDecimal_cabcc_313 : decode cJx40b00_toDecimal_cabcc 313 = .ok (.ishl, 1) := by decide +kernel
theorem dJx40b00_toDecimal_cabcc_314 : decode cJx40b00_toDecimal_cabcc 314 = .ok (.isub, 1) := by decide +kernel
theorem dJx40b00_toDecimal_cabcc_315 : decode cJx40b00_toDecimal_cabcc 315 = .ok (.istore 22, 2) := by decide +kernel
theorem dJx40b00_toDecimal_cabcc_317 : decode cJx40b00_toDecimal_cabcc 317 = .ok (.aload_n 0, 1) := by decide +kernel
theorem dJx40b00_toDecimal_cabcc_318 : decode cJx40b00_toDecimal_cabcc 318 = .ok (.iload 22, 2) := by decide +kernel
theorem dJx40b00_toDecimal_cabcc_320 : decode cJx40b00_toDecimal_cabcc 320 = .ok (.ifCond .lt 15, 3) := by decide +kernel
theorem dJx40b00_toDecimal_cabcc_323 : decode cJx40b00_toDecimal_cabcc 323 = .ok (.iload 22, 2) := by decide +kernel
theorem dJx40b00_toDecimal_cabcc_325 : decode cJx40b00_toDecimal_cabcc 325 = .ok (.ifCond .ne 15, 3) := by decide +kernel
theorem dJx40b00_toDecimal_cabcc_328 : decode cJx40b00_toDecimal_cabcc 328 = .ok (.iload 18, 2) := by decide +kernel
theorem dJx40b00_toDecimal_cabcc_330 : decode cJx40b00_toDecimal_cabcc 330 = .ok (.iconst 1, 1) := by decide +kernel
theorem dJx40b00_toDecimal_cabcc_331 : decode cJx40b00_toDecimal_cabcc 331 = .ok (.iand, 1) := by decide +kernel
theorem dJx40b00_toDecimal_cabcc_332 : decode cJx40b00_toDecimal_cabcc 332 = .ok (.ifCond .ne 8, 3) := by decide +kernel
theorem dJx40b00_toDecimal_cabcc_335 : decode cJx40b00_toDecimal_cabcc 335 = .ok (.iload 18, 2) := by decide +kernel
theorem dJx40b00_toDecimal_cabcc_337 : decode cJx40b00_toDecimal_cabcc 337 = .ok (.goto 5, 3) := by decide +kernel
theorem dJx40b00_toDecimal_cabcc_340 : decode cJx40b00_toDecimal_cabcc 340 = .ok (.iload 19, 2) := by decide +kernel
theorem dJx40b00_toDecimal_cabcc_342 : decode cJx40b00_toDecimal_cabcc 342 = .ok (.iload 11, 2) := by decide +kernel
theorem dJx40b00_toDecimal_cabcc_344 : decode cJx40b00_toDecimal_cabcc 344 = .ok (.iload_n 3, 1) := by decide +kernel
theorem dJx40b00_toDecimal_cabcc_345 : decode cJx40b00_toDecimal_cabcc 345 = .ok (.iadd, 1) := by decide +kernel
theorem dJx40b00_toDecimal_cabcc_346 : decode cJx40b00_toDecimal_cabcc 346 = .ok (.invokevirtual 73, 3) := by decide +kernel
theorem dJx40b00_toDecimal_cabcc_349 : decode cJx40b00_toDecimal_cabcc 349 = .ok (.ireturn, 1) := by decide +kernel
theorem dJx40b00_rop_74951_0 : decode cJx40b00_rop_74951 0 = .ok (.lload_n 0, 1) := by decide +kernel
theorem dJx40b00_rop_74951_1 : decode cJx40b00_rop_74951 1 = .ok (.lload_n 2, 1) := by decide +kernel
theorem dJx40b00_rop_74951_2 : decode cJx40b00_rop_74951 2 = .ok (.invokestatic 104, 3) := by decide +kernel
theorem dJx40b00_rop_74951_5 : decode cJx40b00_rop_74951 5 = .ok (.lstore 4, 2) := by decide +kernel
theorem dJx40b00_rop_74951_7 : decode cJx40b00_rop_74951 7 = .ok (.lload 4, 2) := by decide +kernel
theorem dJx40b00_rop_74951_9 : decode cJx40b00_rop_74951 9 = .ok (.bipush 31, 2) := by decide +kernel
theorem dJx40b00_rop_74951_11 : decode cJx40b00_rop_74951 11 = .ok (.lushr, 1) := by decide +kernel
theorem dJx40b00_rop_74951_12 : decode cJx40b00_rop_74951 12 = .ok (.lstore 6, 2) := by decide +kernel
theorem dJx40b00_rop_74951_14 : decode cJx40b00_rop_74951 14 = .ok (.lload 6, 2) := by decide +kernel
theorem dJx40b00_rop_74951_16 : decode cJx40b00_rop_74951 16 = .ok (.lload 4, 2) := by decide +kernel
theorem dJx40b00_rop_74951_18 : decode cJx40b00_rop_74951 18 = .ok (.ldc2_w 110, 3) := by decide +kernel
theorem dJx40b00_rop_74951_21 : decode cJx40b00_rop_74951 21 = .ok (.land, 1) := by decide +kernel
theorem dJx40b00_rop_74951_22 : decode cJx40b00_rop_74951 22 = .ok (.ldc2_w 110, 3) := by decide +kernel
theorem dJx40b00_rop_74951_25 : decode cJx40b00_rop_74951 25 = .ok (.ladd, 1) := by decide +kernel
theorem dJx40b00_rop_74951_26 : decode cJx40b00_rop_74951 26 = .ok (.bipush 32, 2) := by decide +kernel
theorem dJx40b00_rop_74951_28 : decode cJx40b00_rop_74951 28 = .ok (.lushr, 1) := by decide +kernel
theorem dJx40b00_rop_74951_29 : decode cJx40b00_rop_74951 29 = .ok (.lor, 1) := by decide +kernel
theorem dJx40b00_rop_74951_30 : decode cJx40b00_rop_74951 30 = .ok (.l2i, 1) := by decide +kernel
theorem dJx40b00_rop_74951_31 : decode cJx40b00_rop_74951 31 = .ok (.ireturn, 1) := by decide +kernel
theorem dJx40b00_toChars_7cf53_0 : decode cJx40b00_toChars_7cf53 0 = .ok (.bipush 32, 2) := by decide +kernel
theorem dJx40b00_toChars_7cf53_2 : decode cJx40b00_toChars_7cf53 2 = .ok (.iload_n 1, 1) := by decide +kernel
theorem dJx40b00_toChars_7cf53_3 : decode cJx40b00_toChars_7cf53 3 = .ok (.invokestatic 114, 3) := by decide +kernel
theorem dJx40b00_toChars_7cf53_6 : decode cJx40b00_toChars_7cf53 6 = .ok (.isub, 1) := by decide +kernel
theorem dJx40b00_toChars_7cf53_7 : decode cJx40b00_toChars_7cf53 7 = .ok (.invokestatic 82, 3) := by decide +kernel
theorem dJx40b00_toChars_7cf53_10 : decode cJx40b00_toChars_7cf53 10 = .ok (.istore_n 3, 1) := by decide +kernel
theorem dJx40b00_toChars_7cf53_11 : decode cJx40b00_toChars_7cf53 11 = .ok (.iload_n 1, 1) := by decide +kernel
theorem dJx40b00_toChars_7cf53_12 : decode cJx40b00_toChars_7cf53 12 = .ok (.i2l, 1) := by decide +kernel
theorem dJx40b00_toChars_7cf53_13 : decode cJx40b00_toChars_7cf53 13 = .ok (.iload_n 3, 1) := by decide +kernel
theorem dJx40b00_toChars_7cf53_14 : decode cJx40b00_toChars_7cf53 14 = .ok (.invokestatic 117, 3) := by decide +kernel
theorem dJx40b00_toChars_7cf53_17 : decode cJx40b00_toChars_7cf53 17 = .ok (.lcmp, 1) := by decide +kernel
theorem dJx40b00_toChars_7cf53_18 : decode cJx40b00_toChars_7cf53 18 = .ok (.ifCond .lt 6, 3) := by decide +kernel
theorem dJx40b00_toChars_7cf53_21 : decode cJx40b00_toChars_7cf53 21 = .ok (.iinc 3 1, 3) := by decide +kernel
theorem dJx40b00_toChars_7cf53_24 : decode cJx40b00_toChars_7cf53 24 = .ok (.iload_n 1, 1) := by decide +kernel
theorem dJx40b00_toChars_7cf53_25 : decode cJx40b00_toChars_7cf53 25 = .ok (.bipush 9, 2) := by decide +kernel
theorem dJx40b00_toChars_7cf53_27 : decode cJx40b00_toChars_7cf53 27 = .ok (.iload_n 3, 1) := by decide +kernel
theorem dJx40b00_toChars_7cf53_28 : decode cJx40b00_toChars_7cf53 28 = .ok (.isub, 1) := by decide +kernel
theorem dJx40b00_toChars_7cf53_29 : decode cJx40b00_toChars_7cf53 29 = .ok (.invokestatic 117, 3) := by decide +kernel
theorem dJx40b00_toChars_7cf53_32 : decode cJx40b00_toChars_7cf53 32 = .ok (.l2i, 1) := by decide +kernel
theorem dJx40b00_toChars_7cf53_33 : decode cJx40b00_toChars_7cf53 33 = .ok (.imul, 1) := by decide +kernel
theorem dJx40b00_toChars_7cf53_34 : decode cJx40b00_toChars_7cf53 34 = .ok (.istore_n 1, 1) := by decide +kernel
theorem dJx40b00_toChars_7cf53_35 : decode cJx40b00_toChars_7cf53 35 = .ok (.iload_n 2, 1) := by decide +kernel
theorem dJx40b00_toChars_7cf53_36 : decode cJx40b00_toChars_7cf53 36 = .ok (.iload_n 3, 1) := by decide +kernel
theorem dJx40b00_toChars_7cf53_37 : decode cJx40b00_toChars_7cf53 37 = .ok (.iadd, 1) := by decide +kernel
theorem dJx40b00_toChars_7cf53_38 : decode cJx40b00_toChars_7cf53 38 = .ok (.istore_n 2, 1) := by decide +kernel
theorem dJx40b00_toChars_7cf53_39 : decode cJx40b00_toChars_7cf53 39 = .ok (.iload_n 1, 1) := by decide +kernel
theorem dJx40b00_toChars_7cf53_40 : decode cJx40b00_toChars_7cf53 40 = .ok (.i2l, 1) := by decide +kernel
theorem dJx40b00_toChars_7cf53_41 : decode cJx40b00_toChars_7cf53 41 = .ok (.ldc2_w 120, 3) := by decide +kernel
theorem dJx40b00_toChars_7cf53_44 : decode cJx40b00_toChars_7cf53 44 = .ok (.lmul, 1) := by decide +kernel
theorem dJx40b00_toChars_7cf53_45 : decode cJx40b00_toChars_7cf53 45 = .ok (.bipush 57, 2) := by decide +kernel
theorem dJx40b00_toChars_7cf53_47 : decode cJx40b00_toChars_7cf53 47 = .ok (.lushr, 1) := by decide +kernel
theorem dJx40b00_toChars_7cf53_48 : decode cJx40b00_toChars_7cf53 48 = .ok (.l2i, 1) := by decide +kernel
theorem dJx40b00_toChars_7cf53_49 : decode cJx40b00_toChars_7cf53 49 = .ok (.istore 4, 2) := by decide +kernel
theorem dJx40b00_toChars_7cf53_51 : decode cJx40b00_toChars_7cf53 51 = .ok (.iload_n 1, 1) := by decide +kernel
theorem dJx40b00_toChars_7cf53_52 : decode cJx40b00_toChars_7cf53 52 = .ok (.ldc 122, 2) := by decide +kernel
theorem dJx40b00_toChars_7cf53_54 : decode cJx40b00_toChars_7cf53 54 = .ok (.iload 4, 2) := by decide +kernel
theorem dJx40b00_toChars_7cf53_56 : decode cJx40b00_toChars_7cf53 56 = .ok (.imul, 1) := by decide +kernel
theorem dJx40b00_toChars_7cf53_57 : decode cJx40b00_toChars_7cf53 57 = .ok (.isub, 1) := by decide +kernel
theorem dJx40b00_toChars_7cf53_58 : decode cJx40b00_toChars_7cf53 58 = .ok (.istore 5, 2) := by decide +kernel
theorem dJx40b00_toChars_7cf53_60 : decode cJx40b00_toChars_7cf53 60 = .ok (.iconst 0, 1) := by decide +kernel
theorem dJx40b00_toChars_7cf53_61 : decode cJx40b00_toChars_7cf53 61 = .ok (.iload_n 2, 1) := by decide +kernel
theorem dJx40b00_toChars_7cf53_62 : decode cJx40b00_toChars_7cf53 62 = .ok (.if_icmp .ge 19, 3) := by decide +kernel
theorem dJx40b00_toChars_7cf53_65 : decode cJx40b00_toChars_7cf53 65 = .ok (.iload_n 2, 1) := by decide +kernel
theorem dJx40b00_toChars_7cf53_66 : decode cJx40b00_toChars_7cf53 66 = .ok (.bipush 7, 2) := by decide +kernel
theorem dJx40b00_toChars_7cf53_68 : decode cJx40b00_toChars_7cf53 68 = .ok (.if_icmp .gt 13, 3) := by decide +kernel
theorem dJx40b00_toChars_7cf53_71 : decode cJx40b00_toChars_7cf53 71 = .ok (.aload_n 0, 1) := by decide +kernel
theorem dJx40b00_toChars_7cf53_72 : decode cJx40b00_toChars_7cf53 72 = .ok (.iload 4, 2) := by decide +kernel
theorem dJx40b00_toChars_7cf53_74 : decode cJx40b00_toChars_7cf53 74 = .ok (.iload 5, 2) := by decide +kernel
theorem dJx40b00_toChars_7cf53_76 : decode cJx40b00_toChars_7cf53 76 = .ok (.iload_n 2, 1) := by decide +kernel
theorem dJx40b00_toChars_7cf53_77 : decode cJx40b00_toChars_7cf53 77 = .ok (.invokevirtual 123, 3) := by decide +kernel
theorem dJx40b00_toChars_7cf53_80 : decode cJx40b00_toChars_7cf53 80 = .ok (.ireturn, 1) := by decide +kernel
theorem dJx40b00_toChars_7cf53_81 : decode cJx40b00_toChars_7cf53 81 = .ok (.bipush (-3), 2) := by decide +kernel
theorem dJx40b00_toChars_7cf53_83 : decode cJx40b00_toChars_7cf53 83 = .ok (.iload_n 2, 1) := by decide +kernel
theorem dJx40b00_toChars_7cf53_84 : decode cJx40b00_toChars_7cf53 84 = .ok (.if_icmp .ge 17, 3) := by decide +kernel
theorem dJx40b00_toChars_7cf53_87 : decode cJx40b00_toChars_7cf53 87 = .ok (.iload_n 2, 1) := by decide +kernel
theorem dJx40b00_toChars_7cf53_88 : decode cJx40b00_toChars_7cf53 88 = .ok (.ifCond .gt 13, 3) := by decide +kernel
theorem dJx40b00_toChars_7cf53_91 : decode cJx40b00_toChars_7cf53 91 = .ok (.aload_n 0, 1) := by decide +kernel
theorem dJx40b00_toChars_7cf53_92 : decode cJx40b00_toChars_7cf53 92 = .ok (.iload 4, 2) := by decide +kernel
theorem dJx40b00_toChars_7cf53_94 : decode cJx40b00_toChars_7cf53 94 = .ok (.iload 5, 2) := by decide +kernel
theorem dJx40b00_toChars_7cf53_96 : decode cJx40b00_toChars_7cf53 96 = .ok (.iload_n 2, 1) := by decide +kernel
theorem dJx40b00_toChars_7cf53_97 : decode cJx40b00_toChars_7cf53 97 = .ok (.invokevirtual 126, 3) := by decide +kernel
theorem dJx40b00_toChars_7cf53_100 : decode cJx40b00_toChars_7cf53 100 = .ok (.ireturn, 1) := by decide +kernel
theorem dJx40b00_toChars_7cf53_101 : decode cJx40b00_toChars_7cf53 101 = .ok (.aload_n 0, 1) := by decide +kernel
theorem dJx40b00_toChars_7cf53_102 : decode cJx40b00_toChars_7cf53 102 = .ok (.iload 4, 2) := by decide +kernel
theorem dJx40b00_toChars_7cf53_104 : decode cJx40b00_toChars_7cf53 104 = .ok (.iload 5, 2) := by decide +kernel
theorem dJx40b00_toChars_7cf53_106 : decode cJx40b00_toChars_7cf53 106 = .ok (.iload_n 2, 1) := by decide +kernel
theorem dJx40b00_toChars_7cf53_107 : decode cJx40b00_toChars_7cf53 107 = .ok (.invokevirtual 129, 3) := by decide +kernel
theorem dJx40b00_toChars_7cf53_110 : decode cJx40b00_toChars_7cf53 110 = .ok (.ireturn, 1) := by decide +kernel
theorem dJx40b00_toChars1_cabcc_0 : decode cJx40b00_toChars1_cabcc 0 = .ok (.aload_n 0, 1) := by decide +kernel
theorem dJx40b00_toChars1_cabcc_1 : decode cJx40b00_toChars1_cabcc 1 = .ok (.iload_n 1, 1) := by decide +kernel
theorem dJx40b00_toChars1_cabcc_2 : decode cJx40b00_toChars1_cabcc 2 = .ok (.invokevirtual 132, 3) := by decide +kernel
theorem dJx40b00_toChars1_cabcc_5 : decode cJx40b00_toChars1_cabcc 5 = .ok (.aload_n 0, 1) := by decide +kernel
theorem dJx40b00_toChars1_cabcc_6 : decode cJx40b00_toChars1_cabcc 6 = .ok (.iload_n 2, 1) := by decide +kernel
theorem dJx40b00_toChars1_cabcc_7 : decode cJx40b00_toChars1_cabcc 7 = .ok (.invokevirtual 135, 3) := by decide +kernel
theorem dJx40b00_toChars1_cabcc_10 : decode cJx40b00_toChars1_cabcc 10 = .ok (.istore 4, 2) := by decide +kernel
theorem dJx40b00_toChars1_cabcc_12 : decode cJx40b00_toChars1_cabcc 12 = .ok (.iconst 1, 1) := by decide +kernel
theorem dJx40b00_toChars1_cabcc_13 : decode cJx40b00_toChars1_cabcc 13 = .ok (.istore 6, 2) := by decide +kernel
theorem dJx40b00_toChars1_cabcc_15 : decode cJx40b00_toChars1_cabcc 15 = .ok (.iload 6, 2) := by decide +kernel
theorem dJx40b00_toChars1_cabcc_17 : decode cJx40b00_toChars1_cabcc 17 = .ok (.iload_n 3, 1) := by decide +kernel
theorem dJx40b00_toChars1_cabcc_18 : decode cJx40b00_toChars1_cabcc 18 = .ok (.if_icmp .ge 32, 3) := by decide +kernel
theorem dJx40b00_toChars1_cabcc_21 : decode cJx40b00_toChars1_cabcc 21 = .ok (.bipush 10, 2) := by decide +kernel
theorem dJx40b00_toChars1_cabcc_23 : decode cJx40b00_toChars1_cabcc 23 = .ok (.iload 4, 2) := by decide +kernel
theorem dJx40b00_toChars1_cabcc_25 : decode cJx40b00_toChars1_cabcc 25 = .ok (.imul, 1) := by decide +kernel
theorem dJx40b00_toChars1_cabcc_26 : decode cJx40b00_toChars1_cabcc 26 = .ok (.istore 5, 2) := by decide +kernel
theorem dJx40b00_toChars1_cabcc_28 : decode cJx40b00_toChars1_cabcc 28 = .ok (.aload_n 0, 1) := by decide +kernel
theorem dJx40b00_toChars1_cabcc_29 : decode cJx40b00_toChars1_cabcc 29 = .ok (.iload 5, 2) := by decide +kernel
theorem dJx40b00_toChars1_cabcc_31 : decode cJx40b00_toChars1_cabcc 31 = .ok (.bipush 28, 2) := by decide +kernel
theorem dJx40b00_toChars1_cabcc_33 : decode cJx40b00_toChars1_cabcc 33 = .ok (.iushr, 1) := by decide +kernel
theorem dJx40b00_toChars1_cabcc_34 : decode cJx40b00_toChars1_cabcc 34 = .ok (.invokevirtual 132, 3) := by decide +kernel
theorem dJx40b00_toChars1_cabcc_37 : decode cJx40b00_toChars1_cabcc 37 = .ok (.iload 5, 2) := by decide +kernel
theorem dJx40b00_toChars1_cabcc_39 : decode cJx40b00_toChars1_cabcc 39 = .ok (.ldc 138, 2) := by decide +kernel
theorem dJx40b00_toChars1_cabcc_41 : decode cJx40b00_toChars1_cabcc 41 = .ok (.iand, 1) := by decide +kernel
theorem dJx40b00_toChars1_cabcc_42 : decode cJx40b00_toChars1_cabcc 42 = .ok (.istore 4, 2) := by decide +kernel
theorem dJx40b00_toChars1_cabcc_44 : decode cJx40b00_toChars1_cabcc 44 = .ok (.iinc 6 1, 3) := by decide +kernel
theorem dJx40b00_toChars1_cabcc_47 : decode cJx40b00_toChars1_cabcc 47 = .ok (.goto (-32), 3) := by decide +kernel
theorem dJx40b00_toChars1_cabcc_50 : decode cJx40b00_toChars1_cabcc 50 = .ok (.aload_n 0, 1) := by decide +kernel
theorem dJx40b00_toChars1_cabcc_51 : decode cJx40b00_toChars1_cabcc 51 = .ok (.bipush 46, 2) := by decide +kernel
theorem dJx40b00_toChars1_cabcc_53 : decode cJx40b00_toChars1_cabcc 53 = .ok (.invokevirtual 69, 3) := by decide +kernel
theorem dJx40b00_toChars1_cabcc_56 : decode cJx40b00_toChars1_cabcc 56 = .ok (.iload 6, 2) := by decide +kernel
theorem dJx40b00_toChars1_cabcc_58 : decode cJx40b00_toChars1_cabcc 58 = .ok (.bipush 8, 2) := by decide +kernel
theorem dJx40b00_toChars1_cabcc_60 : decode cJx40b00_toChars1_cabcc 60 = .ok (.if_icmp .gt 32, 3) := by decide +kernel
theorem dJx40b00_toChars1_cabcc_63 : decode cJx40b00_toChars1_cabcc 63 = .ok (.bipush 10, 2) := by decide +kernel
theorem dJx40b00_toChars1_cabcc_65 : decode cJx40b00_toChars1_cabcc 65 = .ok (.iload 4, 2) := by decide +kernel
theorem dJx40b00_toChars1_cabcc_67 : decode cJx40b00_toChars1_cabcc 67 = .ok (.imul, 1) := by decide +kernel
theorem dJx40b00_toChars1_cabcc_68 : decode cJx40b00_toChars1_cabcc 68 = .ok (.istore 5, 2) := by decide +kernel
theorem dJx40b00_toChars1_cabcc_70 : decode cJx40b00_toChars1_cabcc 70 = .ok (.aload_n 0, 1) := by decide +kernel
theorem dJx40b00_toChars1_cabcc_71 : decode cJx40b00_toChars1_cabcc 71 = .ok (.iload 5, 2) := by decide +kernel
theorem dJx40b00_toChars1_cabcc_73 : decode cJx40b00_toChars1_cabcc 73 = .ok (.bipush 28, 2) := by decide +kernel
theorem dJx40b00_toChars1_cabcc_75 : decode cJx40b00_toChars1_cabcc 75 = .ok (.iushr, 1) := by decide +kernel
theorem dJx40b00_toChars1_cabcc_76 : decode cJx40b00_toChars1_cabcc 76 = .ok (.invokevirtual 132, 3) := by decide +kernel
theorem dJx40b00_toChars1_cabcc_79 : decode cJx40b00_toChars1_cabcc 79 = .ok (.iload 5, 2) := by decide +kernel
theorem dJx40b00_toChars1_cabcc_81 : decode cJx40b00_toChars1_cabcc 81 = .ok (.ldc 138, 2) := by decide +kernel
theorem dJx40b00_toChars1_cabcc_83 : decode cJx40b00_toChars1_cabcc 83 = .ok (.iand, 1) := by decide +kernel
theorem dJx40b00_toChars1_cabcc_84 : decode cJx40b00_toChars1_cabcc 84 = .ok (.istore 4, 2) := by decide +kernel
theorem dJx40b00_toChars1_cabcc_86 : decode cJx40b00_toChars1_cabcc 86 = .ok (.iinc 6 1, 3) := by decide +kernel
theorem dJx40b00_toChars1_cabcc_89 : decode cJx40b00_toChars1_cabcc 89 = .ok (.goto (-33), 3) := by decide +kernel
theorem dJx40b00_toChars1_cabcc_92 : decode cJx40b00_toChars1_cabcc 92 = .ok (.aload_n 0, 1) := by decide +kernel
theorem dJx40b00_toChars1_cabcc_93 : decode cJx40b00_toChars1_cabcc 93 = .ok (.invokevirtual 139, 3) := by decide +kernel
theorem dJx40b00_toChars1_cabcc_96 : decode cJx40b00_toChars1_cabcc 96 = .ok (.iconst 0, 1) := by decide +kernel
theorem dJx40b00_toChars1_cabcc_97 : decode cJx40b00_toChars1_cabcc 97 = .ok (.ireturn, 1) := by decide +kernel
theorem dJx40b00_toChars2_cabcc_0 : decode cJx40b00_toChars2_cabcc 0 = .ok (.aload_n 0, 1) := by decide +kernel
theorem dJx40b00_toChars2_cabcc_1 : decode cJx40b00_toChars2_cabcc 1 = .ok (.iconst 0, 1) := by decide +kernel
theorem dJx40b00_toChars2_cabcc_2 : decode cJx40b00_toChars2_cabcc 2 = .ok (.invokevirtual 132, 3) := by decide +kernel
theorem dJx40b00_toChars2_cabcc_5 : decode cJx40b00_toChars2_cabcc 5 = .ok (.aload_n 0, 1) := by decide +kernel
theorem dJx40b00_toChars2_cabcc_6 : decode cJx40b00_toChars2_cabcc 6 = .ok (.bipush 46, 2) := by decide +kernel
theorem dJx40b00_toChars2_cabcc_8 : decode cJx40b00_toChars2_cabcc 8 = .ok (.invokevirtual 69, 3) := by decide +kernel
theorem dJx40b00_toChars2_cabcc_11 : decode cJx40b00_toChars2_cabcc 11 = .ok (.iload_n 3, 1) := by decide +kernel
theorem dJx40b00_toChars2_cabcc_12 : decode cJx40b00_toChars2_cabcc 12 = .ok (.ifCond .ge 14, 3) := by decide +kernel
theorem dJx40b00_toChars2_cabcc_15 : decode cJx40b00_toChars2_cabcc 15 = .ok (.aload_n 0, 1) := by decide +kernel
theorem dJx40b00_toChars2_cabcc_16 : decode cJx40b00_toChars2_cabcc 16 = .ok (.iconst 0, 1) := by decide +kernel
theorem dJx40b00_toChars2_cabcc_17 : decode cJx40b00_toChars2_cabcc 17 = .ok (.invokevirtual 132, 3) := by decide +kernel
theorem dJx40b00_toChars2_cabcc_20 : decode cJx40b00_toChars2_cabcc 20 = .ok (.iinc 3 1, 3) := by decide +kernel
theorem dJx40b00_toChars2_cabcc_23 : decode cJx40b00_toChars2_cabcc 23 = .ok (.goto (-12), 3) := by decide +kernel
theorem dJx40b00_toChars2_cabcc_26 : decode cJx40b00_toChars2_cabcc 26 = .ok (.aload_n 0, 1) := by decide +kernel
theorem dJx40b00_toChars2_cabcc_27 : decode cJx40b00_toChars2_cabcc 27 = .ok (.iload_n 1, 1) := by decide +kernel
theorem dJx40b00_toChars2_cabcc_28 : decode cJx40b00_toChars2_cabcc 28 = .ok (.invokevirtual 132, 3) := by decide +kernel
theorem dJx40b00_toChars2_cabcc_31 : decode cJx40b00_toChars2_cabcc 31 = .ok (.aload_n 0, 1) := by decide +kernel
theorem dJx40b00_toChars2_cabcc_32 : decode cJx40b00_toChars2_cabcc 32 = .ok (.iload_n 2, 1) := by decide +kernel
theorem dJx40b00_toChars2_cabcc_33 : decode cJx40b00_toChars2_cabcc 33 = .ok (.invokevirtual 142, 3) := by decide +kernel
theorem dJx40b00_toChars2_cabcc_36 : decode cJx40b00_toChars2_cabcc 36 = .ok (.aload_n 0, 1) := by decide +kernel
theorem dJx40b00_toChars2_cabcc_37 : decode cJx40b00_toChars2_cabcc 37 = .ok (.invokevirtual 139, 3) := by decide +kernel
theorem dJx40b00_toChars2_cabcc_40 : decode cJx40b00_toChars2_cabcc 40 = .ok (.iconst 0, 1) := by decide +kernel
theorem dJx40b00_toChars2_cabcc_41 : decode cJx40b00_toChars2_cabcc 41 = .ok (.ireturn, 1) := by decide +kernel
theorem dJx40b00_toChars3_cabcc_0 : decode cJx40b00_toChars3_cabcc 0 = .ok (.aload_n 0, 1) := by decide +kernel
theorem dJx40b00_toChars3_cabcc_1 : decode cJx40b00_toChars3_cabcc 1 = .ok (.iload_n 1, 1) := by decide +kernel
theorem dJx40b00_toChars3_cabcc_2 : decode cJx40b00_toChars3_cabcc 2 = .ok (.invokevirtual 132, 3) := by decide +kernel
theorem dJx40b00_toChars3_cabcc_5 : decode cJx40b00_toChars3_cabcc 5 = .ok (.aload_n 0, 1) := by decide +kernel
theorem dJx40b00_toChars3_cabcc_6 : decode cJx40b00_toChars3_cabcc 6 = .ok (.bipush 46, 2) := by decide +kernel
theorem dJx40b00_toChars3_cabcc_8 : decode cJx40b00_toChars3_cabcc 8 = .ok (.invokevirtual 69, 3) := by decide +kernel
theorem dJx40b00_toChars3_cabcc_11 : decode cJx40b00_toChars3_cabcc 11 = .ok (.aload_n 0, 1) := by decide +kernel
theorem dJx40b00_toChars3_cabcc_12 : decode cJx40b00_toChars3_cabcc 12 = .ok (.iload_n 2, 1) := by decide +kernel
theorem dJx40b00_toChars3_cabcc_13 : decode cJx40b00_toChars3_cabcc 13 = .ok (.invokevirtual 142, 3) := by decide +kernel
theorem dJx40b00_toChars3_cabcc_16 : decode cJx40b00_toChars3_cabcc 16 = .ok (.aload_n 0, 1) := by decide +kernel
theorem dJx40b00_toChars3_cabcc_17 : decode cJx40b00_toChars3_cabcc 17 = .ok (.invokevirtual 139, 3) := by decide +kernel
theorem dJx40b00_toChars3_cabcc_20 : decode cJx40b00_toChars3_cabcc 20 = .ok (.aload_n 0, 1) := by decide +kernel
theorem dJx40b00_toChars3_cabcc_21 : decode cJx40b00_toChars3_cabcc 21 = .ok (.iload_n 3, 1) := by decide +kernel
theorem dJx40b00_toChars3_cabcc_22 : decode cJx40b00_toChars3_cabcc 22 = .ok (.iconst 1, 1) := by decide +kernel
theorem dJx40b00_toChars3_cabcc_23 : decode cJx40b00_toChars3_cabcc 23 = .ok (.isub, 1) := by decide +kernel
theorem dJx40b00_toChars3_cabcc_24 : decode cJx40b00_toChars3_cabcc 24 = .ok (.invokevirtual 145, 3) := by decide +kernel
theorem dJx40b00_toChars3_cabcc_27 : decode cJx40b00_toChars3_cabcc 27 = .ok (.iconst 0, 1) := by decide +kernel
theorem dJx40b00_toChars3_cabcc_28 : decode cJx40b00_toChars3_cabcc 28 = .ok (.ireturn, 1) := by decide +kernel
theorem dJx40b00_append8Digits_d00df_0 : decode cJx40b00_append8Digits_d00df 0 = .ok (.aload_n 0, 1) := by decide +kernel
theorem dJx40b00_append8Digits_d00df_1 : decode cJx40b00_append8Digits_d00df 1 = .ok (.iload_n 1, 1) := by decide +kernel
theorem dJx40b00_append8Digits_d00df_2 : decode cJx40b00_append8Digits_d00df 2 = .ok (.invokevirtual 135, 3) := by decide +kernel
theorem dJx40b00_append8Digits_d00df_5 : decode cJx40b00_append8Digits_d00df 5 = .ok (.istore_n 2, 1) := by decide +kernel
theorem dJx40b00_append8Digits_d00df_6 : decode cJx40b00_append8Digits_d00df 6 = .ok (.iconst 0, 1) := by decide +kernel
theorem dJx40b00_append8Digits_d00df_7 : decode cJx40b00_append8Digits_d00df 7 = .ok (.istore_n 3, 1) := by decide +kernel
theorem dJx40b00_append8Digits_d00df_8 : decode cJx40b00_append8Digits_d00df 8 = .ok (.iload_n 3, 1) := by decide +kernel
theorem dJx40b00_append8Digits_d00df_9 : decode cJx40b00_append8Digits_d00df 9 = .ok (.bipush 8, 2) := by decide +kernel
theorem dJx40b00_append8Digits_d00df_11 : decode cJx40b00_append8Digits_d00df 11 = .ok (.if_icmp .ge 30, 3) := by decide +kernel
theorem dJx40b00_append8Digits_d00df_14 : decode cJx40b00_append8Digits_d00df 14 = .ok (.bipush 10, 2) := by decide +kernel
theorem dJx40b00_append8Digits_d00df_16 : decode cJx40b00_append8Digits_d00df 16 = .ok (.iload_n 2, 1) := by decide +kernel
theorem dJx40b00_append8Digits_d00df_17 : decode cJx40b00_append8Digits_d00df 17 = .ok (.imul, 1) := by decide +kernel
theorem dJx40b00_append8Digits_d00df_18 : decode cJx40b00_append8Digits_d00df 18 = .ok (.istore 4, 2) := by decide +kernel
theorem dJx40b00_append8Digits_d00df_20 : decode cJx40b00_append8Digits_d00df 20 = .ok (.aload_n 0, 1) := by decide +kernel
theorem dJx40b00_append8Digits_d00df_21 : decode cJx40b00_append8Digits_d00df 21 = .ok (.iload 4, 2) := by decide +kernel
theorem dJx40b00_append8Digits_d00df_23 : decode cJx40b00_append8Digits_d00df 23 = .ok (.bipush 28, 2) := by decide +kernel
theorem dJx40b00_append8Digits_d00df_25 : decode cJx40b00_append8Digits_d00df 25 = .ok (.iushr, 1) := by decide +kernel
theorem dJx40b00_append8Digits_d00df_26 : decode cJx40b00_append8Digits_d00df 26 = .ok (.invokevirtual 132, 3) := by decide +kernel
theorem dJx40b00_append8Digits_d00df_29 : decode cJx40b00_append8Digits_d00df 29 = .ok (.iload 4, 2) := by decide +kernel
theorem dJx40b00_append8Digits_d00df_31 : decode cJx40b00_append8Digits_d00df 31 = .ok (.ldc 138, 2) := by decide +kernel
theorem dJx40b00_append8Digits_d00df_33 : decode cJx40b00_append8Digits_d00df 33 = .ok (.iand, 1) := by decide +kernel
theorem dJx40b00_append8Digits_d00df_34 : decode cJx40b00_append8Digits_d00df 34 = .ok (.istore_n 2, 1) := by decide +kernel
theorem dJx40b00_append8Digits_d00df_35 : decode cJx40b00_append8Digits_d00df 35 = .ok (.iinc 3 1, 3) := by decide +kernel
theorem dJx40b00_append8Digits_d00df_38 : decode cJx40b00_append8Digits_d00df 38 = .ok (.goto (-30), 3) := by decide +kernel
theorem dJx40b00_append8Digits_d00df_41 : decode cJx40b00_append8Digits_d00df 41 = .ok (.return_, 1) := by decide +kernel
theorem dJx40b00_removeTrailingZeroes_da8c8_0 : decode cJx40b00_removeTrailingZeroes_da8c8 0 = .ok (.aload_n 0, 1) := by decide +kernel
theorem dJx40b00_removeTrailingZeroes_da8c8_1 : decode cJx40b00_removeTrailingZeroes_da8c8 1 = .ok (.getfield 11, 3) := by decide +kernel
theorem dJx40b00_removeTrailingZeroes_da8c8_4 : decode cJx40b00_removeTrailingZeroes_da8c8 4 = .ok (.aload_n 0, 1) := by decide +kernel
theorem dJx40b00_removeTrailingZeroes_da8c8_5 : decode cJx40b00_removeTrailingZeroes_da8c8 5 = .ok (.getfield 42, 3) := by decide +kernel
theorem dJx40b00_removeTrailingZeroes_da8c8_8 : decode cJx40b00_removeTrailingZeroes_da8c8 8 = .ok (.baload, 1) := by decide +kernel
theorem dJx40b00_removeTrailingZeroes_da8c8_9 : decode cJx40b00_removeTrailingZeroes_da8c8 9 = .ok (.bipush 48, 2) := by decide +kernel
theorem dJx40b00_removeTrailingZeroes_da8c8_11 : decode cJx40b00_removeTrailingZeroes_da8c8 11 = .ok (.if_icmp .ne 16, 3) := by decide +kernel
theorem dJx40b00_removeTrailingZeroes_da8c8_14 : decode cJx40b00_removeTrailingZeroes_da8c8 14 = .ok (.aload_n 0, 1) := by decide +kernel
theorem dJx40b00_removeTrailingZeroes_da8c8_15 : decode cJx40b00_removeTrailingZeroes_da8c8 15 = .ok (.dup, 1) := by decide +kernel
theorem dJx40b00_removeTrailingZeroes_da8c8_16 : decode cJx40b00_removeTrailingZeroes_da8c8 16 = .ok (.getfield 42, 3) := by decide +kernel
theorem dJx40b00_removeTrailingZeroes_da8c8_19 : decode cJx40b00_removeTrailingZeroes_da8c8 19 = .ok (.iconst 1, 1) := by decide +kernel
theorem dJx40b00_removeTrailingZeroes_da8c8_20 : decode cJx40b00_removeTrailingZeroes_da8c8 20 = .ok (.isub, 1) := by decide +kernel
theorem dJx40b00_removeTrailingZeroes_da8c8_21 : decode cJx40b00_removeTrailingZeroes_da8c8 21 = .ok (.putfield 42, 3) := by decide +kernel
theorem dJx40b00_removeTrailingZeroes_da8c8_24 : decode cJx40b00_removeTrailingZeroes_da8c8 24 = .ok (.goto (-24), 3) := by decide +kernel
theorem dJx40b00_removeTrailingZeroes_da8c8_27 : decode cJx40b00_removeTrailingZeroes_da8c8 27 = .ok (.aload_n 0, 1) := by decide +kernel
theorem dJx40b00_removeTrailingZeroes_da8c8_28 : decode cJx40b00_removeTrailingZeroes_da8c8 28 = .ok (.getfield 11, 3) := by decide +kernel
theorem dJx40b00_removeTrailingZeroes_da8c8_31 : decode cJx40b00_removeTrailingZeroes_da8c8 31 = .ok (.aload_n 0, 1) := by decide +kernel
theorem dJx40b00_removeTrailingZeroes_da8c8_32 : decode cJx40b00_removeTrailingZeroes_da8c8 32 = .ok (.getfield 42, 3) := by decide +kernel
theorem dJx40b00_removeTrailingZeroes_da8c8_35 : decode cJx40b00_removeTrailingZeroes_da8c8 35 = .ok (.baload, 1) := by decide +kernel
theorem dJx40b00_removeTrailingZeroes_da8c8_36 : decode cJx40b00_removeTrailingZeroes_da8c8 36 = .ok (.bipush 46, 2) := by decide +kernel
theorem dJx40b00_removeTrailingZeroes_da8c8_38 : decode cJx40b00_removeTrailingZeroes_da8c8 38 = .ok (.if_icmp .ne 13, 3) := by decide +kernel
theorem dJx40b00_removeTrailingZeroes_da8c8_41 : decode cJx40b00_removeTrailingZeroes_da8c8 41 = .ok (.aload_n 0, 1) := by decide +kernel
theorem dJx40b00_removeTrailingZeroes_da8c8_42 : decode cJx40b00_removeTrailingZeroes_da8c8 42 = .ok (.dup, 1) := by decide +kernel
theorem dJx40b00_removeTrailingZeroes_da8c8_43 : decode cJx40b00_removeTrailingZeroes_da8c8 43 = .ok (.getfield 42, 3) := by decide +kernel
theorem dJx40b00_removeTrailingZeroes_da8c8_46 : decode cJx40b00_removeTrailingZeroes_da8c8 46 = .ok (.iconst 1, 1) := by decide +kernel
theorem dJx40b00_removeTrailingZeroes_da8c8_47 : decode cJx40b00_removeTrailingZeroes_da8c8 47 = .ok (.iadd, 1) := by decide +kernel
theorem dJx40b00_removeTrailingZeroes_da8c8_48 : decode cJx40b00_removeTrailingZeroes_da8c8 48 = .ok (.putfield 42, 3) := by decide +kernel
theorem dJx40b00_removeTrailingZeroes_da8c8_51 : decode cJx40b00_removeTrailingZeroes_da8c8 51 = .ok (.return_, 1) := by decide +kernel
theorem dJx40b00_y_0f7a4_0 : decode cJx40b00_y_0f7a4 0 = .ok (.iload_n 1, 1) := by decide +kernel
theorem dJx40b00_y_0f7a4_1 : decode cJx40b00_y_0f7a4 1 = .ok (.iconst 1, 1) := by decide +kernel
theorem dJx40b00_y_0f7a4_2 : decode cJx40b00_y_0f7a4 2 = .ok (.iadd, 1) := by decide +kernel
theorem dJx40b00_y_0f7a4_3 : decode cJx40b00_y_0f7a4 3 = .ok (.i2l, 1) := by decide +kernel
theorem dJx40b00_y_0f7a4_4 : decode cJx40b00_y_0f7a4 4 = .ok (.bipush 28, 2) := by decide +kernel
theorem dJx40b00_y_0f7a4_6 : decode cJx40b00_y_0f7a4 6 = .ok (.lshl, 1) := by decide +kernel
theorem dJx40b00_y_0f7a4_7 : decode cJx40b00_y_0f7a4 7 = .ok (.ldc2_w 148, 3) := by decide +kernel
theorem dJx40b00_y_0f7a4_10 : decode cJx40b00_y_0f7a4 10 = .ok (.invokestatic 104, 3) := by decide +kernel
theorem dJx40b00_y_0f7a4_13 : decode cJx40b00_y_0f7a4 13 = .ok (.bipush 20, 2) := by decide +kernel
theorem dJx40b00_y_0f7a4_15 : decode cJx40b00_y_0f7a4 15 = .ok (.lushr, 1) := by decide +kernel
theorem dJx40b00_y_0f7a4_16 : decode cJx40b00_y_0f7a4 16 = .ok (.l2i, 1) := by decide +kernel
theorem dJx40b00_y_0f7a4_17 : decode cJx40b00_y_0f7a4 17 = .ok (.iconst 1, 1) := by decide +kernel
theorem dJx40b00_y_0f7a4_18 : decode cJx40b00_y_0f7a4 18 = .ok (.isub, 1) := by decide +kernel
theorem dJx40b00_y_0f7a4_19 : decode cJx40b00_y_0f7a4 19 = .ok (.ireturn, 1) := by decide +kernel
theorem dJx40b00_exponent_d00df_0 : decode cJx40b00_exponent_d00df 0 = .ok (.aload_n 0, 1) := by decide +kernel
theorem dJx40b00_exponent_d00df_1 : decode cJx40b00_exponent_d00df 1 = .ok (.bipush 69, 2) := by decide +kernel
theorem dJx40b00_exponent_d00df_3 : decode cJx40b00_exponent_d00df 3 = .ok (.invokevirtual 69, 3) := by decide +kernel
theorem dJx40b00_exponent_d00df_6 : decode cJx40b00_exponent_d00df 6 = .ok (.iload_n 1, 1) := by decide +kernel
theorem dJx40b00_exponent_d00df_7 : decode cJx40b00_exponent_d00df 7 = .ok (.ifCond .ge 12, 3) := by decide +kernel
theorem dJx40b00_exponent_d00df_10 : decode cJx40b00_exponent_d00df 10 = .ok (.aload_n 0, 1) := by decide +kernel
theorem dJx40b00_exponent_d00df_11 : decode cJx40b00_exponent_d00df 11 = .ok (.bipush 45, 2) := by decide +kernel
theorem dJx40b00_exponent_d00df_13 : decode cJx40b00_exponent_d00df 13 = .ok (.invokevirtual 69, 3) := by decide +kernel
theorem dJx40b00_exponent_d00df_16 : decode cJx40b00_exponent_d00df 16 = .ok (.iload_n 1, 1) := by decide +kernel
theorem dJx40b00_exponent_d00df_17 : decode cJx40b00_exponent_d00df 17 = .ok (.ineg, 1) := by decide +kernel
theorem dJx40b00_exponent_d00df_18 : decode cJx40b00_exponent_d00df 18 = .ok (.istore_n 1, 1) := by decide +kernel
theorem dJx40b00_exponent_d00df_19 : decode cJx40b00_exponent_d00df 19 = .ok (.iload_n 1, 1) := by decide +kernel
theorem dJx40b00_exponent_d00df_20 : decode cJx40b00_exponent_d00df 20 = .ok (.bipush 10, 2) := by decide +kernel
theorem dJx40b00_exponent_d00df_22 : decode cJx40b00_exponent_d00df 22 = .ok (.if_icmp .ge 9, 3) := by decide +kernel
theorem dJx40b00_exponent_d00df_25 : decode cJx40b00_exponent_d00df 25 = .ok (.aload_n 0, 1) := by decide +kernel
theorem dJx40b00_exponent_d00df_26 : decode cJx40b00_exponent_d00df 26 = .ok (.iload_n 1, 1) := by decide +kernel
theorem dJx40b00_exponent_d00df_27 : decode cJx40b00_exponent_d00df 27 = .ok (.invokevirtual 132, 3) := by decide +kernel
theorem dJx40b00_exponent_d00df_30 : decode cJx40b00_exponent_d00df 30 = .ok (.return_, 1) := by decide +kernel
theorem dJx40b00_exponent_d00df_31 : decode cJx40b00_exponent_d00df 31 = .ok (.iload_n 1, 1) := by decide +kernel
theorem dJx40b00_exponent_d00df_32 : decode cJx40b00_exponent_d00df 32 = .ok (.bipush 103, 2) := by decide +kernel
theorem dJx40b00_exponent_d00df_34 : decode cJx40b00_exponent_d00df 34 = .ok (.imul, 1) := by decide +kernel
theorem dJx40b00_exponent_d00df_35 : decode cJx40b00_exponent_d00df 35 = .ok (.bipush 10, 2) := by decide +kernel
theorem dJx40b00_exponent_d00df_37 : decode cJx40b00_exponent_d00df 37 = .ok (.iushr, 1) := by decide +kernel
theorem dJx40b00_exponent_d00df_38 : decode cJx40b00_exponent_d00df 38 = .ok (.istore_n 2, 1) := by decide +kernel
theorem dJx40b00_exponent_d00df_39 : decode cJx40b00_exponent_d00df 39 = .ok (.aload_n 0, 1) := by decide +kernel
theorem dJx40b00_exponent_d00df_40 : decode cJx40b00_exponent_d00df 40 = .ok (.iload_n 2, 1) := by decide +kernel
theorem dJx40b00_exponent_d00df_41 : decode cJx40b00_exponent_d00df 41 = .ok (.invokevirtual 132, 3) := by decide +kernel
theorem dJx40b00_exponent_d00df_44 : decode cJx40b00_exponent_d00df 44 = .ok (.aload_n 0, 1) := by decide +kernel
theorem dJx40b00_exponent_d00df_45 : decode cJx40b00_exponent_d00df 45 = .ok (.iload_n 1, 1) := by decide +kernel
theorem dJx40b00_exponent_d00df_46 : decode cJx40b00_exponent_d00df 46 = .ok (.bipush 10, 2) := by decide +kernel
theorem dJx40b00_exponent_d00df_48 : decode cJx40b00_exponent_d00df 48 = .ok (.iload_n 2, 1) := by decide +kernel
theorem dJx40b00_exponent_d00df_49 : decode cJx40b00_exponent_d00df 49 = .ok (.imul, 1) := by decide +kernel
theorem dJx40b00_exponent_d00df_50 : decode cJx40b00_exponent_d00df 50 = .ok (.isub, 1) := by decide +kernel
theorem dJx40b00_exponent_d00df_51 : decode cJx40b00_exponent_d00df 51 = .ok (.invokevirtual 132, 3) := by decide +kernel
theorem dJx40b00_exponent_d00df_54 : decode cJx40b00_exponent_d00df 54 = .ok (.return_, 1) := by decide +kernel
theorem dJx40b00_append_d00df_0 : decode cJx40b00_append_d00df 0 = .ok (.aload_n 0, 1) := by decide +kernel
theorem dJx40b00_append_d00df_1 : decode cJx40b00_append_d00df 1 = .ok (.getfield 11, 3) := by decide +kernel
theorem dJx40b00_append_d00df_4 : decode cJx40b00_append_d00df 4 = .ok (.aload_n 0, 1) := by decide +kernel
theorem dJx40b00_append_d00df_5 : decode cJx40b00_append_d00df 5 = .ok (.dup, 1) := by decide +kernel
theorem dJx40b00_append_d00df_6 : decode cJx40b00_append_d00df 6 = .ok (.getfield 42, 3) := by decide +kernel
theorem dJx40b00_append_d00df_9 : decode cJx40b00_append_d00df 9 = .ok (.iconst 1, 1) := by decide +kernel
theorem dJx40b00_append_d00df_10 : decode cJx40b00_append_d00df 10 = .ok (.iadd, 1) := by decide +kernel
theorem dJx40b00_append_d00df_11 : decode cJx40b00_append_d00df 11 = .ok (.dup_x1, 1) := by decide +kernel
theorem dJx40b00_append_d00df_12 : decode cJx40b00_append_d00df 12 = .ok (.putfield 42, 3) := by decide +kernel
theorem dJx40b00_append_d00df_15 : decode cJx40b00_append_d00df 15 = .ok (.iload_n 1, 1) := by decide +kernel
theorem dJx40b00_append_d00df_16 : decode cJx40b00_append_d00df 16 = .ok (.i2b, 1) := by decide +kernel
theorem dJx40b00_append_d00df_17 : decode cJx40b00_append_d00df 17 = .ok (.bastore, 1) := by decide +kernel
theorem dJx40b00_append_d00df_18 : decode cJx40b00_append_d00df 18 = .ok (.return_, 1) := by decide +kernel
theorem dJx40b00_appendDigit_d00df_0 : decode cJx40b00_appendDigit_d00df 0 = .ok (.aload_n 0, 1) := by decide +kernel
theorem dJx40b00_appendDigit_d00df_1 : decode cJx40b00_appendDigit_d00df 1 = .ok (.getfield 11, 3) := by decide +kernel
theorem dJx40b00_appendDigit_d00df_4 : decode cJx40b00_appendDigit_d00df 4 = .ok (.aload_n 0, 1) := by decide +kernel
theorem dJx40b00_appendDigit_d00df_5 : decode cJx40b00_appendDigit_d00df 5 = .ok (.dup, 1) := by decide +kernel
theorem dJx40b00_appendDigit_d00df_6 : decode cJx40b00_appendDigit_d00df 6 = .ok (.getfield 42, 3) := by decide +kernel
theorem dJx40b00_appendDigit_d00df_9 : decode cJx40b00_appendDigit_d00df 9 = .ok (.iconst 1, 1) := by decide +kernel
theorem dJx40b00_appendDigit_d00df_10 : decode cJx40b00_appendDigit_d00df 10 = .ok (.iadd, 1) := by decide +kernel
theorem dJx40b00_appendDigit_d00df_11 : decode cJx40b00_appendDigit_d00df 11 = .ok (.dup_x1, 1) := by decide +kernel
theorem dJx40b00_appendDigit_d00df_12 : decode cJx40b00_appendDigit_d00df 12 = .ok (.putfield 42, 3) := by decide +kernel
theorem dJx40b00_appendDigit_d00df_15 : decode cJx40b00_appendDigit_d00df 15 = .ok (.bipush 48, 2) := by decide +kernel
theorem dJx40b00_appendDigit_d00df_17 : decode cJx40b00_appendDigit_d00df 17 = .ok (.iload_n 1, 1) := by decide +kernel
theorem dJx40b00_appendDigit_d00df_18 : decode cJx40b00_appendDigit_d00df 18 = .ok (.iadd, 1) := by decide +kernel
theorem dJx40b00_appendDigit_d00df_19 : decode cJx40b00_appendDigit_d00df 19 = .ok (.i2b, 1) := by decide +kernel
theorem dJx40b00_appendDigit_d00df_20 : decode cJx40b00_appendDigit_d00df 20 = .ok (.bastore, 1) := by decide +kernel
theorem dJx40b00_appendDigit_d00df_21 : decode cJx40b00_appendDigit_d00df 21 = .ok (.return_, 1) := by decide +kernel
theorem dJx25f51_pow10_3e8ac_0 : decode cJx25f51_pow10_3e8ac 0 = .ok (.getstatic 14, 3) := by decide +kernel
theorem dJx25f51_pow10_3e8ac_3 : decode cJx25f51_pow10_3e8ac 3 = .ok (.iload_n 0, 1) := by decide +kernel
theorem dJx25f51_pow10_3e8ac_4 : decode cJx25f51_pow10_3e8ac 4 = .ok (.laload, 1) := by decide +kernel
theorem dJx25f51_pow10_3e8ac_5 : decode cJx25f51_pow10_3e8ac 5 = .ok (.lreturn, 1) := by decide +kernel
theorem dJx25f51_flog10pow2_0f7a4_0 : decode cJx25f51_flog10pow2_0f7a4 0 = .ok (.iload_n 0, 1) := by decide +kernel
theorem dJx25f51_flog10pow2_0f7a4_1 : decode cJx25f51_flog10pow2_0f7a4 1 = .ok (.i2l, 1) := by decide +kernel
theorem dJx25f51_flog10pow2_0f7a4_2 : decode cJx25f51_flog10pow2_0f7a4 2 = .ok (.ldc2_w 20, 3) := by decide +kernel
theorem dJx25f51_flog10pow2_0f7a4_5 : decode cJx25f51_flog10pow2_0f7a4 5 = .ok (.lmul, 1) := by decide +kernel
theorem dJx25f51_flog10pow2_0f7a4_6 : decode cJx25f51_flog10pow2_0f7a4 6 = .ok (.bipush 41, 2) := by decide +kernel
theorem dJx25f51_flog10pow2_0f7a4_8 : decode cJx25f51_flog10pow2_0f7a4 8 = .ok (.lshr, 1) := by decide +kernel
theorem dJx25f51_flog10pow2_0f7a4_9 : decode cJx25f51_flog10pow2_0f7a4 9 = .ok (.l2i, 1) := by decide +kernel
theorem dJx25f51_flog10pow2_0f7a4_10 : decode cJx25f51_flog10pow2_0f7a4 10 = .ok (.ireturn, 1) := by decide +kernel
theorem dJx25f51_flog10threeQuartersPow2_0f7a4_0 : decode cJx25f51_flog10threeQuartersPow2_0f7a4 0 = .ok (.iload_n 0, 1) := by decide +kernel
theorem dJx25f51_flog10threeQuartersPow2_0f7a4_1 : decode cJx25f51_flog10threeQuartersPow2_0f7a4 1 = .ok (.i2l, 1) := by decide +kernel
theorem dJx25f51_flog10threeQuartersPow2_0f7a4_2 : decode cJx25f51_flog10threeQuartersPow2_0f7a4 2 = .ok (.ldc2_w 20, 3) := by decide +kernel
theorem dJx25f51_flog10threeQuartersPow2_0f7a4_5 : decode cJx25f51_flog10threeQuartersPow2_0f7a4 5 = .ok (.lmul, 1) := by decide +kernel
theorem dJx25f51_flog10threeQuartersPow2_0f7a4_6 : decode cJx25f51_flog10threeQuartersPow2_0f7a4 6 = .ok (.ldc2_w 22, 3) := by decide +kernel
theorem dJx25f51_flog10threeQuartersPow2_0f7a4_9 : decode cJx25f51_flog10threeQuartersPow2_0f7a4 9 = .ok (.ladd, 1) := by decide +kernel
theorem dJx25f51_flog10threeQuartersPow2_0f7a4_10 : decode cJx25f51_flog10threeQuartersPow2_0f7a4 10 = .ok (.bipush 41, 2) := by decide +kernel
theorem dJx25f51_flog10threeQuartersPow2_0f7a4_12 : decode cJx25f51_flog10threeQuartersPow2_0f7a4 12 = .ok (.lshr, 1) := by decide +kernel
theorem dJx25f51_flog10threeQuartersPow2_0f7a4_13 : decode cJx25f51_flog10threeQuartersPow2_0f7a4 13 = .ok (.l2i, 1) := by decide +kernel
theorem dJx25f51_flog10threeQuartersPow2_0f7a4_14 : decode cJx25f51_flog10threeQuartersPow2_0f7a4 14 = .ok (.ireturn, 1) := by decide +kernel
theorem dJx25f51_flog2pow10_0f7a4_0 : decode cJx25f51_flog2pow10_0f7a4 0 = .ok (.iload_n 0, 1) := by decide +kernel
theorem dJx25f51_flog2pow10_0f7a4_1 : decode cJx25f51_flog2pow10_0f7a4 1 = .ok (.i2l, 1) := by decide +kernel
theorem dJx25f51_flog2pow10_0f7a4_2 : decode cJx25f51_flog2pow10_0f7a4 2 = .ok (.ldc2_w 24, 3) := by decide +kernel
theorem dJx25f51_flog2pow10_0f7a4_5 : decode cJx25f51_flog2pow10_0f7a4 5 = .ok (.lmul, 1) := by decide +kernel
theorem dJx25f51_flog2pow10_0f7a4_6 : decode cJx25f51_flog2pow10_0f7a4 6 = .ok (.bipush 38, 2) := by decide +kernel
theorem dJx25f51_flog2pow10_0f7a4_8 : decode cJx25f51_flog2pow10_0f7a4 8 = .ok (.lshr, 1) := by decide +kernel
theorem dJx25f51_flog2pow10_0f7a4_9 : decode cJx25f51_flog2pow10_0f7a4 9 = .ok (.l2i, 1) := by decide +kernel
theorem dJx25f51_flog2pow10_0f7a4_10 : decode cJx25f51_flog2pow10_0f7a4 10 = .ok (.ireturn, 1) := by decide +kernel
theorem dJx25f51_g1_3e8ac_0 : decode cJx25f51_g1_3e8ac 0 = .ok (.getstatic 26, 3) := by decide +kernel
theorem dJx25f51_g1_3e8ac_3 : decode cJx25f51_g1_3e8ac 3 = .ok (.iload_n 0, 1) := by decide +kernel
theorem dJx25f51_g1_3e8ac_4 : decode cJx25f51_g1_3e8ac 4 = .ok (.sipush (-324), 3) := by decide +kernel
theorem dJx25f51_g1_3e8ac_7 : decode cJx25f51_g1_3e8ac 7 = .ok (.isub, 1) := by decide +kernel
theorem dJx25f51_g1_3e8ac_8 : decode cJx25f51_g1_3e8ac 8 = .ok (.iconst 1, 1) := by decide +kernel
theorem dJx25f51_g1_3e8ac_9 : decode cJx25f51_g1_3e8ac 9 = .ok (.ishl, 1) := by decide +kernel
theorem dJx25f51_g1_3e8ac_10 : decode cJx25f51_g1_3e8ac 10 = .ok (.laload, 1) := by decide +kernel
theorem dJx25f51_g1_3e8ac_11 : decode cJx25f51_g1_3e8ac 11 = .ok (.lreturn, 1) := by decide +kernel
theorem dJ8_newLength_cabcc_0 : decode cJ8_newLength_cabcc 0 = .ok (.iload_n 0, 1) := by decide +kernel
theorem dJ8_newLength_cabcc_1 : decode cJ8_newLength_cabcc 1 = .ok (.iload_n 1, 1) := by decide +kernel
theorem dJ8_newLength_cabcc_2 : decode cJ8_newLength_cabcc 2 = .ok (.iload_n 2, 1) := by decide +kernel
theorem dJ8_newLength_cabcc_3 : decode cJ8_newLength_cabcc 3 = .ok (.invokestatic 194, 3) := by decide +kernel
theorem dJ8_newLength_cabcc_6 : decode cJ8_newLength_cabcc 6 = .ok (.iadd, 1) := by decide +kernel
theorem dJ8_newLength_cabcc_7 : decode cJ8_newLength_cabcc 7 = .ok (.istore_n 3, 1) := by decide +kernel
theorem dJ8_newLength_cabcc_8 : decode cJ8_newLength_cabcc 8 = .ok (.iconst 0, 1) := by decide +kernel
theorem dJ8_newLength_cabcc_9 : decode cJ8_newLength_cabcc 9 = .ok (.iload_n 3, 1) := by decide +kernel
theorem dJ8_newLength_cabcc_10 : decode cJ8_newLength_cabcc 10 = .ok (.if_icmp .ge 11, 3) := by decide +kernel
theorem dJ8_newLength_cabcc_13 : decode cJ8_newLength_cabcc 13 = .ok (.iload_n 3, 1) := by decide +kernel
theorem dJ8_newLength_cabcc_14 : decode cJ8_newLength_cabcc 14 = .ok (.ldc 200, 2) := by decide +kernel
theorem dJ8_newLength_cabcc_16 : decode cJ8_newLength_cabcc 16 = .ok (.if_icmp .gt 5, 3) := by decide +kernel
theorem dJ8_newLength_cabcc_19 : decode cJ8_newLength_cabcc 19 = .ok (.iload_n 3, 1) := by decide +kernel
theorem dJ8_newLength_cabcc_20 : decode cJ8_newLength_cabcc 20 = .ok (.ireturn, 1) := by decide +kernel
theorem dJ8_newLength_cabcc_21 : decode cJ8_newLength_cabcc 21 = .ok (.iload_n 0, 1) := by decide +kernel
theorem dJ8_newLength_cabcc_22 : decode cJ8_newLength_cabcc 22 = .ok (.iload_n 1, 1) := by decide +kernel
theorem dJ8_newLength_cabcc_23 : decode cJ8_newLength_cabcc 23 = .ok (.invokestatic 201, 3) := by decide +kernel
theorem dJ8_newLength_cabcc_26 : decode cJ8_newLength_cabcc 26 = .ok (.ireturn, 1) := by decide +kernel
theorem dJ3_checkIndex_8e157_0 : decode cJ3_checkIndex_8e157 0 = .ok (.iload_n 0, 1) := by decide +kernel
theorem dJ3_checkIndex_8e157_1 : decode cJ3_checkIndex_8e157 1 = .ok (.ifCond .lt 8, 3) := by decide +kernel
theorem dJ3_checkIndex_8e157_4 : decode cJ3_checkIndex_8e157 4 = .ok (.iload_n 0, 1) := by decide +kernel
theorem dJ3_checkIndex_8e157_5 : decode cJ3_checkIndex_8e157 5 = .ok (.iload_n 1, 1) := by decide +kernel
theorem dJ3_checkIndex_8e157_6 : decode cJ3_checkIndex_8e157 6 = .ok (.if_icmp .lt 10, 3) := by decide +kernel
theorem dJ3_checkIndex_8e157_9 : decode cJ3_checkIndex_8e157 9 = .ok (.aload_n 2, 1) := by decide +kernel
theorem dJ3_checkIndex_8e157_10 : decode cJ3_checkIndex_8e157 10 = .ok (.iload_n 0, 1) := by decide +kernel
theorem dJ3_checkIndex_8e157_11 : decode cJ3_checkIndex_8e157 11 = .ok (.iload_n 1, 1) := by decide +kernel
theorem dJ3_checkIndex_8e157_12 : decode cJ3_checkIndex_8e157 12 = .ok (.invokestatic 95, 3) := by decide +kernel
theorem dJ3_checkIndex_8e157_15 : decode cJ3_checkIndex_8e157 15 = .ok (.athrow, 1) := by decide +kernel
theorem dJ3_checkIndex_8e157_16 : decode cJ3_checkIndex_8e157 16 = .ok (.iload_n 0, 1) := by decide +kernel
theorem dJ3_checkIndex_8e157_17 : decode cJ3_checkIndex_8e157 17 = .ok (.ireturn, 1) := by decide +kernel
