theorem dL_cell_0 : decode cL_cell 0 = .ok (.aload_n 0, 1) := by decide +kernel
theorem dL_cell_1 : decode cL_cell 1 = .ok (.arraylength, 1) := by decide +kernel
theorem dL_cell_2 : decode cL_cell 2 = .ok (.ifCond .ne 13, 3) := by decide +kernel
theorem dL_cell_5 : decode cL_cell 5 = .ok (.bipush 71, 2) := by decide +kernel
theorem dL_cell_7 : decode cL_cell 7 = .ok (.iload_n 1, 1) := by decide +kernel
theorem dL_cell_8 : decode cL_cell 8 = .ok (.imul, 1) := by decide +kernel
theorem dL_cell_9 : decode cL_cell 9 = .ok (.bipush 13, 2) := by decide +kernel
theorem dL_cell_11 : decode cL_cell 11 = .ok (.iadd, 1) := by decide +kernel
theorem dL_cell_12 : decode cL_cell 12 = .ok (.goto 12, 3) := by decide +kernel
theorem dL_cell_15 : decode cL_cell 15 = .ok (.aload_n 0, 1) := by decide +kernel
theorem dL_cell_16 : decode cL_cell 16 = .ok (.iload_n 1, 1) := by decide +kernel
theorem dL_cell_17 : decode cL_cell 17 = .ok (.ldc 7, 2) := by decide +kernel
theorem dL_cell_19 : decode cL_cell 19 = .ok (.iand, 1) := by decide +kernel
theorem dL_cell_20 : decode cL_cell 20 = .ok (.aload_n 0, 1) := by decide +kernel
theorem dL_cell_21 : decode cL_cell 21 = .ok (.arraylength, 1) := by decide +kernel
theorem dL_cell_22 : decode cL_cell 22 = .ok (.irem, 1) := by decide +kernel
theorem dL_cell_23 : decode cL_cell 23 = .ok (.iaload, 1) := by decide +kernel
theorem dL_cell_24 : decode cL_cell 24 = .ok (.ireturn, 1) := by decide +kernel
theorem dL_install_0 : decode cL_install 0 = .ok (.aload_n 0, 1) := by decide +kernel
theorem dL_install_1 : decode cL_install 1 = .ok (.iload_n 1, 1) := by decide +kernel
theorem dL_install_2 : decode cL_install 2 = .ok (.iload_n 2, 1) := by decide +kernel
theorem dL_install_3 : decode cL_install 3 = .ok (.iload_n 3, 1) := by decide +kernel
theorem dL_install_4 : decode cL_install 4 = .ok (.iload 4, 2) := by decide +kernel
theorem dL_install_6 : decode cL_install 6 = .ok (.iload 5, 2) := by decide +kernel
theorem dL_install_8 : decode cL_install 8 = .ok (.iload 6, 2) := by decide +kernel
theorem dL_install_10 : decode cL_install 10 = .ok (.iload 7, 2) := by decide +kernel
theorem dL_install_12 : decode cL_install 12 = .ok (.invokevirtual 8, 3) := by decide +kernel
theorem dL_install_15 : decode cL_install 15 = .ok (.ireturn, 1) := by decide +kernel
theorem dL_install_16 : decode cL_install 16 = .ok (.astore 8, 2) := by decide +kernel
theorem dL_install_18 : decode cL_install 18 = .ok (.iconst (-1), 1) := by decide +kernel
theorem dL_install_19 : decode cL_install 19 = .ok (.ireturn, 1) := by decide +kernel
theorem dL_install_20 : decode cL_install 20 = .ok (.astore 8, 2) := by decide +kernel
theorem dL_install_22 : decode cL_install 22 = .ok (.bipush (-2), 2) := by decide +kernel
theorem dL_install_24 : decode cL_install 24 = .ok (.ireturn, 1) := by decide +kernel
theorem dL_retire_0 : decode cL_retire 0 = .ok (.aload_n 0, 1) := by decide +kernel
theorem dL_retire_1 : decode cL_retire 1 = .ok (.iload_n 1, 1) := by decide +kernel
theorem dL_retire_2 : decode cL_retire 2 = .ok (.invokevirtual 18, 3) := by decide +kernel
theorem dL_retire_5 : decode cL_retire 5 = .ok (.ireturn, 1) := by decide +kernel
theorem dL_retire_6 : decode cL_retire 6 = .ok (.astore_n 2, 1) := by decide +kernel
theorem dL_retire_7 : decode cL_retire 7 = .ok (.iconst (-1), 1) := by decide +kernel
theorem dL_retire_8 : decode cL_retire 8 = .ok (.ireturn, 1) := by decide +kernel
theorem dL_moveTo_0 : decode cL_moveTo 0 = .ok (.aload_n 0, 1) := by decide +kernel
theorem dL_moveTo_1 : decode cL_moveTo 1 = .ok (.iload_n 1, 1) := by decide +kernel
theorem dL_moveTo_2 : decode cL_moveTo 2 = .ok (.iload_n 2, 1) := by decide +kernel
theorem dL_moveTo_3 : decode cL_moveTo 3 = .ok (.iload_n 3, 1) := by decide +kernel
theorem dL_moveTo_4 : decode cL_moveTo 4 = .ok (.invokevirtual 24, 3) := by decide +kernel
theorem dL_moveTo_7 : decode cL_moveTo 7 = .ok (.ireturn, 1) := by decide +kernel
theorem dL_moveTo_8 : decode cL_moveTo 8 = .ok (.astore 4, 2) := by decide +kernel
theorem dL_moveTo_10 : decode cL_moveTo 10 = .ok (.iconst (-1), 1) := by decide +kernel
theorem dL_moveTo_11 : decode cL_moveTo 11 = .ok (.ireturn, 1) := by decide +kernel
theorem dL_moveTo_12 : decode cL_moveTo 12 = .ok (.astore 4, 2) := by decide +kernel
theorem dL_moveTo_14 : decode cL_moveTo 14 = .ok (.bipush (-2), 2) := by decide +kernel
theorem dL_moveTo_16 : decode cL_moveTo 16 = .ok (.ireturn, 1) := by decide +kernel
theorem dL_setVersion_0 : decode cL_setVersion 0 = .ok (.aload_n 0, 1) := by decide +kernel
theorem dL_setVersion_1 : decode cL_setVersion 1 = .ok (.iload_n 1, 1) := by decide +kernel
theorem dL_setVersion_2 : decode cL_setVersion 2 = .ok (.iload_n 2, 1) := by decide +kernel
theorem dL_setVersion_3 : decode cL_setVersion 3 = .ok (.iload_n 3, 1) := by decide +kernel
theorem dL_setVersion_4 : decode cL_setVersion 4 = .ok (.invokevirtual 28, 3) := by decide +kernel
theorem dL_setVersion_7 : decode cL_setVersion 7 = .ok (.ireturn, 1) := by decide +kernel
theorem dL_setVersion_8 : decode cL_setVersion 8 = .ok (.astore 4, 2) := by decide +kernel
theorem dL_setVersion_10 : decode cL_setVersion 10 = .ok (.iconst (-1), 1) := by decide +kernel
theorem dL_setVersion_11 : decode cL_setVersion 11 = .ok (.ireturn, 1) := by decide +kernel
theorem dL_setVersion_12 : decode cL_setVersion 12 = .ok (.astore 4, 2) := by decide +kernel
theorem dL_setVersion_14 : decode cL_setVersion 14 = .ok (.bipush (-2), 2) := by decide +kernel
theorem dL_setVersion_16 : decode cL_setVersion 16 = .ok (.ireturn, 1) := by decide +kernel
theorem dL_setPool_0 : decode cL_setPool 0 = .ok (.aload_n 0, 1) := by decide +kernel
theorem dL_setPool_1 : decode cL_setPool 1 = .ok (.iload_n 1, 1) := by decide +kernel
theorem dL_setPool_2 : decode cL_setPool 2 = .ok (.iload_n 2, 1) := by decide +kernel
theorem dL_setPool_3 : decode cL_setPool 3 = .ok (.invokevirtual 31, 3) := by decide +kernel
theorem dL_setPool_6 : decode cL_setPool 6 = .ok (.ireturn, 1) := by decide +kernel
theorem dL_setPool_7 : decode cL_setPool 7 = .ok (.astore_n 3, 1) := by decide +kernel
theorem dL_setPool_8 : decode cL_setPool 8 = .ok (.iconst (-1), 1) := by decide +kernel
theorem dL_setPool_9 : decode cL_setPool 9 = .ok (.ireturn, 1) := by decide +kernel
theorem dL_setPool_10 : decode cL_setPool 10 = .ok (.astore_n 3, 1) := by decide +kernel
theorem dL_setPool_11 : decode cL_setPool 11 = .ok (.bipush (-2), 2) := by decide +kernel
theorem dL_setPool_13 : decode cL_setPool 13 = .ok (.ireturn, 1) := by decide +kernel
theorem dL_entitle_0 : decode cL_entitle 0 = .ok (.aload_n 0, 1) := by decide +kernel
theorem dL_entitle_1 : decode cL_entitle 1 = .ok (.iload_n 1, 1) := by decide +kernel
theorem dL_entitle_2 : decode cL_entitle 2 = .ok (.iload_n 2, 1) := by decide +kernel
theorem dL_entitle_3 : decode cL_entitle 3 = .ok (.iload_n 3, 1) := by decide +kernel
theorem dL_entitle_4 : decode cL_entitle 4 = .ok (.iload 4, 2) := by decide +kernel
theorem dL_entitle_6 : decode cL_entitle 6 = .ok (.iload 5, 2) := by decide +kernel
theorem dL_entitle_8 : decode cL_entitle 8 = .ok (.iload 6, 2) := by decide +kernel
theorem dL_entitle_10 : decode cL_entitle 10 = .ok (.invokevirtual 35, 3) := by decide +kernel
theorem dL_entitle_13 : decode cL_entitle 13 = .ok (.ireturn, 1) := by decide +kernel
theorem dL_entitle_14 : decode cL_entitle 14 = .ok (.astore 7, 2) := by decide +kernel
theorem dL_entitle_16 : decode cL_entitle 16 = .ok (.iconst (-1), 1) := by decide +kernel
theorem dL_entitle_17 : decode cL_entitle 17 = .ok (.ireturn, 1) := by decide +kernel
theorem dL_entitle_18 : decode cL_entitle 18 = .ok (.astore 7, 2) := by decide +kernel
theorem dL_entitle_20 : decode cL_entitle 20 = .ok (.bipush (-2), 2) := by decide +kernel
theorem dL_entitle_22 : decode cL_entitle 22 = .ok (.ireturn, 1) := by decide +kernel
theorem dL_setRights_0 : decode cL_setRights 0 = .ok (.aload_n 0, 1) := by decide +kernel
theorem dL_setRights_1 : decode cL_setRights 1 = .ok (.iload_n 1, 1) := by decide +kernel
theorem dL_setRights_2 : decode cL_setRights 2 = .ok (.iload_n 2, 1) := by decide +kernel
theorem dL_setRights_3 : decode cL_setRights 3 = .ok (.iload_n 3, 1) := by decide +kernel
theorem dL_setRights_4 : decode cL_setRights 4 = .ok (.iload 4, 2) := by decide +kernel
theorem dL_setRights_6 : decode cL_setRights 6 = .ok (.invokevirtual 39, 3) := by decide +kernel
theorem dL_setRights_9 : decode cL_setRights 9 = .ok (.ireturn, 1) := by decide +kernel
theorem dL_setRights_10 : decode cL_setRights 10 = .ok (.astore 5, 2) := by decide +kernel
theorem dL_setRights_12 : decode cL_setRights 12 = .ok (.iconst (-1), 1) := by decide +kernel
theorem dL_setRights_13 : decode cL_setRights 13 = .ok (.ireturn, 1) := by decide +kernel
theorem dL_setMinimum_0 : decode cL_setMinimum 0 = .ok (.aload_n 0, 1) := by decide +kernel
theorem dL_setMinimum_1 : decode cL_setMinimum 1 = .ok (.iload_n 1, 1) := by decide +kernel
theorem dL_setMinimum_2 : decode cL_setMinimum 2 = .ok (.iload_n 2, 1) := by decide +kernel
theorem dL_setMinimum_3 : decode cL_setMinimum 3 = .ok (.invokevirtual 43, 3) := by decide +kernel
theorem dL_setMinimum_6 : decode cL_setMinimum 6 = .ok (.ireturn, 1) := by decide +kernel
theorem dL_setMinimum_7 : decode cL_setMinimum 7 = .ok (.astore_n 3, 1) := by decide +kernel
theorem dL_setMinimum_8 : decode cL_setMinimum 8 = .ok (.iconst (-1), 1) := by decide +kernel
theorem dL_setMinimum_9 : decode cL_setMinimum 9 = .ok (.ireturn, 1) := by decide +kernel
theorem dL_setMinimum_10 : decode cL_setMinimum 10 = .ok (.astore_n 3, 1) := by decide +kernel
theorem dL_setMinimum_11 : decode cL_setMinimum 11 = .ok (.bipush (-2), 2) := by decide +kernel
theorem dL_setMinimum_13 : decode cL_setMinimum 13 = .ok (.ireturn, 1) := by decide +kernel
theorem dL_setMinimum_14 : decode cL_setMinimum 14 = .ok (.astore_n 3, 1) := by decide +kernel
theorem dL_setMinimum_15 : decode cL_setMinimum 15 = .ok (.bipush (-3), 2) := by decide +kernel
theorem dL_setMinimum_17 : decode cL_setMinimum 17 = .ok (.ireturn, 1) := by decide +kernel
theorem dL_setPrice_0 : decode cL_setPrice 0 = .ok (.aload_n 0, 1) := by decide +kernel
theorem dL_setPrice_1 : decode cL_setPrice 1 = .ok (.iload_n 1, 1) := by decide +kernel
theorem dL_setPrice_2 : decode cL_setPrice 2 = .ok (.iload_n 2, 1) := by decide +kernel
theorem dL_setPrice_3 : decode cL_setPrice 3 = .ok (.invokevirtual 48, 3) := by decide +kernel
theorem dL_setPrice_6 : decode cL_setPrice 6 = .ok (.ireturn, 1) := by decide +kernel
theorem dL_setPrice_7 : decode cL_setPrice 7 = .ok (.astore_n 3, 1) := by decide +kernel
theorem dL_setPrice_8 : decode cL_setPrice 8 = .ok (.iconst (-1), 1) := by decide +kernel
theorem dL_setPrice_9 : decode cL_setPrice 9 = .ok (.ireturn, 1) := by decide +kernel
theorem dL_setPrice_10 : decode cL_setPrice 10 = .ok (.astore_n 3, 1) := by decide +kernel
theorem dL_setPrice_11 : decode cL_setPrice 11 = .ok (.bipush (-2), 2) := by decide +kernel
theorem dL_setPrice_13 : decode cL_setPrice 13 = .ok (.ireturn, 1) := by decide +kernel
theorem dL_addUnits_0 : decode cL_addUnits 0 = .ok (.aload_n 0, 1) := by decide +kernel
theorem dL_addUnits_1 : decode cL_addUnits 1 = .ok (.iload_n 1, 1) := by decide +kernel
theorem dL_addUnits_2 : decode cL_addUnits 2 = .ok (.iload_n 2, 1) := by decide +kernel
theorem dL_addUnits_3 : decode cL_addUnits 3 = .ok (.invokevirtual 51, 3) := by decide +kernel
theorem dL_addUnits_6 : decode cL_addUnits 6 = .ok (.ireturn, 1) := by decide +kernel
theorem dL_addUnits_7 : decode cL_addUnits 7 = .ok (.astore_n 3, 1) := by decide +kernel
theorem dL_addUnits_8 : decode cL_addUnits 8 = .ok (.iconst (-1), 1) := by decide +kernel
theorem dL_addUnits_9 : decode cL_addUnits 9 = .ok (.ireturn, 1) := by decide +kernel
theorem dL_addUnits_10 : decode cL_addUnits 10 = .ok (.astore_n 3, 1) := by decide +kernel
theorem dL_addUnits_11 : decode cL_addUnits 11 = .ok (.bipush (-2), 2) := by decide +kernel
theorem dL_addUnits_13 : decode cL_addUnits 13 = .ok (.ireturn, 1) := by decide +kernel
theorem dL_addUnits_14 : decode cL_addUnits 14 = .ok (.astore_n 3, 1) := by decide +kernel
theorem dL_addUnits_15 : decode cL_addUnits 15 = .ok (.bipush (-3), 2) := by decide +kernel
theorem dL_addUnits_17 : decode cL_addUnits 17 = .ok (.ireturn, 1) := by decide +kernel
theorem dL_units_0 : decode cL_units 0 = .ok (.aload_n 0, 1) := by decide +kernel
theorem dL_units_1 : decode cL_units 1 = .ok (.iload_n 1, 1) := by decide +kernel
theorem dL_units_2 : decode cL_units 2 = .ok (.invokevirtual 54, 3) := by decide +kernel
theorem dL_units_5 : decode cL_units 5 = .ok (.ireturn, 1) := by decide +kernel
theorem dL_units_6 : decode cL_units 6 = .ok (.astore_n 2, 1) := by decide +kernel
theorem dL_units_7 : decode cL_units 7 = .ok (.iconst (-1), 1) := by decide +kernel
theorem dL_units_8 : decode cL_units 8 = .ok (.ireturn, 1) := by decide +kernel
theorem dL_why_0 : decode cL_why 0 = .ok (.aload_n 0, 1) := by decide +kernel
theorem dL_why_1 : decode cL_why 1 = .ok (.iload_n 1, 1) := by decide +kernel
theorem dL_why_2 : decode cL_why 2 = .ok (.iload_n 2, 1) := by decide +kernel
theorem dL_why_3 : decode cL_why 3 = .ok (.invokevirtual 57, 3) := by decide +kernel
theorem dL_why_6 : decode cL_why 6 = .ok (.ireturn, 1) := by decide +kernel
theorem dL_why_7 : decode cL_why 7 = .ok (.astore_n 3, 1) := by decide +kernel
theorem dL_why_8 : decode cL_why 8 = .ok (.iconst (-1), 1) := by decide +kernel
theorem dL_why_9 : decode cL_why 9 = .ok (.ireturn, 1) := by decide +kernel
theorem dL_fitting_0 : decode cL_fitting 0 = .ok (.aload_n 0, 1) := by decide +kernel
theorem dL_fitting_1 : decode cL_fitting 1 = .ok (.iload_n 1, 1) := by decide +kernel
theorem dL_fitting_2 : decode cL_fitting 2 = .ok (.invokevirtual 61, 3) := by decide +kernel
theorem dL_fitting_5 : decode cL_fitting 5 = .ok (.ireturn, 1) := by decide +kernel
theorem dL_fitting_6 : decode cL_fitting 6 = .ok (.astore_n 2, 1) := by decide +kernel
theorem dL_fitting_7 : decode cL_fitting 7 = .ok (.iconst (-1), 1) := by decide +kernel
theorem dL_fitting_8 : decode cL_fitting 8 = .ok (.ireturn, 1) := by decide +kernel
theorem dL_firstFitting_0 : decode cL_firstFitting 0 = .ok (.aload_n 0, 1) := by decide +kernel
theorem dL_firstFitting_1 : decode cL_firstFitting 1 = .ok (.iload_n 1, 1) := by decide +kernel
theorem dL_firstFitting_2 : decode cL_firstFitting 2 = .ok (.invokevirtual 64, 3) := by decide +kernel
theorem dL_firstFitting_5 : decode cL_firstFitting 5 = .ok (.ireturn, 1) := by decide +kernel
theorem dL_firstFitting_6 : decode cL_firstFitting 6 = .ok (.astore_n 2, 1) := by decide +kernel
theorem dL_firstFitting_7 : decode cL_firstFitting 7 = .ok (.iconst (-1), 1) := by decide +kernel
theorem dL_firstFitting_8 : decode cL_firstFitting 8 = .ok (.ireturn, 1) := by decide +kernel
theorem dL_firstFitting_9 : decode cL_firstFitting 9 = .ok (.astore_n 2, 1) := by decide +kernel
theorem dL_firstFitting_10 : decode cL_firstFitting 10 = .ok (.bipush (-2), 2) := by decide +kernel
theorem dL_firstFitting_12 : decode cL_firstFitting 12 = .ok (.ireturn, 1) := by decide +kernel
theorem dL_unitsForAll_0 : decode cL_unitsForAll 0 = .ok (.aload_n 0, 1) := by decide +kernel
theorem dL_unitsForAll_1 : decode cL_unitsForAll 1 = .ok (.iload_n 1, 1) := by decide +kernel
theorem dL_unitsForAll_2 : decode cL_unitsForAll 2 = .ok (.invokevirtual 69, 3) := by decide +kernel
theorem dL_unitsForAll_5 : decode cL_unitsForAll 5 = .ok (.ireturn, 1) := by decide +kernel
theorem dL_unitsForAll_6 : decode cL_unitsForAll 6 = .ok (.astore_n 2, 1) := by decide +kernel
theorem dL_unitsForAll_7 : decode cL_unitsForAll 7 = .ok (.iconst (-1), 1) := by decide +kernel
theorem dL_unitsForAll_8 : decode cL_unitsForAll 8 = .ok (.ireturn, 1) := by decide +kernel
theorem dL_coveredByTrying_0 : decode cL_coveredByTrying 0 = .ok (.aload_n 0, 1) := by decide +kernel
theorem dL_coveredByTrying_1 : decode cL_coveredByTrying 1 = .ok (.invokevirtual 72, 3) := by decide +kernel
theorem dL_coveredByTrying_4 : decode cL_coveredByTrying 4 = .ok (.ireturn, 1) := by decide +kernel
theorem dL_coveredByTrying_5 : decode cL_coveredByTrying 5 = .ok (.astore_n 1, 1) := by decide +kernel
theorem dL_coveredByTrying_6 : decode cL_coveredByTrying 6 = .ok (.iconst (-1), 1) := by decide +kernel
theorem dL_coveredByTrying_7 : decode cL_coveredByTrying 7 = .ok (.ireturn, 1) := by decide +kernel
theorem dL_entitlementOf_0 : decode cL_entitlementOf 0 = .ok (.aload_n 0, 1) := by decide +kernel
theorem dL_entitlementOf_1 : decode cL_entitlementOf 1 = .ok (.iload_n 1, 1) := by decide +kernel
theorem dL_entitlementOf_2 : decode cL_entitlementOf 2 = .ok (.invokevirtual 76, 3) := by decide +kernel
theorem dL_entitlementOf_5 : decode cL_entitlementOf 5 = .ok (.ireturn, 1) := by decide +kernel
theorem dL_entitlementOf_6 : decode cL_entitlementOf 6 = .ok (.astore_n 2, 1) := by decide +kernel
theorem dL_entitlementOf_7 : decode cL_entitlementOf 7 = .ok (.iconst (-1), 1) := by decide +kernel
theorem dL_entitlementOf_8 : decode cL_entitlementOf 8 = .ok (.ireturn, 1) := by decide +kernel
theorem dL_entitlementOf_9 : decode cL_entitlementOf 9 = .ok (.astore_n 2, 1) := by decide +kernel
theorem dL_entitlementOf_10 : decode cL_entitlementOf 10 = .ok (.bipush (-2), 2) := by decide +kernel
theorem dL_entitlementOf_12 : decode cL_entitlementOf 12 = .ok (.ireturn, 1) := by decide +kernel
theorem dL_reason_0 : decode cL_reason 0 = .ok (.aload_n 0, 1) := by decide +kernel
theorem dL_reason_1 : decode cL_reason 1 = .ok (.iload_n 1, 1) := by decide +kernel
theorem dL_reason_2 : decode cL_reason 2 = .ok (.invokevirtual 79, 3) := by decide +kernel
theorem dL_reason_5 : decode cL_reason 5 = .ok (.ireturn, 1) := by decide +kernel
theorem dL_reason_6 : decode cL_reason 6 = .ok (.astore_n 2, 1) := by decide +kernel
theorem dL_reason_7 : decode cL_reason 7 = .ok (.iconst (-1), 1) := by decide +kernel
theorem dL_reason_8 : decode cL_reason 8 = .ok (.ireturn, 1) := by decide +kernel
theorem dL_used_0 : decode cL_used 0 = .ok (.aload_n 0, 1) := by decide +kernel
theorem dL_used_1 : decode cL_used 1 = .ok (.iload_n 1, 1) := by decide +kernel
theorem dL_used_2 : decode cL_used 2 = .ok (.invokevirtual 83, 3) := by decide +kernel
theorem dL_used_5 : decode cL_used 5 = .ok (.ireturn, 1) := by decide +kernel
theorem dL_used_6 : decode cL_used 6 = .ok (.astore_n 2, 1) := by decide +kernel
theorem dL_used_7 : decode cL_used 7 = .ok (.iconst (-1), 1) := by decide +kernel
theorem dL_used_8 : decode cL_used 8 = .ok (.ireturn, 1) := by decide +kernel
theorem dL_spare_0 : decode cL_spare 0 = .ok (.aload_n 0, 1) := by decide +kernel
theorem dL_spare_1 : decode cL_spare 1 = .ok (.iload_n 1, 1) := by decide +kernel
theorem dL_spare_2 : decode cL_spare 2 = .ok (.invokevirtual 86, 3) := by decide +kernel
theorem dL_spare_5 : decode cL_spare 5 = .ok (.ireturn, 1) := by decide +kernel
theorem dL_spare_6 : decode cL_spare 6 = .ok (.astore_n 2, 1) := by decide +kernel
theorem dL_spare_7 : decode cL_spare 7 = .ok (.iconst (-1), 1) := by decide +kernel
theorem dL_spare_8 : decode cL_spare 8 = .ok (.ireturn, 1) := by decide +kernel
theorem dL_purchase_0 : decode cL_purchase 0 = .ok (.aload_n 0, 1) := by decide +kernel
theorem dL_purchase_1 : decode cL_purchase 1 = .ok (.invokevirtual 89, 3) := by decide +kernel
theorem dL_purchase_4 : decode cL_purchase 4 = .ok (.ireturn, 1) := by decide +kernel
theorem dL_purchase_5 : decode cL_purchase 5 = .ok (.astore_n 1, 1) := by decide +kernel
theorem dL_purchase_6 : decode cL_purchase 6 = .ok (.iconst (-1), 1) := by decide +kernel
theorem dL_purchase_7 : decode cL_purchase 7 = .ok (.ireturn, 1) := by decide +kernel
theorem dL_purchaseByTrying_0 : decode cL_purchaseByTrying 0 = .ok (.aload_n 0, 1) := by decide +kernel
theorem dL_purchaseByTrying_1 : decode cL_purchaseByTrying 1 = .ok (.invokevirtual 92, 3) := by decide +kernel
theorem dL_purchaseByTrying_4 : decode cL_purchaseByTrying 4 = .ok (.ireturn, 1) := by decide +kernel
theorem dL_purchaseByTrying_5 : decode cL_purchaseByTrying 5 = .ok (.astore_n 1, 1) := by decide +kernel
theorem dL_purchaseByTrying_6 : decode cL_purchaseByTrying 6 = .ok (.iconst (-1), 1) := by decide +kernel
theorem dL_purchaseByTrying_7 : decode cL_purchaseByTrying 7 = .ok (.ireturn, 1) := by decide +kernel
theorem dL_purchaseByTrying_8 : decode cL_purchaseByTrying 8 = .ok (.astore_n 1, 1) := by decide +kernel
theorem dL_purchaseByTrying_9 : decode cL_purchaseByTrying 9 = .ok (.bipush (-2), 2) := by decide +kernel
theorem dL_purchaseByTrying_11 : decode cL_purchaseByTrying 11 = .ok (.ireturn, 1) := by decide +kernel
theorem dL_toBuy_0 : decode cL_toBuy 0 = .ok (.aload_n 0, 1) := by decide +kernel
theorem dL_toBuy_1 : decode cL_toBuy 1 = .ok (.iload_n 1, 1) := by decide +kernel
theorem dL_toBuy_2 : decode cL_toBuy 2 = .ok (.invokevirtual 95, 3) := by decide +kernel
theorem dL_toBuy_5 : decode cL_toBuy 5 = .ok (.ireturn, 1) := by decide +kernel
theorem dL_toBuy_6 : decode cL_toBuy 6 = .ok (.astore_n 2, 1) := by decide +kernel
theorem dL_toBuy_7 : decode cL_toBuy 7 = .ok (.iconst (-1), 1) := by decide +kernel
theorem dL_toBuy_8 : decode cL_toBuy 8 = .ok (.ireturn, 1) := by decide +kernel
theorem dL_toBuy_9 : decode cL_toBuy 9 = .ok (.astore_n 2, 1) := by decide +kernel
theorem dL_toBuy_10 : decode cL_toBuy 10 = .ok (.bipush (-2), 2) := by decide +kernel
theorem dL_toBuy_12 : decode cL_toBuy 12 = .ok (.ireturn, 1) := by decide +kernel
theorem dL_trueUp_0 : decode cL_trueUp 0 = .ok (.aload_n 0, 1) := by decide +kernel
theorem dL_trueUp_1 : decode cL_trueUp 1 = .ok (.invokevirtual 98, 3) := by decide +kernel
theorem dL_trueUp_4 : decode cL_trueUp 4 = .ok (.ireturn, 1) := by decide +kernel
theorem dL_trueUp_5 : decode cL_trueUp 5 = .ok (.astore_n 1, 1) := by decide +kernel
theorem dL_trueUp_6 : decode cL_trueUp 6 = .ok (.iconst (-1), 1) := by decide +kernel
theorem dL_trueUp_7 : decode cL_trueUp 7 = .ok (.ireturn, 1) := by decide +kernel
theorem dL_coverage_0 : decode cL_coverage 0 = .ok (.aload_n 0, 1) := by decide +kernel
theorem dL_coverage_1 : decode cL_coverage 1 = .ok (.invokevirtual 101, 3) := by decide +kernel
theorem dL_coverage_4 : decode cL_coverage 4 = .ok (.freturn, 1) := by decide +kernel
theorem dL_coverage_5 : decode cL_coverage 5 = .ok (.astore_n 1, 1) := by decide +kernel
theorem dL_coverage_6 : decode cL_coverage 6 = .ok (.ldc 105, 2) := by decide +kernel
theorem dL_coverage_8 : decode cL_coverage 8 = .ok (.freturn, 1) := by decide +kernel
theorem dL_acts_0 : decode cL_acts 0 = .ok (.aload_n 2, 1) := by decide +kernel
theorem dL_acts_1 : decode cL_acts 1 = .ok (.bipush 30, 2) := by decide +kernel
theorem dL_acts_3 : decode cL_acts 3 = .ok (.invokevirtual 106, 3) := by decide +kernel
theorem dL_acts_6 : decode cL_acts 6 = .ok (.ifCond .ne 8, 3) := by decide +kernel
theorem dL_acts_9 : decode cL_acts 9 = .ok (.bipush 12, 2) := by decide +kernel
theorem dL_acts_11 : decode cL_acts 11 = .ok (.goto 9, 3) := by decide +kernel
theorem dL_acts_14 : decode cL_acts 14 = .ok (.aload_n 2, 1) := by decide +kernel
theorem dL_acts_15 : decode cL_acts 15 = .ok (.bipush 9, 2) := by decide +kernel
theorem dL_acts_17 : decode cL_acts 17 = .ok (.invokevirtual 106, 3) := by decide +kernel
theorem dL_acts_20 : decode cL_acts 20 = .ok (.istore_n 3, 1) := by decide +kernel
theorem dL_acts_21 : decode cL_acts 21 = .ok (.aload_n 2, 1) := by decide +kernel
theorem dL_acts_22 : decode cL_acts 22 = .ok (.bipush 30, 2) := by decide +kernel
theorem dL_acts_24 : decode cL_acts 24 = .ok (.invokevirtual 106, 3) := by decide +kernel
theorem dL_acts_27 : decode cL_acts 27 = .ok (.ifCond .ne 7, 3) := by decide +kernel
theorem dL_acts_30 : decode cL_acts 30 = .ok (.iconst 5, 1) := by decide +kernel
theorem dL_acts_31 : decode cL_acts 31 = .ok (.goto 8, 3) := by decide +kernel
theorem dL_acts_34 : decode cL_acts 34 = .ok (.aload_n 2, 1) := by decide +kernel
theorem dL_acts_35 : decode cL_acts 35 = .ok (.iconst 3, 1) := by decide +kernel
theorem dL_acts_36 : decode cL_acts 36 = .ok (.invokevirtual 106, 3) := by decide +kernel
theorem dL_acts_39 : decode cL_acts 39 = .ok (.istore 4, 2) := by decide +kernel
theorem dL_acts_41 : decode cL_acts 41 = .ok (.aload_n 2, 1) := by decide +kernel
theorem dL_acts_42 : decode cL_acts 42 = .ok (.bipush 30, 2) := by decide +kernel
theorem dL_acts_44 : decode cL_acts 44 = .ok (.invokevirtual 106, 3) := by decide +kernel
theorem dL_acts_47 : decode cL_acts 47 = .ok (.ifCond .ne 7, 3) := by decide +kernel
theorem dL_acts_50 : decode cL_acts 50 = .ok (.iconst 1, 1) := by decide +kernel
theorem dL_acts_51 : decode cL_acts 51 = .ok (.goto 4, 3) := by decide +kernel
theorem dL_acts_54 : decode cL_acts 54 = .ok (.iconst 0, 1) := by decide +kernel
theorem dL_acts_55 : decode cL_acts 55 = .ok (.istore 5, 2) := by decide +kernel
theorem dL_acts_57 : decode cL_acts 57 = .ok (.iload_n 1, 1) := by decide +kernel
theorem dL_acts_58 : decode cL_acts 58 = .ok (.bipush 30, 2) := by decide +kernel
theorem dL_acts_60 : decode cL_acts 60 = .ok (.irem, 1) := by decide +kernel
theorem dL_acts_61 : decode cL_acts 61 = .ok (.tableswitch 414 0 20 #[99, 99, 99, 99, 99, 155, 161, 161, 187, 187, 216, 236, 236, 236, 295, 295, 295, 295, 341, 366, 390], 99) := by decide +kernel
theorem dL_acts_160 : decode cL_acts 160 = .ok (.aload_n 0, 1) := by decide +kernel
theorem dL_acts_161 : decode cL_acts 161 = .ok (.iload 5, 2) := by decide +kernel
theorem dL_acts_163 : decode cL_acts 163 = .ok (.ifCond .eq 7, 3) := by decide +kernel
theorem dL_acts_166 : decode cL_acts 166 = .ok (.iconst 4, 1) := by decide +kernel
theorem dL_acts_167 : decode cL_acts 167 = .ok (.goto 8, 3) := by decide +kernel
theorem dL_acts_170 : decode cL_acts 170 = .ok (.aload_n 2, 1) := by decide +kernel
theorem dL_acts_171 : decode cL_acts 171 = .ok (.iconst 3, 1) := by decide +kernel
theorem dL_acts_172 : decode cL_acts 172 = .ok (.invokevirtual 106, 3) := by decide +kernel
theorem dL_acts_175 : decode cL_acts 175 = .ok (.iconst 1, 1) := by decide +kernel
theorem dL_acts_176 : decode cL_acts 176 = .ok (.aload_n 2, 1) := by decide +kernel
theorem dL_acts_177 : decode cL_acts 177 = .ok (.iconst 3, 1) := by decide +kernel
theorem dL_acts_178 : decode cL_acts 178 = .ok (.invokevirtual 106, 3) := by decide +kernel
theorem dL_acts_181 : decode cL_acts 181 = .ok (.iadd, 1) := by decide +kernel
theorem dL_acts_182 : decode cL_acts 182 = .ok (.iconst 1, 1) := by decide +kernel
theorem dL_acts_183 : decode cL_acts 183 = .ok (.aload_n 2, 1) := by decide +kernel
theorem dL_acts_184 : decode cL_acts 184 = .ok (.iconst 2, 1) := by decide +kernel
theorem dL_acts_185 : decode cL_acts 185 = .ok (.invokevirtual 106, 3) := by decide +kernel
theorem dL_acts_188 : decode cL_acts 188 = .ok (.iadd, 1) := by decide +kernel
theorem dL_acts_189 : decode cL_acts 189 = .ok (.aload_n 2, 1) := by decide +kernel
theorem dL_acts_190 : decode cL_acts 190 = .ok (.iconst 3, 1) := by decide +kernel
theorem dL_acts_191 : decode cL_acts 191 = .ok (.invokevirtual 106, 3) := by decide +kernel
theorem dL_acts_194 : decode cL_acts 194 = .ok (.aload_n 2, 1) := by decide +kernel
theorem dL_acts_195 : decode cL_acts 195 = .ok (.iconst 3, 1) := by decide +kernel
theorem dL_acts_196 : decode cL_acts 196 = .ok (.invokevirtual 106, 3) := by decide +kernel
theorem dL_acts_199 : decode cL_acts 199 = .ok (.iconst 1, 1) := by decide +kernel
theorem dL_acts_200 : decode cL_acts 200 = .ok (.aload_n 2, 1) := by decide +kernel
theorem dL_acts_201 : decode cL_acts 201 = .ok (.bipush 8, 2) := by decide +kernel
theorem dL_acts_203 : decode cL_acts 203 = .ok (.invokevirtual 106, 3) := by decide +kernel
theorem dL_acts_206 : decode cL_acts 206 = .ok (.iadd, 1) := by decide +kernel
theorem dL_acts_207 : decode cL_acts 207 = .ok (.aload_n 2, 1) := by decide +kernel
theorem dL_acts_208 : decode cL_acts 208 = .ok (.iconst 2, 1) := by decide +kernel
theorem dL_acts_209 : decode cL_acts 209 = .ok (.invokevirtual 106, 3) := by decide +kernel
theorem dL_acts_212 : decode cL_acts 212 = .ok (.invokestatic 111, 3) := by decide +kernel
theorem dL_acts_215 : decode cL_acts 215 = .ok (.ireturn, 1) := by decide +kernel
theorem dL_acts_216 : decode cL_acts 216 = .ok (.aload_n 0, 1) := by decide +kernel
theorem dL_acts_217 : decode cL_acts 217 = .ok (.iload_n 3, 1) := by decide +kernel
theorem dL_acts_218 : decode cL_acts 218 = .ok (.invokestatic 116, 3) := by decide +kernel
theorem dL_acts_221 : decode cL_acts 221 = .ok (.ireturn, 1) := by decide +kernel
theorem dL_acts_222 : decode cL_acts 222 = .ok (.aload_n 0, 1) := by decide +kernel
theorem dL_acts_223 : decode cL_acts 223 = .ok (.iload_n 3, 1) := by decide +kernel
theorem dL_acts_224 : decode cL_acts 224 = .ok (.iload 5, 2) := by decide +kernel
theorem dL_acts_226 : decode cL_acts 226 = .ok (.ifCond .eq 8, 3) := by decide +kernel
theorem dL_acts_229 : decode cL_acts 229 = .ok (.bipush 10, 2) := by decide +kernel
theorem dL_acts_231 : decode cL_acts 231 = .ok (.goto 8, 3) := by decide +kernel
theorem dL_acts_234 : decode cL_acts 234 = .ok (.aload_n 2, 1) := by decide +kernel
theorem dL_acts_235 : decode cL_acts 235 = .ok (.iconst 3, 1) := by decide +kernel
theorem dL_acts_236 : decode cL_acts 236 = .ok (.invokevirtual 106, 3) := by decide +kernel
theorem dL_acts_239 : decode cL_acts 239 = .ok (.aload_n 2, 1) := by decide +kernel
theorem dL_acts_240 : decode cL_acts 240 = .ok (.iconst 3, 1) := by decide +kernel
theorem dL_acts_241 : decode cL_acts 241 = .ok (.invokevirtual 106, 3) := by decide +kernel
theorem dL_acts_244 : decode cL_acts 244 = .ok (.invokestatic 119, 3) := by decide +kernel
theorem dL_acts_247 : decode cL_acts 247 = .ok (.ireturn, 1) := by decide +kernel
theorem dL_acts_248 : decode cL_acts 248 = .ok (.aload_n 0, 1) := by decide +kernel
theorem dL_acts_249 : decode cL_acts 249 = .ok (.iload_n 3, 1) := by decide +kernel
theorem dL_acts_250 : decode cL_acts 250 = .ok (.iconst 1, 1) := by decide +kernel
theorem dL_acts_251 : decode cL_acts 251 = .ok (.aload_n 2, 1) := by decide +kernel
theorem dL_acts_252 : decode cL_acts 252 = .ok (.iconst 3, 1) := by decide +kernel
theorem dL_acts_253 : decode cL_acts 253 = .ok (.invokevirtual 106, 3) := by decide +kernel
theorem dL_acts_256 : decode cL_acts 256 = .ok (.iadd, 1) := by decide +kernel
theorem dL_acts_257 : decode cL_acts 257 = .ok (.iload 5, 2) := by decide +kernel
theorem dL_acts_259 : decode cL_acts 259 = .ok (.ifCond .eq 7, 3) := by decide +kernel
theorem dL_acts_262 : decode cL_acts 262 = .ok (.iconst 4, 1) := by decide +kernel
theorem dL_acts_263 : decode cL_acts 263 = .ok (.goto 10, 3) := by decide +kernel
theorem dL_acts_266 : decode cL_acts 266 = .ok (.iconst 1, 1) := by decide +kernel
theorem dL_acts_267 : decode cL_acts 267 = .ok (.aload_n 2, 1) := by decide +kernel
theorem dL_acts_268 : decode cL_acts 268 = .ok (.iconst 2, 1) := by decide +kernel
theorem dL_acts_269 : decode cL_acts 269 = .ok (.invokevirtual 106, 3) := by decide +kernel
theorem dL_acts_272 : decode cL_acts 272 = .ok (.iadd, 1) := by decide +kernel
theorem dL_acts_273 : decode cL_acts 273 = .ok (.invokestatic 122, 3) := by decide +kernel
theorem dL_acts_276 : decode cL_acts 276 = .ok (.ireturn, 1) := by decide +kernel
theorem dL_acts_277 : decode cL_acts 277 = .ok (.aload_n 0, 1) := by decide +kernel
theorem dL_acts_278 : decode cL_acts 278 = .ok (.iload_n 3, 1) := by decide +kernel
theorem dL_acts_279 : decode cL_acts 279 = .ok (.iload 5, 2) := by decide +kernel
theorem dL_acts_281 : decode cL_acts 281 = .ok (.ifCond .eq 7, 3) := by decide +kernel
theorem dL_acts_284 : decode cL_acts 284 = .ok (.iconst 3, 1) := by decide +kernel
theorem dL_acts_285 : decode cL_acts 285 = .ok (.goto 8, 3) := by decide +kernel
theorem dL_acts_288 : decode cL_acts 288 = .ok (.aload_n 2, 1) := by decide +kernel
theorem dL_acts_289 : decode cL_acts 289 = .ok (.iconst 2, 1) := by decide +kernel
theorem dL_acts_290 : decode cL_acts 290 = .ok (.invokevirtual 106, 3) := by decide +kernel
theorem dL_acts_293 : decode cL_acts 293 = .ok (.invokestatic 124, 3) := by decide +kernel
theorem dL_acts_296 : decode cL_acts 296 = .ok (.ireturn, 1) := by decide +kernel
theorem dL_acts_297 : decode cL_acts 297 = .ok (.aload_n 0, 1) := by decide +kernel
theorem dL_acts_298 : decode cL_acts 298 = .ok (.iload 5, 2) := by decide +kernel
theorem dL_acts_300 : decode cL_acts 300 = .ok (.ifCond .eq 8, 3) := by decide +kernel
theorem dL_acts_303 : decode cL_acts 303 = .ok (.bipush 16, 2) := by decide +kernel
theorem dL_acts_305 : decode cL_acts 305 = .ok (.goto 11, 3) := by decide +kernel
theorem dL_acts_308 : decode cL_acts 308 = .ok (.iconst 1, 1) := by decide +kernel
theorem dL_acts_309 : decode cL_acts 309 = .ok (.aload_n 2, 1) := by decide +kernel
theorem dL_acts_310 : decode cL_acts 310 = .ok (.bipush 15, 2) := by decide +kernel
theorem dL_acts_312 : decode cL_acts 312 = .ok (.invokevirtual 106, 3) := by decide +kernel
theorem dL_acts_315 : decode cL_acts 315 = .ok (.iadd, 1) := by decide +kernel
theorem dL_acts_316 : decode cL_acts 316 = .ok (.iconst 1, 1) := by decide +kernel
theorem dL_acts_317 : decode cL_acts 317 = .ok (.aload_n 2, 1) := by decide +kernel
theorem dL_acts_318 : decode cL_acts 318 = .ok (.iconst 3, 1) := by decide +kernel
theorem dL_acts_319 : decode cL_acts 319 = .ok (.invokevirtual 106, 3) := by decide +kernel
theorem dL_acts_322 : decode cL_acts 322 = .ok (.iadd, 1) := by decide +kernel
theorem dL_acts_323 : decode cL_acts 323 = .ok (.iconst 1, 1) := by decide +kernel
theorem dL_acts_324 : decode cL_acts 324 = .ok (.aload_n 2, 1) := by decide +kernel
theorem dL_acts_325 : decode cL_acts 325 = .ok (.iconst 2, 1) := by decide +kernel
theorem dL_acts_326 : decode cL_acts 326 = .ok (.invokevirtual 106, 3) := by decide +kernel
theorem dL_acts_329 : decode cL_acts 329 = .ok (.iadd, 1) := by decide +kernel
theorem dL_acts_330 : decode cL_acts 330 = .ok (.ldc 127, 2) := by decide +kernel
theorem dL_acts_332 : decode cL_acts 332 = .ok (.aload_n 2, 1) := by decide +kernel
theorem dL_acts_333 : decode cL_acts 333 = .ok (.iconst 3, 1) := by decide +kernel
theorem dL_acts_334 : decode cL_acts 334 = .ok (.invokevirtual 106, 3) := by decide +kernel
theorem dL_acts_337 : decode cL_acts 337 = .ok (.invokevirtual 129, 3) := by decide +kernel
theorem dL_acts_340 : decode cL_acts 340 = .ok (.aload_n 2, 1) := by decide +kernel
theorem dL_acts_341 : decode cL_acts 341 = .ok (.iconst 5, 1) := by decide +kernel
theorem dL_acts_342 : decode cL_acts 342 = .ok (.invokevirtual 106, 3) := by decide +kernel
theorem dL_acts_345 : decode cL_acts 345 = .ok (.aload_n 2, 1) := by decide +kernel
theorem dL_acts_346 : decode cL_acts 346 = .ok (.iconst 3, 1) := by decide +kernel
theorem dL_acts_347 : decode cL_acts 347 = .ok (.invokevirtual 106, 3) := by decide +kernel
theorem dL_acts_350 : decode cL_acts 350 = .ok (.iconst 1, 1) := by decide +kernel
theorem dL_acts_351 : decode cL_acts 351 = .ok (.isub, 1) := by decide +kernel
theorem dL_acts_352 : decode cL_acts 352 = .ok (.invokestatic 134, 3) := by decide +kernel
theorem dL_acts_355 : decode cL_acts 355 = .ok (.ireturn, 1) := by decide +kernel
theorem dL_acts_356 : decode cL_acts 356 = .ok (.aload_n 0, 1) := by decide +kernel
theorem dL_acts_357 : decode cL_acts 357 = .ok (.iload 4, 2) := by decide +kernel
theorem dL_acts_359 : decode cL_acts 359 = .ok (.aload_n 2, 1) := by decide +kernel
theorem dL_acts_360 : decode cL_acts 360 = .ok (.iconst 2, 1) := by decide +kernel
theorem dL_acts_361 : decode cL_acts 361 = .ok (.invokevirtual 106, 3) := by decide +kernel
theorem dL_acts_364 : decode cL_acts 364 = .ok (.ifCond .ne 7, 3) := by decide +kernel
theorem dL_acts_367 : decode cL_acts 367 = .ok (.iconst 1, 1) := by decide +kernel
theorem dL_acts_368 : decode cL_acts 368 = .ok (.goto 4, 3) := by decide +kernel
theorem dL_acts_371 : decode cL_acts 371 = .ok (.iconst 0, 1) := by decide +kernel
theorem dL_acts_372 : decode cL_acts 372 = .ok (.aload_n 2, 1) := by decide +kernel
theorem dL_acts_373 : decode cL_acts 373 = .ok (.iconst 2, 1) := by decide +kernel
theorem dL_acts_374 : decode cL_acts 374 = .ok (.invokevirtual 106, 3) := by decide +kernel
theorem dL_acts_377 : decode cL_acts 377 = .ok (.ifCond .ne 7, 3) := by decide +kernel
theorem dL_acts_380 : decode cL_acts 380 = .ok (.iconst 1, 1) := by decide +kernel
theorem dL_acts_381 : decode cL_acts 381 = .ok (.goto 4, 3) := by decide +kernel
theorem dL_acts_384 : decode cL_acts 384 = .ok (.iconst 0, 1) := by decide +kernel
theorem dL_acts_385 : decode cL_acts 385 = .ok (.aload_n 2, 1) := by decide +kernel
theorem dL_acts_386 : decode cL_acts 386 = .ok (.iconst 2, 1) := by decide +kernel
theorem dL_acts_387 : decode cL_acts 387 = .ok (.invokevirtual 106, 3) := by decide +kernel
theorem dL_acts_390 : decode cL_acts 390 = .ok (.ifCond .ne 7, 3) := by decide +kernel
theorem dL_acts_393 : decode cL_acts 393 = .ok (.iconst 1, 1) := by decide +kernel
theorem dL_acts_394 : decode cL_acts 394 = .ok (.goto 4, 3) := by decide +kernel
theorem dL_acts_397 : decode cL_acts 397 = .ok (.iconst 0, 1) := by decide +kernel
theorem dL_acts_398 : decode cL_acts 398 = .ok (.invokestatic 137, 3) := by decide +kernel
theorem dL_acts_401 : decode cL_acts 401 = .ok (.ireturn, 1) := by decide +kernel
theorem dL_acts_402 : decode cL_acts 402 = .ok (.aload_n 0, 1) := by decide +kernel
theorem dL_acts_403 : decode cL_acts 403 = .ok (.iload 4, 2) := by decide +kernel
theorem dL_acts_405 : decode cL_acts 405 = .ok (.iload 5, 2) := by decide +kernel
theorem dL_acts_407 : decode cL_acts 407 = .ok (.ifCond .eq 8, 3) := by decide +kernel
theorem dL_acts_410 : decode cL_acts 410 = .ok (.bipush 17, 2) := by decide +kernel
theorem dL_acts_412 : decode cL_acts 412 = .ok (.goto 11, 3) := by decide +kernel
theorem dL_acts_415 : decode cL_acts 415 = .ok (.iconst 1, 1) := by decide +kernel
theorem dL_acts_416 : decode cL_acts 416 = .ok (.aload_n 2, 1) := by decide +kernel
theorem dL_acts_417 : decode cL_acts 417 = .ok (.bipush 6, 2) := by decide +kernel
theorem dL_acts_419 : decode cL_acts 419 = .ok (.invokevirtual 106, 3) := by decide +kernel
theorem dL_acts_422 : decode cL_acts 422 = .ok (.iadd, 1) := by decide +kernel
theorem dL_acts_423 : decode cL_acts 423 = .ok (.invokestatic 140, 3) := by decide +kernel
theorem dL_acts_426 : decode cL_acts 426 = .ok (.ireturn, 1) := by decide +kernel
theorem dL_acts_427 : decode cL_acts 427 = .ok (.aload_n 0, 1) := by decide +kernel
theorem dL_acts_428 : decode cL_acts 428 = .ok (.iload 4, 2) := by decide +kernel
theorem dL_acts_430 : decode cL_acts 430 = .ok (.iload 5, 2) := by decide +kernel
theorem dL_acts_432 : decode cL_acts 432 = .ok (.ifCond .eq 7, 3) := by decide +kernel
theorem dL_acts_435 : decode cL_acts 435 = .ok (.iconst 0, 1) := by decide +kernel
theorem dL_acts_436 : decode cL_acts 436 = .ok (.goto 11, 3) := by decide +kernel
theorem dL_acts_439 : decode cL_acts 439 = .ok (.iconst 1, 1) := by decide +kernel
theorem dL_acts_440 : decode cL_acts 440 = .ok (.aload_n 2, 1) := by decide +kernel
theorem dL_acts_441 : decode cL_acts 441 = .ok (.bipush 30, 2) := by decide +kernel
theorem dL_acts_443 : decode cL_acts 443 = .ok (.invokevirtual 106, 3) := by decide +kernel
theorem dL_acts_446 : decode cL_acts 446 = .ok (.iadd, 1) := by decide +kernel
theorem dL_acts_447 : decode cL_acts 447 = .ok (.invokestatic 142, 3) := by decide +kernel
theorem dL_acts_450 : decode cL_acts 450 = .ok (.ireturn, 1) := by decide +kernel
theorem dL_acts_451 : decode cL_acts 451 = .ok (.aload_n 0, 1) := by decide +kernel
theorem dL_acts_452 : decode cL_acts 452 = .ok (.iload 4, 2) := by decide +kernel
theorem dL_acts_454 : decode cL_acts 454 = .ok (.iload 5, 2) := by decide +kernel
theorem dL_acts_456 : decode cL_acts 456 = .ok (.ifCond .eq 8, 3) := by decide +kernel
theorem dL_acts_459 : decode cL_acts 459 = .ok (.bipush 100, 2) := by decide +kernel
theorem dL_acts_461 : decode cL_acts 461 = .ok (.goto 10, 3) := by decide +kernel
theorem dL_acts_464 : decode cL_acts 464 = .ok (.iconst 1, 1) := by decide +kernel
theorem dL_acts_465 : decode cL_acts 465 = .ok (.aload_n 2, 1) := by decide +kernel
theorem dL_acts_466 : decode cL_acts 466 = .ok (.iconst 3, 1) := by decide +kernel
theorem dL_acts_467 : decode cL_acts 467 = .ok (.invokevirtual 106, 3) := by decide +kernel
theorem dL_acts_470 : decode cL_acts 470 = .ok (.iadd, 1) := by decide +kernel
theorem dL_acts_471 : decode cL_acts 471 = .ok (.invokestatic 144, 3) := by decide +kernel
theorem dL_acts_474 : decode cL_acts 474 = .ok (.ireturn, 1) := by decide +kernel
theorem dL_acts_475 : decode cL_acts 475 = .ok (.iload_n 1, 1) := by decide +kernel
theorem dL_acts_476 : decode cL_acts 476 = .ok (.bipush 30, 2) := by decide +kernel
theorem dL_acts_478 : decode cL_acts 478 = .ok (.irem, 1) := by decide +kernel
theorem dL_acts_479 : decode cL_acts 479 = .ok (.bipush 21, 2) := by decide +kernel
theorem dL_acts_481 : decode cL_acts 481 = .ok (.if_icmp .ne 10, 3) := by decide +kernel
theorem dL_acts_484 : decode cL_acts 484 = .ok (.aload_n 0, 1) := by decide +kernel
theorem dL_acts_485 : decode cL_acts 485 = .ok (.invokestatic 146, 3) := by decide +kernel
theorem dL_acts_488 : decode cL_acts 488 = .ok (.goto 65, 3) := by decide +kernel
theorem dL_acts_491 : decode cL_acts 491 = .ok (.iload_n 1, 1) := by decide +kernel
theorem dL_acts_492 : decode cL_acts 492 = .ok (.bipush 30, 2) := by decide +kernel
theorem dL_acts_494 : decode cL_acts 494 = .ok (.irem, 1) := by decide +kernel
theorem dL_acts_495 : decode cL_acts 495 = .ok (.bipush 26, 2) := by decide +kernel
theorem dL_acts_497 : decode cL_acts 497 = .ok (.if_icmp .ge 41, 3) := by decide +kernel
theorem dL_acts_500 : decode cL_acts 500 = .ok (.aload_n 0, 1) := by decide +kernel
theorem dL_acts_501 : decode cL_acts 501 = .ok (.aload_n 2, 1) := by decide +kernel
theorem dL_acts_502 : decode cL_acts 502 = .ok (.iconst 2, 1) := by decide +kernel
theorem dL_acts_503 : decode cL_acts 503 = .ok (.invokevirtual 106, 3) := by decide +kernel
theorem dL_acts_506 : decode cL_acts 506 = .ok (.iconst 1, 1) := by decide +kernel
theorem dL_acts_507 : decode cL_acts 507 = .ok (.aload_n 2, 1) := by decide +kernel
theorem dL_acts_508 : decode cL_acts 508 = .ok (.iconst 2, 1) := by decide +kernel
theorem dL_acts_509 : decode cL_acts 509 = .ok (.invokevirtual 106, 3) := by decide +kernel
theorem dL_acts_512 : decode cL_acts 512 = .ok (.iadd, 1) := by decide +kernel
theorem dL_acts_513 : decode cL_acts 513 = .ok (.iconst 1, 1) := by decide +kernel
theorem dL_acts_514 : decode cL_acts 514 = .ok (.aload_n 2, 1) := by decide +kernel
theorem dL_acts_515 : decode cL_acts 515 = .ok (.iconst 2, 1) := by decide +kernel
theorem dL_acts_516 : decode cL_acts 516 = .ok (.invokevirtual 106, 3) := by decide +kernel
theorem dL_acts_519 : decode cL_acts 519 = .ok (.aload_n 2, 1) := by decide +kernel
theorem dL_acts_520 : decode cL_acts 520 = .ok (.iconst 2, 1) := by decide +kernel
theorem dL_acts_521 : decode cL_acts 521 = .ok (.invokevirtual 106, 3) := by decide +kernel
theorem dL_acts_524 : decode cL_acts 524 = .ok (.iconst 1, 1) := by decide +kernel
theorem dL_acts_525 : decode cL_acts 525 = .ok (.aload_n 2, 1) := by decide +kernel
theorem dL_acts_526 : decode cL_acts 526 = .ok (.iconst 4, 1) := by decide +kernel
theorem dL_acts_527 : decode cL_acts 527 = .ok (.invokevirtual 106, 3) := by decide +kernel
theorem dL_acts_530 : decode cL_acts 530 = .ok (.iadd, 1) := by decide +kernel
theorem dL_acts_531 : decode cL_acts 531 = .ok (.iconst 0, 1) := by decide +kernel
theorem dL_acts_532 : decode cL_acts 532 = .ok (.invokestatic 111, 3) := by decide +kernel
theorem dL_acts_535 : decode cL_acts 535 = .ok (.goto 18, 3) := by decide +kernel
theorem dL_acts_538 : decode cL_acts 538 = .ok (.aload_n 0, 1) := by decide +kernel
theorem dL_acts_539 : decode cL_acts 539 = .ok (.iload_n 3, 1) := by decide +kernel
theorem dL_acts_540 : decode cL_acts 540 = .ok (.aload_n 2, 1) := by decide +kernel
theorem dL_acts_541 : decode cL_acts 541 = .ok (.iconst 2, 1) := by decide +kernel
theorem dL_acts_542 : decode cL_acts 542 = .ok (.invokevirtual 106, 3) := by decide +kernel
theorem dL_acts_545 : decode cL_acts 545 = .ok (.aload_n 2, 1) := by decide +kernel
theorem dL_acts_546 : decode cL_acts 546 = .ok (.iconst 2, 1) := by decide +kernel
theorem dL_acts_547 : decode cL_acts 547 = .ok (.invokevirtual 106, 3) := by decide +kernel
theorem dL_acts_550 : decode cL_acts 550 = .ok (.invokestatic 119, 3) := by decide +kernel
theorem dL_acts_553 : decode cL_acts 553 = .ok (.ireturn, 1) := by decide +kernel
theorem dL_told_0 : decode cL_told 0 = .ok (.new 149, 3) := by decide +kernel
theorem dL_told_3 : decode cL_told 3 = .ok (.dup, 1) := by decide +kernel
theorem dL_told_4 : decode cL_told 4 = .ok (.invokespecial 151, 3) := by decide +kernel
theorem dL_told_7 : decode cL_told 7 = .ok (.astore_n 1, 1) := by decide +kernel
theorem dL_told_8 : decode cL_told 8 = .ok (.aload_n 1, 1) := by decide +kernel
theorem dL_told_9 : decode cL_told 9 = .ok (.aload_n 0, 1) := by decide +kernel
theorem dL_told_10 : decode cL_told 10 = .ok (.invokevirtual 152, 3) := by decide +kernel
theorem dL_told_13 : decode cL_told 13 = .ok (.invokevirtual 155, 3) := by decide +kernel
theorem dL_told_16 : decode cL_told 16 = .ok (.bipush 47, 2) := by decide +kernel
theorem dL_told_18 : decode cL_told 18 = .ok (.invokevirtual 159, 3) := by decide +kernel
theorem dL_told_21 : decode cL_told 21 = .ok (.aload_n 0, 1) := by decide +kernel
theorem dL_told_22 : decode cL_told 22 = .ok (.invokevirtual 162, 3) := by decide +kernel
theorem dL_told_25 : decode cL_told 25 = .ok (.invokevirtual 155, 3) := by decide +kernel
theorem dL_told_28 : decode cL_told 28 = .ok (.bipush 47, 2) := by decide +kernel
theorem dL_told_30 : decode cL_told 30 = .ok (.invokevirtual 159, 3) := by decide +kernel
theorem dL_told_33 : decode cL_told 33 = .ok (.aload_n 0, 1) := by decide +kernel
theorem dL_told_34 : decode cL_told 34 = .ok (.invokestatic 165, 3) := by decide +kernel
theorem dL_told_37 : decode cL_told 37 = .ok (.invokevirtual 155, 3) := by decide +kernel
theorem dL_told_40 : decode cL_told 40 = .ok (.bipush 47, 2) := by decide +kernel
theorem dL_told_42 : decode cL_told 42 = .ok (.invokevirtual 159, 3) := by decide +kernel
theorem dL_told_45 : decode cL_told 45 = .ok (.aload_n 0, 1) := by decide +kernel
theorem dL_told_46 : decode cL_told 46 = .ok (.invokevirtual 167, 3) := by decide +kernel
theorem dL_told_49 : decode cL_told 49 = .ok (.invokevirtual 171, 3) := by decide +kernel
theorem dL_told_52 : decode cL_told 52 = .ok (.bipush 47, 2) := by decide +kernel
theorem dL_told_54 : decode cL_told 54 = .ok (.invokevirtual 159, 3) := by decide +kernel
theorem dL_told_57 : decode cL_told 57 = .ok (.aload_n 0, 1) := by decide +kernel
theorem dL_told_58 : decode cL_told 58 = .ok (.invokestatic 174, 3) := by decide +kernel
theorem dL_told_61 : decode cL_told 61 = .ok (.invokevirtual 177, 3) := by decide +kernel
theorem dL_told_64 : decode cL_told 64 = .ok (.pop, 1) := by decide +kernel
theorem dL_told_65 : decode cL_told 65 = .ok (.iconst 0, 1) := by decide +kernel
theorem dL_told_66 : decode cL_told 66 = .ok (.istore_n 2, 1) := by decide +kernel
theorem dL_told_67 : decode cL_told 67 = .ok (.iload_n 2, 1) := by decide +kernel
theorem dL_told_68 : decode cL_told 68 = .ok (.iconst 5, 1) := by decide +kernel
theorem dL_told_69 : decode cL_told 69 = .ok (.if_icmp .ge 63, 3) := by decide +kernel
theorem dL_told_72 : decode cL_told 72 = .ok (.aload_n 1, 1) := by decide +kernel
theorem dL_told_73 : decode cL_told 73 = .ok (.bipush 59, 2) := by decide +kernel
theorem dL_told_75 : decode cL_told 75 = .ok (.invokevirtual 159, 3) := by decide +kernel
theorem dL_told_78 : decode cL_told 78 = .ok (.aload_n 0, 1) := by decide +kernel
theorem dL_told_79 : decode cL_told 79 = .ok (.iload_n 2, 1) := by decide +kernel
theorem dL_told_80 : decode cL_told 80 = .ok (.invokestatic 180, 3) := by decide +kernel
theorem dL_told_83 : decode cL_told 83 = .ok (.invokevirtual 155, 3) := by decide +kernel
theorem dL_told_86 : decode cL_told 86 = .ok (.bipush 44, 2) := by decide +kernel
theorem dL_told_88 : decode cL_told 88 = .ok (.invokevirtual 159, 3) := by decide +kernel
theorem dL_told_91 : decode cL_told 91 = .ok (.aload_n 0, 1) := by decide +kernel
theorem dL_told_92 : decode cL_told 92 = .ok (.iload_n 2, 1) := by decide +kernel
theorem dL_told_93 : decode cL_told 93 = .ok (.invokestatic 182, 3) := by decide +kernel
theorem dL_told_96 : decode cL_told 96 = .ok (.invokevirtual 155, 3) := by decide +kernel
theorem dL_told_99 : decode cL_told 99 = .ok (.bipush 44, 2) := by decide +kernel
theorem dL_told_101 : decode cL_told 101 = .ok (.invokevirtual 159, 3) := by decide +kernel
theorem dL_told_104 : decode cL_told 104 = .ok (.aload_n 0, 1) := by decide +kernel
theorem dL_told_105 : decode cL_told 105 = .ok (.iload_n 2, 1) := by decide +kernel
theorem dL_told_106 : decode cL_told 106 = .ok (.invokestatic 184, 3) := by decide +kernel
theorem dL_told_109 : decode cL_told 109 = .ok (.invokevirtual 155, 3) := by decide +kernel
theorem dL_told_112 : decode cL_told 112 = .ok (.bipush 44, 2) := by decide +kernel
theorem dL_told_114 : decode cL_told 114 = .ok (.invokevirtual 159, 3) := by decide +kernel
theorem dL_told_117 : decode cL_told 117 = .ok (.aload_n 0, 1) := by decide +kernel
theorem dL_told_118 : decode cL_told 118 = .ok (.iload_n 2, 1) := by decide +kernel
theorem dL_told_119 : decode cL_told 119 = .ok (.invokestatic 186, 3) := by decide +kernel
theorem dL_told_122 : decode cL_told 122 = .ok (.invokevirtual 155, 3) := by decide +kernel
theorem dL_told_125 : decode cL_told 125 = .ok (.pop, 1) := by decide +kernel
theorem dL_told_126 : decode cL_told 126 = .ok (.iinc 2 1, 3) := by decide +kernel
theorem dL_told_129 : decode cL_told 129 = .ok (.goto (-62), 3) := by decide +kernel
theorem dL_told_132 : decode cL_told 132 = .ok (.iconst 0, 1) := by decide +kernel
theorem dL_told_133 : decode cL_told 133 = .ok (.istore_n 2, 1) := by decide +kernel
theorem dL_told_134 : decode cL_told 134 = .ok (.iload_n 2, 1) := by decide +kernel
theorem dL_told_135 : decode cL_told 135 = .ok (.bipush 12, 2) := by decide +kernel
theorem dL_told_137 : decode cL_told 137 = .ok (.if_icmp .ge 49, 3) := by decide +kernel
theorem dL_told_140 : decode cL_told 140 = .ok (.aload_n 1, 1) := by decide +kernel
theorem dL_told_141 : decode cL_told 141 = .ok (.bipush 59, 2) := by decide +kernel
theorem dL_told_143 : decode cL_told 143 = .ok (.invokevirtual 159, 3) := by decide +kernel
theorem dL_told_146 : decode cL_told 146 = .ok (.aload_n 0, 1) := by decide +kernel
theorem dL_told_147 : decode cL_told 147 = .ok (.iload_n 2, 1) := by decide +kernel
theorem dL_told_148 : decode cL_told 148 = .ok (.invokevirtual 188, 3) := by decide +kernel
theorem dL_told_151 : decode cL_told 151 = .ok (.invokevirtual 192, 3) := by decide +kernel
theorem dL_told_154 : decode cL_told 154 = .ok (.aload_n 0, 1) := by decide +kernel
theorem dL_told_155 : decode cL_told 155 = .ok (.iload_n 2, 1) := by decide +kernel
theorem dL_told_156 : decode cL_told 156 = .ok (.invokestatic 195, 3) := by decide +kernel
theorem dL_told_159 : decode cL_told 159 = .ok (.invokevirtual 155, 3) := by decide +kernel
theorem dL_told_162 : decode cL_told 162 = .ok (.aload_n 0, 1) := by decide +kernel
theorem dL_told_163 : decode cL_told 163 = .ok (.iload_n 2, 1) := by decide +kernel
theorem dL_told_164 : decode cL_told 164 = .ok (.invokestatic 197, 3) := by decide +kernel
theorem dL_told_167 : decode cL_told 167 = .ok (.invokevirtual 155, 3) := by decide +kernel
theorem dL_told_170 : decode cL_told 170 = .ok (.aload_n 0, 1) := by decide +kernel
theorem dL_told_171 : decode cL_told 171 = .ok (.iload_n 2, 1) := by decide +kernel
theorem dL_told_172 : decode cL_told 172 = .ok (.iconst 0, 1) := by decide +kernel
theorem dL_told_173 : decode cL_told 173 = .ok (.invokestatic 199, 3) := by decide +kernel
theorem dL_told_176 : decode cL_told 176 = .ok (.invokevirtual 155, 3) := by decide +kernel
theorem dL_told_179 : decode cL_told 179 = .ok (.pop, 1) := by decide +kernel
theorem dL_told_180 : decode cL_told 180 = .ok (.iinc 2 1, 3) := by decide +kernel
theorem dL_told_183 : decode cL_told 183 = .ok (.goto (-49), 3) := by decide +kernel
theorem dL_told_186 : decode cL_told 186 = .ok (.aload_n 1, 1) := by decide +kernel
theorem dL_told_187 : decode cL_told 187 = .ok (.invokevirtual 201, 3) := by decide +kernel
theorem dL_told_190 : decode cL_told 190 = .ok (.areturn, 1) := by decide +kernel
theorem dL_covering_0 : decode cL_covering 0 = .ok (.iconst 0, 1) := by decide +kernel
theorem dL_covering_1 : decode cL_covering 1 = .ok (.istore_n 1, 1) := by decide +kernel
theorem dL_covering_2 : decode cL_covering 2 = .ok (.iconst 0, 1) := by decide +kernel
theorem dL_covering_3 : decode cL_covering 3 = .ok (.istore_n 2, 1) := by decide +kernel
theorem dL_covering_4 : decode cL_covering 4 = .ok (.iconst 0, 1) := by decide +kernel
theorem dL_covering_5 : decode cL_covering 5 = .ok (.istore_n 3, 1) := by decide +kernel
theorem dL_covering_6 : decode cL_covering 6 = .ok (.iload_n 3, 1) := by decide +kernel
theorem dL_covering_7 : decode cL_covering 7 = .ok (.bipush 12, 2) := by decide +kernel
theorem dL_covering_9 : decode cL_covering 9 = .ok (.if_icmp .ge 237, 3) := by decide +kernel
theorem dL_covering_12 : decode cL_covering 12 = .ok (.aload_n 0, 1) := by decide +kernel
theorem dL_covering_13 : decode cL_covering 13 = .ok (.iload_n 3, 1) := by decide +kernel
theorem dL_covering_14 : decode cL_covering 14 = .ok (.invokestatic 195, 3) := by decide +kernel
theorem dL_covering_17 : decode cL_covering 17 = .ok (.istore 4, 2) := by decide +kernel
theorem dL_covering_19 : decode cL_covering 19 = .ok (.aload_n 0, 1) := by decide +kernel
theorem dL_covering_20 : decode cL_covering 20 = .ok (.iload_n 3, 1) := by decide +kernel
theorem dL_covering_21 : decode cL_covering 21 = .ok (.invokestatic 197, 3) := by decide +kernel
theorem dL_covering_24 : decode cL_covering 24 = .ok (.istore 5, 2) := by decide +kernel
theorem dL_covering_26 : decode cL_covering 26 = .ok (.aload_n 0, 1) := by decide +kernel
theorem dL_covering_27 : decode cL_covering 27 = .ok (.iload_n 3, 1) := by decide +kernel
theorem dL_covering_28 : decode cL_covering 28 = .ok (.invokestatic 205, 3) := by decide +kernel
theorem dL_covering_31 : decode cL_covering 31 = .ok (.istore 6, 2) := by decide +kernel
theorem dL_covering_33 : decode cL_covering 33 = .ok (.aload_n 0, 1) := by decide +kernel
theorem dL_covering_34 : decode cL_covering 34 = .ok (.iload_n 3, 1) := by decide +kernel
theorem dL_covering_35 : decode cL_covering 35 = .ok (.invokestatic 207, 3) := by decide +kernel
theorem dL_covering_38 : decode cL_covering 38 = .ok (.istore 7, 2) := by decide +kernel
theorem dL_covering_40 : decode cL_covering 40 = .ok (.aload_n 0, 1) := by decide +kernel
theorem dL_covering_41 : decode cL_covering 41 = .ok (.iload_n 3, 1) := by decide +kernel
theorem dL_covering_42 : decode cL_covering 42 = .ok (.invokevirtual 188, 3) := by decide +kernel
theorem dL_covering_45 : decode cL_covering 45 = .ok (.ifCond .ne 50, 3) := by decide +kernel
theorem dL_covering_48 : decode cL_covering 48 = .ok (.iload 4, 2) := by decide +kernel
theorem dL_covering_50 : decode cL_covering 50 = .ok (.iconst (-1), 1) := by decide +kernel
theorem dL_covering_51 : decode cL_covering 51 = .ok (.if_icmp .ne 42, 3) := by decide +kernel
theorem dL_covering_54 : decode cL_covering 54 = .ok (.iload 5, 2) := by decide +kernel
theorem dL_covering_56 : decode cL_covering 56 = .ok (.iconst (-1), 1) := by decide +kernel
theorem dL_covering_57 : decode cL_covering 57 = .ok (.if_icmp .ne 36, 3) := by decide +kernel
theorem dL_covering_60 : decode cL_covering 60 = .ok (.iload 6, 2) := by decide +kernel
theorem dL_covering_62 : decode cL_covering 62 = .ok (.iconst (-1), 1) := by decide +kernel
theorem dL_covering_63 : decode cL_covering 63 = .ok (.if_icmp .ne 30, 3) := by decide +kernel
theorem dL_covering_66 : decode cL_covering 66 = .ok (.iload 7, 2) := by decide +kernel
theorem dL_covering_68 : decode cL_covering 68 = .ok (.iconst (-1), 1) := by decide +kernel
theorem dL_covering_69 : decode cL_covering 69 = .ok (.if_icmp .ne 24, 3) := by decide +kernel
theorem dL_covering_72 : decode cL_covering 72 = .ok (.aload_n 0, 1) := by decide +kernel
theorem dL_covering_73 : decode cL_covering 73 = .ok (.iload_n 3, 1) := by decide +kernel
theorem dL_covering_74 : decode cL_covering 74 = .ok (.iconst 0, 1) := by decide +kernel
theorem dL_covering_75 : decode cL_covering 75 = .ok (.invokestatic 199, 3) := by decide +kernel
theorem dL_covering_78 : decode cL_covering 78 = .ok (.iconst (-1), 1) := by decide +kernel
theorem dL_covering_79 : decode cL_covering 79 = .ok (.if_icmp .ne 14, 3) := by decide +kernel
theorem dL_covering_82 : decode cL_covering 82 = .ok (.aload_n 0, 1) := by decide +kernel
theorem dL_covering_83 : decode cL_covering 83 = .ok (.iload_n 3, 1) := by decide +kernel
theorem dL_covering_84 : decode cL_covering 84 = .ok (.iconst 0, 1) := by decide +kernel
theorem dL_covering_85 : decode cL_covering 85 = .ok (.iconst 0, 1) := by decide +kernel
theorem dL_covering_86 : decode cL_covering 86 = .ok (.invokestatic 119, 3) := by decide +kernel
theorem dL_covering_89 : decode cL_covering 89 = .ok (.iconst (-1), 1) := by decide +kernel
theorem dL_covering_90 : decode cL_covering 90 = .ok (.if_icmp .eq 150, 3) := by decide +kernel
theorem dL_covering_93 : decode cL_covering 93 = .ok (.iconst 0, 1) := by decide +kernel
theorem dL_covering_94 : decode cL_covering 94 = .ok (.ireturn, 1) := by decide +kernel
theorem dL_covering_95 : decode cL_covering 95 = .ok (.iinc 2 1, 3) := by decide +kernel
theorem dL_covering_98 : decode cL_covering 98 = .ok (.iload_n 1, 1) := by decide +kernel
theorem dL_covering_99 : decode cL_covering 99 = .ok (.iload 4, 2) := by decide +kernel
theorem dL_covering_101 : decode cL_covering 101 = .ok (.ifCond .lt 7, 3) := by decide +kernel
theorem dL_covering_104 : decode cL_covering 104 = .ok (.iconst 1, 1) := by decide +kernel
theorem dL_covering_105 : decode cL_covering 105 = .ok (.goto 4, 3) := by decide +kernel
theorem dL_covering_108 : decode cL_covering 108 = .ok (.iconst 0, 1) := by decide +kernel
theorem dL_covering_109 : decode cL_covering 109 = .ok (.iadd, 1) := by decide +kernel
theorem dL_covering_110 : decode cL_covering 110 = .ok (.istore_n 1, 1) := by decide +kernel
theorem dL_covering_111 : decode cL_covering 111 = .ok (.iconst 0, 1) := by decide +kernel
theorem dL_covering_112 : decode cL_covering 112 = .ok (.istore 8, 2) := by decide +kernel
theorem dL_covering_114 : decode cL_covering 114 = .ok (.bipush (-2), 2) := by decide +kernel
theorem dL_covering_116 : decode cL_covering 116 = .ok (.istore 9, 2) := by decide +kernel
theorem dL_covering_118 : decode cL_covering 118 = .ok (.iconst 4, 1) := by decide +kernel
theorem dL_covering_119 : decode cL_covering 119 = .ok (.istore 10, 2) := by decide +kernel
theorem dL_covering_121 : decode cL_covering 121 = .ok (.iload 10, 2) := by decide +kernel
theorem dL_covering_123 : decode cL_covering 123 = .ok (.ifCond .lt 57, 3) := by decide +kernel
theorem dL_covering_126 : decode cL_covering 126 = .ok (.aload_n 0, 1) := by decide +kernel
theorem dL_covering_127 : decode cL_covering 127 = .ok (.iload_n 3, 1) := by decide +kernel
theorem dL_covering_128 : decode cL_covering 128 = .ok (.iload 10, 2) := by decide +kernel
theorem dL_covering_130 : decode cL_covering 130 = .ok (.invokestatic 199, 3) := by decide +kernel
theorem dL_covering_133 : decode cL_covering 133 = .ok (.bipush 45, 2) := by decide +kernel
theorem dL_covering_135 : decode cL_covering 135 = .ok (.if_icmp .ne 7, 3) := by decide +kernel
theorem dL_covering_138 : decode cL_covering 138 = .ok (.iconst 1, 1) := by decide +kernel
theorem dL_covering_139 : decode cL_covering 139 = .ok (.goto 4, 3) := by decide +kernel
theorem dL_covering_142 : decode cL_covering 142 = .ok (.iconst 0, 1) := by decide +kernel
theorem dL_covering_143 : decode cL_covering 143 = .ok (.istore 11, 2) := by decide +kernel
theorem dL_covering_145 : decode cL_covering 145 = .ok (.iload 8, 2) := by decide +kernel
theorem dL_covering_147 : decode cL_covering 147 = .ok (.iload 11, 2) := by decide +kernel
theorem dL_covering_149 : decode cL_covering 149 = .ok (.ifCond .eq 7, 3) := by decide +kernel
theorem dL_covering_152 : decode cL_covering 152 = .ok (.iconst 1, 1) := by decide +kernel
theorem dL_covering_153 : decode cL_covering 153 = .ok (.goto 4, 3) := by decide +kernel
theorem dL_covering_156 : decode cL_covering 156 = .ok (.iconst 0, 1) := by decide +kernel
theorem dL_covering_157 : decode cL_covering 157 = .ok (.iadd, 1) := by decide +kernel
theorem dL_covering_158 : decode cL_covering 158 = .ok (.istore 8, 2) := by decide +kernel
theorem dL_covering_160 : decode cL_covering 160 = .ok (.iload 11, 2) := by decide +kernel
theorem dL_covering_162 : decode cL_covering 162 = .ok (.ifCond .eq 8, 3) := by decide +kernel
theorem dL_covering_165 : decode cL_covering 165 = .ok (.iload 10, 2) := by decide +kernel
theorem dL_covering_167 : decode cL_covering 167 = .ok (.goto 5, 3) := by decide +kernel
theorem dL_covering_170 : decode cL_covering 170 = .ok (.iload 9, 2) := by decide +kernel
theorem dL_covering_172 : decode cL_covering 172 = .ok (.istore 9, 2) := by decide +kernel
theorem dL_covering_174 : decode cL_covering 174 = .ok (.iinc 10 (-1), 3) := by decide +kernel
theorem dL_covering_177 : decode cL_covering 177 = .ok (.goto (-56), 3) := by decide +kernel
theorem dL_covering_180 : decode cL_covering 180 = .ok (.iload 8, 2) := by decide +kernel
theorem dL_covering_182 : decode cL_covering 182 = .ok (.iload 5, 2) := by decide +kernel
theorem dL_covering_184 : decode cL_covering 184 = .ok (.if_icmp .ne 54, 3) := by decide +kernel
theorem dL_covering_187 : decode cL_covering 187 = .ok (.iload 9, 2) := by decide +kernel
theorem dL_covering_189 : decode cL_covering 189 = .ok (.iload 6, 2) := by decide +kernel
theorem dL_covering_191 : decode cL_covering 191 = .ok (.if_icmp .ne 47, 3) := by decide +kernel
theorem dL_covering_194 : decode cL_covering 194 = .ok (.iload 7, 2) := by decide +kernel
theorem dL_covering_196 : decode cL_covering 196 = .ok (.iload 4, 2) := by decide +kernel
theorem dL_covering_198 : decode cL_covering 198 = .ok (.ifCond .lt 8, 3) := by decide +kernel
theorem dL_covering_201 : decode cL_covering 201 = .ok (.bipush 99, 2) := by decide +kernel
theorem dL_covering_203 : decode cL_covering 203 = .ok (.goto 15, 3) := by decide +kernel
theorem dL_covering_206 : decode cL_covering 206 = .ok (.iload 8, 2) := by decide +kernel
theorem dL_covering_208 : decode cL_covering 208 = .ok (.ifCond .ne 8, 3) := by decide +kernel
theorem dL_covering_211 : decode cL_covering 211 = .ok (.bipush 110, 2) := by decide +kernel
theorem dL_covering_213 : decode cL_covering 213 = .ok (.goto 5, 3) := by decide +kernel
theorem dL_covering_216 : decode cL_covering 216 = .ok (.bipush 117, 2) := by decide +kernel
theorem dL_covering_218 : decode cL_covering 218 = .ok (.if_icmp .ne 20, 3) := by decide +kernel
theorem dL_covering_221 : decode cL_covering 221 = .ok (.iload 4, 2) := by decide +kernel
theorem dL_covering_223 : decode cL_covering 223 = .ok (.ifCond .lt 17, 3) := by decide +kernel
theorem dL_covering_226 : decode cL_covering 226 = .ok (.aload_n 0, 1) := by decide +kernel
theorem dL_covering_227 : decode cL_covering 227 = .ok (.iload_n 3, 1) := by decide +kernel
theorem dL_covering_228 : decode cL_covering 228 = .ok (.iload 4, 2) := by decide +kernel
theorem dL_covering_230 : decode cL_covering 230 = .ok (.invokestatic 199, 3) := by decide +kernel
theorem dL_covering_233 : decode cL_covering 233 = .ok (.bipush 45, 2) := by decide +kernel
theorem dL_covering_235 : decode cL_covering 235 = .ok (.if_icmp .eq 5, 3) := by decide +kernel
theorem dL_covering_238 : decode cL_covering 238 = .ok (.iconst 0, 1) := by decide +kernel
theorem dL_covering_239 : decode cL_covering 239 = .ok (.ireturn, 1) := by decide +kernel
theorem dL_covering_240 : decode cL_covering 240 = .ok (.iinc 3 1, 3) := by decide +kernel
theorem dL_covering_243 : decode cL_covering 243 = .ok (.goto (-237), 3) := by decide +kernel
theorem dL_covering_246 : decode cL_covering 246 = .ok (.iconst 0, 1) := by decide +kernel
theorem dL_covering_247 : decode cL_covering 247 = .ok (.istore_n 3, 1) := by decide +kernel
theorem dL_covering_248 : decode cL_covering 248 = .ok (.iload_n 3, 1) := by decide +kernel
theorem dL_covering_249 : decode cL_covering 249 = .ok (.iconst 5, 1) := by decide +kernel
theorem dL_covering_250 : decode cL_covering 250 = .ok (.if_icmp .ge 60, 3) := by decide +kernel
theorem dL_covering_253 : decode cL_covering 253 = .ok (.aload_n 0, 1) := by decide +kernel
theorem dL_covering_254 : decode cL_covering 254 = .ok (.iload_n 3, 1) := by decide +kernel
theorem dL_covering_255 : decode cL_covering 255 = .ok (.invokestatic 180, 3) := by decide +kernel
theorem dL_covering_258 : decode cL_covering 258 = .ok (.istore 4, 2) := by decide +kernel
theorem dL_covering_260 : decode cL_covering 260 = .ok (.iload 4, 2) := by decide +kernel
theorem dL_covering_262 : decode cL_covering 262 = .ok (.ifCond .lt 42, 3) := by decide +kernel
theorem dL_covering_265 : decode cL_covering 265 = .ok (.aload_n 0, 1) := by decide +kernel
theorem dL_covering_266 : decode cL_covering 266 = .ok (.iload_n 3, 1) := by decide +kernel
theorem dL_covering_267 : decode cL_covering 267 = .ok (.invokestatic 184, 3) := by decide +kernel
theorem dL_covering_270 : decode cL_covering 270 = .ok (.aload_n 0, 1) := by decide +kernel
theorem dL_covering_271 : decode cL_covering 271 = .ok (.iload_n 3, 1) := by decide +kernel
theorem dL_covering_272 : decode cL_covering 272 = .ok (.invokestatic 209, 3) := by decide +kernel
theorem dL_covering_275 : decode cL_covering 275 = .ok (.iadd, 1) := by decide +kernel
theorem dL_covering_276 : decode cL_covering 276 = .ok (.iload 4, 2) := by decide +kernel
theorem dL_covering_278 : decode cL_covering 278 = .ok (.if_icmp .ne 24, 3) := by decide +kernel
theorem dL_covering_281 : decode cL_covering 281 = .ok (.aload_n 0, 1) := by decide +kernel
theorem dL_covering_282 : decode cL_covering 282 = .ok (.iload_n 3, 1) := by decide +kernel
theorem dL_covering_283 : decode cL_covering 283 = .ok (.invokestatic 209, 3) := by decide +kernel
theorem dL_covering_286 : decode cL_covering 286 = .ok (.ifCond .lt 16, 3) := by decide +kernel
theorem dL_covering_289 : decode cL_covering 289 = .ok (.aload_n 0, 1) := by decide +kernel
theorem dL_covering_290 : decode cL_covering 290 = .ok (.iload_n 3, 1) := by decide +kernel
theorem dL_covering_291 : decode cL_covering 291 = .ok (.invokestatic 184, 3) := by decide +kernel
theorem dL_covering_294 : decode cL_covering 294 = .ok (.aload_n 0, 1) := by decide +kernel
theorem dL_covering_295 : decode cL_covering 295 = .ok (.iload_n 3, 1) := by decide +kernel
theorem dL_covering_296 : decode cL_covering 296 = .ok (.invokestatic 182, 3) := by decide +kernel
theorem dL_covering_299 : decode cL_covering 299 = .ok (.if_icmp .le 5, 3) := by decide +kernel
theorem dL_covering_302 : decode cL_covering 302 = .ok (.iconst 0, 1) := by decide +kernel
theorem dL_covering_303 : decode cL_covering 303 = .ok (.ireturn, 1) := by decide +kernel
theorem dL_covering_304 : decode cL_covering 304 = .ok (.iinc 3 1, 3) := by decide +kernel
theorem dL_covering_307 : decode cL_covering 307 = .ok (.goto (-59), 3) := by decide +kernel
theorem dL_covering_310 : decode cL_covering 310 = .ok (.aload_n 0, 1) := by decide +kernel
theorem dL_covering_311 : decode cL_covering 311 = .ok (.invokestatic 211, 3) := by decide +kernel
theorem dL_covering_314 : decode cL_covering 314 = .ok (.istore_n 3, 1) := by decide +kernel
theorem dL_covering_315 : decode cL_covering 315 = .ok (.iload_n 2, 1) := by decide +kernel
theorem dL_covering_316 : decode cL_covering 316 = .ok (.aload_n 0, 1) := by decide +kernel
theorem dL_covering_317 : decode cL_covering 317 = .ok (.invokevirtual 152, 3) := by decide +kernel
theorem dL_covering_320 : decode cL_covering 320 = .ok (.if_icmp .ne 51, 3) := by decide +kernel
theorem dL_covering_323 : decode cL_covering 323 = .ok (.iload_n 1, 1) := by decide +kernel
theorem dL_covering_324 : decode cL_covering 324 = .ok (.aload_n 0, 1) := by decide +kernel
theorem dL_covering_325 : decode cL_covering 325 = .ok (.invokevirtual 162, 3) := by decide +kernel
theorem dL_covering_328 : decode cL_covering 328 = .ok (.if_icmp .ne 43, 3) := by decide +kernel
theorem dL_covering_331 : decode cL_covering 331 = .ok (.iload_n 3, 1) := by decide +kernel
theorem dL_covering_332 : decode cL_covering 332 = .ok (.iload_n 2, 1) := by decide +kernel
theorem dL_covering_333 : decode cL_covering 333 = .ok (.iconst 4, 1) := by decide +kernel
theorem dL_covering_334 : decode cL_covering 334 = .ok (.if_icmp .le 7, 3) := by decide +kernel
theorem dL_covering_337 : decode cL_covering 337 = .ok (.iconst (-1), 1) := by decide +kernel
theorem dL_covering_338 : decode cL_covering 338 = .ok (.goto 4, 3) := by decide +kernel
theorem dL_covering_341 : decode cL_covering 341 = .ok (.iload_n 1, 1) := by decide +kernel
theorem dL_covering_342 : decode cL_covering 342 = .ok (.if_icmp .ne 29, 3) := by decide +kernel
theorem dL_covering_345 : decode cL_covering 345 = .ok (.aload_n 0, 1) := by decide +kernel
theorem dL_covering_346 : decode cL_covering 346 = .ok (.invokestatic 174, 3) := by decide +kernel
theorem dL_covering_349 : decode cL_covering 349 = .ok (.iload_n 2, 1) := by decide +kernel
theorem dL_covering_350 : decode cL_covering 350 = .ok (.ifCond .ne 8, 3) := by decide +kernel
theorem dL_covering_353 : decode cL_covering 353 = .ok (.ldc 105, 2) := by decide +kernel
theorem dL_covering_355 : decode cL_covering 355 = .ok (.goto 8, 3) := by decide +kernel
theorem dL_covering_358 : decode cL_covering 358 = .ok (.iload_n 1, 1) := by decide +kernel
theorem dL_covering_359 : decode cL_covering 359 = .ok (.i2f, 1) := by decide +kernel
theorem dL_covering_360 : decode cL_covering 360 = .ok (.iload_n 2, 1) := by decide +kernel
theorem dL_covering_361 : decode cL_covering 361 = .ok (.i2f, 1) := by decide +kernel
theorem dL_covering_362 : decode cL_covering 362 = .ok (.fdiv, 1) := by decide +kernel
theorem dL_covering_363 : decode cL_covering 363 = .ok (.fcmp .l, 1) := by decide +kernel
theorem dL_covering_364 : decode cL_covering 364 = .ok (.ifCond .ne 7, 3) := by decide +kernel
theorem dL_covering_367 : decode cL_covering 367 = .ok (.iconst 1, 1) := by decide +kernel
theorem dL_covering_368 : decode cL_covering 368 = .ok (.goto 4, 3) := by decide +kernel
theorem dL_covering_371 : decode cL_covering 371 = .ok (.iconst 0, 1) := by decide +kernel
theorem dL_covering_372 : decode cL_covering 372 = .ok (.ireturn, 1) := by decide +kernel
theorem dL_buying_0 : decode cL_buying 0 = .ok (.iconst 0, 1) := by decide +kernel
theorem dL_buying_1 : decode cL_buying 1 = .ok (.istore_n 2, 1) := by decide +kernel
theorem dL_buying_2 : decode cL_buying 2 = .ok (.iconst 0, 1) := by decide +kernel
theorem dL_buying_3 : decode cL_buying 3 = .ok (.istore_n 3, 1) := by decide +kernel
theorem dL_buying_4 : decode cL_buying 4 = .ok (.iload_n 3, 1) := by decide +kernel
theorem dL_buying_5 : decode cL_buying 5 = .ok (.bipush 12, 2) := by decide +kernel
theorem dL_buying_7 : decode cL_buying 7 = .ok (.if_icmp .ge 33, 3) := by decide +kernel
theorem dL_buying_10 : decode cL_buying 10 = .ok (.iload_n 2, 1) := by decide +kernel
theorem dL_buying_11 : decode cL_buying 11 = .ok (.aload_n 0, 1) := by decide +kernel
theorem dL_buying_12 : decode cL_buying 12 = .ok (.iload_n 3, 1) := by decide +kernel
theorem dL_buying_13 : decode cL_buying 13 = .ok (.invokevirtual 188, 3) := by decide +kernel
theorem dL_buying_16 : decode cL_buying 16 = .ok (.ifCond .eq 15, 3) := by decide +kernel
theorem dL_buying_19 : decode cL_buying 19 = .ok (.aload_n 0, 1) := by decide +kernel
theorem dL_buying_20 : decode cL_buying 20 = .ok (.iload_n 3, 1) := by decide +kernel
theorem dL_buying_21 : decode cL_buying 21 = .ok (.invokestatic 197, 3) := by decide +kernel
theorem dL_buying_24 : decode cL_buying 24 = .ok (.ifCond .ne 7, 3) := by decide +kernel
theorem dL_buying_27 : decode cL_buying 27 = .ok (.iconst 1, 1) := by decide +kernel
theorem dL_buying_28 : decode cL_buying 28 = .ok (.goto 4, 3) := by decide +kernel
theorem dL_buying_31 : decode cL_buying 31 = .ok (.iconst 0, 1) := by decide +kernel
theorem dL_buying_32 : decode cL_buying 32 = .ok (.ior, 1) := by decide +kernel
theorem dL_buying_33 : decode cL_buying 33 = .ok (.istore_n 2, 1) := by decide +kernel
theorem dL_buying_34 : decode cL_buying 34 = .ok (.iinc 3 1, 3) := by decide +kernel
theorem dL_buying_37 : decode cL_buying 37 = .ok (.goto (-33), 3) := by decide +kernel
theorem dL_buying_40 : decode cL_buying 40 = .ok (.aload_n 0, 1) := by decide +kernel
theorem dL_buying_41 : decode cL_buying 41 = .ok (.invokestatic 165, 3) := by decide +kernel
theorem dL_buying_44 : decode cL_buying 44 = .ok (.istore_n 3, 1) := by decide +kernel
theorem dL_buying_45 : decode cL_buying 45 = .ok (.aload_n 0, 1) := by decide +kernel
theorem dL_buying_46 : decode cL_buying 46 = .ok (.invokestatic 213, 3) := by decide +kernel
theorem dL_buying_49 : decode cL_buying 49 = .ok (.istore 4, 2) := by decide +kernel
theorem dL_buying_51 : decode cL_buying 51 = .ok (.iload_n 2, 1) := by decide +kernel
theorem dL_buying_52 : decode cL_buying 52 = .ok (.ifCond .eq 68, 3) := by decide +kernel
theorem dL_buying_55 : decode cL_buying 55 = .ok (.iload_n 3, 1) := by decide +kernel
theorem dL_buying_56 : decode cL_buying 56 = .ok (.iconst (-1), 1) := by decide +kernel
theorem dL_buying_57 : decode cL_buying 57 = .ok (.if_icmp .ne 61, 3) := by decide +kernel
theorem dL_buying_60 : decode cL_buying 60 = .ok (.iload 4, 2) := by decide +kernel
theorem dL_buying_62 : decode cL_buying 62 = .ok (.aload_n 0, 1) := by decide +kernel
theorem dL_buying_63 : decode cL_buying 63 = .ok (.invokevirtual 152, 3) := by decide +kernel
theorem dL_buying_66 : decode cL_buying 66 = .ok (.iconst 4, 1) := by decide +kernel
theorem dL_buying_67 : decode cL_buying 67 = .ok (.if_icmp .le 7, 3) := by decide +kernel
theorem dL_buying_70 : decode cL_buying 70 = .ok (.iconst (-1), 1) := by decide +kernel
theorem dL_buying_71 : decode cL_buying 71 = .ok (.goto 5, 3) := by decide +kernel
theorem dL_buying_74 : decode cL_buying 74 = .ok (.bipush (-2), 2) := by decide +kernel
theorem dL_buying_76 : decode cL_buying 76 = .ok (.if_icmp .ne 42, 3) := by decide +kernel
theorem dL_buying_79 : decode cL_buying 79 = .ok (.aload_n 0, 1) := by decide +kernel
theorem dL_buying_80 : decode cL_buying 80 = .ok (.invokestatic 146, 3) := by decide +kernel
theorem dL_buying_83 : decode cL_buying 83 = .ok (.iconst (-1), 1) := by decide +kernel
theorem dL_buying_84 : decode cL_buying 84 = .ok (.if_icmp .ne 34, 3) := by decide +kernel
theorem dL_buying_87 : decode cL_buying 87 = .ok (.aload_n 0, 1) := by decide +kernel
theorem dL_buying_88 : decode cL_buying 88 = .ok (.iconst 5, 1) := by decide +kernel
theorem dL_buying_89 : decode cL_buying 89 = .ok (.invokestatic 186, 3) := by decide +kernel
theorem dL_buying_92 : decode cL_buying 92 = .ok (.iconst (-1), 1) := by decide +kernel
theorem dL_buying_93 : decode cL_buying 93 = .ok (.if_icmp .ne 25, 3) := by decide +kernel
theorem dL_buying_96 : decode cL_buying 96 = .ok (.aload_n 0, 1) := by decide +kernel
theorem dL_buying_97 : decode cL_buying 97 = .ok (.iconst 0, 1) := by decide +kernel
theorem dL_buying_98 : decode cL_buying 98 = .ok (.invokestatic 180, 3) := by decide +kernel
theorem dL_buying_101 : decode cL_buying 101 = .ok (.ifCond .lt 13, 3) := by decide +kernel
theorem dL_buying_104 : decode cL_buying 104 = .ok (.aload_n 0, 1) := by decide +kernel
theorem dL_buying_105 : decode cL_buying 105 = .ok (.iconst 0, 1) := by decide +kernel
theorem dL_buying_106 : decode cL_buying 106 = .ok (.invokestatic 186, 3) := by decide +kernel
theorem dL_buying_109 : decode cL_buying 109 = .ok (.bipush (-2), 2) := by decide +kernel
theorem dL_buying_111 : decode cL_buying 111 = .ok (.if_icmp .ne 7, 3) := by decide +kernel
theorem dL_buying_114 : decode cL_buying 114 = .ok (.iconst 1, 1) := by decide +kernel
theorem dL_buying_115 : decode cL_buying 115 = .ok (.goto 4, 3) := by decide +kernel
theorem dL_buying_118 : decode cL_buying 118 = .ok (.iconst 0, 1) := by decide +kernel
theorem dL_buying_119 : decode cL_buying 119 = .ok (.ireturn, 1) := by decide +kernel
theorem dL_buying_120 : decode cL_buying 120 = .ok (.iload 4, 2) := by decide +kernel
theorem dL_buying_122 : decode cL_buying 122 = .ok (.aload_n 0, 1) := by decide +kernel
theorem dL_buying_123 : decode cL_buying 123 = .ok (.invokevirtual 152, 3) := by decide +kernel
theorem dL_buying_126 : decode cL_buying 126 = .ok (.iconst 4, 1) := by decide +kernel
theorem dL_buying_127 : decode cL_buying 127 = .ok (.if_icmp .le 7, 3) := by decide +kernel
theorem dL_buying_130 : decode cL_buying 130 = .ok (.iconst (-1), 1) := by decide +kernel
theorem dL_buying_131 : decode cL_buying 131 = .ok (.goto 4, 3) := by decide +kernel
theorem dL_buying_134 : decode cL_buying 134 = .ok (.iload_n 3, 1) := by decide +kernel
theorem dL_buying_135 : decode cL_buying 135 = .ok (.if_icmp .ne 35, 3) := by decide +kernel
theorem dL_buying_138 : decode cL_buying 138 = .ok (.iload_n 3, 1) := by decide +kernel
theorem dL_buying_139 : decode cL_buying 139 = .ok (.ifCond .ne 7, 3) := by decide +kernel
theorem dL_buying_142 : decode cL_buying 142 = .ok (.iconst 1, 1) := by decide +kernel
theorem dL_buying_143 : decode cL_buying 143 = .ok (.goto 4, 3) := by decide +kernel
theorem dL_buying_146 : decode cL_buying 146 = .ok (.iconst 0, 1) := by decide +kernel
theorem dL_buying_147 : decode cL_buying 147 = .ok (.aload_n 0, 1) := by decide +kernel
theorem dL_buying_148 : decode cL_buying 148 = .ok (.invokevirtual 162, 3) := by decide +kernel
theorem dL_buying_151 : decode cL_buying 151 = .ok (.aload_n 0, 1) := by decide +kernel
theorem dL_buying_152 : decode cL_buying 152 = .ok (.invokevirtual 152, 3) := by decide +kernel
theorem dL_buying_155 : decode cL_buying 155 = .ok (.if_icmp .ne 7, 3) := by decide +kernel
theorem dL_buying_158 : decode cL_buying 158 = .ok (.iconst 1, 1) := by decide +kernel
theorem dL_buying_159 : decode cL_buying 159 = .ok (.goto 4, 3) := by decide +kernel
theorem dL_buying_162 : decode cL_buying 162 = .ok (.iconst 0, 1) := by decide +kernel
theorem dL_buying_163 : decode cL_buying 163 = .ok (.if_icmp .ne 7, 3) := by decide +kernel
theorem dL_buying_166 : decode cL_buying 166 = .ok (.iconst 1, 1) := by decide +kernel
theorem dL_buying_167 : decode cL_buying 167 = .ok (.goto 4, 3) := by decide +kernel
theorem dL_buying_170 : decode cL_buying 170 = .ok (.iconst 0, 1) := by decide +kernel
theorem dL_buying_171 : decode cL_buying 171 = .ok (.istore 5, 2) := by decide +kernel
theorem dL_buying_173 : decode cL_buying 173 = .ok (.iload_n 1, 1) := by decide +kernel
theorem dL_buying_174 : decode cL_buying 174 = .ok (.ifCond .ne 6, 3) := by decide +kernel
theorem dL_buying_177 : decode cL_buying 177 = .ok (.iload 5, 2) := by decide +kernel
theorem dL_buying_179 : decode cL_buying 179 = .ok (.ireturn, 1) := by decide +kernel
theorem dL_buying_180 : decode cL_buying 180 = .ok (.iconst 5, 1) := by decide +kernel
theorem dL_buying_181 : decode cL_buying 181 = .ok (.newarray .int, 2) := by decide +kernel
theorem dL_buying_183 : decode cL_buying 183 = .ok (.astore 6, 2) := by decide +kernel
theorem dL_buying_185 : decode cL_buying 185 = .ok (.iconst 0, 1) := by decide +kernel
theorem dL_buying_186 : decode cL_buying 186 = .ok (.istore 7, 2) := by decide +kernel
theorem dL_buying_188 : decode cL_buying 188 = .ok (.iload 7, 2) := by decide +kernel
theorem dL_buying_190 : decode cL_buying 190 = .ok (.iconst 5, 1) := by decide +kernel
theorem dL_buying_191 : decode cL_buying 191 = .ok (.if_icmp .ge 68, 3) := by decide +kernel
theorem dL_buying_194 : decode cL_buying 194 = .ok (.aload 6, 2) := by decide +kernel
theorem dL_buying_196 : decode cL_buying 196 = .ok (.iload 7, 2) := by decide +kernel
theorem dL_buying_198 : decode cL_buying 198 = .ok (.aload_n 0, 1) := by decide +kernel
theorem dL_buying_199 : decode cL_buying 199 = .ok (.iload 7, 2) := by decide +kernel
theorem dL_buying_201 : decode cL_buying 201 = .ok (.invokestatic 180, 3) := by decide +kernel
theorem dL_buying_204 : decode cL_buying 204 = .ok (.ifCond .ge 7, 3) := by decide +kernel
theorem dL_buying_207 : decode cL_buying 207 = .ok (.iconst (-1), 1) := by decide +kernel
theorem dL_buying_208 : decode cL_buying 208 = .ok (.goto 16, 3) := by decide +kernel
theorem dL_buying_211 : decode cL_buying 211 = .ok (.aload_n 0, 1) := by decide +kernel
theorem dL_buying_212 : decode cL_buying 212 = .ok (.iload 7, 2) := by decide +kernel
theorem dL_buying_214 : decode cL_buying 214 = .ok (.invokestatic 180, 3) := by decide +kernel
theorem dL_buying_217 : decode cL_buying 217 = .ok (.aload_n 0, 1) := by decide +kernel
theorem dL_buying_218 : decode cL_buying 218 = .ok (.iload 7, 2) := by decide +kernel
theorem dL_buying_220 : decode cL_buying 220 = .ok (.invokestatic 186, 3) := by decide +kernel
theorem dL_buying_223 : decode cL_buying 223 = .ok (.iadd, 1) := by decide +kernel
theorem dL_buying_224 : decode cL_buying 224 = .ok (.iastore, 1) := by decide +kernel
theorem dL_buying_225 : decode cL_buying 225 = .ok (.iload 5, 2) := by decide +kernel
theorem dL_buying_227 : decode cL_buying 227 = .ok (.aload_n 0, 1) := by decide +kernel
theorem dL_buying_228 : decode cL_buying 228 = .ok (.iload 7, 2) := by decide +kernel
theorem dL_buying_230 : decode cL_buying 230 = .ok (.invokestatic 180, 3) := by decide +kernel
theorem dL_buying_233 : decode cL_buying 233 = .ok (.ifCond .lt 12, 3) := by decide +kernel
theorem dL_buying_236 : decode cL_buying 236 = .ok (.aload_n 0, 1) := by decide +kernel
theorem dL_buying_237 : decode cL_buying 237 = .ok (.iload 7, 2) := by decide +kernel
theorem dL_buying_239 : decode cL_buying 239 = .ok (.invokestatic 186, 3) := by decide +kernel
theorem dL_buying_242 : decode cL_buying 242 = .ok (.ifCond .lt 7, 3) := by decide +kernel
theorem dL_buying_245 : decode cL_buying 245 = .ok (.iconst 1, 1) := by decide +kernel
theorem dL_buying_246 : decode cL_buying 246 = .ok (.goto 4, 3) := by decide +kernel
theorem dL_buying_249 : decode cL_buying 249 = .ok (.iconst 0, 1) := by decide +kernel
theorem dL_buying_250 : decode cL_buying 250 = .ok (.iand, 1) := by decide +kernel
theorem dL_buying_251 : decode cL_buying 251 = .ok (.istore 5, 2) := by decide +kernel
theorem dL_buying_253 : decode cL_buying 253 = .ok (.iinc 7 1, 3) := by decide +kernel
theorem dL_buying_256 : decode cL_buying 256 = .ok (.goto (-68), 3) := by decide +kernel
theorem dL_buying_259 : decode cL_buying 259 = .ok (.aload_n 0, 1) := by decide +kernel
theorem dL_buying_260 : decode cL_buying 260 = .ok (.invokevirtual 167, 3) := by decide +kernel
theorem dL_buying_263 : decode cL_buying 263 = .ok (.lstore 7, 2) := by decide +kernel
theorem dL_buying_265 : decode cL_buying 265 = .ok (.iload 5, 2) := by decide +kernel
theorem dL_buying_267 : decode cL_buying 267 = .ok (.aload_n 0, 1) := by decide +kernel
theorem dL_buying_268 : decode cL_buying 268 = .ok (.invokestatic 146, 3) := by decide +kernel
theorem dL_buying_271 : decode cL_buying 271 = .ok (.iload_n 3, 1) := by decide +kernel
theorem dL_buying_272 : decode cL_buying 272 = .ok (.if_icmp .ne 38, 3) := by decide +kernel
theorem dL_buying_275 : decode cL_buying 275 = .ok (.aload_n 0, 1) := by decide +kernel
theorem dL_buying_276 : decode cL_buying 276 = .ok (.invokevirtual 167, 3) := by decide +kernel
theorem dL_buying_279 : decode cL_buying 279 = .ok (.lload 7, 2) := by decide +kernel
theorem dL_buying_281 : decode cL_buying 281 = .ok (.iload_n 3, 1) := by decide +kernel
theorem dL_buying_282 : decode cL_buying 282 = .ok (.i2l, 1) := by decide +kernel
theorem dL_buying_283 : decode cL_buying 283 = .ok (.ladd, 1) := by decide +kernel
theorem dL_buying_284 : decode cL_buying 284 = .ok (.lcmp, 1) := by decide +kernel
theorem dL_buying_285 : decode cL_buying 285 = .ok (.ifCond .ne 25, 3) := by decide +kernel
theorem dL_buying_288 : decode cL_buying 288 = .ok (.aload_n 0, 1) := by decide +kernel
theorem dL_buying_289 : decode cL_buying 289 = .ok (.invokestatic 165, 3) := by decide +kernel
theorem dL_buying_292 : decode cL_buying 292 = .ok (.ifCond .ne 18, 3) := by decide +kernel
theorem dL_buying_295 : decode cL_buying 295 = .ok (.aload_n 0, 1) := by decide +kernel
theorem dL_buying_296 : decode cL_buying 296 = .ok (.invokevirtual 162, 3) := by decide +kernel
theorem dL_buying_299 : decode cL_buying 299 = .ok (.aload_n 0, 1) := by decide +kernel
theorem dL_buying_300 : decode cL_buying 300 = .ok (.invokevirtual 152, 3) := by decide +kernel
theorem dL_buying_303 : decode cL_buying 303 = .ok (.if_icmp .ne 7, 3) := by decide +kernel
theorem dL_buying_306 : decode cL_buying 306 = .ok (.iconst 1, 1) := by decide +kernel
theorem dL_buying_307 : decode cL_buying 307 = .ok (.goto 4, 3) := by decide +kernel
theorem dL_buying_310 : decode cL_buying 310 = .ok (.iconst 0, 1) := by decide +kernel
theorem dL_buying_311 : decode cL_buying 311 = .ok (.iand, 1) := by decide +kernel
theorem dL_buying_312 : decode cL_buying 312 = .ok (.istore 5, 2) := by decide +kernel
theorem dL_buying_314 : decode cL_buying 314 = .ok (.iconst 0, 1) := by decide +kernel
theorem dL_buying_315 : decode cL_buying 315 = .ok (.istore 9, 2) := by decide +kernel
theorem dL_buying_317 : decode cL_buying 317 = .ok (.iload 9, 2) := by decide +kernel
theorem dL_buying_319 : decode cL_buying 319 = .ok (.iconst 5, 1) := by decide +kernel
theorem dL_buying_320 : decode cL_buying 320 = .ok (.if_icmp .ge 33, 3) := by decide +kernel
theorem dL_buying_323 : decode cL_buying 323 = .ok (.iload 5, 2) := by decide +kernel
theorem dL_buying_325 : decode cL_buying 325 = .ok (.aload_n 0, 1) := by decide +kernel
theorem dL_buying_326 : decode cL_buying 326 = .ok (.iload 9, 2) := by decide +kernel
theorem dL_buying_328 : decode cL_buying 328 = .ok (.invokestatic 180, 3) := by decide +kernel
theorem dL_buying_331 : decode cL_buying 331 = .ok (.aload 6, 2) := by decide +kernel
theorem dL_buying_333 : decode cL_buying 333 = .ok (.iload 9, 2) := by decide +kernel
theorem dL_buying_335 : decode cL_buying 335 = .ok (.iaload, 1) := by decide +kernel
theorem dL_buying_336 : decode cL_buying 336 = .ok (.if_icmp .ne 7, 3) := by decide +kernel
theorem dL_buying_339 : decode cL_buying 339 = .ok (.iconst 1, 1) := by decide +kernel
theorem dL_buying_340 : decode cL_buying 340 = .ok (.goto 4, 3) := by decide +kernel
theorem dL_buying_343 : decode cL_buying 343 = .ok (.iconst 0, 1) := by decide +kernel
theorem dL_buying_344 : decode cL_buying 344 = .ok (.iand, 1) := by decide +kernel
theorem dL_buying_345 : decode cL_buying 345 = .ok (.istore 5, 2) := by decide +kernel
theorem dL_buying_347 : decode cL_buying 347 = .ok (.iinc 9 1, 3) := by decide +kernel
theorem dL_buying_350 : decode cL_buying 350 = .ok (.goto (-33), 3) := by decide +kernel
theorem dL_buying_353 : decode cL_buying 353 = .ok (.iload 5, 2) := by decide +kernel
theorem dL_buying_355 : decode cL_buying 355 = .ok (.ireturn, 1) := by decide +kernel
theorem dL_law_0 : decode cL_law 0 = .ok (.new 9, 3) := by decide +kernel
theorem dL_law_3 : decode cL_law 3 = .ok (.dup, 1) := by decide +kernel
theorem dL_law_4 : decode cL_law 4 = .ok (.invokespecial 215, 3) := by decide +kernel
theorem dL_law_7 : decode cL_law 7 = .ok (.astore_n 1, 1) := by decide +kernel
theorem dL_law_8 : decode cL_law 8 = .ok (.iconst 0, 1) := by decide +kernel
theorem dL_law_9 : decode cL_law 9 = .ok (.istore_n 2, 1) := by decide +kernel
theorem dL_law_10 : decode cL_law 10 = .ok (.aload_n 1, 1) := by decide +kernel
theorem dL_law_11 : decode cL_law 11 = .ok (.invokevirtual 152, 3) := by decide +kernel
theorem dL_law_14 : decode cL_law 14 = .ok (.ifCond .ne 91, 3) := by decide +kernel
theorem dL_law_17 : decode cL_law 17 = .ok (.aload_n 1, 1) := by decide +kernel
theorem dL_law_18 : decode cL_law 18 = .ok (.invokevirtual 162, 3) := by decide +kernel
theorem dL_law_21 : decode cL_law 21 = .ok (.ifCond .ne 84, 3) := by decide +kernel
theorem dL_law_24 : decode cL_law 24 = .ok (.aload_n 1, 1) := by decide +kernel
theorem dL_law_25 : decode cL_law 25 = .ok (.invokestatic 165, 3) := by decide +kernel
theorem dL_law_28 : decode cL_law 28 = .ok (.ifCond .ne 77, 3) := by decide +kernel
theorem dL_law_31 : decode cL_law 31 = .ok (.aload_n 1, 1) := by decide +kernel
theorem dL_law_32 : decode cL_law 32 = .ok (.invokestatic 174, 3) := by decide +kernel
theorem dL_law_35 : decode cL_law 35 = .ok (.ldc 105, 2) := by decide +kernel
theorem dL_law_37 : decode cL_law 37 = .ok (.fcmp .l, 1) := by decide +kernel
theorem dL_law_38 : decode cL_law 38 = .ok (.ifCond .ne 67, 3) := by decide +kernel
theorem dL_law_41 : decode cL_law 41 = .ok (.aload_n 1, 1) := by decide +kernel
theorem dL_law_42 : decode cL_law 42 = .ok (.iconst 0, 1) := by decide +kernel
theorem dL_law_43 : decode cL_law 43 = .ok (.invokevirtual 188, 3) := by decide +kernel
theorem dL_law_46 : decode cL_law 46 = .ok (.ifCond .ne 59, 3) := by decide +kernel
theorem dL_law_49 : decode cL_law 49 = .ok (.aload_n 1, 1) := by decide +kernel
theorem dL_law_50 : decode cL_law 50 = .ok (.iconst 0, 1) := by decide +kernel
theorem dL_law_51 : decode cL_law 51 = .ok (.invokestatic 116, 3) := by decide +kernel
theorem dL_law_54 : decode cL_law 54 = .ok (.iconst (-1), 1) := by decide +kernel
theorem dL_law_55 : decode cL_law 55 = .ok (.if_icmp .ne 50, 3) := by decide +kernel
theorem dL_law_58 : decode cL_law 58 = .ok (.aload_n 1, 1) := by decide +kernel
theorem dL_law_59 : decode cL_law 59 = .ok (.iconst 0, 1) := by decide +kernel
theorem dL_law_60 : decode cL_law 60 = .ok (.iconst 1, 1) := by decide +kernel
theorem dL_law_61 : decode cL_law 61 = .ok (.iconst 1, 1) := by decide +kernel
theorem dL_law_62 : decode cL_law 62 = .ok (.iconst 0, 1) := by decide +kernel
theorem dL_law_63 : decode cL_law 63 = .ok (.iconst 0, 1) := by decide +kernel
theorem dL_law_64 : decode cL_law 64 = .ok (.bipush 17, 2) := by decide +kernel
theorem dL_law_66 : decode cL_law 66 = .ok (.iconst 0, 1) := by decide +kernel
theorem dL_law_67 : decode cL_law 67 = .ok (.invokestatic 111, 3) := by decide +kernel
theorem dL_law_70 : decode cL_law 70 = .ok (.iconst (-1), 1) := by decide +kernel
theorem dL_law_71 : decode cL_law 71 = .ok (.if_icmp .ne 34, 3) := by decide +kernel
theorem dL_law_74 : decode cL_law 74 = .ok (.aload_n 1, 1) := by decide +kernel
theorem dL_law_75 : decode cL_law 75 = .ok (.iconst 0, 1) := by decide +kernel
theorem dL_law_76 : decode cL_law 76 = .ok (.iconst 1, 1) := by decide +kernel
theorem dL_law_77 : decode cL_law 77 = .ok (.iconst 1, 1) := by decide +kernel
theorem dL_law_78 : decode cL_law 78 = .ok (.bipush 100, 2) := by decide +kernel
theorem dL_law_80 : decode cL_law 80 = .ok (.iconst 1, 1) := by decide +kernel
theorem dL_law_81 : decode cL_law 81 = .ok (.iconst 0, 1) := by decide +kernel
theorem dL_law_82 : decode cL_law 82 = .ok (.invokestatic 134, 3) := by decide +kernel
theorem dL_law_85 : decode cL_law 85 = .ok (.iconst (-1), 1) := by decide +kernel
theorem dL_law_86 : decode cL_law 86 = .ok (.if_icmp .ne 19, 3) := by decide +kernel
theorem dL_law_89 : decode cL_law 89 = .ok (.aload_n 1, 1) := by decide +kernel
theorem dL_law_90 : decode cL_law 90 = .ok (.iconst 0, 1) := by decide +kernel
theorem dL_law_91 : decode cL_law 91 = .ok (.invokestatic 180, 3) := by decide +kernel
theorem dL_law_94 : decode cL_law 94 = .ok (.iconst (-1), 1) := by decide +kernel
theorem dL_law_95 : decode cL_law 95 = .ok (.if_icmp .ne 10, 3) := by decide +kernel
theorem dL_law_98 : decode cL_law 98 = .ok (.aload_n 1, 1) := by decide +kernel
theorem dL_law_99 : decode cL_law 99 = .ok (.invokestatic 146, 3) := by decide +kernel
theorem dL_law_102 : decode cL_law 102 = .ok (.ifCond .eq 5, 3) := by decide +kernel
theorem dL_law_105 : decode cL_law 105 = .ok (.iconst 0, 1) := by decide +kernel
theorem dL_law_106 : decode cL_law 106 = .ok (.ireturn, 1) := by decide +kernel
theorem dL_law_107 : decode cL_law 107 = .ok (.aload_n 1, 1) := by decide +kernel
theorem dL_law_108 : decode cL_law 108 = .ok (.iconst 0, 1) := by decide +kernel
theorem dL_law_109 : decode cL_law 109 = .ok (.iconst 2, 1) := by decide +kernel
theorem dL_law_110 : decode cL_law 110 = .ok (.iconst 1, 1) := by decide +kernel
theorem dL_law_111 : decode cL_law 111 = .ok (.iconst 3, 1) := by decide +kernel
theorem dL_law_112 : decode cL_law 112 = .ok (.iconst 4, 1) := by decide +kernel
theorem dL_law_113 : decode cL_law 113 = .ok (.bipush 8, 2) := by decide +kernel
theorem dL_law_115 : decode cL_law 115 = .ok (.iconst 0, 1) := by decide +kernel
theorem dL_law_116 : decode cL_law 116 = .ok (.invokestatic 111, 3) := by decide +kernel
theorem dL_law_119 : decode cL_law 119 = .ok (.aload_n 1, 1) := by decide +kernel
theorem dL_law_120 : decode cL_law 120 = .ok (.iconst 1, 1) := by decide +kernel
theorem dL_law_121 : decode cL_law 121 = .ok (.iconst 2, 1) := by decide +kernel
theorem dL_law_122 : decode cL_law 122 = .ok (.iconst 1, 1) := by decide +kernel
theorem dL_law_123 : decode cL_law 123 = .ok (.iconst 3, 1) := by decide +kernel
theorem dL_law_124 : decode cL_law 124 = .ok (.iconst 5, 1) := by decide +kernel
theorem dL_law_125 : decode cL_law 125 = .ok (.iconst 4, 1) := by decide +kernel
theorem dL_law_126 : decode cL_law 126 = .ok (.iconst 1, 1) := by decide +kernel
theorem dL_law_127 : decode cL_law 127 = .ok (.invokestatic 111, 3) := by decide +kernel
theorem dL_law_130 : decode cL_law 130 = .ok (.iadd, 1) := by decide +kernel
theorem dL_law_131 : decode cL_law 131 = .ok (.aload_n 1, 1) := by decide +kernel
theorem dL_law_132 : decode cL_law 132 = .ok (.iconst 3, 1) := by decide +kernel
theorem dL_law_133 : decode cL_law 133 = .ok (.iconst 2, 1) := by decide +kernel
theorem dL_law_134 : decode cL_law 134 = .ok (.iconst 1, 1) := by decide +kernel
theorem dL_law_135 : decode cL_law 135 = .ok (.bipush 100, 2) := by decide +kernel
theorem dL_law_137 : decode cL_law 137 = .ok (.iconst 1, 1) := by decide +kernel
theorem dL_law_138 : decode cL_law 138 = .ok (.iconst (-1), 1) := by decide +kernel
theorem dL_law_139 : decode cL_law 139 = .ok (.invokestatic 134, 3) := by decide +kernel
theorem dL_law_142 : decode cL_law 142 = .ok (.iadd, 1) := by decide +kernel
theorem dL_law_143 : decode cL_law 143 = .ok (.aload_n 1, 1) := by decide +kernel
theorem dL_law_144 : decode cL_law 144 = .ok (.iconst 2, 1) := by decide +kernel
theorem dL_law_145 : decode cL_law 145 = .ok (.iconst 1, 1) := by decide +kernel
theorem dL_law_146 : decode cL_law 146 = .ok (.iconst 1, 1) := by decide +kernel
theorem dL_law_147 : decode cL_law 147 = .ok (.bipush 99, 2) := by decide +kernel
theorem dL_law_149 : decode cL_law 149 = .ok (.bipush 6, 2) := by decide +kernel
theorem dL_law_151 : decode cL_law 151 = .ok (.iconst 1, 1) := by decide +kernel
theorem dL_law_152 : decode cL_law 152 = .ok (.invokestatic 134, 3) := by decide +kernel
theorem dL_law_155 : decode cL_law 155 = .ok (.iadd, 1) := by decide +kernel
theorem dL_law_156 : decode cL_law 156 = .ok (.istore_n 3, 1) := by decide +kernel
theorem dL_law_157 : decode cL_law 157 = .ok (.iload_n 3, 1) := by decide +kernel
theorem dL_law_158 : decode cL_law 158 = .ok (.iconst 2, 1) := by decide +kernel
theorem dL_law_159 : decode cL_law 159 = .ok (.if_icmp .ne 140, 3) := by decide +kernel
theorem dL_law_162 : decode cL_law 162 = .ok (.aload_n 1, 1) := by decide +kernel
theorem dL_law_163 : decode cL_law 163 = .ok (.invokevirtual 162, 3) := by decide +kernel
theorem dL_law_166 : decode cL_law 166 = .ok (.iconst 2, 1) := by decide +kernel
theorem dL_law_167 : decode cL_law 167 = .ok (.if_icmp .ne 132, 3) := by decide +kernel
theorem dL_law_170 : decode cL_law 170 = .ok (.aload_n 1, 1) := by decide +kernel
theorem dL_law_171 : decode cL_law 171 = .ok (.iconst 1, 1) := by decide +kernel
theorem dL_law_172 : decode cL_law 172 = .ok (.invokestatic 195, 3) := by decide +kernel
theorem dL_law_175 : decode cL_law 175 = .ok (.ifCond .ne 124, 3) := by decide +kernel
theorem dL_law_178 : decode cL_law 178 = .ok (.aload_n 1, 1) := by decide +kernel
theorem dL_law_179 : decode cL_law 179 = .ok (.iconst 0, 1) := by decide +kernel
theorem dL_law_180 : decode cL_law 180 = .ok (.invokestatic 184, 3) := by decide +kernel
theorem dL_law_183 : decode cL_law 183 = .ok (.iconst 1, 1) := by decide +kernel
theorem dL_law_184 : decode cL_law 184 = .ok (.if_icmp .ne 115, 3) := by decide +kernel
theorem dL_law_187 : decode cL_law 187 = .ok (.aload_n 1, 1) := by decide +kernel
theorem dL_law_188 : decode cL_law 188 = .ok (.iconst 0, 1) := by decide +kernel
theorem dL_law_189 : decode cL_law 189 = .ok (.iconst 1, 1) := by decide +kernel
theorem dL_law_190 : decode cL_law 190 = .ok (.invokestatic 199, 3) := by decide +kernel
theorem dL_law_193 : decode cL_law 193 = .ok (.bipush 112, 2) := by decide +kernel
theorem dL_law_195 : decode cL_law 195 = .ok (.if_icmp .ne 104, 3) := by decide +kernel
theorem dL_law_198 : decode cL_law 198 = .ok (.aload_n 1, 1) := by decide +kernel
theorem dL_law_199 : decode cL_law 199 = .ok (.iconst 1, 1) := by decide +kernel
theorem dL_law_200 : decode cL_law 200 = .ok (.iconst 1, 1) := by decide +kernel
theorem dL_law_201 : decode cL_law 201 = .ok (.invokestatic 199, 3) := by decide +kernel
theorem dL_law_204 : decode cL_law 204 = .ok (.bipush 118, 2) := by decide +kernel
theorem dL_law_206 : decode cL_law 206 = .ok (.if_icmp .ne 93, 3) := by decide +kernel
theorem dL_law_209 : decode cL_law 209 = .ok (.aload_n 1, 1) := by decide +kernel
theorem dL_law_210 : decode cL_law 210 = .ok (.iconst 1, 1) := by decide +kernel
theorem dL_law_211 : decode cL_law 211 = .ok (.iconst 0, 1) := by decide +kernel
theorem dL_law_212 : decode cL_law 212 = .ok (.iconst 1, 1) := by decide +kernel
theorem dL_law_213 : decode cL_law 213 = .ok (.iconst 0, 1) := by decide +kernel
theorem dL_law_214 : decode cL_law 214 = .ok (.invokestatic 137, 3) := by decide +kernel
theorem dL_law_217 : decode cL_law 217 = .ok (.ifCond .ne 82, 3) := by decide +kernel
theorem dL_law_220 : decode cL_law 220 = .ok (.aload_n 1, 1) := by decide +kernel
theorem dL_law_221 : decode cL_law 221 = .ok (.iconst 1, 1) := by decide +kernel
theorem dL_law_222 : decode cL_law 222 = .ok (.invokestatic 197, 3) := by decide +kernel
theorem dL_law_225 : decode cL_law 225 = .ok (.iconst 2, 1) := by decide +kernel
theorem dL_law_226 : decode cL_law 226 = .ok (.if_icmp .ne 73, 3) := by decide +kernel
theorem dL_law_229 : decode cL_law 229 = .ok (.aload_n 1, 1) := by decide +kernel
theorem dL_law_230 : decode cL_law 230 = .ok (.iconst 1, 1) := by decide +kernel
theorem dL_law_231 : decode cL_law 231 = .ok (.iconst 4, 1) := by decide +kernel
theorem dL_law_232 : decode cL_law 232 = .ok (.iconst 5, 1) := by decide +kernel
theorem dL_law_233 : decode cL_law 233 = .ok (.invokestatic 119, 3) := by decide +kernel
theorem dL_law_236 : decode cL_law 236 = .ok (.iconst 3, 1) := by decide +kernel
theorem dL_law_237 : decode cL_law 237 = .ok (.if_icmp .ne 62, 3) := by decide +kernel
theorem dL_law_240 : decode cL_law 240 = .ok (.aload_n 1, 1) := by decide +kernel
theorem dL_law_241 : decode cL_law 241 = .ok (.iconst 1, 1) := by decide +kernel
theorem dL_law_242 : decode cL_law 242 = .ok (.invokestatic 195, 3) := by decide +kernel
theorem dL_law_245 : decode cL_law 245 = .ok (.iconst 1, 1) := by decide +kernel
theorem dL_law_246 : decode cL_law 246 = .ok (.if_icmp .ne 53, 3) := by decide +kernel
theorem dL_law_249 : decode cL_law 249 = .ok (.aload_n 1, 1) := by decide +kernel
theorem dL_law_250 : decode cL_law 250 = .ok (.iconst 1, 1) := by decide +kernel
theorem dL_law_251 : decode cL_law 251 = .ok (.invokestatic 184, 3) := by decide +kernel
theorem dL_law_254 : decode cL_law 254 = .ok (.iconst 4, 1) := by decide +kernel
theorem dL_law_255 : decode cL_law 255 = .ok (.if_icmp .ne 44, 3) := by decide +kernel
theorem dL_law_258 : decode cL_law 258 = .ok (.aload_n 1, 1) := by decide +kernel
theorem dL_law_259 : decode cL_law 259 = .ok (.iconst 1, 1) := by decide +kernel
theorem dL_law_260 : decode cL_law 260 = .ok (.bipush 7, 2) := by decide +kernel
theorem dL_law_262 : decode cL_law 262 = .ok (.invokestatic 140, 3) := by decide +kernel
theorem dL_law_265 : decode cL_law 265 = .ok (.iconst 1, 1) := by decide +kernel
theorem dL_law_266 : decode cL_law 266 = .ok (.if_icmp .ne 33, 3) := by decide +kernel
theorem dL_law_269 : decode cL_law 269 = .ok (.aload_n 1, 1) := by decide +kernel
theorem dL_law_270 : decode cL_law 270 = .ok (.iconst 1, 1) := by decide +kernel
theorem dL_law_271 : decode cL_law 271 = .ok (.invokestatic 207, 3) := by decide +kernel
theorem dL_law_274 : decode cL_law 274 = .ok (.bipush 117, 2) := by decide +kernel
theorem dL_law_276 : decode cL_law 276 = .ok (.if_icmp .ne 23, 3) := by decide +kernel
theorem dL_law_279 : decode cL_law 279 = .ok (.aload_n 1, 1) := by decide +kernel
theorem dL_law_280 : decode cL_law 280 = .ok (.invokestatic 165, 3) := by decide +kernel
theorem dL_law_283 : decode cL_law 283 = .ok (.bipush 10, 2) := by decide +kernel
theorem dL_law_285 : decode cL_law 285 = .ok (.if_icmp .ne 14, 3) := by decide +kernel
theorem dL_law_288 : decode cL_law 288 = .ok (.aload_n 1, 1) := by decide +kernel
theorem dL_law_289 : decode cL_law 289 = .ok (.iconst 0, 1) := by decide +kernel
theorem dL_law_290 : decode cL_law 290 = .ok (.iconst 2, 1) := by decide +kernel
theorem dL_law_291 : decode cL_law 291 = .ok (.invokestatic 140, 3) := by decide +kernel
theorem dL_law_294 : decode cL_law 294 = .ok (.bipush (-3), 2) := by decide +kernel
theorem dL_law_296 : decode cL_law 296 = .ok (.if_icmp .eq 5, 3) := by decide +kernel
theorem dL_law_299 : decode cL_law 299 = .ok (.iconst 0, 1) := by decide +kernel
theorem dL_law_300 : decode cL_law 300 = .ok (.ireturn, 1) := by decide +kernel
theorem dL_law_301 : decode cL_law 301 = .ok (.iconst 0, 1) := by decide +kernel
theorem dL_law_302 : decode cL_law 302 = .ok (.istore 4, 2) := by decide +kernel
theorem dL_law_304 : decode cL_law 304 = .ok (.iload 4, 2) := by decide +kernel
theorem dL_law_306 : decode cL_law 306 = .ok (.bipush 14, 2) := by decide +kernel
theorem dL_law_308 : decode cL_law 308 = .ok (.if_icmp .ge 110, 3) := by decide +kernel
theorem dL_law_311 : decode cL_law 311 = .ok (.aload_n 0, 1) := by decide +kernel
theorem dL_law_312 : decode cL_law 312 = .ok (.iload_n 2, 1) := by decide +kernel
theorem dL_law_313 : decode cL_law 313 = .ok (.invokestatic 216, 3) := by decide +kernel
theorem dL_law_316 : decode cL_law 316 = .ok (.sipush 255, 3) := by decide +kernel
theorem dL_law_319 : decode cL_law 319 = .ok (.iand, 1) := by decide +kernel
theorem dL_law_320 : decode cL_law 320 = .ok (.istore 5, 2) := by decide +kernel
theorem dL_law_322 : decode cL_law 322 = .ok (.new 107, 3) := by decide +kernel
theorem dL_law_325 : decode cL_law 325 = .ok (.dup, 1) := by decide +kernel
theorem dL_law_326 : decode cL_law 326 = .ok (.aload_n 0, 1) := by decide +kernel
theorem dL_law_327 : decode cL_law 327 = .ok (.iload_n 2, 1) := by decide +kernel
theorem dL_law_328 : decode cL_law 328 = .ok (.iconst 1, 1) := by decide +kernel
theorem dL_law_329 : decode cL_law 329 = .ok (.iadd, 1) := by decide +kernel
theorem dL_law_330 : decode cL_law 330 = .ok (.invokestatic 216, 3) := by decide +kernel
theorem dL_law_333 : decode cL_law 333 = .ok (.invokespecial 220, 3) := by decide +kernel
theorem dL_law_336 : decode cL_law 336 = .ok (.astore 6, 2) := by decide +kernel
theorem dL_law_338 : decode cL_law 338 = .ok (.iinc 2 2, 3) := by decide +kernel
theorem dL_law_341 : decode cL_law 341 = .ok (.aload_n 1, 1) := by decide +kernel
theorem dL_law_342 : decode cL_law 342 = .ok (.invokestatic 223, 3) := by decide +kernel
theorem dL_law_345 : decode cL_law 345 = .ok (.astore 7, 2) := by decide +kernel
theorem dL_law_347 : decode cL_law 347 = .ok (.aload_n 1, 1) := by decide +kernel
theorem dL_law_348 : decode cL_law 348 = .ok (.iload 5, 2) := by decide +kernel
theorem dL_law_350 : decode cL_law 350 = .ok (.aload 6, 2) := by decide +kernel
theorem dL_law_352 : decode cL_law 352 = .ok (.invokestatic 227, 3) := by decide +kernel
theorem dL_law_355 : decode cL_law 355 = .ok (.istore 8, 2) := by decide +kernel
theorem dL_law_357 : decode cL_law 357 = .ok (.iload 8, 2) := by decide +kernel
theorem dL_law_359 : decode cL_law 359 = .ok (.ifCond .ge 15, 3) := by decide +kernel
theorem dL_law_362 : decode cL_law 362 = .ok (.aload 7, 2) := by decide +kernel
theorem dL_law_364 : decode cL_law 364 = .ok (.aload_n 1, 1) := by decide +kernel
theorem dL_law_365 : decode cL_law 365 = .ok (.invokestatic 223, 3) := by decide +kernel
theorem dL_law_368 : decode cL_law 368 = .ok (.invokevirtual 231, 3) := by decide +kernel
theorem dL_law_371 : decode cL_law 371 = .ok (.ifCond .eq 39, 3) := by decide +kernel
theorem dL_law_374 : decode cL_law 374 = .ok (.iload 4, 2) := by decide +kernel
theorem dL_law_376 : decode cL_law 376 = .ok (.iconst 3, 1) := by decide +kernel
theorem dL_law_377 : decode cL_law 377 = .ok (.irem, 1) := by decide +kernel
theorem dL_law_378 : decode cL_law 378 = .ok (.iconst 2, 1) := by decide +kernel
theorem dL_law_379 : decode cL_law 379 = .ok (.if_icmp .ne 33, 3) := by decide +kernel
theorem dL_law_382 : decode cL_law 382 = .ok (.aload_n 1, 1) := by decide +kernel
theorem dL_law_383 : decode cL_law 383 = .ok (.invokestatic 235, 3) := by decide +kernel
theorem dL_law_386 : decode cL_law 386 = .ok (.ifCond .eq 24, 3) := by decide +kernel
theorem dL_law_389 : decode cL_law 389 = .ok (.aload_n 1, 1) := by decide +kernel
theorem dL_law_390 : decode cL_law 390 = .ok (.aload 6, 2) := by decide +kernel
theorem dL_law_392 : decode cL_law 392 = .ok (.iconst 4, 1) := by decide +kernel
theorem dL_law_393 : decode cL_law 393 = .ok (.invokevirtual 106, 3) := by decide +kernel
theorem dL_law_396 : decode cL_law 396 = .ok (.ifCond .ne 7, 3) := by decide +kernel
theorem dL_law_399 : decode cL_law 399 = .ok (.iconst 1, 1) := by decide +kernel
theorem dL_law_400 : decode cL_law 400 = .ok (.goto 4, 3) := by decide +kernel
theorem dL_law_403 : decode cL_law 403 = .ok (.iconst 0, 1) := by decide +kernel
theorem dL_law_404 : decode cL_law 404 = .ok (.invokestatic 239, 3) := by decide +kernel
theorem dL_law_407 : decode cL_law 407 = .ok (.ifCond .ne 5, 3) := by decide +kernel
theorem dL_law_410 : decode cL_law 410 = .ok (.iconst 0, 1) := by decide +kernel
theorem dL_law_411 : decode cL_law 411 = .ok (.ireturn, 1) := by decide +kernel
theorem dL_law_412 : decode cL_law 412 = .ok (.iinc 4 1, 3) := by decide +kernel
theorem dL_law_415 : decode cL_law 415 = .ok (.goto (-111), 3) := by decide +kernel
theorem dL_law_418 : decode cL_law 418 = .ok (.aload_n 1, 1) := by decide +kernel
theorem dL_law_419 : decode cL_law 419 = .ok (.invokestatic 235, 3) := by decide +kernel
theorem dL_law_422 : decode cL_law 422 = .ok (.ireturn, 1) := by decide +kernel
