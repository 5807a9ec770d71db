theorem dX0_init_0 : decode cX0_init 0 = .ok (.aload_n 0, 1) := by decide +kernel
theorem dX0_init_1 : decode cX0_init 1 = .ok (.invokespecial 3, 3) := by decide +kernel
theorem dX0_init_4 : decode cX0_init 4 = .ok (.aload_n 0, 1) := by decide +kernel
theorem dX0_init_5 : decode cX0_init 5 = .ok (.sipush 1024, 3) := by decide +kernel
theorem dX0_init_8 : decode cX0_init 8 = .ok (.newarray .int, 2) := by decide +kernel
theorem dX0_init_10 : decode cX0_init 10 = .ok (.putfield 9, 3) := by decide +kernel
theorem dX0_init_13 : decode cX0_init 13 = .ok (.aload_n 0, 1) := by decide +kernel
theorem dX0_init_14 : decode cX0_init 14 = .ok (.sipush 1024, 3) := by decide +kernel
theorem dX0_init_17 : decode cX0_init 17 = .ok (.newarray .long, 2) := by decide +kernel
theorem dX0_init_19 : decode cX0_init 19 = .ok (.putfield 15, 3) := by decide +kernel
theorem dX0_init_22 : decode cX0_init 22 = .ok (.aload_n 0, 1) := by decide +kernel
theorem dX0_init_23 : decode cX0_init 23 = .ok (.bipush 8, 2) := by decide +kernel
theorem dX0_init_25 : decode cX0_init 25 = .ok (.newarray .long, 2) := by decide +kernel
theorem dX0_init_27 : decode cX0_init 27 = .ok (.putfield 19, 3) := by decide +kernel
theorem dX0_init_30 : decode cX0_init 30 = .ok (.aload_n 0, 1) := by decide +kernel
theorem dX0_init_31 : decode cX0_init 31 = .ok (.bipush 8, 2) := by decide +kernel
theorem dX0_init_33 : decode cX0_init 33 = .ok (.newarray .int, 2) := by decide +kernel
theorem dX0_init_35 : decode cX0_init 35 = .ok (.putfield 22, 3) := by decide +kernel
theorem dX0_init_38 : decode cX0_init 38 = .ok (.aload_n 0, 1) := by decide +kernel
theorem dX0_init_39 : decode cX0_init 39 = .ok (.bipush 6, 2) := by decide +kernel
theorem dX0_init_41 : decode cX0_init 41 = .ok (.newarray .long, 2) := by decide +kernel
theorem dX0_init_43 : decode cX0_init 43 = .ok (.putfield 25, 3) := by decide +kernel
theorem dX0_init_46 : decode cX0_init 46 = .ok (.aload_n 0, 1) := by decide +kernel
theorem dX0_init_47 : decode cX0_init 47 = .ok (.bipush 6, 2) := by decide +kernel
theorem dX0_init_49 : decode cX0_init 49 = .ok (.newarray .int, 2) := by decide +kernel
theorem dX0_init_51 : decode cX0_init 51 = .ok (.putfield 28, 3) := by decide +kernel
theorem dX0_init_54 : decode cX0_init 54 = .ok (.aload_n 0, 1) := by decide +kernel
theorem dX0_init_55 : decode cX0_init 55 = .ok (.bipush 40, 2) := by decide +kernel
theorem dX0_init_57 : decode cX0_init 57 = .ok (.newarray .int, 2) := by decide +kernel
theorem dX0_init_59 : decode cX0_init 59 = .ok (.putfield 31, 3) := by decide +kernel
theorem dX0_init_62 : decode cX0_init 62 = .ok (.aload_n 0, 1) := by decide +kernel
theorem dX0_init_63 : decode cX0_init 63 = .ok (.bipush 40, 2) := by decide +kernel
theorem dX0_init_65 : decode cX0_init 65 = .ok (.newarray .int, 2) := by decide +kernel
theorem dX0_init_67 : decode cX0_init 67 = .ok (.putfield 34, 3) := by decide +kernel
theorem dX0_init_70 : decode cX0_init 70 = .ok (.aload_n 0, 1) := by decide +kernel
theorem dX0_init_71 : decode cX0_init 71 = .ok (.bipush 40, 2) := by decide +kernel
theorem dX0_init_73 : decode cX0_init 73 = .ok (.newarray .int, 2) := by decide +kernel
theorem dX0_init_75 : decode cX0_init 75 = .ok (.putfield 37, 3) := by decide +kernel
theorem dX0_init_78 : decode cX0_init 78 = .ok (.return_, 1) := by decide +kernel
theorem dX0_clear_0 : decode cX0_clear 0 = .ok (.aload_n 0, 1) := by decide +kernel
theorem dX0_clear_1 : decode cX0_clear 1 = .ok (.iconst (-1), 1) := by decide +kernel
theorem dX0_clear_2 : decode cX0_clear 2 = .ok (.putfield 40, 3) := by decide +kernel
theorem dX0_clear_5 : decode cX0_clear 5 = .ok (.aload_n 0, 1) := by decide +kernel
theorem dX0_clear_6 : decode cX0_clear 6 = .ok (.iconst 0, 1) := by decide +kernel
theorem dX0_clear_7 : decode cX0_clear 7 = .ok (.putfield 44, 3) := by decide +kernel
theorem dX0_clear_10 : decode cX0_clear 10 = .ok (.aload_n 0, 1) := by decide +kernel
theorem dX0_clear_11 : decode cX0_clear 11 = .ok (.iconst 0, 1) := by decide +kernel
theorem dX0_clear_12 : decode cX0_clear 12 = .ok (.putfield 47, 3) := by decide +kernel
theorem dX0_clear_15 : decode cX0_clear 15 = .ok (.aload_n 0, 1) := by decide +kernel
theorem dX0_clear_16 : decode cX0_clear 16 = .ok (.iconst (-1), 1) := by decide +kernel
theorem dX0_clear_17 : decode cX0_clear 17 = .ok (.putfield 50, 3) := by decide +kernel
theorem dX0_clear_20 : decode cX0_clear 20 = .ok (.aload_n 0, 1) := by decide +kernel
theorem dX0_clear_21 : decode cX0_clear 21 = .ok (.iconst 0, 1) := by decide +kernel
theorem dX0_clear_22 : decode cX0_clear 22 = .ok (.putfield 53, 3) := by decide +kernel
theorem dX0_clear_25 : decode cX0_clear 25 = .ok (.aload_n 0, 1) := by decide +kernel
theorem dX0_clear_26 : decode cX0_clear 26 = .ok (.iconst 0, 1) := by decide +kernel
theorem dX0_clear_27 : decode cX0_clear 27 = .ok (.putfield 56, 3) := by decide +kernel
theorem dX0_clear_30 : decode cX0_clear 30 = .ok (.aload_n 0, 1) := by decide +kernel
theorem dX0_clear_31 : decode cX0_clear 31 = .ok (.iconst 0, 1) := by decide +kernel
theorem dX0_clear_32 : decode cX0_clear 32 = .ok (.putfield 59, 3) := by decide +kernel
theorem dX0_clear_35 : decode cX0_clear 35 = .ok (.aload_n 0, 1) := by decide +kernel
theorem dX0_clear_36 : decode cX0_clear 36 = .ok (.iconst 0, 1) := by decide +kernel
theorem dX0_clear_37 : decode cX0_clear 37 = .ok (.putfield 62, 3) := by decide +kernel
theorem dX0_clear_40 : decode cX0_clear 40 = .ok (.return_, 1) := by decide +kernel
theorem dX0_emit_0 : decode cX0_emit 0 = .ok (.aload_n 0, 1) := by decide +kernel
theorem dX0_emit_1 : decode cX0_emit 1 = .ok (.getfield 53, 3) := by decide +kernel
theorem dX0_emit_4 : decode cX0_emit 4 = .ok (.aload_n 0, 1) := by decide +kernel
theorem dX0_emit_5 : decode cX0_emit 5 = .ok (.getfield 9, 3) := by decide +kernel
theorem dX0_emit_8 : decode cX0_emit 8 = .ok (.arraylength, 1) := by decide +kernel
theorem dX0_emit_9 : decode cX0_emit 9 = .ok (.if_icmp .lt 5, 3) := by decide +kernel
theorem dX0_emit_12 : decode cX0_emit 12 = .ok (.iconst (-1), 1) := by decide +kernel
theorem dX0_emit_13 : decode cX0_emit 13 = .ok (.ireturn, 1) := by decide +kernel
theorem dX0_emit_14 : decode cX0_emit 14 = .ok (.aload_n 0, 1) := by decide +kernel
theorem dX0_emit_15 : decode cX0_emit 15 = .ok (.getfield 9, 3) := by decide +kernel
theorem dX0_emit_18 : decode cX0_emit 18 = .ok (.aload_n 0, 1) := by decide +kernel
theorem dX0_emit_19 : decode cX0_emit 19 = .ok (.getfield 53, 3) := by decide +kernel
theorem dX0_emit_22 : decode cX0_emit 22 = .ok (.iload_n 1, 1) := by decide +kernel
theorem dX0_emit_23 : decode cX0_emit 23 = .ok (.iastore, 1) := by decide +kernel
theorem dX0_emit_24 : decode cX0_emit 24 = .ok (.aload_n 0, 1) := by decide +kernel
theorem dX0_emit_25 : decode cX0_emit 25 = .ok (.getfield 15, 3) := by decide +kernel
theorem dX0_emit_28 : decode cX0_emit 28 = .ok (.aload_n 0, 1) := by decide +kernel
theorem dX0_emit_29 : decode cX0_emit 29 = .ok (.getfield 53, 3) := by decide +kernel
theorem dX0_emit_32 : decode cX0_emit 32 = .ok (.lload_n 2, 1) := by decide +kernel
theorem dX0_emit_33 : decode cX0_emit 33 = .ok (.lastore, 1) := by decide +kernel
theorem dX0_emit_34 : decode cX0_emit 34 = .ok (.aload_n 0, 1) := by decide +kernel
theorem dX0_emit_35 : decode cX0_emit 35 = .ok (.dup, 1) := by decide +kernel
theorem dX0_emit_36 : decode cX0_emit 36 = .ok (.getfield 53, 3) := by decide +kernel
theorem dX0_emit_39 : decode cX0_emit 39 = .ok (.iconst 1, 1) := by decide +kernel
theorem dX0_emit_40 : decode cX0_emit 40 = .ok (.iadd, 1) := by decide +kernel
theorem dX0_emit_41 : decode cX0_emit 41 = .ok (.putfield 53, 3) := by decide +kernel
theorem dX0_emit_44 : decode cX0_emit 44 = .ok (.aload_n 0, 1) := by decide +kernel
theorem dX0_emit_45 : decode cX0_emit 45 = .ok (.getfield 53, 3) := by decide +kernel
theorem dX0_emit_48 : decode cX0_emit 48 = .ok (.iconst 1, 1) := by decide +kernel
theorem dX0_emit_49 : decode cX0_emit 49 = .ok (.isub, 1) := by decide +kernel
theorem dX0_emit_50 : decode cX0_emit 50 = .ok (.ireturn, 1) := by decide +kernel
theorem dX0_emitReference_0 : decode cX0_emitReference 0 = .ok (.aload_n 0, 1) := by decide +kernel
theorem dX0_emitReference_1 : decode cX0_emitReference 1 = .ok (.iload_n 1, 1) := by decide +kernel
theorem dX0_emitReference_2 : decode cX0_emitReference 2 = .ok (.iload_n 2, 1) := by decide +kernel
theorem dX0_emitReference_3 : decode cX0_emitReference 3 = .ok (.i2l, 1) := by decide +kernel
theorem dX0_emitReference_4 : decode cX0_emitReference 4 = .ok (.bipush 40, 2) := by decide +kernel
theorem dX0_emitReference_6 : decode cX0_emitReference 6 = .ok (.lshl, 1) := by decide +kernel
theorem dX0_emitReference_7 : decode cX0_emitReference 7 = .ok (.lload_n 3, 1) := by decide +kernel
theorem dX0_emitReference_8 : decode cX0_emitReference 8 = .ok (.lor, 1) := by decide +kernel
theorem dX0_emitReference_9 : decode cX0_emitReference 9 = .ok (.invokevirtual 65, 3) := by decide +kernel
theorem dX0_emitReference_12 : decode cX0_emitReference 12 = .ok (.pop, 1) := by decide +kernel
theorem dX0_emitReference_13 : decode cX0_emitReference 13 = .ok (.return_, 1) := by decide +kernel
theorem dX0_landHere_0 : decode cX0_landHere 0 = .ok (.iload_n 1, 1) := by decide +kernel
theorem dX0_landHere_1 : decode cX0_landHere 1 = .ok (.ifCond .lt 22, 3) := by decide +kernel
theorem dX0_landHere_4 : decode cX0_landHere 4 = .ok (.iload_n 1, 1) := by decide +kernel
theorem dX0_landHere_5 : decode cX0_landHere 5 = .ok (.aload_n 0, 1) := by decide +kernel
theorem dX0_landHere_6 : decode cX0_landHere 6 = .ok (.getfield 53, 3) := by decide +kernel
theorem dX0_landHere_9 : decode cX0_landHere 9 = .ok (.if_icmp .ge 14, 3) := by decide +kernel
theorem dX0_landHere_12 : decode cX0_landHere 12 = .ok (.aload_n 0, 1) := by decide +kernel
theorem dX0_landHere_13 : decode cX0_landHere 13 = .ok (.getfield 15, 3) := by decide +kernel
theorem dX0_landHere_16 : decode cX0_landHere 16 = .ok (.iload_n 1, 1) := by decide +kernel
theorem dX0_landHere_17 : decode cX0_landHere 17 = .ok (.aload_n 0, 1) := by decide +kernel
theorem dX0_landHere_18 : decode cX0_landHere 18 = .ok (.getfield 53, 3) := by decide +kernel
theorem dX0_landHere_21 : decode cX0_landHere 21 = .ok (.i2l, 1) := by decide +kernel
theorem dX0_landHere_22 : decode cX0_landHere 22 = .ok (.lastore, 1) := by decide +kernel
theorem dX0_landHere_23 : decode cX0_landHere 23 = .ok (.return_, 1) := by decide +kernel
theorem dX0_hasName_0 : decode cX0_hasName 0 = .ok (.aload_n 0, 1) := by decide +kernel
theorem dX0_hasName_1 : decode cX0_hasName 1 = .ok (.getfield 19, 3) := by decide +kernel
theorem dX0_hasName_4 : decode cX0_hasName 4 = .ok (.aload_n 0, 1) := by decide +kernel
theorem dX0_hasName_5 : decode cX0_hasName 5 = .ok (.getfield 56, 3) := by decide +kernel
theorem dX0_hasName_8 : decode cX0_hasName 8 = .ok (.lload_n 1, 1) := by decide +kernel
theorem dX0_hasName_9 : decode cX0_hasName 9 = .ok (.invokestatic 69, 3) := by decide +kernel
theorem dX0_hasName_12 : decode cX0_hasName 12 = .ok (.iconst (-1), 1) := by decide +kernel
theorem dX0_hasName_13 : decode cX0_hasName 13 = .ok (.if_icmp .ne 19, 3) := by decide +kernel
theorem dX0_hasName_16 : decode cX0_hasName 16 = .ok (.aload_n 0, 1) := by decide +kernel
theorem dX0_hasName_17 : decode cX0_hasName 17 = .ok (.getfield 25, 3) := by decide +kernel
theorem dX0_hasName_20 : decode cX0_hasName 20 = .ok (.aload_n 0, 1) := by decide +kernel
theorem dX0_hasName_21 : decode cX0_hasName 21 = .ok (.getfield 59, 3) := by decide +kernel
theorem dX0_hasName_24 : decode cX0_hasName 24 = .ok (.lload_n 1, 1) := by decide +kernel
theorem dX0_hasName_25 : decode cX0_hasName 25 = .ok (.invokestatic 69, 3) := by decide +kernel
theorem dX0_hasName_28 : decode cX0_hasName 28 = .ok (.iconst (-1), 1) := by decide +kernel
theorem dX0_hasName_29 : decode cX0_hasName 29 = .ok (.if_icmp .eq 7, 3) := by decide +kernel
theorem dX0_hasName_32 : decode cX0_hasName 32 = .ok (.iconst 1, 1) := by decide +kernel
theorem dX0_hasName_33 : decode cX0_hasName 33 = .ok (.goto 4, 3) := by decide +kernel
theorem dX0_hasName_36 : decode cX0_hasName 36 = .ok (.iconst 0, 1) := by decide +kernel
theorem dX0_hasName_37 : decode cX0_hasName 37 = .ok (.ireturn, 1) := by decide +kernel
theorem dX0_addConst_0 : decode cX0_addConst 0 = .ok (.aload_n 0, 1) := by decide +kernel
theorem dX0_addConst_1 : decode cX0_addConst 1 = .ok (.getfield 56, 3) := by decide +kernel
theorem dX0_addConst_4 : decode cX0_addConst 4 = .ok (.bipush 8, 2) := by decide +kernel
theorem dX0_addConst_6 : decode cX0_addConst 6 = .ok (.if_icmp .ge 36, 3) := by decide +kernel
theorem dX0_addConst_9 : decode cX0_addConst 9 = .ok (.aload_n 0, 1) := by decide +kernel
theorem dX0_addConst_10 : decode cX0_addConst 10 = .ok (.getfield 19, 3) := by decide +kernel
theorem dX0_addConst_13 : decode cX0_addConst 13 = .ok (.aload_n 0, 1) := by decide +kernel
theorem dX0_addConst_14 : decode cX0_addConst 14 = .ok (.getfield 56, 3) := by decide +kernel
theorem dX0_addConst_17 : decode cX0_addConst 17 = .ok (.lload_n 1, 1) := by decide +kernel
theorem dX0_addConst_18 : decode cX0_addConst 18 = .ok (.lastore, 1) := by decide +kernel
theorem dX0_addConst_19 : decode cX0_addConst 19 = .ok (.aload_n 0, 1) := by decide +kernel
theorem dX0_addConst_20 : decode cX0_addConst 20 = .ok (.getfield 22, 3) := by decide +kernel
theorem dX0_addConst_23 : decode cX0_addConst 23 = .ok (.aload_n 0, 1) := by decide +kernel
theorem dX0_addConst_24 : decode cX0_addConst 24 = .ok (.getfield 56, 3) := by decide +kernel
theorem dX0_addConst_27 : decode cX0_addConst 27 = .ok (.aload_n 0, 1) := by decide +kernel
theorem dX0_addConst_28 : decode cX0_addConst 28 = .ok (.getfield 53, 3) := by decide +kernel
theorem dX0_addConst_31 : decode cX0_addConst 31 = .ok (.iastore, 1) := by decide +kernel
theorem dX0_addConst_32 : decode cX0_addConst 32 = .ok (.aload_n 0, 1) := by decide +kernel
theorem dX0_addConst_33 : decode cX0_addConst 33 = .ok (.dup, 1) := by decide +kernel
theorem dX0_addConst_34 : decode cX0_addConst 34 = .ok (.getfield 56, 3) := by decide +kernel
theorem dX0_addConst_37 : decode cX0_addConst 37 = .ok (.iconst 1, 1) := by decide +kernel
theorem dX0_addConst_38 : decode cX0_addConst 38 = .ok (.iadd, 1) := by decide +kernel
theorem dX0_addConst_39 : decode cX0_addConst 39 = .ok (.putfield 56, 3) := by decide +kernel
theorem dX0_addConst_42 : decode cX0_addConst 42 = .ok (.return_, 1) := by decide +kernel
theorem dX0_addTable_0 : decode cX0_addTable 0 = .ok (.aload_n 0, 1) := by decide +kernel
theorem dX0_addTable_1 : decode cX0_addTable 1 = .ok (.getfield 59, 3) := by decide +kernel
theorem dX0_addTable_4 : decode cX0_addTable 4 = .ok (.bipush 6, 2) := by decide +kernel
theorem dX0_addTable_6 : decode cX0_addTable 6 = .ok (.if_icmp .ge 34, 3) := by decide +kernel
theorem dX0_addTable_9 : decode cX0_addTable 9 = .ok (.aload_n 0, 1) := by decide +kernel
theorem dX0_addTable_10 : decode cX0_addTable 10 = .ok (.getfield 25, 3) := by decide +kernel
theorem dX0_addTable_13 : decode cX0_addTable 13 = .ok (.aload_n 0, 1) := by decide +kernel
theorem dX0_addTable_14 : decode cX0_addTable 14 = .ok (.getfield 59, 3) := by decide +kernel
theorem dX0_addTable_17 : decode cX0_addTable 17 = .ok (.lload_n 1, 1) := by decide +kernel
theorem dX0_addTable_18 : decode cX0_addTable 18 = .ok (.lastore, 1) := by decide +kernel
theorem dX0_addTable_19 : decode cX0_addTable 19 = .ok (.aload_n 0, 1) := by decide +kernel
theorem dX0_addTable_20 : decode cX0_addTable 20 = .ok (.getfield 28, 3) := by decide +kernel
theorem dX0_addTable_23 : decode cX0_addTable 23 = .ok (.aload_n 0, 1) := by decide +kernel
theorem dX0_addTable_24 : decode cX0_addTable 24 = .ok (.getfield 59, 3) := by decide +kernel
theorem dX0_addTable_27 : decode cX0_addTable 27 = .ok (.lload_n 3, 1) := by decide +kernel
theorem dX0_addTable_28 : decode cX0_addTable 28 = .ok (.l2i, 1) := by decide +kernel
theorem dX0_addTable_29 : decode cX0_addTable 29 = .ok (.iastore, 1) := by decide +kernel
theorem dX0_addTable_30 : decode cX0_addTable 30 = .ok (.aload_n 0, 1) := by decide +kernel
theorem dX0_addTable_31 : decode cX0_addTable 31 = .ok (.dup, 1) := by decide +kernel
theorem dX0_addTable_32 : decode cX0_addTable 32 = .ok (.getfield 59, 3) := by decide +kernel
theorem dX0_addTable_35 : decode cX0_addTable 35 = .ok (.iconst 1, 1) := by decide +kernel
theorem dX0_addTable_36 : decode cX0_addTable 36 = .ok (.iadd, 1) := by decide +kernel
theorem dX0_addTable_37 : decode cX0_addTable 37 = .ok (.putfield 59, 3) := by decide +kernel
theorem dX0_addTable_40 : decode cX0_addTable 40 = .ok (.return_, 1) := by decide +kernel
theorem dX0_openTry_0 : decode cX0_openTry 0 = .ok (.aload_n 0, 1) := by decide +kernel
theorem dX0_openTry_1 : decode cX0_openTry 1 = .ok (.getfield 62, 3) := by decide +kernel
theorem dX0_openTry_4 : decode cX0_openTry 4 = .ok (.bipush 40, 2) := by decide +kernel
theorem dX0_openTry_6 : decode cX0_openTry 6 = .ok (.if_icmp .lt 5, 3) := by decide +kernel
theorem dX0_openTry_9 : decode cX0_openTry 9 = .ok (.iconst (-1), 1) := by decide +kernel
theorem dX0_openTry_10 : decode cX0_openTry 10 = .ok (.ireturn, 1) := by decide +kernel
theorem dX0_openTry_11 : decode cX0_openTry 11 = .ok (.aload_n 0, 1) := by decide +kernel
theorem dX0_openTry_12 : decode cX0_openTry 12 = .ok (.getfield 31, 3) := by decide +kernel
theorem dX0_openTry_15 : decode cX0_openTry 15 = .ok (.aload_n 0, 1) := by decide +kernel
theorem dX0_openTry_16 : decode cX0_openTry 16 = .ok (.getfield 62, 3) := by decide +kernel
theorem dX0_openTry_19 : decode cX0_openTry 19 = .ok (.aload_n 0, 1) := by decide +kernel
theorem dX0_openTry_20 : decode cX0_openTry 20 = .ok (.getfield 53, 3) := by decide +kernel
theorem dX0_openTry_23 : decode cX0_openTry 23 = .ok (.iastore, 1) := by decide +kernel
theorem dX0_openTry_24 : decode cX0_openTry 24 = .ok (.aload_n 0, 1) := by decide +kernel
theorem dX0_openTry_25 : decode cX0_openTry 25 = .ok (.dup, 1) := by decide +kernel
theorem dX0_openTry_26 : decode cX0_openTry 26 = .ok (.getfield 62, 3) := by decide +kernel
theorem dX0_openTry_29 : decode cX0_openTry 29 = .ok (.iconst 1, 1) := by decide +kernel
theorem dX0_openTry_30 : decode cX0_openTry 30 = .ok (.iadd, 1) := by decide +kernel
theorem dX0_openTry_31 : decode cX0_openTry 31 = .ok (.putfield 62, 3) := by decide +kernel
theorem dX0_openTry_34 : decode cX0_openTry 34 = .ok (.aload_n 0, 1) := by decide +kernel
theorem dX0_openTry_35 : decode cX0_openTry 35 = .ok (.getfield 62, 3) := by decide +kernel
theorem dX0_openTry_38 : decode cX0_openTry 38 = .ok (.iconst 1, 1) := by decide +kernel
theorem dX0_openTry_39 : decode cX0_openTry 39 = .ok (.isub, 1) := by decide +kernel
theorem dX0_openTry_40 : decode cX0_openTry 40 = .ok (.ireturn, 1) := by decide +kernel
theorem dX0_closeTry_0 : decode cX0_closeTry 0 = .ok (.iload_n 1, 1) := by decide +kernel
theorem dX0_closeTry_1 : decode cX0_closeTry 1 = .ok (.ifCond .lt 31, 3) := by decide +kernel
theorem dX0_closeTry_4 : decode cX0_closeTry 4 = .ok (.iload_n 1, 1) := by decide +kernel
theorem dX0_closeTry_5 : decode cX0_closeTry 5 = .ok (.aload_n 0, 1) := by decide +kernel
theorem dX0_closeTry_6 : decode cX0_closeTry 6 = .ok (.getfield 62, 3) := by decide +kernel
theorem dX0_closeTry_9 : decode cX0_closeTry 9 = .ok (.if_icmp .ge 23, 3) := by decide +kernel
theorem dX0_closeTry_12 : decode cX0_closeTry 12 = .ok (.aload_n 0, 1) := by decide +kernel
theorem dX0_closeTry_13 : decode cX0_closeTry 13 = .ok (.getfield 34, 3) := by decide +kernel
theorem dX0_closeTry_16 : decode cX0_closeTry 16 = .ok (.iload_n 1, 1) := by decide +kernel
theorem dX0_closeTry_17 : decode cX0_closeTry 17 = .ok (.aload_n 0, 1) := by decide +kernel
theorem dX0_closeTry_18 : decode cX0_closeTry 18 = .ok (.getfield 53, 3) := by decide +kernel
theorem dX0_closeTry_21 : decode cX0_closeTry 21 = .ok (.iastore, 1) := by decide +kernel
theorem dX0_closeTry_22 : decode cX0_closeTry 22 = .ok (.aload_n 0, 1) := by decide +kernel
theorem dX0_closeTry_23 : decode cX0_closeTry 23 = .ok (.getfield 37, 3) := by decide +kernel
theorem dX0_closeTry_26 : decode cX0_closeTry 26 = .ok (.iload_n 1, 1) := by decide +kernel
theorem dX0_closeTry_27 : decode cX0_closeTry 27 = .ok (.aload_n 0, 1) := by decide +kernel
theorem dX0_closeTry_28 : decode cX0_closeTry 28 = .ok (.getfield 53, 3) := by decide +kernel
theorem dX0_closeTry_31 : decode cX0_closeTry 31 = .ok (.iastore, 1) := by decide +kernel
theorem dX0_closeTry_32 : decode cX0_closeTry 32 = .ok (.return_, 1) := by decide +kernel
theorem dX1_init_0 : decode cX1_init 0 = .ok (.aload_n 0, 1) := by decide +kernel
theorem dX1_init_1 : decode cX1_init 1 = .ok (.invokespecial 3, 3) := by decide +kernel
theorem dX1_init_4 : decode cX1_init 4 = .ok (.aload_n 0, 1) := by decide +kernel
theorem dX1_init_5 : decode cX1_init 5 = .ok (.bipush 30, 2) := by decide +kernel
theorem dX1_init_7 : decode cX1_init 7 = .ok (.anewarray 9, 3) := by decide +kernel
theorem dX1_init_10 : decode cX1_init 10 = .ok (.putfield 11, 3) := by decide +kernel
theorem dX1_init_13 : decode cX1_init 13 = .ok (.aload_n 0, 1) := by decide +kernel
theorem dX1_init_14 : decode cX1_init 14 = .ok (.bipush 30, 2) := by decide +kernel
theorem dX1_init_16 : decode cX1_init 16 = .ok (.anewarray 17, 3) := by decide +kernel
theorem dX1_init_19 : decode cX1_init 19 = .ok (.putfield 19, 3) := by decide +kernel
theorem dX1_init_22 : decode cX1_init 22 = .ok (.iconst 0, 1) := by decide +kernel
theorem dX1_init_23 : decode cX1_init 23 = .ok (.istore_n 1, 1) := by decide +kernel
theorem dX1_init_24 : decode cX1_init 24 = .ok (.iload_n 1, 1) := by decide +kernel
theorem dX1_init_25 : decode cX1_init 25 = .ok (.bipush 30, 2) := by decide +kernel
theorem dX1_init_27 : decode cX1_init 27 = .ok (.if_icmp .ge 22, 3) := by decide +kernel
theorem dX1_init_30 : decode cX1_init 30 = .ok (.aload_n 0, 1) := by decide +kernel
theorem dX1_init_31 : decode cX1_init 31 = .ok (.getfield 19, 3) := by decide +kernel
theorem dX1_init_34 : decode cX1_init 34 = .ok (.iload_n 1, 1) := by decide +kernel
theorem dX1_init_35 : decode cX1_init 35 = .ok (.new 17, 3) := by decide +kernel
theorem dX1_init_38 : decode cX1_init 38 = .ok (.dup, 1) := by decide +kernel
theorem dX1_init_39 : decode cX1_init 39 = .ok (.invokespecial 23, 3) := by decide +kernel
theorem dX1_init_42 : decode cX1_init 42 = .ok (.aastore, 1) := by decide +kernel
theorem dX1_init_43 : decode cX1_init 43 = .ok (.iinc 1 1, 3) := by decide +kernel
theorem dX1_init_46 : decode cX1_init 46 = .ok (.goto (-22), 3) := by decide +kernel
theorem dX1_init_49 : decode cX1_init 49 = .ok (.aload_n 0, 1) := by decide +kernel
theorem dX1_init_50 : decode cX1_init 50 = .ok (.iconst 0, 1) := by decide +kernel
theorem dX1_init_51 : decode cX1_init 51 = .ok (.putfield 24, 3) := by decide +kernel
theorem dX1_init_54 : decode cX1_init 54 = .ok (.aload_n 0, 1) := by decide +kernel
theorem dX1_init_55 : decode cX1_init 55 = .ok (.iconst 0, 1) := by decide +kernel
theorem dX1_init_56 : decode cX1_init 56 = .ok (.putfield 28, 3) := by decide +kernel
theorem dX1_init_59 : decode cX1_init 59 = .ok (.return_, 1) := by decide +kernel
theorem dX1_change_0 : decode cX1_change 0 = .ok (.aload_n 0, 1) := by decide +kernel
theorem dX1_change_1 : decode cX1_change 1 = .ok (.getfield 11, 3) := by decide +kernel
theorem dX1_change_4 : decode cX1_change 4 = .ok (.iload_n 1, 1) := by decide +kernel
theorem dX1_change_5 : decode cX1_change 5 = .ok (.aload_n 2, 1) := by decide +kernel
theorem dX1_change_6 : decode cX1_change 6 = .ok (.aastore, 1) := by decide +kernel
theorem dX1_change_7 : decode cX1_change 7 = .ok (.aload_n 0, 1) := by decide +kernel
theorem dX1_change_8 : decode cX1_change 8 = .ok (.dup, 1) := by decide +kernel
theorem dX1_change_9 : decode cX1_change 9 = .ok (.getfield 24, 3) := by decide +kernel
theorem dX1_change_12 : decode cX1_change 12 = .ok (.iconst 1, 1) := by decide +kernel
theorem dX1_change_13 : decode cX1_change 13 = .ok (.iload_n 1, 1) := by decide +kernel
theorem dX1_change_14 : decode cX1_change 14 = .ok (.ishl, 1) := by decide +kernel
theorem dX1_change_15 : decode cX1_change 15 = .ok (.ior, 1) := by decide +kernel
theorem dX1_change_16 : decode cX1_change 16 = .ok (.putfield 24, 3) := by decide +kernel
theorem dX1_change_19 : decode cX1_change 19 = .ok (.return_, 1) := by decide +kernel
theorem dX1_renew_0 : decode cX1_renew 0 = .ok (.aload_n 0, 1) := by decide +kernel
theorem dX1_renew_1 : decode cX1_renew 1 = .ok (.invokevirtual 31, 3) := by decide +kernel
theorem dX1_renew_4 : decode cX1_renew 4 = .ok (.istore_n 1, 1) := by decide +kernel
theorem dX1_renew_5 : decode cX1_renew 5 = .ok (.iconst 0, 1) := by decide +kernel
theorem dX1_renew_6 : decode cX1_renew 6 = .ok (.istore_n 2, 1) := by decide +kernel
theorem dX1_renew_7 : decode cX1_renew 7 = .ok (.aload_n 0, 1) := by decide +kernel
theorem dX1_renew_8 : decode cX1_renew 8 = .ok (.dup, 1) := by decide +kernel
theorem dX1_renew_9 : decode cX1_renew 9 = .ok (.getfield 28, 3) := by decide +kernel
theorem dX1_renew_12 : decode cX1_renew 12 = .ok (.iconst 1, 1) := by decide +kernel
theorem dX1_renew_13 : decode cX1_renew 13 = .ok (.iadd, 1) := by decide +kernel
theorem dX1_renew_14 : decode cX1_renew 14 = .ok (.putfield 28, 3) := by decide +kernel
theorem dX1_renew_17 : decode cX1_renew 17 = .ok (.iconst 0, 1) := by decide +kernel
theorem dX1_renew_18 : decode cX1_renew 18 = .ok (.istore_n 3, 1) := by decide +kernel
theorem dX1_renew_19 : decode cX1_renew 19 = .ok (.iload_n 3, 1) := by decide +kernel
theorem dX1_renew_20 : decode cX1_renew 20 = .ok (.bipush 30, 2) := by decide +kernel
theorem dX1_renew_22 : decode cX1_renew 22 = .ok (.if_icmp .ge 54, 3) := by decide +kernel
theorem dX1_renew_25 : decode cX1_renew 25 = .ok (.iload_n 1, 1) := by decide +kernel
theorem dX1_renew_26 : decode cX1_renew 26 = .ok (.iload_n 3, 1) := by decide +kernel
theorem dX1_renew_27 : decode cX1_renew 27 = .ok (.iushr, 1) := by decide +kernel
theorem dX1_renew_28 : decode cX1_renew 28 = .ok (.iconst 1, 1) := by decide +kernel
theorem dX1_renew_29 : decode cX1_renew 29 = .ok (.iand, 1) := by decide +kernel
theorem dX1_renew_30 : decode cX1_renew 30 = .ok (.iconst 1, 1) := by decide +kernel
theorem dX1_renew_31 : decode cX1_renew 31 = .ok (.if_icmp .ne 39, 3) := by decide +kernel
theorem dX1_renew_34 : decode cX1_renew 34 = .ok (.aload_n 0, 1) := by decide +kernel
theorem dX1_renew_35 : decode cX1_renew 35 = .ok (.getfield 19, 3) := by decide +kernel
theorem dX1_renew_38 : decode cX1_renew 38 = .ok (.iload_n 3, 1) := by decide +kernel
theorem dX1_renew_39 : decode cX1_renew 39 = .ok (.aaload, 1) := by decide +kernel
theorem dX1_renew_40 : decode cX1_renew 40 = .ok (.aload_n 0, 1) := by decide +kernel
theorem dX1_renew_41 : decode cX1_renew 41 = .ok (.getfield 11, 3) := by decide +kernel
theorem dX1_renew_44 : decode cX1_renew 44 = .ok (.iload_n 3, 1) := by decide +kernel
theorem dX1_renew_45 : decode cX1_renew 45 = .ok (.aaload, 1) := by decide +kernel
theorem dX1_renew_46 : decode cX1_renew 46 = .ok (.aload_n 0, 1) := by decide +kernel
theorem dX1_renew_47 : decode cX1_renew 47 = .ok (.getfield 28, 3) := by decide +kernel
theorem dX1_renew_50 : decode cX1_renew 50 = .ok (.invokevirtual 35, 3) := by decide +kernel
theorem dX1_renew_53 : decode cX1_renew 53 = .ok (.iload_n 2, 1) := by decide +kernel
theorem dX1_renew_54 : decode cX1_renew 54 = .ok (.aload_n 0, 1) := by decide +kernel
theorem dX1_renew_55 : decode cX1_renew 55 = .ok (.getfield 11, 3) := by decide +kernel
theorem dX1_renew_58 : decode cX1_renew 58 = .ok (.iload_n 3, 1) := by decide +kernel
theorem dX1_renew_59 : decode cX1_renew 59 = .ok (.aaload, 1) := by decide +kernel
theorem dX1_renew_60 : decode cX1_renew 60 = .ok (.ifnonnull 7, 3) := by decide +kernel
theorem dX1_renew_63 : decode cX1_renew 63 = .ok (.iconst 0, 1) := by decide +kernel
theorem dX1_renew_64 : decode cX1_renew 64 = .ok (.goto 4, 3) := by decide +kernel
theorem dX1_renew_67 : decode cX1_renew 67 = .ok (.iconst 1, 1) := by decide +kernel
theorem dX1_renew_68 : decode cX1_renew 68 = .ok (.iadd, 1) := by decide +kernel
theorem dX1_renew_69 : decode cX1_renew 69 = .ok (.istore_n 2, 1) := by decide +kernel
theorem dX1_renew_70 : decode cX1_renew 70 = .ok (.iinc 3 1, 3) := by decide +kernel
theorem dX1_renew_73 : decode cX1_renew 73 = .ok (.goto (-54), 3) := by decide +kernel
theorem dX1_renew_76 : decode cX1_renew 76 = .ok (.aload_n 0, 1) := by decide +kernel
theorem dX1_renew_77 : decode cX1_renew 77 = .ok (.iconst 0, 1) := by decide +kernel
theorem dX1_renew_78 : decode cX1_renew 78 = .ok (.putfield 24, 3) := by decide +kernel
theorem dX1_renew_81 : decode cX1_renew 81 = .ok (.iload_n 2, 1) := by decide +kernel
theorem dX1_renew_82 : decode cX1_renew 82 = .ok (.ireturn, 1) := by decide +kernel
theorem dX1_touchedYears_0 : decode cX1_touchedYears 0 = .ok (.aload_n 0, 1) := by decide +kernel
theorem dX1_touchedYears_1 : decode cX1_touchedYears 1 = .ok (.getfield 24, 3) := by decide +kernel
theorem dX1_touchedYears_4 : decode cX1_touchedYears 4 = .ok (.istore_n 1, 1) := by decide +kernel
theorem dX1_touchedYears_5 : decode cX1_touchedYears 5 = .ok (.iconst 0, 1) := by decide +kernel
theorem dX1_touchedYears_6 : decode cX1_touchedYears 6 = .ok (.istore_n 2, 1) := by decide +kernel
theorem dX1_touchedYears_7 : decode cX1_touchedYears 7 = .ok (.iconst 0, 1) := by decide +kernel
theorem dX1_touchedYears_8 : decode cX1_touchedYears 8 = .ok (.istore_n 3, 1) := by decide +kernel
theorem dX1_touchedYears_9 : decode cX1_touchedYears 9 = .ok (.iload_n 3, 1) := by decide +kernel
theorem dX1_touchedYears_10 : decode cX1_touchedYears 10 = .ok (.bipush 30, 2) := by decide +kernel
theorem dX1_touchedYears_12 : decode cX1_touchedYears 12 = .ok (.if_icmp .ge 64, 3) := by decide +kernel
theorem dX1_touchedYears_15 : decode cX1_touchedYears 15 = .ok (.iload_n 1, 1) := by decide +kernel
theorem dX1_touchedYears_16 : decode cX1_touchedYears 16 = .ok (.iload_n 2, 1) := by decide +kernel
theorem dX1_touchedYears_17 : decode cX1_touchedYears 17 = .ok (.if_icmp .eq 59, 3) := by decide +kernel
theorem dX1_touchedYears_20 : decode cX1_touchedYears 20 = .ok (.iload_n 1, 1) := by decide +kernel
theorem dX1_touchedYears_21 : decode cX1_touchedYears 21 = .ok (.istore_n 2, 1) := by decide +kernel
theorem dX1_touchedYears_22 : decode cX1_touchedYears 22 = .ok (.iconst 0, 1) := by decide +kernel
theorem dX1_touchedYears_23 : decode cX1_touchedYears 23 = .ok (.istore 4, 2) := by decide +kernel
theorem dX1_touchedYears_25 : decode cX1_touchedYears 25 = .ok (.iload 4, 2) := by decide +kernel
theorem dX1_touchedYears_27 : decode cX1_touchedYears 27 = .ok (.bipush 30, 2) := by decide +kernel
theorem dX1_touchedYears_29 : decode cX1_touchedYears 29 = .ok (.if_icmp .ge 41, 3) := by decide +kernel
theorem dX1_touchedYears_32 : decode cX1_touchedYears 32 = .ok (.aload_n 0, 1) := by decide +kernel
theorem dX1_touchedYears_33 : decode cX1_touchedYears 33 = .ok (.getfield 11, 3) := by decide +kernel
theorem dX1_touchedYears_36 : decode cX1_touchedYears 36 = .ok (.iload 4, 2) := by decide +kernel
theorem dX1_touchedYears_38 : decode cX1_touchedYears 38 = .ok (.aaload, 1) := by decide +kernel
theorem dX1_touchedYears_39 : decode cX1_touchedYears 39 = .ok (.ifnull 25, 3) := by decide +kernel
theorem dX1_touchedYears_42 : decode cX1_touchedYears 42 = .ok (.aload_n 0, 1) := by decide +kernel
theorem dX1_touchedYears_43 : decode cX1_touchedYears 43 = .ok (.getfield 11, 3) := by decide +kernel
theorem dX1_touchedYears_46 : decode cX1_touchedYears 46 = .ok (.iload 4, 2) := by decide +kernel
theorem dX1_touchedYears_48 : decode cX1_touchedYears 48 = .ok (.aaload, 1) := by decide +kernel
theorem dX1_touchedYears_49 : decode cX1_touchedYears 49 = .ok (.getfield 39, 3) := by decide +kernel
theorem dX1_touchedYears_52 : decode cX1_touchedYears 52 = .ok (.iload_n 1, 1) := by decide +kernel
theorem dX1_touchedYears_53 : decode cX1_touchedYears 53 = .ok (.iand, 1) := by decide +kernel
theorem dX1_touchedYears_54 : decode cX1_touchedYears 54 = .ok (.ifCond .eq 10, 3) := by decide +kernel
theorem dX1_touchedYears_57 : decode cX1_touchedYears 57 = .ok (.iload_n 1, 1) := by decide +kernel
theorem dX1_touchedYears_58 : decode cX1_touchedYears 58 = .ok (.iconst 1, 1) := by decide +kernel
theorem dX1_touchedYears_59 : decode cX1_touchedYears 59 = .ok (.iload 4, 2) := by decide +kernel
theorem dX1_touchedYears_61 : decode cX1_touchedYears 61 = .ok (.ishl, 1) := by decide +kernel
theorem dX1_touchedYears_62 : decode cX1_touchedYears 62 = .ok (.ior, 1) := by decide +kernel
theorem dX1_touchedYears_63 : decode cX1_touchedYears 63 = .ok (.istore_n 1, 1) := by decide +kernel
theorem dX1_touchedYears_64 : decode cX1_touchedYears 64 = .ok (.iinc 4 1, 3) := by decide +kernel
theorem dX1_touchedYears_67 : decode cX1_touchedYears 67 = .ok (.goto (-42), 3) := by decide +kernel
theorem dX1_touchedYears_70 : decode cX1_touchedYears 70 = .ok (.iinc 3 1, 3) := by decide +kernel
theorem dX1_touchedYears_73 : decode cX1_touchedYears 73 = .ok (.goto (-64), 3) := by decide +kernel
theorem dX1_touchedYears_76 : decode cX1_touchedYears 76 = .ok (.iload_n 1, 1) := by decide +kernel
theorem dX1_touchedYears_77 : decode cX1_touchedYears 77 = .ok (.ireturn, 1) := by decide +kernel
theorem dX1_find_0 : decode cX1_find 0 = .ok (.lload_n 2, 1) := by decide +kernel
theorem dX1_find_1 : decode cX1_find 1 = .ok (.ldc2_w 42, 3) := by decide +kernel
theorem dX1_find_4 : decode cX1_find 4 = .ok (.land, 1) := by decide +kernel
theorem dX1_find_5 : decode cX1_find 5 = .ok (.lstore 4, 2) := by decide +kernel
theorem dX1_find_7 : decode cX1_find 7 = .ok (.lload_n 2, 1) := by decide +kernel
theorem dX1_find_8 : decode cX1_find 8 = .ok (.bipush 40, 2) := by decide +kernel
theorem dX1_find_10 : decode cX1_find 10 = .ok (.lushr, 1) := by decide +kernel
theorem dX1_find_11 : decode cX1_find 11 = .ok (.l2i, 1) := by decide +kernel
theorem dX1_find_12 : decode cX1_find 12 = .ok (.istore 6, 2) := by decide +kernel
theorem dX1_find_14 : decode cX1_find 14 = .ok (.iconst 0, 1) := by decide +kernel
theorem dX1_find_15 : decode cX1_find 15 = .ok (.istore 7, 2) := by decide +kernel
theorem dX1_find_17 : decode cX1_find 17 = .ok (.iload 7, 2) := by decide +kernel
theorem dX1_find_19 : decode cX1_find 19 = .ok (.bipush 30, 2) := by decide +kernel
theorem dX1_find_21 : decode cX1_find 21 = .ok (.if_icmp .ge 72, 3) := by decide +kernel
theorem dX1_find_24 : decode cX1_find 24 = .ok (.iload 6, 2) := by decide +kernel
theorem dX1_find_26 : decode cX1_find 26 = .ok (.ifCond .lt 67, 3) := by decide +kernel
theorem dX1_find_29 : decode cX1_find 29 = .ok (.iload 6, 2) := by decide +kernel
theorem dX1_find_31 : decode cX1_find 31 = .ok (.bipush 30, 2) := by decide +kernel
theorem dX1_find_33 : decode cX1_find 33 = .ok (.if_icmp .ge 60, 3) := by decide +kernel
theorem dX1_find_36 : decode cX1_find 36 = .ok (.aload_n 0, 1) := by decide +kernel
theorem dX1_find_37 : decode cX1_find 37 = .ok (.getfield 19, 3) := by decide +kernel
theorem dX1_find_40 : decode cX1_find 40 = .ok (.iload 6, 2) := by decide +kernel
theorem dX1_find_42 : decode cX1_find 42 = .ok (.aaload, 1) := by decide +kernel
theorem dX1_find_43 : decode cX1_find 43 = .ok (.getfield 44, 3) := by decide +kernel
theorem dX1_find_46 : decode cX1_find 46 = .ok (.astore 8, 2) := by decide +kernel
theorem dX1_find_48 : decode cX1_find 48 = .ok (.aload 8, 2) := by decide +kernel
theorem dX1_find_50 : decode cX1_find 50 = .ok (.ifnonnull 5, 3) := by decide +kernel
theorem dX1_find_53 : decode cX1_find 53 = .ok (.iconst (-1), 1) := by decide +kernel
theorem dX1_find_54 : decode cX1_find 54 = .ok (.ireturn, 1) := by decide +kernel
theorem dX1_find_55 : decode cX1_find 55 = .ok (.aload 8, 2) := by decide +kernel
theorem dX1_find_57 : decode cX1_find 57 = .ok (.iload_n 1, 1) := by decide +kernel
theorem dX1_find_58 : decode cX1_find 58 = .ok (.lload 4, 2) := by decide +kernel
theorem dX1_find_60 : decode cX1_find 60 = .ok (.invokevirtual 48, 3) := by decide +kernel
theorem dX1_find_63 : decode cX1_find 63 = .ok (.istore 9, 2) := by decide +kernel
theorem dX1_find_65 : decode cX1_find 65 = .ok (.iload 9, 2) := by decide +kernel
theorem dX1_find_67 : decode cX1_find 67 = .ok (.iconst (-1), 1) := by decide +kernel
theorem dX1_find_68 : decode cX1_find 68 = .ok (.if_icmp .eq 12, 3) := by decide +kernel
theorem dX1_find_71 : decode cX1_find 71 = .ok (.iload 6, 2) := by decide +kernel
theorem dX1_find_73 : decode cX1_find 73 = .ok (.bipush 8, 2) := by decide +kernel
theorem dX1_find_75 : decode cX1_find 75 = .ok (.imul, 1) := by decide +kernel
theorem dX1_find_76 : decode cX1_find 76 = .ok (.iload 9, 2) := by decide +kernel
theorem dX1_find_78 : decode cX1_find 78 = .ok (.iadd, 1) := by decide +kernel
theorem dX1_find_79 : decode cX1_find 79 = .ok (.ireturn, 1) := by decide +kernel
theorem dX1_find_80 : decode cX1_find 80 = .ok (.aload 8, 2) := by decide +kernel
theorem dX1_find_82 : decode cX1_find 82 = .ok (.getfield 52, 3) := by decide +kernel
theorem dX1_find_85 : decode cX1_find 85 = .ok (.istore 6, 2) := by decide +kernel
theorem dX1_find_87 : decode cX1_find 87 = .ok (.iinc 7 1, 3) := by decide +kernel
theorem dX1_find_90 : decode cX1_find 90 = .ok (.goto (-73), 3) := by decide +kernel
theorem dX1_find_93 : decode cX1_find 93 = .ok (.iconst (-1), 1) := by decide +kernel
theorem dX1_find_94 : decode cX1_find 94 = .ok (.ireturn, 1) := by decide +kernel
theorem dX2_init_0 : decode cX2_init 0 = .ok (.aload_n 0, 1) := by decide +kernel
theorem dX2_init_1 : decode cX2_init 1 = .ok (.invokespecial 1, 3) := by decide +kernel
theorem dX2_init_4 : decode cX2_init 4 = .ok (.return_, 1) := by decide +kernel
theorem dX3_init_0 : decode cX3_init 0 = .ok (.aload_n 0, 1) := by decide +kernel
theorem dX3_init_1 : decode cX3_init 1 = .ok (.invokespecial 3, 3) := by decide +kernel
theorem dX3_init_4 : decode cX3_init 4 = .ok (.aload_n 0, 1) := by decide +kernel
theorem dX3_init_5 : decode cX3_init 5 = .ok (.aload_n 1, 1) := by decide +kernel
theorem dX3_init_6 : decode cX3_init 6 = .ok (.putfield 9, 3) := by decide +kernel
theorem dX3_init_9 : decode cX3_init 9 = .ok (.aload_n 0, 1) := by decide +kernel
theorem dX3_init_10 : decode cX3_init 10 = .ok (.bipush 31, 2) := by decide +kernel
theorem dX3_init_12 : decode cX3_init 12 = .ok (.anewarray 15, 3) := by decide +kernel
theorem dX3_init_15 : decode cX3_init 15 = .ok (.putfield 17, 3) := by decide +kernel
theorem dX3_init_18 : decode cX3_init 18 = .ok (.iconst 0, 1) := by decide +kernel
theorem dX3_init_19 : decode cX3_init 19 = .ok (.istore_n 2, 1) := by decide +kernel
theorem dX3_init_20 : decode cX3_init 20 = .ok (.iload_n 2, 1) := by decide +kernel
theorem dX3_init_21 : decode cX3_init 21 = .ok (.bipush 31, 2) := by decide +kernel
theorem dX3_init_23 : decode cX3_init 23 = .ok (.if_icmp .ge 22, 3) := by decide +kernel
theorem dX3_init_26 : decode cX3_init 26 = .ok (.aload_n 0, 1) := by decide +kernel
theorem dX3_init_27 : decode cX3_init 27 = .ok (.getfield 17, 3) := by decide +kernel
theorem dX3_init_30 : decode cX3_init 30 = .ok (.iload_n 2, 1) := by decide +kernel
theorem dX3_init_31 : decode cX3_init 31 = .ok (.new 15, 3) := by decide +kernel
theorem dX3_init_34 : decode cX3_init 34 = .ok (.dup, 1) := by decide +kernel
theorem dX3_init_35 : decode cX3_init 35 = .ok (.invokespecial 21, 3) := by decide +kernel
theorem dX3_init_38 : decode cX3_init 38 = .ok (.aastore, 1) := by decide +kernel
theorem dX3_init_39 : decode cX3_init 39 = .ok (.iinc 2 1, 3) := by decide +kernel
theorem dX3_init_42 : decode cX3_init 42 = .ok (.goto (-22), 3) := by decide +kernel
theorem dX3_init_45 : decode cX3_init 45 = .ok (.aload_n 0, 1) := by decide +kernel
theorem dX3_init_46 : decode cX3_init 46 = .ok (.sipush 1240, 3) := by decide +kernel
theorem dX3_init_49 : decode cX3_init 49 = .ok (.newarray .long, 2) := by decide +kernel
theorem dX3_init_51 : decode cX3_init 51 = .ok (.putfield 22, 3) := by decide +kernel
theorem dX3_init_54 : decode cX3_init 54 = .ok (.aload_n 0, 1) := by decide +kernel
theorem dX3_init_55 : decode cX3_init 55 = .ok (.iconst 4, 1) := by decide +kernel
theorem dX3_init_56 : decode cX3_init 56 = .ok (.newarray .long, 2) := by decide +kernel
theorem dX3_init_58 : decode cX3_init 58 = .ok (.putfield 26, 3) := by decide +kernel
theorem dX3_init_61 : decode cX3_init 61 = .ok (.aload_n 0, 1) := by decide +kernel
theorem dX3_init_62 : decode cX3_init 62 = .ok (.sipush 300, 3) := by decide +kernel
theorem dX3_init_65 : decode cX3_init 65 = .ok (.newarray .int, 2) := by decide +kernel
theorem dX3_init_67 : decode cX3_init 67 = .ok (.putfield 29, 3) := by decide +kernel
theorem dX3_init_70 : decode cX3_init 70 = .ok (.aload_n 0, 1) := by decide +kernel
theorem dX3_init_71 : decode cX3_init 71 = .ok (.iconst 0, 1) := by decide +kernel
theorem dX3_init_72 : decode cX3_init 72 = .ok (.putfield 33, 3) := by decide +kernel
theorem dX3_init_75 : decode cX3_init 75 = .ok (.return_, 1) := by decide +kernel
theorem dX3_summon_0 : decode cX3_summon 0 = .ok (.aload_n 0, 1) := by decide +kernel
theorem dX3_summon_1 : decode cX3_summon 1 = .ok (.iconst 0, 1) := by decide +kernel
theorem dX3_summon_2 : decode cX3_summon 2 = .ok (.putfield 37, 3) := by decide +kernel
theorem dX3_summon_5 : decode cX3_summon 5 = .ok (.aload_n 0, 1) := by decide +kernel
theorem dX3_summon_6 : decode cX3_summon 6 = .ok (.iconst 0, 1) := by decide +kernel
theorem dX3_summon_7 : decode cX3_summon 7 = .ok (.putfield 40, 3) := by decide +kernel
theorem dX3_summon_10 : decode cX3_summon 10 = .ok (.aload_n 0, 1) := by decide +kernel
theorem dX3_summon_11 : decode cX3_summon 11 = .ok (.iload_n 1, 1) := by decide +kernel
theorem dX3_summon_12 : decode cX3_summon 12 = .ok (.invokevirtual 43, 3) := by decide +kernel
theorem dX3_summon_15 : decode cX3_summon 15 = .ok (.istore_n 2, 1) := by decide +kernel
theorem dX3_summon_16 : decode cX3_summon 16 = .ok (.iload_n 2, 1) := by decide +kernel
theorem dX3_summon_17 : decode cX3_summon 17 = .ok (.iconst (-1), 1) := by decide +kernel
theorem dX3_summon_18 : decode cX3_summon 18 = .ok (.if_icmp .ne 10, 3) := by decide +kernel
theorem dX3_summon_21 : decode cX3_summon 21 = .ok (.aload_n 0, 1) := by decide +kernel
theorem dX3_summon_22 : decode cX3_summon 22 = .ok (.invokevirtual 47, 3) := by decide +kernel
theorem dX3_summon_25 : decode cX3_summon 25 = .ok (.goto 4, 3) := by decide +kernel
theorem dX3_summon_28 : decode cX3_summon 28 = .ok (.iload_n 2, 1) := by decide +kernel
theorem dX3_summon_29 : decode cX3_summon 29 = .ok (.ireturn, 1) := by decide +kernel
theorem dX3_charge_0 : decode cX3_charge 0 = .ok (.aload_n 1, 1) := by decide +kernel
theorem dX3_charge_1 : decode cX3_charge 1 = .ok (.iconst 0, 1) := by decide +kernel
theorem dX3_charge_2 : decode cX3_charge 2 = .ok (.putfield 51, 3) := by decide +kernel
theorem dX3_charge_5 : decode cX3_charge 5 = .ok (.lconst 0, 1) := by decide +kernel
theorem dX3_charge_6 : decode cX3_charge 6 = .ok (.lstore_n 2, 1) := by decide +kernel
theorem dX3_charge_7 : decode cX3_charge 7 = .ok (.iconst 0, 1) := by decide +kernel
theorem dX3_charge_8 : decode cX3_charge 8 = .ok (.istore 4, 2) := by decide +kernel
theorem dX3_charge_10 : decode cX3_charge 10 = .ok (.iload 4, 2) := by decide +kernel
theorem dX3_charge_12 : decode cX3_charge 12 = .ok (.aload_n 1, 1) := by decide +kernel
theorem dX3_charge_13 : decode cX3_charge 13 = .ok (.getfield 56, 3) := by decide +kernel
theorem dX3_charge_16 : decode cX3_charge 16 = .ok (.if_icmp .ge 80, 3) := by decide +kernel
theorem dX3_charge_19 : decode cX3_charge 19 = .ok (.iload 4, 2) := by decide +kernel
theorem dX3_charge_21 : decode cX3_charge 21 = .ok (.bipush 8, 2) := by decide +kernel
theorem dX3_charge_23 : decode cX3_charge 23 = .ok (.if_icmp .ge 73, 3) := by decide +kernel
theorem dX3_charge_26 : decode cX3_charge 26 = .ok (.aload_n 0, 1) := by decide +kernel
theorem dX3_charge_27 : decode cX3_charge 27 = .ok (.aload_n 1, 1) := by decide +kernel
theorem dX3_charge_28 : decode cX3_charge 28 = .ok (.getfield 59, 3) := by decide +kernel
theorem dX3_charge_31 : decode cX3_charge 31 = .ok (.iload 4, 2) := by decide +kernel
theorem dX3_charge_33 : decode cX3_charge 33 = .ok (.iaload, 1) := by decide +kernel
theorem dX3_charge_34 : decode cX3_charge 34 = .ok (.invokevirtual 62, 3) := by decide +kernel
theorem dX3_charge_37 : decode cX3_charge 37 = .ok (.istore 5, 2) := by decide +kernel
theorem dX3_charge_39 : decode cX3_charge 39 = .ok (.iload 5, 2) := by decide +kernel
theorem dX3_charge_41 : decode cX3_charge 41 = .ok (.ifCond .ne 23, 3) := by decide +kernel
theorem dX3_charge_44 : decode cX3_charge 44 = .ok (.aload_n 0, 1) := by decide +kernel
theorem dX3_charge_45 : decode cX3_charge 45 = .ok (.aload_n 1, 1) := by decide +kernel
theorem dX3_charge_46 : decode cX3_charge 46 = .ok (.iload 4, 2) := by decide +kernel
theorem dX3_charge_48 : decode cX3_charge 48 = .ok (.invokevirtual 65, 3) := by decide +kernel
theorem dX3_charge_51 : decode cX3_charge 51 = .ok (.aload_n 0, 1) := by decide +kernel
theorem dX3_charge_52 : decode cX3_charge 52 = .ok (.aload_n 1, 1) := by decide +kernel
theorem dX3_charge_53 : decode cX3_charge 53 = .ok (.getfield 59, 3) := by decide +kernel
theorem dX3_charge_56 : decode cX3_charge 56 = .ok (.iload 4, 2) := by decide +kernel
theorem dX3_charge_58 : decode cX3_charge 58 = .ok (.iaload, 1) := by decide +kernel
theorem dX3_charge_59 : decode cX3_charge 59 = .ok (.invokevirtual 69, 3) := by decide +kernel
theorem dX3_charge_62 : decode cX3_charge 62 = .ok (.istore 5, 2) := by decide +kernel
theorem dX3_charge_64 : decode cX3_charge 64 = .ok (.iload 5, 2) := by decide +kernel
theorem dX3_charge_66 : decode cX3_charge 66 = .ok (.ifCond .eq 6, 3) := by decide +kernel
theorem dX3_charge_69 : decode cX3_charge 69 = .ok (.iload 5, 2) := by decide +kernel
theorem dX3_charge_71 : decode cX3_charge 71 = .ok (.ireturn, 1) := by decide +kernel
theorem dX3_charge_72 : decode cX3_charge 72 = .ok (.aload_n 1, 1) := by decide +kernel
theorem dX3_charge_73 : decode cX3_charge 73 = .ok (.getfield 72, 3) := by decide +kernel
theorem dX3_charge_76 : decode cX3_charge 76 = .ok (.iload 4, 2) := by decide +kernel
theorem dX3_charge_78 : decode cX3_charge 78 = .ok (.aload_n 0, 1) := by decide +kernel
theorem dX3_charge_79 : decode cX3_charge 79 = .ok (.getfield 75, 3) := by decide +kernel
theorem dX3_charge_82 : decode cX3_charge 82 = .ok (.lastore, 1) := by decide +kernel
theorem dX3_charge_83 : decode cX3_charge 83 = .ok (.lload_n 2, 1) := by decide +kernel
theorem dX3_charge_84 : decode cX3_charge 84 = .ok (.aload_n 0, 1) := by decide +kernel
theorem dX3_charge_85 : decode cX3_charge 85 = .ok (.getfield 75, 3) := by decide +kernel
theorem dX3_charge_88 : decode cX3_charge 88 = .ok (.ladd, 1) := by decide +kernel
theorem dX3_charge_89 : decode cX3_charge 89 = .ok (.lstore_n 2, 1) := by decide +kernel
theorem dX3_charge_90 : decode cX3_charge 90 = .ok (.iinc 4 1, 3) := by decide +kernel
theorem dX3_charge_93 : decode cX3_charge 93 = .ok (.goto (-83), 3) := by decide +kernel
theorem dX3_charge_96 : decode cX3_charge 96 = .ok (.aload_n 1, 1) := by decide +kernel
theorem dX3_charge_97 : decode cX3_charge 97 = .ok (.lload_n 2, 1) := by decide +kernel
theorem dX3_charge_98 : decode cX3_charge 98 = .ok (.putfield 79, 3) := by decide +kernel
theorem dX3_charge_101 : decode cX3_charge 101 = .ok (.aload_n 1, 1) := by decide +kernel
theorem dX3_charge_102 : decode cX3_charge 102 = .ok (.aload_n 1, 1) := by decide +kernel
theorem dX3_charge_103 : decode cX3_charge 103 = .ok (.getfield 56, 3) := by decide +kernel
theorem dX3_charge_106 : decode cX3_charge 106 = .ok (.putfield 51, 3) := by decide +kernel
theorem dX3_charge_109 : decode cX3_charge 109 = .ok (.iconst 0, 1) := by decide +kernel
theorem dX3_charge_110 : decode cX3_charge 110 = .ok (.ireturn, 1) := by decide +kernel
theorem dX3_prepare_0 : decode cX3_prepare 0 = .ok (.aload_n 0, 1) := by decide +kernel
theorem dX3_prepare_1 : decode cX3_prepare 1 = .ok (.getfield 26, 3) := by decide +kernel
theorem dX3_prepare_4 : decode cX3_prepare 4 = .ok (.iconst 0, 1) := by decide +kernel
theorem dX3_prepare_5 : decode cX3_prepare 5 = .ok (.aload_n 1, 1) := by decide +kernel
theorem dX3_prepare_6 : decode cX3_prepare 6 = .ok (.getfield 82, 3) := by decide +kernel
theorem dX3_prepare_9 : decode cX3_prepare 9 = .ok (.i2l, 1) := by decide +kernel
theorem dX3_prepare_10 : decode cX3_prepare 10 = .ok (.lastore, 1) := by decide +kernel
theorem dX3_prepare_11 : decode cX3_prepare 11 = .ok (.aload_n 0, 1) := by decide +kernel
theorem dX3_prepare_12 : decode cX3_prepare 12 = .ok (.getfield 26, 3) := by decide +kernel
theorem dX3_prepare_15 : decode cX3_prepare 15 = .ok (.iconst 1, 1) := by decide +kernel
theorem dX3_prepare_16 : decode cX3_prepare 16 = .ok (.aload_n 1, 1) := by decide +kernel
theorem dX3_prepare_17 : decode cX3_prepare 17 = .ok (.getfield 85, 3) := by decide +kernel
theorem dX3_prepare_20 : decode cX3_prepare 20 = .ok (.i2l, 1) := by decide +kernel
theorem dX3_prepare_21 : decode cX3_prepare 21 = .ok (.lastore, 1) := by decide +kernel
theorem dX3_prepare_22 : decode cX3_prepare 22 = .ok (.aload_n 0, 1) := by decide +kernel
theorem dX3_prepare_23 : decode cX3_prepare 23 = .ok (.getfield 26, 3) := by decide +kernel
theorem dX3_prepare_26 : decode cX3_prepare 26 = .ok (.iconst 2, 1) := by decide +kernel
theorem dX3_prepare_27 : decode cX3_prepare 27 = .ok (.aload_n 1, 1) := by decide +kernel
theorem dX3_prepare_28 : decode cX3_prepare 28 = .ok (.getfield 88, 3) := by decide +kernel
theorem dX3_prepare_31 : decode cX3_prepare 31 = .ok (.iload_n 2, 1) := by decide +kernel
theorem dX3_prepare_32 : decode cX3_prepare 32 = .ok (.iaload, 1) := by decide +kernel
theorem dX3_prepare_33 : decode cX3_prepare 33 = .ok (.i2l, 1) := by decide +kernel
theorem dX3_prepare_34 : decode cX3_prepare 34 = .ok (.lastore, 1) := by decide +kernel
theorem dX3_prepare_35 : decode cX3_prepare 35 = .ok (.aload_n 0, 1) := by decide +kernel
theorem dX3_prepare_36 : decode cX3_prepare 36 = .ok (.getfield 26, 3) := by decide +kernel
theorem dX3_prepare_39 : decode cX3_prepare 39 = .ok (.iconst 3, 1) := by decide +kernel
theorem dX3_prepare_40 : decode cX3_prepare 40 = .ok (.aload_n 1, 1) := by decide +kernel
theorem dX3_prepare_41 : decode cX3_prepare 41 = .ok (.getfield 91, 3) := by decide +kernel
theorem dX3_prepare_44 : decode cX3_prepare 44 = .ok (.iload_n 2, 1) := by decide +kernel
theorem dX3_prepare_45 : decode cX3_prepare 45 = .ok (.iaload, 1) := by decide +kernel
theorem dX3_prepare_46 : decode cX3_prepare 46 = .ok (.i2l, 1) := by decide +kernel
theorem dX3_prepare_47 : decode cX3_prepare 47 = .ok (.lastore, 1) := by decide +kernel
theorem dX3_prepare_48 : decode cX3_prepare 48 = .ok (.return_, 1) := by decide +kernel
theorem dX3_workRule_0 : decode cX3_workRule 0 = .ok (.aload_n 0, 1) := by decide +kernel
theorem dX3_workRule_1 : decode cX3_workRule 1 = .ok (.getfield 9, 3) := by decide +kernel
theorem dX3_workRule_4 : decode cX3_workRule 4 = .ok (.iconst 2, 1) := by decide +kernel
theorem dX3_workRule_5 : decode cX3_workRule 5 = .ok (.iload_n 1, 1) := by decide +kernel
theorem dX3_workRule_6 : decode cX3_workRule 6 = .ok (.i2l, 1) := by decide +kernel
theorem dX3_workRule_7 : decode cX3_workRule 7 = .ok (.bipush 40, 2) := by decide +kernel
theorem dX3_workRule_9 : decode cX3_workRule 9 = .ok (.lshl, 1) := by decide +kernel
theorem dX3_workRule_10 : decode cX3_workRule 10 = .ok (.invokevirtual 94, 3) := by decide +kernel
theorem dX3_workRule_13 : decode cX3_workRule 13 = .ok (.istore_n 2, 1) := by decide +kernel
theorem dX3_workRule_14 : decode cX3_workRule 14 = .ok (.iload_n 2, 1) := by decide +kernel
theorem dX3_workRule_15 : decode cX3_workRule 15 = .ok (.iconst (-1), 1) := by decide +kernel
theorem dX3_workRule_16 : decode cX3_workRule 16 = .ok (.if_icmp .ne 7, 3) := by decide +kernel
theorem dX3_workRule_19 : decode cX3_workRule 19 = .ok (.sipush 802, 3) := by decide +kernel
theorem dX3_workRule_22 : decode cX3_workRule 22 = .ok (.ireturn, 1) := by decide +kernel
theorem dX3_workRule_23 : decode cX3_workRule 23 = .ok (.aload_n 0, 1) := by decide +kernel
theorem dX3_workRule_24 : decode cX3_workRule 24 = .ok (.getfield 9, 3) := by decide +kernel
theorem dX3_workRule_27 : decode cX3_workRule 27 = .ok (.getfield 100, 3) := by decide +kernel
theorem dX3_workRule_30 : decode cX3_workRule 30 = .ok (.iload_n 2, 1) := by decide +kernel
theorem dX3_workRule_31 : decode cX3_workRule 31 = .ok (.bipush 8, 2) := by decide +kernel
theorem dX3_workRule_33 : decode cX3_workRule 33 = .ok (.idiv, 1) := by decide +kernel
theorem dX3_workRule_34 : decode cX3_workRule 34 = .ok (.aaload, 1) := by decide +kernel
theorem dX3_workRule_35 : decode cX3_workRule 35 = .ok (.getfield 104, 3) := by decide +kernel
theorem dX3_workRule_38 : decode cX3_workRule 38 = .ok (.astore_n 3, 1) := by decide +kernel
theorem dX3_workRule_39 : decode cX3_workRule 39 = .ok (.aload_n 3, 1) := by decide +kernel
theorem dX3_workRule_40 : decode cX3_workRule 40 = .ok (.ifnonnull 7, 3) := by decide +kernel
theorem dX3_workRule_43 : decode cX3_workRule 43 = .ok (.sipush 802, 3) := by decide +kernel
theorem dX3_workRule_46 : decode cX3_workRule 46 = .ok (.ireturn, 1) := by decide +kernel
theorem dX3_workRule_47 : decode cX3_workRule 47 = .ok (.aload_n 0, 1) := by decide +kernel
theorem dX3_workRule_48 : decode cX3_workRule 48 = .ok (.iconst 0, 1) := by decide +kernel
theorem dX3_workRule_49 : decode cX3_workRule 49 = .ok (.putfield 37, 3) := by decide +kernel
theorem dX3_workRule_52 : decode cX3_workRule 52 = .ok (.aload_n 0, 1) := by decide +kernel
theorem dX3_workRule_53 : decode cX3_workRule 53 = .ok (.iconst 0, 1) := by decide +kernel
theorem dX3_workRule_54 : decode cX3_workRule 54 = .ok (.putfield 40, 3) := by decide +kernel
theorem dX3_workRule_57 : decode cX3_workRule 57 = .ok (.aload_n 0, 1) := by decide +kernel
theorem dX3_workRule_58 : decode cX3_workRule 58 = .ok (.lconst 0, 1) := by decide +kernel
theorem dX3_workRule_59 : decode cX3_workRule 59 = .ok (.putfield 75, 3) := by decide +kernel
theorem dX3_workRule_62 : decode cX3_workRule 62 = .ok (.aload_n 0, 1) := by decide +kernel
theorem dX3_workRule_63 : decode cX3_workRule 63 = .ok (.iload_n 2, 1) := by decide +kernel
theorem dX3_workRule_64 : decode cX3_workRule 64 = .ok (.bipush 8, 2) := by decide +kernel
theorem dX3_workRule_66 : decode cX3_workRule 66 = .ok (.idiv, 1) := by decide +kernel
theorem dX3_workRule_67 : decode cX3_workRule 67 = .ok (.aload_n 3, 1) := by decide +kernel
theorem dX3_workRule_68 : decode cX3_workRule 68 = .ok (.aload_n 3, 1) := by decide +kernel
theorem dX3_workRule_69 : decode cX3_workRule 69 = .ok (.getfield 110, 3) := by decide +kernel
theorem dX3_workRule_72 : decode cX3_workRule 72 = .ok (.iconst 0, 1) := by decide +kernel
theorem dX3_workRule_73 : decode cX3_workRule 73 = .ok (.invokevirtual 115, 3) := by decide +kernel
theorem dX3_workRule_76 : decode cX3_workRule 76 = .ok (.aload_n 0, 1) := by decide +kernel
theorem dX3_workRule_77 : decode cX3_workRule 77 = .ok (.invokevirtual 47, 3) := by decide +kernel
theorem dX3_workRule_80 : decode cX3_workRule 80 = .ok (.ireturn, 1) := by decide +kernel
theorem dX3_open_0 : decode cX3_open 0 = .ok (.aload_n 0, 1) := by decide +kernel
theorem dX3_open_1 : decode cX3_open 1 = .ok (.getfield 37, 3) := by decide +kernel
theorem dX3_open_4 : decode cX3_open 4 = .ok (.bipush 31, 2) := by decide +kernel
theorem dX3_open_6 : decode cX3_open 6 = .ok (.if_icmp .lt 4, 3) := by decide +kernel
theorem dX3_open_9 : decode cX3_open 9 = .ok (.return_, 1) := by decide +kernel
theorem dX3_open_10 : decode cX3_open 10 = .ok (.aload_n 0, 1) := by decide +kernel
theorem dX3_open_11 : decode cX3_open 11 = .ok (.getfield 17, 3) := by decide +kernel
theorem dX3_open_14 : decode cX3_open 14 = .ok (.aload_n 0, 1) := by decide +kernel
theorem dX3_open_15 : decode cX3_open 15 = .ok (.getfield 37, 3) := by decide +kernel
theorem dX3_open_18 : decode cX3_open 18 = .ok (.aaload, 1) := by decide +kernel
theorem dX3_open_19 : decode cX3_open 19 = .ok (.astore 5, 2) := by decide +kernel
theorem dX3_open_21 : decode cX3_open 21 = .ok (.aload 5, 2) := by decide +kernel
theorem dX3_open_23 : decode cX3_open 23 = .ok (.iload_n 1, 1) := by decide +kernel
theorem dX3_open_24 : decode cX3_open 24 = .ok (.putfield 119, 3) := by decide +kernel
theorem dX3_open_27 : decode cX3_open 27 = .ok (.aload 5, 2) := by decide +kernel
theorem dX3_open_29 : decode cX3_open 29 = .ok (.aload_n 2, 1) := by decide +kernel
theorem dX3_open_30 : decode cX3_open 30 = .ok (.putfield 122, 3) := by decide +kernel
theorem dX3_open_33 : decode cX3_open 33 = .ok (.aload 5, 2) := by decide +kernel
theorem dX3_open_35 : decode cX3_open 35 = .ok (.iload_n 3, 1) := by decide +kernel
theorem dX3_open_36 : decode cX3_open 36 = .ok (.putfield 123, 3) := by decide +kernel
theorem dX3_open_39 : decode cX3_open 39 = .ok (.aload 5, 2) := by decide +kernel
theorem dX3_open_41 : decode cX3_open 41 = .ok (.aload_n 0, 1) := by decide +kernel
theorem dX3_open_42 : decode cX3_open 42 = .ok (.getfield 40, 3) := by decide +kernel
theorem dX3_open_45 : decode cX3_open 45 = .ok (.putfield 126, 3) := by decide +kernel
theorem dX3_open_48 : decode cX3_open 48 = .ok (.aload 5, 2) := by decide +kernel
theorem dX3_open_50 : decode cX3_open 50 = .ok (.iconst 0, 1) := by decide +kernel
theorem dX3_open_51 : decode cX3_open 51 = .ok (.putfield 129, 3) := by decide +kernel
theorem dX3_open_54 : decode cX3_open 54 = .ok (.aload 5, 2) := by decide +kernel
theorem dX3_open_56 : decode cX3_open 56 = .ok (.iload 4, 2) := by decide +kernel
theorem dX3_open_58 : decode cX3_open 58 = .ok (.putfield 132, 3) := by decide +kernel
theorem dX3_open_61 : decode cX3_open 61 = .ok (.aload_n 0, 1) := by decide +kernel
theorem dX3_open_62 : decode cX3_open 62 = .ok (.dup, 1) := by decide +kernel
theorem dX3_open_63 : decode cX3_open 63 = .ok (.getfield 37, 3) := by decide +kernel
theorem dX3_open_66 : decode cX3_open 66 = .ok (.iconst 1, 1) := by decide +kernel
theorem dX3_open_67 : decode cX3_open 67 = .ok (.iadd, 1) := by decide +kernel
theorem dX3_open_68 : decode cX3_open 68 = .ok (.putfield 37, 3) := by decide +kernel
theorem dX3_open_71 : decode cX3_open 71 = .ok (.return_, 1) := by decide +kernel
theorem dX3_demand_0 : decode cX3_demand 0 = .ok (.iload_n 1, 1) := by decide +kernel
theorem dX3_demand_1 : decode cX3_demand 1 = .ok (.ifCond .lt 24, 3) := by decide +kernel
theorem dX3_demand_4 : decode cX3_demand 4 = .ok (.iload_n 1, 1) := by decide +kernel
theorem dX3_demand_5 : decode cX3_demand 5 = .ok (.bipush 30, 2) := by decide +kernel
theorem dX3_demand_7 : decode cX3_demand 7 = .ok (.if_icmp .ge 18, 3) := by decide +kernel
theorem dX3_demand_10 : decode cX3_demand 10 = .ok (.aload_n 0, 1) := by decide +kernel
theorem dX3_demand_11 : decode cX3_demand 11 = .ok (.getfield 9, 3) := by decide +kernel
theorem dX3_demand_14 : decode cX3_demand 14 = .ok (.getfield 100, 3) := by decide +kernel
theorem dX3_demand_17 : decode cX3_demand 17 = .ok (.iload_n 1, 1) := by decide +kernel
theorem dX3_demand_18 : decode cX3_demand 18 = .ok (.aaload, 1) := by decide +kernel
theorem dX3_demand_19 : decode cX3_demand 19 = .ok (.getfield 104, 3) := by decide +kernel
theorem dX3_demand_22 : decode cX3_demand 22 = .ok (.ifnonnull 7, 3) := by decide +kernel
theorem dX3_demand_25 : decode cX3_demand 25 = .ok (.sipush 803, 3) := by decide +kernel
theorem dX3_demand_28 : decode cX3_demand 28 = .ok (.ireturn, 1) := by decide +kernel
theorem dX3_demand_29 : decode cX3_demand 29 = .ok (.aload_n 0, 1) := by decide +kernel
theorem dX3_demand_30 : decode cX3_demand 30 = .ok (.getfield 9, 3) := by decide +kernel
theorem dX3_demand_33 : decode cX3_demand 33 = .ok (.getfield 100, 3) := by decide +kernel
theorem dX3_demand_36 : decode cX3_demand 36 = .ok (.iload_n 1, 1) := by decide +kernel
theorem dX3_demand_37 : decode cX3_demand 37 = .ok (.aaload, 1) := by decide +kernel
theorem dX3_demand_38 : decode cX3_demand 38 = .ok (.astore_n 2, 1) := by decide +kernel
theorem dX3_demand_39 : decode cX3_demand 39 = .ok (.aload_n 2, 1) := by decide +kernel
theorem dX3_demand_40 : decode cX3_demand 40 = .ok (.getfield 136, 3) := by decide +kernel
theorem dX3_demand_43 : decode cX3_demand 43 = .ok (.iconst 3, 1) := by decide +kernel
theorem dX3_demand_44 : decode cX3_demand 44 = .ok (.if_icmp .ne 7, 3) := by decide +kernel
theorem dX3_demand_47 : decode cX3_demand 47 = .ok (.sipush 804, 3) := by decide +kernel
theorem dX3_demand_50 : decode cX3_demand 50 = .ok (.ireturn, 1) := by decide +kernel
theorem dX3_demand_51 : decode cX3_demand 51 = .ok (.aload_n 2, 1) := by decide +kernel
theorem dX3_demand_52 : decode cX3_demand 52 = .ok (.getfield 136, 3) := by decide +kernel
theorem dX3_demand_55 : decode cX3_demand 55 = .ok (.iconst 1, 1) := by decide +kernel
theorem dX3_demand_56 : decode cX3_demand 56 = .ok (.if_icmp .eq 5, 3) := by decide +kernel
theorem dX3_demand_59 : decode cX3_demand 59 = .ok (.iconst 0, 1) := by decide +kernel
theorem dX3_demand_60 : decode cX3_demand 60 = .ok (.ireturn, 1) := by decide +kernel
theorem dX3_demand_61 : decode cX3_demand 61 = .ok (.aload_n 2, 1) := by decide +kernel
theorem dX3_demand_62 : decode cX3_demand 62 = .ok (.iconst 4, 1) := by decide +kernel
theorem dX3_demand_63 : decode cX3_demand 63 = .ok (.putfield 136, 3) := by decide +kernel
theorem dX3_demand_66 : decode cX3_demand 66 = .ok (.aload_n 0, 1) := by decide +kernel
theorem dX3_demand_67 : decode cX3_demand 67 = .ok (.getfield 33, 3) := by decide +kernel
theorem dX3_demand_70 : decode cX3_demand 70 = .ok (.sipush 300, 3) := by decide +kernel
theorem dX3_demand_73 : decode cX3_demand 73 = .ok (.if_icmp .ge 13, 3) := by decide +kernel
theorem dX3_demand_76 : decode cX3_demand 76 = .ok (.aload_n 0, 1) := by decide +kernel
theorem dX3_demand_77 : decode cX3_demand 77 = .ok (.getfield 29, 3) := by decide +kernel
theorem dX3_demand_80 : decode cX3_demand 80 = .ok (.aload_n 0, 1) := by decide +kernel
theorem dX3_demand_81 : decode cX3_demand 81 = .ok (.getfield 33, 3) := by decide +kernel
theorem dX3_demand_84 : decode cX3_demand 84 = .ok (.iload_n 1, 1) := by decide +kernel
theorem dX3_demand_85 : decode cX3_demand 85 = .ok (.iastore, 1) := by decide +kernel
theorem dX3_demand_86 : decode cX3_demand 86 = .ok (.aload_n 0, 1) := by decide +kernel
theorem dX3_demand_87 : decode cX3_demand 87 = .ok (.dup, 1) := by decide +kernel
theorem dX3_demand_88 : decode cX3_demand 88 = .ok (.getfield 33, 3) := by decide +kernel
theorem dX3_demand_91 : decode cX3_demand 91 = .ok (.iconst 1, 1) := by decide +kernel
theorem dX3_demand_92 : decode cX3_demand 92 = .ok (.iadd, 1) := by decide +kernel
theorem dX3_demand_93 : decode cX3_demand 93 = .ok (.putfield 33, 3) := by decide +kernel
theorem dX3_demand_96 : decode cX3_demand 96 = .ok (.aload_n 0, 1) := by decide +kernel
theorem dX3_demand_97 : decode cX3_demand 97 = .ok (.iload_n 1, 1) := by decide +kernel
theorem dX3_demand_98 : decode cX3_demand 98 = .ok (.aload_n 2, 1) := by decide +kernel
theorem dX3_demand_99 : decode cX3_demand 99 = .ok (.getfield 104, 3) := by decide +kernel
theorem dX3_demand_102 : decode cX3_demand 102 = .ok (.iconst 0, 1) := by decide +kernel
theorem dX3_demand_103 : decode cX3_demand 103 = .ok (.iconst 1, 1) := by decide +kernel
theorem dX3_demand_104 : decode cX3_demand 104 = .ok (.invokevirtual 115, 3) := by decide +kernel
theorem dX3_demand_107 : decode cX3_demand 107 = .ok (.iconst (-1), 1) := by decide +kernel
theorem dX3_demand_108 : decode cX3_demand 108 = .ok (.ireturn, 1) := by decide +kernel
theorem dX3_run_0 : decode cX3_run 0 = .ok (.iconst 0, 1) := by decide +kernel
theorem dX3_run_1 : decode cX3_run 1 = .ok (.istore_n 1, 1) := by decide +kernel
theorem dX3_run_2 : decode cX3_run 2 = .ok (.iconst 0, 1) := by decide +kernel
theorem dX3_run_3 : decode cX3_run 3 = .ok (.istore_n 2, 1) := by decide +kernel
theorem dX3_run_4 : decode cX3_run 4 = .ok (.iload_n 2, 1) := by decide +kernel
theorem dX3_run_5 : decode cX3_run 5 = .ok (.ldc 139, 2) := by decide +kernel
theorem dX3_run_7 : decode cX3_run 7 = .ok (.if_icmp .ge 66, 3) := by decide +kernel
theorem dX3_run_10 : decode cX3_run 10 = .ok (.aload_n 0, 1) := by decide +kernel
theorem dX3_run_11 : decode cX3_run 11 = .ok (.getfield 37, 3) := by decide +kernel
theorem dX3_run_14 : decode cX3_run 14 = .ok (.ifCond .le 59, 3) := by decide +kernel
theorem dX3_run_17 : decode cX3_run 17 = .ok (.aload_n 0, 1) := by decide +kernel
theorem dX3_run_18 : decode cX3_run 18 = .ok (.getfield 17, 3) := by decide +kernel
theorem dX3_run_21 : decode cX3_run 21 = .ok (.aload_n 0, 1) := by decide +kernel
theorem dX3_run_22 : decode cX3_run 22 = .ok (.getfield 37, 3) := by decide +kernel
theorem dX3_run_25 : decode cX3_run 25 = .ok (.iconst 1, 1) := by decide +kernel
theorem dX3_run_26 : decode cX3_run 26 = .ok (.isub, 1) := by decide +kernel
theorem dX3_run_27 : decode cX3_run 27 = .ok (.aaload, 1) := by decide +kernel
theorem dX3_run_28 : decode cX3_run 28 = .ok (.astore_n 3, 1) := by decide +kernel
theorem dX3_run_29 : decode cX3_run 29 = .ok (.aload_n 0, 1) := by decide +kernel
theorem dX3_run_30 : decode cX3_run 30 = .ok (.aload_n 3, 1) := by decide +kernel
theorem dX3_run_31 : decode cX3_run 31 = .ok (.invokevirtual 140, 3) := by decide +kernel
theorem dX3_run_34 : decode cX3_run 34 = .ok (.istore 4, 2) := by decide +kernel
theorem dX3_run_36 : decode cX3_run 36 = .ok (.iload 4, 2) := by decide +kernel
theorem dX3_run_38 : decode cX3_run 38 = .ok (.ifCond .ne 16, 3) := by decide +kernel
theorem dX3_run_41 : decode cX3_run 41 = .ok (.aload_n 3, 1) := by decide +kernel
theorem dX3_run_42 : decode cX3_run 42 = .ok (.dup, 1) := by decide +kernel
theorem dX3_run_43 : decode cX3_run 43 = .ok (.getfield 123, 3) := by decide +kernel
theorem dX3_run_46 : decode cX3_run 46 = .ok (.iconst 1, 1) := by decide +kernel
theorem dX3_run_47 : decode cX3_run 47 = .ok (.iadd, 1) := by decide +kernel
theorem dX3_run_48 : decode cX3_run 48 = .ok (.putfield 123, 3) := by decide +kernel
theorem dX3_run_51 : decode cX3_run 51 = .ok (.goto 16, 3) := by decide +kernel
theorem dX3_run_54 : decode cX3_run 54 = .ok (.iload 4, 2) := by decide +kernel
theorem dX3_run_56 : decode cX3_run 56 = .ok (.iconst (-1), 1) := by decide +kernel
theorem dX3_run_57 : decode cX3_run 57 = .ok (.if_icmp .eq 10, 3) := by decide +kernel
theorem dX3_run_60 : decode cX3_run 60 = .ok (.aload_n 0, 1) := by decide +kernel
theorem dX3_run_61 : decode cX3_run 61 = .ok (.iload 4, 2) := by decide +kernel
theorem dX3_run_63 : decode cX3_run 63 = .ok (.invokevirtual 144, 3) := by decide +kernel
theorem dX3_run_66 : decode cX3_run 66 = .ok (.istore_n 1, 1) := by decide +kernel
theorem dX3_run_67 : decode cX3_run 67 = .ok (.iinc 2 1, 3) := by decide +kernel
theorem dX3_run_70 : decode cX3_run 70 = .ok (.goto (-66), 3) := by decide +kernel
theorem dX3_run_73 : decode cX3_run 73 = .ok (.iload_n 1, 1) := by decide +kernel
theorem dX3_run_74 : decode cX3_run 74 = .ok (.ireturn, 1) := by decide +kernel
theorem dX3_unwind_0 : decode cX3_unwind 0 = .ok (.iconst 0, 1) := by decide +kernel
theorem dX3_unwind_1 : decode cX3_unwind 1 = .ok (.istore_n 2, 1) := by decide +kernel
theorem dX3_unwind_2 : decode cX3_unwind 2 = .ok (.iload_n 2, 1) := by decide +kernel
theorem dX3_unwind_3 : decode cX3_unwind 3 = .ok (.bipush 31, 2) := by decide +kernel
theorem dX3_unwind_5 : decode cX3_unwind 5 = .ok (.if_icmp .ge 123, 3) := by decide +kernel
theorem dX3_unwind_8 : decode cX3_unwind 8 = .ok (.aload_n 0, 1) := by decide +kernel
theorem dX3_unwind_9 : decode cX3_unwind 9 = .ok (.getfield 37, 3) := by decide +kernel
theorem dX3_unwind_12 : decode cX3_unwind 12 = .ok (.ifCond .le 116, 3) := by decide +kernel
theorem dX3_unwind_15 : decode cX3_unwind 15 = .ok (.aload_n 0, 1) := by decide +kernel
theorem dX3_unwind_16 : decode cX3_unwind 16 = .ok (.getfield 17, 3) := by decide +kernel
theorem dX3_unwind_19 : decode cX3_unwind 19 = .ok (.aload_n 0, 1) := by decide +kernel
theorem dX3_unwind_20 : decode cX3_unwind 20 = .ok (.getfield 37, 3) := by decide +kernel
theorem dX3_unwind_23 : decode cX3_unwind 23 = .ok (.iconst 1, 1) := by decide +kernel
theorem dX3_unwind_24 : decode cX3_unwind 24 = .ok (.isub, 1) := by decide +kernel
theorem dX3_unwind_25 : decode cX3_unwind 25 = .ok (.aaload, 1) := by decide +kernel
theorem dX3_unwind_26 : decode cX3_unwind 26 = .ok (.astore_n 3, 1) := by decide +kernel
theorem dX3_unwind_27 : decode cX3_unwind 27 = .ok (.aload_n 0, 1) := by decide +kernel
theorem dX3_unwind_28 : decode cX3_unwind 28 = .ok (.aload_n 3, 1) := by decide +kernel
theorem dX3_unwind_29 : decode cX3_unwind 29 = .ok (.getfield 126, 3) := by decide +kernel
theorem dX3_unwind_32 : decode cX3_unwind 32 = .ok (.putfield 40, 3) := by decide +kernel
theorem dX3_unwind_35 : decode cX3_unwind 35 = .ok (.aload_n 3, 1) := by decide +kernel
theorem dX3_unwind_36 : decode cX3_unwind 36 = .ok (.getfield 132, 3) := by decide +kernel
theorem dX3_unwind_39 : decode cX3_unwind 39 = .ok (.ifCond .eq 17, 3) := by decide +kernel
theorem dX3_unwind_42 : decode cX3_unwind 42 = .ok (.aload_n 3, 1) := by decide +kernel
theorem dX3_unwind_43 : decode cX3_unwind 43 = .ok (.getfield 122, 3) := by decide +kernel
theorem dX3_unwind_46 : decode cX3_unwind 46 = .ok (.aload_n 3, 1) := by decide +kernel
theorem dX3_unwind_47 : decode cX3_unwind 47 = .ok (.getfield 123, 3) := by decide +kernel
theorem dX3_unwind_50 : decode cX3_unwind 50 = .ok (.invokevirtual 147, 3) := by decide +kernel
theorem dX3_unwind_53 : decode cX3_unwind 53 = .ok (.goto 4, 3) := by decide +kernel
theorem dX3_unwind_56 : decode cX3_unwind 56 = .ok (.iconst (-1), 1) := by decide +kernel
theorem dX3_unwind_57 : decode cX3_unwind 57 = .ok (.istore 4, 2) := by decide +kernel
theorem dX3_unwind_59 : decode cX3_unwind 59 = .ok (.iload 4, 2) := by decide +kernel
theorem dX3_unwind_61 : decode cX3_unwind 61 = .ok (.iconst (-1), 1) := by decide +kernel
theorem dX3_unwind_62 : decode cX3_unwind 62 = .ok (.if_icmp .eq 11, 3) := by decide +kernel
theorem dX3_unwind_65 : decode cX3_unwind 65 = .ok (.aload_n 3, 1) := by decide +kernel
theorem dX3_unwind_66 : decode cX3_unwind 66 = .ok (.iload 4, 2) := by decide +kernel
theorem dX3_unwind_68 : decode cX3_unwind 68 = .ok (.putfield 123, 3) := by decide +kernel
theorem dX3_unwind_71 : decode cX3_unwind 71 = .ok (.iconst 0, 1) := by decide +kernel
theorem dX3_unwind_72 : decode cX3_unwind 72 = .ok (.ireturn, 1) := by decide +kernel
theorem dX3_unwind_73 : decode cX3_unwind 73 = .ok (.aload_n 3, 1) := by decide +kernel
theorem dX3_unwind_74 : decode cX3_unwind 74 = .ok (.getfield 132, 3) := by decide +kernel
theorem dX3_unwind_77 : decode cX3_unwind 77 = .ok (.ifCond .eq 35, 3) := by decide +kernel
theorem dX3_unwind_80 : decode cX3_unwind 80 = .ok (.aload_n 0, 1) := by decide +kernel
theorem dX3_unwind_81 : decode cX3_unwind 81 = .ok (.getfield 9, 3) := by decide +kernel
theorem dX3_unwind_84 : decode cX3_unwind 84 = .ok (.getfield 100, 3) := by decide +kernel
theorem dX3_unwind_87 : decode cX3_unwind 87 = .ok (.aload_n 3, 1) := by decide +kernel
theorem dX3_unwind_88 : decode cX3_unwind 88 = .ok (.getfield 119, 3) := by decide +kernel
theorem dX3_unwind_91 : decode cX3_unwind 91 = .ok (.aaload, 1) := by decide +kernel
theorem dX3_unwind_92 : decode cX3_unwind 92 = .ok (.iconst 3, 1) := by decide +kernel
theorem dX3_unwind_93 : decode cX3_unwind 93 = .ok (.putfield 136, 3) := by decide +kernel
theorem dX3_unwind_96 : decode cX3_unwind 96 = .ok (.aload_n 0, 1) := by decide +kernel
theorem dX3_unwind_97 : decode cX3_unwind 97 = .ok (.getfield 9, 3) := by decide +kernel
theorem dX3_unwind_100 : decode cX3_unwind 100 = .ok (.getfield 100, 3) := by decide +kernel
theorem dX3_unwind_103 : decode cX3_unwind 103 = .ok (.aload_n 3, 1) := by decide +kernel
theorem dX3_unwind_104 : decode cX3_unwind 104 = .ok (.getfield 119, 3) := by decide +kernel
theorem dX3_unwind_107 : decode cX3_unwind 107 = .ok (.aaload, 1) := by decide +kernel
theorem dX3_unwind_108 : decode cX3_unwind 108 = .ok (.iload_n 1, 1) := by decide +kernel
theorem dX3_unwind_109 : decode cX3_unwind 109 = .ok (.putfield 150, 3) := by decide +kernel
theorem dX3_unwind_112 : decode cX3_unwind 112 = .ok (.aload_n 0, 1) := by decide +kernel
theorem dX3_unwind_113 : decode cX3_unwind 113 = .ok (.dup, 1) := by decide +kernel
theorem dX3_unwind_114 : decode cX3_unwind 114 = .ok (.getfield 37, 3) := by decide +kernel
theorem dX3_unwind_117 : decode cX3_unwind 117 = .ok (.iconst 1, 1) := by decide +kernel
theorem dX3_unwind_118 : decode cX3_unwind 118 = .ok (.isub, 1) := by decide +kernel
theorem dX3_unwind_119 : decode cX3_unwind 119 = .ok (.putfield 37, 3) := by decide +kernel
theorem dX3_unwind_122 : decode cX3_unwind 122 = .ok (.iinc 2 1, 3) := by decide +kernel
theorem dX3_unwind_125 : decode cX3_unwind 125 = .ok (.goto (-123), 3) := by decide +kernel
theorem dX3_unwind_128 : decode cX3_unwind 128 = .ok (.iload_n 1, 1) := by decide +kernel
theorem dX3_unwind_129 : decode cX3_unwind 129 = .ok (.ireturn, 1) := by decide +kernel
theorem dX3_advance_0 : decode cX3_advance 0 = .ok (.aload_n 1, 1) := by decide +kernel
theorem dX3_advance_1 : decode cX3_advance 1 = .ok (.getfield 123, 3) := by decide +kernel
theorem dX3_advance_4 : decode cX3_advance 4 = .ok (.ifCond .lt 18, 3) := by decide +kernel
theorem dX3_advance_7 : decode cX3_advance 7 = .ok (.aload_n 1, 1) := by decide +kernel
theorem dX3_advance_8 : decode cX3_advance 8 = .ok (.getfield 123, 3) := by decide +kernel
theorem dX3_advance_11 : decode cX3_advance 11 = .ok (.aload_n 1, 1) := by decide +kernel
theorem dX3_advance_12 : decode cX3_advance 12 = .ok (.getfield 122, 3) := by decide +kernel
theorem dX3_advance_15 : decode cX3_advance 15 = .ok (.getfield 153, 3) := by decide +kernel
theorem dX3_advance_18 : decode cX3_advance 18 = .ok (.arraylength, 1) := by decide +kernel
theorem dX3_advance_19 : decode cX3_advance 19 = .ok (.if_icmp .lt 9, 3) := by decide +kernel
theorem dX3_advance_22 : decode cX3_advance 22 = .ok (.aload_n 0, 1) := by decide +kernel
theorem dX3_advance_23 : decode cX3_advance 23 = .ok (.aload_n 1, 1) := by decide +kernel
theorem dX3_advance_24 : decode cX3_advance 24 = .ok (.invokevirtual 156, 3) := by decide +kernel
theorem dX3_advance_27 : decode cX3_advance 27 = .ok (.ireturn, 1) := by decide +kernel
theorem dX3_advance_28 : decode cX3_advance 28 = .ok (.aload_n 1, 1) := by decide +kernel
theorem dX3_advance_29 : decode cX3_advance 29 = .ok (.getfield 122, 3) := by decide +kernel
theorem dX3_advance_32 : decode cX3_advance 32 = .ok (.getfield 153, 3) := by decide +kernel
theorem dX3_advance_35 : decode cX3_advance 35 = .ok (.aload_n 1, 1) := by decide +kernel
theorem dX3_advance_36 : decode cX3_advance 36 = .ok (.getfield 123, 3) := by decide +kernel
theorem dX3_advance_39 : decode cX3_advance 39 = .ok (.iaload, 1) := by decide +kernel
theorem dX3_advance_40 : decode cX3_advance 40 = .ok (.istore_n 2, 1) := by decide +kernel
theorem dX3_advance_41 : decode cX3_advance 41 = .ok (.aload_n 1, 1) := by decide +kernel
theorem dX3_advance_42 : decode cX3_advance 42 = .ok (.getfield 122, 3) := by decide +kernel
theorem dX3_advance_45 : decode cX3_advance 45 = .ok (.getfield 159, 3) := by decide +kernel
theorem dX3_advance_48 : decode cX3_advance 48 = .ok (.aload_n 1, 1) := by decide +kernel
theorem dX3_advance_49 : decode cX3_advance 49 = .ok (.getfield 123, 3) := by decide +kernel
theorem dX3_advance_52 : decode cX3_advance 52 = .ok (.laload, 1) := by decide +kernel
theorem dX3_advance_53 : decode cX3_advance 53 = .ok (.lstore_n 3, 1) := by decide +kernel
theorem dX3_advance_54 : decode cX3_advance 54 = .ok (.iload_n 2, 1) := by decide +kernel
theorem dX3_advance_55 : decode cX3_advance 55 = .ok (.tableswitch 271 0 21 #[101, 107, 117, 150, 156, 163, 271, 271, 271, 271, 271, 271, 271, 271, 173, 181, 207, 214, 221, 229, 245, 265], 101) := by decide +kernel
theorem dX3_advance_156 : decode cX3_advance 156 = .ok (.aload_n 0, 1) := by decide +kernel
theorem dX3_advance_157 : decode cX3_advance 157 = .ok (.lload_n 3, 1) := by decide +kernel
theorem dX3_advance_158 : decode cX3_advance 158 = .ok (.invokevirtual 162, 3) := by decide +kernel
theorem dX3_advance_161 : decode cX3_advance 161 = .ok (.ireturn, 1) := by decide +kernel
theorem dX3_advance_162 : decode cX3_advance 162 = .ok (.aload_n 0, 1) := by decide +kernel
theorem dX3_advance_163 : decode cX3_advance 163 = .ok (.aload_n 1, 1) := by decide +kernel
theorem dX3_advance_164 : decode cX3_advance 164 = .ok (.getfield 129, 3) := by decide +kernel
theorem dX3_advance_167 : decode cX3_advance 167 = .ok (.i2l, 1) := by decide +kernel
theorem dX3_advance_168 : decode cX3_advance 168 = .ok (.invokevirtual 162, 3) := by decide +kernel
theorem dX3_advance_171 : decode cX3_advance 171 = .ok (.ireturn, 1) := by decide +kernel
theorem dX3_advance_172 : decode cX3_advance 172 = .ok (.aload_n 0, 1) := by decide +kernel
theorem dX3_advance_173 : decode cX3_advance 173 = .ok (.lload_n 3, 1) := by decide +kernel
theorem dX3_advance_174 : decode cX3_advance 174 = .ok (.lconst 0, 1) := by decide +kernel
theorem dX3_advance_175 : decode cX3_advance 175 = .ok (.lcmp, 1) := by decide +kernel
theorem dX3_advance_176 : decode cX3_advance 176 = .ok (.ifCond .lt 24, 3) := by decide +kernel
theorem dX3_advance_179 : decode cX3_advance 179 = .ok (.lload_n 3, 1) := by decide +kernel
theorem dX3_advance_180 : decode cX3_advance 180 = .ok (.aload_n 0, 1) := by decide +kernel
theorem dX3_advance_181 : decode cX3_advance 181 = .ok (.getfield 26, 3) := by decide +kernel
theorem dX3_advance_184 : decode cX3_advance 184 = .ok (.arraylength, 1) := by decide +kernel
theorem dX3_advance_185 : decode cX3_advance 185 = .ok (.i2l, 1) := by decide +kernel
theorem dX3_advance_186 : decode cX3_advance 186 = .ok (.lcmp, 1) := by decide +kernel
theorem dX3_advance_187 : decode cX3_advance 187 = .ok (.ifCond .ge 13, 3) := by decide +kernel
theorem dX3_advance_190 : decode cX3_advance 190 = .ok (.aload_n 0, 1) := by decide +kernel
theorem dX3_advance_191 : decode cX3_advance 191 = .ok (.getfield 26, 3) := by decide +kernel
theorem dX3_advance_194 : decode cX3_advance 194 = .ok (.lload_n 3, 1) := by decide +kernel
theorem dX3_advance_195 : decode cX3_advance 195 = .ok (.l2i, 1) := by decide +kernel
theorem dX3_advance_196 : decode cX3_advance 196 = .ok (.laload, 1) := by decide +kernel
theorem dX3_advance_197 : decode cX3_advance 197 = .ok (.goto 4, 3) := by decide +kernel
theorem dX3_advance_200 : decode cX3_advance 200 = .ok (.lconst 0, 1) := by decide +kernel
theorem dX3_advance_201 : decode cX3_advance 201 = .ok (.invokevirtual 162, 3) := by decide +kernel
theorem dX3_advance_204 : decode cX3_advance 204 = .ok (.ireturn, 1) := by decide +kernel
theorem dX3_advance_205 : decode cX3_advance 205 = .ok (.aload_n 0, 1) := by decide +kernel
theorem dX3_advance_206 : decode cX3_advance 206 = .ok (.lload_n 3, 1) := by decide +kernel
theorem dX3_advance_207 : decode cX3_advance 207 = .ok (.invokevirtual 166, 3) := by decide +kernel
theorem dX3_advance_210 : decode cX3_advance 210 = .ok (.ireturn, 1) := by decide +kernel
theorem dX3_advance_211 : decode cX3_advance 211 = .ok (.aload_n 0, 1) := by decide +kernel
theorem dX3_advance_212 : decode cX3_advance 212 = .ok (.aload_n 1, 1) := by decide +kernel
theorem dX3_advance_213 : decode cX3_advance 213 = .ok (.lload_n 3, 1) := by decide +kernel
theorem dX3_advance_214 : decode cX3_advance 214 = .ok (.invokevirtual 169, 3) := by decide +kernel
theorem dX3_advance_217 : decode cX3_advance 217 = .ok (.ireturn, 1) := by decide +kernel
theorem dX3_advance_218 : decode cX3_advance 218 = .ok (.aload_n 0, 1) := by decide +kernel
theorem dX3_advance_219 : decode cX3_advance 219 = .ok (.aload_n 0, 1) := by decide +kernel
theorem dX3_advance_220 : decode cX3_advance 220 = .ok (.invokevirtual 173, 3) := by decide +kernel
theorem dX3_advance_223 : decode cX3_advance 223 = .ok (.lneg, 1) := by decide +kernel
theorem dX3_advance_224 : decode cX3_advance 224 = .ok (.invokevirtual 162, 3) := by decide +kernel
theorem dX3_advance_227 : decode cX3_advance 227 = .ok (.ireturn, 1) := by decide +kernel
theorem dX3_advance_228 : decode cX3_advance 228 = .ok (.aload_n 1, 1) := by decide +kernel
theorem dX3_advance_229 : decode cX3_advance 229 = .ok (.lload_n 3, 1) := by decide +kernel
theorem dX3_advance_230 : decode cX3_advance 230 = .ok (.l2i, 1) := by decide +kernel
theorem dX3_advance_231 : decode cX3_advance 231 = .ok (.putfield 123, 3) := by decide +kernel
theorem dX3_advance_234 : decode cX3_advance 234 = .ok (.iconst (-1), 1) := by decide +kernel
theorem dX3_advance_235 : decode cX3_advance 235 = .ok (.ireturn, 1) := by decide +kernel
theorem dX3_advance_236 : decode cX3_advance 236 = .ok (.aload_n 1, 1) := by decide +kernel
theorem dX3_advance_237 : decode cX3_advance 237 = .ok (.aload_n 0, 1) := by decide +kernel
theorem dX3_advance_238 : decode cX3_advance 238 = .ok (.invokevirtual 173, 3) := by decide +kernel
theorem dX3_advance_241 : decode cX3_advance 241 = .ok (.lconst 0, 1) := by decide +kernel
theorem dX3_advance_242 : decode cX3_advance 242 = .ok (.lcmp, 1) := by decide +kernel
theorem dX3_advance_243 : decode cX3_advance 243 = .ok (.ifCond .ne 8, 3) := by decide +kernel
theorem dX3_advance_246 : decode cX3_advance 246 = .ok (.lload_n 3, 1) := by decide +kernel
theorem dX3_advance_247 : decode cX3_advance 247 = .ok (.l2i, 1) := by decide +kernel
theorem dX3_advance_248 : decode cX3_advance 248 = .ok (.goto 9, 3) := by decide +kernel
theorem dX3_advance_251 : decode cX3_advance 251 = .ok (.aload_n 1, 1) := by decide +kernel
theorem dX3_advance_252 : decode cX3_advance 252 = .ok (.getfield 123, 3) := by decide +kernel
theorem dX3_advance_255 : decode cX3_advance 255 = .ok (.iconst 1, 1) := by decide +kernel
theorem dX3_advance_256 : decode cX3_advance 256 = .ok (.iadd, 1) := by decide +kernel
theorem dX3_advance_257 : decode cX3_advance 257 = .ok (.putfield 123, 3) := by decide +kernel
theorem dX3_advance_260 : decode cX3_advance 260 = .ok (.iconst (-1), 1) := by decide +kernel
theorem dX3_advance_261 : decode cX3_advance 261 = .ok (.ireturn, 1) := by decide +kernel
theorem dX3_advance_262 : decode cX3_advance 262 = .ok (.aload_n 0, 1) := by decide +kernel
theorem dX3_advance_263 : decode cX3_advance 263 = .ok (.lload_n 3, 1) := by decide +kernel
theorem dX3_advance_264 : decode cX3_advance 264 = .ok (.l2i, 1) := by decide +kernel
theorem dX3_advance_265 : decode cX3_advance 265 = .ok (.invokevirtual 43, 3) := by decide +kernel
theorem dX3_advance_268 : decode cX3_advance 268 = .ok (.ireturn, 1) := by decide +kernel
theorem dX3_advance_269 : decode cX3_advance 269 = .ok (.aload_n 1, 1) := by decide +kernel
theorem dX3_advance_270 : decode cX3_advance 270 = .ok (.iconst 0, 1) := by decide +kernel
theorem dX3_advance_271 : decode cX3_advance 271 = .ok (.putfield 129, 3) := by decide +kernel
theorem dX3_advance_274 : decode cX3_advance 274 = .ok (.iconst 0, 1) := by decide +kernel
theorem dX3_advance_275 : decode cX3_advance 275 = .ok (.ireturn, 1) := by decide +kernel
theorem dX3_advance_276 : decode cX3_advance 276 = .ok (.aload_n 0, 1) := by decide +kernel
theorem dX3_advance_277 : decode cX3_advance 277 = .ok (.aload_n 1, 1) := by decide +kernel
theorem dX3_advance_278 : decode cX3_advance 278 = .ok (.lload_n 3, 1) := by decide +kernel
theorem dX3_advance_279 : decode cX3_advance 279 = .ok (.l2i, 1) := by decide +kernel
theorem dX3_advance_280 : decode cX3_advance 280 = .ok (.invokevirtual 177, 3) := by decide +kernel
theorem dX3_advance_283 : decode cX3_advance 283 = .ok (.ireturn, 1) := by decide +kernel
theorem dX3_advance_284 : decode cX3_advance 284 = .ok (.aload_n 0, 1) := by decide +kernel
theorem dX3_advance_285 : decode cX3_advance 285 = .ok (.invokevirtual 173, 3) := by decide +kernel
theorem dX3_advance_288 : decode cX3_advance 288 = .ok (.lconst 0, 1) := by decide +kernel
theorem dX3_advance_289 : decode cX3_advance 289 = .ok (.lcmp, 1) := by decide +kernel
theorem dX3_advance_290 : decode cX3_advance 290 = .ok (.ifCond .ne 8, 3) := by decide +kernel
theorem dX3_advance_293 : decode cX3_advance 293 = .ok (.lload_n 3, 1) := by decide +kernel
theorem dX3_advance_294 : decode cX3_advance 294 = .ok (.l2i, 1) := by decide +kernel
theorem dX3_advance_295 : decode cX3_advance 295 = .ok (.goto 4, 3) := by decide +kernel
theorem dX3_advance_298 : decode cX3_advance 298 = .ok (.iconst 0, 1) := by decide +kernel
theorem dX3_advance_299 : decode cX3_advance 299 = .ok (.ireturn, 1) := by decide +kernel
theorem dX3_advance_300 : decode cX3_advance 300 = .ok (.aload_n 0, 1) := by decide +kernel
theorem dX3_advance_301 : decode cX3_advance 301 = .ok (.aload_n 0, 1) := by decide +kernel
theorem dX3_advance_302 : decode cX3_advance 302 = .ok (.invokevirtual 173, 3) := by decide +kernel
theorem dX3_advance_305 : decode cX3_advance 305 = .ok (.putfield 75, 3) := by decide +kernel
theorem dX3_advance_308 : decode cX3_advance 308 = .ok (.aload_n 0, 1) := by decide +kernel
theorem dX3_advance_309 : decode cX3_advance 309 = .ok (.dup, 1) := by decide +kernel
theorem dX3_advance_310 : decode cX3_advance 310 = .ok (.getfield 37, 3) := by decide +kernel
theorem dX3_advance_313 : decode cX3_advance 313 = .ok (.iconst 1, 1) := by decide +kernel
theorem dX3_advance_314 : decode cX3_advance 314 = .ok (.isub, 1) := by decide +kernel
theorem dX3_advance_315 : decode cX3_advance 315 = .ok (.putfield 37, 3) := by decide +kernel
theorem dX3_advance_318 : decode cX3_advance 318 = .ok (.iconst (-1), 1) := by decide +kernel
theorem dX3_advance_319 : decode cX3_advance 319 = .ok (.ireturn, 1) := by decide +kernel
theorem dX3_advance_320 : decode cX3_advance 320 = .ok (.aload_n 0, 1) := by decide +kernel
theorem dX3_advance_321 : decode cX3_advance 321 = .ok (.aload_n 1, 1) := by decide +kernel
theorem dX3_advance_322 : decode cX3_advance 322 = .ok (.invokevirtual 156, 3) := by decide +kernel
theorem dX3_advance_325 : decode cX3_advance 325 = .ok (.ireturn, 1) := by decide +kernel
theorem dX3_advance_326 : decode cX3_advance 326 = .ok (.aload_n 0, 1) := by decide +kernel
theorem dX3_advance_327 : decode cX3_advance 327 = .ok (.iload_n 2, 1) := by decide +kernel
theorem dX3_advance_328 : decode cX3_advance 328 = .ok (.invokevirtual 181, 3) := by decide +kernel
theorem dX3_advance_331 : decode cX3_advance 331 = .ok (.ireturn, 1) := by decide +kernel
theorem dX3_push_0 : decode cX3_push 0 = .ok (.aload_n 0, 1) := by decide +kernel
theorem dX3_push_1 : decode cX3_push 1 = .ok (.getfield 40, 3) := by decide +kernel
theorem dX3_push_4 : decode cX3_push 4 = .ok (.aload_n 0, 1) := by decide +kernel
theorem dX3_push_5 : decode cX3_push 5 = .ok (.getfield 22, 3) := by decide +kernel
theorem dX3_push_8 : decode cX3_push 8 = .ok (.arraylength, 1) := by decide +kernel
theorem dX3_push_9 : decode cX3_push 9 = .ok (.if_icmp .ge 23, 3) := by decide +kernel
theorem dX3_push_12 : decode cX3_push 12 = .ok (.aload_n 0, 1) := by decide +kernel
theorem dX3_push_13 : decode cX3_push 13 = .ok (.getfield 22, 3) := by decide +kernel
theorem dX3_push_16 : decode cX3_push 16 = .ok (.aload_n 0, 1) := by decide +kernel
theorem dX3_push_17 : decode cX3_push 17 = .ok (.getfield 40, 3) := by decide +kernel
theorem dX3_push_20 : decode cX3_push 20 = .ok (.lload_n 1, 1) := by decide +kernel
theorem dX3_push_21 : decode cX3_push 21 = .ok (.lastore, 1) := by decide +kernel
theorem dX3_push_22 : decode cX3_push 22 = .ok (.aload_n 0, 1) := by decide +kernel
theorem dX3_push_23 : decode cX3_push 23 = .ok (.dup, 1) := by decide +kernel
theorem dX3_push_24 : decode cX3_push 24 = .ok (.getfield 40, 3) := by decide +kernel
theorem dX3_push_27 : decode cX3_push 27 = .ok (.iconst 1, 1) := by decide +kernel
theorem dX3_push_28 : decode cX3_push 28 = .ok (.iadd, 1) := by decide +kernel
theorem dX3_push_29 : decode cX3_push 29 = .ok (.putfield 40, 3) := by decide +kernel
theorem dX3_push_32 : decode cX3_push 32 = .ok (.iconst 0, 1) := by decide +kernel
theorem dX3_push_33 : decode cX3_push 33 = .ok (.ireturn, 1) := by decide +kernel
theorem dX3_pop_0 : decode cX3_pop 0 = .ok (.aload_n 0, 1) := by decide +kernel
theorem dX3_pop_1 : decode cX3_pop 1 = .ok (.getfield 40, 3) := by decide +kernel
theorem dX3_pop_4 : decode cX3_pop 4 = .ok (.ifCond .gt 5, 3) := by decide +kernel
theorem dX3_pop_7 : decode cX3_pop 7 = .ok (.lconst 0, 1) := by decide +kernel
theorem dX3_pop_8 : decode cX3_pop 8 = .ok (.lreturn, 1) := by decide +kernel
theorem dX3_pop_9 : decode cX3_pop 9 = .ok (.aload_n 0, 1) := by decide +kernel
theorem dX3_pop_10 : decode cX3_pop 10 = .ok (.dup, 1) := by decide +kernel
theorem dX3_pop_11 : decode cX3_pop 11 = .ok (.getfield 40, 3) := by decide +kernel
theorem dX3_pop_14 : decode cX3_pop 14 = .ok (.iconst 1, 1) := by decide +kernel
theorem dX3_pop_15 : decode cX3_pop 15 = .ok (.isub, 1) := by decide +kernel
theorem dX3_pop_16 : decode cX3_pop 16 = .ok (.putfield 40, 3) := by decide +kernel
theorem dX3_pop_19 : decode cX3_pop 19 = .ok (.aload_n 0, 1) := by decide +kernel
theorem dX3_pop_20 : decode cX3_pop 20 = .ok (.getfield 22, 3) := by decide +kernel
theorem dX3_pop_23 : decode cX3_pop 23 = .ok (.aload_n 0, 1) := by decide +kernel
theorem dX3_pop_24 : decode cX3_pop 24 = .ok (.getfield 40, 3) := by decide +kernel
theorem dX3_pop_27 : decode cX3_pop 27 = .ok (.laload, 1) := by decide +kernel
theorem dX3_pop_28 : decode cX3_pop 28 = .ok (.lreturn, 1) := by decide +kernel
theorem dX3_finish_0 : decode cX3_finish 0 = .ok (.aload_n 1, 1) := by decide +kernel
theorem dX3_finish_1 : decode cX3_finish 1 = .ok (.getfield 132, 3) := by decide +kernel
theorem dX3_finish_4 : decode cX3_finish 4 = .ok (.ifCond .eq 19, 3) := by decide +kernel
theorem dX3_finish_7 : decode cX3_finish 7 = .ok (.aload_n 0, 1) := by decide +kernel
theorem dX3_finish_8 : decode cX3_finish 8 = .ok (.getfield 9, 3) := by decide +kernel
theorem dX3_finish_11 : decode cX3_finish 11 = .ok (.getfield 100, 3) := by decide +kernel
theorem dX3_finish_14 : decode cX3_finish 14 = .ok (.aload_n 1, 1) := by decide +kernel
theorem dX3_finish_15 : decode cX3_finish 15 = .ok (.getfield 119, 3) := by decide +kernel
theorem dX3_finish_18 : decode cX3_finish 18 = .ok (.aaload, 1) := by decide +kernel
theorem dX3_finish_19 : decode cX3_finish 19 = .ok (.iconst 2, 1) := by decide +kernel
theorem dX3_finish_20 : decode cX3_finish 20 = .ok (.putfield 136, 3) := by decide +kernel
theorem dX3_finish_23 : decode cX3_finish 23 = .ok (.aload_n 0, 1) := by decide +kernel
theorem dX3_finish_24 : decode cX3_finish 24 = .ok (.dup, 1) := by decide +kernel
theorem dX3_finish_25 : decode cX3_finish 25 = .ok (.getfield 37, 3) := by decide +kernel
theorem dX3_finish_28 : decode cX3_finish 28 = .ok (.iconst 1, 1) := by decide +kernel
theorem dX3_finish_29 : decode cX3_finish 29 = .ok (.isub, 1) := by decide +kernel
theorem dX3_finish_30 : decode cX3_finish 30 = .ok (.putfield 37, 3) := by decide +kernel
theorem dX3_finish_33 : decode cX3_finish 33 = .ok (.iconst (-1), 1) := by decide +kernel
theorem dX3_finish_34 : decode cX3_finish 34 = .ok (.ireturn, 1) := by decide +kernel
theorem dX3_calculate_0 : decode cX3_calculate 0 = .ok (.aload_n 0, 1) := by decide +kernel
theorem dX3_calculate_1 : decode cX3_calculate 1 = .ok (.invokevirtual 173, 3) := by decide +kernel
theorem dX3_calculate_4 : decode cX3_calculate 4 = .ok (.lstore_n 2, 1) := by decide +kernel
theorem dX3_calculate_5 : decode cX3_calculate 5 = .ok (.aload_n 0, 1) := by decide +kernel
theorem dX3_calculate_6 : decode cX3_calculate 6 = .ok (.invokevirtual 173, 3) := by decide +kernel
theorem dX3_calculate_9 : decode cX3_calculate 9 = .ok (.lstore 4, 2) := by decide +kernel
theorem dX3_calculate_11 : decode cX3_calculate 11 = .ok (.iload_n 1, 1) := by decide +kernel
theorem dX3_calculate_12 : decode cX3_calculate 12 = .ok (.tableswitch 147 6 12 #[44, 53, 62, 71, 92, 113, 130], 44) := by decide +kernel
theorem dX3_calculate_56 : decode cX3_calculate 56 = .ok (.aload_n 0, 1) := by decide +kernel
theorem dX3_calculate_57 : decode cX3_calculate 57 = .ok (.lload 4, 2) := by decide +kernel
theorem dX3_calculate_59 : decode cX3_calculate 59 = .ok (.lload_n 2, 1) := by decide +kernel
theorem dX3_calculate_60 : decode cX3_calculate 60 = .ok (.ladd, 1) := by decide +kernel
theorem dX3_calculate_61 : decode cX3_calculate 61 = .ok (.invokevirtual 162, 3) := by decide +kernel
theorem dX3_calculate_64 : decode cX3_calculate 64 = .ok (.ireturn, 1) := by decide +kernel
theorem dX3_calculate_65 : decode cX3_calculate 65 = .ok (.aload_n 0, 1) := by decide +kernel
theorem dX3_calculate_66 : decode cX3_calculate 66 = .ok (.lload 4, 2) := by decide +kernel
theorem dX3_calculate_68 : decode cX3_calculate 68 = .ok (.lload_n 2, 1) := by decide +kernel
theorem dX3_calculate_69 : decode cX3_calculate 69 = .ok (.lsub, 1) := by decide +kernel
theorem dX3_calculate_70 : decode cX3_calculate 70 = .ok (.invokevirtual 162, 3) := by decide +kernel
theorem dX3_calculate_73 : decode cX3_calculate 73 = .ok (.ireturn, 1) := by decide +kernel
theorem dX3_calculate_74 : decode cX3_calculate 74 = .ok (.aload_n 0, 1) := by decide +kernel
theorem dX3_calculate_75 : decode cX3_calculate 75 = .ok (.lload 4, 2) := by decide +kernel
theorem dX3_calculate_77 : decode cX3_calculate 77 = .ok (.lload_n 2, 1) := by decide +kernel
theorem dX3_calculate_78 : decode cX3_calculate 78 = .ok (.lmul, 1) := by decide +kernel
theorem dX3_calculate_79 : decode cX3_calculate 79 = .ok (.invokevirtual 162, 3) := by decide +kernel
theorem dX3_calculate_82 : decode cX3_calculate 82 = .ok (.ireturn, 1) := by decide +kernel
theorem dX3_calculate_83 : decode cX3_calculate 83 = .ok (.lload_n 2, 1) := by decide +kernel
theorem dX3_calculate_84 : decode cX3_calculate 84 = .ok (.lconst 0, 1) := by decide +kernel
theorem dX3_calculate_85 : decode cX3_calculate 85 = .ok (.lcmp, 1) := by decide +kernel
theorem dX3_calculate_86 : decode cX3_calculate 86 = .ok (.ifCond .ne 9, 3) := by decide +kernel
theorem dX3_calculate_89 : decode cX3_calculate 89 = .ok (.sipush 801, 3) := by decide +kernel
theorem dX3_calculate_92 : decode cX3_calculate 92 = .ok (.goto 11, 3) := by decide +kernel
theorem dX3_calculate_95 : decode cX3_calculate 95 = .ok (.aload_n 0, 1) := by decide +kernel
theorem dX3_calculate_96 : decode cX3_calculate 96 = .ok (.lload 4, 2) := by decide +kernel
theorem dX3_calculate_98 : decode cX3_calculate 98 = .ok (.lload_n 2, 1) := by decide +kernel
theorem dX3_calculate_99 : decode cX3_calculate 99 = .ok (.ldiv, 1) := by decide +kernel
theorem dX3_calculate_100 : decode cX3_calculate 100 = .ok (.invokevirtual 162, 3) := by decide +kernel
theorem dX3_calculate_103 : decode cX3_calculate 103 = .ok (.ireturn, 1) := by decide +kernel
theorem dX3_calculate_104 : decode cX3_calculate 104 = .ok (.lload_n 2, 1) := by decide +kernel
theorem dX3_calculate_105 : decode cX3_calculate 105 = .ok (.lconst 0, 1) := by decide +kernel
theorem dX3_calculate_106 : decode cX3_calculate 106 = .ok (.lcmp, 1) := by decide +kernel
theorem dX3_calculate_107 : decode cX3_calculate 107 = .ok (.ifCond .ne 9, 3) := by decide +kernel
theorem dX3_calculate_110 : decode cX3_calculate 110 = .ok (.sipush 801, 3) := by decide +kernel
theorem dX3_calculate_113 : decode cX3_calculate 113 = .ok (.goto 11, 3) := by decide +kernel
theorem dX3_calculate_116 : decode cX3_calculate 116 = .ok (.aload_n 0, 1) := by decide +kernel
theorem dX3_calculate_117 : decode cX3_calculate 117 = .ok (.lload 4, 2) := by decide +kernel
theorem dX3_calculate_119 : decode cX3_calculate 119 = .ok (.lload_n 2, 1) := by decide +kernel
theorem dX3_calculate_120 : decode cX3_calculate 120 = .ok (.lrem, 1) := by decide +kernel
theorem dX3_calculate_121 : decode cX3_calculate 121 = .ok (.invokevirtual 162, 3) := by decide +kernel
theorem dX3_calculate_124 : decode cX3_calculate 124 = .ok (.ireturn, 1) := by decide +kernel
theorem dX3_calculate_125 : decode cX3_calculate 125 = .ok (.aload_n 0, 1) := by decide +kernel
theorem dX3_calculate_126 : decode cX3_calculate 126 = .ok (.lload 4, 2) := by decide +kernel
theorem dX3_calculate_128 : decode cX3_calculate 128 = .ok (.lload_n 2, 1) := by decide +kernel
theorem dX3_calculate_129 : decode cX3_calculate 129 = .ok (.lcmp, 1) := by decide +kernel
theorem dX3_calculate_130 : decode cX3_calculate 130 = .ok (.ifCond .ne 7, 3) := by decide +kernel
theorem dX3_calculate_133 : decode cX3_calculate 133 = .ok (.lconst 1, 1) := by decide +kernel
theorem dX3_calculate_134 : decode cX3_calculate 134 = .ok (.goto 4, 3) := by decide +kernel
theorem dX3_calculate_137 : decode cX3_calculate 137 = .ok (.lconst 0, 1) := by decide +kernel
theorem dX3_calculate_138 : decode cX3_calculate 138 = .ok (.invokevirtual 162, 3) := by decide +kernel
theorem dX3_calculate_141 : decode cX3_calculate 141 = .ok (.ireturn, 1) := by decide +kernel
theorem dX3_calculate_142 : decode cX3_calculate 142 = .ok (.aload_n 0, 1) := by decide +kernel
theorem dX3_calculate_143 : decode cX3_calculate 143 = .ok (.lload 4, 2) := by decide +kernel
theorem dX3_calculate_145 : decode cX3_calculate 145 = .ok (.lload_n 2, 1) := by decide +kernel
theorem dX3_calculate_146 : decode cX3_calculate 146 = .ok (.lcmp, 1) := by decide +kernel
theorem dX3_calculate_147 : decode cX3_calculate 147 = .ok (.ifCond .ge 7, 3) := by decide +kernel
theorem dX3_calculate_150 : decode cX3_calculate 150 = .ok (.lconst 1, 1) := by decide +kernel
theorem dX3_calculate_151 : decode cX3_calculate 151 = .ok (.goto 4, 3) := by decide +kernel
theorem dX3_calculate_154 : decode cX3_calculate 154 = .ok (.lconst 0, 1) := by decide +kernel
theorem dX3_calculate_155 : decode cX3_calculate 155 = .ok (.invokevirtual 162, 3) := by decide +kernel
theorem dX3_calculate_158 : decode cX3_calculate 158 = .ok (.ireturn, 1) := by decide +kernel
theorem dX3_calculate_159 : decode cX3_calculate 159 = .ok (.aload_n 0, 1) := by decide +kernel
theorem dX3_calculate_160 : decode cX3_calculate 160 = .ok (.lload 4, 2) := by decide +kernel
theorem dX3_calculate_162 : decode cX3_calculate 162 = .ok (.lload_n 2, 1) := by decide +kernel
theorem dX3_calculate_163 : decode cX3_calculate 163 = .ok (.lcmp, 1) := by decide +kernel
theorem dX3_calculate_164 : decode cX3_calculate 164 = .ok (.ifCond .le 7, 3) := by decide +kernel
theorem dX3_calculate_167 : decode cX3_calculate 167 = .ok (.lconst 1, 1) := by decide +kernel
theorem dX3_calculate_168 : decode cX3_calculate 168 = .ok (.goto 4, 3) := by decide +kernel
theorem dX3_calculate_171 : decode cX3_calculate 171 = .ok (.lconst 0, 1) := by decide +kernel
theorem dX3_calculate_172 : decode cX3_calculate 172 = .ok (.invokevirtual 162, 3) := by decide +kernel
theorem dX3_calculate_175 : decode cX3_calculate 175 = .ok (.ireturn, 1) := by decide +kernel
theorem dX3_readConst_0 : decode cX3_readConst 0 = .ok (.aload_n 0, 1) := by decide +kernel
theorem dX3_readConst_1 : decode cX3_readConst 1 = .ok (.getfield 9, 3) := by decide +kernel
theorem dX3_readConst_4 : decode cX3_readConst 4 = .ok (.iconst 0, 1) := by decide +kernel
theorem dX3_readConst_5 : decode cX3_readConst 5 = .ok (.lload_n 1, 1) := by decide +kernel
theorem dX3_readConst_6 : decode cX3_readConst 6 = .ok (.invokevirtual 94, 3) := by decide +kernel
theorem dX3_readConst_9 : decode cX3_readConst 9 = .ok (.istore_n 3, 1) := by decide +kernel
theorem dX3_readConst_10 : decode cX3_readConst 10 = .ok (.iload_n 3, 1) := by decide +kernel
theorem dX3_readConst_11 : decode cX3_readConst 11 = .ok (.iconst (-1), 1) := by decide +kernel
theorem dX3_readConst_12 : decode cX3_readConst 12 = .ok (.if_icmp .ne 7, 3) := by decide +kernel
theorem dX3_readConst_15 : decode cX3_readConst 15 = .ok (.sipush 802, 3) := by decide +kernel
theorem dX3_readConst_18 : decode cX3_readConst 18 = .ok (.ireturn, 1) := by decide +kernel
theorem dX3_readConst_19 : decode cX3_readConst 19 = .ok (.aload_n 0, 1) := by decide +kernel
theorem dX3_readConst_20 : decode cX3_readConst 20 = .ok (.getfield 9, 3) := by decide +kernel
theorem dX3_readConst_23 : decode cX3_readConst 23 = .ok (.getfield 100, 3) := by decide +kernel
theorem dX3_readConst_26 : decode cX3_readConst 26 = .ok (.iload_n 3, 1) := by decide +kernel
theorem dX3_readConst_27 : decode cX3_readConst 27 = .ok (.bipush 8, 2) := by decide +kernel
theorem dX3_readConst_29 : decode cX3_readConst 29 = .ok (.idiv, 1) := by decide +kernel
theorem dX3_readConst_30 : decode cX3_readConst 30 = .ok (.aaload, 1) := by decide +kernel
theorem dX3_readConst_31 : decode cX3_readConst 31 = .ok (.iload_n 3, 1) := by decide +kernel
theorem dX3_readConst_32 : decode cX3_readConst 32 = .ok (.bipush 8, 2) := by decide +kernel
theorem dX3_readConst_34 : decode cX3_readConst 34 = .ok (.irem, 1) := by decide +kernel
theorem dX3_readConst_35 : decode cX3_readConst 35 = .ok (.invokevirtual 184, 3) := by decide +kernel
theorem dX3_readConst_38 : decode cX3_readConst 38 = .ok (.lstore 4, 2) := by decide +kernel
theorem dX3_readConst_40 : decode cX3_readConst 40 = .ok (.lload 4, 2) := by decide +kernel
theorem dX3_readConst_42 : decode cX3_readConst 42 = .ok (.ldc2_w 188, 3) := by decide +kernel
theorem dX3_readConst_45 : decode cX3_readConst 45 = .ok (.lcmp, 1) := by decide +kernel
theorem dX3_readConst_46 : decode cX3_readConst 46 = .ok (.ifCond .ne 9, 3) := by decide +kernel
theorem dX3_readConst_49 : decode cX3_readConst 49 = .ok (.sipush 802, 3) := by decide +kernel
theorem dX3_readConst_52 : decode cX3_readConst 52 = .ok (.goto 9, 3) := by decide +kernel
theorem dX3_readConst_55 : decode cX3_readConst 55 = .ok (.aload_n 0, 1) := by decide +kernel
theorem dX3_readConst_56 : decode cX3_readConst 56 = .ok (.lload 4, 2) := by decide +kernel
theorem dX3_readConst_58 : decode cX3_readConst 58 = .ok (.invokevirtual 162, 3) := by decide +kernel
theorem dX3_readConst_61 : decode cX3_readConst 61 = .ok (.ireturn, 1) := by decide +kernel
theorem dX3_readEntry_0 : decode cX3_readEntry 0 = .ok (.lload_n 2, 1) := by decide +kernel
theorem dX3_readEntry_1 : decode cX3_readEntry 1 = .ok (.bipush 40, 2) := by decide +kernel
theorem dX3_readEntry_3 : decode cX3_readEntry 3 = .ok (.lushr, 1) := by decide +kernel
theorem dX3_readEntry_4 : decode cX3_readEntry 4 = .ok (.l2i, 1) := by decide +kernel
theorem dX3_readEntry_5 : decode cX3_readEntry 5 = .ok (.istore 4, 2) := by decide +kernel
theorem dX3_readEntry_7 : decode cX3_readEntry 7 = .ok (.iload 4, 2) := by decide +kernel
theorem dX3_readEntry_9 : decode cX3_readEntry 9 = .ok (.aload_n 1, 1) := by decide +kernel
theorem dX3_readEntry_10 : decode cX3_readEntry 10 = .ok (.getfield 119, 3) := by decide +kernel
theorem dX3_readEntry_13 : decode cX3_readEntry 13 = .ok (.if_icmp .ne 7, 3) := by decide +kernel
theorem dX3_readEntry_16 : decode cX3_readEntry 16 = .ok (.iconst 0, 1) := by decide +kernel
theorem dX3_readEntry_17 : decode cX3_readEntry 17 = .ok (.goto 9, 3) := by decide +kernel
theorem dX3_readEntry_20 : decode cX3_readEntry 20 = .ok (.aload_n 0, 1) := by decide +kernel
theorem dX3_readEntry_21 : decode cX3_readEntry 21 = .ok (.iload 4, 2) := by decide +kernel
theorem dX3_readEntry_23 : decode cX3_readEntry 23 = .ok (.invokevirtual 43, 3) := by decide +kernel
theorem dX3_readEntry_26 : decode cX3_readEntry 26 = .ok (.istore 5, 2) := by decide +kernel
theorem dX3_readEntry_28 : decode cX3_readEntry 28 = .ok (.iload 5, 2) := by decide +kernel
theorem dX3_readEntry_30 : decode cX3_readEntry 30 = .ok (.ifCond .eq 6, 3) := by decide +kernel
theorem dX3_readEntry_33 : decode cX3_readEntry 33 = .ok (.iload 5, 2) := by decide +kernel
theorem dX3_readEntry_35 : decode cX3_readEntry 35 = .ok (.ireturn, 1) := by decide +kernel
theorem dX3_readEntry_36 : decode cX3_readEntry 36 = .ok (.aload_n 0, 1) := by decide +kernel
theorem dX3_readEntry_37 : decode cX3_readEntry 37 = .ok (.getfield 9, 3) := by decide +kernel
theorem dX3_readEntry_40 : decode cX3_readEntry 40 = .ok (.iconst 1, 1) := by decide +kernel
theorem dX3_readEntry_41 : decode cX3_readEntry 41 = .ok (.lload_n 2, 1) := by decide +kernel
theorem dX3_readEntry_42 : decode cX3_readEntry 42 = .ok (.invokevirtual 94, 3) := by decide +kernel
theorem dX3_readEntry_45 : decode cX3_readEntry 45 = .ok (.istore 6, 2) := by decide +kernel
theorem dX3_readEntry_47 : decode cX3_readEntry 47 = .ok (.iload 6, 2) := by decide +kernel
theorem dX3_readEntry_49 : decode cX3_readEntry 49 = .ok (.iconst (-1), 1) := by decide +kernel
theorem dX3_readEntry_50 : decode cX3_readEntry 50 = .ok (.if_icmp .ne 7, 3) := by decide +kernel
theorem dX3_readEntry_53 : decode cX3_readEntry 53 = .ok (.sipush 802, 3) := by decide +kernel
theorem dX3_readEntry_56 : decode cX3_readEntry 56 = .ok (.ireturn, 1) := by decide +kernel
theorem dX3_readEntry_57 : decode cX3_readEntry 57 = .ok (.iload 6, 2) := by decide +kernel
theorem dX3_readEntry_59 : decode cX3_readEntry 59 = .ok (.bipush 8, 2) := by decide +kernel
theorem dX3_readEntry_61 : decode cX3_readEntry 61 = .ok (.idiv, 1) := by decide +kernel
theorem dX3_readEntry_62 : decode cX3_readEntry 62 = .ok (.istore 7, 2) := by decide +kernel
theorem dX3_readEntry_64 : decode cX3_readEntry 64 = .ok (.iload 7, 2) := by decide +kernel
theorem dX3_readEntry_66 : decode cX3_readEntry 66 = .ok (.aload_n 1, 1) := by decide +kernel
theorem dX3_readEntry_67 : decode cX3_readEntry 67 = .ok (.getfield 119, 3) := by decide +kernel
theorem dX3_readEntry_70 : decode cX3_readEntry 70 = .ok (.if_icmp .ne 7, 3) := by decide +kernel
theorem dX3_readEntry_73 : decode cX3_readEntry 73 = .ok (.iconst 0, 1) := by decide +kernel
theorem dX3_readEntry_74 : decode cX3_readEntry 74 = .ok (.goto 9, 3) := by decide +kernel
theorem dX3_readEntry_77 : decode cX3_readEntry 77 = .ok (.aload_n 0, 1) := by decide +kernel
theorem dX3_readEntry_78 : decode cX3_readEntry 78 = .ok (.iload 7, 2) := by decide +kernel
theorem dX3_readEntry_80 : decode cX3_readEntry 80 = .ok (.invokevirtual 43, 3) := by decide +kernel
theorem dX3_readEntry_83 : decode cX3_readEntry 83 = .ok (.istore 5, 2) := by decide +kernel
theorem dX3_readEntry_85 : decode cX3_readEntry 85 = .ok (.iload 5, 2) := by decide +kernel
theorem dX3_readEntry_87 : decode cX3_readEntry 87 = .ok (.ifCond .eq 6, 3) := by decide +kernel
theorem dX3_readEntry_90 : decode cX3_readEntry 90 = .ok (.iload 5, 2) := by decide +kernel
theorem dX3_readEntry_92 : decode cX3_readEntry 92 = .ok (.ireturn, 1) := by decide +kernel
theorem dX3_readEntry_93 : decode cX3_readEntry 93 = .ok (.aload_n 0, 1) := by decide +kernel
theorem dX3_readEntry_94 : decode cX3_readEntry 94 = .ok (.aload_n 0, 1) := by decide +kernel
theorem dX3_readEntry_95 : decode cX3_readEntry 95 = .ok (.getfield 9, 3) := by decide +kernel
theorem dX3_readEntry_98 : decode cX3_readEntry 98 = .ok (.getfield 100, 3) := by decide +kernel
theorem dX3_readEntry_101 : decode cX3_readEntry 101 = .ok (.iload 7, 2) := by decide +kernel
theorem dX3_readEntry_103 : decode cX3_readEntry 103 = .ok (.aaload, 1) := by decide +kernel
theorem dX3_readEntry_104 : decode cX3_readEntry 104 = .ok (.iload 6, 2) := by decide +kernel
theorem dX3_readEntry_106 : decode cX3_readEntry 106 = .ok (.bipush 8, 2) := by decide +kernel
theorem dX3_readEntry_108 : decode cX3_readEntry 108 = .ok (.irem, 1) := by decide +kernel
theorem dX3_readEntry_109 : decode cX3_readEntry 109 = .ok (.iload 7, 2) := by decide +kernel
theorem dX3_readEntry_111 : decode cX3_readEntry 111 = .ok (.aload_n 1, 1) := by decide +kernel
theorem dX3_readEntry_112 : decode cX3_readEntry 112 = .ok (.getfield 119, 3) := by decide +kernel
theorem dX3_readEntry_115 : decode cX3_readEntry 115 = .ok (.if_icmp .eq 7, 3) := by decide +kernel
theorem dX3_readEntry_118 : decode cX3_readEntry 118 = .ok (.iconst 1, 1) := by decide +kernel
theorem dX3_readEntry_119 : decode cX3_readEntry 119 = .ok (.goto 4, 3) := by decide +kernel
theorem dX3_readEntry_122 : decode cX3_readEntry 122 = .ok (.iconst 0, 1) := by decide +kernel
theorem dX3_readEntry_123 : decode cX3_readEntry 123 = .ok (.invokevirtual 190, 3) := by decide +kernel
theorem dX3_readEntry_126 : decode cX3_readEntry 126 = .ok (.ireturn, 1) := by decide +kernel
theorem dX3_pushEntry_0 : decode cX3_pushEntry 0 = .ok (.aload_n 0, 1) := by decide +kernel
theorem dX3_pushEntry_1 : decode cX3_pushEntry 1 = .ok (.invokevirtual 173, 3) := by decide +kernel
theorem dX3_pushEntry_4 : decode cX3_pushEntry 4 = .ok (.lstore 4, 2) := by decide +kernel
theorem dX3_pushEntry_6 : decode cX3_pushEntry 6 = .ok (.aload_n 1, 1) := by decide +kernel
theorem dX3_pushEntry_7 : decode cX3_pushEntry 7 = .ok (.iload_n 2, 1) := by decide +kernel
theorem dX3_pushEntry_8 : decode cX3_pushEntry 8 = .ok (.lload 4, 2) := by decide +kernel
theorem dX3_pushEntry_10 : decode cX3_pushEntry 10 = .ok (.invokevirtual 194, 3) := by decide +kernel
theorem dX3_pushEntry_13 : decode cX3_pushEntry 13 = .ok (.ifCond .ne 7, 3) := by decide +kernel
theorem dX3_pushEntry_16 : decode cX3_pushEntry 16 = .ok (.sipush 805, 3) := by decide +kernel
theorem dX3_pushEntry_19 : decode cX3_pushEntry 19 = .ok (.ireturn, 1) := by decide +kernel
theorem dX3_pushEntry_20 : decode cX3_pushEntry 20 = .ok (.iload_n 3, 1) := by decide +kernel
theorem dX3_pushEntry_21 : decode cX3_pushEntry 21 = .ok (.ifCond .eq 21, 3) := by decide +kernel
theorem dX3_pushEntry_24 : decode cX3_pushEntry 24 = .ok (.aload_n 1, 1) := by decide +kernel
theorem dX3_pushEntry_25 : decode cX3_pushEntry 25 = .ok (.getfield 136, 3) := by decide +kernel
theorem dX3_pushEntry_28 : decode cX3_pushEntry 28 = .ok (.iconst 4, 1) := by decide +kernel
theorem dX3_pushEntry_29 : decode cX3_pushEntry 29 = .ok (.if_icmp .ne 13, 3) := by decide +kernel
theorem dX3_pushEntry_32 : decode cX3_pushEntry 32 = .ok (.aload_n 1, 1) := by decide +kernel
theorem dX3_pushEntry_33 : decode cX3_pushEntry 33 = .ok (.dup, 1) := by decide +kernel
theorem dX3_pushEntry_34 : decode cX3_pushEntry 34 = .ok (.getfield 198, 3) := by decide +kernel
theorem dX3_pushEntry_37 : decode cX3_pushEntry 37 = .ok (.iconst 1, 1) := by decide +kernel
theorem dX3_pushEntry_38 : decode cX3_pushEntry 38 = .ok (.iadd, 1) := by decide +kernel
theorem dX3_pushEntry_39 : decode cX3_pushEntry 39 = .ok (.putfield 198, 3) := by decide +kernel
theorem dX3_pushEntry_42 : decode cX3_pushEntry 42 = .ok (.aload_n 0, 1) := by decide +kernel
theorem dX3_pushEntry_43 : decode cX3_pushEntry 43 = .ok (.aload_n 1, 1) := by decide +kernel
theorem dX3_pushEntry_44 : decode cX3_pushEntry 44 = .ok (.getfield 201, 3) := by decide +kernel
theorem dX3_pushEntry_47 : decode cX3_pushEntry 47 = .ok (.iload_n 2, 1) := by decide +kernel
theorem dX3_pushEntry_48 : decode cX3_pushEntry 48 = .ok (.bipush 12, 2) := by decide +kernel
theorem dX3_pushEntry_50 : decode cX3_pushEntry 50 = .ok (.imul, 1) := by decide +kernel
theorem dX3_pushEntry_51 : decode cX3_pushEntry 51 = .ok (.lload 4, 2) := by decide +kernel
theorem dX3_pushEntry_53 : decode cX3_pushEntry 53 = .ok (.l2i, 1) := by decide +kernel
theorem dX3_pushEntry_54 : decode cX3_pushEntry 54 = .ok (.iadd, 1) := by decide +kernel
theorem dX3_pushEntry_55 : decode cX3_pushEntry 55 = .ok (.laload, 1) := by decide +kernel
theorem dX3_pushEntry_56 : decode cX3_pushEntry 56 = .ok (.invokevirtual 162, 3) := by decide +kernel
theorem dX3_pushEntry_59 : decode cX3_pushEntry 59 = .ok (.ireturn, 1) := by decide +kernel
theorem dX3_storeEntry_0 : decode cX3_storeEntry 0 = .ok (.aload_n 0, 1) := by decide +kernel
theorem dX3_storeEntry_1 : decode cX3_storeEntry 1 = .ok (.getfield 9, 3) := by decide +kernel
theorem dX3_storeEntry_4 : decode cX3_storeEntry 4 = .ok (.getfield 100, 3) := by decide +kernel
theorem dX3_storeEntry_7 : decode cX3_storeEntry 7 = .ok (.aload_n 1, 1) := by decide +kernel
theorem dX3_storeEntry_8 : decode cX3_storeEntry 8 = .ok (.getfield 119, 3) := by decide +kernel
theorem dX3_storeEntry_11 : decode cX3_storeEntry 11 = .ok (.aaload, 1) := by decide +kernel
theorem dX3_storeEntry_12 : decode cX3_storeEntry 12 = .ok (.astore_n 3, 1) := by decide +kernel
theorem dX3_storeEntry_13 : decode cX3_storeEntry 13 = .ok (.iload_n 2, 1) := by decide +kernel
theorem dX3_storeEntry_14 : decode cX3_storeEntry 14 = .ok (.bipush 8, 2) := by decide +kernel
theorem dX3_storeEntry_16 : decode cX3_storeEntry 16 = .ok (.irem, 1) := by decide +kernel
theorem dX3_storeEntry_17 : decode cX3_storeEntry 17 = .ok (.istore 4, 2) := by decide +kernel
theorem dX3_storeEntry_19 : decode cX3_storeEntry 19 = .ok (.aload_n 0, 1) := by decide +kernel
theorem dX3_storeEntry_20 : decode cX3_storeEntry 20 = .ok (.invokevirtual 173, 3) := by decide +kernel
theorem dX3_storeEntry_23 : decode cX3_storeEntry 23 = .ok (.lstore 5, 2) := by decide +kernel
theorem dX3_storeEntry_25 : decode cX3_storeEntry 25 = .ok (.aload_n 3, 1) := by decide +kernel
theorem dX3_storeEntry_26 : decode cX3_storeEntry 26 = .ok (.iload 4, 2) := by decide +kernel
theorem dX3_storeEntry_28 : decode cX3_storeEntry 28 = .ok (.aload_n 1, 1) := by decide +kernel
theorem dX3_storeEntry_29 : decode cX3_storeEntry 29 = .ok (.getfield 129, 3) := by decide +kernel
theorem dX3_storeEntry_32 : decode cX3_storeEntry 32 = .ok (.i2l, 1) := by decide +kernel
theorem dX3_storeEntry_33 : decode cX3_storeEntry 33 = .ok (.invokevirtual 194, 3) := by decide +kernel
theorem dX3_storeEntry_36 : decode cX3_storeEntry 36 = .ok (.ifCond .eq 20, 3) := by decide +kernel
theorem dX3_storeEntry_39 : decode cX3_storeEntry 39 = .ok (.aload_n 3, 1) := by decide +kernel
theorem dX3_storeEntry_40 : decode cX3_storeEntry 40 = .ok (.getfield 201, 3) := by decide +kernel
theorem dX3_storeEntry_43 : decode cX3_storeEntry 43 = .ok (.iload 4, 2) := by decide +kernel
theorem dX3_storeEntry_45 : decode cX3_storeEntry 45 = .ok (.bipush 12, 2) := by decide +kernel
theorem dX3_storeEntry_47 : decode cX3_storeEntry 47 = .ok (.imul, 1) := by decide +kernel
theorem dX3_storeEntry_48 : decode cX3_storeEntry 48 = .ok (.aload_n 1, 1) := by decide +kernel
theorem dX3_storeEntry_49 : decode cX3_storeEntry 49 = .ok (.getfield 129, 3) := by decide +kernel
theorem dX3_storeEntry_52 : decode cX3_storeEntry 52 = .ok (.iadd, 1) := by decide +kernel
theorem dX3_storeEntry_53 : decode cX3_storeEntry 53 = .ok (.lload 5, 2) := by decide +kernel
theorem dX3_storeEntry_55 : decode cX3_storeEntry 55 = .ok (.lastore, 1) := by decide +kernel
theorem dX3_storeEntry_56 : decode cX3_storeEntry 56 = .ok (.aload_n 1, 1) := by decide +kernel
theorem dX3_storeEntry_57 : decode cX3_storeEntry 57 = .ok (.dup, 1) := by decide +kernel
theorem dX3_storeEntry_58 : decode cX3_storeEntry 58 = .ok (.getfield 129, 3) := by decide +kernel
theorem dX3_storeEntry_61 : decode cX3_storeEntry 61 = .ok (.iconst 1, 1) := by decide +kernel
theorem dX3_storeEntry_62 : decode cX3_storeEntry 62 = .ok (.iadd, 1) := by decide +kernel
theorem dX3_storeEntry_63 : decode cX3_storeEntry 63 = .ok (.putfield 129, 3) := by decide +kernel
theorem dX3_storeEntry_66 : decode cX3_storeEntry 66 = .ok (.aload_n 3, 1) := by decide +kernel
theorem dX3_storeEntry_67 : decode cX3_storeEntry 67 = .ok (.iload 4, 2) := by decide +kernel
theorem dX3_storeEntry_69 : decode cX3_storeEntry 69 = .ok (.aload_n 1, 1) := by decide +kernel
theorem dX3_storeEntry_70 : decode cX3_storeEntry 70 = .ok (.getfield 129, 3) := by decide +kernel
theorem dX3_storeEntry_73 : decode cX3_storeEntry 73 = .ok (.i2l, 1) := by decide +kernel
theorem dX3_storeEntry_74 : decode cX3_storeEntry 74 = .ok (.invokevirtual 194, 3) := by decide +kernel
theorem dX3_storeEntry_77 : decode cX3_storeEntry 77 = .ok (.ifCond .ne 5, 3) := by decide +kernel
theorem dX3_storeEntry_80 : decode cX3_storeEntry 80 = .ok (.iconst 0, 1) := by decide +kernel
theorem dX3_storeEntry_81 : decode cX3_storeEntry 81 = .ok (.ireturn, 1) := by decide +kernel
theorem dX3_storeEntry_82 : decode cX3_storeEntry 82 = .ok (.aload_n 1, 1) := by decide +kernel
theorem dX3_storeEntry_83 : decode cX3_storeEntry 83 = .ok (.iload_n 2, 1) := by decide +kernel
theorem dX3_storeEntry_84 : decode cX3_storeEntry 84 = .ok (.bipush 8, 2) := by decide +kernel
theorem dX3_storeEntry_86 : decode cX3_storeEntry 86 = .ok (.idiv, 1) := by decide +kernel
theorem dX3_storeEntry_87 : decode cX3_storeEntry 87 = .ok (.putfield 123, 3) := by decide +kernel
theorem dX3_storeEntry_90 : decode cX3_storeEntry 90 = .ok (.iconst (-1), 1) := by decide +kernel
theorem dX3_storeEntry_91 : decode cX3_storeEntry 91 = .ok (.ireturn, 1) := by decide +kernel
theorem dX4_init_0 : decode cX4_init 0 = .ok (.aload_n 0, 1) := by decide +kernel
theorem dX4_init_1 : decode cX4_init 1 = .ok (.invokespecial 3, 3) := by decide +kernel
theorem dX4_init_4 : decode cX4_init 4 = .ok (.aload_n 0, 1) := by decide +kernel
theorem dX4_init_5 : decode cX4_init 5 = .ok (.aload_n 1, 1) := by decide +kernel
theorem dX4_init_6 : decode cX4_init 6 = .ok (.putfield 9, 3) := by decide +kernel
theorem dX4_init_9 : decode cX4_init 9 = .ok (.aload_n 0, 1) := by decide +kernel
theorem dX4_init_10 : decode cX4_init 10 = .ok (.new 15, 3) := by decide +kernel
theorem dX4_init_13 : decode cX4_init 13 = .ok (.dup, 1) := by decide +kernel
theorem dX4_init_14 : decode cX4_init 14 = .ok (.invokespecial 17, 3) := by decide +kernel
theorem dX4_init_17 : decode cX4_init 17 = .ok (.putfield 18, 3) := by decide +kernel
theorem dX4_init_20 : decode cX4_init 20 = .ok (.aload_n 0, 1) := by decide +kernel
theorem dX4_init_21 : decode cX4_init 21 = .ok (.iconst 0, 1) := by decide +kernel
theorem dX4_init_22 : decode cX4_init 22 = .ok (.putfield 22, 3) := by decide +kernel
theorem dX4_init_25 : decode cX4_init 25 = .ok (.aload_n 0, 1) := by decide +kernel
theorem dX4_init_26 : decode cX4_init 26 = .ok (.iconst (-1), 1) := by decide +kernel
theorem dX4_init_27 : decode cX4_init 27 = .ok (.putfield 26, 3) := by decide +kernel
theorem dX4_init_30 : decode cX4_init 30 = .ok (.return_, 1) := by decide +kernel
theorem dX4_read_0 : decode cX4_read 0 = .ok (.aload_n 0, 1) := by decide +kernel
theorem dX4_read_1 : decode cX4_read 1 = .ok (.getfield 9, 3) := by decide +kernel
theorem dX4_read_4 : decode cX4_read 4 = .ok (.invokevirtual 29, 3) := by decide +kernel
theorem dX4_read_7 : decode cX4_read 7 = .ok (.aload_n 0, 1) := by decide +kernel
theorem dX4_read_8 : decode cX4_read 8 = .ok (.getfield 18, 3) := by decide +kernel
theorem dX4_read_11 : decode cX4_read 11 = .ok (.invokevirtual 34, 3) := by decide +kernel
theorem dX4_read_14 : decode cX4_read 14 = .ok (.aload_n 0, 1) := by decide +kernel
theorem dX4_read_15 : decode cX4_read 15 = .ok (.iconst 0, 1) := by decide +kernel
theorem dX4_read_16 : decode cX4_read 16 = .ok (.putfield 37, 3) := by decide +kernel
theorem dX4_read_19 : decode cX4_read 19 = .ok (.aload_n 0, 1) := by decide +kernel
theorem dX4_read_20 : decode cX4_read 20 = .ok (.iload_n 1, 1) := by decide +kernel
theorem dX4_read_21 : decode cX4_read 21 = .ok (.putfield 40, 3) := by decide +kernel
theorem dX4_read_24 : decode cX4_read 24 = .ok (.aload_n 0, 1) := by decide +kernel
theorem dX4_read_25 : decode cX4_read 25 = .ok (.iconst 0, 1) := by decide +kernel
theorem dX4_read_26 : decode cX4_read 26 = .ok (.putfield 43, 3) := by decide +kernel
theorem dX4_read_29 : decode cX4_read 29 = .ok (.aload_n 0, 1) := by decide +kernel
theorem dX4_read_30 : decode cX4_read 30 = .ok (.iconst 0, 1) := by decide +kernel
theorem dX4_read_31 : decode cX4_read 31 = .ok (.putfield 46, 3) := by decide +kernel
theorem dX4_read_34 : decode cX4_read 34 = .ok (.aload_n 0, 1) := by decide +kernel
theorem dX4_read_35 : decode cX4_read 35 = .ok (.iconst 0, 1) := by decide +kernel
theorem dX4_read_36 : decode cX4_read 36 = .ok (.putfield 22, 3) := by decide +kernel
theorem dX4_read_39 : decode cX4_read 39 = .ok (.aload_n 0, 1) := by decide +kernel
theorem dX4_read_40 : decode cX4_read 40 = .ok (.iconst (-1), 1) := by decide +kernel
theorem dX4_read_41 : decode cX4_read 41 = .ok (.putfield 26, 3) := by decide +kernel
theorem dX4_read_44 : decode cX4_read 44 = .ok (.aload_n 0, 1) := by decide +kernel
theorem dX4_read_45 : decode cX4_read 45 = .ok (.invokevirtual 50, 3) := by decide +kernel
theorem dX4_read_48 : decode cX4_read 48 = .ok (.iconst 0, 1) := by decide +kernel
theorem dX4_read_49 : decode cX4_read 49 = .ok (.istore_n 2, 1) := by decide +kernel
theorem dX4_read_50 : decode cX4_read 50 = .ok (.iload_n 2, 1) := by decide +kernel
theorem dX4_read_51 : decode cX4_read 51 = .ok (.sipush 900, 3) := by decide +kernel
theorem dX4_read_54 : decode cX4_read 54 = .ok (.if_icmp .gt 62, 3) := by decide +kernel
theorem dX4_read_57 : decode cX4_read 57 = .ok (.aload_n 0, 1) := by decide +kernel
theorem dX4_read_58 : decode cX4_read 58 = .ok (.invokevirtual 53, 3) := by decide +kernel
theorem dX4_read_61 : decode cX4_read 61 = .ok (.ifCond .eq 55, 3) := by decide +kernel
theorem dX4_read_64 : decode cX4_read 64 = .ok (.aload_n 0, 1) := by decide +kernel
theorem dX4_read_65 : decode cX4_read 65 = .ok (.getfield 46, 3) := by decide +kernel
theorem dX4_read_68 : decode cX4_read 68 = .ok (.ifCond .ne 48, 3) := by decide +kernel
theorem dX4_read_71 : decode cX4_read 71 = .ok (.aload_n 0, 1) := by decide +kernel
theorem dX4_read_72 : decode cX4_read 72 = .ok (.invokevirtual 53, 3) := by decide +kernel
theorem dX4_read_75 : decode cX4_read 75 = .ok (.sipush 301, 3) := by decide +kernel
theorem dX4_read_78 : decode cX4_read 78 = .ok (.if_icmp .ne 10, 3) := by decide +kernel
theorem dX4_read_81 : decode cX4_read 81 = .ok (.aload_n 0, 1) := by decide +kernel
theorem dX4_read_82 : decode cX4_read 82 = .ok (.invokevirtual 57, 3) := by decide +kernel
theorem dX4_read_85 : decode cX4_read 85 = .ok (.goto 25, 3) := by decide +kernel
theorem dX4_read_88 : decode cX4_read 88 = .ok (.aload_n 0, 1) := by decide +kernel
theorem dX4_read_89 : decode cX4_read 89 = .ok (.invokevirtual 53, 3) := by decide +kernel
theorem dX4_read_92 : decode cX4_read 92 = .ok (.sipush 302, 3) := by decide +kernel
theorem dX4_read_95 : decode cX4_read 95 = .ok (.if_icmp .ne 10, 3) := by decide +kernel
theorem dX4_read_98 : decode cX4_read 98 = .ok (.aload_n 0, 1) := by decide +kernel
theorem dX4_read_99 : decode cX4_read 99 = .ok (.invokevirtual 60, 3) := by decide +kernel
theorem dX4_read_102 : decode cX4_read 102 = .ok (.goto 8, 3) := by decide +kernel
theorem dX4_read_105 : decode cX4_read 105 = .ok (.aload_n 0, 1) := by decide +kernel
theorem dX4_read_106 : decode cX4_read 106 = .ok (.iconst 0, 1) := by decide +kernel
theorem dX4_read_107 : decode cX4_read 107 = .ok (.invokevirtual 63, 3) := by decide +kernel
theorem dX4_read_110 : decode cX4_read 110 = .ok (.iinc 2 1, 3) := by decide +kernel
theorem dX4_read_113 : decode cX4_read 113 = .ok (.goto (-63), 3) := by decide +kernel
theorem dX4_read_116 : decode cX4_read 116 = .ok (.aload_n 0, 1) := by decide +kernel
theorem dX4_read_117 : decode cX4_read 117 = .ok (.getfield 18, 3) := by decide +kernel
theorem dX4_read_120 : decode cX4_read 120 = .ok (.bipush 21, 2) := by decide +kernel
theorem dX4_read_122 : decode cX4_read 122 = .ok (.lconst 0, 1) := by decide +kernel
theorem dX4_read_123 : decode cX4_read 123 = .ok (.invokevirtual 67, 3) := by decide +kernel
theorem dX4_read_126 : decode cX4_read 126 = .ok (.pop, 1) := by decide +kernel
theorem dX4_read_127 : decode cX4_read 127 = .ok (.aload_n 0, 1) := by decide +kernel
theorem dX4_read_128 : decode cX4_read 128 = .ok (.getfield 22, 3) := by decide +kernel
theorem dX4_read_131 : decode cX4_read 131 = .ok (.ifCond .ne 17, 3) := by decide +kernel
theorem dX4_read_134 : decode cX4_read 134 = .ok (.new 71, 3) := by decide +kernel
theorem dX4_read_137 : decode cX4_read 137 = .ok (.dup, 1) := by decide +kernel
theorem dX4_read_138 : decode cX4_read 138 = .ok (.aload_n 0, 1) := by decide +kernel
theorem dX4_read_139 : decode cX4_read 139 = .ok (.getfield 18, 3) := by decide +kernel
theorem dX4_read_142 : decode cX4_read 142 = .ok (.invokespecial 73, 3) := by decide +kernel
theorem dX4_read_145 : decode cX4_read 145 = .ok (.goto 4, 3) := by decide +kernel
theorem dX4_read_148 : decode cX4_read 148 = .ok (.aconst_null, 1) := by decide +kernel
theorem dX4_read_149 : decode cX4_read 149 = .ok (.areturn, 1) := by decide +kernel
theorem dX4_kind_0 : decode cX4_kind 0 = .ok (.aload_n 0, 1) := by decide +kernel
theorem dX4_kind_1 : decode cX4_kind 1 = .ok (.getfield 46, 3) := by decide +kernel
theorem dX4_kind_4 : decode cX4_kind 4 = .ok (.ifCond .ne 17, 3) := by decide +kernel
theorem dX4_kind_7 : decode cX4_kind 7 = .ok (.aload_n 0, 1) := by decide +kernel
theorem dX4_kind_8 : decode cX4_kind 8 = .ok (.getfield 37, 3) := by decide +kernel
theorem dX4_kind_11 : decode cX4_kind 11 = .ok (.aload_n 0, 1) := by decide +kernel
theorem dX4_kind_12 : decode cX4_kind 12 = .ok (.getfield 9, 3) := by decide +kernel
theorem dX4_kind_15 : decode cX4_kind 15 = .ok (.getfield 76, 3) := by decide +kernel
theorem dX4_kind_18 : decode cX4_kind 18 = .ok (.if_icmp .lt 7, 3) := by decide +kernel
theorem dX4_kind_21 : decode cX4_kind 21 = .ok (.iconst 4, 1) := by decide +kernel
theorem dX4_kind_22 : decode cX4_kind 22 = .ok (.goto 15, 3) := by decide +kernel
theorem dX4_kind_25 : decode cX4_kind 25 = .ok (.aload_n 0, 1) := by decide +kernel
theorem dX4_kind_26 : decode cX4_kind 26 = .ok (.getfield 9, 3) := by decide +kernel
theorem dX4_kind_29 : decode cX4_kind 29 = .ok (.getfield 79, 3) := by decide +kernel
theorem dX4_kind_32 : decode cX4_kind 32 = .ok (.aload_n 0, 1) := by decide +kernel
theorem dX4_kind_33 : decode cX4_kind 33 = .ok (.getfield 37, 3) := by decide +kernel
theorem dX4_kind_36 : decode cX4_kind 36 = .ok (.iaload, 1) := by decide +kernel
theorem dX4_kind_37 : decode cX4_kind 37 = .ok (.ireturn, 1) := by decide +kernel
theorem dX4_place_0 : decode cX4_place 0 = .ok (.aload_n 0, 1) := by decide +kernel
theorem dX4_place_1 : decode cX4_place 1 = .ok (.getfield 37, 3) := by decide +kernel
theorem dX4_place_4 : decode cX4_place 4 = .ok (.aload_n 0, 1) := by decide +kernel
theorem dX4_place_5 : decode cX4_place 5 = .ok (.getfield 9, 3) := by decide +kernel
theorem dX4_place_8 : decode cX4_place 8 = .ok (.getfield 76, 3) := by decide +kernel
theorem dX4_place_11 : decode cX4_place 11 = .ok (.if_icmp .ge 18, 3) := by decide +kernel
theorem dX4_place_14 : decode cX4_place 14 = .ok (.aload_n 0, 1) := by decide +kernel
theorem dX4_place_15 : decode cX4_place 15 = .ok (.getfield 9, 3) := by decide +kernel
theorem dX4_place_18 : decode cX4_place 18 = .ok (.getfield 83, 3) := by decide +kernel
theorem dX4_place_21 : decode cX4_place 21 = .ok (.aload_n 0, 1) := by decide +kernel
theorem dX4_place_22 : decode cX4_place 22 = .ok (.getfield 37, 3) := by decide +kernel
theorem dX4_place_25 : decode cX4_place 25 = .ok (.iaload, 1) := by decide +kernel
theorem dX4_place_26 : decode cX4_place 26 = .ok (.goto 10, 3) := by decide +kernel
theorem dX4_place_29 : decode cX4_place 29 = .ok (.aload_n 0, 1) := by decide +kernel
theorem dX4_place_30 : decode cX4_place 30 = .ok (.getfield 9, 3) := by decide +kernel
theorem dX4_place_33 : decode cX4_place 33 = .ok (.getfield 86, 3) := by decide +kernel
theorem dX4_place_36 : decode cX4_place 36 = .ok (.ireturn, 1) := by decide +kernel
theorem dX4_content_0 : decode cX4_content 0 = .ok (.aload_n 0, 1) := by decide +kernel
theorem dX4_content_1 : decode cX4_content 1 = .ok (.getfield 37, 3) := by decide +kernel
theorem dX4_content_4 : decode cX4_content 4 = .ok (.aload_n 0, 1) := by decide +kernel
theorem dX4_content_5 : decode cX4_content 5 = .ok (.getfield 9, 3) := by decide +kernel
theorem dX4_content_8 : decode cX4_content 8 = .ok (.getfield 76, 3) := by decide +kernel
theorem dX4_content_11 : decode cX4_content 11 = .ok (.if_icmp .ge 18, 3) := by decide +kernel
theorem dX4_content_14 : decode cX4_content 14 = .ok (.aload_n 0, 1) := by decide +kernel
theorem dX4_content_15 : decode cX4_content 15 = .ok (.getfield 9, 3) := by decide +kernel
theorem dX4_content_18 : decode cX4_content 18 = .ok (.getfield 89, 3) := by decide +kernel
theorem dX4_content_21 : decode cX4_content 21 = .ok (.aload_n 0, 1) := by decide +kernel
theorem dX4_content_22 : decode cX4_content 22 = .ok (.getfield 37, 3) := by decide +kernel
theorem dX4_content_25 : decode cX4_content 25 = .ok (.laload, 1) := by decide +kernel
theorem dX4_content_26 : decode cX4_content 26 = .ok (.goto 4, 3) := by decide +kernel
theorem dX4_content_29 : decode cX4_content 29 = .ok (.lconst 0, 1) := by decide +kernel
theorem dX4_content_30 : decode cX4_content 30 = .ok (.lreturn, 1) := by decide +kernel
theorem dX4_reject_0 : decode cX4_reject 0 = .ok (.aload_n 0, 1) := by decide +kernel
theorem dX4_reject_1 : decode cX4_reject 1 = .ok (.getfield 46, 3) := by decide +kernel
theorem dX4_reject_4 : decode cX4_reject 4 = .ok (.ifCond .ne 53, 3) := by decide +kernel
theorem dX4_reject_7 : decode cX4_reject 7 = .ok (.aload_n 0, 1) := by decide +kernel
theorem dX4_reject_8 : decode cX4_reject 8 = .ok (.iconst 1, 1) := by decide +kernel
theorem dX4_reject_9 : decode cX4_reject 9 = .ok (.putfield 46, 3) := by decide +kernel
theorem dX4_reject_12 : decode cX4_reject 12 = .ok (.aload_n 0, 1) := by decide +kernel
theorem dX4_reject_13 : decode cX4_reject 13 = .ok (.iconst 1, 1) := by decide +kernel
theorem dX4_reject_14 : decode cX4_reject 14 = .ok (.putfield 22, 3) := by decide +kernel
theorem dX4_reject_17 : decode cX4_reject 17 = .ok (.aload_n 0, 1) := by decide +kernel
theorem dX4_reject_18 : decode cX4_reject 18 = .ok (.aload_n 0, 1) := by decide +kernel
theorem dX4_reject_19 : decode cX4_reject 19 = .ok (.getfield 37, 3) := by decide +kernel
theorem dX4_reject_22 : decode cX4_reject 22 = .ok (.aload_n 0, 1) := by decide +kernel
theorem dX4_reject_23 : decode cX4_reject 23 = .ok (.getfield 9, 3) := by decide +kernel
theorem dX4_reject_26 : decode cX4_reject 26 = .ok (.getfield 76, 3) := by decide +kernel
theorem dX4_reject_29 : decode cX4_reject 29 = .ok (.if_icmp .ge 18, 3) := by decide +kernel
theorem dX4_reject_32 : decode cX4_reject 32 = .ok (.aload_n 0, 1) := by decide +kernel
theorem dX4_reject_33 : decode cX4_reject 33 = .ok (.getfield 9, 3) := by decide +kernel
theorem dX4_reject_36 : decode cX4_reject 36 = .ok (.getfield 83, 3) := by decide +kernel
theorem dX4_reject_39 : decode cX4_reject 39 = .ok (.aload_n 0, 1) := by decide +kernel
theorem dX4_reject_40 : decode cX4_reject 40 = .ok (.getfield 37, 3) := by decide +kernel
theorem dX4_reject_43 : decode cX4_reject 43 = .ok (.iaload, 1) := by decide +kernel
theorem dX4_reject_44 : decode cX4_reject 44 = .ok (.goto 10, 3) := by decide +kernel
theorem dX4_reject_47 : decode cX4_reject 47 = .ok (.aload_n 0, 1) := by decide +kernel
theorem dX4_reject_48 : decode cX4_reject 48 = .ok (.getfield 9, 3) := by decide +kernel
theorem dX4_reject_51 : decode cX4_reject 51 = .ok (.getfield 86, 3) := by decide +kernel
theorem dX4_reject_54 : decode cX4_reject 54 = .ok (.putfield 26, 3) := by decide +kernel
theorem dX4_reject_57 : decode cX4_reject 57 = .ok (.return_, 1) := by decide +kernel
theorem dX4_note_0 : decode cX4_note 0 = .ok (.aload_n 0, 1) := by decide +kernel
theorem dX4_note_1 : decode cX4_note 1 = .ok (.getfield 22, 3) := by decide +kernel
theorem dX4_note_4 : decode cX4_note 4 = .ok (.ifCond .ne 13, 3) := by decide +kernel
theorem dX4_note_7 : decode cX4_note 7 = .ok (.aload_n 0, 1) := by decide +kernel
theorem dX4_note_8 : decode cX4_note 8 = .ok (.iload_n 1, 1) := by decide +kernel
theorem dX4_note_9 : decode cX4_note 9 = .ok (.putfield 22, 3) := by decide +kernel
theorem dX4_note_12 : decode cX4_note 12 = .ok (.aload_n 0, 1) := by decide +kernel
theorem dX4_note_13 : decode cX4_note 13 = .ok (.iload_n 2, 1) := by decide +kernel
theorem dX4_note_14 : decode cX4_note 14 = .ok (.putfield 26, 3) := by decide +kernel
theorem dX4_note_17 : decode cX4_note 17 = .ok (.return_, 1) := by decide +kernel
theorem dX4_take_0 : decode cX4_take 0 = .ok (.aload_n 0, 1) := by decide +kernel
theorem dX4_take_1 : decode cX4_take 1 = .ok (.invokevirtual 53, 3) := by decide +kernel
theorem dX4_take_4 : decode cX4_take 4 = .ok (.iload_n 1, 1) := by decide +kernel
theorem dX4_take_5 : decode cX4_take 5 = .ok (.if_icmp .eq 9, 3) := by decide +kernel
theorem dX4_take_8 : decode cX4_take 8 = .ok (.aload_n 0, 1) := by decide +kernel
theorem dX4_take_9 : decode cX4_take 9 = .ok (.invokevirtual 93, 3) := by decide +kernel
theorem dX4_take_12 : decode cX4_take 12 = .ok (.iconst 0, 1) := by decide +kernel
theorem dX4_take_13 : decode cX4_take 13 = .ok (.ireturn, 1) := by decide +kernel
theorem dX4_take_14 : decode cX4_take 14 = .ok (.aload_n 0, 1) := by decide +kernel
theorem dX4_take_15 : decode cX4_take 15 = .ok (.dup, 1) := by decide +kernel
theorem dX4_take_16 : decode cX4_take 16 = .ok (.getfield 37, 3) := by decide +kernel
theorem dX4_take_19 : decode cX4_take 19 = .ok (.iconst 1, 1) := by decide +kernel
theorem dX4_take_20 : decode cX4_take 20 = .ok (.iadd, 1) := by decide +kernel
theorem dX4_take_21 : decode cX4_take 21 = .ok (.putfield 37, 3) := by decide +kernel
theorem dX4_take_24 : decode cX4_take 24 = .ok (.iconst 1, 1) := by decide +kernel
theorem dX4_take_25 : decode cX4_take 25 = .ok (.ireturn, 1) := by decide +kernel
theorem dX4_readUnder_0 : decode cX4_readUnder 0 = .ok (.aload_n 0, 1) := by decide +kernel
theorem dX4_readUnder_1 : decode cX4_readUnder 1 = .ok (.invokevirtual 53, 3) := by decide +kernel
theorem dX4_readUnder_4 : decode cX4_readUnder 4 = .ok (.sipush 300, 3) := by decide +kernel
theorem dX4_readUnder_7 : decode cX4_readUnder 7 = .ok (.if_icmp .eq 4, 3) := by decide +kernel
theorem dX4_readUnder_10 : decode cX4_readUnder 10 = .ok (.return_, 1) := by decide +kernel
theorem dX4_readUnder_11 : decode cX4_readUnder 11 = .ok (.aload_n 0, 1) := by decide +kernel
theorem dX4_readUnder_12 : decode cX4_readUnder 12 = .ok (.dup, 1) := by decide +kernel
theorem dX4_readUnder_13 : decode cX4_readUnder 13 = .ok (.getfield 37, 3) := by decide +kernel
theorem dX4_readUnder_16 : decode cX4_readUnder 16 = .ok (.iconst 1, 1) := by decide +kernel
theorem dX4_readUnder_17 : decode cX4_readUnder 17 = .ok (.iadd, 1) := by decide +kernel
theorem dX4_readUnder_18 : decode cX4_readUnder 18 = .ok (.putfield 37, 3) := by decide +kernel
theorem dX4_readUnder_21 : decode cX4_readUnder 21 = .ok (.aload_n 0, 1) := by decide +kernel
theorem dX4_readUnder_22 : decode cX4_readUnder 22 = .ok (.invokevirtual 96, 3) := by decide +kernel
theorem dX4_readUnder_25 : decode cX4_readUnder 25 = .ok (.istore_n 1, 1) := by decide +kernel
theorem dX4_readUnder_26 : decode cX4_readUnder 26 = .ok (.aload_n 0, 1) := by decide +kernel
theorem dX4_readUnder_27 : decode cX4_readUnder 27 = .ok (.invokevirtual 99, 3) := by decide +kernel
theorem dX4_readUnder_30 : decode cX4_readUnder 30 = .ok (.lstore_n 2, 1) := by decide +kernel
theorem dX4_readUnder_31 : decode cX4_readUnder 31 = .ok (.aload_n 0, 1) := by decide +kernel
theorem dX4_readUnder_32 : decode cX4_readUnder 32 = .ok (.iconst 3, 1) := by decide +kernel
theorem dX4_readUnder_33 : decode cX4_readUnder 33 = .ok (.invokevirtual 103, 3) := by decide +kernel
theorem dX4_readUnder_36 : decode cX4_readUnder 36 = .ok (.ifCond .eq 41, 3) := by decide +kernel
theorem dX4_readUnder_39 : decode cX4_readUnder 39 = .ok (.aload_n 0, 1) := by decide +kernel
theorem dX4_readUnder_40 : decode cX4_readUnder 40 = .ok (.getfield 18, 3) := by decide +kernel
theorem dX4_readUnder_43 : decode cX4_readUnder 43 = .ok (.aload_n 0, 1) := by decide +kernel
theorem dX4_readUnder_44 : decode cX4_readUnder 44 = .ok (.lload_n 2, 1) := by decide +kernel
theorem dX4_readUnder_45 : decode cX4_readUnder 45 = .ok (.iload_n 1, 1) := by decide +kernel
theorem dX4_readUnder_46 : decode cX4_readUnder 46 = .ok (.invokevirtual 107, 3) := by decide +kernel
theorem dX4_readUnder_49 : decode cX4_readUnder 49 = .ok (.putfield 111, 3) := by decide +kernel
theorem dX4_readUnder_52 : decode cX4_readUnder 52 = .ok (.aload_n 0, 1) := by decide +kernel
theorem dX4_readUnder_53 : decode cX4_readUnder 53 = .ok (.getfield 18, 3) := by decide +kernel
theorem dX4_readUnder_56 : decode cX4_readUnder 56 = .ok (.bipush 16, 2) := by decide +kernel
theorem dX4_readUnder_58 : decode cX4_readUnder 58 = .ok (.aload_n 0, 1) := by decide +kernel
theorem dX4_readUnder_59 : decode cX4_readUnder 59 = .ok (.getfield 18, 3) := by decide +kernel
theorem dX4_readUnder_62 : decode cX4_readUnder 62 = .ok (.getfield 111, 3) := by decide +kernel
theorem dX4_readUnder_65 : decode cX4_readUnder 65 = .ok (.i2l, 1) := by decide +kernel
theorem dX4_readUnder_66 : decode cX4_readUnder 66 = .ok (.invokevirtual 67, 3) := by decide +kernel
theorem dX4_readUnder_69 : decode cX4_readUnder 69 = .ok (.pop, 1) := by decide +kernel
theorem dX4_readUnder_70 : decode cX4_readUnder 70 = .ok (.aload_n 0, 1) := by decide +kernel
theorem dX4_readUnder_71 : decode cX4_readUnder 71 = .ok (.bipush 59, 2) := by decide +kernel
theorem dX4_readUnder_73 : decode cX4_readUnder 73 = .ok (.invokevirtual 103, 3) := by decide +kernel
theorem dX4_readUnder_76 : decode cX4_readUnder 76 = .ok (.pop, 1) := by decide +kernel
theorem dX4_readUnder_77 : decode cX4_readUnder 77 = .ok (.return_, 1) := by decide +kernel
theorem dX4_leanOn_0 : decode cX4_leanOn 0 = .ok (.lload_n 1, 1) := by decide +kernel
theorem dX4_leanOn_1 : decode cX4_leanOn 1 = .ok (.invokestatic 114, 3) := by decide +kernel
theorem dX4_leanOn_4 : decode cX4_leanOn 4 = .ok (.istore 4, 2) := by decide +kernel
theorem dX4_leanOn_6 : decode cX4_leanOn 6 = .ok (.iload 4, 2) := by decide +kernel
theorem dX4_leanOn_8 : decode cX4_leanOn 8 = .ok (.iconst (-1), 1) := by decide +kernel
theorem dX4_leanOn_9 : decode cX4_leanOn 9 = .ok (.if_icmp .eq 12, 3) := by decide +kernel
theorem dX4_leanOn_12 : decode cX4_leanOn 12 = .ok (.iload 4, 2) := by decide +kernel
theorem dX4_leanOn_14 : decode cX4_leanOn 14 = .ok (.aload_n 0, 1) := by decide +kernel
theorem dX4_leanOn_15 : decode cX4_leanOn 15 = .ok (.getfield 40, 3) := by decide +kernel
theorem dX4_leanOn_18 : decode cX4_leanOn 18 = .ok (.if_icmp .ne 14, 3) := by decide +kernel
theorem dX4_leanOn_21 : decode cX4_leanOn 21 = .ok (.aload_n 0, 1) := by decide +kernel
theorem dX4_leanOn_22 : decode cX4_leanOn 22 = .ok (.iconst 3, 1) := by decide +kernel
theorem dX4_leanOn_23 : decode cX4_leanOn 23 = .ok (.iload_n 3, 1) := by decide +kernel
theorem dX4_leanOn_24 : decode cX4_leanOn 24 = .ok (.invokevirtual 118, 3) := by decide +kernel
theorem dX4_leanOn_27 : decode cX4_leanOn 27 = .ok (.aload_n 0, 1) := by decide +kernel
theorem dX4_leanOn_28 : decode cX4_leanOn 28 = .ok (.getfield 40, 3) := by decide +kernel
theorem dX4_leanOn_31 : decode cX4_leanOn 31 = .ok (.ireturn, 1) := by decide +kernel
theorem dX4_leanOn_32 : decode cX4_leanOn 32 = .ok (.aload_n 0, 1) := by decide +kernel
theorem dX4_leanOn_33 : decode cX4_leanOn 33 = .ok (.getfield 18, 3) := by decide +kernel
theorem dX4_leanOn_36 : decode cX4_leanOn 36 = .ok (.dup, 1) := by decide +kernel
theorem dX4_leanOn_37 : decode cX4_leanOn 37 = .ok (.getfield 122, 3) := by decide +kernel
theorem dX4_leanOn_40 : decode cX4_leanOn 40 = .ok (.iconst 1, 1) := by decide +kernel
theorem dX4_leanOn_41 : decode cX4_leanOn 41 = .ok (.iload 4, 2) := by decide +kernel
theorem dX4_leanOn_43 : decode cX4_leanOn 43 = .ok (.ishl, 1) := by decide +kernel
theorem dX4_leanOn_44 : decode cX4_leanOn 44 = .ok (.ior, 1) := by decide +kernel
theorem dX4_leanOn_45 : decode cX4_leanOn 45 = .ok (.putfield 122, 3) := by decide +kernel
theorem dX4_leanOn_48 : decode cX4_leanOn 48 = .ok (.iload 4, 2) := by decide +kernel
theorem dX4_leanOn_50 : decode cX4_leanOn 50 = .ok (.ireturn, 1) := by decide +kernel
theorem dX4_takeNewName_0 : decode cX4_takeNewName 0 = .ok (.aload_n 0, 1) := by decide +kernel
theorem dX4_takeNewName_1 : decode cX4_takeNewName 1 = .ok (.invokevirtual 96, 3) := by decide +kernel
theorem dX4_takeNewName_4 : decode cX4_takeNewName 4 = .ok (.istore_n 1, 1) := by decide +kernel
theorem dX4_takeNewName_5 : decode cX4_takeNewName 5 = .ok (.aload_n 0, 1) := by decide +kernel
theorem dX4_takeNewName_6 : decode cX4_takeNewName 6 = .ok (.invokevirtual 99, 3) := by decide +kernel
theorem dX4_takeNewName_9 : decode cX4_takeNewName 9 = .ok (.lstore_n 2, 1) := by decide +kernel
theorem dX4_takeNewName_10 : decode cX4_takeNewName 10 = .ok (.aload_n 0, 1) := by decide +kernel
theorem dX4_takeNewName_11 : decode cX4_takeNewName 11 = .ok (.iconst 2, 1) := by decide +kernel
theorem dX4_takeNewName_12 : decode cX4_takeNewName 12 = .ok (.invokevirtual 103, 3) := by decide +kernel
theorem dX4_takeNewName_15 : decode cX4_takeNewName 15 = .ok (.ifCond .eq 20, 3) := by decide +kernel
theorem dX4_takeNewName_18 : decode cX4_takeNewName 18 = .ok (.aload_n 0, 1) := by decide +kernel
theorem dX4_takeNewName_19 : decode cX4_takeNewName 19 = .ok (.getfield 18, 3) := by decide +kernel
theorem dX4_takeNewName_22 : decode cX4_takeNewName 22 = .ok (.lload_n 2, 1) := by decide +kernel
theorem dX4_takeNewName_23 : decode cX4_takeNewName 23 = .ok (.invokevirtual 125, 3) := by decide +kernel
theorem dX4_takeNewName_26 : decode cX4_takeNewName 26 = .ok (.ifCond .eq 9, 3) := by decide +kernel
theorem dX4_takeNewName_29 : decode cX4_takeNewName 29 = .ok (.aload_n 0, 1) := by decide +kernel
theorem dX4_takeNewName_30 : decode cX4_takeNewName 30 = .ok (.iconst 2, 1) := by decide +kernel
theorem dX4_takeNewName_31 : decode cX4_takeNewName 31 = .ok (.iload_n 1, 1) := by decide +kernel
theorem dX4_takeNewName_32 : decode cX4_takeNewName 32 = .ok (.invokevirtual 118, 3) := by decide +kernel
theorem dX4_takeNewName_35 : decode cX4_takeNewName 35 = .ok (.lload_n 2, 1) := by decide +kernel
theorem dX4_takeNewName_36 : decode cX4_takeNewName 36 = .ok (.lreturn, 1) := by decide +kernel
theorem dX4_takeNumber_0 : decode cX4_takeNumber 0 = .ok (.aload_n 0, 1) := by decide +kernel
theorem dX4_takeNumber_1 : decode cX4_takeNumber 1 = .ok (.invokevirtual 96, 3) := by decide +kernel
theorem dX4_takeNumber_4 : decode cX4_takeNumber 4 = .ok (.istore_n 3, 1) := by decide +kernel
theorem dX4_takeNumber_5 : decode cX4_takeNumber 5 = .ok (.aload_n 0, 1) := by decide +kernel
theorem dX4_takeNumber_6 : decode cX4_takeNumber 6 = .ok (.invokevirtual 99, 3) := by decide +kernel
theorem dX4_takeNumber_9 : decode cX4_takeNumber 9 = .ok (.lstore 4, 2) := by decide +kernel
theorem dX4_takeNumber_11 : decode cX4_takeNumber 11 = .ok (.aload_n 0, 1) := by decide +kernel
theorem dX4_takeNumber_12 : decode cX4_takeNumber 12 = .ok (.iconst 3, 1) := by decide +kernel
theorem dX4_takeNumber_13 : decode cX4_takeNumber 13 = .ok (.invokevirtual 103, 3) := by decide +kernel
theorem dX4_takeNumber_16 : decode cX4_takeNumber 16 = .ok (.ifCond .eq 25, 3) := by decide +kernel
theorem dX4_takeNumber_19 : decode cX4_takeNumber 19 = .ok (.lload 4, 2) := by decide +kernel
theorem dX4_takeNumber_21 : decode cX4_takeNumber 21 = .ok (.iload_n 1, 1) := by decide +kernel
theorem dX4_takeNumber_22 : decode cX4_takeNumber 22 = .ok (.i2l, 1) := by decide +kernel
theorem dX4_takeNumber_23 : decode cX4_takeNumber 23 = .ok (.lcmp, 1) := by decide +kernel
theorem dX4_takeNumber_24 : decode cX4_takeNumber 24 = .ok (.ifCond .lt 11, 3) := by decide +kernel
theorem dX4_takeNumber_27 : decode cX4_takeNumber 27 = .ok (.lload 4, 2) := by decide +kernel
theorem dX4_takeNumber_29 : decode cX4_takeNumber 29 = .ok (.iload_n 2, 1) := by decide +kernel
theorem dX4_takeNumber_30 : decode cX4_takeNumber 30 = .ok (.i2l, 1) := by decide +kernel
theorem dX4_takeNumber_31 : decode cX4_takeNumber 31 = .ok (.lcmp, 1) := by decide +kernel
theorem dX4_takeNumber_32 : decode cX4_takeNumber 32 = .ok (.ifCond .le 9, 3) := by decide +kernel
theorem dX4_takeNumber_35 : decode cX4_takeNumber 35 = .ok (.aload_n 0, 1) := by decide +kernel
theorem dX4_takeNumber_36 : decode cX4_takeNumber 36 = .ok (.iconst 4, 1) := by decide +kernel
theorem dX4_takeNumber_37 : decode cX4_takeNumber 37 = .ok (.iload_n 3, 1) := by decide +kernel
theorem dX4_takeNumber_38 : decode cX4_takeNumber 38 = .ok (.invokevirtual 118, 3) := by decide +kernel
theorem dX4_takeNumber_41 : decode cX4_takeNumber 41 = .ok (.lload 4, 2) := by decide +kernel
theorem dX4_takeNumber_43 : decode cX4_takeNumber 43 = .ok (.lreturn, 1) := by decide +kernel
theorem dX4_readConst_0 : decode cX4_readConst 0 = .ok (.aload_n 0, 1) := by decide +kernel
theorem dX4_readConst_1 : decode cX4_readConst 1 = .ok (.getfield 18, 3) := by decide +kernel
theorem dX4_readConst_4 : decode cX4_readConst 4 = .ok (.getfield 129, 3) := by decide +kernel
theorem dX4_readConst_7 : decode cX4_readConst 7 = .ok (.bipush 8, 2) := by decide +kernel
theorem dX4_readConst_9 : decode cX4_readConst 9 = .ok (.if_icmp .lt 12, 3) := by decide +kernel
theorem dX4_readConst_12 : decode cX4_readConst 12 = .ok (.aload_n 0, 1) := by decide +kernel
theorem dX4_readConst_13 : decode cX4_readConst 13 = .ok (.iconst 5, 1) := by decide +kernel
theorem dX4_readConst_14 : decode cX4_readConst 14 = .ok (.aload_n 0, 1) := by decide +kernel
theorem dX4_readConst_15 : decode cX4_readConst 15 = .ok (.invokevirtual 96, 3) := by decide +kernel
theorem dX4_readConst_18 : decode cX4_readConst 18 = .ok (.invokevirtual 118, 3) := by decide +kernel
theorem dX4_readConst_21 : decode cX4_readConst 21 = .ok (.aload_n 0, 1) := by decide +kernel
theorem dX4_readConst_22 : decode cX4_readConst 22 = .ok (.dup, 1) := by decide +kernel
theorem dX4_readConst_23 : decode cX4_readConst 23 = .ok (.getfield 37, 3) := by decide +kernel
theorem dX4_readConst_26 : decode cX4_readConst 26 = .ok (.iconst 1, 1) := by decide +kernel
theorem dX4_readConst_27 : decode cX4_readConst 27 = .ok (.iadd, 1) := by decide +kernel
theorem dX4_readConst_28 : decode cX4_readConst 28 = .ok (.putfield 37, 3) := by decide +kernel
theorem dX4_readConst_31 : decode cX4_readConst 31 = .ok (.aload_n 0, 1) := by decide +kernel
theorem dX4_readConst_32 : decode cX4_readConst 32 = .ok (.invokevirtual 132, 3) := by decide +kernel
theorem dX4_readConst_35 : decode cX4_readConst 35 = .ok (.lstore_n 1, 1) := by decide +kernel
theorem dX4_readConst_36 : decode cX4_readConst 36 = .ok (.aload_n 0, 1) := by decide +kernel
theorem dX4_readConst_37 : decode cX4_readConst 37 = .ok (.bipush 61, 2) := by decide +kernel
theorem dX4_readConst_39 : decode cX4_readConst 39 = .ok (.invokevirtual 103, 3) := by decide +kernel
theorem dX4_readConst_42 : decode cX4_readConst 42 = .ok (.pop, 1) := by decide +kernel
theorem dX4_readConst_43 : decode cX4_readConst 43 = .ok (.aload_n 0, 1) := by decide +kernel
theorem dX4_readConst_44 : decode cX4_readConst 44 = .ok (.getfield 18, 3) := by decide +kernel
theorem dX4_readConst_47 : decode cX4_readConst 47 = .ok (.bipush 14, 2) := by decide +kernel
theorem dX4_readConst_49 : decode cX4_readConst 49 = .ok (.lconst 0, 1) := by decide +kernel
theorem dX4_readConst_50 : decode cX4_readConst 50 = .ok (.invokevirtual 67, 3) := by decide +kernel
theorem dX4_readConst_53 : decode cX4_readConst 53 = .ok (.istore_n 3, 1) := by decide +kernel
theorem dX4_readConst_54 : decode cX4_readConst 54 = .ok (.aload_n 0, 1) := by decide +kernel
theorem dX4_readConst_55 : decode cX4_readConst 55 = .ok (.getfield 18, 3) := by decide +kernel
theorem dX4_readConst_58 : decode cX4_readConst 58 = .ok (.lload_n 1, 1) := by decide +kernel
theorem dX4_readConst_59 : decode cX4_readConst 59 = .ok (.invokevirtual 135, 3) := by decide +kernel
theorem dX4_readConst_62 : decode cX4_readConst 62 = .ok (.aload_n 0, 1) := by decide +kernel
theorem dX4_readConst_63 : decode cX4_readConst 63 = .ok (.invokevirtual 139, 3) := by decide +kernel
theorem dX4_readConst_66 : decode cX4_readConst 66 = .ok (.aload_n 0, 1) := by decide +kernel
theorem dX4_readConst_67 : decode cX4_readConst 67 = .ok (.getfield 18, 3) := by decide +kernel
theorem dX4_readConst_70 : decode cX4_readConst 70 = .ok (.bipush 20, 2) := by decide +kernel
theorem dX4_readConst_72 : decode cX4_readConst 72 = .ok (.lconst 0, 1) := by decide +kernel
theorem dX4_readConst_73 : decode cX4_readConst 73 = .ok (.invokevirtual 67, 3) := by decide +kernel
theorem dX4_readConst_76 : decode cX4_readConst 76 = .ok (.pop, 1) := by decide +kernel
theorem dX4_readConst_77 : decode cX4_readConst 77 = .ok (.aload_n 0, 1) := by decide +kernel
theorem dX4_readConst_78 : decode cX4_readConst 78 = .ok (.getfield 18, 3) := by decide +kernel
theorem dX4_readConst_81 : decode cX4_readConst 81 = .ok (.iload_n 3, 1) := by decide +kernel
theorem dX4_readConst_82 : decode cX4_readConst 82 = .ok (.invokevirtual 142, 3) := by decide +kernel
theorem dX4_readConst_85 : decode cX4_readConst 85 = .ok (.aload_n 0, 1) := by decide +kernel
theorem dX4_readConst_86 : decode cX4_readConst 86 = .ok (.bipush 59, 2) := by decide +kernel
theorem dX4_readConst_88 : decode cX4_readConst 88 = .ok (.invokevirtual 103, 3) := by decide +kernel
theorem dX4_readConst_91 : decode cX4_readConst 91 = .ok (.pop, 1) := by decide +kernel
theorem dX4_readConst_92 : decode cX4_readConst 92 = .ok (.return_, 1) := by decide +kernel
theorem dX4_readConstantSum_0 : decode cX4_readConstantSum 0 = .ok (.iconst (-1), 1) := by decide +kernel
theorem dX4_readConstantSum_1 : decode cX4_readConstantSum 1 = .ok (.istore_n 1, 1) := by decide +kernel
theorem dX4_readConstantSum_2 : decode cX4_readConstantSum 2 = .ok (.iconst 0, 1) := by decide +kernel
theorem dX4_readConstantSum_3 : decode cX4_readConstantSum 3 = .ok (.istore_n 2, 1) := by decide +kernel
theorem dX4_readConstantSum_4 : decode cX4_readConstantSum 4 = .ok (.iload_n 2, 1) := by decide +kernel
theorem dX4_readConstantSum_5 : decode cX4_readConstantSum 5 = .ok (.sipush 900, 3) := by decide +kernel
theorem dX4_readConstantSum_8 : decode cX4_readConstantSum 8 = .ok (.if_icmp .gt 123, 3) := by decide +kernel
theorem dX4_readConstantSum_11 : decode cX4_readConstantSum 11 = .ok (.aload_n 0, 1) := by decide +kernel
theorem dX4_readConstantSum_12 : decode cX4_readConstantSum 12 = .ok (.invokevirtual 145, 3) := by decide +kernel
theorem dX4_readConstantSum_15 : decode cX4_readConstantSum 15 = .ok (.iconst 0, 1) := by decide +kernel
theorem dX4_readConstantSum_16 : decode cX4_readConstantSum 16 = .ok (.istore_n 3, 1) := by decide +kernel
theorem dX4_readConstantSum_17 : decode cX4_readConstantSum 17 = .ok (.iload_n 3, 1) := by decide +kernel
theorem dX4_readConstantSum_18 : decode cX4_readConstantSum 18 = .ok (.sipush 900, 3) := by decide +kernel
theorem dX4_readConstantSum_21 : decode cX4_readConstantSum 21 = .ok (.if_icmp .gt 43, 3) := by decide +kernel
theorem dX4_readConstantSum_24 : decode cX4_readConstantSum 24 = .ok (.aload_n 0, 1) := by decide +kernel
theorem dX4_readConstantSum_25 : decode cX4_readConstantSum 25 = .ok (.invokevirtual 53, 3) := by decide +kernel
theorem dX4_readConstantSum_28 : decode cX4_readConstantSum 28 = .ok (.bipush 42, 2) := by decide +kernel
theorem dX4_readConstantSum_30 : decode cX4_readConstantSum 30 = .ok (.if_icmp .ne 34, 3) := by decide +kernel
theorem dX4_readConstantSum_33 : decode cX4_readConstantSum 33 = .ok (.aload_n 0, 1) := by decide +kernel
theorem dX4_readConstantSum_34 : decode cX4_readConstantSum 34 = .ok (.dup, 1) := by decide +kernel
theorem dX4_readConstantSum_35 : decode cX4_readConstantSum 35 = .ok (.getfield 37, 3) := by decide +kernel
theorem dX4_readConstantSum_38 : decode cX4_readConstantSum 38 = .ok (.iconst 1, 1) := by decide +kernel
theorem dX4_readConstantSum_39 : decode cX4_readConstantSum 39 = .ok (.iadd, 1) := by decide +kernel
theorem dX4_readConstantSum_40 : decode cX4_readConstantSum 40 = .ok (.putfield 37, 3) := by decide +kernel
theorem dX4_readConstantSum_43 : decode cX4_readConstantSum 43 = .ok (.aload_n 0, 1) := by decide +kernel
theorem dX4_readConstantSum_44 : decode cX4_readConstantSum 44 = .ok (.invokevirtual 145, 3) := by decide +kernel
theorem dX4_readConstantSum_47 : decode cX4_readConstantSum 47 = .ok (.aload_n 0, 1) := by decide +kernel
theorem dX4_readConstantSum_48 : decode cX4_readConstantSum 48 = .ok (.getfield 18, 3) := by decide +kernel
theorem dX4_readConstantSum_51 : decode cX4_readConstantSum 51 = .ok (.bipush 8, 2) := by decide +kernel
theorem dX4_readConstantSum_53 : decode cX4_readConstantSum 53 = .ok (.lconst 0, 1) := by decide +kernel
theorem dX4_readConstantSum_54 : decode cX4_readConstantSum 54 = .ok (.invokevirtual 67, 3) := by decide +kernel
theorem dX4_readConstantSum_57 : decode cX4_readConstantSum 57 = .ok (.pop, 1) := by decide +kernel
theorem dX4_readConstantSum_58 : decode cX4_readConstantSum 58 = .ok (.iinc 3 1, 3) := by decide +kernel
theorem dX4_readConstantSum_61 : decode cX4_readConstantSum 61 = .ok (.goto (-44), 3) := by decide +kernel
theorem dX4_readConstantSum_64 : decode cX4_readConstantSum 64 = .ok (.iload_n 1, 1) := by decide +kernel
theorem dX4_readConstantSum_65 : decode cX4_readConstantSum 65 = .ok (.iconst (-1), 1) := by decide +kernel
theorem dX4_readConstantSum_66 : decode cX4_readConstantSum 66 = .ok (.if_icmp .eq 13, 3) := by decide +kernel
theorem dX4_readConstantSum_69 : decode cX4_readConstantSum 69 = .ok (.aload_n 0, 1) := by decide +kernel
theorem dX4_readConstantSum_70 : decode cX4_readConstantSum 70 = .ok (.getfield 18, 3) := by decide +kernel
theorem dX4_readConstantSum_73 : decode cX4_readConstantSum 73 = .ok (.iload_n 1, 1) := by decide +kernel
theorem dX4_readConstantSum_74 : decode cX4_readConstantSum 74 = .ok (.lconst 0, 1) := by decide +kernel
theorem dX4_readConstantSum_75 : decode cX4_readConstantSum 75 = .ok (.invokevirtual 67, 3) := by decide +kernel
theorem dX4_readConstantSum_78 : decode cX4_readConstantSum 78 = .ok (.pop, 1) := by decide +kernel
theorem dX4_readConstantSum_79 : decode cX4_readConstantSum 79 = .ok (.aload_n 0, 1) := by decide +kernel
theorem dX4_readConstantSum_80 : decode cX4_readConstantSum 80 = .ok (.invokevirtual 53, 3) := by decide +kernel
theorem dX4_readConstantSum_83 : decode cX4_readConstantSum 83 = .ok (.bipush 43, 2) := by decide +kernel
theorem dX4_readConstantSum_85 : decode cX4_readConstantSum 85 = .ok (.if_icmp .eq 13, 3) := by decide +kernel
theorem dX4_readConstantSum_88 : decode cX4_readConstantSum 88 = .ok (.aload_n 0, 1) := by decide +kernel
theorem dX4_readConstantSum_89 : decode cX4_readConstantSum 89 = .ok (.invokevirtual 53, 3) := by decide +kernel
theorem dX4_readConstantSum_92 : decode cX4_readConstantSum 92 = .ok (.bipush 45, 2) := by decide +kernel
theorem dX4_readConstantSum_94 : decode cX4_readConstantSum 94 = .ok (.if_icmp .eq 4, 3) := by decide +kernel
theorem dX4_readConstantSum_97 : decode cX4_readConstantSum 97 = .ok (.return_, 1) := by decide +kernel
theorem dX4_readConstantSum_98 : decode cX4_readConstantSum 98 = .ok (.aload_n 0, 1) := by decide +kernel
theorem dX4_readConstantSum_99 : decode cX4_readConstantSum 99 = .ok (.invokevirtual 53, 3) := by decide +kernel
theorem dX4_readConstantSum_102 : decode cX4_readConstantSum 102 = .ok (.bipush 43, 2) := by decide +kernel
theorem dX4_readConstantSum_104 : decode cX4_readConstantSum 104 = .ok (.if_icmp .ne 8, 3) := by decide +kernel
theorem dX4_readConstantSum_107 : decode cX4_readConstantSum 107 = .ok (.bipush 6, 2) := by decide +kernel
theorem dX4_readConstantSum_109 : decode cX4_readConstantSum 109 = .ok (.goto 5, 3) := by decide +kernel
theorem dX4_readConstantSum_112 : decode cX4_readConstantSum 112 = .ok (.bipush 7, 2) := by decide +kernel
theorem dX4_readConstantSum_114 : decode cX4_readConstantSum 114 = .ok (.istore_n 1, 1) := by decide +kernel
theorem dX4_readConstantSum_115 : decode cX4_readConstantSum 115 = .ok (.aload_n 0, 1) := by decide +kernel
theorem dX4_readConstantSum_116 : decode cX4_readConstantSum 116 = .ok (.dup, 1) := by decide +kernel
theorem dX4_readConstantSum_117 : decode cX4_readConstantSum 117 = .ok (.getfield 37, 3) := by decide +kernel
theorem dX4_readConstantSum_120 : decode cX4_readConstantSum 120 = .ok (.iconst 1, 1) := by decide +kernel
theorem dX4_readConstantSum_121 : decode cX4_readConstantSum 121 = .ok (.iadd, 1) := by decide +kernel
theorem dX4_readConstantSum_122 : decode cX4_readConstantSum 122 = .ok (.putfield 37, 3) := by decide +kernel
theorem dX4_readConstantSum_125 : decode cX4_readConstantSum 125 = .ok (.iinc 2 1, 3) := by decide +kernel
theorem dX4_readConstantSum_128 : decode cX4_readConstantSum 128 = .ok (.goto (-124), 3) := by decide +kernel
theorem dX4_readConstantSum_131 : decode cX4_readConstantSum 131 = .ok (.return_, 1) := by decide +kernel
theorem dX4_readConstantOperand_0 : decode cX4_readConstantOperand 0 = .ok (.aload_n 0, 1) := by decide +kernel
theorem dX4_readConstantOperand_1 : decode cX4_readConstantOperand 1 = .ok (.invokevirtual 148, 3) := by decide +kernel
theorem dX4_readConstantOperand_4 : decode cX4_readConstantOperand 4 = .ok (.istore_n 1, 1) := by decide +kernel
theorem dX4_readConstantOperand_5 : decode cX4_readConstantOperand 5 = .ok (.aload_n 0, 1) := by decide +kernel
theorem dX4_readConstantOperand_6 : decode cX4_readConstantOperand 6 = .ok (.invokevirtual 53, 3) := by decide +kernel
theorem dX4_readConstantOperand_9 : decode cX4_readConstantOperand 9 = .ok (.iconst 3, 1) := by decide +kernel
theorem dX4_readConstantOperand_10 : decode cX4_readConstantOperand 10 = .ok (.if_icmp .ne 21, 3) := by decide +kernel
theorem dX4_readConstantOperand_13 : decode cX4_readConstantOperand 13 = .ok (.aload_n 0, 1) := by decide +kernel
theorem dX4_readConstantOperand_14 : decode cX4_readConstantOperand 14 = .ok (.invokevirtual 152, 3) := by decide +kernel
theorem dX4_readConstantOperand_17 : decode cX4_readConstantOperand 17 = .ok (.istore_n 2, 1) := by decide +kernel
theorem dX4_readConstantOperand_18 : decode cX4_readConstantOperand 18 = .ok (.iload_n 2, 1) := by decide +kernel
theorem dX4_readConstantOperand_19 : decode cX4_readConstantOperand 19 = .ok (.iconst (-1), 1) := by decide +kernel
theorem dX4_readConstantOperand_20 : decode cX4_readConstantOperand 20 = .ok (.if_icmp .eq 8, 3) := by decide +kernel
theorem dX4_readConstantOperand_23 : decode cX4_readConstantOperand 23 = .ok (.aload_n 0, 1) := by decide +kernel
theorem dX4_readConstantOperand_24 : decode cX4_readConstantOperand 24 = .ok (.iload_n 2, 1) := by decide +kernel
theorem dX4_readConstantOperand_25 : decode cX4_readConstantOperand 25 = .ok (.invokevirtual 155, 3) := by decide +kernel
theorem dX4_readConstantOperand_28 : decode cX4_readConstantOperand 28 = .ok (.goto 11, 3) := by decide +kernel
theorem dX4_readConstantOperand_31 : decode cX4_readConstantOperand 31 = .ok (.aload_n 0, 1) := by decide +kernel
theorem dX4_readConstantOperand_32 : decode cX4_readConstantOperand 32 = .ok (.aload_n 0, 1) := by decide +kernel
theorem dX4_readConstantOperand_33 : decode cX4_readConstantOperand 33 = .ok (.getfield 40, 3) := by decide +kernel
theorem dX4_readConstantOperand_36 : decode cX4_readConstantOperand 36 = .ok (.invokevirtual 155, 3) := by decide +kernel
theorem dX4_readConstantOperand_39 : decode cX4_readConstantOperand 39 = .ok (.iload_n 1, 1) := by decide +kernel
theorem dX4_readConstantOperand_40 : decode cX4_readConstantOperand 40 = .ok (.ifCond .eq 13, 3) := by decide +kernel
theorem dX4_readConstantOperand_43 : decode cX4_readConstantOperand 43 = .ok (.aload_n 0, 1) := by decide +kernel
theorem dX4_readConstantOperand_44 : decode cX4_readConstantOperand 44 = .ok (.getfield 18, 3) := by decide +kernel
theorem dX4_readConstantOperand_47 : decode cX4_readConstantOperand 47 = .ok (.iconst 5, 1) := by decide +kernel
theorem dX4_readConstantOperand_48 : decode cX4_readConstantOperand 48 = .ok (.lconst 0, 1) := by decide +kernel
theorem dX4_readConstantOperand_49 : decode cX4_readConstantOperand 49 = .ok (.invokevirtual 67, 3) := by decide +kernel
theorem dX4_readConstantOperand_52 : decode cX4_readConstantOperand 52 = .ok (.pop, 1) := by decide +kernel
theorem dX4_readConstantOperand_53 : decode cX4_readConstantOperand 53 = .ok (.return_, 1) := by decide +kernel
theorem dX4_readConstName_0 : decode cX4_readConstName 0 = .ok (.aload_n 0, 1) := by decide +kernel
theorem dX4_readConstName_1 : decode cX4_readConstName 1 = .ok (.invokevirtual 99, 3) := by decide +kernel
theorem dX4_readConstName_4 : decode cX4_readConstName 4 = .ok (.lstore_n 2, 1) := by decide +kernel
theorem dX4_readConstName_5 : decode cX4_readConstName 5 = .ok (.aload_n 0, 1) := by decide +kernel
theorem dX4_readConstName_6 : decode cX4_readConstName 6 = .ok (.iconst 2, 1) := by decide +kernel
theorem dX4_readConstName_7 : decode cX4_readConstName 7 = .ok (.invokevirtual 103, 3) := by decide +kernel
theorem dX4_readConstName_10 : decode cX4_readConstName 10 = .ok (.ifCond .eq 13, 3) := by decide +kernel
theorem dX4_readConstName_13 : decode cX4_readConstName 13 = .ok (.aload_n 0, 1) := by decide +kernel
theorem dX4_readConstName_14 : decode cX4_readConstName 14 = .ok (.getfield 18, 3) := by decide +kernel
theorem dX4_readConstName_17 : decode cX4_readConstName 17 = .ok (.iconst 3, 1) := by decide +kernel
theorem dX4_readConstName_18 : decode cX4_readConstName 18 = .ok (.iload_n 1, 1) := by decide +kernel
theorem dX4_readConstName_19 : decode cX4_readConstName 19 = .ok (.lload_n 2, 1) := by decide +kernel
theorem dX4_readConstName_20 : decode cX4_readConstName 20 = .ok (.invokevirtual 158, 3) := by decide +kernel
theorem dX4_readConstName_23 : decode cX4_readConstName 23 = .ok (.return_, 1) := by decide +kernel
theorem dX4_takeMinus_0 : decode cX4_takeMinus 0 = .ok (.aload_n 0, 1) := by decide +kernel
theorem dX4_takeMinus_1 : decode cX4_takeMinus 1 = .ok (.invokevirtual 53, 3) := by decide +kernel
theorem dX4_takeMinus_4 : decode cX4_takeMinus 4 = .ok (.bipush 45, 2) := by decide +kernel
theorem dX4_takeMinus_6 : decode cX4_takeMinus 6 = .ok (.if_icmp .eq 5, 3) := by decide +kernel
theorem dX4_takeMinus_9 : decode cX4_takeMinus 9 = .ok (.iconst 0, 1) := by decide +kernel
theorem dX4_takeMinus_10 : decode cX4_takeMinus 10 = .ok (.ireturn, 1) := by decide +kernel
theorem dX4_takeMinus_11 : decode cX4_takeMinus 11 = .ok (.aload_n 0, 1) := by decide +kernel
theorem dX4_takeMinus_12 : decode cX4_takeMinus 12 = .ok (.dup, 1) := by decide +kernel
theorem dX4_takeMinus_13 : decode cX4_takeMinus 13 = .ok (.getfield 37, 3) := by decide +kernel
theorem dX4_takeMinus_16 : decode cX4_takeMinus 16 = .ok (.iconst 1, 1) := by decide +kernel
theorem dX4_takeMinus_17 : decode cX4_takeMinus 17 = .ok (.iadd, 1) := by decide +kernel
theorem dX4_takeMinus_18 : decode cX4_takeMinus 18 = .ok (.putfield 37, 3) := by decide +kernel
theorem dX4_takeMinus_21 : decode cX4_takeMinus 21 = .ok (.iconst 1, 1) := by decide +kernel
theorem dX4_takeMinus_22 : decode cX4_takeMinus 22 = .ok (.ireturn, 1) := by decide +kernel
theorem dX4_readNumberOrYear_0 : decode cX4_readNumberOrYear 0 = .ok (.aload_n 0, 1) := by decide +kernel
theorem dX4_readNumberOrYear_1 : decode cX4_readNumberOrYear 1 = .ok (.invokevirtual 96, 3) := by decide +kernel
theorem dX4_readNumberOrYear_4 : decode cX4_readNumberOrYear 4 = .ok (.istore_n 1, 1) := by decide +kernel
theorem dX4_readNumberOrYear_5 : decode cX4_readNumberOrYear 5 = .ok (.aload_n 0, 1) := by decide +kernel
theorem dX4_readNumberOrYear_6 : decode cX4_readNumberOrYear 6 = .ok (.invokevirtual 99, 3) := by decide +kernel
theorem dX4_readNumberOrYear_9 : decode cX4_readNumberOrYear 9 = .ok (.lstore_n 2, 1) := by decide +kernel
theorem dX4_readNumberOrYear_10 : decode cX4_readNumberOrYear 10 = .ok (.aload_n 0, 1) := by decide +kernel
theorem dX4_readNumberOrYear_11 : decode cX4_readNumberOrYear 11 = .ok (.dup, 1) := by decide +kernel
theorem dX4_readNumberOrYear_12 : decode cX4_readNumberOrYear 12 = .ok (.getfield 37, 3) := by decide +kernel
theorem dX4_readNumberOrYear_15 : decode cX4_readNumberOrYear 15 = .ok (.iconst 1, 1) := by decide +kernel
theorem dX4_readNumberOrYear_16 : decode cX4_readNumberOrYear 16 = .ok (.iadd, 1) := by decide +kernel
theorem dX4_readNumberOrYear_17 : decode cX4_readNumberOrYear 17 = .ok (.putfield 37, 3) := by decide +kernel
theorem dX4_readNumberOrYear_20 : decode cX4_readNumberOrYear 20 = .ok (.aload_n 0, 1) := by decide +kernel
theorem dX4_readNumberOrYear_21 : decode cX4_readNumberOrYear 21 = .ok (.invokevirtual 53, 3) := by decide +kernel
theorem dX4_readNumberOrYear_24 : decode cX4_readNumberOrYear 24 = .ok (.bipush 46, 2) := by decide +kernel
theorem dX4_readNumberOrYear_26 : decode cX4_readNumberOrYear 26 = .ok (.if_icmp .eq 15, 3) := by decide +kernel
theorem dX4_readNumberOrYear_29 : decode cX4_readNumberOrYear 29 = .ok (.aload_n 0, 1) := by decide +kernel
theorem dX4_readNumberOrYear_30 : decode cX4_readNumberOrYear 30 = .ok (.getfield 18, 3) := by decide +kernel
theorem dX4_readNumberOrYear_33 : decode cX4_readNumberOrYear 33 = .ok (.iconst 0, 1) := by decide +kernel
theorem dX4_readNumberOrYear_34 : decode cX4_readNumberOrYear 34 = .ok (.lload_n 2, 1) := by decide +kernel
theorem dX4_readNumberOrYear_35 : decode cX4_readNumberOrYear 35 = .ok (.invokevirtual 67, 3) := by decide +kernel
theorem dX4_readNumberOrYear_38 : decode cX4_readNumberOrYear 38 = .ok (.pop, 1) := by decide +kernel
theorem dX4_readNumberOrYear_39 : decode cX4_readNumberOrYear 39 = .ok (.iconst (-1), 1) := by decide +kernel
theorem dX4_readNumberOrYear_40 : decode cX4_readNumberOrYear 40 = .ok (.ireturn, 1) := by decide +kernel
theorem dX4_readNumberOrYear_41 : decode cX4_readNumberOrYear 41 = .ok (.aload_n 0, 1) := by decide +kernel
theorem dX4_readNumberOrYear_42 : decode cX4_readNumberOrYear 42 = .ok (.dup, 1) := by decide +kernel
theorem dX4_readNumberOrYear_43 : decode cX4_readNumberOrYear 43 = .ok (.getfield 37, 3) := by decide +kernel
theorem dX4_readNumberOrYear_46 : decode cX4_readNumberOrYear 46 = .ok (.iconst 1, 1) := by decide +kernel
theorem dX4_readNumberOrYear_47 : decode cX4_readNumberOrYear 47 = .ok (.iadd, 1) := by decide +kernel
theorem dX4_readNumberOrYear_48 : decode cX4_readNumberOrYear 48 = .ok (.putfield 37, 3) := by decide +kernel
theorem dX4_readNumberOrYear_51 : decode cX4_readNumberOrYear 51 = .ok (.aload_n 0, 1) := by decide +kernel
theorem dX4_readNumberOrYear_52 : decode cX4_readNumberOrYear 52 = .ok (.lload_n 2, 1) := by decide +kernel
theorem dX4_readNumberOrYear_53 : decode cX4_readNumberOrYear 53 = .ok (.iload_n 1, 1) := by decide +kernel
theorem dX4_readNumberOrYear_54 : decode cX4_readNumberOrYear 54 = .ok (.invokevirtual 107, 3) := by decide +kernel
theorem dX4_readNumberOrYear_57 : decode cX4_readNumberOrYear 57 = .ok (.ireturn, 1) := by decide +kernel
theorem dX4_readRule_0 : decode cX4_readRule 0 = .ok (.aload_n 0, 1) := by decide +kernel
theorem dX4_readRule_1 : decode cX4_readRule 1 = .ok (.getfield 18, 3) := by decide +kernel
theorem dX4_readRule_4 : decode cX4_readRule 4 = .ok (.getfield 162, 3) := by decide +kernel
theorem dX4_readRule_7 : decode cX4_readRule 7 = .ok (.iconst (-1), 1) := by decide +kernel
theorem dX4_readRule_8 : decode cX4_readRule 8 = .ok (.if_icmp .eq 12, 3) := by decide +kernel
theorem dX4_readRule_11 : decode cX4_readRule 11 = .ok (.aload_n 0, 1) := by decide +kernel
theorem dX4_readRule_12 : decode cX4_readRule 12 = .ok (.iconst 2, 1) := by decide +kernel
theorem dX4_readRule_13 : decode cX4_readRule 13 = .ok (.aload_n 0, 1) := by decide +kernel
theorem dX4_readRule_14 : decode cX4_readRule 14 = .ok (.invokevirtual 96, 3) := by decide +kernel
theorem dX4_readRule_17 : decode cX4_readRule 17 = .ok (.invokevirtual 118, 3) := by decide +kernel
theorem dX4_readRule_20 : decode cX4_readRule 20 = .ok (.aload_n 0, 1) := by decide +kernel
theorem dX4_readRule_21 : decode cX4_readRule 21 = .ok (.dup, 1) := by decide +kernel
theorem dX4_readRule_22 : decode cX4_readRule 22 = .ok (.getfield 37, 3) := by decide +kernel
theorem dX4_readRule_25 : decode cX4_readRule 25 = .ok (.iconst 1, 1) := by decide +kernel
theorem dX4_readRule_26 : decode cX4_readRule 26 = .ok (.iadd, 1) := by decide +kernel
theorem dX4_readRule_27 : decode cX4_readRule 27 = .ok (.putfield 37, 3) := by decide +kernel
theorem dX4_readRule_30 : decode cX4_readRule 30 = .ok (.aload_n 0, 1) := by decide +kernel
theorem dX4_readRule_31 : decode cX4_readRule 31 = .ok (.getfield 18, 3) := by decide +kernel
theorem dX4_readRule_34 : decode cX4_readRule 34 = .ok (.bipush 14, 2) := by decide +kernel
theorem dX4_readRule_36 : decode cX4_readRule 36 = .ok (.lconst 0, 1) := by decide +kernel
theorem dX4_readRule_37 : decode cX4_readRule 37 = .ok (.invokevirtual 67, 3) := by decide +kernel
theorem dX4_readRule_40 : decode cX4_readRule 40 = .ok (.istore_n 1, 1) := by decide +kernel
theorem dX4_readRule_41 : decode cX4_readRule 41 = .ok (.aload_n 0, 1) := by decide +kernel
theorem dX4_readRule_42 : decode cX4_readRule 42 = .ok (.getfield 18, 3) := by decide +kernel
theorem dX4_readRule_45 : decode cX4_readRule 45 = .ok (.aload_n 0, 1) := by decide +kernel
theorem dX4_readRule_46 : decode cX4_readRule 46 = .ok (.getfield 18, 3) := by decide +kernel
theorem dX4_readRule_49 : decode cX4_readRule 49 = .ok (.getfield 165, 3) := by decide +kernel
theorem dX4_readRule_52 : decode cX4_readRule 52 = .ok (.putfield 162, 3) := by decide +kernel
theorem dX4_readRule_55 : decode cX4_readRule 55 = .ok (.aload_n 0, 1) := by decide +kernel
theorem dX4_readRule_56 : decode cX4_readRule 56 = .ok (.iconst 2, 1) := by decide +kernel
theorem dX4_readRule_57 : decode cX4_readRule 57 = .ok (.putfield 43, 3) := by decide +kernel
theorem dX4_readRule_60 : decode cX4_readRule 60 = .ok (.aload_n 0, 1) := by decide +kernel
theorem dX4_readRule_61 : decode cX4_readRule 61 = .ok (.iconst 1, 1) := by decide +kernel
theorem dX4_readRule_62 : decode cX4_readRule 62 = .ok (.invokevirtual 166, 3) := by decide +kernel
theorem dX4_readRule_65 : decode cX4_readRule 65 = .ok (.aload_n 0, 1) := by decide +kernel
theorem dX4_readRule_66 : decode cX4_readRule 66 = .ok (.iconst 0, 1) := by decide +kernel
theorem dX4_readRule_67 : decode cX4_readRule 67 = .ok (.putfield 43, 3) := by decide +kernel
theorem dX4_readRule_70 : decode cX4_readRule 70 = .ok (.aload_n 0, 1) := by decide +kernel
theorem dX4_readRule_71 : decode cX4_readRule 71 = .ok (.getfield 18, 3) := by decide +kernel
theorem dX4_readRule_74 : decode cX4_readRule 74 = .ok (.bipush 20, 2) := by decide +kernel
theorem dX4_readRule_76 : decode cX4_readRule 76 = .ok (.lconst 0, 1) := by decide +kernel
theorem dX4_readRule_77 : decode cX4_readRule 77 = .ok (.invokevirtual 67, 3) := by decide +kernel
theorem dX4_readRule_80 : decode cX4_readRule 80 = .ok (.pop, 1) := by decide +kernel
theorem dX4_readRule_81 : decode cX4_readRule 81 = .ok (.aload_n 0, 1) := by decide +kernel
theorem dX4_readRule_82 : decode cX4_readRule 82 = .ok (.getfield 18, 3) := by decide +kernel
theorem dX4_readRule_85 : decode cX4_readRule 85 = .ok (.iload_n 1, 1) := by decide +kernel
theorem dX4_readRule_86 : decode cX4_readRule 86 = .ok (.invokevirtual 142, 3) := by decide +kernel
theorem dX4_readRule_89 : decode cX4_readRule 89 = .ok (.aload_n 0, 1) := by decide +kernel
theorem dX4_readRule_90 : decode cX4_readRule 90 = .ok (.bipush 59, 2) := by decide +kernel
theorem dX4_readRule_92 : decode cX4_readRule 92 = .ok (.invokevirtual 103, 3) := by decide +kernel
theorem dX4_readRule_95 : decode cX4_readRule 95 = .ok (.pop, 1) := by decide +kernel
theorem dX4_readRule_96 : decode cX4_readRule 96 = .ok (.return_, 1) := by decide +kernel
theorem dX4_readStep_0 : decode cX4_readStep 0 = .ok (.aload_n 0, 1) := by decide +kernel
theorem dX4_readStep_1 : decode cX4_readStep 1 = .ok (.invokevirtual 53, 3) := by decide +kernel
theorem dX4_readStep_4 : decode cX4_readStep 4 = .ok (.istore_n 2, 1) := by decide +kernel
theorem dX4_readStep_5 : decode cX4_readStep 5 = .ok (.iload_n 2, 1) := by decide +kernel
theorem dX4_readStep_6 : decode cX4_readStep 6 = .ok (.sipush 303, 3) := by decide +kernel
theorem dX4_readStep_9 : decode cX4_readStep 9 = .ok (.if_icmp .eq 27, 3) := by decide +kernel
theorem dX4_readStep_12 : decode cX4_readStep 12 = .ok (.iload_n 2, 1) := by decide +kernel
theorem dX4_readStep_13 : decode cX4_readStep 13 = .ok (.sipush 304, 3) := by decide +kernel
theorem dX4_readStep_16 : decode cX4_readStep 16 = .ok (.if_icmp .eq 20, 3) := by decide +kernel
theorem dX4_readStep_19 : decode cX4_readStep 19 = .ok (.iload_n 2, 1) := by decide +kernel
theorem dX4_readStep_20 : decode cX4_readStep 20 = .ok (.sipush 305, 3) := by decide +kernel
theorem dX4_readStep_23 : decode cX4_readStep 23 = .ok (.if_icmp .ne 8, 3) := by decide +kernel
theorem dX4_readStep_26 : decode cX4_readStep 26 = .ok (.iload_n 1, 1) := by decide +kernel
theorem dX4_readStep_27 : decode cX4_readStep 27 = .ok (.iconst 3, 1) := by decide +kernel
theorem dX4_readStep_28 : decode cX4_readStep 28 = .ok (.if_icmp .lt 8, 3) := by decide +kernel
theorem dX4_readStep_31 : decode cX4_readStep 31 = .ok (.aload_n 0, 1) := by decide +kernel
theorem dX4_readStep_32 : decode cX4_readStep 32 = .ok (.invokevirtual 93, 3) := by decide +kernel
theorem dX4_readStep_35 : decode cX4_readStep 35 = .ok (.return_, 1) := by decide +kernel
theorem dX4_readStep_36 : decode cX4_readStep 36 = .ok (.aload_n 0, 1) := by decide +kernel
theorem dX4_readStep_37 : decode cX4_readStep 37 = .ok (.getfield 18, 3) := by decide +kernel
theorem dX4_readStep_40 : decode cX4_readStep 40 = .ok (.dup, 1) := by decide +kernel
theorem dX4_readStep_41 : decode cX4_readStep 41 = .ok (.getfield 169, 3) := by decide +kernel
theorem dX4_readStep_44 : decode cX4_readStep 44 = .ok (.iconst 1, 1) := by decide +kernel
theorem dX4_readStep_45 : decode cX4_readStep 45 = .ok (.iadd, 1) := by decide +kernel
theorem dX4_readStep_46 : decode cX4_readStep 46 = .ok (.putfield 169, 3) := by decide +kernel
theorem dX4_readStep_49 : decode cX4_readStep 49 = .ok (.aload_n 0, 1) := by decide +kernel
theorem dX4_readStep_50 : decode cX4_readStep 50 = .ok (.getfield 18, 3) := by decide +kernel
theorem dX4_readStep_53 : decode cX4_readStep 53 = .ok (.getfield 169, 3) := by decide +kernel
theorem dX4_readStep_56 : decode cX4_readStep 56 = .ok (.bipush 40, 2) := by decide +kernel
theorem dX4_readStep_58 : decode cX4_readStep 58 = .ok (.if_icmp .le 12, 3) := by decide +kernel
theorem dX4_readStep_61 : decode cX4_readStep 61 = .ok (.aload_n 0, 1) := by decide +kernel
theorem dX4_readStep_62 : decode cX4_readStep 62 = .ok (.iconst 5, 1) := by decide +kernel
theorem dX4_readStep_63 : decode cX4_readStep 63 = .ok (.aload_n 0, 1) := by decide +kernel
theorem dX4_readStep_64 : decode cX4_readStep 64 = .ok (.invokevirtual 96, 3) := by decide +kernel
theorem dX4_readStep_67 : decode cX4_readStep 67 = .ok (.invokevirtual 118, 3) := by decide +kernel
theorem dX4_readStep_70 : decode cX4_readStep 70 = .ok (.iload_n 2, 1) := by decide +kernel
theorem dX4_readStep_71 : decode cX4_readStep 71 = .ok (.sipush 303, 3) := by decide +kernel
theorem dX4_readStep_74 : decode cX4_readStep 74 = .ok (.if_icmp .ne 10, 3) := by decide +kernel
theorem dX4_readStep_77 : decode cX4_readStep 77 = .ok (.aload_n 0, 1) := by decide +kernel
theorem dX4_readStep_78 : decode cX4_readStep 78 = .ok (.invokevirtual 172, 3) := by decide +kernel
theorem dX4_readStep_81 : decode cX4_readStep 81 = .ok (.goto 24, 3) := by decide +kernel
theorem dX4_readStep_84 : decode cX4_readStep 84 = .ok (.iload_n 2, 1) := by decide +kernel
theorem dX4_readStep_85 : decode cX4_readStep 85 = .ok (.sipush 304, 3) := by decide +kernel
theorem dX4_readStep_88 : decode cX4_readStep 88 = .ok (.if_icmp .ne 10, 3) := by decide +kernel
theorem dX4_readStep_91 : decode cX4_readStep 91 = .ok (.aload_n 0, 1) := by decide +kernel
theorem dX4_readStep_92 : decode cX4_readStep 92 = .ok (.invokevirtual 175, 3) := by decide +kernel
theorem dX4_readStep_95 : decode cX4_readStep 95 = .ok (.goto 10, 3) := by decide +kernel
theorem dX4_readStep_98 : decode cX4_readStep 98 = .ok (.aload_n 0, 1) := by decide +kernel
theorem dX4_readStep_99 : decode cX4_readStep 99 = .ok (.iload_n 1, 1) := by decide +kernel
theorem dX4_readStep_100 : decode cX4_readStep 100 = .ok (.iconst 1, 1) := by decide +kernel
theorem dX4_readStep_101 : decode cX4_readStep 101 = .ok (.iadd, 1) := by decide +kernel
theorem dX4_readStep_102 : decode cX4_readStep 102 = .ok (.invokevirtual 178, 3) := by decide +kernel
theorem dX4_readStep_105 : decode cX4_readStep 105 = .ok (.return_, 1) := by decide +kernel
theorem dX4_readTable_0 : decode cX4_readTable 0 = .ok (.aload_n 0, 1) := by decide +kernel
theorem dX4_readTable_1 : decode cX4_readTable 1 = .ok (.getfield 18, 3) := by decide +kernel
theorem dX4_readTable_4 : decode cX4_readTable 4 = .ok (.getfield 181, 3) := by decide +kernel
theorem dX4_readTable_7 : decode cX4_readTable 7 = .ok (.istore_n 1, 1) := by decide +kernel
theorem dX4_readTable_8 : decode cX4_readTable 8 = .ok (.iload_n 1, 1) := by decide +kernel
theorem dX4_readTable_9 : decode cX4_readTable 9 = .ok (.bipush 6, 2) := by decide +kernel
theorem dX4_readTable_11 : decode cX4_readTable 11 = .ok (.if_icmp .lt 12, 3) := by decide +kernel
theorem dX4_readTable_14 : decode cX4_readTable 14 = .ok (.aload_n 0, 1) := by decide +kernel
theorem dX4_readTable_15 : decode cX4_readTable 15 = .ok (.iconst 5, 1) := by decide +kernel
theorem dX4_readTable_16 : decode cX4_readTable 16 = .ok (.aload_n 0, 1) := by decide +kernel
theorem dX4_readTable_17 : decode cX4_readTable 17 = .ok (.invokevirtual 96, 3) := by decide +kernel
theorem dX4_readTable_20 : decode cX4_readTable 20 = .ok (.invokevirtual 118, 3) := by decide +kernel
theorem dX4_readTable_23 : decode cX4_readTable 23 = .ok (.aload_n 0, 1) := by decide +kernel
theorem dX4_readTable_24 : decode cX4_readTable 24 = .ok (.dup, 1) := by decide +kernel
theorem dX4_readTable_25 : decode cX4_readTable 25 = .ok (.getfield 37, 3) := by decide +kernel
theorem dX4_readTable_28 : decode cX4_readTable 28 = .ok (.iconst 1, 1) := by decide +kernel
theorem dX4_readTable_29 : decode cX4_readTable 29 = .ok (.iadd, 1) := by decide +kernel
theorem dX4_readTable_30 : decode cX4_readTable 30 = .ok (.putfield 37, 3) := by decide +kernel
theorem dX4_readTable_33 : decode cX4_readTable 33 = .ok (.aload_n 0, 1) := by decide +kernel
theorem dX4_readTable_34 : decode cX4_readTable 34 = .ok (.invokevirtual 132, 3) := by decide +kernel
theorem dX4_readTable_37 : decode cX4_readTable 37 = .ok (.lstore_n 2, 1) := by decide +kernel
theorem dX4_readTable_38 : decode cX4_readTable 38 = .ok (.aload_n 0, 1) := by decide +kernel
theorem dX4_readTable_39 : decode cX4_readTable 39 = .ok (.iconst 1, 1) := by decide +kernel
theorem dX4_readTable_40 : decode cX4_readTable 40 = .ok (.bipush 12, 2) := by decide +kernel
theorem dX4_readTable_42 : decode cX4_readTable 42 = .ok (.invokevirtual 184, 3) := by decide +kernel
theorem dX4_readTable_45 : decode cX4_readTable 45 = .ok (.lstore 4, 2) := by decide +kernel
theorem dX4_readTable_47 : decode cX4_readTable 47 = .ok (.aload_n 0, 1) := by decide +kernel
theorem dX4_readTable_48 : decode cX4_readTable 48 = .ok (.bipush 61, 2) := by decide +kernel
theorem dX4_readTable_50 : decode cX4_readTable 50 = .ok (.invokevirtual 103, 3) := by decide +kernel
theorem dX4_readTable_53 : decode cX4_readTable 53 = .ok (.pop, 1) := by decide +kernel
theorem dX4_readTable_54 : decode cX4_readTable 54 = .ok (.aload_n 0, 1) := by decide +kernel
theorem dX4_readTable_55 : decode cX4_readTable 55 = .ok (.getfield 18, 3) := by decide +kernel
theorem dX4_readTable_58 : decode cX4_readTable 58 = .ok (.lload_n 2, 1) := by decide +kernel
theorem dX4_readTable_59 : decode cX4_readTable 59 = .ok (.lload 4, 2) := by decide +kernel
theorem dX4_readTable_61 : decode cX4_readTable 61 = .ok (.invokevirtual 188, 3) := by decide +kernel
theorem dX4_readTable_64 : decode cX4_readTable 64 = .ok (.aload_n 0, 1) := by decide +kernel
theorem dX4_readTable_65 : decode cX4_readTable 65 = .ok (.getfield 18, 3) := by decide +kernel
theorem dX4_readTable_68 : decode cX4_readTable 68 = .ok (.bipush 17, 2) := by decide +kernel
theorem dX4_readTable_70 : decode cX4_readTable 70 = .ok (.lconst 0, 1) := by decide +kernel
theorem dX4_readTable_71 : decode cX4_readTable 71 = .ok (.invokevirtual 67, 3) := by decide +kernel
theorem dX4_readTable_74 : decode cX4_readTable 74 = .ok (.pop, 1) := by decide +kernel
theorem dX4_readTable_75 : decode cX4_readTable 75 = .ok (.aload_n 0, 1) := by decide +kernel
theorem dX4_readTable_76 : decode cX4_readTable 76 = .ok (.getfield 18, 3) := by decide +kernel
theorem dX4_readTable_79 : decode cX4_readTable 79 = .ok (.getfield 165, 3) := by decide +kernel
theorem dX4_readTable_82 : decode cX4_readTable 82 = .ok (.istore 6, 2) := by decide +kernel
theorem dX4_readTable_84 : decode cX4_readTable 84 = .ok (.aload_n 0, 1) := by decide +kernel
theorem dX4_readTable_85 : decode cX4_readTable 85 = .ok (.iconst 1, 1) := by decide +kernel
theorem dX4_readTable_86 : decode cX4_readTable 86 = .ok (.putfield 43, 3) := by decide +kernel
theorem dX4_readTable_89 : decode cX4_readTable 89 = .ok (.aload_n 0, 1) := by decide +kernel
theorem dX4_readTable_90 : decode cX4_readTable 90 = .ok (.iconst 1, 1) := by decide +kernel
theorem dX4_readTable_91 : decode cX4_readTable 91 = .ok (.invokevirtual 166, 3) := by decide +kernel
theorem dX4_readTable_94 : decode cX4_readTable 94 = .ok (.aload_n 0, 1) := by decide +kernel
theorem dX4_readTable_95 : decode cX4_readTable 95 = .ok (.iconst 0, 1) := by decide +kernel
theorem dX4_readTable_96 : decode cX4_readTable 96 = .ok (.putfield 43, 3) := by decide +kernel
theorem dX4_readTable_99 : decode cX4_readTable 99 = .ok (.aload_n 0, 1) := by decide +kernel
theorem dX4_readTable_100 : decode cX4_readTable 100 = .ok (.getfield 18, 3) := by decide +kernel
theorem dX4_readTable_103 : decode cX4_readTable 103 = .ok (.bipush 18, 2) := by decide +kernel
theorem dX4_readTable_105 : decode cX4_readTable 105 = .ok (.iload 6, 2) := by decide +kernel
theorem dX4_readTable_107 : decode cX4_readTable 107 = .ok (.i2l, 1) := by decide +kernel
theorem dX4_readTable_108 : decode cX4_readTable 108 = .ok (.ldc2_w 192, 3) := by decide +kernel
theorem dX4_readTable_111 : decode cX4_readTable 111 = .ok (.lmul, 1) := by decide +kernel
theorem dX4_readTable_112 : decode cX4_readTable 112 = .ok (.iload_n 1, 1) := by decide +kernel
theorem dX4_readTable_113 : decode cX4_readTable 113 = .ok (.i2l, 1) := by decide +kernel
theorem dX4_readTable_114 : decode cX4_readTable 114 = .ok (.ladd, 1) := by decide +kernel
theorem dX4_readTable_115 : decode cX4_readTable 115 = .ok (.invokevirtual 67, 3) := by decide +kernel
theorem dX4_readTable_118 : decode cX4_readTable 118 = .ok (.pop, 1) := by decide +kernel
theorem dX4_readTable_119 : decode cX4_readTable 119 = .ok (.aload_n 0, 1) := by decide +kernel
theorem dX4_readTable_120 : decode cX4_readTable 120 = .ok (.bipush 59, 2) := by decide +kernel
theorem dX4_readTable_122 : decode cX4_readTable 122 = .ok (.invokevirtual 103, 3) := by decide +kernel
theorem dX4_readTable_125 : decode cX4_readTable 125 = .ok (.pop, 1) := by decide +kernel
theorem dX4_readTable_126 : decode cX4_readTable 126 = .ok (.return_, 1) := by decide +kernel
theorem dX4_readCheck_0 : decode cX4_readCheck 0 = .ok (.aload_n 0, 1) := by decide +kernel
theorem dX4_readCheck_1 : decode cX4_readCheck 1 = .ok (.dup, 1) := by decide +kernel
theorem dX4_readCheck_2 : decode cX4_readCheck 2 = .ok (.getfield 37, 3) := by decide +kernel
theorem dX4_readCheck_5 : decode cX4_readCheck 5 = .ok (.iconst 1, 1) := by decide +kernel
theorem dX4_readCheck_6 : decode cX4_readCheck 6 = .ok (.iadd, 1) := by decide +kernel
theorem dX4_readCheck_7 : decode cX4_readCheck 7 = .ok (.putfield 37, 3) := by decide +kernel
theorem dX4_readCheck_10 : decode cX4_readCheck 10 = .ok (.aload_n 0, 1) := by decide +kernel
theorem dX4_readCheck_11 : decode cX4_readCheck 11 = .ok (.iconst 1, 1) := by decide +kernel
theorem dX4_readCheck_12 : decode cX4_readCheck 12 = .ok (.invokevirtual 166, 3) := by decide +kernel
theorem dX4_readCheck_15 : decode cX4_readCheck 15 = .ok (.aload_n 0, 1) := by decide +kernel
theorem dX4_readCheck_16 : decode cX4_readCheck 16 = .ok (.bipush 58, 2) := by decide +kernel
theorem dX4_readCheck_18 : decode cX4_readCheck 18 = .ok (.invokevirtual 103, 3) := by decide +kernel
theorem dX4_readCheck_21 : decode cX4_readCheck 21 = .ok (.pop, 1) := by decide +kernel
theorem dX4_readCheck_22 : decode cX4_readCheck 22 = .ok (.aload_n 0, 1) := by decide +kernel
theorem dX4_readCheck_23 : decode cX4_readCheck 23 = .ok (.iconst 1, 1) := by decide +kernel
theorem dX4_readCheck_24 : decode cX4_readCheck 24 = .ok (.sipush 800, 3) := by decide +kernel
theorem dX4_readCheck_27 : decode cX4_readCheck 27 = .ok (.invokevirtual 184, 3) := by decide +kernel
theorem dX4_readCheck_30 : decode cX4_readCheck 30 = .ok (.lstore_n 1, 1) := by decide +kernel
theorem dX4_readCheck_31 : decode cX4_readCheck 31 = .ok (.aload_n 0, 1) := by decide +kernel
theorem dX4_readCheck_32 : decode cX4_readCheck 32 = .ok (.getfield 18, 3) := by decide +kernel
theorem dX4_readCheck_35 : decode cX4_readCheck 35 = .ok (.bipush 19, 2) := by decide +kernel
theorem dX4_readCheck_37 : decode cX4_readCheck 37 = .ok (.lload_n 1, 1) := by decide +kernel
theorem dX4_readCheck_38 : decode cX4_readCheck 38 = .ok (.invokevirtual 67, 3) := by decide +kernel
theorem dX4_readCheck_41 : decode cX4_readCheck 41 = .ok (.pop, 1) := by decide +kernel
theorem dX4_readCheck_42 : decode cX4_readCheck 42 = .ok (.aload_n 0, 1) := by decide +kernel
theorem dX4_readCheck_43 : decode cX4_readCheck 43 = .ok (.bipush 59, 2) := by decide +kernel
theorem dX4_readCheck_45 : decode cX4_readCheck 45 = .ok (.invokevirtual 103, 3) := by decide +kernel
theorem dX4_readCheck_48 : decode cX4_readCheck 48 = .ok (.pop, 1) := by decide +kernel
theorem dX4_readCheck_49 : decode cX4_readCheck 49 = .ok (.return_, 1) := by decide +kernel
theorem dX4_readTry_0 : decode cX4_readTry 0 = .ok (.aload_n 0, 1) := by decide +kernel
theorem dX4_readTry_1 : decode cX4_readTry 1 = .ok (.dup, 1) := by decide +kernel
theorem dX4_readTry_2 : decode cX4_readTry 2 = .ok (.getfield 37, 3) := by decide +kernel
theorem dX4_readTry_5 : decode cX4_readTry 5 = .ok (.iconst 1, 1) := by decide +kernel
theorem dX4_readTry_6 : decode cX4_readTry 6 = .ok (.iadd, 1) := by decide +kernel
theorem dX4_readTry_7 : decode cX4_readTry 7 = .ok (.putfield 37, 3) := by decide +kernel
theorem dX4_readTry_10 : decode cX4_readTry 10 = .ok (.aload_n 0, 1) := by decide +kernel
theorem dX4_readTry_11 : decode cX4_readTry 11 = .ok (.bipush 123, 2) := by decide +kernel
theorem dX4_readTry_13 : decode cX4_readTry 13 = .ok (.invokevirtual 103, 3) := by decide +kernel
theorem dX4_readTry_16 : decode cX4_readTry 16 = .ok (.pop, 1) := by decide +kernel
theorem dX4_readTry_17 : decode cX4_readTry 17 = .ok (.aload_n 0, 1) := by decide +kernel
theorem dX4_readTry_18 : decode cX4_readTry 18 = .ok (.getfield 18, 3) := by decide +kernel
theorem dX4_readTry_21 : decode cX4_readTry 21 = .ok (.invokevirtual 194, 3) := by decide +kernel
theorem dX4_readTry_24 : decode cX4_readTry 24 = .ok (.istore_n 2, 1) := by decide +kernel
theorem dX4_readTry_25 : decode cX4_readTry 25 = .ok (.aload_n 0, 1) := by decide +kernel
theorem dX4_readTry_26 : decode cX4_readTry 26 = .ok (.iload_n 1, 1) := by decide +kernel
theorem dX4_readTry_27 : decode cX4_readTry 27 = .ok (.invokevirtual 197, 3) := by decide +kernel
theorem dX4_readTry_30 : decode cX4_readTry 30 = .ok (.aload_n 0, 1) := by decide +kernel
theorem dX4_readTry_31 : decode cX4_readTry 31 = .ok (.bipush 125, 2) := by decide +kernel
theorem dX4_readTry_33 : decode cX4_readTry 33 = .ok (.invokevirtual 103, 3) := by decide +kernel
theorem dX4_readTry_36 : decode cX4_readTry 36 = .ok (.pop, 1) := by decide +kernel
theorem dX4_readTry_37 : decode cX4_readTry 37 = .ok (.aload_n 0, 1) := by decide +kernel
theorem dX4_readTry_38 : decode cX4_readTry 38 = .ok (.getfield 18, 3) := by decide +kernel
theorem dX4_readTry_41 : decode cX4_readTry 41 = .ok (.bipush 14, 2) := by decide +kernel
theorem dX4_readTry_43 : decode cX4_readTry 43 = .ok (.lconst 0, 1) := by decide +kernel
theorem dX4_readTry_44 : decode cX4_readTry 44 = .ok (.invokevirtual 67, 3) := by decide +kernel
theorem dX4_readTry_47 : decode cX4_readTry 47 = .ok (.istore_n 3, 1) := by decide +kernel
theorem dX4_readTry_48 : decode cX4_readTry 48 = .ok (.aload_n 0, 1) := by decide +kernel
theorem dX4_readTry_49 : decode cX4_readTry 49 = .ok (.getfield 18, 3) := by decide +kernel
theorem dX4_readTry_52 : decode cX4_readTry 52 = .ok (.iload_n 2, 1) := by decide +kernel
theorem dX4_readTry_53 : decode cX4_readTry 53 = .ok (.invokevirtual 200, 3) := by decide +kernel
theorem dX4_readTry_56 : decode cX4_readTry 56 = .ok (.aload_n 0, 1) := by decide +kernel
theorem dX4_readTry_57 : decode cX4_readTry 57 = .ok (.sipush 306, 3) := by decide +kernel
theorem dX4_readTry_60 : decode cX4_readTry 60 = .ok (.invokevirtual 103, 3) := by decide +kernel
theorem dX4_readTry_63 : decode cX4_readTry 63 = .ok (.pop, 1) := by decide +kernel
theorem dX4_readTry_64 : decode cX4_readTry 64 = .ok (.aload_n 0, 1) := by decide +kernel
theorem dX4_readTry_65 : decode cX4_readTry 65 = .ok (.bipush 123, 2) := by decide +kernel
theorem dX4_readTry_67 : decode cX4_readTry 67 = .ok (.invokevirtual 103, 3) := by decide +kernel
theorem dX4_readTry_70 : decode cX4_readTry 70 = .ok (.pop, 1) := by decide +kernel
theorem dX4_readTry_71 : decode cX4_readTry 71 = .ok (.aload_n 0, 1) := by decide +kernel
theorem dX4_readTry_72 : decode cX4_readTry 72 = .ok (.iload_n 1, 1) := by decide +kernel
theorem dX4_readTry_73 : decode cX4_readTry 73 = .ok (.invokevirtual 197, 3) := by decide +kernel
theorem dX4_readTry_76 : decode cX4_readTry 76 = .ok (.aload_n 0, 1) := by decide +kernel
theorem dX4_readTry_77 : decode cX4_readTry 77 = .ok (.bipush 125, 2) := by decide +kernel
theorem dX4_readTry_79 : decode cX4_readTry 79 = .ok (.invokevirtual 103, 3) := by decide +kernel
theorem dX4_readTry_82 : decode cX4_readTry 82 = .ok (.pop, 1) := by decide +kernel
theorem dX4_readTry_83 : decode cX4_readTry 83 = .ok (.aload_n 0, 1) := by decide +kernel
theorem dX4_readTry_84 : decode cX4_readTry 84 = .ok (.getfield 18, 3) := by decide +kernel
theorem dX4_readTry_87 : decode cX4_readTry 87 = .ok (.iload_n 3, 1) := by decide +kernel
theorem dX4_readTry_88 : decode cX4_readTry 88 = .ok (.invokevirtual 142, 3) := by decide +kernel
theorem dX4_readTry_91 : decode cX4_readTry 91 = .ok (.return_, 1) := by decide +kernel
theorem dX4_readSteps_0 : decode cX4_readSteps 0 = .ok (.iconst 0, 1) := by decide +kernel
theorem dX4_readSteps_1 : decode cX4_readSteps 1 = .ok (.istore_n 2, 1) := by decide +kernel
theorem dX4_readSteps_2 : decode cX4_readSteps 2 = .ok (.iload_n 2, 1) := by decide +kernel
theorem dX4_readSteps_3 : decode cX4_readSteps 3 = .ok (.sipush 900, 3) := by decide +kernel
theorem dX4_readSteps_6 : decode cX4_readSteps 6 = .ok (.if_icmp .gt 30, 3) := by decide +kernel
theorem dX4_readSteps_9 : decode cX4_readSteps 9 = .ok (.aload_n 0, 1) := by decide +kernel
theorem dX4_readSteps_10 : decode cX4_readSteps 10 = .ok (.invokevirtual 53, 3) := by decide +kernel
theorem dX4_readSteps_13 : decode cX4_readSteps 13 = .ok (.bipush 125, 2) := by decide +kernel
theorem dX4_readSteps_15 : decode cX4_readSteps 15 = .ok (.if_icmp .eq 21, 3) := by decide +kernel
theorem dX4_readSteps_18 : decode cX4_readSteps 18 = .ok (.aload_n 0, 1) := by decide +kernel
theorem dX4_readSteps_19 : decode cX4_readSteps 19 = .ok (.getfield 46, 3) := by decide +kernel
theorem dX4_readSteps_22 : decode cX4_readSteps 22 = .ok (.ifCond .ne 14, 3) := by decide +kernel
theorem dX4_readSteps_25 : decode cX4_readSteps 25 = .ok (.aload_n 0, 1) := by decide +kernel
theorem dX4_readSteps_26 : decode cX4_readSteps 26 = .ok (.iload_n 1, 1) := by decide +kernel
theorem dX4_readSteps_27 : decode cX4_readSteps 27 = .ok (.invokevirtual 63, 3) := by decide +kernel
theorem dX4_readSteps_30 : decode cX4_readSteps 30 = .ok (.iinc 2 1, 3) := by decide +kernel
theorem dX4_readSteps_33 : decode cX4_readSteps 33 = .ok (.goto (-31), 3) := by decide +kernel
theorem dX4_readSteps_36 : decode cX4_readSteps 36 = .ok (.return_, 1) := by decide +kernel
theorem dX4_readChoice_0 : decode cX4_readChoice 0 = .ok (.iload_n 1, 1) := by decide +kernel
theorem dX4_readChoice_1 : decode cX4_readChoice 1 = .ok (.bipush 12, 2) := by decide +kernel
theorem dX4_readChoice_3 : decode cX4_readChoice 3 = .ok (.if_icmp .le 8, 3) := by decide +kernel
theorem dX4_readChoice_6 : decode cX4_readChoice 6 = .ok (.aload_n 0, 1) := by decide +kernel
theorem dX4_readChoice_7 : decode cX4_readChoice 7 = .ok (.invokevirtual 93, 3) := by decide +kernel
theorem dX4_readChoice_10 : decode cX4_readChoice 10 = .ok (.return_, 1) := by decide +kernel
theorem dX4_readChoice_11 : decode cX4_readChoice 11 = .ok (.aload_n 0, 1) := by decide +kernel
theorem dX4_readChoice_12 : decode cX4_readChoice 12 = .ok (.iload_n 1, 1) := by decide +kernel
theorem dX4_readChoice_13 : decode cX4_readChoice 13 = .ok (.invokevirtual 203, 3) := by decide +kernel
theorem dX4_readChoice_16 : decode cX4_readChoice 16 = .ok (.aload_n 0, 1) := by decide +kernel
theorem dX4_readChoice_17 : decode cX4_readChoice 17 = .ok (.invokevirtual 53, 3) := by decide +kernel
theorem dX4_readChoice_20 : decode cX4_readChoice 20 = .ok (.invokestatic 206, 3) := by decide +kernel
theorem dX4_readChoice_23 : decode cX4_readChoice 23 = .ok (.istore_n 2, 1) := by decide +kernel
theorem dX4_readChoice_24 : decode cX4_readChoice 24 = .ok (.iload_n 2, 1) := by decide +kernel
theorem dX4_readChoice_25 : decode cX4_readChoice 25 = .ok (.iconst (-1), 1) := by decide +kernel
theorem dX4_readChoice_26 : decode cX4_readChoice 26 = .ok (.if_icmp .eq 28, 3) := by decide +kernel
theorem dX4_readChoice_29 : decode cX4_readChoice 29 = .ok (.aload_n 0, 1) := by decide +kernel
theorem dX4_readChoice_30 : decode cX4_readChoice 30 = .ok (.dup, 1) := by decide +kernel
theorem dX4_readChoice_31 : decode cX4_readChoice 31 = .ok (.getfield 37, 3) := by decide +kernel
theorem dX4_readChoice_34 : decode cX4_readChoice 34 = .ok (.iconst 1, 1) := by decide +kernel
theorem dX4_readChoice_35 : decode cX4_readChoice 35 = .ok (.iadd, 1) := by decide +kernel
theorem dX4_readChoice_36 : decode cX4_readChoice 36 = .ok (.putfield 37, 3) := by decide +kernel
theorem dX4_readChoice_39 : decode cX4_readChoice 39 = .ok (.aload_n 0, 1) := by decide +kernel
theorem dX4_readChoice_40 : decode cX4_readChoice 40 = .ok (.iload_n 1, 1) := by decide +kernel
theorem dX4_readChoice_41 : decode cX4_readChoice 41 = .ok (.invokevirtual 203, 3) := by decide +kernel
theorem dX4_readChoice_44 : decode cX4_readChoice 44 = .ok (.aload_n 0, 1) := by decide +kernel
theorem dX4_readChoice_45 : decode cX4_readChoice 45 = .ok (.getfield 18, 3) := by decide +kernel
theorem dX4_readChoice_48 : decode cX4_readChoice 48 = .ok (.iload_n 2, 1) := by decide +kernel
theorem dX4_readChoice_49 : decode cX4_readChoice 49 = .ok (.lconst 0, 1) := by decide +kernel
theorem dX4_readChoice_50 : decode cX4_readChoice 50 = .ok (.invokevirtual 67, 3) := by decide +kernel
theorem dX4_readChoice_53 : decode cX4_readChoice 53 = .ok (.pop, 1) := by decide +kernel
theorem dX4_readChoice_54 : decode cX4_readChoice 54 = .ok (.aload_n 0, 1) := by decide +kernel
theorem dX4_readChoice_55 : decode cX4_readChoice 55 = .ok (.invokevirtual 53, 3) := by decide +kernel
theorem dX4_readChoice_58 : decode cX4_readChoice 58 = .ok (.bipush 63, 2) := by decide +kernel
theorem dX4_readChoice_60 : decode cX4_readChoice 60 = .ok (.if_icmp .eq 4, 3) := by decide +kernel
theorem dX4_readChoice_63 : decode cX4_readChoice 63 = .ok (.return_, 1) := by decide +kernel
theorem dX4_readChoice_64 : decode cX4_readChoice 64 = .ok (.aload_n 0, 1) := by decide +kernel
theorem dX4_readChoice_65 : decode cX4_readChoice 65 = .ok (.dup, 1) := by decide +kernel
theorem dX4_readChoice_66 : decode cX4_readChoice 66 = .ok (.getfield 37, 3) := by decide +kernel
theorem dX4_readChoice_69 : decode cX4_readChoice 69 = .ok (.iconst 1, 1) := by decide +kernel
theorem dX4_readChoice_70 : decode cX4_readChoice 70 = .ok (.iadd, 1) := by decide +kernel
theorem dX4_readChoice_71 : decode cX4_readChoice 71 = .ok (.putfield 37, 3) := by decide +kernel
theorem dX4_readChoice_74 : decode cX4_readChoice 74 = .ok (.aload_n 0, 1) := by decide +kernel
theorem dX4_readChoice_75 : decode cX4_readChoice 75 = .ok (.getfield 18, 3) := by decide +kernel
theorem dX4_readChoice_78 : decode cX4_readChoice 78 = .ok (.bipush 15, 2) := by decide +kernel
theorem dX4_readChoice_80 : decode cX4_readChoice 80 = .ok (.lconst 0, 1) := by decide +kernel
theorem dX4_readChoice_81 : decode cX4_readChoice 81 = .ok (.invokevirtual 67, 3) := by decide +kernel
theorem dX4_readChoice_84 : decode cX4_readChoice 84 = .ok (.istore_n 3, 1) := by decide +kernel
theorem dX4_readChoice_85 : decode cX4_readChoice 85 = .ok (.aload_n 0, 1) := by decide +kernel
theorem dX4_readChoice_86 : decode cX4_readChoice 86 = .ok (.iload_n 1, 1) := by decide +kernel
theorem dX4_readChoice_87 : decode cX4_readChoice 87 = .ok (.iconst 1, 1) := by decide +kernel
theorem dX4_readChoice_88 : decode cX4_readChoice 88 = .ok (.iadd, 1) := by decide +kernel
theorem dX4_readChoice_89 : decode cX4_readChoice 89 = .ok (.invokevirtual 166, 3) := by decide +kernel
theorem dX4_readChoice_92 : decode cX4_readChoice 92 = .ok (.aload_n 0, 1) := by decide +kernel
theorem dX4_readChoice_93 : decode cX4_readChoice 93 = .ok (.bipush 58, 2) := by decide +kernel
theorem dX4_readChoice_95 : decode cX4_readChoice 95 = .ok (.invokevirtual 103, 3) := by decide +kernel
theorem dX4_readChoice_98 : decode cX4_readChoice 98 = .ok (.pop, 1) := by decide +kernel
theorem dX4_readChoice_99 : decode cX4_readChoice 99 = .ok (.aload_n 0, 1) := by decide +kernel
theorem dX4_readChoice_100 : decode cX4_readChoice 100 = .ok (.getfield 18, 3) := by decide +kernel
theorem dX4_readChoice_103 : decode cX4_readChoice 103 = .ok (.bipush 14, 2) := by decide +kernel
theorem dX4_readChoice_105 : decode cX4_readChoice 105 = .ok (.lconst 0, 1) := by decide +kernel
theorem dX4_readChoice_106 : decode cX4_readChoice 106 = .ok (.invokevirtual 67, 3) := by decide +kernel
theorem dX4_readChoice_109 : decode cX4_readChoice 109 = .ok (.istore 4, 2) := by decide +kernel
theorem dX4_readChoice_111 : decode cX4_readChoice 111 = .ok (.aload_n 0, 1) := by decide +kernel
theorem dX4_readChoice_112 : decode cX4_readChoice 112 = .ok (.getfield 18, 3) := by decide +kernel
theorem dX4_readChoice_115 : decode cX4_readChoice 115 = .ok (.iload_n 3, 1) := by decide +kernel
theorem dX4_readChoice_116 : decode cX4_readChoice 116 = .ok (.invokevirtual 142, 3) := by decide +kernel
theorem dX4_readChoice_119 : decode cX4_readChoice 119 = .ok (.aload_n 0, 1) := by decide +kernel
theorem dX4_readChoice_120 : decode cX4_readChoice 120 = .ok (.iload_n 1, 1) := by decide +kernel
theorem dX4_readChoice_121 : decode cX4_readChoice 121 = .ok (.iconst 1, 1) := by decide +kernel
theorem dX4_readChoice_122 : decode cX4_readChoice 122 = .ok (.iadd, 1) := by decide +kernel
theorem dX4_readChoice_123 : decode cX4_readChoice 123 = .ok (.invokevirtual 166, 3) := by decide +kernel
theorem dX4_readChoice_126 : decode cX4_readChoice 126 = .ok (.aload_n 0, 1) := by decide +kernel
theorem dX4_readChoice_127 : decode cX4_readChoice 127 = .ok (.getfield 18, 3) := by decide +kernel
theorem dX4_readChoice_130 : decode cX4_readChoice 130 = .ok (.iload 4, 2) := by decide +kernel
theorem dX4_readChoice_132 : decode cX4_readChoice 132 = .ok (.invokevirtual 142, 3) := by decide +kernel
theorem dX4_readChoice_135 : decode cX4_readChoice 135 = .ok (.return_, 1) := by decide +kernel
theorem dX4_comparison_0 : decode cX4_comparison 0 = .ok (.iload_n 0, 1) := by decide +kernel
theorem dX4_comparison_1 : decode cX4_comparison 1 = .ok (.tableswitch 36 60 62 #[30, 27, 33], 27) := by decide +kernel
theorem dX4_comparison_28 : decode cX4_comparison 28 = .ok (.bipush 11, 2) := by decide +kernel
theorem dX4_comparison_30 : decode cX4_comparison 30 = .ok (.ireturn, 1) := by decide +kernel
theorem dX4_comparison_31 : decode cX4_comparison 31 = .ok (.bipush 12, 2) := by decide +kernel
theorem dX4_comparison_33 : decode cX4_comparison 33 = .ok (.ireturn, 1) := by decide +kernel
theorem dX4_comparison_34 : decode cX4_comparison 34 = .ok (.bipush 13, 2) := by decide +kernel
theorem dX4_comparison_36 : decode cX4_comparison 36 = .ok (.ireturn, 1) := by decide +kernel
theorem dX4_comparison_37 : decode cX4_comparison 37 = .ok (.iconst (-1), 1) := by decide +kernel
theorem dX4_comparison_38 : decode cX4_comparison 38 = .ok (.ireturn, 1) := by decide +kernel
theorem dX4_readSum_0 : decode cX4_readSum 0 = .ok (.aload_n 0, 1) := by decide +kernel
theorem dX4_readSum_1 : decode cX4_readSum 1 = .ok (.iload_n 1, 1) := by decide +kernel
theorem dX4_readSum_2 : decode cX4_readSum 2 = .ok (.invokevirtual 210, 3) := by decide +kernel
theorem dX4_readSum_5 : decode cX4_readSum 5 = .ok (.iconst 0, 1) := by decide +kernel
theorem dX4_readSum_6 : decode cX4_readSum 6 = .ok (.istore_n 2, 1) := by decide +kernel
theorem dX4_readSum_7 : decode cX4_readSum 7 = .ok (.iload_n 2, 1) := by decide +kernel
theorem dX4_readSum_8 : decode cX4_readSum 8 = .ok (.sipush 900, 3) := by decide +kernel
theorem dX4_readSum_11 : decode cX4_readSum 11 = .ok (.if_icmp .ge 69, 3) := by decide +kernel
theorem dX4_readSum_14 : decode cX4_readSum 14 = .ok (.aload_n 0, 1) := by decide +kernel
theorem dX4_readSum_15 : decode cX4_readSum 15 = .ok (.invokevirtual 53, 3) := by decide +kernel
theorem dX4_readSum_18 : decode cX4_readSum 18 = .ok (.bipush 43, 2) := by decide +kernel
theorem dX4_readSum_20 : decode cX4_readSum 20 = .ok (.if_icmp .eq 12, 3) := by decide +kernel
theorem dX4_readSum_23 : decode cX4_readSum 23 = .ok (.aload_n 0, 1) := by decide +kernel
theorem dX4_readSum_24 : decode cX4_readSum 24 = .ok (.invokevirtual 53, 3) := by decide +kernel
theorem dX4_readSum_27 : decode cX4_readSum 27 = .ok (.bipush 45, 2) := by decide +kernel
theorem dX4_readSum_29 : decode cX4_readSum 29 = .ok (.if_icmp .ne 51, 3) := by decide +kernel
theorem dX4_readSum_32 : decode cX4_readSum 32 = .ok (.aload_n 0, 1) := by decide +kernel
theorem dX4_readSum_33 : decode cX4_readSum 33 = .ok (.invokevirtual 53, 3) := by decide +kernel
theorem dX4_readSum_36 : decode cX4_readSum 36 = .ok (.bipush 43, 2) := by decide +kernel
theorem dX4_readSum_38 : decode cX4_readSum 38 = .ok (.if_icmp .ne 8, 3) := by decide +kernel
theorem dX4_readSum_41 : decode cX4_readSum 41 = .ok (.bipush 6, 2) := by decide +kernel
theorem dX4_readSum_43 : decode cX4_readSum 43 = .ok (.goto 5, 3) := by decide +kernel
theorem dX4_readSum_46 : decode cX4_readSum 46 = .ok (.bipush 7, 2) := by decide +kernel
theorem dX4_readSum_48 : decode cX4_readSum 48 = .ok (.istore_n 3, 1) := by decide +kernel
theorem dX4_readSum_49 : decode cX4_readSum 49 = .ok (.aload_n 0, 1) := by decide +kernel
theorem dX4_readSum_50 : decode cX4_readSum 50 = .ok (.dup, 1) := by decide +kernel
theorem dX4_readSum_51 : decode cX4_readSum 51 = .ok (.getfield 37, 3) := by decide +kernel
theorem dX4_readSum_54 : decode cX4_readSum 54 = .ok (.iconst 1, 1) := by decide +kernel
theorem dX4_readSum_55 : decode cX4_readSum 55 = .ok (.iadd, 1) := by decide +kernel
theorem dX4_readSum_56 : decode cX4_readSum 56 = .ok (.putfield 37, 3) := by decide +kernel
theorem dX4_readSum_59 : decode cX4_readSum 59 = .ok (.aload_n 0, 1) := by decide +kernel
theorem dX4_readSum_60 : decode cX4_readSum 60 = .ok (.iload_n 1, 1) := by decide +kernel
theorem dX4_readSum_61 : decode cX4_readSum 61 = .ok (.invokevirtual 210, 3) := by decide +kernel
theorem dX4_readSum_64 : decode cX4_readSum 64 = .ok (.aload_n 0, 1) := by decide +kernel
theorem dX4_readSum_65 : decode cX4_readSum 65 = .ok (.getfield 18, 3) := by decide +kernel
theorem dX4_readSum_68 : decode cX4_readSum 68 = .ok (.iload_n 3, 1) := by decide +kernel
theorem dX4_readSum_69 : decode cX4_readSum 69 = .ok (.lconst 0, 1) := by decide +kernel
theorem dX4_readSum_70 : decode cX4_readSum 70 = .ok (.invokevirtual 67, 3) := by decide +kernel
theorem dX4_readSum_73 : decode cX4_readSum 73 = .ok (.pop, 1) := by decide +kernel
theorem dX4_readSum_74 : decode cX4_readSum 74 = .ok (.iinc 2 1, 3) := by decide +kernel
theorem dX4_readSum_77 : decode cX4_readSum 77 = .ok (.goto (-70), 3) := by decide +kernel
theorem dX4_readSum_80 : decode cX4_readSum 80 = .ok (.return_, 1) := by decide +kernel
theorem dX4_readProduct_0 : decode cX4_readProduct 0 = .ok (.aload_n 0, 1) := by decide +kernel
theorem dX4_readProduct_1 : decode cX4_readProduct 1 = .ok (.iload_n 1, 1) := by decide +kernel
theorem dX4_readProduct_2 : decode cX4_readProduct 2 = .ok (.invokevirtual 213, 3) := by decide +kernel
theorem dX4_readProduct_5 : decode cX4_readProduct 5 = .ok (.aload_n 0, 1) := by decide +kernel
theorem dX4_readProduct_6 : decode cX4_readProduct 6 = .ok (.invokevirtual 53, 3) := by decide +kernel
theorem dX4_readProduct_9 : decode cX4_readProduct 9 = .ok (.invokestatic 216, 3) := by decide +kernel
theorem dX4_readProduct_12 : decode cX4_readProduct 12 = .ok (.istore_n 2, 1) := by decide +kernel
theorem dX4_readProduct_13 : decode cX4_readProduct 13 = .ok (.iconst 0, 1) := by decide +kernel
theorem dX4_readProduct_14 : decode cX4_readProduct 14 = .ok (.istore_n 3, 1) := by decide +kernel
theorem dX4_readProduct_15 : decode cX4_readProduct 15 = .ok (.iload_n 3, 1) := by decide +kernel
theorem dX4_readProduct_16 : decode cX4_readProduct 16 = .ok (.sipush 900, 3) := by decide +kernel
theorem dX4_readProduct_19 : decode cX4_readProduct 19 = .ok (.if_icmp .ge 47, 3) := by decide +kernel
theorem dX4_readProduct_22 : decode cX4_readProduct 22 = .ok (.iload_n 2, 1) := by decide +kernel
theorem dX4_readProduct_23 : decode cX4_readProduct 23 = .ok (.iconst (-1), 1) := by decide +kernel
theorem dX4_readProduct_24 : decode cX4_readProduct 24 = .ok (.if_icmp .eq 42, 3) := by decide +kernel
theorem dX4_readProduct_27 : decode cX4_readProduct 27 = .ok (.aload_n 0, 1) := by decide +kernel
theorem dX4_readProduct_28 : decode cX4_readProduct 28 = .ok (.dup, 1) := by decide +kernel
theorem dX4_readProduct_29 : decode cX4_readProduct 29 = .ok (.getfield 37, 3) := by decide +kernel
theorem dX4_readProduct_32 : decode cX4_readProduct 32 = .ok (.iconst 1, 1) := by decide +kernel
theorem dX4_readProduct_33 : decode cX4_readProduct 33 = .ok (.iadd, 1) := by decide +kernel
theorem dX4_readProduct_34 : decode cX4_readProduct 34 = .ok (.putfield 37, 3) := by decide +kernel
theorem dX4_readProduct_37 : decode cX4_readProduct 37 = .ok (.aload_n 0, 1) := by decide +kernel
theorem dX4_readProduct_38 : decode cX4_readProduct 38 = .ok (.iload_n 1, 1) := by decide +kernel
theorem dX4_readProduct_39 : decode cX4_readProduct 39 = .ok (.invokevirtual 213, 3) := by decide +kernel
theorem dX4_readProduct_42 : decode cX4_readProduct 42 = .ok (.aload_n 0, 1) := by decide +kernel
theorem dX4_readProduct_43 : decode cX4_readProduct 43 = .ok (.getfield 18, 3) := by decide +kernel
theorem dX4_readProduct_46 : decode cX4_readProduct 46 = .ok (.iload_n 2, 1) := by decide +kernel
theorem dX4_readProduct_47 : decode cX4_readProduct 47 = .ok (.lconst 0, 1) := by decide +kernel
theorem dX4_readProduct_48 : decode cX4_readProduct 48 = .ok (.invokevirtual 67, 3) := by decide +kernel
theorem dX4_readProduct_51 : decode cX4_readProduct 51 = .ok (.pop, 1) := by decide +kernel
theorem dX4_readProduct_52 : decode cX4_readProduct 52 = .ok (.aload_n 0, 1) := by decide +kernel
theorem dX4_readProduct_53 : decode cX4_readProduct 53 = .ok (.invokevirtual 53, 3) := by decide +kernel
theorem dX4_readProduct_56 : decode cX4_readProduct 56 = .ok (.invokestatic 216, 3) := by decide +kernel
theorem dX4_readProduct_59 : decode cX4_readProduct 59 = .ok (.istore_n 2, 1) := by decide +kernel
theorem dX4_readProduct_60 : decode cX4_readProduct 60 = .ok (.iinc 3 1, 3) := by decide +kernel
theorem dX4_readProduct_63 : decode cX4_readProduct 63 = .ok (.goto (-48), 3) := by decide +kernel
theorem dX4_readProduct_66 : decode cX4_readProduct 66 = .ok (.return_, 1) := by decide +kernel
theorem dX4_factor_0 : decode cX4_factor 0 = .ok (.iload_n 0, 1) := by decide +kernel
theorem dX4_factor_1 : decode cX4_factor 1 = .ok (.lookupswitch 44 #[(37, 41), (42, 35), (47, 38)], 35) := by decide +kernel
theorem dX4_factor_36 : decode cX4_factor 36 = .ok (.bipush 8, 2) := by decide +kernel
theorem dX4_factor_38 : decode cX4_factor 38 = .ok (.ireturn, 1) := by decide +kernel
theorem dX4_factor_39 : decode cX4_factor 39 = .ok (.bipush 9, 2) := by decide +kernel
theorem dX4_factor_41 : decode cX4_factor 41 = .ok (.ireturn, 1) := by decide +kernel
theorem dX4_factor_42 : decode cX4_factor 42 = .ok (.bipush 10, 2) := by decide +kernel
theorem dX4_factor_44 : decode cX4_factor 44 = .ok (.ireturn, 1) := by decide +kernel
theorem dX4_factor_45 : decode cX4_factor 45 = .ok (.iconst (-1), 1) := by decide +kernel
theorem dX4_factor_46 : decode cX4_factor 46 = .ok (.ireturn, 1) := by decide +kernel
theorem dX4_readOperand_0 : decode cX4_readOperand 0 = .ok (.aload_n 0, 1) := by decide +kernel
theorem dX4_readOperand_1 : decode cX4_readOperand 1 = .ok (.invokevirtual 148, 3) := by decide +kernel
theorem dX4_readOperand_4 : decode cX4_readOperand 4 = .ok (.istore_n 2, 1) := by decide +kernel
theorem dX4_readOperand_5 : decode cX4_readOperand 5 = .ok (.aload_n 0, 1) := by decide +kernel
theorem dX4_readOperand_6 : decode cX4_readOperand 6 = .ok (.invokevirtual 53, 3) := by decide +kernel
theorem dX4_readOperand_9 : decode cX4_readOperand 9 = .ok (.istore_n 3, 1) := by decide +kernel
theorem dX4_readOperand_10 : decode cX4_readOperand 10 = .ok (.iload_n 3, 1) := by decide +kernel
theorem dX4_readOperand_11 : decode cX4_readOperand 11 = .ok (.iconst 3, 1) := by decide +kernel
theorem dX4_readOperand_12 : decode cX4_readOperand 12 = .ok (.if_icmp .ne 25, 3) := by decide +kernel
theorem dX4_readOperand_15 : decode cX4_readOperand 15 = .ok (.aload_n 0, 1) := by decide +kernel
theorem dX4_readOperand_16 : decode cX4_readOperand 16 = .ok (.invokevirtual 152, 3) := by decide +kernel
theorem dX4_readOperand_19 : decode cX4_readOperand 19 = .ok (.istore 4, 2) := by decide +kernel
theorem dX4_readOperand_21 : decode cX4_readOperand 21 = .ok (.iload 4, 2) := by decide +kernel
theorem dX4_readOperand_23 : decode cX4_readOperand 23 = .ok (.iconst (-1), 1) := by decide +kernel
theorem dX4_readOperand_24 : decode cX4_readOperand 24 = .ok (.if_icmp .eq 10, 3) := by decide +kernel
theorem dX4_readOperand_27 : decode cX4_readOperand 27 = .ok (.aload_n 0, 1) := by decide +kernel
theorem dX4_readOperand_28 : decode cX4_readOperand 28 = .ok (.iload 4, 2) := by decide +kernel
theorem dX4_readOperand_30 : decode cX4_readOperand 30 = .ok (.iload_n 1, 1) := by decide +kernel
theorem dX4_readOperand_31 : decode cX4_readOperand 31 = .ok (.invokevirtual 219, 3) := by decide +kernel
theorem dX4_readOperand_34 : decode cX4_readOperand 34 = .ok (.goto 67, 3) := by decide +kernel
theorem dX4_readOperand_37 : decode cX4_readOperand 37 = .ok (.iload_n 3, 1) := by decide +kernel
theorem dX4_readOperand_38 : decode cX4_readOperand 38 = .ok (.bipush 40, 2) := by decide +kernel
theorem dX4_readOperand_40 : decode cX4_readOperand 40 = .ok (.if_icmp .ne 30, 3) := by decide +kernel
theorem dX4_readOperand_43 : decode cX4_readOperand 43 = .ok (.aload_n 0, 1) := by decide +kernel
theorem dX4_readOperand_44 : decode cX4_readOperand 44 = .ok (.dup, 1) := by decide +kernel
theorem dX4_readOperand_45 : decode cX4_readOperand 45 = .ok (.getfield 37, 3) := by decide +kernel
theorem dX4_readOperand_48 : decode cX4_readOperand 48 = .ok (.iconst 1, 1) := by decide +kernel
theorem dX4_readOperand_49 : decode cX4_readOperand 49 = .ok (.iadd, 1) := by decide +kernel
theorem dX4_readOperand_50 : decode cX4_readOperand 50 = .ok (.putfield 37, 3) := by decide +kernel
theorem dX4_readOperand_53 : decode cX4_readOperand 53 = .ok (.aload_n 0, 1) := by decide +kernel
theorem dX4_readOperand_54 : decode cX4_readOperand 54 = .ok (.iload_n 1, 1) := by decide +kernel
theorem dX4_readOperand_55 : decode cX4_readOperand 55 = .ok (.iconst 1, 1) := by decide +kernel
theorem dX4_readOperand_56 : decode cX4_readOperand 56 = .ok (.iadd, 1) := by decide +kernel
theorem dX4_readOperand_57 : decode cX4_readOperand 57 = .ok (.invokevirtual 166, 3) := by decide +kernel
theorem dX4_readOperand_60 : decode cX4_readOperand 60 = .ok (.aload_n 0, 1) := by decide +kernel
theorem dX4_readOperand_61 : decode cX4_readOperand 61 = .ok (.bipush 41, 2) := by decide +kernel
theorem dX4_readOperand_63 : decode cX4_readOperand 63 = .ok (.invokevirtual 103, 3) := by decide +kernel
theorem dX4_readOperand_66 : decode cX4_readOperand 66 = .ok (.pop, 1) := by decide +kernel
theorem dX4_readOperand_67 : decode cX4_readOperand 67 = .ok (.goto 34, 3) := by decide +kernel
theorem dX4_readOperand_70 : decode cX4_readOperand 70 = .ok (.iload_n 3, 1) := by decide +kernel
theorem dX4_readOperand_71 : decode cX4_readOperand 71 = .ok (.sipush 307, 3) := by decide +kernel
theorem dX4_readOperand_74 : decode cX4_readOperand 74 = .ok (.if_icmp .lt 18, 3) := by decide +kernel
theorem dX4_readOperand_77 : decode cX4_readOperand 77 = .ok (.iload_n 3, 1) := by decide +kernel
theorem dX4_readOperand_78 : decode cX4_readOperand 78 = .ok (.sipush 311, 3) := by decide +kernel
theorem dX4_readOperand_81 : decode cX4_readOperand 81 = .ok (.if_icmp .gt 11, 3) := by decide +kernel
theorem dX4_readOperand_84 : decode cX4_readOperand 84 = .ok (.aload_n 0, 1) := by decide +kernel
theorem dX4_readOperand_85 : decode cX4_readOperand 85 = .ok (.iload_n 3, 1) := by decide +kernel
theorem dX4_readOperand_86 : decode cX4_readOperand 86 = .ok (.invokevirtual 222, 3) := by decide +kernel
theorem dX4_readOperand_89 : decode cX4_readOperand 89 = .ok (.goto 12, 3) := by decide +kernel
theorem dX4_readOperand_92 : decode cX4_readOperand 92 = .ok (.aload_n 0, 1) := by decide +kernel
theorem dX4_readOperand_93 : decode cX4_readOperand 93 = .ok (.aload_n 0, 1) := by decide +kernel
theorem dX4_readOperand_94 : decode cX4_readOperand 94 = .ok (.getfield 40, 3) := by decide +kernel
theorem dX4_readOperand_97 : decode cX4_readOperand 97 = .ok (.iload_n 1, 1) := by decide +kernel
theorem dX4_readOperand_98 : decode cX4_readOperand 98 = .ok (.invokevirtual 219, 3) := by decide +kernel
theorem dX4_readOperand_101 : decode cX4_readOperand 101 = .ok (.iload_n 2, 1) := by decide +kernel
theorem dX4_readOperand_102 : decode cX4_readOperand 102 = .ok (.ifCond .eq 13, 3) := by decide +kernel
theorem dX4_readOperand_105 : decode cX4_readOperand 105 = .ok (.aload_n 0, 1) := by decide +kernel
theorem dX4_readOperand_106 : decode cX4_readOperand 106 = .ok (.getfield 18, 3) := by decide +kernel
theorem dX4_readOperand_109 : decode cX4_readOperand 109 = .ok (.iconst 5, 1) := by decide +kernel
theorem dX4_readOperand_110 : decode cX4_readOperand 110 = .ok (.lconst 0, 1) := by decide +kernel
theorem dX4_readOperand_111 : decode cX4_readOperand 111 = .ok (.invokevirtual 67, 3) := by decide +kernel
theorem dX4_readOperand_114 : decode cX4_readOperand 114 = .ok (.pop, 1) := by decide +kernel
theorem dX4_readOperand_115 : decode cX4_readOperand 115 = .ok (.return_, 1) := by decide +kernel
theorem dX4_readSetting_0 : decode cX4_readSetting 0 = .ok (.aload_n 0, 1) := by decide +kernel
theorem dX4_readSetting_1 : decode cX4_readSetting 1 = .ok (.getfield 43, 3) := by decide +kernel
theorem dX4_readSetting_4 : decode cX4_readSetting 4 = .ok (.iload_n 1, 1) := by decide +kernel
theorem dX4_readSetting_5 : decode cX4_readSetting 5 = .ok (.sipush 307, 3) := by decide +kernel
theorem dX4_readSetting_8 : decode cX4_readSetting 8 = .ok (.if_icmp .ne 7, 3) := by decide +kernel
theorem dX4_readSetting_11 : decode cX4_readSetting 11 = .ok (.iconst 1, 1) := by decide +kernel
theorem dX4_readSetting_12 : decode cX4_readSetting 12 = .ok (.goto 4, 3) := by decide +kernel
theorem dX4_readSetting_15 : decode cX4_readSetting 15 = .ok (.iconst 2, 1) := by decide +kernel
theorem dX4_readSetting_16 : decode cX4_readSetting 16 = .ok (.if_icmp .eq 13, 3) := by decide +kernel
theorem dX4_readSetting_19 : decode cX4_readSetting 19 = .ok (.aload_n 0, 1) := by decide +kernel
theorem dX4_readSetting_20 : decode cX4_readSetting 20 = .ok (.bipush 6, 2) := by decide +kernel
theorem dX4_readSetting_22 : decode cX4_readSetting 22 = .ok (.aload_n 0, 1) := by decide +kernel
theorem dX4_readSetting_23 : decode cX4_readSetting 23 = .ok (.invokevirtual 96, 3) := by decide +kernel
theorem dX4_readSetting_26 : decode cX4_readSetting 26 = .ok (.invokevirtual 118, 3) := by decide +kernel
theorem dX4_readSetting_29 : decode cX4_readSetting 29 = .ok (.aload_n 0, 1) := by decide +kernel
theorem dX4_readSetting_30 : decode cX4_readSetting 30 = .ok (.dup, 1) := by decide +kernel
theorem dX4_readSetting_31 : decode cX4_readSetting 31 = .ok (.getfield 37, 3) := by decide +kernel
theorem dX4_readSetting_34 : decode cX4_readSetting 34 = .ok (.iconst 1, 1) := by decide +kernel
theorem dX4_readSetting_35 : decode cX4_readSetting 35 = .ok (.iadd, 1) := by decide +kernel
theorem dX4_readSetting_36 : decode cX4_readSetting 36 = .ok (.putfield 37, 3) := by decide +kernel
theorem dX4_readSetting_39 : decode cX4_readSetting 39 = .ok (.iload_n 1, 1) := by decide +kernel
theorem dX4_readSetting_40 : decode cX4_readSetting 40 = .ok (.sipush 307, 3) := by decide +kernel
theorem dX4_readSetting_43 : decode cX4_readSetting 43 = .ok (.if_icmp .ne 16, 3) := by decide +kernel
theorem dX4_readSetting_46 : decode cX4_readSetting 46 = .ok (.aload_n 0, 1) := by decide +kernel
theorem dX4_readSetting_47 : decode cX4_readSetting 47 = .ok (.getfield 18, 3) := by decide +kernel
theorem dX4_readSetting_50 : decode cX4_readSetting 50 = .ok (.iconst 1, 1) := by decide +kernel
theorem dX4_readSetting_51 : decode cX4_readSetting 51 = .ok (.lconst 0, 1) := by decide +kernel
theorem dX4_readSetting_52 : decode cX4_readSetting 52 = .ok (.invokevirtual 67, 3) := by decide +kernel
theorem dX4_readSetting_55 : decode cX4_readSetting 55 = .ok (.pop, 1) := by decide +kernel
theorem dX4_readSetting_56 : decode cX4_readSetting 56 = .ok (.goto 18, 3) := by decide +kernel
theorem dX4_readSetting_59 : decode cX4_readSetting 59 = .ok (.aload_n 0, 1) := by decide +kernel
theorem dX4_readSetting_60 : decode cX4_readSetting 60 = .ok (.getfield 18, 3) := by decide +kernel
theorem dX4_readSetting_63 : decode cX4_readSetting 63 = .ok (.iconst 2, 1) := by decide +kernel
theorem dX4_readSetting_64 : decode cX4_readSetting 64 = .ok (.iload_n 1, 1) := by decide +kernel
theorem dX4_readSetting_65 : decode cX4_readSetting 65 = .ok (.sipush 308, 3) := by decide +kernel
theorem dX4_readSetting_68 : decode cX4_readSetting 68 = .ok (.isub, 1) := by decide +kernel
theorem dX4_readSetting_69 : decode cX4_readSetting 69 = .ok (.i2l, 1) := by decide +kernel
theorem dX4_readSetting_70 : decode cX4_readSetting 70 = .ok (.invokevirtual 67, 3) := by decide +kernel
theorem dX4_readSetting_73 : decode cX4_readSetting 73 = .ok (.pop, 1) := by decide +kernel
theorem dX4_readSetting_74 : decode cX4_readSetting 74 = .ok (.return_, 1) := by decide +kernel
theorem dX4_readReference_0 : decode cX4_readReference 0 = .ok (.aload_n 0, 1) := by decide +kernel
theorem dX4_readReference_1 : decode cX4_readReference 1 = .ok (.invokevirtual 99, 3) := by decide +kernel
theorem dX4_readReference_4 : decode cX4_readReference 4 = .ok (.lstore_n 3, 1) := by decide +kernel
theorem dX4_readReference_5 : decode cX4_readReference 5 = .ok (.aload_n 0, 1) := by decide +kernel
theorem dX4_readReference_6 : decode cX4_readReference 6 = .ok (.iconst 2, 1) := by decide +kernel
theorem dX4_readReference_7 : decode cX4_readReference 7 = .ok (.invokevirtual 103, 3) := by decide +kernel
theorem dX4_readReference_10 : decode cX4_readReference 10 = .ok (.ifCond .ne 4, 3) := by decide +kernel
theorem dX4_readReference_13 : decode cX4_readReference 13 = .ok (.return_, 1) := by decide +kernel
theorem dX4_readReference_14 : decode cX4_readReference 14 = .ok (.aload_n 0, 1) := by decide +kernel
theorem dX4_readReference_15 : decode cX4_readReference 15 = .ok (.invokevirtual 53, 3) := by decide +kernel
theorem dX4_readReference_18 : decode cX4_readReference 18 = .ok (.bipush 91, 2) := by decide +kernel
theorem dX4_readReference_20 : decode cX4_readReference 20 = .ok (.if_icmp .eq 14, 3) := by decide +kernel
theorem dX4_readReference_23 : decode cX4_readReference 23 = .ok (.aload_n 0, 1) := by decide +kernel
theorem dX4_readReference_24 : decode cX4_readReference 24 = .ok (.getfield 18, 3) := by decide +kernel
theorem dX4_readReference_27 : decode cX4_readReference 27 = .ok (.iconst 3, 1) := by decide +kernel
theorem dX4_readReference_28 : decode cX4_readReference 28 = .ok (.iload_n 1, 1) := by decide +kernel
theorem dX4_readReference_29 : decode cX4_readReference 29 = .ok (.lload_n 3, 1) := by decide +kernel
theorem dX4_readReference_30 : decode cX4_readReference 30 = .ok (.invokevirtual 158, 3) := by decide +kernel
theorem dX4_readReference_33 : decode cX4_readReference 33 = .ok (.return_, 1) := by decide +kernel
theorem dX4_readReference_34 : decode cX4_readReference 34 = .ok (.aload_n 0, 1) := by decide +kernel
theorem dX4_readReference_35 : decode cX4_readReference 35 = .ok (.dup, 1) := by decide +kernel
theorem dX4_readReference_36 : decode cX4_readReference 36 = .ok (.getfield 37, 3) := by decide +kernel
theorem dX4_readReference_39 : decode cX4_readReference 39 = .ok (.iconst 1, 1) := by decide +kernel
theorem dX4_readReference_40 : decode cX4_readReference 40 = .ok (.iadd, 1) := by decide +kernel
theorem dX4_readReference_41 : decode cX4_readReference 41 = .ok (.putfield 37, 3) := by decide +kernel
theorem dX4_readReference_44 : decode cX4_readReference 44 = .ok (.aload_n 0, 1) := by decide +kernel
theorem dX4_readReference_45 : decode cX4_readReference 45 = .ok (.iload_n 2, 1) := by decide +kernel
theorem dX4_readReference_46 : decode cX4_readReference 46 = .ok (.iconst 1, 1) := by decide +kernel
theorem dX4_readReference_47 : decode cX4_readReference 47 = .ok (.iadd, 1) := by decide +kernel
theorem dX4_readReference_48 : decode cX4_readReference 48 = .ok (.invokevirtual 166, 3) := by decide +kernel
theorem dX4_readReference_51 : decode cX4_readReference 51 = .ok (.aload_n 0, 1) := by decide +kernel
theorem dX4_readReference_52 : decode cX4_readReference 52 = .ok (.bipush 93, 2) := by decide +kernel
theorem dX4_readReference_54 : decode cX4_readReference 54 = .ok (.invokevirtual 103, 3) := by decide +kernel
theorem dX4_readReference_57 : decode cX4_readReference 57 = .ok (.pop, 1) := by decide +kernel
theorem dX4_readReference_58 : decode cX4_readReference 58 = .ok (.aload_n 0, 1) := by decide +kernel
theorem dX4_readReference_59 : decode cX4_readReference 59 = .ok (.getfield 18, 3) := by decide +kernel
theorem dX4_readReference_62 : decode cX4_readReference 62 = .ok (.iconst 4, 1) := by decide +kernel
theorem dX4_readReference_63 : decode cX4_readReference 63 = .ok (.iload_n 1, 1) := by decide +kernel
theorem dX4_readReference_64 : decode cX4_readReference 64 = .ok (.lload_n 3, 1) := by decide +kernel
theorem dX4_readReference_65 : decode cX4_readReference 65 = .ok (.invokevirtual 158, 3) := by decide +kernel
theorem dX4_readReference_68 : decode cX4_readReference 68 = .ok (.return_, 1) := by decide +kernel
theorem dX5_init_0 : decode cX5_init 0 = .ok (.aload_n 0, 1) := by decide +kernel
theorem dX5_init_1 : decode cX5_init 1 = .ok (.invokespecial 3, 3) := by decide +kernel
theorem dX5_init_4 : decode cX5_init 4 = .ok (.aload_n 0, 1) := by decide +kernel
theorem dX5_init_5 : decode cX5_init 5 = .ok (.aload_n 1, 1) := by decide +kernel
theorem dX5_init_6 : decode cX5_init 6 = .ok (.putfield 9, 3) := by decide +kernel
theorem dX5_init_9 : decode cX5_init 9 = .ok (.aload_n 0, 1) := by decide +kernel
theorem dX5_init_10 : decode cX5_init 10 = .ok (.sipush 240, 3) := by decide +kernel
theorem dX5_init_13 : decode cX5_init 13 = .ok (.newarray .int, 2) := by decide +kernel
theorem dX5_init_15 : decode cX5_init 15 = .ok (.putfield 15, 3) := by decide +kernel
theorem dX5_init_18 : decode cX5_init 18 = .ok (.aload_n 0, 1) := by decide +kernel
theorem dX5_init_19 : decode cX5_init 19 = .ok (.iconst 4, 1) := by decide +kernel
theorem dX5_init_20 : decode cX5_init 20 = .ok (.newarray .long, 2) := by decide +kernel
theorem dX5_init_22 : decode cX5_init 22 = .ok (.putfield 19, 3) := by decide +kernel
theorem dX5_init_25 : decode cX5_init 25 = .ok (.return_, 1) := by decide +kernel
theorem dX5_settleAll_0 : decode cX5_settleAll 0 = .ok (.iconst 0, 1) := by decide +kernel
theorem dX5_settleAll_1 : decode cX5_settleAll 1 = .ok (.istore_n 1, 1) := by decide +kernel
theorem dX5_settleAll_2 : decode cX5_settleAll 2 = .ok (.iload_n 1, 1) := by decide +kernel
theorem dX5_settleAll_3 : decode cX5_settleAll 3 = .ok (.bipush 30, 2) := by decide +kernel
theorem dX5_settleAll_5 : decode cX5_settleAll 5 = .ok (.if_icmp .ge 75, 3) := by decide +kernel
theorem dX5_settleAll_8 : decode cX5_settleAll 8 = .ok (.aload_n 0, 1) := by decide +kernel
theorem dX5_settleAll_9 : decode cX5_settleAll 9 = .ok (.getfield 9, 3) := by decide +kernel
theorem dX5_settleAll_12 : decode cX5_settleAll 12 = .ok (.getfield 23, 3) := by decide +kernel
theorem dX5_settleAll_15 : decode cX5_settleAll 15 = .ok (.iload_n 1, 1) := by decide +kernel
theorem dX5_settleAll_16 : decode cX5_settleAll 16 = .ok (.aaload, 1) := by decide +kernel
theorem dX5_settleAll_17 : decode cX5_settleAll 17 = .ok (.astore_n 2, 1) := by decide +kernel
theorem dX5_settleAll_18 : decode cX5_settleAll 18 = .ok (.aload_n 2, 1) := by decide +kernel
theorem dX5_settleAll_19 : decode cX5_settleAll 19 = .ok (.getfield 29, 3) := by decide +kernel
theorem dX5_settleAll_22 : decode cX5_settleAll 22 = .ok (.ifnonnull 7, 3) := by decide +kernel
theorem dX5_settleAll_25 : decode cX5_settleAll 25 = .ok (.iconst 0, 1) := by decide +kernel
theorem dX5_settleAll_26 : decode cX5_settleAll 26 = .ok (.goto 11, 3) := by decide +kernel
theorem dX5_settleAll_29 : decode cX5_settleAll 29 = .ok (.aload_n 2, 1) := by decide +kernel
theorem dX5_settleAll_30 : decode cX5_settleAll 30 = .ok (.getfield 29, 3) := by decide +kernel
theorem dX5_settleAll_33 : decode cX5_settleAll 33 = .ok (.getfield 35, 3) := by decide +kernel
theorem dX5_settleAll_36 : decode cX5_settleAll 36 = .ok (.arraylength, 1) := by decide +kernel
theorem dX5_settleAll_37 : decode cX5_settleAll 37 = .ok (.istore_n 3, 1) := by decide +kernel
theorem dX5_settleAll_38 : decode cX5_settleAll 38 = .ok (.iconst 0, 1) := by decide +kernel
theorem dX5_settleAll_39 : decode cX5_settleAll 39 = .ok (.istore 4, 2) := by decide +kernel
theorem dX5_settleAll_41 : decode cX5_settleAll 41 = .ok (.iload 4, 2) := by decide +kernel
theorem dX5_settleAll_43 : decode cX5_settleAll 43 = .ok (.iload_n 3, 1) := by decide +kernel
theorem dX5_settleAll_44 : decode cX5_settleAll 44 = .ok (.if_icmp .ge 30, 3) := by decide +kernel
theorem dX5_settleAll_47 : decode cX5_settleAll 47 = .ok (.aload_n 2, 1) := by decide +kernel
theorem dX5_settleAll_48 : decode cX5_settleAll 48 = .ok (.getfield 40, 3) := by decide +kernel
theorem dX5_settleAll_51 : decode cX5_settleAll 51 = .ok (.iload 4, 2) := by decide +kernel
theorem dX5_settleAll_53 : decode cX5_settleAll 53 = .ok (.iaload, 1) := by decide +kernel
theorem dX5_settleAll_54 : decode cX5_settleAll 54 = .ok (.ifCond .ne 14, 3) := by decide +kernel
theorem dX5_settleAll_57 : decode cX5_settleAll 57 = .ok (.aload_n 0, 1) := by decide +kernel
theorem dX5_settleAll_58 : decode cX5_settleAll 58 = .ok (.iload_n 1, 1) := by decide +kernel
theorem dX5_settleAll_59 : decode cX5_settleAll 59 = .ok (.bipush 8, 2) := by decide +kernel
theorem dX5_settleAll_61 : decode cX5_settleAll 61 = .ok (.imul, 1) := by decide +kernel
theorem dX5_settleAll_62 : decode cX5_settleAll 62 = .ok (.iload 4, 2) := by decide +kernel
theorem dX5_settleAll_64 : decode cX5_settleAll 64 = .ok (.iadd, 1) := by decide +kernel
theorem dX5_settleAll_65 : decode cX5_settleAll 65 = .ok (.invokevirtual 43, 3) := by decide +kernel
theorem dX5_settleAll_68 : decode cX5_settleAll 68 = .ok (.iinc 4 1, 3) := by decide +kernel
theorem dX5_settleAll_71 : decode cX5_settleAll 71 = .ok (.goto (-30), 3) := by decide +kernel
theorem dX5_settleAll_74 : decode cX5_settleAll 74 = .ok (.iinc 1 1, 3) := by decide +kernel
theorem dX5_settleAll_77 : decode cX5_settleAll 77 = .ok (.goto (-75), 3) := by decide +kernel
theorem dX5_settleAll_80 : decode cX5_settleAll 80 = .ok (.return_, 1) := by decide +kernel
theorem dX5_settle_0 : decode cX5_settle 0 = .ok (.aload_n 0, 1) := by decide +kernel
theorem dX5_settle_1 : decode cX5_settle 1 = .ok (.iconst 0, 1) := by decide +kernel
theorem dX5_settle_2 : decode cX5_settle 2 = .ok (.putfield 47, 3) := by decide +kernel
theorem dX5_settle_5 : decode cX5_settle 5 = .ok (.aload_n 0, 1) := by decide +kernel
theorem dX5_settle_6 : decode cX5_settle 6 = .ok (.iload_n 1, 1) := by decide +kernel
theorem dX5_settle_7 : decode cX5_settle 7 = .ok (.invokevirtual 51, 3) := by decide +kernel
theorem dX5_settle_10 : decode cX5_settle 10 = .ok (.iconst 0, 1) := by decide +kernel
theorem dX5_settle_11 : decode cX5_settle 11 = .ok (.istore_n 2, 1) := by decide +kernel
theorem dX5_settle_12 : decode cX5_settle 12 = .ok (.iload_n 2, 1) := by decide +kernel
theorem dX5_settle_13 : decode cX5_settle 13 = .ok (.ldc 54, 2) := by decide +kernel
theorem dX5_settle_15 : decode cX5_settle 15 = .ok (.if_icmp .ge 116, 3) := by decide +kernel
theorem dX5_settle_18 : decode cX5_settle 18 = .ok (.aload_n 0, 1) := by decide +kernel
theorem dX5_settle_19 : decode cX5_settle 19 = .ok (.getfield 47, 3) := by decide +kernel
theorem dX5_settle_22 : decode cX5_settle 22 = .ok (.ifCond .le 109, 3) := by decide +kernel
theorem dX5_settle_25 : decode cX5_settle 25 = .ok (.aload_n 0, 1) := by decide +kernel
theorem dX5_settle_26 : decode cX5_settle 26 = .ok (.getfield 15, 3) := by decide +kernel
theorem dX5_settle_29 : decode cX5_settle 29 = .ok (.aload_n 0, 1) := by decide +kernel
theorem dX5_settle_30 : decode cX5_settle 30 = .ok (.getfield 47, 3) := by decide +kernel
theorem dX5_settle_33 : decode cX5_settle 33 = .ok (.iconst 1, 1) := by decide +kernel
theorem dX5_settle_34 : decode cX5_settle 34 = .ok (.isub, 1) := by decide +kernel
theorem dX5_settle_35 : decode cX5_settle 35 = .ok (.iaload, 1) := by decide +kernel
theorem dX5_settle_36 : decode cX5_settle 36 = .ok (.istore_n 3, 1) := by decide +kernel
theorem dX5_settle_37 : decode cX5_settle 37 = .ok (.aload_n 0, 1) := by decide +kernel
theorem dX5_settle_38 : decode cX5_settle 38 = .ok (.iload_n 3, 1) := by decide +kernel
theorem dX5_settle_39 : decode cX5_settle 39 = .ok (.invokevirtual 55, 3) := by decide +kernel
theorem dX5_settle_42 : decode cX5_settle 42 = .ok (.istore 4, 2) := by decide +kernel
theorem dX5_settle_44 : decode cX5_settle 44 = .ok (.iload 4, 2) := by decide +kernel
theorem dX5_settle_46 : decode cX5_settle 46 = .ok (.iconst (-1), 1) := by decide +kernel
theorem dX5_settle_47 : decode cX5_settle 47 = .ok (.if_icmp .ne 48, 3) := by decide +kernel
theorem dX5_settle_50 : decode cX5_settle 50 = .ok (.aload_n 0, 1) := by decide +kernel
theorem dX5_settle_51 : decode cX5_settle 51 = .ok (.getfield 9, 3) := by decide +kernel
theorem dX5_settle_54 : decode cX5_settle 54 = .ok (.getfield 23, 3) := by decide +kernel
theorem dX5_settle_57 : decode cX5_settle 57 = .ok (.iload_n 3, 1) := by decide +kernel
theorem dX5_settle_58 : decode cX5_settle 58 = .ok (.bipush 8, 2) := by decide +kernel
theorem dX5_settle_60 : decode cX5_settle 60 = .ok (.idiv, 1) := by decide +kernel
theorem dX5_settle_61 : decode cX5_settle 61 = .ok (.aaload, 1) := by decide +kernel
theorem dX5_settle_62 : decode cX5_settle 62 = .ok (.getfield 59, 3) := by decide +kernel
theorem dX5_settle_65 : decode cX5_settle 65 = .ok (.iload_n 3, 1) := by decide +kernel
theorem dX5_settle_66 : decode cX5_settle 66 = .ok (.bipush 8, 2) := by decide +kernel
theorem dX5_settle_68 : decode cX5_settle 68 = .ok (.irem, 1) := by decide +kernel
theorem dX5_settle_69 : decode cX5_settle 69 = .ok (.aload_n 0, 1) := by decide +kernel
theorem dX5_settle_70 : decode cX5_settle 70 = .ok (.getfield 19, 3) := by decide +kernel
theorem dX5_settle_73 : decode cX5_settle 73 = .ok (.iconst 0, 1) := by decide +kernel
theorem dX5_settle_74 : decode cX5_settle 74 = .ok (.laload, 1) := by decide +kernel
theorem dX5_settle_75 : decode cX5_settle 75 = .ok (.lastore, 1) := by decide +kernel
theorem dX5_settle_76 : decode cX5_settle 76 = .ok (.aload_n 0, 1) := by decide +kernel
theorem dX5_settle_77 : decode cX5_settle 77 = .ok (.iload_n 3, 1) := by decide +kernel
theorem dX5_settle_78 : decode cX5_settle 78 = .ok (.iconst 2, 1) := by decide +kernel
theorem dX5_settle_79 : decode cX5_settle 79 = .ok (.invokevirtual 62, 3) := by decide +kernel
theorem dX5_settle_82 : decode cX5_settle 82 = .ok (.aload_n 0, 1) := by decide +kernel
theorem dX5_settle_83 : decode cX5_settle 83 = .ok (.dup, 1) := by decide +kernel
theorem dX5_settle_84 : decode cX5_settle 84 = .ok (.getfield 47, 3) := by decide +kernel
theorem dX5_settle_87 : decode cX5_settle 87 = .ok (.iconst 1, 1) := by decide +kernel
theorem dX5_settle_88 : decode cX5_settle 88 = .ok (.isub, 1) := by decide +kernel
theorem dX5_settle_89 : decode cX5_settle 89 = .ok (.putfield 47, 3) := by decide +kernel
theorem dX5_settle_92 : decode cX5_settle 92 = .ok (.goto 33, 3) := by decide +kernel
theorem dX5_settle_95 : decode cX5_settle 95 = .ok (.iload 4, 2) := by decide +kernel
theorem dX5_settle_97 : decode cX5_settle 97 = .ok (.bipush (-2), 2) := by decide +kernel
theorem dX5_settle_99 : decode cX5_settle 99 = .ok (.if_icmp .eq 13, 3) := by decide +kernel
theorem dX5_settle_102 : decode cX5_settle 102 = .ok (.aload_n 0, 1) := by decide +kernel
theorem dX5_settle_103 : decode cX5_settle 103 = .ok (.iload 4, 2) := by decide +kernel
theorem dX5_settle_105 : decode cX5_settle 105 = .ok (.invokevirtual 66, 3) := by decide +kernel
theorem dX5_settle_108 : decode cX5_settle 108 = .ok (.iconst 1, 1) := by decide +kernel
theorem dX5_settle_109 : decode cX5_settle 109 = .ok (.if_icmp .ne 10, 3) := by decide +kernel
theorem dX5_settle_112 : decode cX5_settle 112 = .ok (.aload_n 0, 1) := by decide +kernel
theorem dX5_settle_113 : decode cX5_settle 113 = .ok (.invokevirtual 69, 3) := by decide +kernel
theorem dX5_settle_116 : decode cX5_settle 116 = .ok (.goto 9, 3) := by decide +kernel
theorem dX5_settle_119 : decode cX5_settle 119 = .ok (.aload_n 0, 1) := by decide +kernel
theorem dX5_settle_120 : decode cX5_settle 120 = .ok (.iload 4, 2) := by decide +kernel
theorem dX5_settle_122 : decode cX5_settle 122 = .ok (.invokevirtual 51, 3) := by decide +kernel
theorem dX5_settle_125 : decode cX5_settle 125 = .ok (.iinc 2 1, 3) := by decide +kernel
theorem dX5_settle_128 : decode cX5_settle 128 = .ok (.goto (-116), 3) := by decide +kernel
theorem dX5_settle_131 : decode cX5_settle 131 = .ok (.return_, 1) := by decide +kernel
theorem dX5_push_0 : decode cX5_push 0 = .ok (.aload_n 0, 1) := by decide +kernel
theorem dX5_push_1 : decode cX5_push 1 = .ok (.getfield 47, 3) := by decide +kernel
theorem dX5_push_4 : decode cX5_push 4 = .ok (.aload_n 0, 1) := by decide +kernel
theorem dX5_push_5 : decode cX5_push 5 = .ok (.getfield 15, 3) := by decide +kernel
theorem dX5_push_8 : decode cX5_push 8 = .ok (.arraylength, 1) := by decide +kernel
theorem dX5_push_9 : decode cX5_push 9 = .ok (.if_icmp .ge 29, 3) := by decide +kernel
theorem dX5_push_12 : decode cX5_push 12 = .ok (.aload_n 0, 1) := by decide +kernel
theorem dX5_push_13 : decode cX5_push 13 = .ok (.getfield 15, 3) := by decide +kernel
theorem dX5_push_16 : decode cX5_push 16 = .ok (.aload_n 0, 1) := by decide +kernel
theorem dX5_push_17 : decode cX5_push 17 = .ok (.getfield 47, 3) := by decide +kernel
theorem dX5_push_20 : decode cX5_push 20 = .ok (.iload_n 1, 1) := by decide +kernel
theorem dX5_push_21 : decode cX5_push 21 = .ok (.iastore, 1) := by decide +kernel
theorem dX5_push_22 : decode cX5_push 22 = .ok (.aload_n 0, 1) := by decide +kernel
theorem dX5_push_23 : decode cX5_push 23 = .ok (.dup, 1) := by decide +kernel
theorem dX5_push_24 : decode cX5_push 24 = .ok (.getfield 47, 3) := by decide +kernel
theorem dX5_push_27 : decode cX5_push 27 = .ok (.iconst 1, 1) := by decide +kernel
theorem dX5_push_28 : decode cX5_push 28 = .ok (.iadd, 1) := by decide +kernel
theorem dX5_push_29 : decode cX5_push 29 = .ok (.putfield 47, 3) := by decide +kernel
theorem dX5_push_32 : decode cX5_push 32 = .ok (.aload_n 0, 1) := by decide +kernel
theorem dX5_push_33 : decode cX5_push 33 = .ok (.iload_n 1, 1) := by decide +kernel
theorem dX5_push_34 : decode cX5_push 34 = .ok (.iconst 1, 1) := by decide +kernel
theorem dX5_push_35 : decode cX5_push 35 = .ok (.invokevirtual 62, 3) := by decide +kernel
theorem dX5_push_38 : decode cX5_push 38 = .ok (.return_, 1) := by decide +kernel
theorem dX5_loseOpen_0 : decode cX5_loseOpen 0 = .ok (.iconst 0, 1) := by decide +kernel
theorem dX5_loseOpen_1 : decode cX5_loseOpen 1 = .ok (.istore_n 1, 1) := by decide +kernel
theorem dX5_loseOpen_2 : decode cX5_loseOpen 2 = .ok (.iload_n 1, 1) := by decide +kernel
theorem dX5_loseOpen_3 : decode cX5_loseOpen 3 = .ok (.aload_n 0, 1) := by decide +kernel
theorem dX5_loseOpen_4 : decode cX5_loseOpen 4 = .ok (.getfield 47, 3) := by decide +kernel
theorem dX5_loseOpen_7 : decode cX5_loseOpen 7 = .ok (.if_icmp .ge 20, 3) := by decide +kernel
theorem dX5_loseOpen_10 : decode cX5_loseOpen 10 = .ok (.aload_n 0, 1) := by decide +kernel
theorem dX5_loseOpen_11 : decode cX5_loseOpen 11 = .ok (.aload_n 0, 1) := by decide +kernel
theorem dX5_loseOpen_12 : decode cX5_loseOpen 12 = .ok (.getfield 15, 3) := by decide +kernel
theorem dX5_loseOpen_15 : decode cX5_loseOpen 15 = .ok (.iload_n 1, 1) := by decide +kernel
theorem dX5_loseOpen_16 : decode cX5_loseOpen 16 = .ok (.iaload, 1) := by decide +kernel
theorem dX5_loseOpen_17 : decode cX5_loseOpen 17 = .ok (.iconst 3, 1) := by decide +kernel
theorem dX5_loseOpen_18 : decode cX5_loseOpen 18 = .ok (.invokevirtual 62, 3) := by decide +kernel
theorem dX5_loseOpen_21 : decode cX5_loseOpen 21 = .ok (.iinc 1 1, 3) := by decide +kernel
theorem dX5_loseOpen_24 : decode cX5_loseOpen 24 = .ok (.goto (-22), 3) := by decide +kernel
theorem dX5_loseOpen_27 : decode cX5_loseOpen 27 = .ok (.aload_n 0, 1) := by decide +kernel
theorem dX5_loseOpen_28 : decode cX5_loseOpen 28 = .ok (.iconst 0, 1) := by decide +kernel
theorem dX5_loseOpen_29 : decode cX5_loseOpen 29 = .ok (.putfield 47, 3) := by decide +kernel
theorem dX5_loseOpen_32 : decode cX5_loseOpen 32 = .ok (.return_, 1) := by decide +kernel
theorem dX5_markOf_0 : decode cX5_markOf 0 = .ok (.aload_n 0, 1) := by decide +kernel
theorem dX5_markOf_1 : decode cX5_markOf 1 = .ok (.getfield 9, 3) := by decide +kernel
theorem dX5_markOf_4 : decode cX5_markOf 4 = .ok (.getfield 23, 3) := by decide +kernel
theorem dX5_markOf_7 : decode cX5_markOf 7 = .ok (.iload_n 1, 1) := by decide +kernel
theorem dX5_markOf_8 : decode cX5_markOf 8 = .ok (.bipush 8, 2) := by decide +kernel
theorem dX5_markOf_10 : decode cX5_markOf 10 = .ok (.idiv, 1) := by decide +kernel
theorem dX5_markOf_11 : decode cX5_markOf 11 = .ok (.aaload, 1) := by decide +kernel
theorem dX5_markOf_12 : decode cX5_markOf 12 = .ok (.getfield 40, 3) := by decide +kernel
theorem dX5_markOf_15 : decode cX5_markOf 15 = .ok (.iload_n 1, 1) := by decide +kernel
theorem dX5_markOf_16 : decode cX5_markOf 16 = .ok (.bipush 8, 2) := by decide +kernel
theorem dX5_markOf_18 : decode cX5_markOf 18 = .ok (.irem, 1) := by decide +kernel
theorem dX5_markOf_19 : decode cX5_markOf 19 = .ok (.iaload, 1) := by decide +kernel
theorem dX5_markOf_20 : decode cX5_markOf 20 = .ok (.ireturn, 1) := by decide +kernel
theorem dX5_mark_0 : decode cX5_mark 0 = .ok (.aload_n 0, 1) := by decide +kernel
theorem dX5_mark_1 : decode cX5_mark 1 = .ok (.getfield 9, 3) := by decide +kernel
theorem dX5_mark_4 : decode cX5_mark 4 = .ok (.getfield 23, 3) := by decide +kernel
theorem dX5_mark_7 : decode cX5_mark 7 = .ok (.iload_n 1, 1) := by decide +kernel
theorem dX5_mark_8 : decode cX5_mark 8 = .ok (.bipush 8, 2) := by decide +kernel
theorem dX5_mark_10 : decode cX5_mark 10 = .ok (.idiv, 1) := by decide +kernel
theorem dX5_mark_11 : decode cX5_mark 11 = .ok (.aaload, 1) := by decide +kernel
theorem dX5_mark_12 : decode cX5_mark 12 = .ok (.getfield 40, 3) := by decide +kernel
theorem dX5_mark_15 : decode cX5_mark 15 = .ok (.iload_n 1, 1) := by decide +kernel
theorem dX5_mark_16 : decode cX5_mark 16 = .ok (.bipush 8, 2) := by decide +kernel
theorem dX5_mark_18 : decode cX5_mark 18 = .ok (.irem, 1) := by decide +kernel
theorem dX5_mark_19 : decode cX5_mark 19 = .ok (.iload_n 2, 1) := by decide +kernel
theorem dX5_mark_20 : decode cX5_mark 20 = .ok (.iastore, 1) := by decide +kernel
theorem dX5_mark_21 : decode cX5_mark 21 = .ok (.return_, 1) := by decide +kernel
theorem dX5_evaluate_0 : decode cX5_evaluate 0 = .ok (.aload_n 0, 1) := by decide +kernel
theorem dX5_evaluate_1 : decode cX5_evaluate 1 = .ok (.getfield 9, 3) := by decide +kernel
theorem dX5_evaluate_4 : decode cX5_evaluate 4 = .ok (.getfield 23, 3) := by decide +kernel
theorem dX5_evaluate_7 : decode cX5_evaluate 7 = .ok (.iload_n 1, 1) := by decide +kernel
theorem dX5_evaluate_8 : decode cX5_evaluate 8 = .ok (.bipush 8, 2) := by decide +kernel
theorem dX5_evaluate_10 : decode cX5_evaluate 10 = .ok (.idiv, 1) := by decide +kernel
theorem dX5_evaluate_11 : decode cX5_evaluate 11 = .ok (.aaload, 1) := by decide +kernel
theorem dX5_evaluate_12 : decode cX5_evaluate 12 = .ok (.getfield 29, 3) := by decide +kernel
theorem dX5_evaluate_15 : decode cX5_evaluate 15 = .ok (.astore_n 2, 1) := by decide +kernel
theorem dX5_evaluate_16 : decode cX5_evaluate 16 = .ok (.aload_n 2, 1) := by decide +kernel
theorem dX5_evaluate_17 : decode cX5_evaluate 17 = .ok (.ifnull 15, 3) := by decide +kernel
theorem dX5_evaluate_20 : decode cX5_evaluate 20 = .ok (.iload_n 1, 1) := by decide +kernel
theorem dX5_evaluate_21 : decode cX5_evaluate 21 = .ok (.bipush 8, 2) := by decide +kernel
theorem dX5_evaluate_23 : decode cX5_evaluate 23 = .ok (.irem, 1) := by decide +kernel
theorem dX5_evaluate_24 : decode cX5_evaluate 24 = .ok (.aload_n 2, 1) := by decide +kernel
theorem dX5_evaluate_25 : decode cX5_evaluate 25 = .ok (.getfield 72, 3) := by decide +kernel
theorem dX5_evaluate_28 : decode cX5_evaluate 28 = .ok (.arraylength, 1) := by decide +kernel
theorem dX5_evaluate_29 : decode cX5_evaluate 29 = .ok (.if_icmp .lt 6, 3) := by decide +kernel
theorem dX5_evaluate_32 : decode cX5_evaluate 32 = .ok (.bipush (-2), 2) := by decide +kernel
theorem dX5_evaluate_34 : decode cX5_evaluate 34 = .ok (.ireturn, 1) := by decide +kernel
theorem dX5_evaluate_35 : decode cX5_evaluate 35 = .ok (.aload_n 0, 1) := by decide +kernel
theorem dX5_evaluate_36 : decode cX5_evaluate 36 = .ok (.iconst 0, 1) := by decide +kernel
theorem dX5_evaluate_37 : decode cX5_evaluate 37 = .ok (.putfield 75, 3) := by decide +kernel
theorem dX5_evaluate_40 : decode cX5_evaluate 40 = .ok (.aload_n 2, 1) := by decide +kernel
theorem dX5_evaluate_41 : decode cX5_evaluate 41 = .ok (.getfield 72, 3) := by decide +kernel
theorem dX5_evaluate_44 : decode cX5_evaluate 44 = .ok (.iload_n 1, 1) := by decide +kernel
theorem dX5_evaluate_45 : decode cX5_evaluate 45 = .ok (.bipush 8, 2) := by decide +kernel
theorem dX5_evaluate_47 : decode cX5_evaluate 47 = .ok (.irem, 1) := by decide +kernel
theorem dX5_evaluate_48 : decode cX5_evaluate 48 = .ok (.iaload, 1) := by decide +kernel
theorem dX5_evaluate_49 : decode cX5_evaluate 49 = .ok (.istore_n 3, 1) := by decide +kernel
theorem dX5_evaluate_50 : decode cX5_evaluate 50 = .ok (.iload_n 3, 1) := by decide +kernel
theorem dX5_evaluate_51 : decode cX5_evaluate 51 = .ok (.aload_n 2, 1) := by decide +kernel
theorem dX5_evaluate_52 : decode cX5_evaluate 52 = .ok (.getfield 78, 3) := by decide +kernel
theorem dX5_evaluate_55 : decode cX5_evaluate 55 = .ok (.arraylength, 1) := by decide +kernel
theorem dX5_evaluate_56 : decode cX5_evaluate 56 = .ok (.if_icmp .ge 81, 3) := by decide +kernel
theorem dX5_evaluate_59 : decode cX5_evaluate 59 = .ok (.aload_n 2, 1) := by decide +kernel
theorem dX5_evaluate_60 : decode cX5_evaluate 60 = .ok (.getfield 78, 3) := by decide +kernel
theorem dX5_evaluate_63 : decode cX5_evaluate 63 = .ok (.iload_n 3, 1) := by decide +kernel
theorem dX5_evaluate_64 : decode cX5_evaluate 64 = .ok (.iaload, 1) := by decide +kernel
theorem dX5_evaluate_65 : decode cX5_evaluate 65 = .ok (.istore 4, 2) := by decide +kernel
theorem dX5_evaluate_67 : decode cX5_evaluate 67 = .ok (.iload 4, 2) := by decide +kernel
theorem dX5_evaluate_69 : decode cX5_evaluate 69 = .ok (.bipush 20, 2) := by decide +kernel
theorem dX5_evaluate_71 : decode cX5_evaluate 71 = .ok (.if_icmp .ne 18, 3) := by decide +kernel
theorem dX5_evaluate_74 : decode cX5_evaluate 74 = .ok (.aload_n 0, 1) := by decide +kernel
theorem dX5_evaluate_75 : decode cX5_evaluate 75 = .ok (.getfield 75, 3) := by decide +kernel
theorem dX5_evaluate_78 : decode cX5_evaluate 78 = .ok (.iconst 1, 1) := by decide +kernel
theorem dX5_evaluate_79 : decode cX5_evaluate 79 = .ok (.if_icmp .ne 7, 3) := by decide +kernel
theorem dX5_evaluate_82 : decode cX5_evaluate 82 = .ok (.iconst (-1), 1) := by decide +kernel
theorem dX5_evaluate_83 : decode cX5_evaluate 83 = .ok (.goto 5, 3) := by decide +kernel
theorem dX5_evaluate_86 : decode cX5_evaluate 86 = .ok (.bipush (-2), 2) := by decide +kernel
theorem dX5_evaluate_88 : decode cX5_evaluate 88 = .ok (.ireturn, 1) := by decide +kernel
theorem dX5_evaluate_89 : decode cX5_evaluate 89 = .ok (.iload 4, 2) := by decide +kernel
theorem dX5_evaluate_91 : decode cX5_evaluate 91 = .ok (.iconst 3, 1) := by decide +kernel
theorem dX5_evaluate_92 : decode cX5_evaluate 92 = .ok (.if_icmp .ne 16, 3) := by decide +kernel
theorem dX5_evaluate_95 : decode cX5_evaluate 95 = .ok (.aload_n 0, 1) := by decide +kernel
theorem dX5_evaluate_96 : decode cX5_evaluate 96 = .ok (.aload_n 2, 1) := by decide +kernel
theorem dX5_evaluate_97 : decode cX5_evaluate 97 = .ok (.getfield 81, 3) := by decide +kernel
theorem dX5_evaluate_100 : decode cX5_evaluate 100 = .ok (.iload_n 3, 1) := by decide +kernel
theorem dX5_evaluate_101 : decode cX5_evaluate 101 = .ok (.laload, 1) := by decide +kernel
theorem dX5_evaluate_102 : decode cX5_evaluate 102 = .ok (.invokevirtual 84, 3) := by decide +kernel
theorem dX5_evaluate_105 : decode cX5_evaluate 105 = .ok (.goto 15, 3) := by decide +kernel
theorem dX5_evaluate_108 : decode cX5_evaluate 108 = .ok (.aload_n 0, 1) := by decide +kernel
theorem dX5_evaluate_109 : decode cX5_evaluate 109 = .ok (.iload 4, 2) := by decide +kernel
theorem dX5_evaluate_111 : decode cX5_evaluate 111 = .ok (.aload_n 2, 1) := by decide +kernel
theorem dX5_evaluate_112 : decode cX5_evaluate 112 = .ok (.getfield 81, 3) := by decide +kernel
theorem dX5_evaluate_115 : decode cX5_evaluate 115 = .ok (.iload_n 3, 1) := by decide +kernel
theorem dX5_evaluate_116 : decode cX5_evaluate 116 = .ok (.laload, 1) := by decide +kernel
theorem dX5_evaluate_117 : decode cX5_evaluate 117 = .ok (.invokevirtual 88, 3) := by decide +kernel
theorem dX5_evaluate_120 : decode cX5_evaluate 120 = .ok (.istore 5, 2) := by decide +kernel
theorem dX5_evaluate_122 : decode cX5_evaluate 122 = .ok (.iload 5, 2) := by decide +kernel
theorem dX5_evaluate_124 : decode cX5_evaluate 124 = .ok (.iconst (-1), 1) := by decide +kernel
theorem dX5_evaluate_125 : decode cX5_evaluate 125 = .ok (.if_icmp .eq 6, 3) := by decide +kernel
theorem dX5_evaluate_128 : decode cX5_evaluate 128 = .ok (.iload 5, 2) := by decide +kernel
theorem dX5_evaluate_130 : decode cX5_evaluate 130 = .ok (.ireturn, 1) := by decide +kernel
theorem dX5_evaluate_131 : decode cX5_evaluate 131 = .ok (.iinc 3 1, 3) := by decide +kernel
theorem dX5_evaluate_134 : decode cX5_evaluate 134 = .ok (.goto (-84), 3) := by decide +kernel
theorem dX5_evaluate_137 : decode cX5_evaluate 137 = .ok (.bipush (-2), 2) := by decide +kernel
theorem dX5_evaluate_139 : decode cX5_evaluate 139 = .ok (.ireturn, 1) := by decide +kernel
theorem dX5_refer_0 : decode cX5_refer 0 = .ok (.aload_n 0, 1) := by decide +kernel
theorem dX5_refer_1 : decode cX5_refer 1 = .ok (.getfield 9, 3) := by decide +kernel
theorem dX5_refer_4 : decode cX5_refer 4 = .ok (.iconst 0, 1) := by decide +kernel
theorem dX5_refer_5 : decode cX5_refer 5 = .ok (.lload_n 1, 1) := by decide +kernel
theorem dX5_refer_6 : decode cX5_refer 6 = .ok (.invokevirtual 92, 3) := by decide +kernel
theorem dX5_refer_9 : decode cX5_refer 9 = .ok (.istore_n 3, 1) := by decide +kernel
theorem dX5_refer_10 : decode cX5_refer 10 = .ok (.iload_n 3, 1) := by decide +kernel
theorem dX5_refer_11 : decode cX5_refer 11 = .ok (.iconst (-1), 1) := by decide +kernel
theorem dX5_refer_12 : decode cX5_refer 12 = .ok (.if_icmp .eq 12, 3) := by decide +kernel
theorem dX5_refer_15 : decode cX5_refer 15 = .ok (.aload_n 0, 1) := by decide +kernel
theorem dX5_refer_16 : decode cX5_refer 16 = .ok (.iload_n 3, 1) := by decide +kernel
theorem dX5_refer_17 : decode cX5_refer 17 = .ok (.invokevirtual 66, 3) := by decide +kernel
theorem dX5_refer_20 : decode cX5_refer 20 = .ok (.iconst 3, 1) := by decide +kernel
theorem dX5_refer_21 : decode cX5_refer 21 = .ok (.if_icmp .ne 6, 3) := by decide +kernel
theorem dX5_refer_24 : decode cX5_refer 24 = .ok (.bipush (-2), 2) := by decide +kernel
theorem dX5_refer_26 : decode cX5_refer 26 = .ok (.ireturn, 1) := by decide +kernel
theorem dX5_refer_27 : decode cX5_refer 27 = .ok (.aload_n 0, 1) := by decide +kernel
theorem dX5_refer_28 : decode cX5_refer 28 = .ok (.iload_n 3, 1) := by decide +kernel
theorem dX5_refer_29 : decode cX5_refer 29 = .ok (.invokevirtual 66, 3) := by decide +kernel
theorem dX5_refer_32 : decode cX5_refer 32 = .ok (.iconst 2, 1) := by decide +kernel
theorem dX5_refer_33 : decode cX5_refer 33 = .ok (.if_icmp .eq 5, 3) := by decide +kernel
theorem dX5_refer_36 : decode cX5_refer 36 = .ok (.iload_n 3, 1) := by decide +kernel
theorem dX5_refer_37 : decode cX5_refer 37 = .ok (.ireturn, 1) := by decide +kernel
theorem dX5_refer_38 : decode cX5_refer 38 = .ok (.aload_n 0, 1) := by decide +kernel
theorem dX5_refer_39 : decode cX5_refer 39 = .ok (.aload_n 0, 1) := by decide +kernel
theorem dX5_refer_40 : decode cX5_refer 40 = .ok (.getfield 9, 3) := by decide +kernel
theorem dX5_refer_43 : decode cX5_refer 43 = .ok (.getfield 23, 3) := by decide +kernel
theorem dX5_refer_46 : decode cX5_refer 46 = .ok (.iload_n 3, 1) := by decide +kernel
theorem dX5_refer_47 : decode cX5_refer 47 = .ok (.bipush 8, 2) := by decide +kernel
theorem dX5_refer_49 : decode cX5_refer 49 = .ok (.idiv, 1) := by decide +kernel
theorem dX5_refer_50 : decode cX5_refer 50 = .ok (.aaload, 1) := by decide +kernel
theorem dX5_refer_51 : decode cX5_refer 51 = .ok (.getfield 59, 3) := by decide +kernel
theorem dX5_refer_54 : decode cX5_refer 54 = .ok (.iload_n 3, 1) := by decide +kernel
theorem dX5_refer_55 : decode cX5_refer 55 = .ok (.bipush 8, 2) := by decide +kernel
theorem dX5_refer_57 : decode cX5_refer 57 = .ok (.irem, 1) := by decide +kernel
theorem dX5_refer_58 : decode cX5_refer 58 = .ok (.laload, 1) := by decide +kernel
theorem dX5_refer_59 : decode cX5_refer 59 = .ok (.invokevirtual 95, 3) := by decide +kernel
theorem dX5_refer_62 : decode cX5_refer 62 = .ok (.ireturn, 1) := by decide +kernel
theorem dX5_put_0 : decode cX5_put 0 = .ok (.aload_n 0, 1) := by decide +kernel
theorem dX5_put_1 : decode cX5_put 1 = .ok (.getfield 75, 3) := by decide +kernel
theorem dX5_put_4 : decode cX5_put 4 = .ok (.iconst 4, 1) := by decide +kernel
theorem dX5_put_5 : decode cX5_put 5 = .ok (.if_icmp .ge 19, 3) := by decide +kernel
theorem dX5_put_8 : decode cX5_put 8 = .ok (.lload_n 1, 1) := by decide +kernel
theorem dX5_put_9 : decode cX5_put 9 = .ok (.ldc2_w 98, 3) := by decide +kernel
theorem dX5_put_12 : decode cX5_put 12 = .ok (.lcmp, 1) := by decide +kernel
theorem dX5_put_13 : decode cX5_put 13 = .ok (.ifCond .gt 11, 3) := by decide +kernel
theorem dX5_put_16 : decode cX5_put 16 = .ok (.lload_n 1, 1) := by decide +kernel
theorem dX5_put_17 : decode cX5_put 17 = .ok (.ldc2_w 100, 3) := by decide +kernel
theorem dX5_put_20 : decode cX5_put 20 = .ok (.lcmp, 1) := by decide +kernel
theorem dX5_put_21 : decode cX5_put 21 = .ok (.ifCond .ge 6, 3) := by decide +kernel
theorem dX5_put_24 : decode cX5_put 24 = .ok (.bipush (-2), 2) := by decide +kernel
theorem dX5_put_26 : decode cX5_put 26 = .ok (.ireturn, 1) := by decide +kernel
theorem dX5_put_27 : decode cX5_put 27 = .ok (.aload_n 0, 1) := by decide +kernel
theorem dX5_put_28 : decode cX5_put 28 = .ok (.getfield 19, 3) := by decide +kernel
theorem dX5_put_31 : decode cX5_put 31 = .ok (.aload_n 0, 1) := by decide +kernel
theorem dX5_put_32 : decode cX5_put 32 = .ok (.getfield 75, 3) := by decide +kernel
theorem dX5_put_35 : decode cX5_put 35 = .ok (.lload_n 1, 1) := by decide +kernel
theorem dX5_put_36 : decode cX5_put 36 = .ok (.lastore, 1) := by decide +kernel
theorem dX5_put_37 : decode cX5_put 37 = .ok (.aload_n 0, 1) := by decide +kernel
theorem dX5_put_38 : decode cX5_put 38 = .ok (.dup, 1) := by decide +kernel
theorem dX5_put_39 : decode cX5_put 39 = .ok (.getfield 75, 3) := by decide +kernel
theorem dX5_put_42 : decode cX5_put 42 = .ok (.iconst 1, 1) := by decide +kernel
theorem dX5_put_43 : decode cX5_put 43 = .ok (.iadd, 1) := by decide +kernel
theorem dX5_put_44 : decode cX5_put 44 = .ok (.putfield 75, 3) := by decide +kernel
theorem dX5_put_47 : decode cX5_put 47 = .ok (.iconst (-1), 1) := by decide +kernel
theorem dX5_put_48 : decode cX5_put 48 = .ok (.ireturn, 1) := by decide +kernel
theorem dX5_calculate_0 : decode cX5_calculate 0 = .ok (.iload_n 1, 1) := by decide +kernel
theorem dX5_calculate_1 : decode cX5_calculate 1 = .ok (.ifCond .ne 9, 3) := by decide +kernel
theorem dX5_calculate_4 : decode cX5_calculate 4 = .ok (.aload_n 0, 1) := by decide +kernel
theorem dX5_calculate_5 : decode cX5_calculate 5 = .ok (.lload_n 2, 1) := by decide +kernel
theorem dX5_calculate_6 : decode cX5_calculate 6 = .ok (.invokevirtual 95, 3) := by decide +kernel
theorem dX5_calculate_9 : decode cX5_calculate 9 = .ok (.ireturn, 1) := by decide +kernel
theorem dX5_calculate_10 : decode cX5_calculate 10 = .ok (.iload_n 1, 1) := by decide +kernel
theorem dX5_calculate_11 : decode cX5_calculate 11 = .ok (.iconst 5, 1) := by decide +kernel
theorem dX5_calculate_12 : decode cX5_calculate 12 = .ok (.if_icmp .ne 36, 3) := by decide +kernel
theorem dX5_calculate_15 : decode cX5_calculate 15 = .ok (.aload_n 0, 1) := by decide +kernel
theorem dX5_calculate_16 : decode cX5_calculate 16 = .ok (.getfield 75, 3) := by decide +kernel
theorem dX5_calculate_19 : decode cX5_calculate 19 = .ok (.iconst 1, 1) := by decide +kernel
theorem dX5_calculate_20 : decode cX5_calculate 20 = .ok (.if_icmp .lt 28, 3) := by decide +kernel
theorem dX5_calculate_23 : decode cX5_calculate 23 = .ok (.aload_n 0, 1) := by decide +kernel
theorem dX5_calculate_24 : decode cX5_calculate 24 = .ok (.dup, 1) := by decide +kernel
theorem dX5_calculate_25 : decode cX5_calculate 25 = .ok (.getfield 75, 3) := by decide +kernel
theorem dX5_calculate_28 : decode cX5_calculate 28 = .ok (.iconst 1, 1) := by decide +kernel
theorem dX5_calculate_29 : decode cX5_calculate 29 = .ok (.isub, 1) := by decide +kernel
theorem dX5_calculate_30 : decode cX5_calculate 30 = .ok (.putfield 75, 3) := by decide +kernel
theorem dX5_calculate_33 : decode cX5_calculate 33 = .ok (.aload_n 0, 1) := by decide +kernel
theorem dX5_calculate_34 : decode cX5_calculate 34 = .ok (.aload_n 0, 1) := by decide +kernel
theorem dX5_calculate_35 : decode cX5_calculate 35 = .ok (.getfield 19, 3) := by decide +kernel
theorem dX5_calculate_38 : decode cX5_calculate 38 = .ok (.aload_n 0, 1) := by decide +kernel
theorem dX5_calculate_39 : decode cX5_calculate 39 = .ok (.getfield 75, 3) := by decide +kernel
theorem dX5_calculate_42 : decode cX5_calculate 42 = .ok (.laload, 1) := by decide +kernel
theorem dX5_calculate_43 : decode cX5_calculate 43 = .ok (.lneg, 1) := by decide +kernel
theorem dX5_calculate_44 : decode cX5_calculate 44 = .ok (.invokevirtual 95, 3) := by decide +kernel
theorem dX5_calculate_47 : decode cX5_calculate 47 = .ok (.ireturn, 1) := by decide +kernel
theorem dX5_calculate_48 : decode cX5_calculate 48 = .ok (.aload_n 0, 1) := by decide +kernel
theorem dX5_calculate_49 : decode cX5_calculate 49 = .ok (.getfield 75, 3) := by decide +kernel
theorem dX5_calculate_52 : decode cX5_calculate 52 = .ok (.iconst 2, 1) := by decide +kernel
theorem dX5_calculate_53 : decode cX5_calculate 53 = .ok (.if_icmp .ge 6, 3) := by decide +kernel
theorem dX5_calculate_56 : decode cX5_calculate 56 = .ok (.bipush (-2), 2) := by decide +kernel
theorem dX5_calculate_58 : decode cX5_calculate 58 = .ok (.ireturn, 1) := by decide +kernel
theorem dX5_calculate_59 : decode cX5_calculate 59 = .ok (.aload_n 0, 1) := by decide +kernel
theorem dX5_calculate_60 : decode cX5_calculate 60 = .ok (.dup, 1) := by decide +kernel
theorem dX5_calculate_61 : decode cX5_calculate 61 = .ok (.getfield 75, 3) := by decide +kernel
theorem dX5_calculate_64 : decode cX5_calculate 64 = .ok (.iconst 2, 1) := by decide +kernel
theorem dX5_calculate_65 : decode cX5_calculate 65 = .ok (.isub, 1) := by decide +kernel
theorem dX5_calculate_66 : decode cX5_calculate 66 = .ok (.putfield 75, 3) := by decide +kernel
theorem dX5_calculate_69 : decode cX5_calculate 69 = .ok (.aload_n 0, 1) := by decide +kernel
theorem dX5_calculate_70 : decode cX5_calculate 70 = .ok (.getfield 19, 3) := by decide +kernel
theorem dX5_calculate_73 : decode cX5_calculate 73 = .ok (.aload_n 0, 1) := by decide +kernel
theorem dX5_calculate_74 : decode cX5_calculate 74 = .ok (.getfield 75, 3) := by decide +kernel
theorem dX5_calculate_77 : decode cX5_calculate 77 = .ok (.laload, 1) := by decide +kernel
theorem dX5_calculate_78 : decode cX5_calculate 78 = .ok (.lstore 4, 2) := by decide +kernel
theorem dX5_calculate_80 : decode cX5_calculate 80 = .ok (.aload_n 0, 1) := by decide +kernel
theorem dX5_calculate_81 : decode cX5_calculate 81 = .ok (.getfield 19, 3) := by decide +kernel
theorem dX5_calculate_84 : decode cX5_calculate 84 = .ok (.aload_n 0, 1) := by decide +kernel
theorem dX5_calculate_85 : decode cX5_calculate 85 = .ok (.getfield 75, 3) := by decide +kernel
theorem dX5_calculate_88 : decode cX5_calculate 88 = .ok (.iconst 1, 1) := by decide +kernel
theorem dX5_calculate_89 : decode cX5_calculate 89 = .ok (.iadd, 1) := by decide +kernel
theorem dX5_calculate_90 : decode cX5_calculate 90 = .ok (.laload, 1) := by decide +kernel
theorem dX5_calculate_91 : decode cX5_calculate 91 = .ok (.lstore 6, 2) := by decide +kernel
theorem dX5_calculate_93 : decode cX5_calculate 93 = .ok (.iload_n 1, 1) := by decide +kernel
theorem dX5_calculate_94 : decode cX5_calculate 94 = .ok (.tableswitch 71 6 8 #[26, 36, 46], 26) := by decide +kernel
theorem dX5_calculate_120 : decode cX5_calculate 120 = .ok (.aload_n 0, 1) := by decide +kernel
theorem dX5_calculate_121 : decode cX5_calculate 121 = .ok (.lload 4, 2) := by decide +kernel
theorem dX5_calculate_123 : decode cX5_calculate 123 = .ok (.lload 6, 2) := by decide +kernel
theorem dX5_calculate_125 : decode cX5_calculate 125 = .ok (.ladd, 1) := by decide +kernel
theorem dX5_calculate_126 : decode cX5_calculate 126 = .ok (.invokevirtual 95, 3) := by decide +kernel
theorem dX5_calculate_129 : decode cX5_calculate 129 = .ok (.ireturn, 1) := by decide +kernel
theorem dX5_calculate_130 : decode cX5_calculate 130 = .ok (.aload_n 0, 1) := by decide +kernel
theorem dX5_calculate_131 : decode cX5_calculate 131 = .ok (.lload 4, 2) := by decide +kernel
theorem dX5_calculate_133 : decode cX5_calculate 133 = .ok (.lload 6, 2) := by decide +kernel
theorem dX5_calculate_135 : decode cX5_calculate 135 = .ok (.lsub, 1) := by decide +kernel
theorem dX5_calculate_136 : decode cX5_calculate 136 = .ok (.invokevirtual 95, 3) := by decide +kernel
theorem dX5_calculate_139 : decode cX5_calculate 139 = .ok (.ireturn, 1) := by decide +kernel
theorem dX5_calculate_140 : decode cX5_calculate 140 = .ok (.lload 4, 2) := by decide +kernel
theorem dX5_calculate_142 : decode cX5_calculate 142 = .ok (.lload 6, 2) := by decide +kernel
theorem dX5_calculate_144 : decode cX5_calculate 144 = .ok (.invokestatic 102, 3) := by decide +kernel
theorem dX5_calculate_147 : decode cX5_calculate 147 = .ok (.ifCond .eq 15, 3) := by decide +kernel
theorem dX5_calculate_150 : decode cX5_calculate 150 = .ok (.aload_n 0, 1) := by decide +kernel
theorem dX5_calculate_151 : decode cX5_calculate 151 = .ok (.lload 4, 2) := by decide +kernel
theorem dX5_calculate_153 : decode cX5_calculate 153 = .ok (.lload 6, 2) := by decide +kernel
theorem dX5_calculate_155 : decode cX5_calculate 155 = .ok (.lmul, 1) := by decide +kernel
theorem dX5_calculate_156 : decode cX5_calculate 156 = .ok (.invokevirtual 95, 3) := by decide +kernel
theorem dX5_calculate_159 : decode cX5_calculate 159 = .ok (.goto 5, 3) := by decide +kernel
theorem dX5_calculate_162 : decode cX5_calculate 162 = .ok (.bipush (-2), 2) := by decide +kernel
theorem dX5_calculate_164 : decode cX5_calculate 164 = .ok (.ireturn, 1) := by decide +kernel
theorem dX5_calculate_165 : decode cX5_calculate 165 = .ok (.bipush (-2), 2) := by decide +kernel
theorem dX5_calculate_167 : decode cX5_calculate 167 = .ok (.ireturn, 1) := by decide +kernel
theorem dX5_productFits_0 : decode cX5_productFits 0 = .ok (.lload_n 0, 1) := by decide +kernel
theorem dX5_productFits_1 : decode cX5_productFits 1 = .ok (.lconst 0, 1) := by decide +kernel
theorem dX5_productFits_2 : decode cX5_productFits 2 = .ok (.lcmp, 1) := by decide +kernel
theorem dX5_productFits_3 : decode cX5_productFits 3 = .ok (.ifCond .eq 19, 3) := by decide +kernel
theorem dX5_productFits_6 : decode cX5_productFits 6 = .ok (.lload_n 2, 1) := by decide +kernel
theorem dX5_productFits_7 : decode cX5_productFits 7 = .ok (.invokestatic 106, 3) := by decide +kernel
theorem dX5_productFits_10 : decode cX5_productFits 10 = .ok (.ldc2_w 98, 3) := by decide +kernel
theorem dX5_productFits_13 : decode cX5_productFits 13 = .ok (.lload_n 0, 1) := by decide +kernel
theorem dX5_productFits_14 : decode cX5_productFits 14 = .ok (.invokestatic 106, 3) := by decide +kernel
theorem dX5_productFits_17 : decode cX5_productFits 17 = .ok (.ldiv, 1) := by decide +kernel
theorem dX5_productFits_18 : decode cX5_productFits 18 = .ok (.lcmp, 1) := by decide +kernel
theorem dX5_productFits_19 : decode cX5_productFits 19 = .ok (.ifCond .gt 7, 3) := by decide +kernel
theorem dX5_productFits_22 : decode cX5_productFits 22 = .ok (.iconst 1, 1) := by decide +kernel
theorem dX5_productFits_23 : decode cX5_productFits 23 = .ok (.goto 4, 3) := by decide +kernel
theorem dX5_productFits_26 : decode cX5_productFits 26 = .ok (.iconst 0, 1) := by decide +kernel
theorem dX5_productFits_27 : decode cX5_productFits 27 = .ok (.ireturn, 1) := by decide +kernel
theorem dX6_init_0 : decode cX6_init 0 = .ok (.aload_n 0, 1) := by decide +kernel
theorem dX6_init_1 : decode cX6_init 1 = .ok (.invokespecial 3, 3) := by decide +kernel
theorem dX6_init_4 : decode cX6_init 4 = .ok (.aload_n 0, 1) := by decide +kernel
theorem dX6_init_5 : decode cX6_init 5 = .ok (.aload_n 1, 1) := by decide +kernel
theorem dX6_init_6 : decode cX6_init 6 = .ok (.getfield 9, 3) := by decide +kernel
theorem dX6_init_9 : decode cX6_init 9 = .ok (.putfield 15, 3) := by decide +kernel
theorem dX6_init_12 : decode cX6_init 12 = .ok (.aload_n 0, 1) := by decide +kernel
theorem dX6_init_13 : decode cX6_init 13 = .ok (.aload_n 1, 1) := by decide +kernel
theorem dX6_init_14 : decode cX6_init 14 = .ok (.getfield 18, 3) := by decide +kernel
theorem dX6_init_17 : decode cX6_init 17 = .ok (.putfield 21, 3) := by decide +kernel
theorem dX6_init_20 : decode cX6_init 20 = .ok (.aload_n 0, 1) := by decide +kernel
theorem dX6_init_21 : decode cX6_init 21 = .ok (.aload_n 1, 1) := by decide +kernel
theorem dX6_init_22 : decode cX6_init 22 = .ok (.getfield 22, 3) := by decide +kernel
theorem dX6_init_25 : decode cX6_init 25 = .ok (.putfield 25, 3) := by decide +kernel
theorem dX6_init_28 : decode cX6_init 28 = .ok (.aload_n 0, 1) := by decide +kernel
theorem dX6_init_29 : decode cX6_init 29 = .ok (.aload_n 1, 1) := by decide +kernel
theorem dX6_init_30 : decode cX6_init 30 = .ok (.getfield 26, 3) := by decide +kernel
theorem dX6_init_33 : decode cX6_init 33 = .ok (.putfield 29, 3) := by decide +kernel
theorem dX6_init_36 : decode cX6_init 36 = .ok (.aload_n 0, 1) := by decide +kernel
theorem dX6_init_37 : decode cX6_init 37 = .ok (.aload_n 1, 1) := by decide +kernel
theorem dX6_init_38 : decode cX6_init 38 = .ok (.getfield 30, 3) := by decide +kernel
theorem dX6_init_41 : decode cX6_init 41 = .ok (.aload_n 1, 1) := by decide +kernel
theorem dX6_init_42 : decode cX6_init 42 = .ok (.getfield 34, 3) := by decide +kernel
theorem dX6_init_45 : decode cX6_init 45 = .ok (.invokestatic 37, 3) := by decide +kernel
theorem dX6_init_48 : decode cX6_init 48 = .ok (.putfield 43, 3) := by decide +kernel
theorem dX6_init_51 : decode cX6_init 51 = .ok (.aload_n 0, 1) := by decide +kernel
theorem dX6_init_52 : decode cX6_init 52 = .ok (.aload_n 1, 1) := by decide +kernel
theorem dX6_init_53 : decode cX6_init 53 = .ok (.getfield 44, 3) := by decide +kernel
theorem dX6_init_56 : decode cX6_init 56 = .ok (.aload_n 1, 1) := by decide +kernel
theorem dX6_init_57 : decode cX6_init 57 = .ok (.getfield 34, 3) := by decide +kernel
theorem dX6_init_60 : decode cX6_init 60 = .ok (.invokestatic 48, 3) := by decide +kernel
theorem dX6_init_63 : decode cX6_init 63 = .ok (.putfield 51, 3) := by decide +kernel
theorem dX6_init_66 : decode cX6_init 66 = .ok (.aload_n 0, 1) := by decide +kernel
theorem dX6_init_67 : decode cX6_init 67 = .ok (.aload_n 1, 1) := by decide +kernel
theorem dX6_init_68 : decode cX6_init 68 = .ok (.getfield 52, 3) := by decide +kernel
theorem dX6_init_71 : decode cX6_init 71 = .ok (.aload_n 1, 1) := by decide +kernel
theorem dX6_init_72 : decode cX6_init 72 = .ok (.getfield 55, 3) := by decide +kernel
theorem dX6_init_75 : decode cX6_init 75 = .ok (.invokestatic 48, 3) := by decide +kernel
theorem dX6_init_78 : decode cX6_init 78 = .ok (.putfield 58, 3) := by decide +kernel
theorem dX6_init_81 : decode cX6_init 81 = .ok (.aload_n 0, 1) := by decide +kernel
theorem dX6_init_82 : decode cX6_init 82 = .ok (.aload_n 1, 1) := by decide +kernel
theorem dX6_init_83 : decode cX6_init 83 = .ok (.getfield 59, 3) := by decide +kernel
theorem dX6_init_86 : decode cX6_init 86 = .ok (.aload_n 1, 1) := by decide +kernel
theorem dX6_init_87 : decode cX6_init 87 = .ok (.getfield 55, 3) := by decide +kernel
theorem dX6_init_90 : decode cX6_init 90 = .ok (.invokestatic 37, 3) := by decide +kernel
theorem dX6_init_93 : decode cX6_init 93 = .ok (.putfield 62, 3) := by decide +kernel
theorem dX6_init_96 : decode cX6_init 96 = .ok (.aload_n 0, 1) := by decide +kernel
theorem dX6_init_97 : decode cX6_init 97 = .ok (.aload_n 1, 1) := by decide +kernel
theorem dX6_init_98 : decode cX6_init 98 = .ok (.getfield 63, 3) := by decide +kernel
theorem dX6_init_101 : decode cX6_init 101 = .ok (.aload_n 1, 1) := by decide +kernel
theorem dX6_init_102 : decode cX6_init 102 = .ok (.getfield 66, 3) := by decide +kernel
theorem dX6_init_105 : decode cX6_init 105 = .ok (.invokestatic 48, 3) := by decide +kernel
theorem dX6_init_108 : decode cX6_init 108 = .ok (.putfield 69, 3) := by decide +kernel
theorem dX6_init_111 : decode cX6_init 111 = .ok (.aload_n 0, 1) := by decide +kernel
theorem dX6_init_112 : decode cX6_init 112 = .ok (.aload_n 1, 1) := by decide +kernel
theorem dX6_init_113 : decode cX6_init 113 = .ok (.getfield 70, 3) := by decide +kernel
theorem dX6_init_116 : decode cX6_init 116 = .ok (.aload_n 1, 1) := by decide +kernel
theorem dX6_init_117 : decode cX6_init 117 = .ok (.getfield 66, 3) := by decide +kernel
theorem dX6_init_120 : decode cX6_init 120 = .ok (.invokestatic 37, 3) := by decide +kernel
theorem dX6_init_123 : decode cX6_init 123 = .ok (.putfield 73, 3) := by decide +kernel
theorem dX6_init_126 : decode cX6_init 126 = .ok (.aload_n 0, 1) := by decide +kernel
theorem dX6_init_127 : decode cX6_init 127 = .ok (.aload_n 1, 1) := by decide +kernel
theorem dX6_init_128 : decode cX6_init 128 = .ok (.getfield 74, 3) := by decide +kernel
theorem dX6_init_131 : decode cX6_init 131 = .ok (.aload_n 1, 1) := by decide +kernel
theorem dX6_init_132 : decode cX6_init 132 = .ok (.getfield 77, 3) := by decide +kernel
theorem dX6_init_135 : decode cX6_init 135 = .ok (.invokestatic 37, 3) := by decide +kernel
theorem dX6_init_138 : decode cX6_init 138 = .ok (.putfield 80, 3) := by decide +kernel
theorem dX6_init_141 : decode cX6_init 141 = .ok (.aload_n 0, 1) := by decide +kernel
theorem dX6_init_142 : decode cX6_init 142 = .ok (.aload_n 1, 1) := by decide +kernel
theorem dX6_init_143 : decode cX6_init 143 = .ok (.getfield 81, 3) := by decide +kernel
theorem dX6_init_146 : decode cX6_init 146 = .ok (.aload_n 1, 1) := by decide +kernel
theorem dX6_init_147 : decode cX6_init 147 = .ok (.getfield 77, 3) := by decide +kernel
theorem dX6_init_150 : decode cX6_init 150 = .ok (.invokestatic 37, 3) := by decide +kernel
theorem dX6_init_153 : decode cX6_init 153 = .ok (.putfield 84, 3) := by decide +kernel
theorem dX6_init_156 : decode cX6_init 156 = .ok (.aload_n 0, 1) := by decide +kernel
theorem dX6_init_157 : decode cX6_init 157 = .ok (.aload_n 1, 1) := by decide +kernel
theorem dX6_init_158 : decode cX6_init 158 = .ok (.getfield 85, 3) := by decide +kernel
theorem dX6_init_161 : decode cX6_init 161 = .ok (.aload_n 1, 1) := by decide +kernel
theorem dX6_init_162 : decode cX6_init 162 = .ok (.getfield 77, 3) := by decide +kernel
theorem dX6_init_165 : decode cX6_init 165 = .ok (.invokestatic 37, 3) := by decide +kernel
theorem dX6_init_168 : decode cX6_init 168 = .ok (.putfield 88, 3) := by decide +kernel
theorem dX6_init_171 : decode cX6_init 171 = .ok (.return_, 1) := by decide +kernel
theorem dX6_indexOf_0 : decode cX6_indexOf 0 = .ok (.iload_n 1, 1) := by decide +kernel
theorem dX6_indexOf_1 : decode cX6_indexOf 1 = .ok (.iconst 2, 1) := by decide +kernel
theorem dX6_indexOf_2 : decode cX6_indexOf 2 = .ok (.if_icmp .ne 17, 3) := by decide +kernel
theorem dX6_indexOf_5 : decode cX6_indexOf 5 = .ok (.aload_n 0, 1) := by decide +kernel
theorem dX6_indexOf_6 : decode cX6_indexOf 6 = .ok (.getfield 29, 3) := by decide +kernel
theorem dX6_indexOf_9 : decode cX6_indexOf 9 = .ok (.iconst (-1), 1) := by decide +kernel
theorem dX6_indexOf_10 : decode cX6_indexOf 10 = .ok (.if_icmp .ne 7, 3) := by decide +kernel
theorem dX6_indexOf_13 : decode cX6_indexOf 13 = .ok (.iconst (-1), 1) := by decide +kernel
theorem dX6_indexOf_14 : decode cX6_indexOf 14 = .ok (.goto 4, 3) := by decide +kernel
theorem dX6_indexOf_17 : decode cX6_indexOf 17 = .ok (.iconst 0, 1) := by decide +kernel
theorem dX6_indexOf_18 : decode cX6_indexOf 18 = .ok (.ireturn, 1) := by decide +kernel
theorem dX6_indexOf_19 : decode cX6_indexOf 19 = .ok (.iload_n 1, 1) := by decide +kernel
theorem dX6_indexOf_20 : decode cX6_indexOf 20 = .ok (.ifCond .ne 10, 3) := by decide +kernel
theorem dX6_indexOf_23 : decode cX6_indexOf 23 = .ok (.aload_n 0, 1) := by decide +kernel
theorem dX6_indexOf_24 : decode cX6_indexOf 24 = .ok (.getfield 58, 3) := by decide +kernel
theorem dX6_indexOf_27 : decode cX6_indexOf 27 = .ok (.goto 7, 3) := by decide +kernel
theorem dX6_indexOf_30 : decode cX6_indexOf 30 = .ok (.aload_n 0, 1) := by decide +kernel
theorem dX6_indexOf_31 : decode cX6_indexOf 31 = .ok (.getfield 69, 3) := by decide +kernel
theorem dX6_indexOf_34 : decode cX6_indexOf 34 = .ok (.astore 4, 2) := by decide +kernel
theorem dX6_indexOf_36 : decode cX6_indexOf 36 = .ok (.iconst 0, 1) := by decide +kernel
theorem dX6_indexOf_37 : decode cX6_indexOf 37 = .ok (.istore 5, 2) := by decide +kernel
theorem dX6_indexOf_39 : decode cX6_indexOf 39 = .ok (.iload 5, 2) := by decide +kernel
theorem dX6_indexOf_41 : decode cX6_indexOf 41 = .ok (.aload 4, 2) := by decide +kernel
theorem dX6_indexOf_43 : decode cX6_indexOf 43 = .ok (.arraylength, 1) := by decide +kernel
theorem dX6_indexOf_44 : decode cX6_indexOf 44 = .ok (.if_icmp .ge 22, 3) := by decide +kernel
theorem dX6_indexOf_47 : decode cX6_indexOf 47 = .ok (.aload 4, 2) := by decide +kernel
theorem dX6_indexOf_49 : decode cX6_indexOf 49 = .ok (.iload 5, 2) := by decide +kernel
theorem dX6_indexOf_51 : decode cX6_indexOf 51 = .ok (.laload, 1) := by decide +kernel
theorem dX6_indexOf_52 : decode cX6_indexOf 52 = .ok (.lload_n 2, 1) := by decide +kernel
theorem dX6_indexOf_53 : decode cX6_indexOf 53 = .ok (.lcmp, 1) := by decide +kernel
theorem dX6_indexOf_54 : decode cX6_indexOf 54 = .ok (.ifCond .ne 6, 3) := by decide +kernel
theorem dX6_indexOf_57 : decode cX6_indexOf 57 = .ok (.iload 5, 2) := by decide +kernel
theorem dX6_indexOf_59 : decode cX6_indexOf 59 = .ok (.ireturn, 1) := by decide +kernel
theorem dX6_indexOf_60 : decode cX6_indexOf 60 = .ok (.iinc 5 1, 3) := by decide +kernel
theorem dX6_indexOf_63 : decode cX6_indexOf 63 = .ok (.goto (-24), 3) := by decide +kernel
theorem dX6_indexOf_66 : decode cX6_indexOf 66 = .ok (.iconst (-1), 1) := by decide +kernel
theorem dX6_indexOf_67 : decode cX6_indexOf 67 = .ok (.ireturn, 1) := by decide +kernel
theorem dX6_catchAt_0 : decode cX6_catchAt 0 = .ok (.aload_n 0, 1) := by decide +kernel
theorem dX6_catchAt_1 : decode cX6_catchAt 1 = .ok (.getfield 80, 3) := by decide +kernel
theorem dX6_catchAt_4 : decode cX6_catchAt 4 = .ok (.arraylength, 1) := by decide +kernel
theorem dX6_catchAt_5 : decode cX6_catchAt 5 = .ok (.iconst 1, 1) := by decide +kernel
theorem dX6_catchAt_6 : decode cX6_catchAt 6 = .ok (.isub, 1) := by decide +kernel
theorem dX6_catchAt_7 : decode cX6_catchAt 7 = .ok (.istore_n 2, 1) := by decide +kernel
theorem dX6_catchAt_8 : decode cX6_catchAt 8 = .ok (.iload_n 2, 1) := by decide +kernel
theorem dX6_catchAt_9 : decode cX6_catchAt 9 = .ok (.ifCond .lt 36, 3) := by decide +kernel
theorem dX6_catchAt_12 : decode cX6_catchAt 12 = .ok (.aload_n 0, 1) := by decide +kernel
theorem dX6_catchAt_13 : decode cX6_catchAt 13 = .ok (.getfield 80, 3) := by decide +kernel
theorem dX6_catchAt_16 : decode cX6_catchAt 16 = .ok (.iload_n 2, 1) := by decide +kernel
theorem dX6_catchAt_17 : decode cX6_catchAt 17 = .ok (.iaload, 1) := by decide +kernel
theorem dX6_catchAt_18 : decode cX6_catchAt 18 = .ok (.iload_n 1, 1) := by decide +kernel
theorem dX6_catchAt_19 : decode cX6_catchAt 19 = .ok (.if_icmp .gt 20, 3) := by decide +kernel
theorem dX6_catchAt_22 : decode cX6_catchAt 22 = .ok (.iload_n 1, 1) := by decide +kernel
theorem dX6_catchAt_23 : decode cX6_catchAt 23 = .ok (.aload_n 0, 1) := by decide +kernel
theorem dX6_catchAt_24 : decode cX6_catchAt 24 = .ok (.getfield 84, 3) := by decide +kernel
theorem dX6_catchAt_27 : decode cX6_catchAt 27 = .ok (.iload_n 2, 1) := by decide +kernel
theorem dX6_catchAt_28 : decode cX6_catchAt 28 = .ok (.iaload, 1) := by decide +kernel
theorem dX6_catchAt_29 : decode cX6_catchAt 29 = .ok (.if_icmp .ge 10, 3) := by decide +kernel
theorem dX6_catchAt_32 : decode cX6_catchAt 32 = .ok (.aload_n 0, 1) := by decide +kernel
theorem dX6_catchAt_33 : decode cX6_catchAt 33 = .ok (.getfield 88, 3) := by decide +kernel
theorem dX6_catchAt_36 : decode cX6_catchAt 36 = .ok (.iload_n 2, 1) := by decide +kernel
theorem dX6_catchAt_37 : decode cX6_catchAt 37 = .ok (.iaload, 1) := by decide +kernel
theorem dX6_catchAt_38 : decode cX6_catchAt 38 = .ok (.ireturn, 1) := by decide +kernel
theorem dX6_catchAt_39 : decode cX6_catchAt 39 = .ok (.iinc 2 (-1), 3) := by decide +kernel
theorem dX6_catchAt_42 : decode cX6_catchAt 42 = .ok (.goto (-34), 3) := by decide +kernel
theorem dX6_catchAt_45 : decode cX6_catchAt 45 = .ok (.iconst (-1), 1) := by decide +kernel
theorem dX6_catchAt_46 : decode cX6_catchAt 46 = .ok (.ireturn, 1) := by decide +kernel
theorem dX7_init_0 : decode cX7_init 0 = .ok (.aload_n 0, 1) := by decide +kernel
theorem dX7_init_1 : decode cX7_init 1 = .ok (.invokespecial 3, 3) := by decide +kernel
theorem dX7_init_4 : decode cX7_init 4 = .ok (.aload_n 0, 1) := by decide +kernel
theorem dX7_init_5 : decode cX7_init 5 = .ok (.sipush 900, 3) := by decide +kernel
theorem dX7_init_8 : decode cX7_init 8 = .ok (.newarray .char, 2) := by decide +kernel
theorem dX7_init_10 : decode cX7_init 10 = .ok (.putfield 9, 3) := by decide +kernel
theorem dX7_init_13 : decode cX7_init 13 = .ok (.aload_n 0, 1) := by decide +kernel
theorem dX7_init_14 : decode cX7_init 14 = .ok (.sipush 901, 3) := by decide +kernel
theorem dX7_init_17 : decode cX7_init 17 = .ok (.newarray .int, 2) := by decide +kernel
theorem dX7_init_19 : decode cX7_init 19 = .ok (.putfield 15, 3) := by decide +kernel
theorem dX7_init_22 : decode cX7_init 22 = .ok (.aload_n 0, 1) := by decide +kernel
theorem dX7_init_23 : decode cX7_init 23 = .ok (.sipush 901, 3) := by decide +kernel
theorem dX7_init_26 : decode cX7_init 26 = .ok (.newarray .int, 2) := by decide +kernel
theorem dX7_init_28 : decode cX7_init 28 = .ok (.putfield 19, 3) := by decide +kernel
theorem dX7_init_31 : decode cX7_init 31 = .ok (.aload_n 0, 1) := by decide +kernel
theorem dX7_init_32 : decode cX7_init 32 = .ok (.sipush 901, 3) := by decide +kernel
theorem dX7_init_35 : decode cX7_init 35 = .ok (.newarray .long, 2) := by decide +kernel
theorem dX7_init_37 : decode cX7_init 37 = .ok (.putfield 22, 3) := by decide +kernel
theorem dX7_init_40 : decode cX7_init 40 = .ok (.aload_n 0, 1) := by decide +kernel
theorem dX7_init_41 : decode cX7_init 41 = .ok (.invokestatic 26, 3) := by decide +kernel
theorem dX7_init_44 : decode cX7_init 44 = .ok (.putfield 30, 3) := by decide +kernel
theorem dX7_init_47 : decode cX7_init 47 = .ok (.aload_n 0, 1) := by decide +kernel
theorem dX7_init_48 : decode cX7_init 48 = .ok (.iconst 0, 1) := by decide +kernel
theorem dX7_init_49 : decode cX7_init 49 = .ok (.putfield 33, 3) := by decide +kernel
theorem dX7_init_52 : decode cX7_init 52 = .ok (.aload_n 0, 1) := by decide +kernel
theorem dX7_init_53 : decode cX7_init 53 = .ok (.iconst 0, 1) := by decide +kernel
theorem dX7_init_54 : decode cX7_init 54 = .ok (.putfield 37, 3) := by decide +kernel
theorem dX7_init_57 : decode cX7_init 57 = .ok (.return_, 1) := by decide +kernel
theorem dX7_packedWords_0 : decode cX7_packedWords 0 = .ok (.bipush 12, 2) := by decide +kernel
theorem dX7_packedWords_2 : decode cX7_packedWords 2 = .ok (.newarray .long, 2) := by decide +kernel
theorem dX7_packedWords_4 : decode cX7_packedWords 4 = .ok (.astore_n 0, 1) := by decide +kernel
theorem dX7_packedWords_5 : decode cX7_packedWords 5 = .ok (.iconst 0, 1) := by decide +kernel
theorem dX7_packedWords_6 : decode cX7_packedWords 6 = .ok (.istore_n 1, 1) := by decide +kernel
theorem dX7_packedWords_7 : decode cX7_packedWords 7 = .ok (.iconst 0, 1) := by decide +kernel
theorem dX7_packedWords_8 : decode cX7_packedWords 8 = .ok (.istore_n 2, 1) := by decide +kernel
theorem dX7_packedWords_9 : decode cX7_packedWords 9 = .ok (.iload_n 2, 1) := by decide +kernel
theorem dX7_packedWords_10 : decode cX7_packedWords 10 = .ok (.ldc 40, 2) := by decide +kernel
theorem dX7_packedWords_12 : decode cX7_packedWords 12 = .ok (.invokevirtual 42, 3) := by decide +kernel
theorem dX7_packedWords_15 : decode cX7_packedWords 15 = .ok (.if_icmp .ge 44, 3) := by decide +kernel
theorem dX7_packedWords_18 : decode cX7_packedWords 18 = .ok (.iload_n 1, 1) := by decide +kernel
theorem dX7_packedWords_19 : decode cX7_packedWords 19 = .ok (.bipush 12, 2) := by decide +kernel
theorem dX7_packedWords_21 : decode cX7_packedWords 21 = .ok (.if_icmp .ge 38, 3) := by decide +kernel
theorem dX7_packedWords_24 : decode cX7_packedWords 24 = .ok (.ldc 40, 2) := by decide +kernel
theorem dX7_packedWords_26 : decode cX7_packedWords 26 = .ok (.iload_n 2, 1) := by decide +kernel
theorem dX7_packedWords_27 : decode cX7_packedWords 27 = .ok (.invokevirtual 48, 3) := by decide +kernel
theorem dX7_packedWords_30 : decode cX7_packedWords 30 = .ok (.istore_n 3, 1) := by decide +kernel
theorem dX7_packedWords_31 : decode cX7_packedWords 31 = .ok (.iload_n 3, 1) := by decide +kernel
theorem dX7_packedWords_32 : decode cX7_packedWords 32 = .ok (.bipush 32, 2) := by decide +kernel
theorem dX7_packedWords_34 : decode cX7_packedWords 34 = .ok (.if_icmp .ne 9, 3) := by decide +kernel
theorem dX7_packedWords_37 : decode cX7_packedWords 37 = .ok (.iinc 1 1, 3) := by decide +kernel
theorem dX7_packedWords_40 : decode cX7_packedWords 40 = .ok (.goto 13, 3) := by decide +kernel
theorem dX7_packedWords_43 : decode cX7_packedWords 43 = .ok (.aload_n 0, 1) := by decide +kernel
theorem dX7_packedWords_44 : decode cX7_packedWords 44 = .ok (.iload_n 1, 1) := by decide +kernel
theorem dX7_packedWords_45 : decode cX7_packedWords 45 = .ok (.aload_n 0, 1) := by decide +kernel
theorem dX7_packedWords_46 : decode cX7_packedWords 46 = .ok (.iload_n 1, 1) := by decide +kernel
theorem dX7_packedWords_47 : decode cX7_packedWords 47 = .ok (.laload, 1) := by decide +kernel
theorem dX7_packedWords_48 : decode cX7_packedWords 48 = .ok (.iload_n 3, 1) := by decide +kernel
theorem dX7_packedWords_49 : decode cX7_packedWords 49 = .ok (.invokestatic 52, 3) := by decide +kernel
theorem dX7_packedWords_52 : decode cX7_packedWords 52 = .ok (.lastore, 1) := by decide +kernel
theorem dX7_packedWords_53 : decode cX7_packedWords 53 = .ok (.iinc 2 1, 3) := by decide +kernel
theorem dX7_packedWords_56 : decode cX7_packedWords 56 = .ok (.goto (-47), 3) := by decide +kernel
theorem dX7_packedWords_59 : decode cX7_packedWords 59 = .ok (.aload_n 0, 1) := by decide +kernel
theorem dX7_packedWords_60 : decode cX7_packedWords 60 = .ok (.areturn, 1) := by decide +kernel
theorem dX7_withLetter_0 : decode cX7_withLetter 0 = .ok (.lload_n 0, 1) := by decide +kernel
theorem dX7_withLetter_1 : decode cX7_withLetter 1 = .ok (.iconst 5, 1) := by decide +kernel
theorem dX7_withLetter_2 : decode cX7_withLetter 2 = .ok (.lshl, 1) := by decide +kernel
theorem dX7_withLetter_3 : decode cX7_withLetter 3 = .ok (.iload_n 2, 1) := by decide +kernel
theorem dX7_withLetter_4 : decode cX7_withLetter 4 = .ok (.bipush 97, 2) := by decide +kernel
theorem dX7_withLetter_6 : decode cX7_withLetter 6 = .ok (.isub, 1) := by decide +kernel
theorem dX7_withLetter_7 : decode cX7_withLetter 7 = .ok (.iconst 1, 1) := by decide +kernel
theorem dX7_withLetter_8 : decode cX7_withLetter 8 = .ok (.iadd, 1) := by decide +kernel
theorem dX7_withLetter_9 : decode cX7_withLetter 9 = .ok (.i2l, 1) := by decide +kernel
theorem dX7_withLetter_10 : decode cX7_withLetter 10 = .ok (.lor, 1) := by decide +kernel
theorem dX7_withLetter_11 : decode cX7_withLetter 11 = .ok (.lreturn, 1) := by decide +kernel
theorem dX7_put_0 : decode cX7_put 0 = .ok (.bipush 24, 2) := by decide +kernel
theorem dX7_put_2 : decode cX7_put 2 = .ok (.istore_n 2, 1) := by decide +kernel
theorem dX7_put_3 : decode cX7_put 3 = .ok (.iload_n 2, 1) := by decide +kernel
theorem dX7_put_4 : decode cX7_put 4 = .ok (.ifCond .lt 48, 3) := by decide +kernel
theorem dX7_put_7 : decode cX7_put 7 = .ok (.aload_n 0, 1) := by decide +kernel
theorem dX7_put_8 : decode cX7_put 8 = .ok (.getfield 33, 3) := by decide +kernel
theorem dX7_put_11 : decode cX7_put 11 = .ok (.aload_n 0, 1) := by decide +kernel
theorem dX7_put_12 : decode cX7_put 12 = .ok (.getfield 9, 3) := by decide +kernel
theorem dX7_put_15 : decode cX7_put 15 = .ok (.arraylength, 1) := by decide +kernel
theorem dX7_put_16 : decode cX7_put 16 = .ok (.if_icmp .ge 36, 3) := by decide +kernel
theorem dX7_put_19 : decode cX7_put 19 = .ok (.aload_n 0, 1) := by decide +kernel
theorem dX7_put_20 : decode cX7_put 20 = .ok (.getfield 9, 3) := by decide +kernel
theorem dX7_put_23 : decode cX7_put 23 = .ok (.aload_n 0, 1) := by decide +kernel
theorem dX7_put_24 : decode cX7_put 24 = .ok (.getfield 33, 3) := by decide +kernel
theorem dX7_put_27 : decode cX7_put 27 = .ok (.iload_n 1, 1) := by decide +kernel
theorem dX7_put_28 : decode cX7_put 28 = .ok (.iload_n 2, 1) := by decide +kernel
theorem dX7_put_29 : decode cX7_put 29 = .ok (.iushr, 1) := by decide +kernel
theorem dX7_put_30 : decode cX7_put 30 = .ok (.sipush 255, 3) := by decide +kernel
theorem dX7_put_33 : decode cX7_put 33 = .ok (.iand, 1) := by decide +kernel
theorem dX7_put_34 : decode cX7_put 34 = .ok (.i2c, 1) := by decide +kernel
theorem dX7_put_35 : decode cX7_put 35 = .ok (.castore, 1) := by decide +kernel
theorem dX7_put_36 : decode cX7_put 36 = .ok (.aload_n 0, 1) := by decide +kernel
theorem dX7_put_37 : decode cX7_put 37 = .ok (.dup, 1) := by decide +kernel
theorem dX7_put_38 : decode cX7_put 38 = .ok (.getfield 33, 3) := by decide +kernel
theorem dX7_put_41 : decode cX7_put 41 = .ok (.iconst 1, 1) := by decide +kernel
theorem dX7_put_42 : decode cX7_put 42 = .ok (.iadd, 1) := by decide +kernel
theorem dX7_put_43 : decode cX7_put 43 = .ok (.putfield 33, 3) := by decide +kernel
theorem dX7_put_46 : decode cX7_put 46 = .ok (.iinc 2 (-8), 3) := by decide +kernel
theorem dX7_put_49 : decode cX7_put 49 = .ok (.goto (-46), 3) := by decide +kernel
theorem dX7_put_52 : decode cX7_put 52 = .ok (.return_, 1) := by decide +kernel
theorem dX7_cut_0 : decode cX7_cut 0 = .ok (.aload_n 0, 1) := by decide +kernel
theorem dX7_cut_1 : decode cX7_cut 1 = .ok (.iconst 0, 1) := by decide +kernel
theorem dX7_cut_2 : decode cX7_cut 2 = .ok (.putfield 37, 3) := by decide +kernel
theorem dX7_cut_5 : decode cX7_cut 5 = .ok (.iconst 0, 1) := by decide +kernel
theorem dX7_cut_6 : decode cX7_cut 6 = .ok (.istore_n 1, 1) := by decide +kernel
theorem dX7_cut_7 : decode cX7_cut 7 = .ok (.iconst 0, 1) := by decide +kernel
theorem dX7_cut_8 : decode cX7_cut 8 = .ok (.istore_n 2, 1) := by decide +kernel
theorem dX7_cut_9 : decode cX7_cut 9 = .ok (.iload_n 2, 1) := by decide +kernel
theorem dX7_cut_10 : decode cX7_cut 10 = .ok (.sipush 900, 3) := by decide +kernel
theorem dX7_cut_13 : decode cX7_cut 13 = .ok (.if_icmp .ge 23, 3) := by decide +kernel
theorem dX7_cut_16 : decode cX7_cut 16 = .ok (.iload_n 1, 1) := by decide +kernel
theorem dX7_cut_17 : decode cX7_cut 17 = .ok (.aload_n 0, 1) := by decide +kernel
theorem dX7_cut_18 : decode cX7_cut 18 = .ok (.getfield 33, 3) := by decide +kernel
theorem dX7_cut_21 : decode cX7_cut 21 = .ok (.if_icmp .ge 15, 3) := by decide +kernel
theorem dX7_cut_24 : decode cX7_cut 24 = .ok (.aload_n 0, 1) := by decide +kernel
theorem dX7_cut_25 : decode cX7_cut 25 = .ok (.iload_n 1, 1) := by decide +kernel
theorem dX7_cut_26 : decode cX7_cut 26 = .ok (.invokevirtual 56, 3) := by decide +kernel
theorem dX7_cut_29 : decode cX7_cut 29 = .ok (.istore_n 1, 1) := by decide +kernel
theorem dX7_cut_30 : decode cX7_cut 30 = .ok (.iinc 2 1, 3) := by decide +kernel
theorem dX7_cut_33 : decode cX7_cut 33 = .ok (.goto (-24), 3) := by decide +kernel
theorem dX7_cut_36 : decode cX7_cut 36 = .ok (.aload_n 0, 1) := by decide +kernel
theorem dX7_cut_37 : decode cX7_cut 37 = .ok (.iconst 0, 1) := by decide +kernel
theorem dX7_cut_38 : decode cX7_cut 38 = .ok (.aload_n 0, 1) := by decide +kernel
theorem dX7_cut_39 : decode cX7_cut 39 = .ok (.getfield 33, 3) := by decide +kernel
theorem dX7_cut_42 : decode cX7_cut 42 = .ok (.lconst 0, 1) := by decide +kernel
theorem dX7_cut_43 : decode cX7_cut 43 = .ok (.invokevirtual 60, 3) := by decide +kernel
theorem dX7_cut_46 : decode cX7_cut 46 = .ok (.return_, 1) := by decide +kernel
theorem dX7_cutOne_0 : decode cX7_cutOne 0 = .ok (.aload_n 0, 1) := by decide +kernel
theorem dX7_cutOne_1 : decode cX7_cutOne 1 = .ok (.getfield 9, 3) := by decide +kernel
theorem dX7_cutOne_4 : decode cX7_cutOne 4 = .ok (.iload_n 1, 1) := by decide +kernel
theorem dX7_cutOne_5 : decode cX7_cutOne 5 = .ok (.caload, 1) := by decide +kernel
theorem dX7_cutOne_6 : decode cX7_cutOne 6 = .ok (.istore_n 2, 1) := by decide +kernel
theorem dX7_cutOne_7 : decode cX7_cutOne 7 = .ok (.iload_n 2, 1) := by decide +kernel
theorem dX7_cutOne_8 : decode cX7_cutOne 8 = .ok (.bipush 32, 2) := by decide +kernel
theorem dX7_cutOne_10 : decode cX7_cutOne 10 = .ok (.if_icmp .eq 9, 3) := by decide +kernel
theorem dX7_cutOne_13 : decode cX7_cutOne 13 = .ok (.iload_n 2, 1) := by decide +kernel
theorem dX7_cutOne_14 : decode cX7_cutOne 14 = .ok (.bipush 10, 2) := by decide +kernel
theorem dX7_cutOne_16 : decode cX7_cutOne 16 = .ok (.if_icmp .ne 7, 3) := by decide +kernel
theorem dX7_cutOne_19 : decode cX7_cutOne 19 = .ok (.iload_n 1, 1) := by decide +kernel
theorem dX7_cutOne_20 : decode cX7_cutOne 20 = .ok (.iconst 1, 1) := by decide +kernel
theorem dX7_cutOne_21 : decode cX7_cutOne 21 = .ok (.iadd, 1) := by decide +kernel
theorem dX7_cutOne_22 : decode cX7_cutOne 22 = .ok (.ireturn, 1) := by decide +kernel
theorem dX7_cutOne_23 : decode cX7_cutOne 23 = .ok (.aload_n 0, 1) := by decide +kernel
theorem dX7_cutOne_24 : decode cX7_cutOne 24 = .ok (.iload_n 1, 1) := by decide +kernel
theorem dX7_cutOne_25 : decode cX7_cutOne 25 = .ok (.bipush 97, 2) := by decide +kernel
theorem dX7_cutOne_27 : decode cX7_cutOne 27 = .ok (.bipush 122, 2) := by decide +kernel
theorem dX7_cutOne_29 : decode cX7_cutOne 29 = .ok (.invokevirtual 64, 3) := by decide +kernel
theorem dX7_cutOne_32 : decode cX7_cutOne 32 = .ok (.istore_n 3, 1) := by decide +kernel
theorem dX7_cutOne_33 : decode cX7_cutOne 33 = .ok (.iload_n 3, 1) := by decide +kernel
theorem dX7_cutOne_34 : decode cX7_cutOne 34 = .ok (.iload_n 1, 1) := by decide +kernel
theorem dX7_cutOne_35 : decode cX7_cutOne 35 = .ok (.if_icmp .le 11, 3) := by decide +kernel
theorem dX7_cutOne_38 : decode cX7_cutOne 38 = .ok (.aload_n 0, 1) := by decide +kernel
theorem dX7_cutOne_39 : decode cX7_cutOne 39 = .ok (.iload_n 1, 1) := by decide +kernel
theorem dX7_cutOne_40 : decode cX7_cutOne 40 = .ok (.iload_n 3, 1) := by decide +kernel
theorem dX7_cutOne_41 : decode cX7_cutOne 41 = .ok (.invokevirtual 68, 3) := by decide +kernel
theorem dX7_cutOne_44 : decode cX7_cutOne 44 = .ok (.iload_n 3, 1) := by decide +kernel
theorem dX7_cutOne_45 : decode cX7_cutOne 45 = .ok (.ireturn, 1) := by decide +kernel
theorem dX7_cutOne_46 : decode cX7_cutOne 46 = .ok (.aload_n 0, 1) := by decide +kernel
theorem dX7_cutOne_47 : decode cX7_cutOne 47 = .ok (.iload_n 1, 1) := by decide +kernel
theorem dX7_cutOne_48 : decode cX7_cutOne 48 = .ok (.bipush 48, 2) := by decide +kernel
theorem dX7_cutOne_50 : decode cX7_cutOne 50 = .ok (.bipush 57, 2) := by decide +kernel
theorem dX7_cutOne_52 : decode cX7_cutOne 52 = .ok (.invokevirtual 64, 3) := by decide +kernel
theorem dX7_cutOne_55 : decode cX7_cutOne 55 = .ok (.istore_n 3, 1) := by decide +kernel
theorem dX7_cutOne_56 : decode cX7_cutOne 56 = .ok (.iload_n 3, 1) := by decide +kernel
theorem dX7_cutOne_57 : decode cX7_cutOne 57 = .ok (.iload_n 1, 1) := by decide +kernel
theorem dX7_cutOne_58 : decode cX7_cutOne 58 = .ok (.if_icmp .le 11, 3) := by decide +kernel
theorem dX7_cutOne_61 : decode cX7_cutOne 61 = .ok (.aload_n 0, 1) := by decide +kernel
theorem dX7_cutOne_62 : decode cX7_cutOne 62 = .ok (.iload_n 1, 1) := by decide +kernel
theorem dX7_cutOne_63 : decode cX7_cutOne 63 = .ok (.iload_n 3, 1) := by decide +kernel
theorem dX7_cutOne_64 : decode cX7_cutOne 64 = .ok (.invokevirtual 72, 3) := by decide +kernel
theorem dX7_cutOne_67 : decode cX7_cutOne 67 = .ok (.iload_n 3, 1) := by decide +kernel
theorem dX7_cutOne_68 : decode cX7_cutOne 68 = .ok (.ireturn, 1) := by decide +kernel
theorem dX7_cutOne_69 : decode cX7_cutOne 69 = .ok (.aload_n 0, 1) := by decide +kernel
theorem dX7_cutOne_70 : decode cX7_cutOne 70 = .ok (.ldc 75, 2) := by decide +kernel
theorem dX7_cutOne_72 : decode cX7_cutOne 72 = .ok (.iload_n 2, 1) := by decide +kernel
theorem dX7_cutOne_73 : decode cX7_cutOne 73 = .ok (.invokevirtual 77, 3) := by decide +kernel
theorem dX7_cutOne_76 : decode cX7_cutOne 76 = .ok (.ifCond .lt 7, 3) := by decide +kernel
theorem dX7_cutOne_79 : decode cX7_cutOne 79 = .ok (.iload_n 2, 1) := by decide +kernel
theorem dX7_cutOne_80 : decode cX7_cutOne 80 = .ok (.goto 4, 3) := by decide +kernel
theorem dX7_cutOne_83 : decode cX7_cutOne 83 = .ok (.iconst 1, 1) := by decide +kernel
theorem dX7_cutOne_84 : decode cX7_cutOne 84 = .ok (.iload_n 1, 1) := by decide +kernel
theorem dX7_cutOne_85 : decode cX7_cutOne 85 = .ok (.lconst 0, 1) := by decide +kernel
theorem dX7_cutOne_86 : decode cX7_cutOne 86 = .ok (.invokevirtual 60, 3) := by decide +kernel
theorem dX7_cutOne_89 : decode cX7_cutOne 89 = .ok (.iload_n 1, 1) := by decide +kernel
theorem dX7_cutOne_90 : decode cX7_cutOne 90 = .ok (.iconst 1, 1) := by decide +kernel
theorem dX7_cutOne_91 : decode cX7_cutOne 91 = .ok (.iadd, 1) := by decide +kernel
theorem dX7_cutOne_92 : decode cX7_cutOne 92 = .ok (.ireturn, 1) := by decide +kernel
theorem dX7_rowEnd_0 : decode cX7_rowEnd 0 = .ok (.iload_n 1, 1) := by decide +kernel
theorem dX7_rowEnd_1 : decode cX7_rowEnd 1 = .ok (.istore 4, 2) := by decide +kernel
theorem dX7_rowEnd_3 : decode cX7_rowEnd 3 = .ok (.iload 4, 2) := by decide +kernel
theorem dX7_rowEnd_5 : decode cX7_rowEnd 5 = .ok (.aload_n 0, 1) := by decide +kernel
theorem dX7_rowEnd_6 : decode cX7_rowEnd 6 = .ok (.getfield 33, 3) := by decide +kernel
theorem dX7_rowEnd_9 : decode cX7_rowEnd 9 = .ok (.if_icmp .ge 31, 3) := by decide +kernel
theorem dX7_rowEnd_12 : decode cX7_rowEnd 12 = .ok (.aload_n 0, 1) := by decide +kernel
theorem dX7_rowEnd_13 : decode cX7_rowEnd 13 = .ok (.getfield 9, 3) := by decide +kernel
theorem dX7_rowEnd_16 : decode cX7_rowEnd 16 = .ok (.iload 4, 2) := by decide +kernel
theorem dX7_rowEnd_18 : decode cX7_rowEnd 18 = .ok (.caload, 1) := by decide +kernel
theorem dX7_rowEnd_19 : decode cX7_rowEnd 19 = .ok (.iload_n 2, 1) := by decide +kernel
theorem dX7_rowEnd_20 : decode cX7_rowEnd 20 = .ok (.if_icmp .lt 20, 3) := by decide +kernel
theorem dX7_rowEnd_23 : decode cX7_rowEnd 23 = .ok (.aload_n 0, 1) := by decide +kernel
theorem dX7_rowEnd_24 : decode cX7_rowEnd 24 = .ok (.getfield 9, 3) := by decide +kernel
theorem dX7_rowEnd_27 : decode cX7_rowEnd 27 = .ok (.iload 4, 2) := by decide +kernel
theorem dX7_rowEnd_29 : decode cX7_rowEnd 29 = .ok (.caload, 1) := by decide +kernel
theorem dX7_rowEnd_30 : decode cX7_rowEnd 30 = .ok (.iload_n 3, 1) := by decide +kernel
theorem dX7_rowEnd_31 : decode cX7_rowEnd 31 = .ok (.if_icmp .gt 9, 3) := by decide +kernel
theorem dX7_rowEnd_34 : decode cX7_rowEnd 34 = .ok (.iinc 4 1, 3) := by decide +kernel
theorem dX7_rowEnd_37 : decode cX7_rowEnd 37 = .ok (.goto (-34), 3) := by decide +kernel
theorem dX7_rowEnd_40 : decode cX7_rowEnd 40 = .ok (.iload 4, 2) := by decide +kernel
theorem dX7_rowEnd_42 : decode cX7_rowEnd 42 = .ok (.ireturn, 1) := by decide +kernel
theorem dX7_addName_0 : decode cX7_addName 0 = .ok (.iload_n 2, 1) := by decide +kernel
theorem dX7_addName_1 : decode cX7_addName 1 = .ok (.iload_n 1, 1) := by decide +kernel
theorem dX7_addName_2 : decode cX7_addName 2 = .ok (.isub, 1) := by decide +kernel
theorem dX7_addName_3 : decode cX7_addName 3 = .ok (.bipush 8, 2) := by decide +kernel
theorem dX7_addName_5 : decode cX7_addName 5 = .ok (.if_icmp .le 11, 3) := by decide +kernel
theorem dX7_addName_8 : decode cX7_addName 8 = .ok (.aload_n 0, 1) := by decide +kernel
theorem dX7_addName_9 : decode cX7_addName 9 = .ok (.iconst 1, 1) := by decide +kernel
theorem dX7_addName_10 : decode cX7_addName 10 = .ok (.iload_n 1, 1) := by decide +kernel
theorem dX7_addName_11 : decode cX7_addName 11 = .ok (.lconst 0, 1) := by decide +kernel
theorem dX7_addName_12 : decode cX7_addName 12 = .ok (.invokevirtual 60, 3) := by decide +kernel
theorem dX7_addName_15 : decode cX7_addName 15 = .ok (.return_, 1) := by decide +kernel
theorem dX7_addName_16 : decode cX7_addName 16 = .ok (.lconst 0, 1) := by decide +kernel
theorem dX7_addName_17 : decode cX7_addName 17 = .ok (.lstore_n 3, 1) := by decide +kernel
theorem dX7_addName_18 : decode cX7_addName 18 = .ok (.iload_n 1, 1) := by decide +kernel
theorem dX7_addName_19 : decode cX7_addName 19 = .ok (.istore 5, 2) := by decide +kernel
theorem dX7_addName_21 : decode cX7_addName 21 = .ok (.iload 5, 2) := by decide +kernel
theorem dX7_addName_23 : decode cX7_addName 23 = .ok (.iload_n 2, 1) := by decide +kernel
theorem dX7_addName_24 : decode cX7_addName 24 = .ok (.if_icmp .ge 21, 3) := by decide +kernel
theorem dX7_addName_27 : decode cX7_addName 27 = .ok (.lload_n 3, 1) := by decide +kernel
theorem dX7_addName_28 : decode cX7_addName 28 = .ok (.aload_n 0, 1) := by decide +kernel
theorem dX7_addName_29 : decode cX7_addName 29 = .ok (.getfield 9, 3) := by decide +kernel
theorem dX7_addName_32 : decode cX7_addName 32 = .ok (.iload 5, 2) := by decide +kernel
theorem dX7_addName_34 : decode cX7_addName 34 = .ok (.caload, 1) := by decide +kernel
theorem dX7_addName_35 : decode cX7_addName 35 = .ok (.invokestatic 52, 3) := by decide +kernel
theorem dX7_addName_38 : decode cX7_addName 38 = .ok (.lstore_n 3, 1) := by decide +kernel
theorem dX7_addName_39 : decode cX7_addName 39 = .ok (.iinc 5 1, 3) := by decide +kernel
theorem dX7_addName_42 : decode cX7_addName 42 = .ok (.goto (-21), 3) := by decide +kernel
theorem dX7_addName_45 : decode cX7_addName 45 = .ok (.aload_n 0, 1) := by decide +kernel
theorem dX7_addName_46 : decode cX7_addName 46 = .ok (.getfield 30, 3) := by decide +kernel
theorem dX7_addName_49 : decode cX7_addName 49 = .ok (.bipush 12, 2) := by decide +kernel
theorem dX7_addName_51 : decode cX7_addName 51 = .ok (.lload_n 3, 1) := by decide +kernel
theorem dX7_addName_52 : decode cX7_addName 52 = .ok (.invokestatic 80, 3) := by decide +kernel
theorem dX7_addName_55 : decode cX7_addName 55 = .ok (.istore 5, 2) := by decide +kernel
theorem dX7_addName_57 : decode cX7_addName 57 = .ok (.aload_n 0, 1) := by decide +kernel
theorem dX7_addName_58 : decode cX7_addName 58 = .ok (.iload 5, 2) := by decide +kernel
theorem dX7_addName_60 : decode cX7_addName 60 = .ok (.iconst (-1), 1) := by decide +kernel
theorem dX7_addName_61 : decode cX7_addName 61 = .ok (.if_icmp .ne 7, 3) := by decide +kernel
theorem dX7_addName_64 : decode cX7_addName 64 = .ok (.iconst 2, 1) := by decide +kernel
theorem dX7_addName_65 : decode cX7_addName 65 = .ok (.goto 9, 3) := by decide +kernel
theorem dX7_addName_68 : decode cX7_addName 68 = .ok (.sipush 300, 3) := by decide +kernel
theorem dX7_addName_71 : decode cX7_addName 71 = .ok (.iload 5, 2) := by decide +kernel
theorem dX7_addName_73 : decode cX7_addName 73 = .ok (.iadd, 1) := by decide +kernel
theorem dX7_addName_74 : decode cX7_addName 74 = .ok (.iload_n 1, 1) := by decide +kernel
theorem dX7_addName_75 : decode cX7_addName 75 = .ok (.lload_n 3, 1) := by decide +kernel
theorem dX7_addName_76 : decode cX7_addName 76 = .ok (.invokevirtual 60, 3) := by decide +kernel
theorem dX7_addName_79 : decode cX7_addName 79 = .ok (.return_, 1) := by decide +kernel
theorem dX7_addNumber_0 : decode cX7_addNumber 0 = .ok (.iload_n 2, 1) := by decide +kernel
theorem dX7_addNumber_1 : decode cX7_addNumber 1 = .ok (.iload_n 1, 1) := by decide +kernel
theorem dX7_addNumber_2 : decode cX7_addNumber 2 = .ok (.isub, 1) := by decide +kernel
theorem dX7_addNumber_3 : decode cX7_addNumber 3 = .ok (.bipush 9, 2) := by decide +kernel
theorem dX7_addNumber_5 : decode cX7_addNumber 5 = .ok (.if_icmp .le 11, 3) := by decide +kernel
theorem dX7_addNumber_8 : decode cX7_addNumber 8 = .ok (.aload_n 0, 1) := by decide +kernel
theorem dX7_addNumber_9 : decode cX7_addNumber 9 = .ok (.iconst 1, 1) := by decide +kernel
theorem dX7_addNumber_10 : decode cX7_addNumber 10 = .ok (.iload_n 1, 1) := by decide +kernel
theorem dX7_addNumber_11 : decode cX7_addNumber 11 = .ok (.lconst 0, 1) := by decide +kernel
theorem dX7_addNumber_12 : decode cX7_addNumber 12 = .ok (.invokevirtual 60, 3) := by decide +kernel
theorem dX7_addNumber_15 : decode cX7_addNumber 15 = .ok (.return_, 1) := by decide +kernel
theorem dX7_addNumber_16 : decode cX7_addNumber 16 = .ok (.lconst 0, 1) := by decide +kernel
theorem dX7_addNumber_17 : decode cX7_addNumber 17 = .ok (.lstore_n 3, 1) := by decide +kernel
theorem dX7_addNumber_18 : decode cX7_addNumber 18 = .ok (.iload_n 1, 1) := by decide +kernel
theorem dX7_addNumber_19 : decode cX7_addNumber 19 = .ok (.istore 5, 2) := by decide +kernel
theorem dX7_addNumber_21 : decode cX7_addNumber 21 = .ok (.iload 5, 2) := by decide +kernel
theorem dX7_addNumber_23 : decode cX7_addNumber 23 = .ok (.iload_n 2, 1) := by decide +kernel
theorem dX7_addNumber_24 : decode cX7_addNumber 24 = .ok (.if_icmp .ge 27, 3) := by decide +kernel
theorem dX7_addNumber_27 : decode cX7_addNumber 27 = .ok (.lload_n 3, 1) := by decide +kernel
theorem dX7_addNumber_28 : decode cX7_addNumber 28 = .ok (.ldc2_w 84, 3) := by decide +kernel
theorem dX7_addNumber_31 : decode cX7_addNumber 31 = .ok (.lmul, 1) := by decide +kernel
theorem dX7_addNumber_32 : decode cX7_addNumber 32 = .ok (.aload_n 0, 1) := by decide +kernel
theorem dX7_addNumber_33 : decode cX7_addNumber 33 = .ok (.getfield 9, 3) := by decide +kernel
theorem dX7_addNumber_36 : decode cX7_addNumber 36 = .ok (.iload 5, 2) := by decide +kernel
theorem dX7_addNumber_38 : decode cX7_addNumber 38 = .ok (.caload, 1) := by decide +kernel
theorem dX7_addNumber_39 : decode cX7_addNumber 39 = .ok (.bipush 48, 2) := by decide +kernel
theorem dX7_addNumber_41 : decode cX7_addNumber 41 = .ok (.isub, 1) := by decide +kernel
theorem dX7_addNumber_42 : decode cX7_addNumber 42 = .ok (.i2l, 1) := by decide +kernel
theorem dX7_addNumber_43 : decode cX7_addNumber 43 = .ok (.ladd, 1) := by decide +kernel
theorem dX7_addNumber_44 : decode cX7_addNumber 44 = .ok (.lstore_n 3, 1) := by decide +kernel
theorem dX7_addNumber_45 : decode cX7_addNumber 45 = .ok (.iinc 5 1, 3) := by decide +kernel
theorem dX7_addNumber_48 : decode cX7_addNumber 48 = .ok (.goto (-27), 3) := by decide +kernel
theorem dX7_addNumber_51 : decode cX7_addNumber 51 = .ok (.aload_n 0, 1) := by decide +kernel
theorem dX7_addNumber_52 : decode cX7_addNumber 52 = .ok (.iconst 3, 1) := by decide +kernel
theorem dX7_addNumber_53 : decode cX7_addNumber 53 = .ok (.iload_n 1, 1) := by decide +kernel
theorem dX7_addNumber_54 : decode cX7_addNumber 54 = .ok (.lload_n 3, 1) := by decide +kernel
theorem dX7_addNumber_55 : decode cX7_addNumber 55 = .ok (.invokevirtual 60, 3) := by decide +kernel
theorem dX7_addNumber_58 : decode cX7_addNumber 58 = .ok (.return_, 1) := by decide +kernel
theorem dX7_add_0 : decode cX7_add 0 = .ok (.aload_n 0, 1) := by decide +kernel
theorem dX7_add_1 : decode cX7_add 1 = .ok (.getfield 37, 3) := by decide +kernel
theorem dX7_add_4 : decode cX7_add 4 = .ok (.aload_n 0, 1) := by decide +kernel
theorem dX7_add_5 : decode cX7_add 5 = .ok (.getfield 15, 3) := by decide +kernel
theorem dX7_add_8 : decode cX7_add 8 = .ok (.arraylength, 1) := by decide +kernel
theorem dX7_add_9 : decode cX7_add 9 = .ok (.if_icmp .ge 43, 3) := by decide +kernel
theorem dX7_add_12 : decode cX7_add 12 = .ok (.aload_n 0, 1) := by decide +kernel
theorem dX7_add_13 : decode cX7_add 13 = .ok (.getfield 15, 3) := by decide +kernel
theorem dX7_add_16 : decode cX7_add 16 = .ok (.aload_n 0, 1) := by decide +kernel
theorem dX7_add_17 : decode cX7_add 17 = .ok (.getfield 37, 3) := by decide +kernel
theorem dX7_add_20 : decode cX7_add 20 = .ok (.iload_n 1, 1) := by decide +kernel
theorem dX7_add_21 : decode cX7_add 21 = .ok (.iastore, 1) := by decide +kernel
theorem dX7_add_22 : decode cX7_add 22 = .ok (.aload_n 0, 1) := by decide +kernel
theorem dX7_add_23 : decode cX7_add 23 = .ok (.getfield 19, 3) := by decide +kernel
theorem dX7_add_26 : decode cX7_add 26 = .ok (.aload_n 0, 1) := by decide +kernel
theorem dX7_add_27 : decode cX7_add 27 = .ok (.getfield 37, 3) := by decide +kernel
theorem dX7_add_30 : decode cX7_add 30 = .ok (.iload_n 2, 1) := by decide +kernel
theorem dX7_add_31 : decode cX7_add 31 = .ok (.iastore, 1) := by decide +kernel
theorem dX7_add_32 : decode cX7_add 32 = .ok (.aload_n 0, 1) := by decide +kernel
theorem dX7_add_33 : decode cX7_add 33 = .ok (.getfield 22, 3) := by decide +kernel
theorem dX7_add_36 : decode cX7_add 36 = .ok (.aload_n 0, 1) := by decide +kernel
theorem dX7_add_37 : decode cX7_add 37 = .ok (.getfield 37, 3) := by decide +kernel
theorem dX7_add_40 : decode cX7_add 40 = .ok (.lload_n 3, 1) := by decide +kernel
theorem dX7_add_41 : decode cX7_add 41 = .ok (.lastore, 1) := by decide +kernel
theorem dX7_add_42 : decode cX7_add 42 = .ok (.aload_n 0, 1) := by decide +kernel
theorem dX7_add_43 : decode cX7_add 43 = .ok (.dup, 1) := by decide +kernel
theorem dX7_add_44 : decode cX7_add 44 = .ok (.getfield 37, 3) := by decide +kernel
theorem dX7_add_47 : decode cX7_add 47 = .ok (.iconst 1, 1) := by decide +kernel
theorem dX7_add_48 : decode cX7_add 48 = .ok (.iadd, 1) := by decide +kernel
theorem dX7_add_49 : decode cX7_add 49 = .ok (.putfield 37, 3) := by decide +kernel
theorem dX7_add_52 : decode cX7_add 52 = .ok (.return_, 1) := by decide +kernel
theorem dX8_init_0 : decode cX8_init 0 = .ok (.aload_n 0, 1) := by decide +kernel
theorem dX8_init_1 : decode cX8_init 1 = .ok (.invokespecial 3, 3) := by decide +kernel
theorem dX8_init_4 : decode cX8_init 4 = .ok (.aload_n 0, 1) := by decide +kernel
theorem dX8_init_5 : decode cX8_init 5 = .ok (.iconst 0, 1) := by decide +kernel
theorem dX8_init_6 : decode cX8_init 6 = .ok (.putfield 9, 3) := by decide +kernel
theorem dX8_init_9 : decode cX8_init 9 = .ok (.aload_n 0, 1) := by decide +kernel
theorem dX8_init_10 : decode cX8_init 10 = .ok (.bipush 8, 2) := by decide +kernel
theorem dX8_init_12 : decode cX8_init 12 = .ok (.newarray .int, 2) := by decide +kernel
theorem dX8_init_14 : decode cX8_init 14 = .ok (.putfield 15, 3) := by decide +kernel
theorem dX8_init_17 : decode cX8_init 17 = .ok (.aload_n 0, 1) := by decide +kernel
theorem dX8_init_18 : decode cX8_init 18 = .ok (.bipush 8, 2) := by decide +kernel
theorem dX8_init_20 : decode cX8_init 20 = .ok (.newarray .long, 2) := by decide +kernel
theorem dX8_init_22 : decode cX8_init 22 = .ok (.putfield 19, 3) := by decide +kernel
theorem dX8_init_25 : decode cX8_init 25 = .ok (.aload_n 0, 1) := by decide +kernel
theorem dX8_init_26 : decode cX8_init 26 = .ok (.bipush 72, 2) := by decide +kernel
theorem dX8_init_28 : decode cX8_init 28 = .ok (.newarray .long, 2) := by decide +kernel
theorem dX8_init_30 : decode cX8_init 30 = .ok (.putfield 23, 3) := by decide +kernel
theorem dX8_init_33 : decode cX8_init 33 = .ok (.return_, 1) := by decide +kernel
theorem dX8_make_0 : decode cX8_make 0 = .ok (.aload_n 0, 1) := by decide +kernel
theorem dX8_make_1 : decode cX8_make 1 = .ok (.aload_n 1, 1) := by decide +kernel
theorem dX8_make_2 : decode cX8_make 2 = .ok (.putfield 26, 3) := by decide +kernel
theorem dX8_make_5 : decode cX8_make 5 = .ok (.aload_n 0, 1) := by decide +kernel
theorem dX8_make_6 : decode cX8_make 6 = .ok (.aload_n 1, 1) := by decide +kernel
theorem dX8_make_7 : decode cX8_make 7 = .ok (.ifnonnull 7, 3) := by decide +kernel
theorem dX8_make_10 : decode cX8_make 10 = .ok (.iconst 0, 1) := by decide +kernel
theorem dX8_make_11 : decode cX8_make 11 = .ok (.goto 4, 3) := by decide +kernel
theorem dX8_make_14 : decode cX8_make 14 = .ok (.iconst 1, 1) := by decide +kernel
theorem dX8_make_15 : decode cX8_make 15 = .ok (.putfield 9, 3) := by decide +kernel
theorem dX8_make_18 : decode cX8_make 18 = .ok (.aload_n 0, 1) := by decide +kernel
theorem dX8_make_19 : decode cX8_make 19 = .ok (.aload_n 1, 1) := by decide +kernel
theorem dX8_make_20 : decode cX8_make 20 = .ok (.ifnonnull 7, 3) := by decide +kernel
theorem dX8_make_23 : decode cX8_make 23 = .ok (.iconst 0, 1) := by decide +kernel
theorem dX8_make_24 : decode cX8_make 24 = .ok (.goto 4, 3) := by decide +kernel
theorem dX8_make_27 : decode cX8_make 27 = .ok (.iload_n 2, 1) := by decide +kernel
theorem dX8_make_28 : decode cX8_make 28 = .ok (.putfield 30, 3) := by decide +kernel
theorem dX8_make_31 : decode cX8_make 31 = .ok (.aload_n 0, 1) := by decide +kernel
theorem dX8_make_32 : decode cX8_make 32 = .ok (.iconst 0, 1) := by decide +kernel
theorem dX8_make_33 : decode cX8_make 33 = .ok (.putfield 33, 3) := by decide +kernel
theorem dX8_make_36 : decode cX8_make 36 = .ok (.aload_n 0, 1) := by decide +kernel
theorem dX8_make_37 : decode cX8_make 37 = .ok (.iconst 0, 1) := by decide +kernel
theorem dX8_make_38 : decode cX8_make 38 = .ok (.putfield 36, 3) := by decide +kernel
theorem dX8_make_41 : decode cX8_make 41 = .ok (.aload_n 0, 1) := by decide +kernel
theorem dX8_make_42 : decode cX8_make 42 = .ok (.getfield 15, 3) := by decide +kernel
theorem dX8_make_45 : decode cX8_make 45 = .ok (.iconst 0, 1) := by decide +kernel
theorem dX8_make_46 : decode cX8_make 46 = .ok (.invokestatic 39, 3) := by decide +kernel
theorem dX8_make_49 : decode cX8_make 49 = .ok (.aload_n 0, 1) := by decide +kernel
theorem dX8_make_50 : decode cX8_make 50 = .ok (.getfield 23, 3) := by decide +kernel
theorem dX8_make_53 : decode cX8_make 53 = .ok (.lconst 0, 1) := by decide +kernel
theorem dX8_make_54 : decode cX8_make 54 = .ok (.invokestatic 45, 3) := by decide +kernel
theorem dX8_make_57 : decode cX8_make 57 = .ok (.return_, 1) := by decide +kernel
theorem dX8_valueOf_0 : decode cX8_valueOf 0 = .ok (.aload_n 0, 1) := by decide +kernel
theorem dX8_valueOf_1 : decode cX8_valueOf 1 = .ok (.getfield 26, 3) := by decide +kernel
theorem dX8_valueOf_4 : decode cX8_valueOf 4 = .ok (.ifnull 29, 3) := by decide +kernel
theorem dX8_valueOf_7 : decode cX8_valueOf 7 = .ok (.iload_n 1, 1) := by decide +kernel
theorem dX8_valueOf_8 : decode cX8_valueOf 8 = .ok (.ifCond .lt 25, 3) := by decide +kernel
theorem dX8_valueOf_11 : decode cX8_valueOf 11 = .ok (.iload_n 1, 1) := by decide +kernel
theorem dX8_valueOf_12 : decode cX8_valueOf 12 = .ok (.aload_n 0, 1) := by decide +kernel
theorem dX8_valueOf_13 : decode cX8_valueOf 13 = .ok (.getfield 26, 3) := by decide +kernel
theorem dX8_valueOf_16 : decode cX8_valueOf 16 = .ok (.getfield 48, 3) := by decide +kernel
theorem dX8_valueOf_19 : decode cX8_valueOf 19 = .ok (.arraylength, 1) := by decide +kernel
theorem dX8_valueOf_20 : decode cX8_valueOf 20 = .ok (.if_icmp .ge 13, 3) := by decide +kernel
theorem dX8_valueOf_23 : decode cX8_valueOf 23 = .ok (.aload_n 0, 1) := by decide +kernel
theorem dX8_valueOf_24 : decode cX8_valueOf 24 = .ok (.getfield 15, 3) := by decide +kernel
theorem dX8_valueOf_27 : decode cX8_valueOf 27 = .ok (.iload_n 1, 1) := by decide +kernel
theorem dX8_valueOf_28 : decode cX8_valueOf 28 = .ok (.iaload, 1) := by decide +kernel
theorem dX8_valueOf_29 : decode cX8_valueOf 29 = .ok (.iconst 2, 1) := by decide +kernel
theorem dX8_valueOf_30 : decode cX8_valueOf 30 = .ok (.if_icmp .eq 7, 3) := by decide +kernel
theorem dX8_valueOf_33 : decode cX8_valueOf 33 = .ok (.ldc2_w 53, 3) := by decide +kernel
theorem dX8_valueOf_36 : decode cX8_valueOf 36 = .ok (.lreturn, 1) := by decide +kernel
theorem dX8_valueOf_37 : decode cX8_valueOf 37 = .ok (.aload_n 0, 1) := by decide +kernel
theorem dX8_valueOf_38 : decode cX8_valueOf 38 = .ok (.getfield 19, 3) := by decide +kernel
theorem dX8_valueOf_41 : decode cX8_valueOf 41 = .ok (.iload_n 1, 1) := by decide +kernel
theorem dX8_valueOf_42 : decode cX8_valueOf 42 = .ok (.laload, 1) := by decide +kernel
theorem dX8_valueOf_43 : decode cX8_valueOf 43 = .ok (.lreturn, 1) := by decide +kernel
theorem dX8_hasEntry_0 : decode cX8_hasEntry 0 = .ok (.aload_n 0, 1) := by decide +kernel
theorem dX8_hasEntry_1 : decode cX8_hasEntry 1 = .ok (.getfield 26, 3) := by decide +kernel
theorem dX8_hasEntry_4 : decode cX8_hasEntry 4 = .ok (.ifnull 44, 3) := by decide +kernel
theorem dX8_hasEntry_7 : decode cX8_hasEntry 7 = .ok (.iload_n 1, 1) := by decide +kernel
theorem dX8_hasEntry_8 : decode cX8_hasEntry 8 = .ok (.ifCond .lt 40, 3) := by decide +kernel
theorem dX8_hasEntry_11 : decode cX8_hasEntry 11 = .ok (.iload_n 1, 1) := by decide +kernel
theorem dX8_hasEntry_12 : decode cX8_hasEntry 12 = .ok (.aload_n 0, 1) := by decide +kernel
theorem dX8_hasEntry_13 : decode cX8_hasEntry 13 = .ok (.getfield 26, 3) := by decide +kernel
theorem dX8_hasEntry_16 : decode cX8_hasEntry 16 = .ok (.getfield 55, 3) := by decide +kernel
theorem dX8_hasEntry_19 : decode cX8_hasEntry 19 = .ok (.arraylength, 1) := by decide +kernel
theorem dX8_hasEntry_20 : decode cX8_hasEntry 20 = .ok (.if_icmp .ge 28, 3) := by decide +kernel
theorem dX8_hasEntry_23 : decode cX8_hasEntry 23 = .ok (.lload_n 2, 1) := by decide +kernel
theorem dX8_hasEntry_24 : decode cX8_hasEntry 24 = .ok (.lconst 0, 1) := by decide +kernel
theorem dX8_hasEntry_25 : decode cX8_hasEntry 25 = .ok (.lcmp, 1) := by decide +kernel
theorem dX8_hasEntry_26 : decode cX8_hasEntry 26 = .ok (.ifCond .lt 22, 3) := by decide +kernel
theorem dX8_hasEntry_29 : decode cX8_hasEntry 29 = .ok (.lload_n 2, 1) := by decide +kernel
theorem dX8_hasEntry_30 : decode cX8_hasEntry 30 = .ok (.aload_n 0, 1) := by decide +kernel
theorem dX8_hasEntry_31 : decode cX8_hasEntry 31 = .ok (.getfield 26, 3) := by decide +kernel
theorem dX8_hasEntry_34 : decode cX8_hasEntry 34 = .ok (.getfield 55, 3) := by decide +kernel
theorem dX8_hasEntry_37 : decode cX8_hasEntry 37 = .ok (.iload_n 1, 1) := by decide +kernel
theorem dX8_hasEntry_38 : decode cX8_hasEntry 38 = .ok (.iaload, 1) := by decide +kernel
theorem dX8_hasEntry_39 : decode cX8_hasEntry 39 = .ok (.i2l, 1) := by decide +kernel
theorem dX8_hasEntry_40 : decode cX8_hasEntry 40 = .ok (.lcmp, 1) := by decide +kernel
theorem dX8_hasEntry_41 : decode cX8_hasEntry 41 = .ok (.ifCond .ge 7, 3) := by decide +kernel
theorem dX8_hasEntry_44 : decode cX8_hasEntry 44 = .ok (.iconst 1, 1) := by decide +kernel
theorem dX8_hasEntry_45 : decode cX8_hasEntry 45 = .ok (.goto 4, 3) := by decide +kernel
theorem dX8_hasEntry_48 : decode cX8_hasEntry 48 = .ok (.iconst 0, 1) := by decide +kernel
theorem dX8_hasEntry_49 : decode cX8_hasEntry 49 = .ok (.ireturn, 1) := by decide +kernel
theorem dX9_init_0 : decode cX9_init 0 = .ok (.aload_n 0, 1) := by decide +kernel
theorem dX9_init_1 : decode cX9_init 1 = .ok (.invokespecial 3, 3) := by decide +kernel
theorem dX9_init_4 : decode cX9_init 4 = .ok (.aload_n 0, 1) := by decide +kernel
theorem dX9_init_5 : decode cX9_init 5 = .ok (.iload_n 1, 1) := by decide +kernel
theorem dX9_init_6 : decode cX9_init 6 = .ok (.putfield 9, 3) := by decide +kernel
theorem dX9_init_9 : decode cX9_init 9 = .ok (.aload_n 0, 1) := by decide +kernel
theorem dX9_init_10 : decode cX9_init 10 = .ok (.iload_n 2, 1) := by decide +kernel
theorem dX9_init_11 : decode cX9_init 11 = .ok (.putfield 15, 3) := by decide +kernel
theorem dX9_init_14 : decode cX9_init 14 = .ok (.aload_n 0, 1) := by decide +kernel
theorem dX9_init_15 : decode cX9_init 15 = .ok (.bipush 8, 2) := by decide +kernel
theorem dX9_init_17 : decode cX9_init 17 = .ok (.newarray .int, 2) := by decide +kernel
theorem dX9_init_19 : decode cX9_init 19 = .ok (.putfield 18, 3) := by decide +kernel
theorem dX9_init_22 : decode cX9_init 22 = .ok (.aload_n 0, 1) := by decide +kernel
theorem dX9_init_23 : decode cX9_init 23 = .ok (.bipush 8, 2) := by decide +kernel
theorem dX9_init_25 : decode cX9_init 25 = .ok (.newarray .int, 2) := by decide +kernel
theorem dX9_init_27 : decode cX9_init 27 = .ok (.putfield 22, 3) := by decide +kernel
theorem dX9_init_30 : decode cX9_init 30 = .ok (.aload_n 0, 1) := by decide +kernel
theorem dX9_init_31 : decode cX9_init 31 = .ok (.bipush 8, 2) := by decide +kernel
theorem dX9_init_33 : decode cX9_init 33 = .ok (.newarray .int, 2) := by decide +kernel
theorem dX9_init_35 : decode cX9_init 35 = .ok (.putfield 25, 3) := by decide +kernel
theorem dX9_init_38 : decode cX9_init 38 = .ok (.aload_n 0, 1) := by decide +kernel
theorem dX9_init_39 : decode cX9_init 39 = .ok (.bipush 8, 2) := by decide +kernel
theorem dX9_init_41 : decode cX9_init 41 = .ok (.newarray .long, 2) := by decide +kernel
theorem dX9_init_43 : decode cX9_init 43 = .ok (.putfield 28, 3) := by decide +kernel
theorem dX9_init_46 : decode cX9_init 46 = .ok (.return_, 1) := by decide +kernel
theorem dX9_addLock_0 : decode cX9_addLock 0 = .ok (.aload_n 0, 1) := by decide +kernel
theorem dX9_addLock_1 : decode cX9_addLock 1 = .ok (.getfield 32, 3) := by decide +kernel
theorem dX9_addLock_4 : decode cX9_addLock 4 = .ok (.bipush 8, 2) := by decide +kernel
theorem dX9_addLock_6 : decode cX9_addLock 6 = .ok (.if_icmp .ge 43, 3) := by decide +kernel
theorem dX9_addLock_9 : decode cX9_addLock 9 = .ok (.aload_n 0, 1) := by decide +kernel
theorem dX9_addLock_10 : decode cX9_addLock 10 = .ok (.getfield 18, 3) := by decide +kernel
theorem dX9_addLock_13 : decode cX9_addLock 13 = .ok (.aload_n 0, 1) := by decide +kernel
theorem dX9_addLock_14 : decode cX9_addLock 14 = .ok (.getfield 32, 3) := by decide +kernel
theorem dX9_addLock_17 : decode cX9_addLock 17 = .ok (.iload_n 1, 1) := by decide +kernel
theorem dX9_addLock_18 : decode cX9_addLock 18 = .ok (.iastore, 1) := by decide +kernel
theorem dX9_addLock_19 : decode cX9_addLock 19 = .ok (.aload_n 0, 1) := by decide +kernel
theorem dX9_addLock_20 : decode cX9_addLock 20 = .ok (.getfield 22, 3) := by decide +kernel
theorem dX9_addLock_23 : decode cX9_addLock 23 = .ok (.aload_n 0, 1) := by decide +kernel
theorem dX9_addLock_24 : decode cX9_addLock 24 = .ok (.getfield 32, 3) := by decide +kernel
theorem dX9_addLock_27 : decode cX9_addLock 27 = .ok (.iload_n 2, 1) := by decide +kernel
theorem dX9_addLock_28 : decode cX9_addLock 28 = .ok (.iastore, 1) := by decide +kernel
theorem dX9_addLock_29 : decode cX9_addLock 29 = .ok (.aload_n 0, 1) := by decide +kernel
theorem dX9_addLock_30 : decode cX9_addLock 30 = .ok (.getfield 25, 3) := by decide +kernel
theorem dX9_addLock_33 : decode cX9_addLock 33 = .ok (.aload_n 0, 1) := by decide +kernel
theorem dX9_addLock_34 : decode cX9_addLock 34 = .ok (.getfield 32, 3) := by decide +kernel
theorem dX9_addLock_37 : decode cX9_addLock 37 = .ok (.iload_n 3, 1) := by decide +kernel
theorem dX9_addLock_38 : decode cX9_addLock 38 = .ok (.iastore, 1) := by decide +kernel
theorem dX9_addLock_39 : decode cX9_addLock 39 = .ok (.aload_n 0, 1) := by decide +kernel
theorem dX9_addLock_40 : decode cX9_addLock 40 = .ok (.dup, 1) := by decide +kernel
theorem dX9_addLock_41 : decode cX9_addLock 41 = .ok (.getfield 32, 3) := by decide +kernel
theorem dX9_addLock_44 : decode cX9_addLock 44 = .ok (.iconst 1, 1) := by decide +kernel
theorem dX9_addLock_45 : decode cX9_addLock 45 = .ok (.iadd, 1) := by decide +kernel
theorem dX9_addLock_46 : decode cX9_addLock 46 = .ok (.putfield 32, 3) := by decide +kernel
theorem dX9_addLock_49 : decode cX9_addLock 49 = .ok (.return_, 1) := by decide +kernel
theorem dX10_init_0 : decode cX10_init 0 = .ok (.aload_n 0, 1) := by decide +kernel
theorem dX10_init_1 : decode cX10_init 1 = .ok (.invokespecial 3, 3) := by decide +kernel
theorem dX10_init_4 : decode cX10_init 4 = .ok (.aload_n 0, 1) := by decide +kernel
theorem dX10_init_5 : decode cX10_init 5 = .ok (.new 9, 3) := by decide +kernel
theorem dX10_init_8 : decode cX10_init 8 = .ok (.dup, 1) := by decide +kernel
theorem dX10_init_9 : decode cX10_init 9 = .ok (.invokespecial 11, 3) := by decide +kernel
theorem dX10_init_12 : decode cX10_init 12 = .ok (.putfield 12, 3) := by decide +kernel
theorem dX10_init_15 : decode cX10_init 15 = .ok (.aload_n 0, 1) := by decide +kernel
theorem dX10_init_16 : decode cX10_init 16 = .ok (.new 16, 3) := by decide +kernel
theorem dX10_init_19 : decode cX10_init 19 = .ok (.dup, 1) := by decide +kernel
theorem dX10_init_20 : decode cX10_init 20 = .ok (.aload_n 0, 1) := by decide +kernel
theorem dX10_init_21 : decode cX10_init 21 = .ok (.getfield 12, 3) := by decide +kernel
theorem dX10_init_24 : decode cX10_init 24 = .ok (.invokespecial 18, 3) := by decide +kernel
theorem dX10_init_27 : decode cX10_init 27 = .ok (.putfield 21, 3) := by decide +kernel
theorem dX10_init_30 : decode cX10_init 30 = .ok (.aload_n 0, 1) := by decide +kernel
theorem dX10_init_31 : decode cX10_init 31 = .ok (.new 25, 3) := by decide +kernel
theorem dX10_init_34 : decode cX10_init 34 = .ok (.dup, 1) := by decide +kernel
theorem dX10_init_35 : decode cX10_init 35 = .ok (.invokespecial 27, 3) := by decide +kernel
theorem dX10_init_38 : decode cX10_init 38 = .ok (.putfield 28, 3) := by decide +kernel
theorem dX10_init_41 : decode cX10_init 41 = .ok (.aload_n 0, 1) := by decide +kernel
theorem dX10_init_42 : decode cX10_init 42 = .ok (.new 32, 3) := by decide +kernel
theorem dX10_init_45 : decode cX10_init 45 = .ok (.dup, 1) := by decide +kernel
theorem dX10_init_46 : decode cX10_init 46 = .ok (.aload_n 0, 1) := by decide +kernel
theorem dX10_init_47 : decode cX10_init 47 = .ok (.getfield 28, 3) := by decide +kernel
theorem dX10_init_50 : decode cX10_init 50 = .ok (.invokespecial 34, 3) := by decide +kernel
theorem dX10_init_53 : decode cX10_init 53 = .ok (.putfield 37, 3) := by decide +kernel
theorem dX10_init_56 : decode cX10_init 56 = .ok (.aload_n 0, 1) := by decide +kernel
theorem dX10_init_57 : decode cX10_init 57 = .ok (.new 41, 3) := by decide +kernel
theorem dX10_init_60 : decode cX10_init 60 = .ok (.dup, 1) := by decide +kernel
theorem dX10_init_61 : decode cX10_init 61 = .ok (.aload_n 0, 1) := by decide +kernel
theorem dX10_init_62 : decode cX10_init 62 = .ok (.getfield 28, 3) := by decide +kernel
theorem dX10_init_65 : decode cX10_init 65 = .ok (.invokespecial 43, 3) := by decide +kernel
theorem dX10_init_68 : decode cX10_init 68 = .ok (.putfield 44, 3) := by decide +kernel
theorem dX10_init_71 : decode cX10_init 71 = .ok (.aload_n 0, 1) := by decide +kernel
theorem dX10_init_72 : decode cX10_init 72 = .ok (.bipush 20, 2) := by decide +kernel
theorem dX10_init_74 : decode cX10_init 74 = .ok (.anewarray 48, 3) := by decide +kernel
theorem dX10_init_77 : decode cX10_init 77 = .ok (.putfield 50, 3) := by decide +kernel
theorem dX10_init_80 : decode cX10_init 80 = .ok (.aload_n 0, 1) := by decide +kernel
theorem dX10_init_81 : decode cX10_init 81 = .ok (.iconst 0, 1) := by decide +kernel
theorem dX10_init_82 : decode cX10_init 82 = .ok (.putfield 54, 3) := by decide +kernel
theorem dX10_init_85 : decode cX10_init 85 = .ok (.aload_n 0, 1) := by decide +kernel
theorem dX10_init_86 : decode cX10_init 86 = .ok (.iconst 0, 1) := by decide +kernel
theorem dX10_init_87 : decode cX10_init 87 = .ok (.putfield 58, 3) := by decide +kernel
theorem dX10_init_90 : decode cX10_init 90 = .ok (.aload_n 0, 1) := by decide +kernel
theorem dX10_init_91 : decode cX10_init 91 = .ok (.iconst 0, 1) := by decide +kernel
theorem dX10_init_92 : decode cX10_init 92 = .ok (.putfield 61, 3) := by decide +kernel
theorem dX10_init_95 : decode cX10_init 95 = .ok (.return_, 1) := by decide +kernel
theorem dX10_feed_0 : decode cX10_feed 0 = .ok (.aload_n 0, 1) := by decide +kernel
theorem dX10_feed_1 : decode cX10_feed 1 = .ok (.getfield 12, 3) := by decide +kernel
theorem dX10_feed_4 : decode cX10_feed 4 = .ok (.getfield 64, 3) := by decide +kernel
theorem dX10_feed_7 : decode cX10_feed 7 = .ok (.bipush 20, 2) := by decide +kernel
theorem dX10_feed_9 : decode cX10_feed 9 = .ok (.iadd, 1) := by decide +kernel
theorem dX10_feed_10 : decode cX10_feed 10 = .ok (.sipush 900, 3) := by decide +kernel
theorem dX10_feed_13 : decode cX10_feed 13 = .ok (.if_icmp .le 5, 3) := by decide +kernel
theorem dX10_feed_16 : decode cX10_feed 16 = .ok (.iconst (-1), 1) := by decide +kernel
theorem dX10_feed_17 : decode cX10_feed 17 = .ok (.ireturn, 1) := by decide +kernel
theorem dX10_feed_18 : decode cX10_feed 18 = .ok (.aload_n 0, 1) := by decide +kernel
theorem dX10_feed_19 : decode cX10_feed 19 = .ok (.getfield 12, 3) := by decide +kernel
theorem dX10_feed_22 : decode cX10_feed 22 = .ok (.iload_n 1, 1) := by decide +kernel
theorem dX10_feed_23 : decode cX10_feed 23 = .ok (.invokevirtual 67, 3) := by decide +kernel
theorem dX10_feed_26 : decode cX10_feed 26 = .ok (.aload_n 0, 1) := by decide +kernel
theorem dX10_feed_27 : decode cX10_feed 27 = .ok (.getfield 12, 3) := by decide +kernel
theorem dX10_feed_30 : decode cX10_feed 30 = .ok (.iload_n 2, 1) := by decide +kernel
theorem dX10_feed_31 : decode cX10_feed 31 = .ok (.invokevirtual 67, 3) := by decide +kernel
theorem dX10_feed_34 : decode cX10_feed 34 = .ok (.aload_n 0, 1) := by decide +kernel
theorem dX10_feed_35 : decode cX10_feed 35 = .ok (.getfield 12, 3) := by decide +kernel
theorem dX10_feed_38 : decode cX10_feed 38 = .ok (.iload_n 3, 1) := by decide +kernel
theorem dX10_feed_39 : decode cX10_feed 39 = .ok (.invokevirtual 67, 3) := by decide +kernel
theorem dX10_feed_42 : decode cX10_feed 42 = .ok (.aload_n 0, 1) := by decide +kernel
theorem dX10_feed_43 : decode cX10_feed 43 = .ok (.getfield 12, 3) := by decide +kernel
theorem dX10_feed_46 : decode cX10_feed 46 = .ok (.iload 4, 2) := by decide +kernel
theorem dX10_feed_48 : decode cX10_feed 48 = .ok (.invokevirtual 67, 3) := by decide +kernel
theorem dX10_feed_51 : decode cX10_feed 51 = .ok (.aload_n 0, 1) := by decide +kernel
theorem dX10_feed_52 : decode cX10_feed 52 = .ok (.getfield 12, 3) := by decide +kernel
theorem dX10_feed_55 : decode cX10_feed 55 = .ok (.iload 5, 2) := by decide +kernel
theorem dX10_feed_57 : decode cX10_feed 57 = .ok (.invokevirtual 67, 3) := by decide +kernel
theorem dX10_feed_60 : decode cX10_feed 60 = .ok (.aload_n 0, 1) := by decide +kernel
theorem dX10_feed_61 : decode cX10_feed 61 = .ok (.getfield 12, 3) := by decide +kernel
theorem dX10_feed_64 : decode cX10_feed 64 = .ok (.getfield 64, 3) := by decide +kernel
theorem dX10_feed_67 : decode cX10_feed 67 = .ok (.ireturn, 1) := by decide +kernel
theorem dX10_end_0 : decode cX10_end 0 = .ok (.iload_n 1, 1) := by decide +kernel
theorem dX10_end_1 : decode cX10_end 1 = .ok (.ifCond .lt 14, 3) := by decide +kernel
theorem dX10_end_4 : decode cX10_end 4 = .ok (.iload_n 1, 1) := by decide +kernel
theorem dX10_end_5 : decode cX10_end 5 = .ok (.aload_n 0, 1) := by decide +kernel
theorem dX10_end_6 : decode cX10_end 6 = .ok (.getfield 12, 3) := by decide +kernel
theorem dX10_end_9 : decode cX10_end 9 = .ok (.getfield 64, 3) := by decide +kernel
theorem dX10_end_12 : decode cX10_end 12 = .ok (.if_icmp .le 5, 3) := by decide +kernel
theorem dX10_end_15 : decode cX10_end 15 = .ok (.iconst (-1), 1) := by decide +kernel
theorem dX10_end_16 : decode cX10_end 16 = .ok (.ireturn, 1) := by decide +kernel
theorem dX10_end_17 : decode cX10_end 17 = .ok (.aload_n 0, 1) := by decide +kernel
theorem dX10_end_18 : decode cX10_end 18 = .ok (.getfield 12, 3) := by decide +kernel
theorem dX10_end_21 : decode cX10_end 21 = .ok (.iload_n 1, 1) := by decide +kernel
theorem dX10_end_22 : decode cX10_end 22 = .ok (.putfield 64, 3) := by decide +kernel
theorem dX10_end_25 : decode cX10_end 25 = .ok (.iload_n 1, 1) := by decide +kernel
theorem dX10_end_26 : decode cX10_end 26 = .ok (.ireturn, 1) := by decide +kernel
theorem dX10_sheet_0 : decode cX10_sheet 0 = .ok (.iload_n 1, 1) := by decide +kernel
theorem dX10_sheet_1 : decode cX10_sheet 1 = .ok (.i2l, 1) := by decide +kernel
theorem dX10_sheet_2 : decode cX10_sheet 2 = .ok (.invokestatic 71, 3) := by decide +kernel
theorem dX10_sheet_5 : decode cX10_sheet 5 = .ok (.istore_n 2, 1) := by decide +kernel
theorem dX10_sheet_6 : decode cX10_sheet 6 = .ok (.iload_n 2, 1) := by decide +kernel
theorem dX10_sheet_7 : decode cX10_sheet 7 = .ok (.iconst (-1), 1) := by decide +kernel
theorem dX10_sheet_8 : decode cX10_sheet 8 = .ok (.if_icmp .ne 6, 3) := by decide +kernel
theorem dX10_sheet_11 : decode cX10_sheet 11 = .ok (.bipush (-2), 2) := by decide +kernel
theorem dX10_sheet_13 : decode cX10_sheet 13 = .ok (.ireturn, 1) := by decide +kernel
theorem dX10_sheet_14 : decode cX10_sheet 14 = .ok (.aload_n 0, 1) := by decide +kernel
theorem dX10_sheet_15 : decode cX10_sheet 15 = .ok (.getfield 21, 3) := by decide +kernel
theorem dX10_sheet_18 : decode cX10_sheet 18 = .ok (.iload_n 2, 1) := by decide +kernel
theorem dX10_sheet_19 : decode cX10_sheet 19 = .ok (.invokevirtual 75, 3) := by decide +kernel
theorem dX10_sheet_22 : decode cX10_sheet 22 = .ok (.astore_n 3, 1) := by decide +kernel
theorem dX10_sheet_23 : decode cX10_sheet 23 = .ok (.aload_n 0, 1) := by decide +kernel
theorem dX10_sheet_24 : decode cX10_sheet 24 = .ok (.getfield 12, 3) := by decide +kernel
theorem dX10_sheet_27 : decode cX10_sheet 27 = .ok (.iconst 0, 1) := by decide +kernel
theorem dX10_sheet_28 : decode cX10_sheet 28 = .ok (.putfield 64, 3) := by decide +kernel
theorem dX10_sheet_31 : decode cX10_sheet 31 = .ok (.aload_n 3, 1) := by decide +kernel
theorem dX10_sheet_32 : decode cX10_sheet 32 = .ok (.ifnonnull 5, 3) := by decide +kernel
theorem dX10_sheet_35 : decode cX10_sheet 35 = .ok (.iconst (-1), 1) := by decide +kernel
theorem dX10_sheet_36 : decode cX10_sheet 36 = .ok (.ireturn, 1) := by decide +kernel
theorem dX10_sheet_37 : decode cX10_sheet 37 = .ok (.aload_n 0, 1) := by decide +kernel
theorem dX10_sheet_38 : decode cX10_sheet 38 = .ok (.getfield 28, 3) := by decide +kernel
theorem dX10_sheet_41 : decode cX10_sheet 41 = .ok (.iload_n 2, 1) := by decide +kernel
theorem dX10_sheet_42 : decode cX10_sheet 42 = .ok (.aload_n 3, 1) := by decide +kernel
theorem dX10_sheet_43 : decode cX10_sheet 43 = .ok (.invokevirtual 79, 3) := by decide +kernel
theorem dX10_sheet_46 : decode cX10_sheet 46 = .ok (.aload_n 3, 1) := by decide +kernel
theorem dX10_sheet_47 : decode cX10_sheet 47 = .ok (.getfield 83, 3) := by decide +kernel
theorem dX10_sheet_50 : decode cX10_sheet 50 = .ok (.ireturn, 1) := by decide +kernel
theorem dX10_fault_0 : decode cX10_fault 0 = .ok (.iload_n 1, 1) := by decide +kernel
theorem dX10_fault_1 : decode cX10_fault 1 = .ok (.lookupswitch 43 #[(0, 27), (1, 35)], 27) := by decide +kernel
theorem dX10_fault_28 : decode cX10_fault 28 = .ok (.aload_n 0, 1) := by decide +kernel
theorem dX10_fault_29 : decode cX10_fault 29 = .ok (.getfield 21, 3) := by decide +kernel
theorem dX10_fault_32 : decode cX10_fault 32 = .ok (.getfield 88, 3) := by decide +kernel
theorem dX10_fault_35 : decode cX10_fault 35 = .ok (.ireturn, 1) := by decide +kernel
theorem dX10_fault_36 : decode cX10_fault 36 = .ok (.aload_n 0, 1) := by decide +kernel
theorem dX10_fault_37 : decode cX10_fault 37 = .ok (.getfield 21, 3) := by decide +kernel
theorem dX10_fault_40 : decode cX10_fault 40 = .ok (.getfield 91, 3) := by decide +kernel
theorem dX10_fault_43 : decode cX10_fault 43 = .ok (.ireturn, 1) := by decide +kernel
theorem dX10_fault_44 : decode cX10_fault 44 = .ok (.iconst (-1), 1) := by decide +kernel
theorem dX10_fault_45 : decode cX10_fault 45 = .ok (.ireturn, 1) := by decide +kernel
theorem dX10_forget_0 : decode cX10_forget 0 = .ok (.iload_n 1, 1) := by decide +kernel
theorem dX10_forget_1 : decode cX10_forget 1 = .ok (.i2l, 1) := by decide +kernel
theorem dX10_forget_2 : decode cX10_forget 2 = .ok (.invokestatic 71, 3) := by decide +kernel
theorem dX10_forget_5 : decode cX10_forget 5 = .ok (.istore_n 2, 1) := by decide +kernel
theorem dX10_forget_6 : decode cX10_forget 6 = .ok (.iload_n 2, 1) := by decide +kernel
theorem dX10_forget_7 : decode cX10_forget 7 = .ok (.iconst (-1), 1) := by decide +kernel
theorem dX10_forget_8 : decode cX10_forget 8 = .ok (.if_icmp .eq 15, 3) := by decide +kernel
theorem dX10_forget_11 : decode cX10_forget 11 = .ok (.aload_n 0, 1) := by decide +kernel
theorem dX10_forget_12 : decode cX10_forget 12 = .ok (.getfield 28, 3) := by decide +kernel
theorem dX10_forget_15 : decode cX10_forget 15 = .ok (.getfield 94, 3) := by decide +kernel
theorem dX10_forget_18 : decode cX10_forget 18 = .ok (.iload_n 2, 1) := by decide +kernel
theorem dX10_forget_19 : decode cX10_forget 19 = .ok (.aaload, 1) := by decide +kernel
theorem dX10_forget_20 : decode cX10_forget 20 = .ok (.ifnonnull 5, 3) := by decide +kernel
theorem dX10_forget_23 : decode cX10_forget 23 = .ok (.iconst 0, 1) := by decide +kernel
theorem dX10_forget_24 : decode cX10_forget 24 = .ok (.ireturn, 1) := by decide +kernel
theorem dX10_forget_25 : decode cX10_forget 25 = .ok (.aload_n 0, 1) := by decide +kernel
theorem dX10_forget_26 : decode cX10_forget 26 = .ok (.getfield 28, 3) := by decide +kernel
theorem dX10_forget_29 : decode cX10_forget 29 = .ok (.iload_n 2, 1) := by decide +kernel
theorem dX10_forget_30 : decode cX10_forget 30 = .ok (.aconst_null, 1) := by decide +kernel
theorem dX10_forget_31 : decode cX10_forget 31 = .ok (.invokevirtual 79, 3) := by decide +kernel
theorem dX10_forget_34 : decode cX10_forget 34 = .ok (.iconst 1, 1) := by decide +kernel
theorem dX10_forget_35 : decode cX10_forget 35 = .ok (.ireturn, 1) := by decide +kernel
theorem dX10_issue_0 : decode cX10_issue 0 = .ok (.aload_n 0, 1) := by decide +kernel
theorem dX10_issue_1 : decode cX10_issue 1 = .ok (.getfield 28, 3) := by decide +kernel
theorem dX10_issue_4 : decode cX10_issue 4 = .ok (.invokevirtual 98, 3) := by decide +kernel
theorem dX10_issue_7 : decode cX10_issue 7 = .ok (.istore_n 1, 1) := by decide +kernel
theorem dX10_issue_8 : decode cX10_issue 8 = .ok (.aload_n 0, 1) := by decide +kernel
theorem dX10_issue_9 : decode cX10_issue 9 = .ok (.getfield 37, 3) := by decide +kernel
theorem dX10_issue_12 : decode cX10_issue 12 = .ok (.invokevirtual 102, 3) := by decide +kernel
theorem dX10_issue_15 : decode cX10_issue 15 = .ok (.iload_n 1, 1) := by decide +kernel
theorem dX10_issue_16 : decode cX10_issue 16 = .ok (.ireturn, 1) := by decide +kernel
theorem dX10_state_0 : decode cX10_state 0 = .ok (.iload_n 1, 1) := by decide +kernel
theorem dX10_state_1 : decode cX10_state 1 = .ok (.i2l, 1) := by decide +kernel
theorem dX10_state_2 : decode cX10_state 2 = .ok (.invokestatic 71, 3) := by decide +kernel
theorem dX10_state_5 : decode cX10_state 5 = .ok (.istore_n 3, 1) := by decide +kernel
theorem dX10_state_6 : decode cX10_state 6 = .ok (.iload_n 3, 1) := by decide +kernel
theorem dX10_state_7 : decode cX10_state 7 = .ok (.iconst (-1), 1) := by decide +kernel
theorem dX10_state_8 : decode cX10_state 8 = .ok (.if_icmp .ne 5, 3) := by decide +kernel
theorem dX10_state_11 : decode cX10_state 11 = .ok (.iconst (-1), 1) := by decide +kernel
theorem dX10_state_12 : decode cX10_state 12 = .ok (.ireturn, 1) := by decide +kernel
theorem dX10_state_13 : decode cX10_state 13 = .ok (.aload_n 0, 1) := by decide +kernel
theorem dX10_state_14 : decode cX10_state 14 = .ok (.getfield 28, 3) := by decide +kernel
theorem dX10_state_17 : decode cX10_state 17 = .ok (.getfield 105, 3) := by decide +kernel
theorem dX10_state_20 : decode cX10_state 20 = .ok (.iload_n 3, 1) := by decide +kernel
theorem dX10_state_21 : decode cX10_state 21 = .ok (.aaload, 1) := by decide +kernel
theorem dX10_state_22 : decode cX10_state 22 = .ok (.astore 4, 2) := by decide +kernel
theorem dX10_state_24 : decode cX10_state 24 = .ok (.iload_n 2, 1) := by decide +kernel
theorem dX10_state_25 : decode cX10_state 25 = .ok (.tableswitch 83 0 7 #[47, 53, 59, 65, 83, 83, 83, 71], 47) := by decide +kernel
theorem dX10_state_72 : decode cX10_state 72 = .ok (.aload 4, 2) := by decide +kernel
theorem dX10_state_74 : decode cX10_state 74 = .ok (.getfield 109, 3) := by decide +kernel
theorem dX10_state_77 : decode cX10_state 77 = .ok (.ireturn, 1) := by decide +kernel
theorem dX10_state_78 : decode cX10_state 78 = .ok (.aload 4, 2) := by decide +kernel
theorem dX10_state_80 : decode cX10_state 80 = .ok (.getfield 114, 3) := by decide +kernel
theorem dX10_state_83 : decode cX10_state 83 = .ok (.ireturn, 1) := by decide +kernel
theorem dX10_state_84 : decode cX10_state 84 = .ok (.aload 4, 2) := by decide +kernel
theorem dX10_state_86 : decode cX10_state 86 = .ok (.getfield 117, 3) := by decide +kernel
theorem dX10_state_89 : decode cX10_state 89 = .ok (.ireturn, 1) := by decide +kernel
theorem dX10_state_90 : decode cX10_state 90 = .ok (.aload 4, 2) := by decide +kernel
theorem dX10_state_92 : decode cX10_state 92 = .ok (.getfield 120, 3) := by decide +kernel
theorem dX10_state_95 : decode cX10_state 95 = .ok (.ireturn, 1) := by decide +kernel
theorem dX10_state_96 : decode cX10_state 96 = .ok (.aload_n 0, 1) := by decide +kernel
theorem dX10_state_97 : decode cX10_state 97 = .ok (.getfield 28, 3) := by decide +kernel
theorem dX10_state_100 : decode cX10_state 100 = .ok (.getfield 123, 3) := by decide +kernel
theorem dX10_state_103 : decode cX10_state 103 = .ok (.iload_n 3, 1) := by decide +kernel
theorem dX10_state_104 : decode cX10_state 104 = .ok (.iushr, 1) := by decide +kernel
theorem dX10_state_105 : decode cX10_state 105 = .ok (.iconst 1, 1) := by decide +kernel
theorem dX10_state_106 : decode cX10_state 106 = .ok (.iand, 1) := by decide +kernel
theorem dX10_state_107 : decode cX10_state 107 = .ok (.ireturn, 1) := by decide +kernel
theorem dX10_state_108 : decode cX10_state 108 = .ok (.aload_n 0, 1) := by decide +kernel
theorem dX10_state_109 : decode cX10_state 109 = .ok (.getfield 28, 3) := by decide +kernel
theorem dX10_state_112 : decode cX10_state 112 = .ok (.getfield 94, 3) := by decide +kernel
theorem dX10_state_115 : decode cX10_state 115 = .ok (.iload_n 3, 1) := by decide +kernel
theorem dX10_state_116 : decode cX10_state 116 = .ok (.aaload, 1) := by decide +kernel
theorem dX10_state_117 : decode cX10_state 117 = .ok (.iload_n 2, 1) := by decide +kernel
theorem dX10_state_118 : decode cX10_state 118 = .ok (.invokestatic 126, 3) := by decide +kernel
theorem dX10_state_121 : decode cX10_state 121 = .ok (.ireturn, 1) := by decide +kernel
theorem dX10_leans_0 : decode cX10_leans 0 = .ok (.iload_n 1, 1) := by decide +kernel
theorem dX10_leans_1 : decode cX10_leans 1 = .ok (.i2l, 1) := by decide +kernel
theorem dX10_leans_2 : decode cX10_leans 2 = .ok (.invokestatic 71, 3) := by decide +kernel
theorem dX10_leans_5 : decode cX10_leans 5 = .ok (.istore_n 3, 1) := by decide +kernel
theorem dX10_leans_6 : decode cX10_leans 6 = .ok (.iload_n 2, 1) := by decide +kernel
theorem dX10_leans_7 : decode cX10_leans 7 = .ok (.i2l, 1) := by decide +kernel
theorem dX10_leans_8 : decode cX10_leans 8 = .ok (.invokestatic 71, 3) := by decide +kernel
theorem dX10_leans_11 : decode cX10_leans 11 = .ok (.istore 4, 2) := by decide +kernel
theorem dX10_leans_13 : decode cX10_leans 13 = .ok (.iload_n 3, 1) := by decide +kernel
theorem dX10_leans_14 : decode cX10_leans 14 = .ok (.iconst (-1), 1) := by decide +kernel
theorem dX10_leans_15 : decode cX10_leans 15 = .ok (.if_icmp .eq 9, 3) := by decide +kernel
theorem dX10_leans_18 : decode cX10_leans 18 = .ok (.iload 4, 2) := by decide +kernel
theorem dX10_leans_20 : decode cX10_leans 20 = .ok (.iconst (-1), 1) := by decide +kernel
theorem dX10_leans_21 : decode cX10_leans 21 = .ok (.if_icmp .ne 5, 3) := by decide +kernel
theorem dX10_leans_24 : decode cX10_leans 24 = .ok (.iconst 0, 1) := by decide +kernel
theorem dX10_leans_25 : decode cX10_leans 25 = .ok (.ireturn, 1) := by decide +kernel
theorem dX10_leans_26 : decode cX10_leans 26 = .ok (.aload_n 0, 1) := by decide +kernel
theorem dX10_leans_27 : decode cX10_leans 27 = .ok (.getfield 28, 3) := by decide +kernel
theorem dX10_leans_30 : decode cX10_leans 30 = .ok (.getfield 94, 3) := by decide +kernel
theorem dX10_leans_33 : decode cX10_leans 33 = .ok (.iload_n 3, 1) := by decide +kernel
theorem dX10_leans_34 : decode cX10_leans 34 = .ok (.aaload, 1) := by decide +kernel
theorem dX10_leans_35 : decode cX10_leans 35 = .ok (.astore 5, 2) := by decide +kernel
theorem dX10_leans_37 : decode cX10_leans 37 = .ok (.aload 5, 2) := by decide +kernel
theorem dX10_leans_39 : decode cX10_leans 39 = .ok (.ifnull 21, 3) := by decide +kernel
theorem dX10_leans_42 : decode cX10_leans 42 = .ok (.aload 5, 2) := by decide +kernel
theorem dX10_leans_44 : decode cX10_leans 44 = .ok (.getfield 130, 3) := by decide +kernel
theorem dX10_leans_47 : decode cX10_leans 47 = .ok (.iload 4, 2) := by decide +kernel
theorem dX10_leans_49 : decode cX10_leans 49 = .ok (.iushr, 1) := by decide +kernel
theorem dX10_leans_50 : decode cX10_leans 50 = .ok (.iconst 1, 1) := by decide +kernel
theorem dX10_leans_51 : decode cX10_leans 51 = .ok (.iand, 1) := by decide +kernel
theorem dX10_leans_52 : decode cX10_leans 52 = .ok (.iconst 1, 1) := by decide +kernel
theorem dX10_leans_53 : decode cX10_leans 53 = .ok (.if_icmp .ne 7, 3) := by decide +kernel
theorem dX10_leans_56 : decode cX10_leans 56 = .ok (.iconst 1, 1) := by decide +kernel
theorem dX10_leans_57 : decode cX10_leans 57 = .ok (.goto 4, 3) := by decide +kernel
theorem dX10_leans_60 : decode cX10_leans 60 = .ok (.iconst 0, 1) := by decide +kernel
theorem dX10_leans_61 : decode cX10_leans 61 = .ok (.ireturn, 1) := by decide +kernel
theorem dX10_constant_0 : decode cX10_constant 0 = .ok (.iload_n 1, 1) := by decide +kernel
theorem dX10_constant_1 : decode cX10_constant 1 = .ok (.i2l, 1) := by decide +kernel
theorem dX10_constant_2 : decode cX10_constant 2 = .ok (.invokestatic 71, 3) := by decide +kernel
theorem dX10_constant_5 : decode cX10_constant 5 = .ok (.istore_n 3, 1) := by decide +kernel
theorem dX10_constant_6 : decode cX10_constant 6 = .ok (.iload_n 3, 1) := by decide +kernel
theorem dX10_constant_7 : decode cX10_constant 7 = .ok (.iconst (-1), 1) := by decide +kernel
theorem dX10_constant_8 : decode cX10_constant 8 = .ok (.if_icmp .ne 7, 3) := by decide +kernel
theorem dX10_constant_11 : decode cX10_constant 11 = .ok (.ldc2_w 133, 3) := by decide +kernel
theorem dX10_constant_14 : decode cX10_constant 14 = .ok (.lreturn, 1) := by decide +kernel
theorem dX10_constant_15 : decode cX10_constant 15 = .ok (.aload_n 0, 1) := by decide +kernel
theorem dX10_constant_16 : decode cX10_constant 16 = .ok (.getfield 28, 3) := by decide +kernel
theorem dX10_constant_19 : decode cX10_constant 19 = .ok (.getfield 105, 3) := by decide +kernel
theorem dX10_constant_22 : decode cX10_constant 22 = .ok (.iload_n 3, 1) := by decide +kernel
theorem dX10_constant_23 : decode cX10_constant 23 = .ok (.aaload, 1) := by decide +kernel
theorem dX10_constant_24 : decode cX10_constant 24 = .ok (.iload_n 2, 1) := by decide +kernel
theorem dX10_constant_25 : decode cX10_constant 25 = .ok (.invokevirtual 135, 3) := by decide +kernel
theorem dX10_constant_28 : decode cX10_constant 28 = .ok (.lreturn, 1) := by decide +kernel
theorem dX10_entry_0 : decode cX10_entry 0 = .ok (.iload_n 1, 1) := by decide +kernel
theorem dX10_entry_1 : decode cX10_entry 1 = .ok (.i2l, 1) := by decide +kernel
theorem dX10_entry_2 : decode cX10_entry 2 = .ok (.invokestatic 71, 3) := by decide +kernel
theorem dX10_entry_5 : decode cX10_entry 5 = .ok (.istore 4, 2) := by decide +kernel
theorem dX10_entry_7 : decode cX10_entry 7 = .ok (.iload 4, 2) := by decide +kernel
theorem dX10_entry_9 : decode cX10_entry 9 = .ok (.iconst (-1), 1) := by decide +kernel
theorem dX10_entry_10 : decode cX10_entry 10 = .ok (.if_icmp .eq 22, 3) := by decide +kernel
theorem dX10_entry_13 : decode cX10_entry 13 = .ok (.aload_n 0, 1) := by decide +kernel
theorem dX10_entry_14 : decode cX10_entry 14 = .ok (.getfield 28, 3) := by decide +kernel
theorem dX10_entry_17 : decode cX10_entry 17 = .ok (.getfield 105, 3) := by decide +kernel
theorem dX10_entry_20 : decode cX10_entry 20 = .ok (.iload 4, 2) := by decide +kernel
theorem dX10_entry_22 : decode cX10_entry 22 = .ok (.aaload, 1) := by decide +kernel
theorem dX10_entry_23 : decode cX10_entry 23 = .ok (.iload_n 2, 1) := by decide +kernel
theorem dX10_entry_24 : decode cX10_entry 24 = .ok (.iload_n 3, 1) := by decide +kernel
theorem dX10_entry_25 : decode cX10_entry 25 = .ok (.i2l, 1) := by decide +kernel
theorem dX10_entry_26 : decode cX10_entry 26 = .ok (.invokevirtual 139, 3) := by decide +kernel
theorem dX10_entry_29 : decode cX10_entry 29 = .ok (.ifCond .ne 7, 3) := by decide +kernel
theorem dX10_entry_32 : decode cX10_entry 32 = .ok (.ldc2_w 133, 3) := by decide +kernel
theorem dX10_entry_35 : decode cX10_entry 35 = .ok (.lreturn, 1) := by decide +kernel
theorem dX10_entry_36 : decode cX10_entry 36 = .ok (.aload_n 0, 1) := by decide +kernel
theorem dX10_entry_37 : decode cX10_entry 37 = .ok (.getfield 28, 3) := by decide +kernel
theorem dX10_entry_40 : decode cX10_entry 40 = .ok (.getfield 105, 3) := by decide +kernel
theorem dX10_entry_43 : decode cX10_entry 43 = .ok (.iload 4, 2) := by decide +kernel
theorem dX10_entry_45 : decode cX10_entry 45 = .ok (.aaload, 1) := by decide +kernel
theorem dX10_entry_46 : decode cX10_entry 46 = .ok (.getfield 143, 3) := by decide +kernel
theorem dX10_entry_49 : decode cX10_entry 49 = .ok (.iload_n 2, 1) := by decide +kernel
theorem dX10_entry_50 : decode cX10_entry 50 = .ok (.bipush 12, 2) := by decide +kernel
theorem dX10_entry_52 : decode cX10_entry 52 = .ok (.imul, 1) := by decide +kernel
theorem dX10_entry_53 : decode cX10_entry 53 = .ok (.iload_n 3, 1) := by decide +kernel
theorem dX10_entry_54 : decode cX10_entry 54 = .ok (.iadd, 1) := by decide +kernel
theorem dX10_entry_55 : decode cX10_entry 55 = .ok (.laload, 1) := by decide +kernel
theorem dX10_entry_56 : decode cX10_entry 56 = .ok (.lreturn, 1) := by decide +kernel
theorem dX10_need_0 : decode cX10_need 0 = .ok (.iload_n 1, 1) := by decide +kernel
theorem dX10_need_1 : decode cX10_need 1 = .ok (.i2l, 1) := by decide +kernel
theorem dX10_need_2 : decode cX10_need 2 = .ok (.invokestatic 71, 3) := by decide +kernel
theorem dX10_need_5 : decode cX10_need 5 = .ok (.istore_n 2, 1) := by decide +kernel
theorem dX10_need_6 : decode cX10_need 6 = .ok (.iload_n 2, 1) := by decide +kernel
theorem dX10_need_7 : decode cX10_need 7 = .ok (.iconst (-1), 1) := by decide +kernel
theorem dX10_need_8 : decode cX10_need 8 = .ok (.if_icmp .ne 5, 3) := by decide +kernel
theorem dX10_need_11 : decode cX10_need 11 = .ok (.iconst (-1), 1) := by decide +kernel
theorem dX10_need_12 : decode cX10_need 12 = .ok (.ireturn, 1) := by decide +kernel
theorem dX10_need_13 : decode cX10_need 13 = .ok (.aload_n 0, 1) := by decide +kernel
theorem dX10_need_14 : decode cX10_need 14 = .ok (.getfield 44, 3) := by decide +kernel
theorem dX10_need_17 : decode cX10_need 17 = .ok (.iload_n 2, 1) := by decide +kernel
theorem dX10_need_18 : decode cX10_need 18 = .ok (.invokevirtual 147, 3) := by decide +kernel
theorem dX10_need_21 : decode cX10_need 21 = .ok (.ireturn, 1) := by decide +kernel
theorem dX10_started_0 : decode cX10_started 0 = .ok (.iload_n 1, 1) := by decide +kernel
theorem dX10_started_1 : decode cX10_started 1 = .ok (.ifCond .lt 21, 3) := by decide +kernel
theorem dX10_started_4 : decode cX10_started 4 = .ok (.iload_n 1, 1) := by decide +kernel
theorem dX10_started_5 : decode cX10_started 5 = .ok (.sipush 300, 3) := by decide +kernel
theorem dX10_started_8 : decode cX10_started 8 = .ok (.if_icmp .ge 14, 3) := by decide +kernel
theorem dX10_started_11 : decode cX10_started 11 = .ok (.iload_n 1, 1) := by decide +kernel
theorem dX10_started_12 : decode cX10_started 12 = .ok (.aload_n 0, 1) := by decide +kernel
theorem dX10_started_13 : decode cX10_started 13 = .ok (.getfield 44, 3) := by decide +kernel
theorem dX10_started_16 : decode cX10_started 16 = .ok (.getfield 151, 3) := by decide +kernel
theorem dX10_started_19 : decode cX10_started 19 = .ok (.if_icmp .lt 5, 3) := by decide +kernel
theorem dX10_started_22 : decode cX10_started 22 = .ok (.iconst (-1), 1) := by decide +kernel
theorem dX10_started_23 : decode cX10_started 23 = .ok (.ireturn, 1) := by decide +kernel
theorem dX10_started_24 : decode cX10_started 24 = .ok (.sipush 1700, 3) := by decide +kernel
theorem dX10_started_27 : decode cX10_started 27 = .ok (.aload_n 0, 1) := by decide +kernel
theorem dX10_started_28 : decode cX10_started 28 = .ok (.getfield 44, 3) := by decide +kernel
theorem dX10_started_31 : decode cX10_started 31 = .ok (.getfield 154, 3) := by decide +kernel
theorem dX10_started_34 : decode cX10_started 34 = .ok (.iload_n 1, 1) := by decide +kernel
theorem dX10_started_35 : decode cX10_started 35 = .ok (.iaload, 1) := by decide +kernel
theorem dX10_started_36 : decode cX10_started 36 = .ok (.iadd, 1) := by decide +kernel
theorem dX10_started_37 : decode cX10_started 37 = .ok (.ireturn, 1) := by decide +kernel
theorem dX10_voyage_0 : decode cX10_voyage 0 = .ok (.iload_n 1, 1) := by decide +kernel
theorem dX10_voyage_1 : decode cX10_voyage 1 = .ok (.ifCond .lt 23, 3) := by decide +kernel
theorem dX10_voyage_4 : decode cX10_voyage 4 = .ok (.iload_n 1, 1) := by decide +kernel
theorem dX10_voyage_5 : decode cX10_voyage 5 = .ok (.ldc 158, 2) := by decide +kernel
theorem dX10_voyage_7 : decode cX10_voyage 7 = .ok (.if_icmp .gt 17, 3) := by decide +kernel
theorem dX10_voyage_10 : decode cX10_voyage 10 = .ok (.iload_n 2, 1) := by decide +kernel
theorem dX10_voyage_11 : decode cX10_voyage 11 = .ok (.ifCond .lt 13, 3) := by decide +kernel
theorem dX10_voyage_14 : decode cX10_voyage 14 = .ok (.iload_n 2, 1) := by decide +kernel
theorem dX10_voyage_15 : decode cX10_voyage 15 = .ok (.bipush 9, 2) := by decide +kernel
theorem dX10_voyage_17 : decode cX10_voyage 17 = .ok (.if_icmp .gt 7, 3) := by decide +kernel
theorem dX10_voyage_20 : decode cX10_voyage 20 = .ok (.iconst 1, 1) := by decide +kernel
theorem dX10_voyage_21 : decode cX10_voyage 21 = .ok (.goto 4, 3) := by decide +kernel
theorem dX10_voyage_24 : decode cX10_voyage 24 = .ok (.iconst 0, 1) := by decide +kernel
theorem dX10_voyage_25 : decode cX10_voyage 25 = .ok (.istore_n 3, 1) := by decide +kernel
theorem dX10_voyage_26 : decode cX10_voyage 26 = .ok (.iload_n 3, 1) := by decide +kernel
theorem dX10_voyage_27 : decode cX10_voyage 27 = .ok (.ifCond .eq 12, 3) := by decide +kernel
theorem dX10_voyage_30 : decode cX10_voyage 30 = .ok (.aload_n 0, 1) := by decide +kernel
theorem dX10_voyage_31 : decode cX10_voyage 31 = .ok (.getfield 54, 3) := by decide +kernel
theorem dX10_voyage_34 : decode cX10_voyage 34 = .ok (.bipush 20, 2) := by decide +kernel
theorem dX10_voyage_36 : decode cX10_voyage 36 = .ok (.if_icmp .lt 5, 3) := by decide +kernel
theorem dX10_voyage_39 : decode cX10_voyage 39 = .ok (.iconst (-1), 1) := by decide +kernel
theorem dX10_voyage_40 : decode cX10_voyage 40 = .ok (.ireturn, 1) := by decide +kernel
theorem dX10_voyage_41 : decode cX10_voyage 41 = .ok (.aload_n 0, 1) := by decide +kernel
theorem dX10_voyage_42 : decode cX10_voyage 42 = .ok (.getfield 50, 3) := by decide +kernel
theorem dX10_voyage_45 : decode cX10_voyage 45 = .ok (.aload_n 0, 1) := by decide +kernel
theorem dX10_voyage_46 : decode cX10_voyage 46 = .ok (.getfield 54, 3) := by decide +kernel
theorem dX10_voyage_49 : decode cX10_voyage 49 = .ok (.new 48, 3) := by decide +kernel
theorem dX10_voyage_52 : decode cX10_voyage 52 = .ok (.dup, 1) := by decide +kernel
theorem dX10_voyage_53 : decode cX10_voyage 53 = .ok (.iload_n 1, 1) := by decide +kernel
theorem dX10_voyage_54 : decode cX10_voyage 54 = .ok (.iload_n 2, 1) := by decide +kernel
theorem dX10_voyage_55 : decode cX10_voyage 55 = .ok (.invokespecial 159, 3) := by decide +kernel
theorem dX10_voyage_58 : decode cX10_voyage 58 = .ok (.aastore, 1) := by decide +kernel
theorem dX10_voyage_59 : decode cX10_voyage 59 = .ok (.aload_n 0, 1) := by decide +kernel
theorem dX10_voyage_60 : decode cX10_voyage 60 = .ok (.dup, 1) := by decide +kernel
theorem dX10_voyage_61 : decode cX10_voyage 61 = .ok (.getfield 54, 3) := by decide +kernel
theorem dX10_voyage_64 : decode cX10_voyage 64 = .ok (.iconst 1, 1) := by decide +kernel
theorem dX10_voyage_65 : decode cX10_voyage 65 = .ok (.iadd, 1) := by decide +kernel
theorem dX10_voyage_66 : decode cX10_voyage 66 = .ok (.putfield 54, 3) := by decide +kernel
theorem dX10_voyage_69 : decode cX10_voyage 69 = .ok (.aload_n 0, 1) := by decide +kernel
theorem dX10_voyage_70 : decode cX10_voyage 70 = .ok (.getfield 54, 3) := by decide +kernel
theorem dX10_voyage_73 : decode cX10_voyage 73 = .ok (.iconst 1, 1) := by decide +kernel
theorem dX10_voyage_74 : decode cX10_voyage 74 = .ok (.isub, 1) := by decide +kernel
theorem dX10_voyage_75 : decode cX10_voyage 75 = .ok (.ireturn, 1) := by decide +kernel
theorem dX10_lock_0 : decode cX10_lock 0 = .ok (.aload_n 0, 1) := by decide +kernel
theorem dX10_lock_1 : decode cX10_lock 1 = .ok (.iload_n 1, 1) := by decide +kernel
theorem dX10_lock_2 : decode cX10_lock 2 = .ok (.invokevirtual 162, 3) := by decide +kernel
theorem dX10_lock_5 : decode cX10_lock 5 = .ok (.astore 5, 2) := by decide +kernel
theorem dX10_lock_7 : decode cX10_lock 7 = .ok (.iload_n 3, 1) := by decide +kernel
theorem dX10_lock_8 : decode cX10_lock 8 = .ok (.i2l, 1) := by decide +kernel
theorem dX10_lock_9 : decode cX10_lock 9 = .ok (.invokestatic 71, 3) := by decide +kernel
theorem dX10_lock_12 : decode cX10_lock 12 = .ok (.istore 6, 2) := by decide +kernel
theorem dX10_lock_14 : decode cX10_lock 14 = .ok (.iload_n 2, 1) := by decide +kernel
theorem dX10_lock_15 : decode cX10_lock 15 = .ok (.ifCond .lt 33, 3) := by decide +kernel
theorem dX10_lock_18 : decode cX10_lock 18 = .ok (.iload_n 2, 1) := by decide +kernel
theorem dX10_lock_19 : decode cX10_lock 19 = .ok (.bipush 99, 2) := by decide +kernel
theorem dX10_lock_21 : decode cX10_lock 21 = .ok (.if_icmp .gt 27, 3) := by decide +kernel
theorem dX10_lock_24 : decode cX10_lock 24 = .ok (.iload 6, 2) := by decide +kernel
theorem dX10_lock_26 : decode cX10_lock 26 = .ok (.iconst (-1), 1) := by decide +kernel
theorem dX10_lock_27 : decode cX10_lock 27 = .ok (.if_icmp .eq 21, 3) := by decide +kernel
theorem dX10_lock_30 : decode cX10_lock 30 = .ok (.iload 4, 2) := by decide +kernel
theorem dX10_lock_32 : decode cX10_lock 32 = .ok (.iconst 1, 1) := by decide +kernel
theorem dX10_lock_33 : decode cX10_lock 33 = .ok (.if_icmp .lt 15, 3) := by decide +kernel
theorem dX10_lock_36 : decode cX10_lock 36 = .ok (.iload 4, 2) := by decide +kernel
theorem dX10_lock_38 : decode cX10_lock 38 = .ok (.sipush 366, 3) := by decide +kernel
theorem dX10_lock_41 : decode cX10_lock 41 = .ok (.if_icmp .gt 7, 3) := by decide +kernel
theorem dX10_lock_44 : decode cX10_lock 44 = .ok (.iconst 1, 1) := by decide +kernel
theorem dX10_lock_45 : decode cX10_lock 45 = .ok (.goto 4, 3) := by decide +kernel
theorem dX10_lock_48 : decode cX10_lock 48 = .ok (.iconst 0, 1) := by decide +kernel
theorem dX10_lock_49 : decode cX10_lock 49 = .ok (.istore 7, 2) := by decide +kernel
theorem dX10_lock_51 : decode cX10_lock 51 = .ok (.aload 5, 2) := by decide +kernel
theorem dX10_lock_53 : decode cX10_lock 53 = .ok (.ifnull 18, 3) := by decide +kernel
theorem dX10_lock_56 : decode cX10_lock 56 = .ok (.iload 7, 2) := by decide +kernel
theorem dX10_lock_58 : decode cX10_lock 58 = .ok (.ifCond .eq 13, 3) := by decide +kernel
theorem dX10_lock_61 : decode cX10_lock 61 = .ok (.aload 5, 2) := by decide +kernel
theorem dX10_lock_63 : decode cX10_lock 63 = .ok (.getfield 166, 3) := by decide +kernel
theorem dX10_lock_66 : decode cX10_lock 66 = .ok (.bipush 8, 2) := by decide +kernel
theorem dX10_lock_68 : decode cX10_lock 68 = .ok (.if_icmp .lt 5, 3) := by decide +kernel
theorem dX10_lock_71 : decode cX10_lock 71 = .ok (.iconst (-1), 1) := by decide +kernel
theorem dX10_lock_72 : decode cX10_lock 72 = .ok (.ireturn, 1) := by decide +kernel
theorem dX10_lock_73 : decode cX10_lock 73 = .ok (.aload 5, 2) := by decide +kernel
theorem dX10_lock_75 : decode cX10_lock 75 = .ok (.iload_n 2, 1) := by decide +kernel
theorem dX10_lock_76 : decode cX10_lock 76 = .ok (.iload 6, 2) := by decide +kernel
theorem dX10_lock_78 : decode cX10_lock 78 = .ok (.iload 4, 2) := by decide +kernel
theorem dX10_lock_80 : decode cX10_lock 80 = .ok (.invokevirtual 169, 3) := by decide +kernel
theorem dX10_lock_83 : decode cX10_lock 83 = .ok (.aload 5, 2) := by decide +kernel
theorem dX10_lock_85 : decode cX10_lock 85 = .ok (.getfield 166, 3) := by decide +kernel
theorem dX10_lock_88 : decode cX10_lock 88 = .ok (.ireturn, 1) := by decide +kernel
theorem dX10_bill_0 : decode cX10_bill 0 = .ok (.aload_n 0, 1) := by decide +kernel
theorem dX10_bill_1 : decode cX10_bill 1 = .ok (.iload_n 1, 1) := by decide +kernel
theorem dX10_bill_2 : decode cX10_bill 2 = .ok (.invokevirtual 162, 3) := by decide +kernel
theorem dX10_bill_5 : decode cX10_bill 5 = .ok (.astore_n 2, 1) := by decide +kernel
theorem dX10_bill_6 : decode cX10_bill 6 = .ok (.aload_n 2, 1) := by decide +kernel
theorem dX10_bill_7 : decode cX10_bill 7 = .ok (.ifnull 10, 3) := by decide +kernel
theorem dX10_bill_10 : decode cX10_bill 10 = .ok (.aload_n 2, 1) := by decide +kernel
theorem dX10_bill_11 : decode cX10_bill 11 = .ok (.getfield 166, 3) := by decide +kernel
theorem dX10_bill_14 : decode cX10_bill 14 = .ok (.ifCond .ne 5, 3) := by decide +kernel
theorem dX10_bill_17 : decode cX10_bill 17 = .ok (.iconst (-1), 1) := by decide +kernel
theorem dX10_bill_18 : decode cX10_bill 18 = .ok (.ireturn, 1) := by decide +kernel
theorem dX10_bill_19 : decode cX10_bill 19 = .ok (.aload_n 0, 1) := by decide +kernel
theorem dX10_bill_20 : decode cX10_bill 20 = .ok (.getfield 44, 3) := by decide +kernel
theorem dX10_bill_23 : decode cX10_bill 23 = .ok (.aload_n 2, 1) := by decide +kernel
theorem dX10_bill_24 : decode cX10_bill 24 = .ok (.invokevirtual 173, 3) := by decide +kernel
theorem dX10_bill_27 : decode cX10_bill 27 = .ok (.istore_n 3, 1) := by decide +kernel
theorem dX10_bill_28 : decode cX10_bill 28 = .ok (.iload_n 3, 1) := by decide +kernel
theorem dX10_bill_29 : decode cX10_bill 29 = .ok (.ifCond .ne 16, 3) := by decide +kernel
theorem dX10_bill_32 : decode cX10_bill 32 = .ok (.aload_n 0, 1) := by decide +kernel
theorem dX10_bill_33 : decode cX10_bill 33 = .ok (.dup, 1) := by decide +kernel
theorem dX10_bill_34 : decode cX10_bill 34 = .ok (.getfield 58, 3) := by decide +kernel
theorem dX10_bill_37 : decode cX10_bill 37 = .ok (.iconst 1, 1) := by decide +kernel
theorem dX10_bill_38 : decode cX10_bill 38 = .ok (.iadd, 1) := by decide +kernel
theorem dX10_bill_39 : decode cX10_bill 39 = .ok (.putfield 58, 3) := by decide +kernel
theorem dX10_bill_42 : decode cX10_bill 42 = .ok (.goto 13, 3) := by decide +kernel
theorem dX10_bill_45 : decode cX10_bill 45 = .ok (.aload_n 0, 1) := by decide +kernel
theorem dX10_bill_46 : decode cX10_bill 46 = .ok (.dup, 1) := by decide +kernel
theorem dX10_bill_47 : decode cX10_bill 47 = .ok (.getfield 61, 3) := by decide +kernel
theorem dX10_bill_50 : decode cX10_bill 50 = .ok (.iconst 1, 1) := by decide +kernel
theorem dX10_bill_51 : decode cX10_bill 51 = .ok (.iadd, 1) := by decide +kernel
theorem dX10_bill_52 : decode cX10_bill 52 = .ok (.putfield 61, 3) := by decide +kernel
theorem dX10_bill_55 : decode cX10_bill 55 = .ok (.iload_n 3, 1) := by decide +kernel
theorem dX10_bill_56 : decode cX10_bill 56 = .ok (.ireturn, 1) := by decide +kernel
theorem dX10_line_0 : decode cX10_line 0 = .ok (.aload_n 0, 1) := by decide +kernel
theorem dX10_line_1 : decode cX10_line 1 = .ok (.iload_n 1, 1) := by decide +kernel
theorem dX10_line_2 : decode cX10_line 2 = .ok (.invokevirtual 162, 3) := by decide +kernel
theorem dX10_line_5 : decode cX10_line 5 = .ok (.astore_n 3, 1) := by decide +kernel
theorem dX10_line_6 : decode cX10_line 6 = .ok (.aload_n 3, 1) := by decide +kernel
theorem dX10_line_7 : decode cX10_line 7 = .ok (.ifnull 22, 3) := by decide +kernel
theorem dX10_line_10 : decode cX10_line 10 = .ok (.iload_n 2, 1) := by decide +kernel
theorem dX10_line_11 : decode cX10_line 11 = .ok (.ifCond .lt 18, 3) := by decide +kernel
theorem dX10_line_14 : decode cX10_line 14 = .ok (.iload_n 2, 1) := by decide +kernel
theorem dX10_line_15 : decode cX10_line 15 = .ok (.aload_n 3, 1) := by decide +kernel
theorem dX10_line_16 : decode cX10_line 16 = .ok (.getfield 177, 3) := by decide +kernel
theorem dX10_line_19 : decode cX10_line 19 = .ok (.if_icmp .gt 10, 3) := by decide +kernel
theorem dX10_line_22 : decode cX10_line 22 = .ok (.aload_n 3, 1) := by decide +kernel
theorem dX10_line_23 : decode cX10_line 23 = .ok (.getfield 177, 3) := by decide +kernel
theorem dX10_line_26 : decode cX10_line 26 = .ok (.ifCond .ne 7, 3) := by decide +kernel
theorem dX10_line_29 : decode cX10_line 29 = .ok (.ldc2_w 133, 3) := by decide +kernel
theorem dX10_line_32 : decode cX10_line 32 = .ok (.lreturn, 1) := by decide +kernel
theorem dX10_line_33 : decode cX10_line 33 = .ok (.iload_n 2, 1) := by decide +kernel
theorem dX10_line_34 : decode cX10_line 34 = .ok (.ifCond .ne 10, 3) := by decide +kernel
theorem dX10_line_37 : decode cX10_line 37 = .ok (.aload_n 3, 1) := by decide +kernel
theorem dX10_line_38 : decode cX10_line 38 = .ok (.getfield 180, 3) := by decide +kernel
theorem dX10_line_41 : decode cX10_line 41 = .ok (.goto 11, 3) := by decide +kernel
theorem dX10_line_44 : decode cX10_line 44 = .ok (.aload_n 3, 1) := by decide +kernel
theorem dX10_line_45 : decode cX10_line 45 = .ok (.getfield 184, 3) := by decide +kernel
theorem dX10_line_48 : decode cX10_line 48 = .ok (.iload_n 2, 1) := by decide +kernel
theorem dX10_line_49 : decode cX10_line 49 = .ok (.iconst 1, 1) := by decide +kernel
theorem dX10_line_50 : decode cX10_line 50 = .ok (.isub, 1) := by decide +kernel
theorem dX10_line_51 : decode cX10_line 51 = .ok (.laload, 1) := by decide +kernel
theorem dX10_line_52 : decode cX10_line 52 = .ok (.lreturn, 1) := by decide +kernel
theorem dX10_count_0 : decode cX10_count 0 = .ok (.iload_n 1, 1) := by decide +kernel
theorem dX10_count_1 : decode cX10_count 1 = .ok (.tableswitch 66 0 4 #[35, 43, 51, 56, 61], 35) := by decide +kernel
theorem dX10_count_36 : decode cX10_count 36 = .ok (.aload_n 0, 1) := by decide +kernel
theorem dX10_count_37 : decode cX10_count 37 = .ok (.getfield 28, 3) := by decide +kernel
theorem dX10_count_40 : decode cX10_count 40 = .ok (.getfield 187, 3) := by decide +kernel
theorem dX10_count_43 : decode cX10_count 43 = .ok (.ireturn, 1) := by decide +kernel
theorem dX10_count_44 : decode cX10_count 44 = .ok (.aload_n 0, 1) := by decide +kernel
theorem dX10_count_45 : decode cX10_count 45 = .ok (.getfield 44, 3) := by decide +kernel
theorem dX10_count_48 : decode cX10_count 48 = .ok (.getfield 151, 3) := by decide +kernel
theorem dX10_count_51 : decode cX10_count 51 = .ok (.ireturn, 1) := by decide +kernel
theorem dX10_count_52 : decode cX10_count 52 = .ok (.aload_n 0, 1) := by decide +kernel
theorem dX10_count_53 : decode cX10_count 53 = .ok (.getfield 58, 3) := by decide +kernel
theorem dX10_count_56 : decode cX10_count 56 = .ok (.ireturn, 1) := by decide +kernel
theorem dX10_count_57 : decode cX10_count 57 = .ok (.aload_n 0, 1) := by decide +kernel
theorem dX10_count_58 : decode cX10_count 58 = .ok (.getfield 61, 3) := by decide +kernel
theorem dX10_count_61 : decode cX10_count 61 = .ok (.ireturn, 1) := by decide +kernel
theorem dX10_count_62 : decode cX10_count 62 = .ok (.aload_n 0, 1) := by decide +kernel
theorem dX10_count_63 : decode cX10_count 63 = .ok (.getfield 54, 3) := by decide +kernel
theorem dX10_count_66 : decode cX10_count 66 = .ok (.ireturn, 1) := by decide +kernel
theorem dX10_count_67 : decode cX10_count 67 = .ok (.iconst (-1), 1) := by decide +kernel
theorem dX10_count_68 : decode cX10_count 68 = .ok (.ireturn, 1) := by decide +kernel
theorem dX10_voyageOf_0 : decode cX10_voyageOf 0 = .ok (.iload_n 1, 1) := by decide +kernel
theorem dX10_voyageOf_1 : decode cX10_voyageOf 1 = .ok (.ifCond .lt 20, 3) := by decide +kernel
theorem dX10_voyageOf_4 : decode cX10_voyageOf 4 = .ok (.iload_n 1, 1) := by decide +kernel
theorem dX10_voyageOf_5 : decode cX10_voyageOf 5 = .ok (.aload_n 0, 1) := by decide +kernel
theorem dX10_voyageOf_6 : decode cX10_voyageOf 6 = .ok (.getfield 54, 3) := by decide +kernel
theorem dX10_voyageOf_9 : decode cX10_voyageOf 9 = .ok (.if_icmp .ge 12, 3) := by decide +kernel
theorem dX10_voyageOf_12 : decode cX10_voyageOf 12 = .ok (.aload_n 0, 1) := by decide +kernel
theorem dX10_voyageOf_13 : decode cX10_voyageOf 13 = .ok (.getfield 50, 3) := by decide +kernel
theorem dX10_voyageOf_16 : decode cX10_voyageOf 16 = .ok (.iload_n 1, 1) := by decide +kernel
theorem dX10_voyageOf_17 : decode cX10_voyageOf 17 = .ok (.aaload, 1) := by decide +kernel
theorem dX10_voyageOf_18 : decode cX10_voyageOf 18 = .ok (.goto 4, 3) := by decide +kernel
theorem dX10_voyageOf_21 : decode cX10_voyageOf 21 = .ok (.aconst_null, 1) := by decide +kernel
theorem dX10_voyageOf_22 : decode cX10_voyageOf 22 = .ok (.areturn, 1) := by decide +kernel
theorem dX10_yearIndex_0 : decode cX10_yearIndex 0 = .ok (.lload_n 0, 1) := by decide +kernel
theorem dX10_yearIndex_1 : decode cX10_yearIndex 1 = .ok (.ldc2_w 188, 3) := by decide +kernel
theorem dX10_yearIndex_4 : decode cX10_yearIndex 4 = .ok (.lcmp, 1) := by decide +kernel
theorem dX10_yearIndex_5 : decode cX10_yearIndex 5 = .ok (.ifCond .lt 20, 3) := by decide +kernel
theorem dX10_yearIndex_8 : decode cX10_yearIndex 8 = .ok (.lload_n 0, 1) := by decide +kernel
theorem dX10_yearIndex_9 : decode cX10_yearIndex 9 = .ok (.ldc2_w 190, 3) := by decide +kernel
theorem dX10_yearIndex_12 : decode cX10_yearIndex 12 = .ok (.lcmp, 1) := by decide +kernel
theorem dX10_yearIndex_13 : decode cX10_yearIndex 13 = .ok (.ifCond .ge 12, 3) := by decide +kernel
theorem dX10_yearIndex_16 : decode cX10_yearIndex 16 = .ok (.lload_n 0, 1) := by decide +kernel
theorem dX10_yearIndex_17 : decode cX10_yearIndex 17 = .ok (.l2i, 1) := by decide +kernel
theorem dX10_yearIndex_18 : decode cX10_yearIndex 18 = .ok (.sipush 1700, 3) := by decide +kernel
theorem dX10_yearIndex_21 : decode cX10_yearIndex 21 = .ok (.isub, 1) := by decide +kernel
theorem dX10_yearIndex_22 : decode cX10_yearIndex 22 = .ok (.goto 4, 3) := by decide +kernel
theorem dX10_yearIndex_25 : decode cX10_yearIndex 25 = .ok (.iconst (-1), 1) := by decide +kernel
theorem dX10_yearIndex_26 : decode cX10_yearIndex 26 = .ok (.ireturn, 1) := by decide +kernel
theorem dX10_sheetState_0 : decode cX10_sheetState 0 = .ok (.iload_n 1, 1) := by decide +kernel
theorem dX10_sheetState_1 : decode cX10_sheetState 1 = .ok (.tableswitch 80 4 6 #[27, 41, 55], 27) := by decide +kernel
theorem dX10_sheetState_28 : decode cX10_sheetState 28 = .ok (.aload_n 0, 1) := by decide +kernel
theorem dX10_sheetState_29 : decode cX10_sheetState 29 = .ok (.ifnonnull 7, 3) := by decide +kernel
theorem dX10_sheetState_32 : decode cX10_sheetState 32 = .ok (.iconst 0, 1) := by decide +kernel
theorem dX10_sheetState_33 : decode cX10_sheetState 33 = .ok (.goto 8, 3) := by decide +kernel
theorem dX10_sheetState_36 : decode cX10_sheetState 36 = .ok (.aload_n 0, 1) := by decide +kernel
theorem dX10_sheetState_37 : decode cX10_sheetState 37 = .ok (.getfield 192, 3) := by decide +kernel
theorem dX10_sheetState_40 : decode cX10_sheetState 40 = .ok (.arraylength, 1) := by decide +kernel
theorem dX10_sheetState_41 : decode cX10_sheetState 41 = .ok (.ireturn, 1) := by decide +kernel
theorem dX10_sheetState_42 : decode cX10_sheetState 42 = .ok (.aload_n 0, 1) := by decide +kernel
theorem dX10_sheetState_43 : decode cX10_sheetState 43 = .ok (.ifnonnull 7, 3) := by decide +kernel
theorem dX10_sheetState_46 : decode cX10_sheetState 46 = .ok (.iconst 0, 1) := by decide +kernel
theorem dX10_sheetState_47 : decode cX10_sheetState 47 = .ok (.goto 8, 3) := by decide +kernel
theorem dX10_sheetState_50 : decode cX10_sheetState 50 = .ok (.aload_n 0, 1) := by decide +kernel
theorem dX10_sheetState_51 : decode cX10_sheetState 51 = .ok (.getfield 195, 3) := by decide +kernel
theorem dX10_sheetState_54 : decode cX10_sheetState 54 = .ok (.arraylength, 1) := by decide +kernel
theorem dX10_sheetState_55 : decode cX10_sheetState 55 = .ok (.ireturn, 1) := by decide +kernel
theorem dX10_sheetState_56 : decode cX10_sheetState 56 = .ok (.aload_n 0, 1) := by decide +kernel
theorem dX10_sheetState_57 : decode cX10_sheetState 57 = .ok (.ifnull 11, 3) := by decide +kernel
theorem dX10_sheetState_60 : decode cX10_sheetState 60 = .ok (.aload_n 0, 1) := by decide +kernel
theorem dX10_sheetState_61 : decode cX10_sheetState 61 = .ok (.getfield 198, 3) := by decide +kernel
theorem dX10_sheetState_64 : decode cX10_sheetState 64 = .ok (.iconst (-1), 1) := by decide +kernel
theorem dX10_sheetState_65 : decode cX10_sheetState 65 = .ok (.if_icmp .ne 7, 3) := by decide +kernel
theorem dX10_sheetState_68 : decode cX10_sheetState 68 = .ok (.iconst (-1), 1) := by decide +kernel
theorem dX10_sheetState_69 : decode cX10_sheetState 69 = .ok (.goto 11, 3) := by decide +kernel
theorem dX10_sheetState_72 : decode cX10_sheetState 72 = .ok (.sipush 1700, 3) := by decide +kernel
theorem dX10_sheetState_75 : decode cX10_sheetState 75 = .ok (.aload_n 0, 1) := by decide +kernel
theorem dX10_sheetState_76 : decode cX10_sheetState 76 = .ok (.getfield 198, 3) := by decide +kernel
theorem dX10_sheetState_79 : decode cX10_sheetState 79 = .ok (.iadd, 1) := by decide +kernel
theorem dX10_sheetState_80 : decode cX10_sheetState 80 = .ok (.ireturn, 1) := by decide +kernel
theorem dX10_sheetState_81 : decode cX10_sheetState 81 = .ok (.iconst (-1), 1) := by decide +kernel
theorem dX10_sheetState_82 : decode cX10_sheetState 82 = .ok (.ireturn, 1) := by decide +kernel
theorem dX10_positionOf_0 : decode cX10_positionOf 0 = .ok (.iconst 0, 1) := by decide +kernel
theorem dX10_positionOf_1 : decode cX10_positionOf 1 = .ok (.istore 4, 2) := by decide +kernel
theorem dX10_positionOf_3 : decode cX10_positionOf 3 = .ok (.iload 4, 2) := by decide +kernel
theorem dX10_positionOf_5 : decode cX10_positionOf 5 = .ok (.iload_n 1, 1) := by decide +kernel
theorem dX10_positionOf_6 : decode cX10_positionOf 6 = .ok (.if_icmp .ge 28, 3) := by decide +kernel
theorem dX10_positionOf_9 : decode cX10_positionOf 9 = .ok (.iload 4, 2) := by decide +kernel
theorem dX10_positionOf_11 : decode cX10_positionOf 11 = .ok (.aload_n 0, 1) := by decide +kernel
theorem dX10_positionOf_12 : decode cX10_positionOf 12 = .ok (.arraylength, 1) := by decide +kernel
theorem dX10_positionOf_13 : decode cX10_positionOf 13 = .ok (.if_icmp .ge 21, 3) := by decide +kernel
theorem dX10_positionOf_16 : decode cX10_positionOf 16 = .ok (.aload_n 0, 1) := by decide +kernel
theorem dX10_positionOf_17 : decode cX10_positionOf 17 = .ok (.iload 4, 2) := by decide +kernel
theorem dX10_positionOf_19 : decode cX10_positionOf 19 = .ok (.laload, 1) := by decide +kernel
theorem dX10_positionOf_20 : decode cX10_positionOf 20 = .ok (.lload_n 2, 1) := by decide +kernel
theorem dX10_positionOf_21 : decode cX10_positionOf 21 = .ok (.lcmp, 1) := by decide +kernel
theorem dX10_positionOf_22 : decode cX10_positionOf 22 = .ok (.ifCond .ne 6, 3) := by decide +kernel
theorem dX10_positionOf_25 : decode cX10_positionOf 25 = .ok (.iload 4, 2) := by decide +kernel
theorem dX10_positionOf_27 : decode cX10_positionOf 27 = .ok (.ireturn, 1) := by decide +kernel
theorem dX10_positionOf_28 : decode cX10_positionOf 28 = .ok (.iinc 4 1, 3) := by decide +kernel
theorem dX10_positionOf_31 : decode cX10_positionOf 31 = .ok (.goto (-28), 3) := by decide +kernel
theorem dX10_positionOf_34 : decode cX10_positionOf 34 = .ok (.iconst (-1), 1) := by decide +kernel
theorem dX10_positionOf_35 : decode cX10_positionOf 35 = .ok (.ireturn, 1) := by decide +kernel
