theorem dX0_keyOf_0 : decode cX0_keyOf 0 = .ok (.iload_n 0, 1) := by decide +kernel
theorem dX0_keyOf_1 : decode cX0_keyOf 1 = .ok (.bipush 15, 2) := by decide +kernel
theorem dX0_keyOf_3 : decode cX0_keyOf 3 = .ok (.iand, 1) := by decide +kernel
theorem dX0_keyOf_4 : decode cX0_keyOf 4 = .ok (.ireturn, 1) := by decide +kernel
theorem dX0_valueOf_0 : decode cX0_valueOf 0 = .ok (.iload_n 0, 1) := by decide +kernel
theorem dX0_valueOf_1 : decode cX0_valueOf 1 = .ok (.iconst 4, 1) := by decide +kernel
theorem dX0_valueOf_2 : decode cX0_valueOf 2 = .ok (.ishr, 1) := by decide +kernel
theorem dX0_valueOf_3 : decode cX0_valueOf 3 = .ok (.bipush 63, 2) := by decide +kernel
theorem dX0_valueOf_5 : decode cX0_valueOf 5 = .ok (.iand, 1) := by decide +kernel
theorem dX0_valueOf_6 : decode cX0_valueOf 6 = .ok (.ireturn, 1) := by decide +kernel
theorem dX0_checkOf_0 : decode cX0_checkOf 0 = .ok (.iload_n 0, 1) := by decide +kernel
theorem dX0_checkOf_1 : decode cX0_checkOf 1 = .ok (.bipush 10, 2) := by decide +kernel
theorem dX0_checkOf_3 : decode cX0_checkOf 3 = .ok (.ishr, 1) := by decide +kernel
theorem dX0_checkOf_4 : decode cX0_checkOf 4 = .ok (.bipush 15, 2) := by decide +kernel
theorem dX0_checkOf_6 : decode cX0_checkOf 6 = .ok (.iand, 1) := by decide +kernel
theorem dX0_checkOf_7 : decode cX0_checkOf 7 = .ok (.ireturn, 1) := by decide +kernel
theorem dX0_zerosOf_0 : decode cX0_zerosOf 0 = .ok (.bipush 10, 2) := by decide +kernel
theorem dX0_zerosOf_2 : decode cX0_zerosOf 2 = .ok (.iload_n 0, 1) := by decide +kernel
theorem dX0_zerosOf_3 : decode cX0_zerosOf 3 = .ok (.sipush 1023, 3) := by decide +kernel
theorem dX0_zerosOf_6 : decode cX0_zerosOf 6 = .ok (.iand, 1) := by decide +kernel
theorem dX0_zerosOf_7 : decode cX0_zerosOf 7 = .ok (.invokestatic 11, 3) := by decide +kernel
theorem dX0_zerosOf_10 : decode cX0_zerosOf 10 = .ok (.isub, 1) := by decide +kernel
theorem dX0_zerosOf_11 : decode cX0_zerosOf 11 = .ok (.ireturn, 1) := by decide +kernel
theorem dX0_kindOf_0 : decode cX0_kindOf 0 = .ok (.iload_n 0, 1) := by decide +kernel
theorem dX0_kindOf_1 : decode cX0_kindOf 1 = .ok (.ifCond .ne 5, 3) := by decide +kernel
theorem dX0_kindOf_4 : decode cX0_kindOf 4 = .ok (.iconst 0, 1) := by decide +kernel
theorem dX0_kindOf_5 : decode cX0_kindOf 5 = .ok (.ireturn, 1) := by decide +kernel
theorem dX0_kindOf_6 : decode cX0_kindOf 6 = .ok (.iload_n 0, 1) := by decide +kernel
theorem dX0_kindOf_7 : decode cX0_kindOf 7 = .ok (.sipush 16383, 3) := by decide +kernel
theorem dX0_kindOf_10 : decode cX0_kindOf 10 = .ok (.iand, 1) := by decide +kernel
theorem dX0_kindOf_11 : decode cX0_kindOf 11 = .ok (.ifCond .ne 5, 3) := by decide +kernel
theorem dX0_kindOf_14 : decode cX0_kindOf 14 = .ok (.iconst 1, 1) := by decide +kernel
theorem dX0_kindOf_15 : decode cX0_kindOf 15 = .ok (.ireturn, 1) := by decide +kernel
theorem dX0_kindOf_16 : decode cX0_kindOf 16 = .ok (.iload_n 0, 1) := by decide +kernel
theorem dX0_kindOf_17 : decode cX0_kindOf 17 = .ok (.sipush 16384, 3) := by decide +kernel
theorem dX0_kindOf_20 : decode cX0_kindOf 20 = .ok (.iand, 1) := by decide +kernel
theorem dX0_kindOf_21 : decode cX0_kindOf 21 = .ok (.ifCond .eq 5, 3) := by decide +kernel
theorem dX0_kindOf_24 : decode cX0_kindOf 24 = .ok (.iconst 2, 1) := by decide +kernel
theorem dX0_kindOf_25 : decode cX0_kindOf 25 = .ok (.ireturn, 1) := by decide +kernel
theorem dX0_kindOf_26 : decode cX0_kindOf 26 = .ok (.bipush 10, 2) := by decide +kernel
theorem dX0_kindOf_28 : decode cX0_kindOf 28 = .ok (.iload_n 0, 1) := by decide +kernel
theorem dX0_kindOf_29 : decode cX0_kindOf 29 = .ok (.sipush 1023, 3) := by decide +kernel
theorem dX0_kindOf_32 : decode cX0_kindOf 32 = .ok (.iand, 1) := by decide +kernel
theorem dX0_kindOf_33 : decode cX0_kindOf 33 = .ok (.invokestatic 11, 3) := by decide +kernel
theorem dX0_kindOf_36 : decode cX0_kindOf 36 = .ok (.isub, 1) := by decide +kernel
theorem dX0_kindOf_37 : decode cX0_kindOf 37 = .ok (.istore_n 1, 1) := by decide +kernel
theorem dX0_kindOf_38 : decode cX0_kindOf 38 = .ok (.iload_n 0, 1) := by decide +kernel
theorem dX0_kindOf_39 : decode cX0_kindOf 39 = .ok (.invokestatic 17, 3) := by decide +kernel
theorem dX0_kindOf_42 : decode cX0_kindOf 42 = .ok (.iload_n 1, 1) := by decide +kernel
theorem dX0_kindOf_43 : decode cX0_kindOf 43 = .ok (.if_icmp .ne 7, 3) := by decide +kernel
theorem dX0_kindOf_46 : decode cX0_kindOf 46 = .ok (.iconst 4, 1) := by decide +kernel
theorem dX0_kindOf_47 : decode cX0_kindOf 47 = .ok (.goto 4, 3) := by decide +kernel
theorem dX0_kindOf_50 : decode cX0_kindOf 50 = .ok (.iconst 3, 1) := by decide +kernel
theorem dX0_kindOf_51 : decode cX0_kindOf 51 = .ok (.ireturn, 1) := by decide +kernel
theorem dX0_ofEntry_0 : decode cX0_ofEntry 0 = .ok (.iload_n 0, 1) := by decide +kernel
theorem dX0_ofEntry_1 : decode cX0_ofEntry 1 = .ok (.iload_n 1, 1) := by decide +kernel
theorem dX0_ofEntry_2 : decode cX0_ofEntry 2 = .ok (.iconst 4, 1) := by decide +kernel
theorem dX0_ofEntry_3 : decode cX0_ofEntry 3 = .ok (.ishl, 1) := by decide +kernel
theorem dX0_ofEntry_4 : decode cX0_ofEntry 4 = .ok (.ior, 1) := by decide +kernel
theorem dX0_ofEntry_5 : decode cX0_ofEntry 5 = .ok (.istore_n 2, 1) := by decide +kernel
theorem dX0_ofEntry_6 : decode cX0_ofEntry 6 = .ok (.iload_n 2, 1) := by decide +kernel
theorem dX0_ofEntry_7 : decode cX0_ofEntry 7 = .ok (.iload_n 2, 1) := by decide +kernel
theorem dX0_ofEntry_8 : decode cX0_ofEntry 8 = .ok (.invokestatic 20, 3) := by decide +kernel
theorem dX0_ofEntry_11 : decode cX0_ofEntry 11 = .ok (.bipush 10, 2) := by decide +kernel
theorem dX0_ofEntry_13 : decode cX0_ofEntry 13 = .ok (.ishl, 1) := by decide +kernel
theorem dX0_ofEntry_14 : decode cX0_ofEntry 14 = .ok (.ior, 1) := by decide +kernel
theorem dX0_ofEntry_15 : decode cX0_ofEntry 15 = .ok (.ireturn, 1) := by decide +kernel
theorem dX1_init_0 : decode cX1_init 0 = .ok (.aload_n 0, 1) := by decide +kernel
theorem dX1_init_1 : decode cX1_init 1 = .ok (.invokespecial 3, 3) := by decide +kernel
theorem dX1_init_4 : decode cX1_init 4 = .ok (.aload_n 0, 1) := by decide +kernel
theorem dX1_init_5 : decode cX1_init 5 = .ok (.bipush 60, 2) := by decide +kernel
theorem dX1_init_7 : decode cX1_init 7 = .ok (.newarray .char, 2) := by decide +kernel
theorem dX1_init_9 : decode cX1_init 9 = .ok (.putfield 11, 3) := by decide +kernel
theorem dX1_init_12 : decode cX1_init 12 = .ok (.aload_n 0, 1) := by decide +kernel
theorem dX1_init_13 : decode cX1_init 13 = .ok (.bipush 10, 2) := by decide +kernel
theorem dX1_init_15 : decode cX1_init 15 = .ok (.newarray .int, 2) := by decide +kernel
theorem dX1_init_17 : decode cX1_init 17 = .ok (.putfield 15, 3) := by decide +kernel
theorem dX1_init_20 : decode cX1_init 20 = .ok (.aload_n 0, 1) := by decide +kernel
theorem dX1_init_21 : decode cX1_init 21 = .ok (.bipush 10, 2) := by decide +kernel
theorem dX1_init_23 : decode cX1_init 23 = .ok (.newarray .int, 2) := by decide +kernel
theorem dX1_init_25 : decode cX1_init 25 = .ok (.putfield 19, 3) := by decide +kernel
theorem dX1_init_28 : decode cX1_init 28 = .ok (.aload_n 0, 1) := by decide +kernel
theorem dX1_init_29 : decode cX1_init 29 = .ok (.bipush 10, 2) := by decide +kernel
theorem dX1_init_31 : decode cX1_init 31 = .ok (.newarray .int, 2) := by decide +kernel
theorem dX1_init_33 : decode cX1_init 33 = .ok (.putfield 22, 3) := by decide +kernel
theorem dX1_init_36 : decode cX1_init 36 = .ok (.return_, 1) := by decide +kernel
theorem dX2_init_0 : decode cX2_init 0 = .ok (.aload_n 0, 1) := by decide +kernel
theorem dX2_init_1 : decode cX2_init 1 = .ok (.invokespecial 1, 3) := by decide +kernel
theorem dX2_init_4 : decode cX2_init 4 = .ok (.aload_n 0, 1) := by decide +kernel
theorem dX2_init_5 : decode cX2_init 5 = .ok (.bipush 6, 2) := by decide +kernel
theorem dX2_init_7 : decode cX2_init 7 = .ok (.anewarray 9, 3) := by decide +kernel
theorem dX2_init_10 : decode cX2_init 10 = .ok (.putfield 11, 3) := by decide +kernel
theorem dX2_init_13 : decode cX2_init 13 = .ok (.iconst 0, 1) := by decide +kernel
theorem dX2_init_14 : decode cX2_init 14 = .ok (.istore_n 1, 1) := by decide +kernel
theorem dX2_init_15 : decode cX2_init 15 = .ok (.iload_n 1, 1) := by decide +kernel
theorem dX2_init_16 : decode cX2_init 16 = .ok (.bipush 6, 2) := by decide +kernel
theorem dX2_init_18 : decode cX2_init 18 = .ok (.if_icmp .ge 22, 3) := by decide +kernel
theorem dX2_init_21 : decode cX2_init 21 = .ok (.aload_n 0, 1) := by decide +kernel
theorem dX2_init_22 : decode cX2_init 22 = .ok (.getfield 11, 3) := by decide +kernel
theorem dX2_init_25 : decode cX2_init 25 = .ok (.iload_n 1, 1) := by decide +kernel
theorem dX2_init_26 : decode cX2_init 26 = .ok (.new 9, 3) := by decide +kernel
theorem dX2_init_29 : decode cX2_init 29 = .ok (.dup, 1) := by decide +kernel
theorem dX2_init_30 : decode cX2_init 30 = .ok (.invokespecial 15, 3) := by decide +kernel
theorem dX2_init_33 : decode cX2_init 33 = .ok (.aastore, 1) := by decide +kernel
theorem dX2_init_34 : decode cX2_init 34 = .ok (.iinc 1 1, 3) := by decide +kernel
theorem dX2_init_37 : decode cX2_init 37 = .ok (.goto (-22), 3) := by decide +kernel
theorem dX2_init_40 : decode cX2_init 40 = .ok (.return_, 1) := by decide +kernel
theorem dX2_save_0 : decode cX2_save 0 = .ok (.aload_n 0, 1) := by decide +kernel
theorem dX2_save_1 : decode cX2_save 1 = .ok (.getfield 11, 3) := by decide +kernel
theorem dX2_save_4 : decode cX2_save 4 = .ok (.aload_n 0, 1) := by decide +kernel
theorem dX2_save_5 : decode cX2_save 5 = .ok (.getfield 16, 3) := by decide +kernel
theorem dX2_save_8 : decode cX2_save 8 = .ok (.aload_n 0, 1) := by decide +kernel
theorem dX2_save_9 : decode cX2_save 9 = .ok (.getfield 20, 3) := by decide +kernel
theorem dX2_save_12 : decode cX2_save 12 = .ok (.iadd, 1) := by decide +kernel
theorem dX2_save_13 : decode cX2_save 13 = .ok (.bipush 6, 2) := by decide +kernel
theorem dX2_save_15 : decode cX2_save 15 = .ok (.irem, 1) := by decide +kernel
theorem dX2_save_16 : decode cX2_save 16 = .ok (.aaload, 1) := by decide +kernel
theorem dX2_save_17 : decode cX2_save 17 = .ok (.aload_n 1, 1) := by decide +kernel
theorem dX2_save_18 : decode cX2_save 18 = .ok (.invokevirtual 23, 3) := by decide +kernel
theorem dX2_save_21 : decode cX2_save 21 = .ok (.aload_n 0, 1) := by decide +kernel
theorem dX2_save_22 : decode cX2_save 22 = .ok (.getfield 20, 3) := by decide +kernel
theorem dX2_save_25 : decode cX2_save 25 = .ok (.bipush 6, 2) := by decide +kernel
theorem dX2_save_27 : decode cX2_save 27 = .ok (.if_icmp .ge 16, 3) := by decide +kernel
theorem dX2_save_30 : decode cX2_save 30 = .ok (.aload_n 0, 1) := by decide +kernel
theorem dX2_save_31 : decode cX2_save 31 = .ok (.dup, 1) := by decide +kernel
theorem dX2_save_32 : decode cX2_save 32 = .ok (.getfield 20, 3) := by decide +kernel
theorem dX2_save_35 : decode cX2_save 35 = .ok (.iconst 1, 1) := by decide +kernel
theorem dX2_save_36 : decode cX2_save 36 = .ok (.iadd, 1) := by decide +kernel
theorem dX2_save_37 : decode cX2_save 37 = .ok (.putfield 20, 3) := by decide +kernel
theorem dX2_save_40 : decode cX2_save 40 = .ok (.goto 16, 3) := by decide +kernel
theorem dX2_save_43 : decode cX2_save 43 = .ok (.aload_n 0, 1) := by decide +kernel
theorem dX2_save_44 : decode cX2_save 44 = .ok (.aload_n 0, 1) := by decide +kernel
theorem dX2_save_45 : decode cX2_save 45 = .ok (.getfield 16, 3) := by decide +kernel
theorem dX2_save_48 : decode cX2_save 48 = .ok (.iconst 1, 1) := by decide +kernel
theorem dX2_save_49 : decode cX2_save 49 = .ok (.iadd, 1) := by decide +kernel
theorem dX2_save_50 : decode cX2_save 50 = .ok (.bipush 6, 2) := by decide +kernel
theorem dX2_save_52 : decode cX2_save 52 = .ok (.irem, 1) := by decide +kernel
theorem dX2_save_53 : decode cX2_save 53 = .ok (.putfield 16, 3) := by decide +kernel
theorem dX2_save_56 : decode cX2_save 56 = .ok (.return_, 1) := by decide +kernel
theorem dX2_restore_0 : decode cX2_restore 0 = .ok (.aload_n 0, 1) := by decide +kernel
theorem dX2_restore_1 : decode cX2_restore 1 = .ok (.getfield 20, 3) := by decide +kernel
theorem dX2_restore_4 : decode cX2_restore 4 = .ok (.ifCond .le 34, 3) := by decide +kernel
theorem dX2_restore_7 : decode cX2_restore 7 = .ok (.aload_n 0, 1) := by decide +kernel
theorem dX2_restore_8 : decode cX2_restore 8 = .ok (.dup, 1) := by decide +kernel
theorem dX2_restore_9 : decode cX2_restore 9 = .ok (.getfield 20, 3) := by decide +kernel
theorem dX2_restore_12 : decode cX2_restore 12 = .ok (.iconst 1, 1) := by decide +kernel
theorem dX2_restore_13 : decode cX2_restore 13 = .ok (.isub, 1) := by decide +kernel
theorem dX2_restore_14 : decode cX2_restore 14 = .ok (.putfield 20, 3) := by decide +kernel
theorem dX2_restore_17 : decode cX2_restore 17 = .ok (.aload_n 1, 1) := by decide +kernel
theorem dX2_restore_18 : decode cX2_restore 18 = .ok (.aload_n 0, 1) := by decide +kernel
theorem dX2_restore_19 : decode cX2_restore 19 = .ok (.getfield 11, 3) := by decide +kernel
theorem dX2_restore_22 : decode cX2_restore 22 = .ok (.aload_n 0, 1) := by decide +kernel
theorem dX2_restore_23 : decode cX2_restore 23 = .ok (.getfield 16, 3) := by decide +kernel
theorem dX2_restore_26 : decode cX2_restore 26 = .ok (.aload_n 0, 1) := by decide +kernel
theorem dX2_restore_27 : decode cX2_restore 27 = .ok (.getfield 20, 3) := by decide +kernel
theorem dX2_restore_30 : decode cX2_restore 30 = .ok (.iadd, 1) := by decide +kernel
theorem dX2_restore_31 : decode cX2_restore 31 = .ok (.bipush 6, 2) := by decide +kernel
theorem dX2_restore_33 : decode cX2_restore 33 = .ok (.irem, 1) := by decide +kernel
theorem dX2_restore_34 : decode cX2_restore 34 = .ok (.aaload, 1) := by decide +kernel
theorem dX2_restore_35 : decode cX2_restore 35 = .ok (.invokevirtual 23, 3) := by decide +kernel
theorem dX2_restore_38 : decode cX2_restore 38 = .ok (.return_, 1) := by decide +kernel
theorem dX3_init_0 : decode cX3_init 0 = .ok (.aload_n 0, 1) := by decide +kernel
theorem dX3_init_1 : decode cX3_init 1 = .ok (.invokespecial 3, 3) := by decide +kernel
theorem dX3_init_4 : decode cX3_init 4 = .ok (.aload_n 0, 1) := by decide +kernel
theorem dX3_init_5 : decode cX3_init 5 = .ok (.bipush 20, 2) := by decide +kernel
theorem dX3_init_7 : decode cX3_init 7 = .ok (.newarray .int, 2) := by decide +kernel
theorem dX3_init_9 : decode cX3_init 9 = .ok (.putfield 9, 3) := by decide +kernel
theorem dX3_init_12 : decode cX3_init 12 = .ok (.aload_n 0, 1) := by decide +kernel
theorem dX3_init_13 : decode cX3_init 13 = .ok (.bipush 20, 2) := by decide +kernel
theorem dX3_init_15 : decode cX3_init 15 = .ok (.newarray .int, 2) := by decide +kernel
theorem dX3_init_17 : decode cX3_init 17 = .ok (.putfield 15, 3) := by decide +kernel
theorem dX3_init_20 : decode cX3_init 20 = .ok (.aload_n 0, 1) := by decide +kernel
theorem dX3_init_21 : decode cX3_init 21 = .ok (.iconst 4, 1) := by decide +kernel
theorem dX3_init_22 : decode cX3_init 22 = .ok (.newarray .int, 2) := by decide +kernel
theorem dX3_init_24 : decode cX3_init 24 = .ok (.dup, 1) := by decide +kernel
theorem dX3_init_25 : decode cX3_init 25 = .ok (.iconst 0, 1) := by decide +kernel
theorem dX3_init_26 : decode cX3_init 26 = .ok (.iconst 1, 1) := by decide +kernel
theorem dX3_init_27 : decode cX3_init 27 = .ok (.iastore, 1) := by decide +kernel
theorem dX3_init_28 : decode cX3_init 28 = .ok (.dup, 1) := by decide +kernel
theorem dX3_init_29 : decode cX3_init 29 = .ok (.iconst 1, 1) := by decide +kernel
theorem dX3_init_30 : decode cX3_init 30 = .ok (.iconst 3, 1) := by decide +kernel
theorem dX3_init_31 : decode cX3_init 31 = .ok (.iastore, 1) := by decide +kernel
theorem dX3_init_32 : decode cX3_init 32 = .ok (.dup, 1) := by decide +kernel
theorem dX3_init_33 : decode cX3_init 33 = .ok (.iconst 2, 1) := by decide +kernel
theorem dX3_init_34 : decode cX3_init 34 = .ok (.iconst 1, 1) := by decide +kernel
theorem dX3_init_35 : decode cX3_init 35 = .ok (.iastore, 1) := by decide +kernel
theorem dX3_init_36 : decode cX3_init 36 = .ok (.dup, 1) := by decide +kernel
theorem dX3_init_37 : decode cX3_init 37 = .ok (.iconst 3, 1) := by decide +kernel
theorem dX3_init_38 : decode cX3_init 38 = .ok (.iconst 1, 1) := by decide +kernel
theorem dX3_init_39 : decode cX3_init 39 = .ok (.iastore, 1) := by decide +kernel
theorem dX3_init_40 : decode cX3_init 40 = .ok (.putfield 18, 3) := by decide +kernel
theorem dX3_init_43 : decode cX3_init 43 = .ok (.return_, 1) := by decide +kernel
theorem dX3_copyFrom_0 : decode cX3_copyFrom 0 = .ok (.aload_n 1, 1) := by decide +kernel
theorem dX3_copyFrom_1 : decode cX3_copyFrom 1 = .ok (.getfield 9, 3) := by decide +kernel
theorem dX3_copyFrom_4 : decode cX3_copyFrom 4 = .ok (.iconst 0, 1) := by decide +kernel
theorem dX3_copyFrom_5 : decode cX3_copyFrom 5 = .ok (.aload_n 0, 1) := by decide +kernel
theorem dX3_copyFrom_6 : decode cX3_copyFrom 6 = .ok (.getfield 9, 3) := by decide +kernel
theorem dX3_copyFrom_9 : decode cX3_copyFrom 9 = .ok (.iconst 0, 1) := by decide +kernel
theorem dX3_copyFrom_10 : decode cX3_copyFrom 10 = .ok (.bipush 20, 2) := by decide +kernel
theorem dX3_copyFrom_12 : decode cX3_copyFrom 12 = .ok (.invokestatic 21, 3) := by decide +kernel
theorem dX3_copyFrom_15 : decode cX3_copyFrom 15 = .ok (.aload_n 1, 1) := by decide +kernel
theorem dX3_copyFrom_16 : decode cX3_copyFrom 16 = .ok (.getfield 15, 3) := by decide +kernel
theorem dX3_copyFrom_19 : decode cX3_copyFrom 19 = .ok (.iconst 0, 1) := by decide +kernel
theorem dX3_copyFrom_20 : decode cX3_copyFrom 20 = .ok (.aload_n 0, 1) := by decide +kernel
theorem dX3_copyFrom_21 : decode cX3_copyFrom 21 = .ok (.getfield 15, 3) := by decide +kernel
theorem dX3_copyFrom_24 : decode cX3_copyFrom 24 = .ok (.iconst 0, 1) := by decide +kernel
theorem dX3_copyFrom_25 : decode cX3_copyFrom 25 = .ok (.bipush 20, 2) := by decide +kernel
theorem dX3_copyFrom_27 : decode cX3_copyFrom 27 = .ok (.invokestatic 21, 3) := by decide +kernel
theorem dX3_copyFrom_30 : decode cX3_copyFrom 30 = .ok (.aload_n 1, 1) := by decide +kernel
theorem dX3_copyFrom_31 : decode cX3_copyFrom 31 = .ok (.getfield 18, 3) := by decide +kernel
theorem dX3_copyFrom_34 : decode cX3_copyFrom 34 = .ok (.iconst 0, 1) := by decide +kernel
theorem dX3_copyFrom_35 : decode cX3_copyFrom 35 = .ok (.aload_n 0, 1) := by decide +kernel
theorem dX3_copyFrom_36 : decode cX3_copyFrom 36 = .ok (.getfield 18, 3) := by decide +kernel
theorem dX3_copyFrom_39 : decode cX3_copyFrom 39 = .ok (.iconst 0, 1) := by decide +kernel
theorem dX3_copyFrom_40 : decode cX3_copyFrom 40 = .ok (.iconst 4, 1) := by decide +kernel
theorem dX3_copyFrom_41 : decode cX3_copyFrom 41 = .ok (.invokestatic 21, 3) := by decide +kernel
theorem dX3_copyFrom_44 : decode cX3_copyFrom 44 = .ok (.aload_n 0, 1) := by decide +kernel
theorem dX3_copyFrom_45 : decode cX3_copyFrom 45 = .ok (.aload_n 1, 1) := by decide +kernel
theorem dX3_copyFrom_46 : decode cX3_copyFrom 46 = .ok (.getfield 27, 3) := by decide +kernel
theorem dX3_copyFrom_49 : decode cX3_copyFrom 49 = .ok (.putfield 27, 3) := by decide +kernel
theorem dX3_copyFrom_52 : decode cX3_copyFrom 52 = .ok (.aload_n 0, 1) := by decide +kernel
theorem dX3_copyFrom_53 : decode cX3_copyFrom 53 = .ok (.aload_n 1, 1) := by decide +kernel
theorem dX3_copyFrom_54 : decode cX3_copyFrom 54 = .ok (.getfield 31, 3) := by decide +kernel
theorem dX3_copyFrom_57 : decode cX3_copyFrom 57 = .ok (.putfield 31, 3) := by decide +kernel
theorem dX3_copyFrom_60 : decode cX3_copyFrom 60 = .ok (.aload_n 0, 1) := by decide +kernel
theorem dX3_copyFrom_61 : decode cX3_copyFrom 61 = .ok (.aload_n 1, 1) := by decide +kernel
theorem dX3_copyFrom_62 : decode cX3_copyFrom 62 = .ok (.getfield 34, 3) := by decide +kernel
theorem dX3_copyFrom_65 : decode cX3_copyFrom 65 = .ok (.putfield 34, 3) := by decide +kernel
theorem dX3_copyFrom_68 : decode cX3_copyFrom 68 = .ok (.return_, 1) := by decide +kernel
theorem dX3_strength_0 : decode cX3_strength 0 = .ok (.aload_n 0, 1) := by decide +kernel
theorem dX3_strength_1 : decode cX3_strength 1 = .ok (.getfield 9, 3) := by decide +kernel
theorem dX3_strength_4 : decode cX3_strength 4 = .ok (.iload_n 1, 1) := by decide +kernel
theorem dX3_strength_5 : decode cX3_strength 5 = .ok (.iaload, 1) := by decide +kernel
theorem dX3_strength_6 : decode cX3_strength 6 = .ok (.iload_n 2, 1) := by decide +kernel
theorem dX3_strength_7 : decode cX3_strength 7 = .ok (.ishr, 1) := by decide +kernel
theorem dX3_strength_8 : decode cX3_strength 8 = .ok (.iconst 1, 1) := by decide +kernel
theorem dX3_strength_9 : decode cX3_strength 9 = .ok (.iand, 1) := by decide +kernel
theorem dX3_strength_10 : decode cX3_strength 10 = .ok (.iconst 2, 1) := by decide +kernel
theorem dX3_strength_11 : decode cX3_strength 11 = .ok (.aload_n 0, 1) := by decide +kernel
theorem dX3_strength_12 : decode cX3_strength 12 = .ok (.getfield 15, 3) := by decide +kernel
theorem dX3_strength_15 : decode cX3_strength 15 = .ok (.iload_n 1, 1) := by decide +kernel
theorem dX3_strength_16 : decode cX3_strength 16 = .ok (.iaload, 1) := by decide +kernel
theorem dX3_strength_17 : decode cX3_strength 17 = .ok (.iload_n 2, 1) := by decide +kernel
theorem dX3_strength_18 : decode cX3_strength 18 = .ok (.ishr, 1) := by decide +kernel
theorem dX3_strength_19 : decode cX3_strength 19 = .ok (.iconst 1, 1) := by decide +kernel
theorem dX3_strength_20 : decode cX3_strength 20 = .ok (.iand, 1) := by decide +kernel
theorem dX3_strength_21 : decode cX3_strength 21 = .ok (.imul, 1) := by decide +kernel
theorem dX3_strength_22 : decode cX3_strength 22 = .ok (.iadd, 1) := by decide +kernel
theorem dX3_strength_23 : decode cX3_strength 23 = .ok (.ireturn, 1) := by decide +kernel
theorem dX3_readAt_0 : decode cX3_readAt 0 = .ok (.iload_n 3, 1) := by decide +kernel
theorem dX3_readAt_1 : decode cX3_readAt 1 = .ok (.ifCond .eq 10, 3) := by decide +kernel
theorem dX3_readAt_4 : decode cX3_readAt 4 = .ok (.aload_n 0, 1) := by decide +kernel
theorem dX3_readAt_5 : decode cX3_readAt 5 = .ok (.getfield 15, 3) := by decide +kernel
theorem dX3_readAt_8 : decode cX3_readAt 8 = .ok (.iload_n 1, 1) := by decide +kernel
theorem dX3_readAt_9 : decode cX3_readAt 9 = .ok (.iaload, 1) := by decide +kernel
theorem dX3_readAt_10 : decode cX3_readAt 10 = .ok (.ireturn, 1) := by decide +kernel
theorem dX3_readAt_11 : decode cX3_readAt 11 = .ok (.iload_n 2, 1) := by decide +kernel
theorem dX3_readAt_12 : decode cX3_readAt 12 = .ok (.iload_n 1, 1) := by decide +kernel
theorem dX3_readAt_13 : decode cX3_readAt 13 = .ok (.iadd, 1) := by decide +kernel
theorem dX3_readAt_14 : decode cX3_readAt 14 = .ok (.iconst 3, 1) := by decide +kernel
theorem dX3_readAt_15 : decode cX3_readAt 15 = .ok (.irem, 1) := by decide +kernel
theorem dX3_readAt_16 : decode cX3_readAt 16 = .ok (.istore 4, 2) := by decide +kernel
theorem dX3_readAt_18 : decode cX3_readAt 18 = .ok (.ldc 37, 2) := by decide +kernel
theorem dX3_readAt_20 : decode cX3_readAt 20 = .ok (.iload 4, 2) := by decide +kernel
theorem dX3_readAt_22 : decode cX3_readAt 22 = .ok (.ishr, 1) := by decide +kernel
theorem dX3_readAt_23 : decode cX3_readAt 23 = .ok (.istore 5, 2) := by decide +kernel
theorem dX3_readAt_25 : decode cX3_readAt 25 = .ok (.ldc 38, 2) := by decide +kernel
theorem dX3_readAt_27 : decode cX3_readAt 27 = .ok (.iload 4, 2) := by decide +kernel
theorem dX3_readAt_29 : decode cX3_readAt 29 = .ok (.ishr, 1) := by decide +kernel
theorem dX3_readAt_30 : decode cX3_readAt 30 = .ok (.istore 6, 2) := by decide +kernel
theorem dX3_readAt_32 : decode cX3_readAt 32 = .ok (.ldc 39, 2) := by decide +kernel
theorem dX3_readAt_34 : decode cX3_readAt 34 = .ok (.iload 4, 2) := by decide +kernel
theorem dX3_readAt_36 : decode cX3_readAt 36 = .ok (.ishr, 1) := by decide +kernel
theorem dX3_readAt_37 : decode cX3_readAt 37 = .ok (.istore 7, 2) := by decide +kernel
theorem dX3_readAt_39 : decode cX3_readAt 39 = .ok (.aload_n 0, 1) := by decide +kernel
theorem dX3_readAt_40 : decode cX3_readAt 40 = .ok (.getfield 9, 3) := by decide +kernel
theorem dX3_readAt_43 : decode cX3_readAt 43 = .ok (.iload_n 1, 1) := by decide +kernel
theorem dX3_readAt_44 : decode cX3_readAt 44 = .ok (.iaload, 1) := by decide +kernel
theorem dX3_readAt_45 : decode cX3_readAt 45 = .ok (.aload_n 0, 1) := by decide +kernel
theorem dX3_readAt_46 : decode cX3_readAt 46 = .ok (.getfield 15, 3) := by decide +kernel
theorem dX3_readAt_49 : decode cX3_readAt 49 = .ok (.iload_n 1, 1) := by decide +kernel
theorem dX3_readAt_50 : decode cX3_readAt 50 = .ok (.iaload, 1) := by decide +kernel
theorem dX3_readAt_51 : decode cX3_readAt 51 = .ok (.ior, 1) := by decide +kernel
theorem dX3_readAt_52 : decode cX3_readAt 52 = .ok (.iload 5, 2) := by decide +kernel
theorem dX3_readAt_54 : decode cX3_readAt 54 = .ok (.iand, 1) := by decide +kernel
theorem dX3_readAt_55 : decode cX3_readAt 55 = .ok (.aload_n 0, 1) := by decide +kernel
theorem dX3_readAt_56 : decode cX3_readAt 56 = .ok (.getfield 15, 3) := by decide +kernel
theorem dX3_readAt_59 : decode cX3_readAt 59 = .ok (.iload_n 1, 1) := by decide +kernel
theorem dX3_readAt_60 : decode cX3_readAt 60 = .ok (.iaload, 1) := by decide +kernel
theorem dX3_readAt_61 : decode cX3_readAt 61 = .ok (.iload 6, 2) := by decide +kernel
theorem dX3_readAt_63 : decode cX3_readAt 63 = .ok (.iand, 1) := by decide +kernel
theorem dX3_readAt_64 : decode cX3_readAt 64 = .ok (.ior, 1) := by decide +kernel
theorem dX3_readAt_65 : decode cX3_readAt 65 = .ok (.aload_n 0, 1) := by decide +kernel
theorem dX3_readAt_66 : decode cX3_readAt 66 = .ok (.getfield 9, 3) := by decide +kernel
theorem dX3_readAt_69 : decode cX3_readAt 69 = .ok (.iload_n 1, 1) := by decide +kernel
theorem dX3_readAt_70 : decode cX3_readAt 70 = .ok (.iaload, 1) := by decide +kernel
theorem dX3_readAt_71 : decode cX3_readAt 71 = .ok (.aload_n 0, 1) := by decide +kernel
theorem dX3_readAt_72 : decode cX3_readAt 72 = .ok (.getfield 15, 3) := by decide +kernel
theorem dX3_readAt_75 : decode cX3_readAt 75 = .ok (.iload_n 1, 1) := by decide +kernel
theorem dX3_readAt_76 : decode cX3_readAt 76 = .ok (.iaload, 1) := by decide +kernel
theorem dX3_readAt_77 : decode cX3_readAt 77 = .ok (.iand, 1) := by decide +kernel
theorem dX3_readAt_78 : decode cX3_readAt 78 = .ok (.iload 7, 2) := by decide +kernel
theorem dX3_readAt_80 : decode cX3_readAt 80 = .ok (.iand, 1) := by decide +kernel
theorem dX3_readAt_81 : decode cX3_readAt 81 = .ok (.ior, 1) := by decide +kernel
theorem dX3_readAt_82 : decode cX3_readAt 82 = .ok (.ireturn, 1) := by decide +kernel
theorem dX3_readsThrice_0 : decode cX3_readsThrice 0 = .ok (.aload_n 0, 1) := by decide +kernel
theorem dX3_readsThrice_1 : decode cX3_readsThrice 1 = .ok (.getfield 18, 3) := by decide +kernel
theorem dX3_readsThrice_4 : decode cX3_readsThrice 4 = .ok (.iconst 0, 1) := by decide +kernel
theorem dX3_readsThrice_5 : decode cX3_readsThrice 5 = .ok (.iaload, 1) := by decide +kernel
theorem dX3_readsThrice_6 : decode cX3_readsThrice 6 = .ok (.iconst 1, 1) := by decide +kernel
theorem dX3_readsThrice_7 : decode cX3_readsThrice 7 = .ok (.if_icmp .ne 7, 3) := by decide +kernel
theorem dX3_readsThrice_10 : decode cX3_readsThrice 10 = .ok (.iconst 1, 1) := by decide +kernel
theorem dX3_readsThrice_11 : decode cX3_readsThrice 11 = .ok (.goto 4, 3) := by decide +kernel
theorem dX3_readsThrice_14 : decode cX3_readsThrice 14 = .ok (.iconst 0, 1) := by decide +kernel
theorem dX3_readsThrice_15 : decode cX3_readsThrice 15 = .ok (.ireturn, 1) := by decide +kernel
theorem dX3_read_0 : decode cX3_read 0 = .ok (.aload_n 0, 1) := by decide +kernel
theorem dX3_read_1 : decode cX3_read 1 = .ok (.iload_n 1, 1) := by decide +kernel
theorem dX3_read_2 : decode cX3_read 2 = .ok (.aload_n 0, 1) := by decide +kernel
theorem dX3_read_3 : decode cX3_read 3 = .ok (.getfield 27, 3) := by decide +kernel
theorem dX3_read_6 : decode cX3_read 6 = .ok (.aload_n 0, 1) := by decide +kernel
theorem dX3_read_7 : decode cX3_read 7 = .ok (.invokevirtual 40, 3) := by decide +kernel
theorem dX3_read_10 : decode cX3_read 10 = .ok (.invokevirtual 44, 3) := by decide +kernel
theorem dX3_read_13 : decode cX3_read 13 = .ok (.ireturn, 1) := by decide +kernel
theorem dX3_kind_0 : decode cX3_kind 0 = .ok (.aload_n 0, 1) := by decide +kernel
theorem dX3_kind_1 : decode cX3_kind 1 = .ok (.iload_n 1, 1) := by decide +kernel
theorem dX3_kind_2 : decode cX3_kind 2 = .ok (.invokevirtual 48, 3) := by decide +kernel
theorem dX3_kind_5 : decode cX3_kind 5 = .ok (.invokestatic 52, 3) := by decide +kernel
theorem dX3_kind_8 : decode cX3_kind 8 = .ok (.ireturn, 1) := by decide +kernel
theorem dX3_isLocked_0 : decode cX3_isLocked 0 = .ok (.aload_n 0, 1) := by decide +kernel
theorem dX3_isLocked_1 : decode cX3_isLocked 1 = .ok (.iload_n 1, 1) := by decide +kernel
theorem dX3_isLocked_2 : decode cX3_isLocked 2 = .ok (.aload_n 0, 1) := by decide +kernel
theorem dX3_isLocked_3 : decode cX3_isLocked 3 = .ok (.getfield 27, 3) := by decide +kernel
theorem dX3_isLocked_6 : decode cX3_isLocked 6 = .ok (.iconst 1, 1) := by decide +kernel
theorem dX3_isLocked_7 : decode cX3_isLocked 7 = .ok (.invokevirtual 44, 3) := by decide +kernel
theorem dX3_isLocked_10 : decode cX3_isLocked 10 = .ok (.bipush 15, 2) := by decide +kernel
theorem dX3_isLocked_12 : decode cX3_isLocked 12 = .ok (.ishr, 1) := by decide +kernel
theorem dX3_isLocked_13 : decode cX3_isLocked 13 = .ok (.iconst 1, 1) := by decide +kernel
theorem dX3_isLocked_14 : decode cX3_isLocked 14 = .ok (.iand, 1) := by decide +kernel
theorem dX3_isLocked_15 : decode cX3_isLocked 15 = .ok (.iconst 1, 1) := by decide +kernel
theorem dX3_isLocked_16 : decode cX3_isLocked 16 = .ok (.if_icmp .ne 7, 3) := by decide +kernel
theorem dX3_isLocked_19 : decode cX3_isLocked 19 = .ok (.iconst 1, 1) := by decide +kernel
theorem dX3_isLocked_20 : decode cX3_isLocked 20 = .ok (.goto 4, 3) := by decide +kernel
theorem dX3_isLocked_23 : decode cX3_isLocked 23 = .ok (.iconst 0, 1) := by decide +kernel
theorem dX3_isLocked_24 : decode cX3_isLocked 24 = .ok (.ireturn, 1) := by decide +kernel
theorem dX3_doubtfulFuses_0 : decode cX3_doubtfulFuses 0 = .ok (.aload_n 0, 1) := by decide +kernel
theorem dX3_doubtfulFuses_1 : decode cX3_doubtfulFuses 1 = .ok (.getfield 9, 3) := by decide +kernel
theorem dX3_doubtfulFuses_4 : decode cX3_doubtfulFuses 4 = .ok (.iload_n 1, 1) := by decide +kernel
theorem dX3_doubtfulFuses_5 : decode cX3_doubtfulFuses 5 = .ok (.iaload, 1) := by decide +kernel
theorem dX3_doubtfulFuses_6 : decode cX3_doubtfulFuses 6 = .ok (.aload_n 0, 1) := by decide +kernel
theorem dX3_doubtfulFuses_7 : decode cX3_doubtfulFuses 7 = .ok (.getfield 15, 3) := by decide +kernel
theorem dX3_doubtfulFuses_10 : decode cX3_doubtfulFuses 10 = .ok (.iload_n 1, 1) := by decide +kernel
theorem dX3_doubtfulFuses_11 : decode cX3_doubtfulFuses 11 = .ok (.iaload, 1) := by decide +kernel
theorem dX3_doubtfulFuses_12 : decode cX3_doubtfulFuses 12 = .ok (.ixor, 1) := by decide +kernel
theorem dX3_doubtfulFuses_13 : decode cX3_doubtfulFuses 13 = .ok (.invokestatic 57, 3) := by decide +kernel
theorem dX3_doubtfulFuses_16 : decode cX3_doubtfulFuses 16 = .ok (.ireturn, 1) := by decide +kernel
theorem dX3_strengthSum_0 : decode cX3_strengthSum 0 = .ok (.aload_n 0, 1) := by decide +kernel
theorem dX3_strengthSum_1 : decode cX3_strengthSum 1 = .ok (.getfield 9, 3) := by decide +kernel
theorem dX3_strengthSum_4 : decode cX3_strengthSum 4 = .ok (.iload_n 1, 1) := by decide +kernel
theorem dX3_strengthSum_5 : decode cX3_strengthSum 5 = .ok (.iaload, 1) := by decide +kernel
theorem dX3_strengthSum_6 : decode cX3_strengthSum 6 = .ok (.invokestatic 57, 3) := by decide +kernel
theorem dX3_strengthSum_9 : decode cX3_strengthSum 9 = .ok (.iconst 2, 1) := by decide +kernel
theorem dX3_strengthSum_10 : decode cX3_strengthSum 10 = .ok (.aload_n 0, 1) := by decide +kernel
theorem dX3_strengthSum_11 : decode cX3_strengthSum 11 = .ok (.getfield 15, 3) := by decide +kernel
theorem dX3_strengthSum_14 : decode cX3_strengthSum 14 = .ok (.iload_n 1, 1) := by decide +kernel
theorem dX3_strengthSum_15 : decode cX3_strengthSum 15 = .ok (.iaload, 1) := by decide +kernel
theorem dX3_strengthSum_16 : decode cX3_strengthSum 16 = .ok (.invokestatic 57, 3) := by decide +kernel
theorem dX3_strengthSum_19 : decode cX3_strengthSum 19 = .ok (.imul, 1) := by decide +kernel
theorem dX3_strengthSum_20 : decode cX3_strengthSum 20 = .ok (.iadd, 1) := by decide +kernel
theorem dX3_strengthSum_21 : decode cX3_strengthSum 21 = .ok (.ireturn, 1) := by decide +kernel
theorem dX3_allDoubtfulFuses_0 : decode cX3_allDoubtfulFuses 0 = .ok (.iconst 0, 1) := by decide +kernel
theorem dX3_allDoubtfulFuses_1 : decode cX3_allDoubtfulFuses 1 = .ok (.istore_n 1, 1) := by decide +kernel
theorem dX3_allDoubtfulFuses_2 : decode cX3_allDoubtfulFuses 2 = .ok (.iconst 0, 1) := by decide +kernel
theorem dX3_allDoubtfulFuses_3 : decode cX3_allDoubtfulFuses 3 = .ok (.istore_n 2, 1) := by decide +kernel
theorem dX3_allDoubtfulFuses_4 : decode cX3_allDoubtfulFuses 4 = .ok (.iload_n 2, 1) := by decide +kernel
theorem dX3_allDoubtfulFuses_5 : decode cX3_allDoubtfulFuses 5 = .ok (.bipush 20, 2) := by decide +kernel
theorem dX3_allDoubtfulFuses_7 : decode cX3_allDoubtfulFuses 7 = .ok (.if_icmp .ge 17, 3) := by decide +kernel
theorem dX3_allDoubtfulFuses_10 : decode cX3_allDoubtfulFuses 10 = .ok (.iload_n 1, 1) := by decide +kernel
theorem dX3_allDoubtfulFuses_11 : decode cX3_allDoubtfulFuses 11 = .ok (.aload_n 0, 1) := by decide +kernel
theorem dX3_allDoubtfulFuses_12 : decode cX3_allDoubtfulFuses 12 = .ok (.iload_n 2, 1) := by decide +kernel
theorem dX3_allDoubtfulFuses_13 : decode cX3_allDoubtfulFuses 13 = .ok (.invokevirtual 62, 3) := by decide +kernel
theorem dX3_allDoubtfulFuses_16 : decode cX3_allDoubtfulFuses 16 = .ok (.iadd, 1) := by decide +kernel
theorem dX3_allDoubtfulFuses_17 : decode cX3_allDoubtfulFuses 17 = .ok (.istore_n 1, 1) := by decide +kernel
theorem dX3_allDoubtfulFuses_18 : decode cX3_allDoubtfulFuses 18 = .ok (.iinc 2 1, 3) := by decide +kernel
theorem dX3_allDoubtfulFuses_21 : decode cX3_allDoubtfulFuses 21 = .ok (.goto (-17), 3) := by decide +kernel
theorem dX3_allDoubtfulFuses_24 : decode cX3_allDoubtfulFuses 24 = .ok (.iload_n 1, 1) := by decide +kernel
theorem dX3_allDoubtfulFuses_25 : decode cX3_allDoubtfulFuses 25 = .ok (.ireturn, 1) := by decide +kernel
theorem dX3_lockedRows_0 : decode cX3_lockedRows 0 = .ok (.iconst 0, 1) := by decide +kernel
theorem dX3_lockedRows_1 : decode cX3_lockedRows 1 = .ok (.istore_n 1, 1) := by decide +kernel
theorem dX3_lockedRows_2 : decode cX3_lockedRows 2 = .ok (.iconst 0, 1) := by decide +kernel
theorem dX3_lockedRows_3 : decode cX3_lockedRows 3 = .ok (.istore_n 2, 1) := by decide +kernel
theorem dX3_lockedRows_4 : decode cX3_lockedRows 4 = .ok (.iload_n 2, 1) := by decide +kernel
theorem dX3_lockedRows_5 : decode cX3_lockedRows 5 = .ok (.bipush 20, 2) := by decide +kernel
theorem dX3_lockedRows_7 : decode cX3_lockedRows 7 = .ok (.if_icmp .ge 25, 3) := by decide +kernel
theorem dX3_lockedRows_10 : decode cX3_lockedRows 10 = .ok (.iload_n 1, 1) := by decide +kernel
theorem dX3_lockedRows_11 : decode cX3_lockedRows 11 = .ok (.aload_n 0, 1) := by decide +kernel
theorem dX3_lockedRows_12 : decode cX3_lockedRows 12 = .ok (.iload_n 2, 1) := by decide +kernel
theorem dX3_lockedRows_13 : decode cX3_lockedRows 13 = .ok (.invokevirtual 65, 3) := by decide +kernel
theorem dX3_lockedRows_16 : decode cX3_lockedRows 16 = .ok (.ifCond .eq 7, 3) := by decide +kernel
theorem dX3_lockedRows_19 : decode cX3_lockedRows 19 = .ok (.iconst 1, 1) := by decide +kernel
theorem dX3_lockedRows_20 : decode cX3_lockedRows 20 = .ok (.goto 4, 3) := by decide +kernel
theorem dX3_lockedRows_23 : decode cX3_lockedRows 23 = .ok (.iconst 0, 1) := by decide +kernel
theorem dX3_lockedRows_24 : decode cX3_lockedRows 24 = .ok (.iadd, 1) := by decide +kernel
theorem dX3_lockedRows_25 : decode cX3_lockedRows 25 = .ok (.istore_n 1, 1) := by decide +kernel
theorem dX3_lockedRows_26 : decode cX3_lockedRows 26 = .ok (.iinc 2 1, 3) := by decide +kernel
theorem dX3_lockedRows_29 : decode cX3_lockedRows 29 = .ok (.goto (-25), 3) := by decide +kernel
theorem dX3_lockedRows_32 : decode cX3_lockedRows 32 = .ok (.iload_n 1, 1) := by decide +kernel
theorem dX3_lockedRows_33 : decode cX3_lockedRows 33 = .ok (.ireturn, 1) := by decide +kernel
theorem dX3_rowsOfKind_0 : decode cX3_rowsOfKind 0 = .ok (.iconst 0, 1) := by decide +kernel
theorem dX3_rowsOfKind_1 : decode cX3_rowsOfKind 1 = .ok (.istore_n 2, 1) := by decide +kernel
theorem dX3_rowsOfKind_2 : decode cX3_rowsOfKind 2 = .ok (.iconst 0, 1) := by decide +kernel
theorem dX3_rowsOfKind_3 : decode cX3_rowsOfKind 3 = .ok (.istore_n 3, 1) := by decide +kernel
theorem dX3_rowsOfKind_4 : decode cX3_rowsOfKind 4 = .ok (.iload_n 3, 1) := by decide +kernel
theorem dX3_rowsOfKind_5 : decode cX3_rowsOfKind 5 = .ok (.bipush 20, 2) := by decide +kernel
theorem dX3_rowsOfKind_7 : decode cX3_rowsOfKind 7 = .ok (.if_icmp .ge 26, 3) := by decide +kernel
theorem dX3_rowsOfKind_10 : decode cX3_rowsOfKind 10 = .ok (.iload_n 2, 1) := by decide +kernel
theorem dX3_rowsOfKind_11 : decode cX3_rowsOfKind 11 = .ok (.aload_n 0, 1) := by decide +kernel
theorem dX3_rowsOfKind_12 : decode cX3_rowsOfKind 12 = .ok (.iload_n 3, 1) := by decide +kernel
theorem dX3_rowsOfKind_13 : decode cX3_rowsOfKind 13 = .ok (.invokevirtual 69, 3) := by decide +kernel
theorem dX3_rowsOfKind_16 : decode cX3_rowsOfKind 16 = .ok (.iload_n 1, 1) := by decide +kernel
theorem dX3_rowsOfKind_17 : decode cX3_rowsOfKind 17 = .ok (.if_icmp .ne 7, 3) := by decide +kernel
theorem dX3_rowsOfKind_20 : decode cX3_rowsOfKind 20 = .ok (.iconst 1, 1) := by decide +kernel
theorem dX3_rowsOfKind_21 : decode cX3_rowsOfKind 21 = .ok (.goto 4, 3) := by decide +kernel
theorem dX3_rowsOfKind_24 : decode cX3_rowsOfKind 24 = .ok (.iconst 0, 1) := by decide +kernel
theorem dX3_rowsOfKind_25 : decode cX3_rowsOfKind 25 = .ok (.iadd, 1) := by decide +kernel
theorem dX3_rowsOfKind_26 : decode cX3_rowsOfKind 26 = .ok (.istore_n 2, 1) := by decide +kernel
theorem dX3_rowsOfKind_27 : decode cX3_rowsOfKind 27 = .ok (.iinc 3 1, 3) := by decide +kernel
theorem dX3_rowsOfKind_30 : decode cX3_rowsOfKind 30 = .ok (.goto (-26), 3) := by decide +kernel
theorem dX3_rowsOfKind_33 : decode cX3_rowsOfKind 33 = .ok (.iload_n 2, 1) := by decide +kernel
theorem dX3_rowsOfKind_34 : decode cX3_rowsOfKind 34 = .ok (.ireturn, 1) := by decide +kernel
theorem dX3_nextRow_0 : decode cX3_nextRow 0 = .ok (.bipush 20, 2) := by decide +kernel
theorem dX3_nextRow_2 : decode cX3_nextRow 2 = .ok (.istore_n 1, 1) := by decide +kernel
theorem dX3_nextRow_3 : decode cX3_nextRow 3 = .ok (.iload_n 1, 1) := by decide +kernel
theorem dX3_nextRow_4 : decode cX3_nextRow 4 = .ok (.ifCond .le 19, 3) := by decide +kernel
theorem dX3_nextRow_7 : decode cX3_nextRow 7 = .ok (.aload_n 0, 1) := by decide +kernel
theorem dX3_nextRow_8 : decode cX3_nextRow 8 = .ok (.iload_n 1, 1) := by decide +kernel
theorem dX3_nextRow_9 : decode cX3_nextRow 9 = .ok (.iconst 1, 1) := by decide +kernel
theorem dX3_nextRow_10 : decode cX3_nextRow 10 = .ok (.isub, 1) := by decide +kernel
theorem dX3_nextRow_11 : decode cX3_nextRow 11 = .ok (.invokevirtual 69, 3) := by decide +kernel
theorem dX3_nextRow_14 : decode cX3_nextRow 14 = .ok (.ifCond .ne 9, 3) := by decide +kernel
theorem dX3_nextRow_17 : decode cX3_nextRow 17 = .ok (.iinc 1 (-1), 3) := by decide +kernel
theorem dX3_nextRow_20 : decode cX3_nextRow 20 = .ok (.goto (-17), 3) := by decide +kernel
theorem dX3_nextRow_23 : decode cX3_nextRow 23 = .ok (.iload_n 1, 1) := by decide +kernel
theorem dX3_nextRow_24 : decode cX3_nextRow 24 = .ok (.bipush 20, 2) := by decide +kernel
theorem dX3_nextRow_26 : decode cX3_nextRow 26 = .ok (.if_icmp .eq 11, 3) := by decide +kernel
theorem dX3_nextRow_29 : decode cX3_nextRow 29 = .ok (.aload_n 0, 1) := by decide +kernel
theorem dX3_nextRow_30 : decode cX3_nextRow 30 = .ok (.iload_n 1, 1) := by decide +kernel
theorem dX3_nextRow_31 : decode cX3_nextRow 31 = .ok (.invokevirtual 65, 3) := by decide +kernel
theorem dX3_nextRow_34 : decode cX3_nextRow 34 = .ok (.ifCond .eq 7, 3) := by decide +kernel
theorem dX3_nextRow_37 : decode cX3_nextRow 37 = .ok (.iconst (-1), 1) := by decide +kernel
theorem dX3_nextRow_38 : decode cX3_nextRow 38 = .ok (.goto 4, 3) := by decide +kernel
theorem dX3_nextRow_41 : decode cX3_nextRow 41 = .ok (.iload_n 1, 1) := by decide +kernel
theorem dX3_nextRow_42 : decode cX3_nextRow 42 = .ok (.ireturn, 1) := by decide +kernel
theorem dX3_isRowOf_0 : decode cX3_isRowOf 0 = .ok (.aload_n 0, 1) := by decide +kernel
theorem dX3_isRowOf_1 : decode cX3_isRowOf 1 = .ok (.iload_n 1, 1) := by decide +kernel
theorem dX3_isRowOf_2 : decode cX3_isRowOf 2 = .ok (.invokevirtual 48, 3) := by decide +kernel
theorem dX3_isRowOf_5 : decode cX3_isRowOf 5 = .ok (.istore_n 3, 1) := by decide +kernel
theorem dX3_isRowOf_6 : decode cX3_isRowOf 6 = .ok (.iload_n 3, 1) := by decide +kernel
theorem dX3_isRowOf_7 : decode cX3_isRowOf 7 = .ok (.invokestatic 52, 3) := by decide +kernel
theorem dX3_isRowOf_10 : decode cX3_isRowOf 10 = .ok (.istore 4, 2) := by decide +kernel
theorem dX3_isRowOf_12 : decode cX3_isRowOf 12 = .ok (.iload 4, 2) := by decide +kernel
theorem dX3_isRowOf_14 : decode cX3_isRowOf 14 = .ok (.iconst 4, 1) := by decide +kernel
theorem dX3_isRowOf_15 : decode cX3_isRowOf 15 = .ok (.if_icmp .eq 9, 3) := by decide +kernel
theorem dX3_isRowOf_18 : decode cX3_isRowOf 18 = .ok (.iload 4, 2) := by decide +kernel
theorem dX3_isRowOf_20 : decode cX3_isRowOf 20 = .ok (.iconst 2, 1) := by decide +kernel
theorem dX3_isRowOf_21 : decode cX3_isRowOf 21 = .ok (.if_icmp .ne 15, 3) := by decide +kernel
theorem dX3_isRowOf_24 : decode cX3_isRowOf 24 = .ok (.iload_n 3, 1) := by decide +kernel
theorem dX3_isRowOf_25 : decode cX3_isRowOf 25 = .ok (.invokestatic 72, 3) := by decide +kernel
theorem dX3_isRowOf_28 : decode cX3_isRowOf 28 = .ok (.iload_n 2, 1) := by decide +kernel
theorem dX3_isRowOf_29 : decode cX3_isRowOf 29 = .ok (.if_icmp .ne 7, 3) := by decide +kernel
theorem dX3_isRowOf_32 : decode cX3_isRowOf 32 = .ok (.iconst 1, 1) := by decide +kernel
theorem dX3_isRowOf_33 : decode cX3_isRowOf 33 = .ok (.goto 4, 3) := by decide +kernel
theorem dX3_isRowOf_36 : decode cX3_isRowOf 36 = .ok (.iconst 0, 1) := by decide +kernel
theorem dX3_isRowOf_37 : decode cX3_isRowOf 37 = .ok (.ireturn, 1) := by decide +kernel
theorem dX3_entryRow_0 : decode cX3_entryRow 0 = .ok (.bipush 19, 2) := by decide +kernel
theorem dX3_entryRow_2 : decode cX3_entryRow 2 = .ok (.istore 4, 2) := by decide +kernel
theorem dX3_entryRow_4 : decode cX3_entryRow 4 = .ok (.iload 4, 2) := by decide +kernel
theorem dX3_entryRow_6 : decode cX3_entryRow 6 = .ok (.ifCond .lt 40, 3) := by decide +kernel
theorem dX3_entryRow_9 : decode cX3_entryRow 9 = .ok (.aload_n 0, 1) := by decide +kernel
theorem dX3_entryRow_10 : decode cX3_entryRow 10 = .ok (.iload 4, 2) := by decide +kernel
theorem dX3_entryRow_12 : decode cX3_entryRow 12 = .ok (.iload_n 2, 1) := by decide +kernel
theorem dX3_entryRow_13 : decode cX3_entryRow 13 = .ok (.iload_n 3, 1) := by decide +kernel
theorem dX3_entryRow_14 : decode cX3_entryRow 14 = .ok (.invokevirtual 44, 3) := by decide +kernel
theorem dX3_entryRow_17 : decode cX3_entryRow 17 = .ok (.istore 5, 2) := by decide +kernel
theorem dX3_entryRow_19 : decode cX3_entryRow 19 = .ok (.iload 5, 2) := by decide +kernel
theorem dX3_entryRow_21 : decode cX3_entryRow 21 = .ok (.invokestatic 72, 3) := by decide +kernel
theorem dX3_entryRow_24 : decode cX3_entryRow 24 = .ok (.iload_n 1, 1) := by decide +kernel
theorem dX3_entryRow_25 : decode cX3_entryRow 25 = .ok (.if_icmp .ne 15, 3) := by decide +kernel
theorem dX3_entryRow_28 : decode cX3_entryRow 28 = .ok (.iload 5, 2) := by decide +kernel
theorem dX3_entryRow_30 : decode cX3_entryRow 30 = .ok (.invokestatic 52, 3) := by decide +kernel
theorem dX3_entryRow_33 : decode cX3_entryRow 33 = .ok (.iconst 4, 1) := by decide +kernel
theorem dX3_entryRow_34 : decode cX3_entryRow 34 = .ok (.if_icmp .ne 6, 3) := by decide +kernel
theorem dX3_entryRow_37 : decode cX3_entryRow 37 = .ok (.iload 4, 2) := by decide +kernel
theorem dX3_entryRow_39 : decode cX3_entryRow 39 = .ok (.ireturn, 1) := by decide +kernel
theorem dX3_entryRow_40 : decode cX3_entryRow 40 = .ok (.iinc 4 (-1), 3) := by decide +kernel
theorem dX3_entryRow_43 : decode cX3_entryRow 43 = .ok (.goto (-39), 3) := by decide +kernel
theorem dX3_entryRow_46 : decode cX3_entryRow 46 = .ok (.iconst (-1), 1) := by decide +kernel
theorem dX3_entryRow_47 : decode cX3_entryRow 47 = .ok (.ireturn, 1) := by decide +kernel
theorem dX3_valueAt_0 : decode cX3_valueAt 0 = .ok (.aload_n 0, 1) := by decide +kernel
theorem dX3_valueAt_1 : decode cX3_valueAt 1 = .ok (.iload_n 1, 1) := by decide +kernel
theorem dX3_valueAt_2 : decode cX3_valueAt 2 = .ok (.iload_n 2, 1) := by decide +kernel
theorem dX3_valueAt_3 : decode cX3_valueAt 3 = .ok (.iload_n 3, 1) := by decide +kernel
theorem dX3_valueAt_4 : decode cX3_valueAt 4 = .ok (.invokevirtual 75, 3) := by decide +kernel
theorem dX3_valueAt_7 : decode cX3_valueAt 7 = .ok (.istore 4, 2) := by decide +kernel
theorem dX3_valueAt_9 : decode cX3_valueAt 9 = .ok (.iload 4, 2) := by decide +kernel
theorem dX3_valueAt_11 : decode cX3_valueAt 11 = .ok (.iconst (-1), 1) := by decide +kernel
theorem dX3_valueAt_12 : decode cX3_valueAt 12 = .ok (.if_icmp .ne 7, 3) := by decide +kernel
theorem dX3_valueAt_15 : decode cX3_valueAt 15 = .ok (.iconst (-1), 1) := by decide +kernel
theorem dX3_valueAt_16 : decode cX3_valueAt 16 = .ok (.goto 14, 3) := by decide +kernel
theorem dX3_valueAt_19 : decode cX3_valueAt 19 = .ok (.aload_n 0, 1) := by decide +kernel
theorem dX3_valueAt_20 : decode cX3_valueAt 20 = .ok (.iload 4, 2) := by decide +kernel
theorem dX3_valueAt_22 : decode cX3_valueAt 22 = .ok (.iload_n 2, 1) := by decide +kernel
theorem dX3_valueAt_23 : decode cX3_valueAt 23 = .ok (.iload_n 3, 1) := by decide +kernel
theorem dX3_valueAt_24 : decode cX3_valueAt 24 = .ok (.invokevirtual 44, 3) := by decide +kernel
theorem dX3_valueAt_27 : decode cX3_valueAt 27 = .ok (.invokestatic 78, 3) := by decide +kernel
theorem dX3_valueAt_30 : decode cX3_valueAt 30 = .ok (.ireturn, 1) := by decide +kernel
theorem dX3_valueOfKey_0 : decode cX3_valueOfKey 0 = .ok (.aload_n 0, 1) := by decide +kernel
theorem dX3_valueOfKey_1 : decode cX3_valueOfKey 1 = .ok (.iload_n 1, 1) := by decide +kernel
theorem dX3_valueOfKey_2 : decode cX3_valueOfKey 2 = .ok (.aload_n 0, 1) := by decide +kernel
theorem dX3_valueOfKey_3 : decode cX3_valueOfKey 3 = .ok (.getfield 27, 3) := by decide +kernel
theorem dX3_valueOfKey_6 : decode cX3_valueOfKey 6 = .ok (.aload_n 0, 1) := by decide +kernel
theorem dX3_valueOfKey_7 : decode cX3_valueOfKey 7 = .ok (.invokevirtual 40, 3) := by decide +kernel
theorem dX3_valueOfKey_10 : decode cX3_valueOfKey 10 = .ok (.invokevirtual 81, 3) := by decide +kernel
theorem dX3_valueOfKey_13 : decode cX3_valueOfKey 13 = .ok (.ireturn, 1) := by decide +kernel
theorem dX3_keysWithValue_0 : decode cX3_keysWithValue 0 = .ok (.iconst 0, 1) := by decide +kernel
theorem dX3_keysWithValue_1 : decode cX3_keysWithValue 1 = .ok (.istore_n 1, 1) := by decide +kernel
theorem dX3_keysWithValue_2 : decode cX3_keysWithValue 2 = .ok (.iconst 0, 1) := by decide +kernel
theorem dX3_keysWithValue_3 : decode cX3_keysWithValue 3 = .ok (.istore_n 2, 1) := by decide +kernel
theorem dX3_keysWithValue_4 : decode cX3_keysWithValue 4 = .ok (.iload_n 2, 1) := by decide +kernel
theorem dX3_keysWithValue_5 : decode cX3_keysWithValue 5 = .ok (.bipush 16, 2) := by decide +kernel
theorem dX3_keysWithValue_7 : decode cX3_keysWithValue 7 = .ok (.if_icmp .ge 34, 3) := by decide +kernel
theorem dX3_keysWithValue_10 : decode cX3_keysWithValue 10 = .ok (.iload_n 1, 1) := by decide +kernel
theorem dX3_keysWithValue_11 : decode cX3_keysWithValue 11 = .ok (.aload_n 0, 1) := by decide +kernel
theorem dX3_keysWithValue_12 : decode cX3_keysWithValue 12 = .ok (.iload_n 2, 1) := by decide +kernel
theorem dX3_keysWithValue_13 : decode cX3_keysWithValue 13 = .ok (.aload_n 0, 1) := by decide +kernel
theorem dX3_keysWithValue_14 : decode cX3_keysWithValue 14 = .ok (.getfield 27, 3) := by decide +kernel
theorem dX3_keysWithValue_17 : decode cX3_keysWithValue 17 = .ok (.aload_n 0, 1) := by decide +kernel
theorem dX3_keysWithValue_18 : decode cX3_keysWithValue 18 = .ok (.invokevirtual 40, 3) := by decide +kernel
theorem dX3_keysWithValue_21 : decode cX3_keysWithValue 21 = .ok (.invokevirtual 75, 3) := by decide +kernel
theorem dX3_keysWithValue_24 : decode cX3_keysWithValue 24 = .ok (.iconst (-1), 1) := by decide +kernel
theorem dX3_keysWithValue_25 : decode cX3_keysWithValue 25 = .ok (.if_icmp .eq 7, 3) := by decide +kernel
theorem dX3_keysWithValue_28 : decode cX3_keysWithValue 28 = .ok (.iconst 1, 1) := by decide +kernel
theorem dX3_keysWithValue_29 : decode cX3_keysWithValue 29 = .ok (.goto 4, 3) := by decide +kernel
theorem dX3_keysWithValue_32 : decode cX3_keysWithValue 32 = .ok (.iconst 0, 1) := by decide +kernel
theorem dX3_keysWithValue_33 : decode cX3_keysWithValue 33 = .ok (.iadd, 1) := by decide +kernel
theorem dX3_keysWithValue_34 : decode cX3_keysWithValue 34 = .ok (.istore_n 1, 1) := by decide +kernel
theorem dX3_keysWithValue_35 : decode cX3_keysWithValue 35 = .ok (.iinc 2 1, 3) := by decide +kernel
theorem dX3_keysWithValue_38 : decode cX3_keysWithValue 38 = .ok (.goto (-34), 3) := by decide +kernel
theorem dX3_keysWithValue_41 : decode cX3_keysWithValue 41 = .ok (.iload_n 1, 1) := by decide +kernel
theorem dX3_keysWithValue_42 : decode cX3_keysWithValue 42 = .ok (.ireturn, 1) := by decide +kernel
theorem dX3_entriesOf_0 : decode cX3_entriesOf 0 = .ok (.iconst 0, 1) := by decide +kernel
theorem dX3_entriesOf_1 : decode cX3_entriesOf 1 = .ok (.istore_n 2, 1) := by decide +kernel
theorem dX3_entriesOf_2 : decode cX3_entriesOf 2 = .ok (.iconst 0, 1) := by decide +kernel
theorem dX3_entriesOf_3 : decode cX3_entriesOf 3 = .ok (.istore_n 3, 1) := by decide +kernel
theorem dX3_entriesOf_4 : decode cX3_entriesOf 4 = .ok (.iload_n 3, 1) := by decide +kernel
theorem dX3_entriesOf_5 : decode cX3_entriesOf 5 = .ok (.bipush 20, 2) := by decide +kernel
theorem dX3_entriesOf_7 : decode cX3_entriesOf 7 = .ok (.if_icmp .ge 42, 3) := by decide +kernel
theorem dX3_entriesOf_10 : decode cX3_entriesOf 10 = .ok (.aload_n 0, 1) := by decide +kernel
theorem dX3_entriesOf_11 : decode cX3_entriesOf 11 = .ok (.iload_n 3, 1) := by decide +kernel
theorem dX3_entriesOf_12 : decode cX3_entriesOf 12 = .ok (.invokevirtual 48, 3) := by decide +kernel
theorem dX3_entriesOf_15 : decode cX3_entriesOf 15 = .ok (.istore 4, 2) := by decide +kernel
theorem dX3_entriesOf_17 : decode cX3_entriesOf 17 = .ok (.iload_n 2, 1) := by decide +kernel
theorem dX3_entriesOf_18 : decode cX3_entriesOf 18 = .ok (.iload 4, 2) := by decide +kernel
theorem dX3_entriesOf_20 : decode cX3_entriesOf 20 = .ok (.invokestatic 72, 3) := by decide +kernel
theorem dX3_entriesOf_23 : decode cX3_entriesOf 23 = .ok (.iload_n 1, 1) := by decide +kernel
theorem dX3_entriesOf_24 : decode cX3_entriesOf 24 = .ok (.if_icmp .ne 16, 3) := by decide +kernel
theorem dX3_entriesOf_27 : decode cX3_entriesOf 27 = .ok (.iload 4, 2) := by decide +kernel
theorem dX3_entriesOf_29 : decode cX3_entriesOf 29 = .ok (.invokestatic 52, 3) := by decide +kernel
theorem dX3_entriesOf_32 : decode cX3_entriesOf 32 = .ok (.iconst 4, 1) := by decide +kernel
theorem dX3_entriesOf_33 : decode cX3_entriesOf 33 = .ok (.if_icmp .ne 7, 3) := by decide +kernel
theorem dX3_entriesOf_36 : decode cX3_entriesOf 36 = .ok (.iconst 1, 1) := by decide +kernel
theorem dX3_entriesOf_37 : decode cX3_entriesOf 37 = .ok (.goto 4, 3) := by decide +kernel
theorem dX3_entriesOf_40 : decode cX3_entriesOf 40 = .ok (.iconst 0, 1) := by decide +kernel
theorem dX3_entriesOf_41 : decode cX3_entriesOf 41 = .ok (.iadd, 1) := by decide +kernel
theorem dX3_entriesOf_42 : decode cX3_entriesOf 42 = .ok (.istore_n 2, 1) := by decide +kernel
theorem dX3_entriesOf_43 : decode cX3_entriesOf 43 = .ok (.iinc 3 1, 3) := by decide +kernel
theorem dX3_entriesOf_46 : decode cX3_entriesOf 46 = .ok (.goto (-42), 3) := by decide +kernel
theorem dX3_entriesOf_49 : decode cX3_entriesOf 49 = .ok (.iload_n 2, 1) := by decide +kernel
theorem dX3_entriesOf_50 : decode cX3_entriesOf 50 = .ok (.ireturn, 1) := by decide +kernel
theorem dX3_rowsOf_0 : decode cX3_rowsOf 0 = .ok (.iconst 0, 1) := by decide +kernel
theorem dX3_rowsOf_1 : decode cX3_rowsOf 1 = .ok (.istore_n 2, 1) := by decide +kernel
theorem dX3_rowsOf_2 : decode cX3_rowsOf 2 = .ok (.iconst 0, 1) := by decide +kernel
theorem dX3_rowsOf_3 : decode cX3_rowsOf 3 = .ok (.istore_n 3, 1) := by decide +kernel
theorem dX3_rowsOf_4 : decode cX3_rowsOf 4 = .ok (.iload_n 3, 1) := by decide +kernel
theorem dX3_rowsOf_5 : decode cX3_rowsOf 5 = .ok (.bipush 20, 2) := by decide +kernel
theorem dX3_rowsOf_7 : decode cX3_rowsOf 7 = .ok (.if_icmp .ge 26, 3) := by decide +kernel
theorem dX3_rowsOf_10 : decode cX3_rowsOf 10 = .ok (.iload_n 2, 1) := by decide +kernel
theorem dX3_rowsOf_11 : decode cX3_rowsOf 11 = .ok (.aload_n 0, 1) := by decide +kernel
theorem dX3_rowsOf_12 : decode cX3_rowsOf 12 = .ok (.iload_n 3, 1) := by decide +kernel
theorem dX3_rowsOf_13 : decode cX3_rowsOf 13 = .ok (.iload_n 1, 1) := by decide +kernel
theorem dX3_rowsOf_14 : decode cX3_rowsOf 14 = .ok (.invokevirtual 84, 3) := by decide +kernel
theorem dX3_rowsOf_17 : decode cX3_rowsOf 17 = .ok (.ifCond .eq 7, 3) := by decide +kernel
theorem dX3_rowsOf_20 : decode cX3_rowsOf 20 = .ok (.iconst 1, 1) := by decide +kernel
theorem dX3_rowsOf_21 : decode cX3_rowsOf 21 = .ok (.goto 4, 3) := by decide +kernel
theorem dX3_rowsOf_24 : decode cX3_rowsOf 24 = .ok (.iconst 0, 1) := by decide +kernel
theorem dX3_rowsOf_25 : decode cX3_rowsOf 25 = .ok (.iadd, 1) := by decide +kernel
theorem dX3_rowsOf_26 : decode cX3_rowsOf 26 = .ok (.istore_n 2, 1) := by decide +kernel
theorem dX3_rowsOf_27 : decode cX3_rowsOf 27 = .ok (.iinc 3 1, 3) := by decide +kernel
theorem dX3_rowsOf_30 : decode cX3_rowsOf 30 = .ok (.goto (-26), 3) := by decide +kernel
theorem dX3_rowsOf_33 : decode cX3_rowsOf 33 = .ok (.iload_n 2, 1) := by decide +kernel
theorem dX3_rowsOf_34 : decode cX3_rowsOf 34 = .ok (.ireturn, 1) := by decide +kernel
theorem dX3_greatestValue_0 : decode cX3_greatestValue 0 = .ok (.iconst (-1), 1) := by decide +kernel
theorem dX3_greatestValue_1 : decode cX3_greatestValue 1 = .ok (.istore_n 2, 1) := by decide +kernel
theorem dX3_greatestValue_2 : decode cX3_greatestValue 2 = .ok (.iconst 0, 1) := by decide +kernel
theorem dX3_greatestValue_3 : decode cX3_greatestValue 3 = .ok (.istore_n 3, 1) := by decide +kernel
theorem dX3_greatestValue_4 : decode cX3_greatestValue 4 = .ok (.iload_n 3, 1) := by decide +kernel
theorem dX3_greatestValue_5 : decode cX3_greatestValue 5 = .ok (.bipush 20, 2) := by decide +kernel
theorem dX3_greatestValue_7 : decode cX3_greatestValue 7 = .ok (.if_icmp .ge 31, 3) := by decide +kernel
theorem dX3_greatestValue_10 : decode cX3_greatestValue 10 = .ok (.aload_n 0, 1) := by decide +kernel
theorem dX3_greatestValue_11 : decode cX3_greatestValue 11 = .ok (.iload_n 3, 1) := by decide +kernel
theorem dX3_greatestValue_12 : decode cX3_greatestValue 12 = .ok (.iload_n 1, 1) := by decide +kernel
theorem dX3_greatestValue_13 : decode cX3_greatestValue 13 = .ok (.invokevirtual 84, 3) := by decide +kernel
theorem dX3_greatestValue_16 : decode cX3_greatestValue 16 = .ok (.ifCond .eq 16, 3) := by decide +kernel
theorem dX3_greatestValue_19 : decode cX3_greatestValue 19 = .ok (.iload_n 2, 1) := by decide +kernel
theorem dX3_greatestValue_20 : decode cX3_greatestValue 20 = .ok (.aload_n 0, 1) := by decide +kernel
theorem dX3_greatestValue_21 : decode cX3_greatestValue 21 = .ok (.iload_n 3, 1) := by decide +kernel
theorem dX3_greatestValue_22 : decode cX3_greatestValue 22 = .ok (.invokevirtual 48, 3) := by decide +kernel
theorem dX3_greatestValue_25 : decode cX3_greatestValue 25 = .ok (.invokestatic 78, 3) := by decide +kernel
theorem dX3_greatestValue_28 : decode cX3_greatestValue 28 = .ok (.invokestatic 88, 3) := by decide +kernel
theorem dX3_greatestValue_31 : decode cX3_greatestValue 31 = .ok (.istore_n 2, 1) := by decide +kernel
theorem dX3_greatestValue_32 : decode cX3_greatestValue 32 = .ok (.iinc 3 1, 3) := by decide +kernel
theorem dX3_greatestValue_35 : decode cX3_greatestValue 35 = .ok (.goto (-31), 3) := by decide +kernel
theorem dX3_greatestValue_38 : decode cX3_greatestValue 38 = .ok (.iload_n 2, 1) := by decide +kernel
theorem dX3_greatestValue_39 : decode cX3_greatestValue 39 = .ok (.ireturn, 1) := by decide +kernel
theorem dX3_earlierValue_0 : decode cX3_earlierValue 0 = .ok (.iload_n 2, 1) := by decide +kernel
theorem dX3_earlierValue_1 : decode cX3_earlierValue 1 = .ok (.istore_n 3, 1) := by decide +kernel
theorem dX3_earlierValue_2 : decode cX3_earlierValue 2 = .ok (.bipush 19, 2) := by decide +kernel
theorem dX3_earlierValue_4 : decode cX3_earlierValue 4 = .ok (.istore 4, 2) := by decide +kernel
theorem dX3_earlierValue_6 : decode cX3_earlierValue 6 = .ok (.iload 4, 2) := by decide +kernel
theorem dX3_earlierValue_8 : decode cX3_earlierValue 8 = .ok (.ifCond .lt 36, 3) := by decide +kernel
theorem dX3_earlierValue_11 : decode cX3_earlierValue 11 = .ok (.aload_n 0, 1) := by decide +kernel
theorem dX3_earlierValue_12 : decode cX3_earlierValue 12 = .ok (.iload 4, 2) := by decide +kernel
theorem dX3_earlierValue_14 : decode cX3_earlierValue 14 = .ok (.iload_n 1, 1) := by decide +kernel
theorem dX3_earlierValue_15 : decode cX3_earlierValue 15 = .ok (.invokevirtual 84, 3) := by decide +kernel
theorem dX3_earlierValue_18 : decode cX3_earlierValue 18 = .ok (.ifCond .eq 20, 3) := by decide +kernel
theorem dX3_earlierValue_21 : decode cX3_earlierValue 21 = .ok (.iload_n 3, 1) := by decide +kernel
theorem dX3_earlierValue_22 : decode cX3_earlierValue 22 = .ok (.ifCond .ne 13, 3) := by decide +kernel
theorem dX3_earlierValue_25 : decode cX3_earlierValue 25 = .ok (.aload_n 0, 1) := by decide +kernel
theorem dX3_earlierValue_26 : decode cX3_earlierValue 26 = .ok (.iload 4, 2) := by decide +kernel
theorem dX3_earlierValue_28 : decode cX3_earlierValue 28 = .ok (.invokevirtual 48, 3) := by decide +kernel
theorem dX3_earlierValue_31 : decode cX3_earlierValue 31 = .ok (.invokestatic 78, 3) := by decide +kernel
theorem dX3_earlierValue_34 : decode cX3_earlierValue 34 = .ok (.ireturn, 1) := by decide +kernel
theorem dX3_earlierValue_35 : decode cX3_earlierValue 35 = .ok (.iinc 3 (-1), 3) := by decide +kernel
theorem dX3_earlierValue_38 : decode cX3_earlierValue 38 = .ok (.iinc 4 (-1), 3) := by decide +kernel
theorem dX3_earlierValue_41 : decode cX3_earlierValue 41 = .ok (.goto (-35), 3) := by decide +kernel
theorem dX3_earlierValue_44 : decode cX3_earlierValue 44 = .ok (.iconst (-1), 1) := by decide +kernel
theorem dX3_earlierValue_45 : decode cX3_earlierValue 45 = .ok (.ireturn, 1) := by decide +kernel
theorem dX3_steadyReadings_0 : decode cX3_steadyReadings 0 = .ok (.aload_n 0, 1) := by decide +kernel
theorem dX3_steadyReadings_1 : decode cX3_steadyReadings 1 = .ok (.iload_n 1, 1) := by decide +kernel
theorem dX3_steadyReadings_2 : decode cX3_steadyReadings 2 = .ok (.aload_n 0, 1) := by decide +kernel
theorem dX3_steadyReadings_3 : decode cX3_steadyReadings 3 = .ok (.getfield 27, 3) := by decide +kernel
theorem dX3_steadyReadings_6 : decode cX3_steadyReadings 6 = .ok (.iconst 1, 1) := by decide +kernel
theorem dX3_steadyReadings_7 : decode cX3_steadyReadings 7 = .ok (.invokevirtual 81, 3) := by decide +kernel
theorem dX3_steadyReadings_10 : decode cX3_steadyReadings 10 = .ok (.istore_n 2, 1) := by decide +kernel
theorem dX3_steadyReadings_11 : decode cX3_steadyReadings 11 = .ok (.iconst 0, 1) := by decide +kernel
theorem dX3_steadyReadings_12 : decode cX3_steadyReadings 12 = .ok (.istore_n 3, 1) := by decide +kernel
theorem dX3_steadyReadings_13 : decode cX3_steadyReadings 13 = .ok (.iconst 0, 1) := by decide +kernel
theorem dX3_steadyReadings_14 : decode cX3_steadyReadings 14 = .ok (.istore 4, 2) := by decide +kernel
theorem dX3_steadyReadings_16 : decode cX3_steadyReadings 16 = .ok (.iload 4, 2) := by decide +kernel
theorem dX3_steadyReadings_18 : decode cX3_steadyReadings 18 = .ok (.iconst 3, 1) := by decide +kernel
theorem dX3_steadyReadings_19 : decode cX3_steadyReadings 19 = .ok (.if_icmp .ge 34, 3) := by decide +kernel
theorem dX3_steadyReadings_22 : decode cX3_steadyReadings 22 = .ok (.iload_n 3, 1) := by decide +kernel
theorem dX3_steadyReadings_23 : decode cX3_steadyReadings 23 = .ok (.aload_n 0, 1) := by decide +kernel
theorem dX3_steadyReadings_24 : decode cX3_steadyReadings 24 = .ok (.iload_n 1, 1) := by decide +kernel
theorem dX3_steadyReadings_25 : decode cX3_steadyReadings 25 = .ok (.aload_n 0, 1) := by decide +kernel
theorem dX3_steadyReadings_26 : decode cX3_steadyReadings 26 = .ok (.getfield 27, 3) := by decide +kernel
theorem dX3_steadyReadings_29 : decode cX3_steadyReadings 29 = .ok (.iload 4, 2) := by decide +kernel
theorem dX3_steadyReadings_31 : decode cX3_steadyReadings 31 = .ok (.iadd, 1) := by decide +kernel
theorem dX3_steadyReadings_32 : decode cX3_steadyReadings 32 = .ok (.iconst 0, 1) := by decide +kernel
theorem dX3_steadyReadings_33 : decode cX3_steadyReadings 33 = .ok (.invokevirtual 81, 3) := by decide +kernel
theorem dX3_steadyReadings_36 : decode cX3_steadyReadings 36 = .ok (.iload_n 2, 1) := by decide +kernel
theorem dX3_steadyReadings_37 : decode cX3_steadyReadings 37 = .ok (.if_icmp .ne 7, 3) := by decide +kernel
theorem dX3_steadyReadings_40 : decode cX3_steadyReadings 40 = .ok (.iconst 1, 1) := by decide +kernel
theorem dX3_steadyReadings_41 : decode cX3_steadyReadings 41 = .ok (.goto 4, 3) := by decide +kernel
theorem dX3_steadyReadings_44 : decode cX3_steadyReadings 44 = .ok (.iconst 0, 1) := by decide +kernel
theorem dX3_steadyReadings_45 : decode cX3_steadyReadings 45 = .ok (.iadd, 1) := by decide +kernel
theorem dX3_steadyReadings_46 : decode cX3_steadyReadings 46 = .ok (.istore_n 3, 1) := by decide +kernel
theorem dX3_steadyReadings_47 : decode cX3_steadyReadings 47 = .ok (.iinc 4 1, 3) := by decide +kernel
theorem dX3_steadyReadings_50 : decode cX3_steadyReadings 50 = .ok (.goto (-34), 3) := by decide +kernel
theorem dX3_steadyReadings_53 : decode cX3_steadyReadings 53 = .ok (.iload_n 3, 1) := by decide +kernel
theorem dX3_steadyReadings_54 : decode cX3_steadyReadings 54 = .ok (.ireturn, 1) := by decide +kernel
theorem dX3_blowFuse_0 : decode cX3_blowFuse 0 = .ok (.aload_n 0, 1) := by decide +kernel
theorem dX3_blowFuse_1 : decode cX3_blowFuse 1 = .ok (.iload_n 1, 1) := by decide +kernel
theorem dX3_blowFuse_2 : decode cX3_blowFuse 2 = .ok (.iload_n 2, 1) := by decide +kernel
theorem dX3_blowFuse_3 : decode cX3_blowFuse 3 = .ok (.invokevirtual 94, 3) := by decide +kernel
theorem dX3_blowFuse_6 : decode cX3_blowFuse 6 = .ok (.iload_n 3, 1) := by decide +kernel
theorem dX3_blowFuse_7 : decode cX3_blowFuse 7 = .ok (.invokestatic 88, 3) := by decide +kernel
theorem dX3_blowFuse_10 : decode cX3_blowFuse 10 = .ok (.istore 4, 2) := by decide +kernel
theorem dX3_blowFuse_12 : decode cX3_blowFuse 12 = .ok (.aload_n 0, 1) := by decide +kernel
theorem dX3_blowFuse_13 : decode cX3_blowFuse 13 = .ok (.getfield 9, 3) := by decide +kernel
theorem dX3_blowFuse_16 : decode cX3_blowFuse 16 = .ok (.iload_n 1, 1) := by decide +kernel
theorem dX3_blowFuse_17 : decode cX3_blowFuse 17 = .ok (.aload_n 0, 1) := by decide +kernel
theorem dX3_blowFuse_18 : decode cX3_blowFuse 18 = .ok (.getfield 9, 3) := by decide +kernel
theorem dX3_blowFuse_21 : decode cX3_blowFuse 21 = .ok (.iload_n 1, 1) := by decide +kernel
theorem dX3_blowFuse_22 : decode cX3_blowFuse 22 = .ok (.iaload, 1) := by decide +kernel
theorem dX3_blowFuse_23 : decode cX3_blowFuse 23 = .ok (.iconst 1, 1) := by decide +kernel
theorem dX3_blowFuse_24 : decode cX3_blowFuse 24 = .ok (.iload_n 2, 1) := by decide +kernel
theorem dX3_blowFuse_25 : decode cX3_blowFuse 25 = .ok (.ishl, 1) := by decide +kernel
theorem dX3_blowFuse_26 : decode cX3_blowFuse 26 = .ok (.iconst (-1), 1) := by decide +kernel
theorem dX3_blowFuse_27 : decode cX3_blowFuse 27 = .ok (.ixor, 1) := by decide +kernel
theorem dX3_blowFuse_28 : decode cX3_blowFuse 28 = .ok (.iand, 1) := by decide +kernel
theorem dX3_blowFuse_29 : decode cX3_blowFuse 29 = .ok (.iload 4, 2) := by decide +kernel
theorem dX3_blowFuse_31 : decode cX3_blowFuse 31 = .ok (.iconst 1, 1) := by decide +kernel
theorem dX3_blowFuse_32 : decode cX3_blowFuse 32 = .ok (.iand, 1) := by decide +kernel
theorem dX3_blowFuse_33 : decode cX3_blowFuse 33 = .ok (.iload_n 2, 1) := by decide +kernel
theorem dX3_blowFuse_34 : decode cX3_blowFuse 34 = .ok (.ishl, 1) := by decide +kernel
theorem dX3_blowFuse_35 : decode cX3_blowFuse 35 = .ok (.ior, 1) := by decide +kernel
theorem dX3_blowFuse_36 : decode cX3_blowFuse 36 = .ok (.iastore, 1) := by decide +kernel
theorem dX3_blowFuse_37 : decode cX3_blowFuse 37 = .ok (.aload_n 0, 1) := by decide +kernel
theorem dX3_blowFuse_38 : decode cX3_blowFuse 38 = .ok (.getfield 15, 3) := by decide +kernel
theorem dX3_blowFuse_41 : decode cX3_blowFuse 41 = .ok (.iload_n 1, 1) := by decide +kernel
theorem dX3_blowFuse_42 : decode cX3_blowFuse 42 = .ok (.aload_n 0, 1) := by decide +kernel
theorem dX3_blowFuse_43 : decode cX3_blowFuse 43 = .ok (.getfield 15, 3) := by decide +kernel
theorem dX3_blowFuse_46 : decode cX3_blowFuse 46 = .ok (.iload_n 1, 1) := by decide +kernel
theorem dX3_blowFuse_47 : decode cX3_blowFuse 47 = .ok (.iaload, 1) := by decide +kernel
theorem dX3_blowFuse_48 : decode cX3_blowFuse 48 = .ok (.iconst 1, 1) := by decide +kernel
theorem dX3_blowFuse_49 : decode cX3_blowFuse 49 = .ok (.iload_n 2, 1) := by decide +kernel
theorem dX3_blowFuse_50 : decode cX3_blowFuse 50 = .ok (.ishl, 1) := by decide +kernel
theorem dX3_blowFuse_51 : decode cX3_blowFuse 51 = .ok (.iconst (-1), 1) := by decide +kernel
theorem dX3_blowFuse_52 : decode cX3_blowFuse 52 = .ok (.ixor, 1) := by decide +kernel
theorem dX3_blowFuse_53 : decode cX3_blowFuse 53 = .ok (.iand, 1) := by decide +kernel
theorem dX3_blowFuse_54 : decode cX3_blowFuse 54 = .ok (.iload 4, 2) := by decide +kernel
theorem dX3_blowFuse_56 : decode cX3_blowFuse 56 = .ok (.iconst 1, 1) := by decide +kernel
theorem dX3_blowFuse_57 : decode cX3_blowFuse 57 = .ok (.ishr, 1) := by decide +kernel
theorem dX3_blowFuse_58 : decode cX3_blowFuse 58 = .ok (.iload_n 2, 1) := by decide +kernel
theorem dX3_blowFuse_59 : decode cX3_blowFuse 59 = .ok (.ishl, 1) := by decide +kernel
theorem dX3_blowFuse_60 : decode cX3_blowFuse 60 = .ok (.ior, 1) := by decide +kernel
theorem dX3_blowFuse_61 : decode cX3_blowFuse 61 = .ok (.iastore, 1) := by decide +kernel
theorem dX3_blowFuse_62 : decode cX3_blowFuse 62 = .ok (.aload_n 0, 1) := by decide +kernel
theorem dX3_blowFuse_63 : decode cX3_blowFuse 63 = .ok (.dup, 1) := by decide +kernel
theorem dX3_blowFuse_64 : decode cX3_blowFuse 64 = .ok (.getfield 31, 3) := by decide +kernel
theorem dX3_blowFuse_67 : decode cX3_blowFuse 67 = .ok (.iload_n 3, 1) := by decide +kernel
theorem dX3_blowFuse_68 : decode cX3_blowFuse 68 = .ok (.iadd, 1) := by decide +kernel
theorem dX3_blowFuse_69 : decode cX3_blowFuse 69 = .ok (.putfield 31, 3) := by decide +kernel
theorem dX3_blowFuse_72 : decode cX3_blowFuse 72 = .ok (.return_, 1) := by decide +kernel
theorem dX3_blowFuses_0 : decode cX3_blowFuses 0 = .ok (.iconst 0, 1) := by decide +kernel
theorem dX3_blowFuses_1 : decode cX3_blowFuses 1 = .ok (.istore 4, 2) := by decide +kernel
theorem dX3_blowFuses_3 : decode cX3_blowFuses 3 = .ok (.iload 4, 2) := by decide +kernel
theorem dX3_blowFuses_5 : decode cX3_blowFuses 5 = .ok (.bipush 16, 2) := by decide +kernel
theorem dX3_blowFuses_7 : decode cX3_blowFuses 7 = .ok (.if_icmp .ge 27, 3) := by decide +kernel
theorem dX3_blowFuses_10 : decode cX3_blowFuses 10 = .ok (.iload_n 2, 1) := by decide +kernel
theorem dX3_blowFuses_11 : decode cX3_blowFuses 11 = .ok (.iload 4, 2) := by decide +kernel
theorem dX3_blowFuses_13 : decode cX3_blowFuses 13 = .ok (.ishr, 1) := by decide +kernel
theorem dX3_blowFuses_14 : decode cX3_blowFuses 14 = .ok (.iconst 1, 1) := by decide +kernel
theorem dX3_blowFuses_15 : decode cX3_blowFuses 15 = .ok (.iand, 1) := by decide +kernel
theorem dX3_blowFuses_16 : decode cX3_blowFuses 16 = .ok (.iconst 1, 1) := by decide +kernel
theorem dX3_blowFuses_17 : decode cX3_blowFuses 17 = .ok (.if_icmp .ne 11, 3) := by decide +kernel
theorem dX3_blowFuses_20 : decode cX3_blowFuses 20 = .ok (.aload_n 0, 1) := by decide +kernel
theorem dX3_blowFuses_21 : decode cX3_blowFuses 21 = .ok (.iload_n 1, 1) := by decide +kernel
theorem dX3_blowFuses_22 : decode cX3_blowFuses 22 = .ok (.iload 4, 2) := by decide +kernel
theorem dX3_blowFuses_24 : decode cX3_blowFuses 24 = .ok (.iload_n 3, 1) := by decide +kernel
theorem dX3_blowFuses_25 : decode cX3_blowFuses 25 = .ok (.invokevirtual 97, 3) := by decide +kernel
theorem dX3_blowFuses_28 : decode cX3_blowFuses 28 = .ok (.iinc 4 1, 3) := by decide +kernel
theorem dX3_blowFuses_31 : decode cX3_blowFuses 31 = .ok (.goto (-28), 3) := by decide +kernel
theorem dX3_blowFuses_34 : decode cX3_blowFuses 34 = .ok (.return_, 1) := by decide +kernel
theorem dX3_strengthenFuses_0 : decode cX3_strengthenFuses 0 = .ok (.iconst 0, 1) := by decide +kernel
theorem dX3_strengthenFuses_1 : decode cX3_strengthenFuses 1 = .ok (.istore_n 3, 1) := by decide +kernel
theorem dX3_strengthenFuses_2 : decode cX3_strengthenFuses 2 = .ok (.iload_n 3, 1) := by decide +kernel
theorem dX3_strengthenFuses_3 : decode cX3_strengthenFuses 3 = .ok (.bipush 16, 2) := by decide +kernel
theorem dX3_strengthenFuses_5 : decode cX3_strengthenFuses 5 = .ok (.if_icmp .ge 32, 3) := by decide +kernel
theorem dX3_strengthenFuses_8 : decode cX3_strengthenFuses 8 = .ok (.iload_n 2, 1) := by decide +kernel
theorem dX3_strengthenFuses_9 : decode cX3_strengthenFuses 9 = .ok (.iload_n 3, 1) := by decide +kernel
theorem dX3_strengthenFuses_10 : decode cX3_strengthenFuses 10 = .ok (.ishr, 1) := by decide +kernel
theorem dX3_strengthenFuses_11 : decode cX3_strengthenFuses 11 = .ok (.iconst 1, 1) := by decide +kernel
theorem dX3_strengthenFuses_12 : decode cX3_strengthenFuses 12 = .ok (.iand, 1) := by decide +kernel
theorem dX3_strengthenFuses_13 : decode cX3_strengthenFuses 13 = .ok (.iconst 1, 1) := by decide +kernel
theorem dX3_strengthenFuses_14 : decode cX3_strengthenFuses 14 = .ok (.if_icmp .ne 17, 3) := by decide +kernel
theorem dX3_strengthenFuses_17 : decode cX3_strengthenFuses 17 = .ok (.aload_n 0, 1) := by decide +kernel
theorem dX3_strengthenFuses_18 : decode cX3_strengthenFuses 18 = .ok (.iload_n 1, 1) := by decide +kernel
theorem dX3_strengthenFuses_19 : decode cX3_strengthenFuses 19 = .ok (.iload_n 3, 1) := by decide +kernel
theorem dX3_strengthenFuses_20 : decode cX3_strengthenFuses 20 = .ok (.aload_n 0, 1) := by decide +kernel
theorem dX3_strengthenFuses_21 : decode cX3_strengthenFuses 21 = .ok (.iload_n 1, 1) := by decide +kernel
theorem dX3_strengthenFuses_22 : decode cX3_strengthenFuses 22 = .ok (.iload_n 3, 1) := by decide +kernel
theorem dX3_strengthenFuses_23 : decode cX3_strengthenFuses 23 = .ok (.invokevirtual 94, 3) := by decide +kernel
theorem dX3_strengthenFuses_26 : decode cX3_strengthenFuses 26 = .ok (.iconst 1, 1) := by decide +kernel
theorem dX3_strengthenFuses_27 : decode cX3_strengthenFuses 27 = .ok (.iadd, 1) := by decide +kernel
theorem dX3_strengthenFuses_28 : decode cX3_strengthenFuses 28 = .ok (.invokevirtual 97, 3) := by decide +kernel
theorem dX3_strengthenFuses_31 : decode cX3_strengthenFuses 31 = .ok (.iinc 3 1, 3) := by decide +kernel
theorem dX3_strengthenFuses_34 : decode cX3_strengthenFuses 34 = .ok (.goto (-32), 3) := by decide +kernel
theorem dX3_strengthenFuses_37 : decode cX3_strengthenFuses 37 = .ok (.return_, 1) := by decide +kernel
theorem dX3_putNext_0 : decode cX3_putNext 0 = .ok (.aload_n 0, 1) := by decide +kernel
theorem dX3_putNext_1 : decode cX3_putNext 1 = .ok (.invokevirtual 101, 3) := by decide +kernel
theorem dX3_putNext_4 : decode cX3_putNext 4 = .ok (.istore_n 3, 1) := by decide +kernel
theorem dX3_putNext_5 : decode cX3_putNext 5 = .ok (.iload_n 3, 1) := by decide +kernel
theorem dX3_putNext_6 : decode cX3_putNext 6 = .ok (.iconst (-1), 1) := by decide +kernel
theorem dX3_putNext_7 : decode cX3_putNext 7 = .ok (.if_icmp .ne 5, 3) := by decide +kernel
theorem dX3_putNext_10 : decode cX3_putNext 10 = .ok (.iconst (-1), 1) := by decide +kernel
theorem dX3_putNext_11 : decode cX3_putNext 11 = .ok (.ireturn, 1) := by decide +kernel
theorem dX3_putNext_12 : decode cX3_putNext 12 = .ok (.aload_n 0, 1) := by decide +kernel
theorem dX3_putNext_13 : decode cX3_putNext 13 = .ok (.iload_n 3, 1) := by decide +kernel
theorem dX3_putNext_14 : decode cX3_putNext 14 = .ok (.iload_n 1, 1) := by decide +kernel
theorem dX3_putNext_15 : decode cX3_putNext 15 = .ok (.iload_n 2, 1) := by decide +kernel
theorem dX3_putNext_16 : decode cX3_putNext 16 = .ok (.invokevirtual 105, 3) := by decide +kernel
theorem dX3_putNext_19 : decode cX3_putNext 19 = .ok (.istore 4, 2) := by decide +kernel
theorem dX3_putNext_21 : decode cX3_putNext 21 = .ok (.aload_n 0, 1) := by decide +kernel
theorem dX3_putNext_22 : decode cX3_putNext 22 = .ok (.iload_n 3, 1) := by decide +kernel
theorem dX3_putNext_23 : decode cX3_putNext 23 = .ok (.iload_n 1, 1) := by decide +kernel
theorem dX3_putNext_24 : decode cX3_putNext 24 = .ok (.invokevirtual 109, 3) := by decide +kernel
theorem dX3_putNext_27 : decode cX3_putNext 27 = .ok (.pop, 1) := by decide +kernel
theorem dX3_putNext_28 : decode cX3_putNext 28 = .ok (.aload_n 0, 1) := by decide +kernel
theorem dX3_putNext_29 : decode cX3_putNext 29 = .ok (.dup, 1) := by decide +kernel
theorem dX3_putNext_30 : decode cX3_putNext 30 = .ok (.getfield 34, 3) := by decide +kernel
theorem dX3_putNext_33 : decode cX3_putNext 33 = .ok (.iconst 1, 1) := by decide +kernel
theorem dX3_putNext_34 : decode cX3_putNext 34 = .ok (.iadd, 1) := by decide +kernel
theorem dX3_putNext_35 : decode cX3_putNext 35 = .ok (.putfield 34, 3) := by decide +kernel
theorem dX3_putNext_38 : decode cX3_putNext 38 = .ok (.iload 4, 2) := by decide +kernel
theorem dX3_putNext_40 : decode cX3_putNext 40 = .ok (.ireturn, 1) := by decide +kernel
theorem dX3_writeEntry_0 : decode cX3_writeEntry 0 = .ok (.iload_n 2, 1) := by decide +kernel
theorem dX3_writeEntry_1 : decode cX3_writeEntry 1 = .ok (.iload_n 3, 1) := by decide +kernel
theorem dX3_writeEntry_2 : decode cX3_writeEntry 2 = .ok (.invokestatic 112, 3) := by decide +kernel
theorem dX3_writeEntry_5 : decode cX3_writeEntry 5 = .ok (.istore 4, 2) := by decide +kernel
theorem dX3_writeEntry_7 : decode cX3_writeEntry 7 = .ok (.aload_n 0, 1) := by decide +kernel
theorem dX3_writeEntry_8 : decode cX3_writeEntry 8 = .ok (.iload_n 1, 1) := by decide +kernel
theorem dX3_writeEntry_9 : decode cX3_writeEntry 9 = .ok (.iload 4, 2) := by decide +kernel
theorem dX3_writeEntry_11 : decode cX3_writeEntry 11 = .ok (.aload_n 0, 1) := by decide +kernel
theorem dX3_writeEntry_12 : decode cX3_writeEntry 12 = .ok (.getfield 18, 3) := by decide +kernel
theorem dX3_writeEntry_15 : decode cX3_writeEntry 15 = .ok (.iconst 1, 1) := by decide +kernel
theorem dX3_writeEntry_16 : decode cX3_writeEntry 16 = .ok (.iaload, 1) := by decide +kernel
theorem dX3_writeEntry_17 : decode cX3_writeEntry 17 = .ok (.invokevirtual 115, 3) := by decide +kernel
theorem dX3_writeEntry_20 : decode cX3_writeEntry 20 = .ok (.iconst 1, 1) := by decide +kernel
theorem dX3_writeEntry_21 : decode cX3_writeEntry 21 = .ok (.istore 5, 2) := by decide +kernel
theorem dX3_writeEntry_23 : decode cX3_writeEntry 23 = .ok (.iload 5, 2) := by decide +kernel
theorem dX3_writeEntry_25 : decode cX3_writeEntry 25 = .ok (.aload_n 0, 1) := by decide +kernel
theorem dX3_writeEntry_26 : decode cX3_writeEntry 26 = .ok (.getfield 18, 3) := by decide +kernel
theorem dX3_writeEntry_29 : decode cX3_writeEntry 29 = .ok (.iconst 2, 1) := by decide +kernel
theorem dX3_writeEntry_30 : decode cX3_writeEntry 30 = .ok (.iaload, 1) := by decide +kernel
theorem dX3_writeEntry_31 : decode cX3_writeEntry 31 = .ok (.if_icmp .ge 34, 3) := by decide +kernel
theorem dX3_writeEntry_34 : decode cX3_writeEntry 34 = .ok (.aload_n 0, 1) := by decide +kernel
theorem dX3_writeEntry_35 : decode cX3_writeEntry 35 = .ok (.iload_n 1, 1) := by decide +kernel
theorem dX3_writeEntry_36 : decode cX3_writeEntry 36 = .ok (.iload_n 2, 1) := by decide +kernel
theorem dX3_writeEntry_37 : decode cX3_writeEntry 37 = .ok (.iload_n 3, 1) := by decide +kernel
theorem dX3_writeEntry_38 : decode cX3_writeEntry 38 = .ok (.invokevirtual 118, 3) := by decide +kernel
theorem dX3_writeEntry_41 : decode cX3_writeEntry 41 = .ok (.ifCond .ne 24, 3) := by decide +kernel
theorem dX3_writeEntry_44 : decode cX3_writeEntry 44 = .ok (.aload_n 0, 1) := by decide +kernel
theorem dX3_writeEntry_45 : decode cX3_writeEntry 45 = .ok (.iload_n 1, 1) := by decide +kernel
theorem dX3_writeEntry_46 : decode cX3_writeEntry 46 = .ok (.iload 4, 2) := by decide +kernel
theorem dX3_writeEntry_48 : decode cX3_writeEntry 48 = .ok (.aload_n 0, 1) := by decide +kernel
theorem dX3_writeEntry_49 : decode cX3_writeEntry 49 = .ok (.iload_n 1, 1) := by decide +kernel
theorem dX3_writeEntry_50 : decode cX3_writeEntry 50 = .ok (.invokevirtual 48, 3) := by decide +kernel
theorem dX3_writeEntry_53 : decode cX3_writeEntry 53 = .ok (.iconst (-1), 1) := by decide +kernel
theorem dX3_writeEntry_54 : decode cX3_writeEntry 54 = .ok (.ixor, 1) := by decide +kernel
theorem dX3_writeEntry_55 : decode cX3_writeEntry 55 = .ok (.iand, 1) := by decide +kernel
theorem dX3_writeEntry_56 : decode cX3_writeEntry 56 = .ok (.invokevirtual 122, 3) := by decide +kernel
theorem dX3_writeEntry_59 : decode cX3_writeEntry 59 = .ok (.iinc 5 1, 3) := by decide +kernel
theorem dX3_writeEntry_62 : decode cX3_writeEntry 62 = .ok (.goto (-39), 3) := by decide +kernel
theorem dX3_writeEntry_65 : decode cX3_writeEntry 65 = .ok (.iload 5, 2) := by decide +kernel
theorem dX3_writeEntry_67 : decode cX3_writeEntry 67 = .ok (.ireturn, 1) := by decide +kernel
theorem dX3_tellsEntry_0 : decode cX3_tellsEntry 0 = .ok (.aload_n 0, 1) := by decide +kernel
theorem dX3_tellsEntry_1 : decode cX3_tellsEntry 1 = .ok (.iload_n 1, 1) := by decide +kernel
theorem dX3_tellsEntry_2 : decode cX3_tellsEntry 2 = .ok (.invokevirtual 48, 3) := by decide +kernel
theorem dX3_tellsEntry_5 : decode cX3_tellsEntry 5 = .ok (.istore 4, 2) := by decide +kernel
theorem dX3_tellsEntry_7 : decode cX3_tellsEntry 7 = .ok (.iload 4, 2) := by decide +kernel
theorem dX3_tellsEntry_9 : decode cX3_tellsEntry 9 = .ok (.invokestatic 52, 3) := by decide +kernel
theorem dX3_tellsEntry_12 : decode cX3_tellsEntry 12 = .ok (.iconst 4, 1) := by decide +kernel
theorem dX3_tellsEntry_13 : decode cX3_tellsEntry 13 = .ok (.if_icmp .ne 25, 3) := by decide +kernel
theorem dX3_tellsEntry_16 : decode cX3_tellsEntry 16 = .ok (.iload 4, 2) := by decide +kernel
theorem dX3_tellsEntry_18 : decode cX3_tellsEntry 18 = .ok (.invokestatic 72, 3) := by decide +kernel
theorem dX3_tellsEntry_21 : decode cX3_tellsEntry 21 = .ok (.iload_n 2, 1) := by decide +kernel
theorem dX3_tellsEntry_22 : decode cX3_tellsEntry 22 = .ok (.if_icmp .ne 16, 3) := by decide +kernel
theorem dX3_tellsEntry_25 : decode cX3_tellsEntry 25 = .ok (.iload 4, 2) := by decide +kernel
theorem dX3_tellsEntry_27 : decode cX3_tellsEntry 27 = .ok (.invokestatic 78, 3) := by decide +kernel
theorem dX3_tellsEntry_30 : decode cX3_tellsEntry 30 = .ok (.iload_n 3, 1) := by decide +kernel
theorem dX3_tellsEntry_31 : decode cX3_tellsEntry 31 = .ok (.if_icmp .ne 7, 3) := by decide +kernel
theorem dX3_tellsEntry_34 : decode cX3_tellsEntry 34 = .ok (.iconst 1, 1) := by decide +kernel
theorem dX3_tellsEntry_35 : decode cX3_tellsEntry 35 = .ok (.goto 4, 3) := by decide +kernel
theorem dX3_tellsEntry_38 : decode cX3_tellsEntry 38 = .ok (.iconst 0, 1) := by decide +kernel
theorem dX3_tellsEntry_39 : decode cX3_tellsEntry 39 = .ok (.ireturn, 1) := by decide +kernel
theorem dX3_markEarlier_0 : decode cX3_markEarlier 0 = .ok (.aload_n 0, 1) := by decide +kernel
theorem dX3_markEarlier_1 : decode cX3_markEarlier 1 = .ok (.getfield 18, 3) := by decide +kernel
theorem dX3_markEarlier_4 : decode cX3_markEarlier 4 = .ok (.iconst 3, 1) := by decide +kernel
theorem dX3_markEarlier_5 : decode cX3_markEarlier 5 = .ok (.iaload, 1) := by decide +kernel
theorem dX3_markEarlier_6 : decode cX3_markEarlier 6 = .ok (.iconst 1, 1) := by decide +kernel
theorem dX3_markEarlier_7 : decode cX3_markEarlier 7 = .ok (.if_icmp .ne 18, 3) := by decide +kernel
theorem dX3_markEarlier_10 : decode cX3_markEarlier 10 = .ok (.aload_n 0, 1) := by decide +kernel
theorem dX3_markEarlier_11 : decode cX3_markEarlier 11 = .ok (.iload_n 2, 1) := by decide +kernel
theorem dX3_markEarlier_12 : decode cX3_markEarlier 12 = .ok (.iload_n 1, 1) := by decide +kernel
theorem dX3_markEarlier_13 : decode cX3_markEarlier 13 = .ok (.aload_n 0, 1) := by decide +kernel
theorem dX3_markEarlier_14 : decode cX3_markEarlier 14 = .ok (.getfield 18, 3) := by decide +kernel
theorem dX3_markEarlier_17 : decode cX3_markEarlier 17 = .ok (.iconst 1, 1) := by decide +kernel
theorem dX3_markEarlier_18 : decode cX3_markEarlier 18 = .ok (.iaload, 1) := by decide +kernel
theorem dX3_markEarlier_19 : decode cX3_markEarlier 19 = .ok (.invokevirtual 126, 3) := by decide +kernel
theorem dX3_markEarlier_22 : decode cX3_markEarlier 22 = .ok (.goto 4, 3) := by decide +kernel
theorem dX3_markEarlier_25 : decode cX3_markEarlier 25 = .ok (.iconst 0, 1) := by decide +kernel
theorem dX3_markEarlier_26 : decode cX3_markEarlier 26 = .ok (.ireturn, 1) := by decide +kernel
theorem dX3_markEntries_0 : decode cX3_markEntries 0 = .ok (.iconst 0, 1) := by decide +kernel
theorem dX3_markEntries_1 : decode cX3_markEntries 1 = .ok (.istore 4, 2) := by decide +kernel
theorem dX3_markEntries_3 : decode cX3_markEntries 3 = .ok (.iconst 0, 1) := by decide +kernel
theorem dX3_markEntries_4 : decode cX3_markEntries 4 = .ok (.istore 5, 2) := by decide +kernel
theorem dX3_markEntries_6 : decode cX3_markEntries 6 = .ok (.iload 5, 2) := by decide +kernel
theorem dX3_markEntries_8 : decode cX3_markEntries 8 = .ok (.bipush 20, 2) := by decide +kernel
theorem dX3_markEntries_10 : decode cX3_markEntries 10 = .ok (.if_icmp .ge 62, 3) := by decide +kernel
theorem dX3_markEntries_13 : decode cX3_markEntries 13 = .ok (.aload_n 0, 1) := by decide +kernel
theorem dX3_markEntries_14 : decode cX3_markEntries 14 = .ok (.iload 5, 2) := by decide +kernel
theorem dX3_markEntries_16 : decode cX3_markEntries 16 = .ok (.invokevirtual 48, 3) := by decide +kernel
theorem dX3_markEntries_19 : decode cX3_markEntries 19 = .ok (.istore 6, 2) := by decide +kernel
theorem dX3_markEntries_21 : decode cX3_markEntries 21 = .ok (.iload 5, 2) := by decide +kernel
theorem dX3_markEntries_23 : decode cX3_markEntries 23 = .ok (.iload_n 2, 1) := by decide +kernel
theorem dX3_markEntries_24 : decode cX3_markEntries 24 = .ok (.if_icmp .eq 42, 3) := by decide +kernel
theorem dX3_markEntries_27 : decode cX3_markEntries 27 = .ok (.aload_n 0, 1) := by decide +kernel
theorem dX3_markEntries_28 : decode cX3_markEntries 28 = .ok (.iload 5, 2) := by decide +kernel
theorem dX3_markEntries_30 : decode cX3_markEntries 30 = .ok (.invokevirtual 65, 3) := by decide +kernel
theorem dX3_markEntries_33 : decode cX3_markEntries 33 = .ok (.ifCond .ne 33, 3) := by decide +kernel
theorem dX3_markEntries_36 : decode cX3_markEntries 36 = .ok (.iload 6, 2) := by decide +kernel
theorem dX3_markEntries_38 : decode cX3_markEntries 38 = .ok (.invokestatic 72, 3) := by decide +kernel
theorem dX3_markEntries_41 : decode cX3_markEntries 41 = .ok (.iload_n 1, 1) := by decide +kernel
theorem dX3_markEntries_42 : decode cX3_markEntries 42 = .ok (.if_icmp .ne 24, 3) := by decide +kernel
theorem dX3_markEntries_45 : decode cX3_markEntries 45 = .ok (.iload 6, 2) := by decide +kernel
theorem dX3_markEntries_47 : decode cX3_markEntries 47 = .ok (.invokestatic 52, 3) := by decide +kernel
theorem dX3_markEntries_50 : decode cX3_markEntries 50 = .ok (.iconst 4, 1) := by decide +kernel
theorem dX3_markEntries_51 : decode cX3_markEntries 51 = .ok (.if_icmp .ne 15, 3) := by decide +kernel
theorem dX3_markEntries_54 : decode cX3_markEntries 54 = .ok (.aload_n 0, 1) := by decide +kernel
theorem dX3_markEntries_55 : decode cX3_markEntries 55 = .ok (.iload 5, 2) := by decide +kernel
theorem dX3_markEntries_57 : decode cX3_markEntries 57 = .ok (.bipush 14, 2) := by decide +kernel
theorem dX3_markEntries_59 : decode cX3_markEntries 59 = .ok (.iload_n 3, 1) := by decide +kernel
theorem dX3_markEntries_60 : decode cX3_markEntries 60 = .ok (.invokevirtual 97, 3) := by decide +kernel
theorem dX3_markEntries_63 : decode cX3_markEntries 63 = .ok (.iinc 4 1, 3) := by decide +kernel
theorem dX3_markEntries_66 : decode cX3_markEntries 66 = .ok (.iinc 5 1, 3) := by decide +kernel
theorem dX3_markEntries_69 : decode cX3_markEntries 69 = .ok (.goto (-63), 3) := by decide +kernel
theorem dX3_markEntries_72 : decode cX3_markEntries 72 = .ok (.iload 4, 2) := by decide +kernel
theorem dX3_markEntries_74 : decode cX3_markEntries 74 = .ok (.ireturn, 1) := by decide +kernel
theorem dX3_refreshRow_0 : decode cX3_refreshRow 0 = .ok (.aload_n 0, 1) := by decide +kernel
theorem dX3_refreshRow_1 : decode cX3_refreshRow 1 = .ok (.getfield 15, 3) := by decide +kernel
theorem dX3_refreshRow_4 : decode cX3_refreshRow 4 = .ok (.iload_n 1, 1) := by decide +kernel
theorem dX3_refreshRow_5 : decode cX3_refreshRow 5 = .ok (.iaload, 1) := by decide +kernel
theorem dX3_refreshRow_6 : decode cX3_refreshRow 6 = .ok (.aload_n 0, 1) := by decide +kernel
theorem dX3_refreshRow_7 : decode cX3_refreshRow 7 = .ok (.getfield 9, 3) := by decide +kernel
theorem dX3_refreshRow_10 : decode cX3_refreshRow 10 = .ok (.iload_n 1, 1) := by decide +kernel
theorem dX3_refreshRow_11 : decode cX3_refreshRow 11 = .ok (.iaload, 1) := by decide +kernel
theorem dX3_refreshRow_12 : decode cX3_refreshRow 12 = .ok (.iconst (-1), 1) := by decide +kernel
theorem dX3_refreshRow_13 : decode cX3_refreshRow 13 = .ok (.ixor, 1) := by decide +kernel
theorem dX3_refreshRow_14 : decode cX3_refreshRow 14 = .ok (.iand, 1) := by decide +kernel
theorem dX3_refreshRow_15 : decode cX3_refreshRow 15 = .ok (.invokestatic 57, 3) := by decide +kernel
theorem dX3_refreshRow_18 : decode cX3_refreshRow 18 = .ok (.istore_n 2, 1) := by decide +kernel
theorem dX3_refreshRow_19 : decode cX3_refreshRow 19 = .ok (.aload_n 0, 1) := by decide +kernel
theorem dX3_refreshRow_20 : decode cX3_refreshRow 20 = .ok (.iload_n 1, 1) := by decide +kernel
theorem dX3_refreshRow_21 : decode cX3_refreshRow 21 = .ok (.aload_n 0, 1) := by decide +kernel
theorem dX3_refreshRow_22 : decode cX3_refreshRow 22 = .ok (.iload_n 1, 1) := by decide +kernel
theorem dX3_refreshRow_23 : decode cX3_refreshRow 23 = .ok (.aload_n 0, 1) := by decide +kernel
theorem dX3_refreshRow_24 : decode cX3_refreshRow 24 = .ok (.getfield 27, 3) := by decide +kernel
theorem dX3_refreshRow_27 : decode cX3_refreshRow 27 = .ok (.iconst 1, 1) := by decide +kernel
theorem dX3_refreshRow_28 : decode cX3_refreshRow 28 = .ok (.invokevirtual 44, 3) := by decide +kernel
theorem dX3_refreshRow_31 : decode cX3_refreshRow 31 = .ok (.iconst 3, 1) := by decide +kernel
theorem dX3_refreshRow_32 : decode cX3_refreshRow 32 = .ok (.invokevirtual 115, 3) := by decide +kernel
theorem dX3_refreshRow_35 : decode cX3_refreshRow 35 = .ok (.iload_n 2, 1) := by decide +kernel
theorem dX3_refreshRow_36 : decode cX3_refreshRow 36 = .ok (.ireturn, 1) := by decide +kernel
theorem dX3_heatRows_0 : decode cX3_heatRows 0 = .ok (.iconst 0, 1) := by decide +kernel
theorem dX3_heatRows_1 : decode cX3_heatRows 1 = .ok (.istore_n 2, 1) := by decide +kernel
theorem dX3_heatRows_2 : decode cX3_heatRows 2 = .ok (.iconst 0, 1) := by decide +kernel
theorem dX3_heatRows_3 : decode cX3_heatRows 3 = .ok (.istore_n 3, 1) := by decide +kernel
theorem dX3_heatRows_4 : decode cX3_heatRows 4 = .ok (.iload_n 3, 1) := by decide +kernel
theorem dX3_heatRows_5 : decode cX3_heatRows 5 = .ok (.bipush 20, 2) := by decide +kernel
theorem dX3_heatRows_7 : decode cX3_heatRows 7 = .ok (.if_icmp .ge 113, 3) := by decide +kernel
theorem dX3_heatRows_10 : decode cX3_heatRows 10 = .ok (.iload_n 1, 1) := by decide +kernel
theorem dX3_heatRows_11 : decode cX3_heatRows 11 = .ok (.iconst 3, 1) := by decide +kernel
theorem dX3_heatRows_12 : decode cX3_heatRows 12 = .ok (.if_icmp .lt 21, 3) := by decide +kernel
theorem dX3_heatRows_15 : decode cX3_heatRows 15 = .ok (.aload_n 0, 1) := by decide +kernel
theorem dX3_heatRows_16 : decode cX3_heatRows 16 = .ok (.getfield 9, 3) := by decide +kernel
theorem dX3_heatRows_19 : decode cX3_heatRows 19 = .ok (.iload_n 3, 1) := by decide +kernel
theorem dX3_heatRows_20 : decode cX3_heatRows 20 = .ok (.iaload, 1) := by decide +kernel
theorem dX3_heatRows_21 : decode cX3_heatRows 21 = .ok (.aload_n 0, 1) := by decide +kernel
theorem dX3_heatRows_22 : decode cX3_heatRows 22 = .ok (.getfield 15, 3) := by decide +kernel
theorem dX3_heatRows_25 : decode cX3_heatRows 25 = .ok (.iload_n 3, 1) := by decide +kernel
theorem dX3_heatRows_26 : decode cX3_heatRows 26 = .ok (.iaload, 1) := by decide +kernel
theorem dX3_heatRows_27 : decode cX3_heatRows 27 = .ok (.iconst (-1), 1) := by decide +kernel
theorem dX3_heatRows_28 : decode cX3_heatRows 28 = .ok (.ixor, 1) := by decide +kernel
theorem dX3_heatRows_29 : decode cX3_heatRows 29 = .ok (.iand, 1) := by decide +kernel
theorem dX3_heatRows_30 : decode cX3_heatRows 30 = .ok (.goto 4, 3) := by decide +kernel
theorem dX3_heatRows_33 : decode cX3_heatRows 33 = .ok (.iconst 0, 1) := by decide +kernel
theorem dX3_heatRows_34 : decode cX3_heatRows 34 = .ok (.istore 4, 2) := by decide +kernel
theorem dX3_heatRows_36 : decode cX3_heatRows 36 = .ok (.iload_n 1, 1) := by decide +kernel
theorem dX3_heatRows_37 : decode cX3_heatRows 37 = .ok (.bipush 6, 2) := by decide +kernel
theorem dX3_heatRows_39 : decode cX3_heatRows 39 = .ok (.if_icmp .lt 21, 3) := by decide +kernel
theorem dX3_heatRows_42 : decode cX3_heatRows 42 = .ok (.aload_n 0, 1) := by decide +kernel
theorem dX3_heatRows_43 : decode cX3_heatRows 43 = .ok (.getfield 15, 3) := by decide +kernel
theorem dX3_heatRows_46 : decode cX3_heatRows 46 = .ok (.iload_n 3, 1) := by decide +kernel
theorem dX3_heatRows_47 : decode cX3_heatRows 47 = .ok (.iaload, 1) := by decide +kernel
theorem dX3_heatRows_48 : decode cX3_heatRows 48 = .ok (.aload_n 0, 1) := by decide +kernel
theorem dX3_heatRows_49 : decode cX3_heatRows 49 = .ok (.getfield 9, 3) := by decide +kernel
theorem dX3_heatRows_52 : decode cX3_heatRows 52 = .ok (.iload_n 3, 1) := by decide +kernel
theorem dX3_heatRows_53 : decode cX3_heatRows 53 = .ok (.iaload, 1) := by decide +kernel
theorem dX3_heatRows_54 : decode cX3_heatRows 54 = .ok (.iconst (-1), 1) := by decide +kernel
theorem dX3_heatRows_55 : decode cX3_heatRows 55 = .ok (.ixor, 1) := by decide +kernel
theorem dX3_heatRows_56 : decode cX3_heatRows 56 = .ok (.iand, 1) := by decide +kernel
theorem dX3_heatRows_57 : decode cX3_heatRows 57 = .ok (.goto 4, 3) := by decide +kernel
theorem dX3_heatRows_60 : decode cX3_heatRows 60 = .ok (.iconst 0, 1) := by decide +kernel
theorem dX3_heatRows_61 : decode cX3_heatRows 61 = .ok (.istore 5, 2) := by decide +kernel
theorem dX3_heatRows_63 : decode cX3_heatRows 63 = .ok (.aload_n 0, 1) := by decide +kernel
theorem dX3_heatRows_64 : decode cX3_heatRows 64 = .ok (.getfield 9, 3) := by decide +kernel
theorem dX3_heatRows_67 : decode cX3_heatRows 67 = .ok (.iload_n 3, 1) := by decide +kernel
theorem dX3_heatRows_68 : decode cX3_heatRows 68 = .ok (.aload_n 0, 1) := by decide +kernel
theorem dX3_heatRows_69 : decode cX3_heatRows 69 = .ok (.getfield 9, 3) := by decide +kernel
theorem dX3_heatRows_72 : decode cX3_heatRows 72 = .ok (.iload_n 3, 1) := by decide +kernel
theorem dX3_heatRows_73 : decode cX3_heatRows 73 = .ok (.iaload, 1) := by decide +kernel
theorem dX3_heatRows_74 : decode cX3_heatRows 74 = .ok (.iload 4, 2) := by decide +kernel
theorem dX3_heatRows_76 : decode cX3_heatRows 76 = .ok (.iconst (-1), 1) := by decide +kernel
theorem dX3_heatRows_77 : decode cX3_heatRows 77 = .ok (.ixor, 1) := by decide +kernel
theorem dX3_heatRows_78 : decode cX3_heatRows 78 = .ok (.iand, 1) := by decide +kernel
theorem dX3_heatRows_79 : decode cX3_heatRows 79 = .ok (.iload 5, 2) := by decide +kernel
theorem dX3_heatRows_81 : decode cX3_heatRows 81 = .ok (.ior, 1) := by decide +kernel
theorem dX3_heatRows_82 : decode cX3_heatRows 82 = .ok (.iastore, 1) := by decide +kernel
theorem dX3_heatRows_83 : decode cX3_heatRows 83 = .ok (.aload_n 0, 1) := by decide +kernel
theorem dX3_heatRows_84 : decode cX3_heatRows 84 = .ok (.getfield 15, 3) := by decide +kernel
theorem dX3_heatRows_87 : decode cX3_heatRows 87 = .ok (.iload_n 3, 1) := by decide +kernel
theorem dX3_heatRows_88 : decode cX3_heatRows 88 = .ok (.aload_n 0, 1) := by decide +kernel
theorem dX3_heatRows_89 : decode cX3_heatRows 89 = .ok (.getfield 15, 3) := by decide +kernel
theorem dX3_heatRows_92 : decode cX3_heatRows 92 = .ok (.iload_n 3, 1) := by decide +kernel
theorem dX3_heatRows_93 : decode cX3_heatRows 93 = .ok (.iaload, 1) := by decide +kernel
theorem dX3_heatRows_94 : decode cX3_heatRows 94 = .ok (.iload 5, 2) := by decide +kernel
theorem dX3_heatRows_96 : decode cX3_heatRows 96 = .ok (.iconst (-1), 1) := by decide +kernel
theorem dX3_heatRows_97 : decode cX3_heatRows 97 = .ok (.ixor, 1) := by decide +kernel
theorem dX3_heatRows_98 : decode cX3_heatRows 98 = .ok (.iand, 1) := by decide +kernel
theorem dX3_heatRows_99 : decode cX3_heatRows 99 = .ok (.iastore, 1) := by decide +kernel
theorem dX3_heatRows_100 : decode cX3_heatRows 100 = .ok (.iload_n 2, 1) := by decide +kernel
theorem dX3_heatRows_101 : decode cX3_heatRows 101 = .ok (.iload 4, 2) := by decide +kernel
theorem dX3_heatRows_103 : decode cX3_heatRows 103 = .ok (.invokestatic 57, 3) := by decide +kernel
theorem dX3_heatRows_106 : decode cX3_heatRows 106 = .ok (.iload 5, 2) := by decide +kernel
theorem dX3_heatRows_108 : decode cX3_heatRows 108 = .ok (.invokestatic 57, 3) := by decide +kernel
theorem dX3_heatRows_111 : decode cX3_heatRows 111 = .ok (.iadd, 1) := by decide +kernel
theorem dX3_heatRows_112 : decode cX3_heatRows 112 = .ok (.iadd, 1) := by decide +kernel
theorem dX3_heatRows_113 : decode cX3_heatRows 113 = .ok (.istore_n 2, 1) := by decide +kernel
theorem dX3_heatRows_114 : decode cX3_heatRows 114 = .ok (.iinc 3 1, 3) := by decide +kernel
theorem dX3_heatRows_117 : decode cX3_heatRows 117 = .ok (.goto (-113), 3) := by decide +kernel
theorem dX3_heatRows_120 : decode cX3_heatRows 120 = .ok (.iload_n 2, 1) := by decide +kernel
theorem dX3_heatRows_121 : decode cX3_heatRows 121 = .ok (.ireturn, 1) := by decide +kernel
theorem dX4_init_0 : decode cX4_init 0 = .ok (.aload_n 0, 1) := by decide +kernel
theorem dX4_init_1 : decode cX4_init 1 = .ok (.invokespecial 1, 3) := by decide +kernel
theorem dX4_init_4 : decode cX4_init 4 = .ok (.aload_n 0, 1) := by decide +kernel
theorem dX4_init_5 : decode cX4_init 5 = .ok (.new 7, 3) := by decide +kernel
theorem dX4_init_8 : decode cX4_init 8 = .ok (.dup, 1) := by decide +kernel
theorem dX4_init_9 : decode cX4_init 9 = .ok (.invokespecial 9, 3) := by decide +kernel
theorem dX4_init_12 : decode cX4_init 12 = .ok (.putfield 10, 3) := by decide +kernel
theorem dX4_init_15 : decode cX4_init 15 = .ok (.aload_n 0, 1) := by decide +kernel
theorem dX4_init_16 : decode cX4_init 16 = .ok (.new 7, 3) := by decide +kernel
theorem dX4_init_19 : decode cX4_init 19 = .ok (.dup, 1) := by decide +kernel
theorem dX4_init_20 : decode cX4_init 20 = .ok (.invokespecial 9, 3) := by decide +kernel
theorem dX4_init_23 : decode cX4_init 23 = .ok (.putfield 16, 3) := by decide +kernel
theorem dX4_init_26 : decode cX4_init 26 = .ok (.aload_n 0, 1) := by decide +kernel
theorem dX4_init_27 : decode cX4_init 27 = .ok (.new 19, 3) := by decide +kernel
theorem dX4_init_30 : decode cX4_init 30 = .ok (.dup, 1) := by decide +kernel
theorem dX4_init_31 : decode cX4_init 31 = .ok (.invokespecial 21, 3) := by decide +kernel
theorem dX4_init_34 : decode cX4_init 34 = .ok (.putfield 22, 3) := by decide +kernel
theorem dX4_init_37 : decode cX4_init 37 = .ok (.aload_n 0, 1) := by decide +kernel
theorem dX4_init_38 : decode cX4_init 38 = .ok (.new 26, 3) := by decide +kernel
theorem dX4_init_41 : decode cX4_init 41 = .ok (.dup, 1) := by decide +kernel
theorem dX4_init_42 : decode cX4_init 42 = .ok (.invokespecial 28, 3) := by decide +kernel
theorem dX4_init_45 : decode cX4_init 45 = .ok (.putfield 29, 3) := by decide +kernel
theorem dX4_init_48 : decode cX4_init 48 = .ok (.return_, 1) := by decide +kernel
theorem dX4_blow_0 : decode cX4_blow 0 = .ok (.iload_n 1, 1) := by decide +kernel
theorem dX4_blow_1 : decode cX4_blow 1 = .ok (.bipush 20, 2) := by decide +kernel
theorem dX4_blow_3 : decode cX4_blow 3 = .ok (.invokestatic 33, 3) := by decide +kernel
theorem dX4_blow_6 : decode cX4_blow 6 = .ok (.ifCond .eq 16, 3) := by decide +kernel
theorem dX4_blow_9 : decode cX4_blow 9 = .ok (.iload_n 2, 1) := by decide +kernel
theorem dX4_blow_10 : decode cX4_blow 10 = .ok (.bipush 16, 2) := by decide +kernel
theorem dX4_blow_12 : decode cX4_blow 12 = .ok (.invokestatic 33, 3) := by decide +kernel
theorem dX4_blow_15 : decode cX4_blow 15 = .ok (.ifCond .eq 7, 3) := by decide +kernel
theorem dX4_blow_18 : decode cX4_blow 18 = .ok (.iconst 1, 1) := by decide +kernel
theorem dX4_blow_19 : decode cX4_blow 19 = .ok (.goto 4, 3) := by decide +kernel
theorem dX4_blow_22 : decode cX4_blow 22 = .ok (.iconst 0, 1) := by decide +kernel
theorem dX4_blow_23 : decode cX4_blow 23 = .ok (.invokestatic 37, 3) := by decide +kernel
theorem dX4_blow_26 : decode cX4_blow 26 = .ok (.iload_n 3, 1) := by decide +kernel
theorem dX4_blow_27 : decode cX4_blow 27 = .ok (.iconst 1, 1) := by decide +kernel
theorem dX4_blow_28 : decode cX4_blow 28 = .ok (.iconst 3, 1) := by decide +kernel
theorem dX4_blow_29 : decode cX4_blow 29 = .ok (.invokestatic 41, 3) := by decide +kernel
theorem dX4_blow_32 : decode cX4_blow 32 = .ok (.invokestatic 45, 3) := by decide +kernel
theorem dX4_blow_35 : decode cX4_blow 35 = .ok (.aload_n 0, 1) := by decide +kernel
theorem dX4_blow_36 : decode cX4_blow 36 = .ok (.getfield 10, 3) := by decide +kernel
theorem dX4_blow_39 : decode cX4_blow 39 = .ok (.iload_n 1, 1) := by decide +kernel
theorem dX4_blow_40 : decode cX4_blow 40 = .ok (.invokevirtual 48, 3) := by decide +kernel
theorem dX4_blow_43 : decode cX4_blow 43 = .ok (.ifCond .ne 7, 3) := by decide +kernel
theorem dX4_blow_46 : decode cX4_blow 46 = .ok (.iconst 1, 1) := by decide +kernel
theorem dX4_blow_47 : decode cX4_blow 47 = .ok (.goto 4, 3) := by decide +kernel
theorem dX4_blow_50 : decode cX4_blow 50 = .ok (.iconst 0, 1) := by decide +kernel
theorem dX4_blow_51 : decode cX4_blow 51 = .ok (.invokestatic 52, 3) := by decide +kernel
theorem dX4_blow_54 : decode cX4_blow 54 = .ok (.aload_n 0, 1) := by decide +kernel
theorem dX4_blow_55 : decode cX4_blow 55 = .ok (.getfield 22, 3) := by decide +kernel
theorem dX4_blow_58 : decode cX4_blow 58 = .ok (.aload_n 0, 1) := by decide +kernel
theorem dX4_blow_59 : decode cX4_blow 59 = .ok (.getfield 10, 3) := by decide +kernel
theorem dX4_blow_62 : decode cX4_blow 62 = .ok (.invokevirtual 55, 3) := by decide +kernel
theorem dX4_blow_65 : decode cX4_blow 65 = .ok (.aload_n 0, 1) := by decide +kernel
theorem dX4_blow_66 : decode cX4_blow 66 = .ok (.getfield 10, 3) := by decide +kernel
theorem dX4_blow_69 : decode cX4_blow 69 = .ok (.iload_n 1, 1) := by decide +kernel
theorem dX4_blow_70 : decode cX4_blow 70 = .ok (.iload_n 2, 1) := by decide +kernel
theorem dX4_blow_71 : decode cX4_blow 71 = .ok (.iload_n 3, 1) := by decide +kernel
theorem dX4_blow_72 : decode cX4_blow 72 = .ok (.invokevirtual 59, 3) := by decide +kernel
theorem dX4_blow_75 : decode cX4_blow 75 = .ok (.aload_n 0, 1) := by decide +kernel
theorem dX4_blow_76 : decode cX4_blow 76 = .ok (.getfield 10, 3) := by decide +kernel
theorem dX4_blow_79 : decode cX4_blow 79 = .ok (.iload_n 1, 1) := by decide +kernel
theorem dX4_blow_80 : decode cX4_blow 80 = .ok (.iload_n 2, 1) := by decide +kernel
theorem dX4_blow_81 : decode cX4_blow 81 = .ok (.invokevirtual 63, 3) := by decide +kernel
theorem dX4_blow_84 : decode cX4_blow 84 = .ok (.ireturn, 1) := by decide +kernel
theorem dX4_put_0 : decode cX4_put 0 = .ok (.iload_n 1, 1) := by decide +kernel
theorem dX4_put_1 : decode cX4_put 1 = .ok (.bipush 16, 2) := by decide +kernel
theorem dX4_put_3 : decode cX4_put 3 = .ok (.invokestatic 33, 3) := by decide +kernel
theorem dX4_put_6 : decode cX4_put 6 = .ok (.ifCond .eq 16, 3) := by decide +kernel
theorem dX4_put_9 : decode cX4_put 9 = .ok (.iload_n 2, 1) := by decide +kernel
theorem dX4_put_10 : decode cX4_put 10 = .ok (.bipush 64, 2) := by decide +kernel
theorem dX4_put_12 : decode cX4_put 12 = .ok (.invokestatic 33, 3) := by decide +kernel
theorem dX4_put_15 : decode cX4_put 15 = .ok (.ifCond .eq 7, 3) := by decide +kernel
theorem dX4_put_18 : decode cX4_put 18 = .ok (.iconst 1, 1) := by decide +kernel
theorem dX4_put_19 : decode cX4_put 19 = .ok (.goto 4, 3) := by decide +kernel
theorem dX4_put_22 : decode cX4_put 22 = .ok (.iconst 0, 1) := by decide +kernel
theorem dX4_put_23 : decode cX4_put 23 = .ok (.invokestatic 45, 3) := by decide +kernel
theorem dX4_put_26 : decode cX4_put 26 = .ok (.aload_n 0, 1) := by decide +kernel
theorem dX4_put_27 : decode cX4_put 27 = .ok (.getfield 10, 3) := by decide +kernel
theorem dX4_put_30 : decode cX4_put 30 = .ok (.invokevirtual 67, 3) := by decide +kernel
theorem dX4_put_33 : decode cX4_put 33 = .ok (.iconst (-1), 1) := by decide +kernel
theorem dX4_put_34 : decode cX4_put 34 = .ok (.if_icmp .eq 7, 3) := by decide +kernel
theorem dX4_put_37 : decode cX4_put 37 = .ok (.iconst 1, 1) := by decide +kernel
theorem dX4_put_38 : decode cX4_put 38 = .ok (.goto 4, 3) := by decide +kernel
theorem dX4_put_41 : decode cX4_put 41 = .ok (.iconst 0, 1) := by decide +kernel
theorem dX4_put_42 : decode cX4_put 42 = .ok (.invokestatic 52, 3) := by decide +kernel
theorem dX4_put_45 : decode cX4_put 45 = .ok (.aload_n 0, 1) := by decide +kernel
theorem dX4_put_46 : decode cX4_put 46 = .ok (.getfield 22, 3) := by decide +kernel
theorem dX4_put_49 : decode cX4_put 49 = .ok (.aload_n 0, 1) := by decide +kernel
theorem dX4_put_50 : decode cX4_put 50 = .ok (.getfield 10, 3) := by decide +kernel
theorem dX4_put_53 : decode cX4_put 53 = .ok (.invokevirtual 55, 3) := by decide +kernel
theorem dX4_put_56 : decode cX4_put 56 = .ok (.aload_n 0, 1) := by decide +kernel
theorem dX4_put_57 : decode cX4_put 57 = .ok (.getfield 10, 3) := by decide +kernel
theorem dX4_put_60 : decode cX4_put 60 = .ok (.iload_n 1, 1) := by decide +kernel
theorem dX4_put_61 : decode cX4_put 61 = .ok (.iload_n 2, 1) := by decide +kernel
theorem dX4_put_62 : decode cX4_put 62 = .ok (.invokevirtual 71, 3) := by decide +kernel
theorem dX4_put_65 : decode cX4_put 65 = .ok (.ireturn, 1) := by decide +kernel
theorem dX4_drop_0 : decode cX4_drop 0 = .ok (.iload_n 1, 1) := by decide +kernel
theorem dX4_drop_1 : decode cX4_drop 1 = .ok (.bipush 16, 2) := by decide +kernel
theorem dX4_drop_3 : decode cX4_drop 3 = .ok (.invokestatic 33, 3) := by decide +kernel
theorem dX4_drop_6 : decode cX4_drop 6 = .ok (.invokestatic 45, 3) := by decide +kernel
theorem dX4_drop_9 : decode cX4_drop 9 = .ok (.aload_n 0, 1) := by decide +kernel
theorem dX4_drop_10 : decode cX4_drop 10 = .ok (.getfield 22, 3) := by decide +kernel
theorem dX4_drop_13 : decode cX4_drop 13 = .ok (.aload_n 0, 1) := by decide +kernel
theorem dX4_drop_14 : decode cX4_drop 14 = .ok (.getfield 10, 3) := by decide +kernel
theorem dX4_drop_17 : decode cX4_drop 17 = .ok (.invokevirtual 55, 3) := by decide +kernel
theorem dX4_drop_20 : decode cX4_drop 20 = .ok (.aload_n 0, 1) := by decide +kernel
theorem dX4_drop_21 : decode cX4_drop 21 = .ok (.getfield 10, 3) := by decide +kernel
theorem dX4_drop_24 : decode cX4_drop 24 = .ok (.iload_n 1, 1) := by decide +kernel
theorem dX4_drop_25 : decode cX4_drop 25 = .ok (.iconst (-1), 1) := by decide +kernel
theorem dX4_drop_26 : decode cX4_drop 26 = .ok (.iconst 3, 1) := by decide +kernel
theorem dX4_drop_27 : decode cX4_drop 27 = .ok (.invokevirtual 74, 3) := by decide +kernel
theorem dX4_drop_30 : decode cX4_drop 30 = .ok (.ireturn, 1) := by decide +kernel
theorem dX4_lock_0 : decode cX4_lock 0 = .ok (.iload_n 1, 1) := by decide +kernel
theorem dX4_lock_1 : decode cX4_lock 1 = .ok (.bipush 20, 2) := by decide +kernel
theorem dX4_lock_3 : decode cX4_lock 3 = .ok (.invokestatic 33, 3) := by decide +kernel
theorem dX4_lock_6 : decode cX4_lock 6 = .ok (.invokestatic 37, 3) := by decide +kernel
theorem dX4_lock_9 : decode cX4_lock 9 = .ok (.aload_n 0, 1) := by decide +kernel
theorem dX4_lock_10 : decode cX4_lock 10 = .ok (.getfield 10, 3) := by decide +kernel
theorem dX4_lock_13 : decode cX4_lock 13 = .ok (.iload_n 1, 1) := by decide +kernel
theorem dX4_lock_14 : decode cX4_lock 14 = .ok (.invokevirtual 48, 3) := by decide +kernel
theorem dX4_lock_17 : decode cX4_lock 17 = .ok (.ifCond .ne 7, 3) := by decide +kernel
theorem dX4_lock_20 : decode cX4_lock 20 = .ok (.iconst 1, 1) := by decide +kernel
theorem dX4_lock_21 : decode cX4_lock 21 = .ok (.goto 4, 3) := by decide +kernel
theorem dX4_lock_24 : decode cX4_lock 24 = .ok (.iconst 0, 1) := by decide +kernel
theorem dX4_lock_25 : decode cX4_lock 25 = .ok (.invokestatic 52, 3) := by decide +kernel
theorem dX4_lock_28 : decode cX4_lock 28 = .ok (.aload_n 0, 1) := by decide +kernel
theorem dX4_lock_29 : decode cX4_lock 29 = .ok (.getfield 22, 3) := by decide +kernel
theorem dX4_lock_32 : decode cX4_lock 32 = .ok (.aload_n 0, 1) := by decide +kernel
theorem dX4_lock_33 : decode cX4_lock 33 = .ok (.getfield 10, 3) := by decide +kernel
theorem dX4_lock_36 : decode cX4_lock 36 = .ok (.invokevirtual 55, 3) := by decide +kernel
theorem dX4_lock_39 : decode cX4_lock 39 = .ok (.aload_n 0, 1) := by decide +kernel
theorem dX4_lock_40 : decode cX4_lock 40 = .ok (.getfield 10, 3) := by decide +kernel
theorem dX4_lock_43 : decode cX4_lock 43 = .ok (.iload_n 1, 1) := by decide +kernel
theorem dX4_lock_44 : decode cX4_lock 44 = .ok (.bipush 15, 2) := by decide +kernel
theorem dX4_lock_46 : decode cX4_lock 46 = .ok (.iconst 3, 1) := by decide +kernel
theorem dX4_lock_47 : decode cX4_lock 47 = .ok (.invokevirtual 59, 3) := by decide +kernel
theorem dX4_lock_50 : decode cX4_lock 50 = .ok (.aload_n 0, 1) := by decide +kernel
theorem dX4_lock_51 : decode cX4_lock 51 = .ok (.getfield 10, 3) := by decide +kernel
theorem dX4_lock_54 : decode cX4_lock 54 = .ok (.invokevirtual 78, 3) := by decide +kernel
theorem dX4_lock_57 : decode cX4_lock 57 = .ok (.ireturn, 1) := by decide +kernel
theorem dX4_refresh_0 : decode cX4_refresh 0 = .ok (.iload_n 1, 1) := by decide +kernel
theorem dX4_refresh_1 : decode cX4_refresh 1 = .ok (.bipush 20, 2) := by decide +kernel
theorem dX4_refresh_3 : decode cX4_refresh 3 = .ok (.invokestatic 33, 3) := by decide +kernel
theorem dX4_refresh_6 : decode cX4_refresh 6 = .ok (.invokestatic 37, 3) := by decide +kernel
theorem dX4_refresh_9 : decode cX4_refresh 9 = .ok (.aload_n 0, 1) := by decide +kernel
theorem dX4_refresh_10 : decode cX4_refresh 10 = .ok (.getfield 10, 3) := by decide +kernel
theorem dX4_refresh_13 : decode cX4_refresh 13 = .ok (.iload_n 1, 1) := by decide +kernel
theorem dX4_refresh_14 : decode cX4_refresh 14 = .ok (.invokevirtual 48, 3) := by decide +kernel
theorem dX4_refresh_17 : decode cX4_refresh 17 = .ok (.ifCond .ne 7, 3) := by decide +kernel
theorem dX4_refresh_20 : decode cX4_refresh 20 = .ok (.iconst 1, 1) := by decide +kernel
theorem dX4_refresh_21 : decode cX4_refresh 21 = .ok (.goto 4, 3) := by decide +kernel
theorem dX4_refresh_24 : decode cX4_refresh 24 = .ok (.iconst 0, 1) := by decide +kernel
theorem dX4_refresh_25 : decode cX4_refresh 25 = .ok (.invokestatic 52, 3) := by decide +kernel
theorem dX4_refresh_28 : decode cX4_refresh 28 = .ok (.aload_n 0, 1) := by decide +kernel
theorem dX4_refresh_29 : decode cX4_refresh 29 = .ok (.getfield 22, 3) := by decide +kernel
theorem dX4_refresh_32 : decode cX4_refresh 32 = .ok (.aload_n 0, 1) := by decide +kernel
theorem dX4_refresh_33 : decode cX4_refresh 33 = .ok (.getfield 10, 3) := by decide +kernel
theorem dX4_refresh_36 : decode cX4_refresh 36 = .ok (.invokevirtual 55, 3) := by decide +kernel
theorem dX4_refresh_39 : decode cX4_refresh 39 = .ok (.aload_n 0, 1) := by decide +kernel
theorem dX4_refresh_40 : decode cX4_refresh 40 = .ok (.getfield 10, 3) := by decide +kernel
theorem dX4_refresh_43 : decode cX4_refresh 43 = .ok (.iload_n 1, 1) := by decide +kernel
theorem dX4_refresh_44 : decode cX4_refresh 44 = .ok (.invokevirtual 81, 3) := by decide +kernel
theorem dX4_refresh_47 : decode cX4_refresh 47 = .ok (.ireturn, 1) := by decide +kernel
theorem dX4_heat_0 : decode cX4_heat 0 = .ok (.iload_n 1, 1) := by decide +kernel
theorem dX4_heat_1 : decode cX4_heat 1 = .ok (.iconst 1, 1) := by decide +kernel
theorem dX4_heat_2 : decode cX4_heat 2 = .ok (.bipush 9, 2) := by decide +kernel
theorem dX4_heat_4 : decode cX4_heat 4 = .ok (.invokestatic 41, 3) := by decide +kernel
theorem dX4_heat_7 : decode cX4_heat 7 = .ok (.invokestatic 45, 3) := by decide +kernel
theorem dX4_heat_10 : decode cX4_heat 10 = .ok (.aload_n 0, 1) := by decide +kernel
theorem dX4_heat_11 : decode cX4_heat 11 = .ok (.getfield 22, 3) := by decide +kernel
theorem dX4_heat_14 : decode cX4_heat 14 = .ok (.aload_n 0, 1) := by decide +kernel
theorem dX4_heat_15 : decode cX4_heat 15 = .ok (.getfield 10, 3) := by decide +kernel
theorem dX4_heat_18 : decode cX4_heat 18 = .ok (.invokevirtual 55, 3) := by decide +kernel
theorem dX4_heat_21 : decode cX4_heat 21 = .ok (.aload_n 0, 1) := by decide +kernel
theorem dX4_heat_22 : decode cX4_heat 22 = .ok (.getfield 10, 3) := by decide +kernel
theorem dX4_heat_25 : decode cX4_heat 25 = .ok (.iload_n 1, 1) := by decide +kernel
theorem dX4_heat_26 : decode cX4_heat 26 = .ok (.invokevirtual 85, 3) := by decide +kernel
theorem dX4_heat_29 : decode cX4_heat 29 = .ok (.ireturn, 1) := by decide +kernel
theorem dX4_pass_0 : decode cX4_pass 0 = .ok (.iload_n 1, 1) := by decide +kernel
theorem dX4_pass_1 : decode cX4_pass 1 = .ok (.iconst 1, 1) := by decide +kernel
theorem dX4_pass_2 : decode cX4_pass 2 = .ok (.bipush 99, 2) := by decide +kernel
theorem dX4_pass_4 : decode cX4_pass 4 = .ok (.invokestatic 41, 3) := by decide +kernel
theorem dX4_pass_7 : decode cX4_pass 7 = .ok (.invokestatic 45, 3) := by decide +kernel
theorem dX4_pass_10 : decode cX4_pass 10 = .ok (.aload_n 0, 1) := by decide +kernel
theorem dX4_pass_11 : decode cX4_pass 11 = .ok (.getfield 10, 3) := by decide +kernel
theorem dX4_pass_14 : decode cX4_pass 14 = .ok (.getfield 88, 3) := by decide +kernel
theorem dX4_pass_17 : decode cX4_pass 17 = .ok (.iload_n 1, 1) := by decide +kernel
theorem dX4_pass_18 : decode cX4_pass 18 = .ok (.iadd, 1) := by decide +kernel
theorem dX4_pass_19 : decode cX4_pass 19 = .ok (.sipush 9999, 3) := by decide +kernel
theorem dX4_pass_22 : decode cX4_pass 22 = .ok (.if_icmp .gt 7, 3) := by decide +kernel
theorem dX4_pass_25 : decode cX4_pass 25 = .ok (.iconst 1, 1) := by decide +kernel
theorem dX4_pass_26 : decode cX4_pass 26 = .ok (.goto 4, 3) := by decide +kernel
theorem dX4_pass_29 : decode cX4_pass 29 = .ok (.iconst 0, 1) := by decide +kernel
theorem dX4_pass_30 : decode cX4_pass 30 = .ok (.invokestatic 52, 3) := by decide +kernel
theorem dX4_pass_33 : decode cX4_pass 33 = .ok (.aload_n 0, 1) := by decide +kernel
theorem dX4_pass_34 : decode cX4_pass 34 = .ok (.getfield 22, 3) := by decide +kernel
theorem dX4_pass_37 : decode cX4_pass 37 = .ok (.aload_n 0, 1) := by decide +kernel
theorem dX4_pass_38 : decode cX4_pass 38 = .ok (.getfield 10, 3) := by decide +kernel
theorem dX4_pass_41 : decode cX4_pass 41 = .ok (.invokevirtual 55, 3) := by decide +kernel
theorem dX4_pass_44 : decode cX4_pass 44 = .ok (.aload_n 0, 1) := by decide +kernel
theorem dX4_pass_45 : decode cX4_pass 45 = .ok (.getfield 10, 3) := by decide +kernel
theorem dX4_pass_48 : decode cX4_pass 48 = .ok (.dup, 1) := by decide +kernel
theorem dX4_pass_49 : decode cX4_pass 49 = .ok (.getfield 88, 3) := by decide +kernel
theorem dX4_pass_52 : decode cX4_pass 52 = .ok (.iload_n 1, 1) := by decide +kernel
theorem dX4_pass_53 : decode cX4_pass 53 = .ok (.iadd, 1) := by decide +kernel
theorem dX4_pass_54 : decode cX4_pass 54 = .ok (.putfield 88, 3) := by decide +kernel
theorem dX4_pass_57 : decode cX4_pass 57 = .ok (.aload_n 0, 1) := by decide +kernel
theorem dX4_pass_58 : decode cX4_pass 58 = .ok (.getfield 10, 3) := by decide +kernel
theorem dX4_pass_61 : decode cX4_pass 61 = .ok (.getfield 88, 3) := by decide +kernel
theorem dX4_pass_64 : decode cX4_pass 64 = .ok (.ireturn, 1) := by decide +kernel
theorem dX4_set_0 : decode cX4_set 0 = .ok (.iload_n 1, 1) := by decide +kernel
theorem dX4_set_1 : decode cX4_set 1 = .ok (.iconst 4, 1) := by decide +kernel
theorem dX4_set_2 : decode cX4_set 2 = .ok (.invokestatic 33, 3) := by decide +kernel
theorem dX4_set_5 : decode cX4_set 5 = .ok (.invokestatic 37, 3) := by decide +kernel
theorem dX4_set_8 : decode cX4_set 8 = .ok (.iload_n 2, 1) := by decide +kernel
theorem dX4_set_9 : decode cX4_set 9 = .ok (.getstatic 92, 3) := by decide +kernel
theorem dX4_set_12 : decode cX4_set 12 = .ok (.iload_n 1, 1) := by decide +kernel
theorem dX4_set_13 : decode cX4_set 13 = .ok (.iaload, 1) := by decide +kernel
theorem dX4_set_14 : decode cX4_set 14 = .ok (.getstatic 96, 3) := by decide +kernel
theorem dX4_set_17 : decode cX4_set 17 = .ok (.iload_n 1, 1) := by decide +kernel
theorem dX4_set_18 : decode cX4_set 18 = .ok (.iaload, 1) := by decide +kernel
theorem dX4_set_19 : decode cX4_set 19 = .ok (.invokestatic 41, 3) := by decide +kernel
theorem dX4_set_22 : decode cX4_set 22 = .ok (.invokestatic 45, 3) := by decide +kernel
theorem dX4_set_25 : decode cX4_set 25 = .ok (.aload_n 0, 1) := by decide +kernel
theorem dX4_set_26 : decode cX4_set 26 = .ok (.getfield 22, 3) := by decide +kernel
theorem dX4_set_29 : decode cX4_set 29 = .ok (.aload_n 0, 1) := by decide +kernel
theorem dX4_set_30 : decode cX4_set 30 = .ok (.getfield 10, 3) := by decide +kernel
theorem dX4_set_33 : decode cX4_set 33 = .ok (.invokevirtual 55, 3) := by decide +kernel
theorem dX4_set_36 : decode cX4_set 36 = .ok (.aload_n 0, 1) := by decide +kernel
theorem dX4_set_37 : decode cX4_set 37 = .ok (.getfield 10, 3) := by decide +kernel
theorem dX4_set_40 : decode cX4_set 40 = .ok (.getfield 99, 3) := by decide +kernel
theorem dX4_set_43 : decode cX4_set 43 = .ok (.iload_n 1, 1) := by decide +kernel
theorem dX4_set_44 : decode cX4_set 44 = .ok (.iaload, 1) := by decide +kernel
theorem dX4_set_45 : decode cX4_set 45 = .ok (.istore_n 3, 1) := by decide +kernel
theorem dX4_set_46 : decode cX4_set 46 = .ok (.aload_n 0, 1) := by decide +kernel
theorem dX4_set_47 : decode cX4_set 47 = .ok (.getfield 10, 3) := by decide +kernel
theorem dX4_set_50 : decode cX4_set 50 = .ok (.getfield 99, 3) := by decide +kernel
theorem dX4_set_53 : decode cX4_set 53 = .ok (.iload_n 1, 1) := by decide +kernel
theorem dX4_set_54 : decode cX4_set 54 = .ok (.iload_n 2, 1) := by decide +kernel
theorem dX4_set_55 : decode cX4_set 55 = .ok (.iastore, 1) := by decide +kernel
theorem dX4_set_56 : decode cX4_set 56 = .ok (.iload_n 3, 1) := by decide +kernel
theorem dX4_set_57 : decode cX4_set 57 = .ok (.ireturn, 1) := by decide +kernel
theorem dX4_undo_0 : decode cX4_undo 0 = .ok (.aload_n 0, 1) := by decide +kernel
theorem dX4_undo_1 : decode cX4_undo 1 = .ok (.getfield 22, 3) := by decide +kernel
theorem dX4_undo_4 : decode cX4_undo 4 = .ok (.getfield 132, 3) := by decide +kernel
theorem dX4_undo_7 : decode cX4_undo 7 = .ok (.ifCond .le 7, 3) := by decide +kernel
theorem dX4_undo_10 : decode cX4_undo 10 = .ok (.iconst 1, 1) := by decide +kernel
theorem dX4_undo_11 : decode cX4_undo 11 = .ok (.goto 4, 3) := by decide +kernel
theorem dX4_undo_14 : decode cX4_undo 14 = .ok (.iconst 0, 1) := by decide +kernel
theorem dX4_undo_15 : decode cX4_undo 15 = .ok (.invokestatic 52, 3) := by decide +kernel
theorem dX4_undo_18 : decode cX4_undo 18 = .ok (.aload_n 0, 1) := by decide +kernel
theorem dX4_undo_19 : decode cX4_undo 19 = .ok (.getfield 22, 3) := by decide +kernel
theorem dX4_undo_22 : decode cX4_undo 22 = .ok (.aload_n 0, 1) := by decide +kernel
theorem dX4_undo_23 : decode cX4_undo 23 = .ok (.getfield 10, 3) := by decide +kernel
theorem dX4_undo_26 : decode cX4_undo 26 = .ok (.invokevirtual 135, 3) := by decide +kernel
theorem dX4_undo_29 : decode cX4_undo 29 = .ok (.aload_n 0, 1) := by decide +kernel
theorem dX4_undo_30 : decode cX4_undo 30 = .ok (.getfield 22, 3) := by decide +kernel
theorem dX4_undo_33 : decode cX4_undo 33 = .ok (.getfield 132, 3) := by decide +kernel
theorem dX4_undo_36 : decode cX4_undo 36 = .ok (.ireturn, 1) := by decide +kernel
theorem dX4_fuse_0 : decode cX4_fuse 0 = .ok (.iload_n 1, 1) := by decide +kernel
theorem dX4_fuse_1 : decode cX4_fuse 1 = .ok (.bipush 20, 2) := by decide +kernel
theorem dX4_fuse_3 : decode cX4_fuse 3 = .ok (.invokestatic 33, 3) := by decide +kernel
theorem dX4_fuse_6 : decode cX4_fuse 6 = .ok (.ifCond .eq 16, 3) := by decide +kernel
theorem dX4_fuse_9 : decode cX4_fuse 9 = .ok (.iload_n 2, 1) := by decide +kernel
theorem dX4_fuse_10 : decode cX4_fuse 10 = .ok (.bipush 16, 2) := by decide +kernel
theorem dX4_fuse_12 : decode cX4_fuse 12 = .ok (.invokestatic 33, 3) := by decide +kernel
theorem dX4_fuse_15 : decode cX4_fuse 15 = .ok (.ifCond .eq 7, 3) := by decide +kernel
theorem dX4_fuse_18 : decode cX4_fuse 18 = .ok (.iconst 1, 1) := by decide +kernel
theorem dX4_fuse_19 : decode cX4_fuse 19 = .ok (.goto 4, 3) := by decide +kernel
theorem dX4_fuse_22 : decode cX4_fuse 22 = .ok (.iconst 0, 1) := by decide +kernel
theorem dX4_fuse_23 : decode cX4_fuse 23 = .ok (.invokestatic 37, 3) := by decide +kernel
theorem dX4_fuse_26 : decode cX4_fuse 26 = .ok (.iload_n 3, 1) := by decide +kernel
theorem dX4_fuse_27 : decode cX4_fuse 27 = .ok (.iconst 3, 1) := by decide +kernel
theorem dX4_fuse_28 : decode cX4_fuse 28 = .ok (.invokestatic 33, 3) := by decide +kernel
theorem dX4_fuse_31 : decode cX4_fuse 31 = .ok (.invokestatic 45, 3) := by decide +kernel
theorem dX4_fuse_34 : decode cX4_fuse 34 = .ok (.iload_n 3, 1) := by decide +kernel
theorem dX4_fuse_35 : decode cX4_fuse 35 = .ok (.ifCond .ne 13, 3) := by decide +kernel
theorem dX4_fuse_38 : decode cX4_fuse 38 = .ok (.aload_n 0, 1) := by decide +kernel
theorem dX4_fuse_39 : decode cX4_fuse 39 = .ok (.getfield 10, 3) := by decide +kernel
theorem dX4_fuse_42 : decode cX4_fuse 42 = .ok (.iload_n 1, 1) := by decide +kernel
theorem dX4_fuse_43 : decode cX4_fuse 43 = .ok (.iload_n 2, 1) := by decide +kernel
theorem dX4_fuse_44 : decode cX4_fuse 44 = .ok (.invokevirtual 63, 3) := by decide +kernel
theorem dX4_fuse_47 : decode cX4_fuse 47 = .ok (.ireturn, 1) := by decide +kernel
theorem dX4_fuse_48 : decode cX4_fuse 48 = .ok (.aload_n 0, 1) := by decide +kernel
theorem dX4_fuse_49 : decode cX4_fuse 49 = .ok (.getfield 10, 3) := by decide +kernel
theorem dX4_fuse_52 : decode cX4_fuse 52 = .ok (.iload_n 1, 1) := by decide +kernel
theorem dX4_fuse_53 : decode cX4_fuse 53 = .ok (.aload_n 0, 1) := by decide +kernel
theorem dX4_fuse_54 : decode cX4_fuse 54 = .ok (.getfield 10, 3) := by decide +kernel
theorem dX4_fuse_57 : decode cX4_fuse 57 = .ok (.getfield 88, 3) := by decide +kernel
theorem dX4_fuse_60 : decode cX4_fuse 60 = .ok (.iload_n 3, 1) := by decide +kernel
theorem dX4_fuse_61 : decode cX4_fuse 61 = .ok (.iconst 2, 1) := by decide +kernel
theorem dX4_fuse_62 : decode cX4_fuse 62 = .ok (.if_icmp .ne 7, 3) := by decide +kernel
theorem dX4_fuse_65 : decode cX4_fuse 65 = .ok (.iconst 1, 1) := by decide +kernel
theorem dX4_fuse_66 : decode cX4_fuse 66 = .ok (.goto 4, 3) := by decide +kernel
theorem dX4_fuse_69 : decode cX4_fuse 69 = .ok (.iconst 0, 1) := by decide +kernel
theorem dX4_fuse_70 : decode cX4_fuse 70 = .ok (.invokevirtual 138, 3) := by decide +kernel
theorem dX4_fuse_73 : decode cX4_fuse 73 = .ok (.iload_n 2, 1) := by decide +kernel
theorem dX4_fuse_74 : decode cX4_fuse 74 = .ok (.ishr, 1) := by decide +kernel
theorem dX4_fuse_75 : decode cX4_fuse 75 = .ok (.iconst 1, 1) := by decide +kernel
theorem dX4_fuse_76 : decode cX4_fuse 76 = .ok (.iand, 1) := by decide +kernel
theorem dX4_fuse_77 : decode cX4_fuse 77 = .ok (.ireturn, 1) := by decide +kernel
theorem dX4_row_0 : decode cX4_row 0 = .ok (.iload_n 1, 1) := by decide +kernel
theorem dX4_row_1 : decode cX4_row 1 = .ok (.bipush 20, 2) := by decide +kernel
theorem dX4_row_3 : decode cX4_row 3 = .ok (.invokestatic 33, 3) := by decide +kernel
theorem dX4_row_6 : decode cX4_row 6 = .ok (.invokestatic 37, 3) := by decide +kernel
theorem dX4_row_9 : decode cX4_row 9 = .ok (.iload_n 2, 1) := by decide +kernel
theorem dX4_row_10 : decode cX4_row 10 = .ok (.bipush 9, 2) := by decide +kernel
theorem dX4_row_12 : decode cX4_row 12 = .ok (.invokestatic 33, 3) := by decide +kernel
theorem dX4_row_15 : decode cX4_row 15 = .ok (.invokestatic 45, 3) := by decide +kernel
theorem dX4_row_18 : decode cX4_row 18 = .ok (.aload_n 0, 1) := by decide +kernel
theorem dX4_row_19 : decode cX4_row 19 = .ok (.iload_n 1, 1) := by decide +kernel
theorem dX4_row_20 : decode cX4_row 20 = .ok (.iload_n 2, 1) := by decide +kernel
theorem dX4_row_21 : decode cX4_row 21 = .ok (.invokevirtual 142, 3) := by decide +kernel
theorem dX4_row_24 : decode cX4_row 24 = .ok (.ireturn, 1) := by decide +kernel
theorem dX4_key_0 : decode cX4_key 0 = .ok (.iload_n 1, 1) := by decide +kernel
theorem dX4_key_1 : decode cX4_key 1 = .ok (.bipush 16, 2) := by decide +kernel
theorem dX4_key_3 : decode cX4_key 3 = .ok (.invokestatic 33, 3) := by decide +kernel
theorem dX4_key_6 : decode cX4_key 6 = .ok (.ifCond .eq 16, 3) := by decide +kernel
theorem dX4_key_9 : decode cX4_key 9 = .ok (.iload_n 2, 1) := by decide +kernel
theorem dX4_key_10 : decode cX4_key 10 = .ok (.bipush 6, 2) := by decide +kernel
theorem dX4_key_12 : decode cX4_key 12 = .ok (.invokestatic 33, 3) := by decide +kernel
theorem dX4_key_15 : decode cX4_key 15 = .ok (.ifCond .eq 7, 3) := by decide +kernel
theorem dX4_key_18 : decode cX4_key 18 = .ok (.iconst 1, 1) := by decide +kernel
theorem dX4_key_19 : decode cX4_key 19 = .ok (.goto 4, 3) := by decide +kernel
theorem dX4_key_22 : decode cX4_key 22 = .ok (.iconst 0, 1) := by decide +kernel
theorem dX4_key_23 : decode cX4_key 23 = .ok (.invokestatic 45, 3) := by decide +kernel
theorem dX4_key_26 : decode cX4_key 26 = .ok (.aload_n 0, 1) := by decide +kernel
theorem dX4_key_27 : decode cX4_key 27 = .ok (.iload_n 1, 1) := by decide +kernel
theorem dX4_key_28 : decode cX4_key 28 = .ok (.iload_n 2, 1) := by decide +kernel
theorem dX4_key_29 : decode cX4_key 29 = .ok (.invokevirtual 145, 3) := by decide +kernel
theorem dX4_key_32 : decode cX4_key 32 = .ok (.ireturn, 1) := by decide +kernel
theorem dX4_history_0 : decode cX4_history 0 = .ok (.iload_n 1, 1) := by decide +kernel
theorem dX4_history_1 : decode cX4_history 1 = .ok (.bipush 16, 2) := by decide +kernel
theorem dX4_history_3 : decode cX4_history 3 = .ok (.invokestatic 33, 3) := by decide +kernel
theorem dX4_history_6 : decode cX4_history 6 = .ok (.ifCond .eq 11, 3) := by decide +kernel
theorem dX4_history_9 : decode cX4_history 9 = .ok (.iload_n 2, 1) := by decide +kernel
theorem dX4_history_10 : decode cX4_history 10 = .ok (.ifCond .lt 7, 3) := by decide +kernel
theorem dX4_history_13 : decode cX4_history 13 = .ok (.iconst 1, 1) := by decide +kernel
theorem dX4_history_14 : decode cX4_history 14 = .ok (.goto 4, 3) := by decide +kernel
theorem dX4_history_17 : decode cX4_history 17 = .ok (.iconst 0, 1) := by decide +kernel
theorem dX4_history_18 : decode cX4_history 18 = .ok (.invokestatic 45, 3) := by decide +kernel
theorem dX4_history_21 : decode cX4_history 21 = .ok (.aload_n 0, 1) := by decide +kernel
theorem dX4_history_22 : decode cX4_history 22 = .ok (.getfield 10, 3) := by decide +kernel
theorem dX4_history_25 : decode cX4_history 25 = .ok (.iload_n 1, 1) := by decide +kernel
theorem dX4_history_26 : decode cX4_history 26 = .ok (.iload_n 2, 1) := by decide +kernel
theorem dX4_history_27 : decode cX4_history 27 = .ok (.invokevirtual 148, 3) := by decide +kernel
theorem dX4_history_30 : decode cX4_history 30 = .ok (.ireturn, 1) := by decide +kernel
theorem dX4_count_0 : decode cX4_count 0 = .ok (.iload_n 1, 1) := by decide +kernel
theorem dX4_count_1 : decode cX4_count 1 = .ok (.bipush 13, 2) := by decide +kernel
theorem dX4_count_3 : decode cX4_count 3 = .ok (.invokestatic 33, 3) := by decide +kernel
theorem dX4_count_6 : decode cX4_count 6 = .ok (.invokestatic 45, 3) := by decide +kernel
theorem dX4_count_9 : decode cX4_count 9 = .ok (.aload_n 0, 1) := by decide +kernel
theorem dX4_count_10 : decode cX4_count 10 = .ok (.iload_n 1, 1) := by decide +kernel
theorem dX4_count_11 : decode cX4_count 11 = .ok (.invokevirtual 151, 3) := by decide +kernel
theorem dX4_count_14 : decode cX4_count 14 = .ok (.ireturn, 1) := by decide +kernel
theorem dX4_setting_0 : decode cX4_setting 0 = .ok (.iload_n 1, 1) := by decide +kernel
theorem dX4_setting_1 : decode cX4_setting 1 = .ok (.iconst 4, 1) := by decide +kernel
theorem dX4_setting_2 : decode cX4_setting 2 = .ok (.invokestatic 33, 3) := by decide +kernel
theorem dX4_setting_5 : decode cX4_setting 5 = .ok (.invokestatic 37, 3) := by decide +kernel
theorem dX4_setting_8 : decode cX4_setting 8 = .ok (.aload_n 0, 1) := by decide +kernel
theorem dX4_setting_9 : decode cX4_setting 9 = .ok (.getfield 10, 3) := by decide +kernel
theorem dX4_setting_12 : decode cX4_setting 12 = .ok (.getfield 99, 3) := by decide +kernel
theorem dX4_setting_15 : decode cX4_setting 15 = .ok (.iload_n 1, 1) := by decide +kernel
theorem dX4_setting_16 : decode cX4_setting 16 = .ok (.iaload, 1) := by decide +kernel
theorem dX4_setting_17 : decode cX4_setting 17 = .ok (.ireturn, 1) := by decide +kernel
theorem dX4_ifPut_0 : decode cX4_ifPut 0 = .ok (.iload_n 1, 1) := by decide +kernel
theorem dX4_ifPut_1 : decode cX4_ifPut 1 = .ok (.bipush 16, 2) := by decide +kernel
theorem dX4_ifPut_3 : decode cX4_ifPut 3 = .ok (.invokestatic 33, 3) := by decide +kernel
theorem dX4_ifPut_6 : decode cX4_ifPut 6 = .ok (.ifCond .eq 24, 3) := by decide +kernel
theorem dX4_ifPut_9 : decode cX4_ifPut 9 = .ok (.iload_n 2, 1) := by decide +kernel
theorem dX4_ifPut_10 : decode cX4_ifPut 10 = .ok (.bipush 64, 2) := by decide +kernel
theorem dX4_ifPut_12 : decode cX4_ifPut 12 = .ok (.invokestatic 33, 3) := by decide +kernel
theorem dX4_ifPut_15 : decode cX4_ifPut 15 = .ok (.ifCond .eq 15, 3) := by decide +kernel
theorem dX4_ifPut_18 : decode cX4_ifPut 18 = .ok (.iload_n 3, 1) := by decide +kernel
theorem dX4_ifPut_19 : decode cX4_ifPut 19 = .ok (.iconst 5, 1) := by decide +kernel
theorem dX4_ifPut_20 : decode cX4_ifPut 20 = .ok (.invokestatic 33, 3) := by decide +kernel
theorem dX4_ifPut_23 : decode cX4_ifPut 23 = .ok (.ifCond .eq 7, 3) := by decide +kernel
theorem dX4_ifPut_26 : decode cX4_ifPut 26 = .ok (.iconst 1, 1) := by decide +kernel
theorem dX4_ifPut_27 : decode cX4_ifPut 27 = .ok (.goto 4, 3) := by decide +kernel
theorem dX4_ifPut_30 : decode cX4_ifPut 30 = .ok (.iconst 0, 1) := by decide +kernel
theorem dX4_ifPut_31 : decode cX4_ifPut 31 = .ok (.invokestatic 45, 3) := by decide +kernel
theorem dX4_ifPut_34 : decode cX4_ifPut 34 = .ok (.aload_n 0, 1) := by decide +kernel
theorem dX4_ifPut_35 : decode cX4_ifPut 35 = .ok (.iload_n 1, 1) := by decide +kernel
theorem dX4_ifPut_36 : decode cX4_ifPut 36 = .ok (.iload_n 2, 1) := by decide +kernel
theorem dX4_ifPut_37 : decode cX4_ifPut 37 = .ok (.iload_n 3, 1) := by decide +kernel
theorem dX4_ifPut_38 : decode cX4_ifPut 38 = .ok (.invokevirtual 154, 3) := by decide +kernel
theorem dX4_ifPut_41 : decode cX4_ifPut 41 = .ok (.ireturn, 1) := by decide +kernel
theorem dX4_ifHeated_0 : decode cX4_ifHeated 0 = .ok (.iload_n 1, 1) := by decide +kernel
theorem dX4_ifHeated_1 : decode cX4_ifHeated 1 = .ok (.iconst 1, 1) := by decide +kernel
theorem dX4_ifHeated_2 : decode cX4_ifHeated 2 = .ok (.bipush 9, 2) := by decide +kernel
theorem dX4_ifHeated_4 : decode cX4_ifHeated 4 = .ok (.invokestatic 41, 3) := by decide +kernel
theorem dX4_ifHeated_7 : decode cX4_ifHeated 7 = .ok (.ifCond .eq 15, 3) := by decide +kernel
theorem dX4_ifHeated_10 : decode cX4_ifHeated 10 = .ok (.iload_n 2, 1) := by decide +kernel
theorem dX4_ifHeated_11 : decode cX4_ifHeated 11 = .ok (.iconst 3, 1) := by decide +kernel
theorem dX4_ifHeated_12 : decode cX4_ifHeated 12 = .ok (.invokestatic 33, 3) := by decide +kernel
theorem dX4_ifHeated_15 : decode cX4_ifHeated 15 = .ok (.ifCond .eq 7, 3) := by decide +kernel
theorem dX4_ifHeated_18 : decode cX4_ifHeated 18 = .ok (.iconst 1, 1) := by decide +kernel
theorem dX4_ifHeated_19 : decode cX4_ifHeated 19 = .ok (.goto 4, 3) := by decide +kernel
theorem dX4_ifHeated_22 : decode cX4_ifHeated 22 = .ok (.iconst 0, 1) := by decide +kernel
theorem dX4_ifHeated_23 : decode cX4_ifHeated 23 = .ok (.invokestatic 45, 3) := by decide +kernel
theorem dX4_ifHeated_26 : decode cX4_ifHeated 26 = .ok (.aload_n 0, 1) := by decide +kernel
theorem dX4_ifHeated_27 : decode cX4_ifHeated 27 = .ok (.iload_n 1, 1) := by decide +kernel
theorem dX4_ifHeated_28 : decode cX4_ifHeated 28 = .ok (.iload_n 2, 1) := by decide +kernel
theorem dX4_ifHeated_29 : decode cX4_ifHeated 29 = .ok (.invokevirtual 157, 3) := by decide +kernel
theorem dX4_ifHeated_32 : decode cX4_ifHeated 32 = .ok (.ireturn, 1) := by decide +kernel
theorem dX4_ifRead_0 : decode cX4_ifRead 0 = .ok (.iload_n 1, 1) := by decide +kernel
theorem dX4_ifRead_1 : decode cX4_ifRead 1 = .ok (.iconst 0, 1) := by decide +kernel
theorem dX4_ifRead_2 : decode cX4_ifRead 2 = .ok (.bipush 99, 2) := by decide +kernel
theorem dX4_ifRead_4 : decode cX4_ifRead 4 = .ok (.invokestatic 41, 3) := by decide +kernel
theorem dX4_ifRead_7 : decode cX4_ifRead 7 = .ok (.invokestatic 45, 3) := by decide +kernel
theorem dX4_ifRead_10 : decode cX4_ifRead 10 = .ok (.aload_n 0, 1) := by decide +kernel
theorem dX4_ifRead_11 : decode cX4_ifRead 11 = .ok (.iload_n 1, 1) := by decide +kernel
theorem dX4_ifRead_12 : decode cX4_ifRead 12 = .ok (.iload_n 2, 1) := by decide +kernel
theorem dX4_ifRead_13 : decode cX4_ifRead 13 = .ok (.invokevirtual 160, 3) := by decide +kernel
theorem dX4_ifRead_16 : decode cX4_ifRead 16 = .ok (.ireturn, 1) := by decide +kernel
theorem dX4_worst_0 : decode cX4_worst 0 = .ok (.iconst (-1), 1) := by decide +kernel
theorem dX4_worst_1 : decode cX4_worst 1 = .ok (.istore_n 1, 1) := by decide +kernel
theorem dX4_worst_2 : decode cX4_worst 2 = .ok (.iconst 0, 1) := by decide +kernel
theorem dX4_worst_3 : decode cX4_worst 3 = .ok (.istore_n 2, 1) := by decide +kernel
theorem dX4_worst_4 : decode cX4_worst 4 = .ok (.iconst 0, 1) := by decide +kernel
theorem dX4_worst_5 : decode cX4_worst 5 = .ok (.istore_n 3, 1) := by decide +kernel
theorem dX4_worst_6 : decode cX4_worst 6 = .ok (.iload_n 3, 1) := by decide +kernel
theorem dX4_worst_7 : decode cX4_worst 7 = .ok (.bipush 20, 2) := by decide +kernel
theorem dX4_worst_9 : decode cX4_worst 9 = .ok (.if_icmp .ge 53, 3) := by decide +kernel
theorem dX4_worst_12 : decode cX4_worst 12 = .ok (.aload_n 0, 1) := by decide +kernel
theorem dX4_worst_13 : decode cX4_worst 13 = .ok (.getfield 10, 3) := by decide +kernel
theorem dX4_worst_16 : decode cX4_worst 16 = .ok (.iload_n 3, 1) := by decide +kernel
theorem dX4_worst_17 : decode cX4_worst 17 = .ok (.invokevirtual 164, 3) := by decide +kernel
theorem dX4_worst_20 : decode cX4_worst 20 = .ok (.istore 4, 2) := by decide +kernel
theorem dX4_worst_22 : decode cX4_worst 22 = .ok (.iload 4, 2) := by decide +kernel
theorem dX4_worst_24 : decode cX4_worst 24 = .ok (.iload_n 2, 1) := by decide +kernel
theorem dX4_worst_25 : decode cX4_worst 25 = .ok (.if_icmp .le 31, 3) := by decide +kernel
theorem dX4_worst_28 : decode cX4_worst 28 = .ok (.aload_n 0, 1) := by decide +kernel
theorem dX4_worst_29 : decode cX4_worst 29 = .ok (.getfield 10, 3) := by decide +kernel
theorem dX4_worst_32 : decode cX4_worst 32 = .ok (.iload_n 3, 1) := by decide +kernel
theorem dX4_worst_33 : decode cX4_worst 33 = .ok (.invokevirtual 48, 3) := by decide +kernel
theorem dX4_worst_36 : decode cX4_worst 36 = .ok (.ifCond .ne 20, 3) := by decide +kernel
theorem dX4_worst_39 : decode cX4_worst 39 = .ok (.aload_n 0, 1) := by decide +kernel
theorem dX4_worst_40 : decode cX4_worst 40 = .ok (.getfield 10, 3) := by decide +kernel
theorem dX4_worst_43 : decode cX4_worst 43 = .ok (.iload_n 3, 1) := by decide +kernel
theorem dX4_worst_44 : decode cX4_worst 44 = .ok (.invokevirtual 167, 3) := by decide +kernel
theorem dX4_worst_47 : decode cX4_worst 47 = .ok (.iconst 4, 1) := by decide +kernel
theorem dX4_worst_48 : decode cX4_worst 48 = .ok (.if_icmp .ne 8, 3) := by decide +kernel
theorem dX4_worst_51 : decode cX4_worst 51 = .ok (.iload_n 3, 1) := by decide +kernel
theorem dX4_worst_52 : decode cX4_worst 52 = .ok (.istore_n 1, 1) := by decide +kernel
theorem dX4_worst_53 : decode cX4_worst 53 = .ok (.iload 4, 2) := by decide +kernel
theorem dX4_worst_55 : decode cX4_worst 55 = .ok (.istore_n 2, 1) := by decide +kernel
theorem dX4_worst_56 : decode cX4_worst 56 = .ok (.iinc 3 1, 3) := by decide +kernel
theorem dX4_worst_59 : decode cX4_worst 59 = .ok (.goto (-53), 3) := by decide +kernel
theorem dX4_worst_62 : decode cX4_worst 62 = .ok (.iload_n 1, 1) := by decide +kernel
theorem dX4_worst_63 : decode cX4_worst 63 = .ok (.ireturn, 1) := by decide +kernel
theorem dX4_sureShare_0 : decode cX4_sureShare 0 = .ok (.iconst 0, 1) := by decide +kernel
theorem dX4_sureShare_1 : decode cX4_sureShare 1 = .ok (.istore_n 1, 1) := by decide +kernel
theorem dX4_sureShare_2 : decode cX4_sureShare 2 = .ok (.iconst 0, 1) := by decide +kernel
theorem dX4_sureShare_3 : decode cX4_sureShare 3 = .ok (.istore_n 2, 1) := by decide +kernel
theorem dX4_sureShare_4 : decode cX4_sureShare 4 = .ok (.iconst 0, 1) := by decide +kernel
theorem dX4_sureShare_5 : decode cX4_sureShare 5 = .ok (.istore_n 3, 1) := by decide +kernel
theorem dX4_sureShare_6 : decode cX4_sureShare 6 = .ok (.iload_n 3, 1) := by decide +kernel
theorem dX4_sureShare_7 : decode cX4_sureShare 7 = .ok (.bipush 20, 2) := by decide +kernel
theorem dX4_sureShare_9 : decode cX4_sureShare 9 = .ok (.if_icmp .ge 59, 3) := by decide +kernel
theorem dX4_sureShare_12 : decode cX4_sureShare 12 = .ok (.iload_n 1, 1) := by decide +kernel
theorem dX4_sureShare_13 : decode cX4_sureShare 13 = .ok (.aload_n 0, 1) := by decide +kernel
theorem dX4_sureShare_14 : decode cX4_sureShare 14 = .ok (.getfield 10, 3) := by decide +kernel
theorem dX4_sureShare_17 : decode cX4_sureShare 17 = .ok (.getfield 170, 3) := by decide +kernel
theorem dX4_sureShare_20 : decode cX4_sureShare 20 = .ok (.iload_n 3, 1) := by decide +kernel
theorem dX4_sureShare_21 : decode cX4_sureShare 21 = .ok (.iaload, 1) := by decide +kernel
theorem dX4_sureShare_22 : decode cX4_sureShare 22 = .ok (.aload_n 0, 1) := by decide +kernel
theorem dX4_sureShare_23 : decode cX4_sureShare 23 = .ok (.getfield 10, 3) := by decide +kernel
theorem dX4_sureShare_26 : decode cX4_sureShare 26 = .ok (.getfield 173, 3) := by decide +kernel
theorem dX4_sureShare_29 : decode cX4_sureShare 29 = .ok (.iload_n 3, 1) := by decide +kernel
theorem dX4_sureShare_30 : decode cX4_sureShare 30 = .ok (.iaload, 1) := by decide +kernel
theorem dX4_sureShare_31 : decode cX4_sureShare 31 = .ok (.iand, 1) := by decide +kernel
theorem dX4_sureShare_32 : decode cX4_sureShare 32 = .ok (.invokestatic 176, 3) := by decide +kernel
theorem dX4_sureShare_35 : decode cX4_sureShare 35 = .ok (.iadd, 1) := by decide +kernel
theorem dX4_sureShare_36 : decode cX4_sureShare 36 = .ok (.istore_n 1, 1) := by decide +kernel
theorem dX4_sureShare_37 : decode cX4_sureShare 37 = .ok (.iload_n 2, 1) := by decide +kernel
theorem dX4_sureShare_38 : decode cX4_sureShare 38 = .ok (.aload_n 0, 1) := by decide +kernel
theorem dX4_sureShare_39 : decode cX4_sureShare 39 = .ok (.getfield 10, 3) := by decide +kernel
theorem dX4_sureShare_42 : decode cX4_sureShare 42 = .ok (.getfield 170, 3) := by decide +kernel
theorem dX4_sureShare_45 : decode cX4_sureShare 45 = .ok (.iload_n 3, 1) := by decide +kernel
theorem dX4_sureShare_46 : decode cX4_sureShare 46 = .ok (.iaload, 1) := by decide +kernel
theorem dX4_sureShare_47 : decode cX4_sureShare 47 = .ok (.aload_n 0, 1) := by decide +kernel
theorem dX4_sureShare_48 : decode cX4_sureShare 48 = .ok (.getfield 10, 3) := by decide +kernel
theorem dX4_sureShare_51 : decode cX4_sureShare 51 = .ok (.getfield 173, 3) := by decide +kernel
theorem dX4_sureShare_54 : decode cX4_sureShare 54 = .ok (.iload_n 3, 1) := by decide +kernel
theorem dX4_sureShare_55 : decode cX4_sureShare 55 = .ok (.iaload, 1) := by decide +kernel
theorem dX4_sureShare_56 : decode cX4_sureShare 56 = .ok (.ior, 1) := by decide +kernel
theorem dX4_sureShare_57 : decode cX4_sureShare 57 = .ok (.invokestatic 176, 3) := by decide +kernel
theorem dX4_sureShare_60 : decode cX4_sureShare 60 = .ok (.iadd, 1) := by decide +kernel
theorem dX4_sureShare_61 : decode cX4_sureShare 61 = .ok (.istore_n 2, 1) := by decide +kernel
theorem dX4_sureShare_62 : decode cX4_sureShare 62 = .ok (.iinc 3 1, 3) := by decide +kernel
theorem dX4_sureShare_65 : decode cX4_sureShare 65 = .ok (.goto (-59), 3) := by decide +kernel
theorem dX4_sureShare_68 : decode cX4_sureShare 68 = .ok (.iload_n 2, 1) := by decide +kernel
theorem dX4_sureShare_69 : decode cX4_sureShare 69 = .ok (.ifCond .ne 5, 3) := by decide +kernel
theorem dX4_sureShare_72 : decode cX4_sureShare 72 = .ok (.dconst 1, 1) := by decide +kernel
theorem dX4_sureShare_73 : decode cX4_sureShare 73 = .ok (.dreturn, 1) := by decide +kernel
theorem dX4_sureShare_74 : decode cX4_sureShare 74 = .ok (.iload_n 1, 1) := by decide +kernel
theorem dX4_sureShare_75 : decode cX4_sureShare 75 = .ok (.i2d, 1) := by decide +kernel
theorem dX4_sureShare_76 : decode cX4_sureShare 76 = .ok (.iload_n 2, 1) := by decide +kernel
theorem dX4_sureShare_77 : decode cX4_sureShare 77 = .ok (.i2d, 1) := by decide +kernel
theorem dX4_sureShare_78 : decode cX4_sureShare 78 = .ok (.ddiv, 1) := by decide +kernel
theorem dX4_sureShare_79 : decode cX4_sureShare 79 = .ok (.dreturn, 1) := by decide +kernel
theorem dX4_isIndex_0 : decode cX4_isIndex 0 = .ok (.iload_n 0, 1) := by decide +kernel
theorem dX4_isIndex_1 : decode cX4_isIndex 1 = .ok (.ifCond .lt 12, 3) := by decide +kernel
theorem dX4_isIndex_4 : decode cX4_isIndex 4 = .ok (.iload_n 0, 1) := by decide +kernel
theorem dX4_isIndex_5 : decode cX4_isIndex 5 = .ok (.iload_n 1, 1) := by decide +kernel
theorem dX4_isIndex_6 : decode cX4_isIndex 6 = .ok (.if_icmp .ge 7, 3) := by decide +kernel
theorem dX4_isIndex_9 : decode cX4_isIndex 9 = .ok (.iconst 1, 1) := by decide +kernel
theorem dX4_isIndex_10 : decode cX4_isIndex 10 = .ok (.goto 4, 3) := by decide +kernel
theorem dX4_isIndex_13 : decode cX4_isIndex 13 = .ok (.iconst 0, 1) := by decide +kernel
theorem dX4_isIndex_14 : decode cX4_isIndex 14 = .ok (.ireturn, 1) := by decide +kernel
theorem dX4_isWithin_0 : decode cX4_isWithin 0 = .ok (.iload_n 0, 1) := by decide +kernel
theorem dX4_isWithin_1 : decode cX4_isWithin 1 = .ok (.iload_n 1, 1) := by decide +kernel
theorem dX4_isWithin_2 : decode cX4_isWithin 2 = .ok (.if_icmp .lt 12, 3) := by decide +kernel
theorem dX4_isWithin_5 : decode cX4_isWithin 5 = .ok (.iload_n 0, 1) := by decide +kernel
theorem dX4_isWithin_6 : decode cX4_isWithin 6 = .ok (.iload_n 2, 1) := by decide +kernel
theorem dX4_isWithin_7 : decode cX4_isWithin 7 = .ok (.if_icmp .gt 7, 3) := by decide +kernel
theorem dX4_isWithin_10 : decode cX4_isWithin 10 = .ok (.iconst 1, 1) := by decide +kernel
theorem dX4_isWithin_11 : decode cX4_isWithin 11 = .ok (.goto 4, 3) := by decide +kernel
theorem dX4_isWithin_14 : decode cX4_isWithin 14 = .ok (.iconst 0, 1) := by decide +kernel
theorem dX4_isWithin_15 : decode cX4_isWithin 15 = .ok (.ireturn, 1) := by decide +kernel
theorem dX4_requireIndex_0 : decode cX4_requireIndex 0 = .ok (.iload_n 0, 1) := by decide +kernel
theorem dX4_requireIndex_1 : decode cX4_requireIndex 1 = .ok (.ifCond .ne 13, 3) := by decide +kernel
theorem dX4_requireIndex_4 : decode cX4_requireIndex 4 = .ok (.new 200, 3) := by decide +kernel
theorem dX4_requireIndex_7 : decode cX4_requireIndex 7 = .ok (.dup, 1) := by decide +kernel
theorem dX4_requireIndex_8 : decode cX4_requireIndex 8 = .ok (.ldc 202, 2) := by decide +kernel
theorem dX4_requireIndex_10 : decode cX4_requireIndex 10 = .ok (.invokespecial 204, 3) := by decide +kernel
theorem dX4_requireIndex_13 : decode cX4_requireIndex 13 = .ok (.athrow, 1) := by decide +kernel
theorem dX4_requireIndex_14 : decode cX4_requireIndex 14 = .ok (.return_, 1) := by decide +kernel
theorem dX4_requireArgument_0 : decode cX4_requireArgument 0 = .ok (.iload_n 0, 1) := by decide +kernel
theorem dX4_requireArgument_1 : decode cX4_requireArgument 1 = .ok (.ifCond .ne 13, 3) := by decide +kernel
theorem dX4_requireArgument_4 : decode cX4_requireArgument 4 = .ok (.new 207, 3) := by decide +kernel
theorem dX4_requireArgument_7 : decode cX4_requireArgument 7 = .ok (.dup, 1) := by decide +kernel
theorem dX4_requireArgument_8 : decode cX4_requireArgument 8 = .ok (.ldc 209, 2) := by decide +kernel
theorem dX4_requireArgument_10 : decode cX4_requireArgument 10 = .ok (.invokespecial 211, 3) := by decide +kernel
theorem dX4_requireArgument_13 : decode cX4_requireArgument 13 = .ok (.athrow, 1) := by decide +kernel
theorem dX4_requireArgument_14 : decode cX4_requireArgument 14 = .ok (.return_, 1) := by decide +kernel
theorem dX4_requireState_0 : decode cX4_requireState 0 = .ok (.iload_n 0, 1) := by decide +kernel
theorem dX4_requireState_1 : decode cX4_requireState 1 = .ok (.ifCond .ne 13, 3) := by decide +kernel
theorem dX4_requireState_4 : decode cX4_requireState 4 = .ok (.new 212, 3) := by decide +kernel
theorem dX4_requireState_7 : decode cX4_requireState 7 = .ok (.dup, 1) := by decide +kernel
theorem dX4_requireState_8 : decode cX4_requireState 8 = .ok (.ldc 214, 2) := by decide +kernel
theorem dX4_requireState_10 : decode cX4_requireState 10 = .ok (.invokespecial 216, 3) := by decide +kernel
theorem dX4_requireState_13 : decode cX4_requireState 13 = .ok (.athrow, 1) := by decide +kernel
theorem dX4_requireState_14 : decode cX4_requireState 14 = .ok (.return_, 1) := by decide +kernel
theorem dX4_rowProperty_0 : decode cX4_rowProperty 0 = .ok (.aload_n 0, 1) := by decide +kernel
theorem dX4_rowProperty_1 : decode cX4_rowProperty 1 = .ok (.getfield 10, 3) := by decide +kernel
theorem dX4_rowProperty_4 : decode cX4_rowProperty 4 = .ok (.iload_n 1, 1) := by decide +kernel
theorem dX4_rowProperty_5 : decode cX4_rowProperty 5 = .ok (.invokevirtual 229, 3) := by decide +kernel
theorem dX4_rowProperty_8 : decode cX4_rowProperty 8 = .ok (.istore_n 3, 1) := by decide +kernel
theorem dX4_rowProperty_9 : decode cX4_rowProperty 9 = .ok (.iload_n 2, 1) := by decide +kernel
theorem dX4_rowProperty_10 : decode cX4_rowProperty 10 = .ok (.tableswitch 99 0 7 #[46, 48, 53, 58, 63, 68, 73, 82], 46) := by decide +kernel
theorem dX4_rowProperty_56 : decode cX4_rowProperty 56 = .ok (.iload_n 3, 1) := by decide +kernel
theorem dX4_rowProperty_57 : decode cX4_rowProperty 57 = .ok (.ireturn, 1) := by decide +kernel
theorem dX4_rowProperty_58 : decode cX4_rowProperty 58 = .ok (.iload_n 3, 1) := by decide +kernel
theorem dX4_rowProperty_59 : decode cX4_rowProperty 59 = .ok (.invokestatic 232, 3) := by decide +kernel
theorem dX4_rowProperty_62 : decode cX4_rowProperty 62 = .ok (.ireturn, 1) := by decide +kernel
theorem dX4_rowProperty_63 : decode cX4_rowProperty 63 = .ok (.iload_n 3, 1) := by decide +kernel
theorem dX4_rowProperty_64 : decode cX4_rowProperty 64 = .ok (.invokestatic 237, 3) := by decide +kernel
theorem dX4_rowProperty_67 : decode cX4_rowProperty 67 = .ok (.ireturn, 1) := by decide +kernel
theorem dX4_rowProperty_68 : decode cX4_rowProperty 68 = .ok (.iload_n 3, 1) := by decide +kernel
theorem dX4_rowProperty_69 : decode cX4_rowProperty 69 = .ok (.invokestatic 240, 3) := by decide +kernel
theorem dX4_rowProperty_72 : decode cX4_rowProperty 72 = .ok (.ireturn, 1) := by decide +kernel
theorem dX4_rowProperty_73 : decode cX4_rowProperty 73 = .ok (.iload_n 3, 1) := by decide +kernel
theorem dX4_rowProperty_74 : decode cX4_rowProperty 74 = .ok (.invokestatic 243, 3) := by decide +kernel
theorem dX4_rowProperty_77 : decode cX4_rowProperty 77 = .ok (.ireturn, 1) := by decide +kernel
theorem dX4_rowProperty_78 : decode cX4_rowProperty 78 = .ok (.iload_n 3, 1) := by decide +kernel
theorem dX4_rowProperty_79 : decode cX4_rowProperty 79 = .ok (.invokestatic 246, 3) := by decide +kernel
theorem dX4_rowProperty_82 : decode cX4_rowProperty 82 = .ok (.ireturn, 1) := by decide +kernel
theorem dX4_rowProperty_83 : decode cX4_rowProperty 83 = .ok (.aload_n 0, 1) := by decide +kernel
theorem dX4_rowProperty_84 : decode cX4_rowProperty 84 = .ok (.getfield 10, 3) := by decide +kernel
theorem dX4_rowProperty_87 : decode cX4_rowProperty 87 = .ok (.iload_n 1, 1) := by decide +kernel
theorem dX4_rowProperty_88 : decode cX4_rowProperty 88 = .ok (.invokevirtual 164, 3) := by decide +kernel
theorem dX4_rowProperty_91 : decode cX4_rowProperty 91 = .ok (.ireturn, 1) := by decide +kernel
theorem dX4_rowProperty_92 : decode cX4_rowProperty 92 = .ok (.aload_n 0, 1) := by decide +kernel
theorem dX4_rowProperty_93 : decode cX4_rowProperty 93 = .ok (.getfield 10, 3) := by decide +kernel
theorem dX4_rowProperty_96 : decode cX4_rowProperty 96 = .ok (.iload_n 1, 1) := by decide +kernel
theorem dX4_rowProperty_97 : decode cX4_rowProperty 97 = .ok (.invokevirtual 48, 3) := by decide +kernel
theorem dX4_rowProperty_100 : decode cX4_rowProperty 100 = .ok (.ifCond .eq 7, 3) := by decide +kernel
theorem dX4_rowProperty_103 : decode cX4_rowProperty 103 = .ok (.iconst 1, 1) := by decide +kernel
theorem dX4_rowProperty_104 : decode cX4_rowProperty 104 = .ok (.goto 4, 3) := by decide +kernel
theorem dX4_rowProperty_107 : decode cX4_rowProperty 107 = .ok (.iconst 0, 1) := by decide +kernel
theorem dX4_rowProperty_108 : decode cX4_rowProperty 108 = .ok (.ireturn, 1) := by decide +kernel
theorem dX4_rowProperty_109 : decode cX4_rowProperty 109 = .ok (.aload_n 0, 1) := by decide +kernel
theorem dX4_rowProperty_110 : decode cX4_rowProperty 110 = .ok (.getfield 10, 3) := by decide +kernel
theorem dX4_rowProperty_113 : decode cX4_rowProperty 113 = .ok (.iload_n 1, 1) := by decide +kernel
theorem dX4_rowProperty_114 : decode cX4_rowProperty 114 = .ok (.invokevirtual 249, 3) := by decide +kernel
theorem dX4_rowProperty_117 : decode cX4_rowProperty 117 = .ok (.ireturn, 1) := by decide +kernel
theorem dX4_keyProperty_0 : decode cX4_keyProperty 0 = .ok (.iload_n 2, 1) := by decide +kernel
theorem dX4_keyProperty_1 : decode cX4_keyProperty 1 = .ok (.tableswitch 94 0 4 #[35, 44, 67, 76, 85], 35) := by decide +kernel
theorem dX4_keyProperty_36 : decode cX4_keyProperty 36 = .ok (.aload_n 0, 1) := by decide +kernel
theorem dX4_keyProperty_37 : decode cX4_keyProperty 37 = .ok (.getfield 10, 3) := by decide +kernel
theorem dX4_keyProperty_40 : decode cX4_keyProperty 40 = .ok (.iload_n 1, 1) := by decide +kernel
theorem dX4_keyProperty_41 : decode cX4_keyProperty 41 = .ok (.invokevirtual 252, 3) := by decide +kernel
theorem dX4_keyProperty_44 : decode cX4_keyProperty 44 = .ok (.ireturn, 1) := by decide +kernel
theorem dX4_keyProperty_45 : decode cX4_keyProperty 45 = .ok (.aload_n 0, 1) := by decide +kernel
theorem dX4_keyProperty_46 : decode cX4_keyProperty 46 = .ok (.getfield 10, 3) := by decide +kernel
theorem dX4_keyProperty_49 : decode cX4_keyProperty 49 = .ok (.iload_n 1, 1) := by decide +kernel
theorem dX4_keyProperty_50 : decode cX4_keyProperty 50 = .ok (.aload_n 0, 1) := by decide +kernel
theorem dX4_keyProperty_51 : decode cX4_keyProperty 51 = .ok (.getfield 10, 3) := by decide +kernel
theorem dX4_keyProperty_54 : decode cX4_keyProperty 54 = .ok (.getfield 88, 3) := by decide +kernel
theorem dX4_keyProperty_57 : decode cX4_keyProperty 57 = .ok (.aload_n 0, 1) := by decide +kernel
theorem dX4_keyProperty_58 : decode cX4_keyProperty 58 = .ok (.getfield 10, 3) := by decide +kernel
theorem dX4_keyProperty_61 : decode cX4_keyProperty 61 = .ok (.invokevirtual 255, 3) := by decide +kernel
theorem dX4_keyProperty_64 : decode cX4_keyProperty 64 = .ok (.invokevirtual 258, 3) := by decide +kernel
theorem dX4_keyProperty_67 : decode cX4_keyProperty 67 = .ok (.ireturn, 1) := by decide +kernel
theorem dX4_keyProperty_68 : decode cX4_keyProperty 68 = .ok (.aload_n 0, 1) := by decide +kernel
theorem dX4_keyProperty_69 : decode cX4_keyProperty 69 = .ok (.getfield 10, 3) := by decide +kernel
theorem dX4_keyProperty_72 : decode cX4_keyProperty 72 = .ok (.iload_n 1, 1) := by decide +kernel
theorem dX4_keyProperty_73 : decode cX4_keyProperty 73 = .ok (.invokevirtual 261, 3) := by decide +kernel
theorem dX4_keyProperty_76 : decode cX4_keyProperty 76 = .ok (.ireturn, 1) := by decide +kernel
theorem dX4_keyProperty_77 : decode cX4_keyProperty 77 = .ok (.aload_n 0, 1) := by decide +kernel
theorem dX4_keyProperty_78 : decode cX4_keyProperty 78 = .ok (.getfield 10, 3) := by decide +kernel
theorem dX4_keyProperty_81 : decode cX4_keyProperty 81 = .ok (.iload_n 1, 1) := by decide +kernel
theorem dX4_keyProperty_82 : decode cX4_keyProperty 82 = .ok (.invokevirtual 264, 3) := by decide +kernel
theorem dX4_keyProperty_85 : decode cX4_keyProperty 85 = .ok (.ireturn, 1) := by decide +kernel
theorem dX4_keyProperty_86 : decode cX4_keyProperty 86 = .ok (.aload_n 0, 1) := by decide +kernel
theorem dX4_keyProperty_87 : decode cX4_keyProperty 87 = .ok (.getfield 10, 3) := by decide +kernel
theorem dX4_keyProperty_90 : decode cX4_keyProperty 90 = .ok (.iload_n 1, 1) := by decide +kernel
theorem dX4_keyProperty_91 : decode cX4_keyProperty 91 = .ok (.invokevirtual 267, 3) := by decide +kernel
theorem dX4_keyProperty_94 : decode cX4_keyProperty 94 = .ok (.ireturn, 1) := by decide +kernel
theorem dX4_keyProperty_95 : decode cX4_keyProperty 95 = .ok (.aload_n 0, 1) := by decide +kernel
theorem dX4_keyProperty_96 : decode cX4_keyProperty 96 = .ok (.getfield 10, 3) := by decide +kernel
theorem dX4_keyProperty_99 : decode cX4_keyProperty 99 = .ok (.iload_n 1, 1) := by decide +kernel
theorem dX4_keyProperty_100 : decode cX4_keyProperty 100 = .ok (.invokevirtual 270, 3) := by decide +kernel
theorem dX4_keyProperty_103 : decode cX4_keyProperty 103 = .ok (.ireturn, 1) := by decide +kernel
theorem dX4_countOf_0 : decode cX4_countOf 0 = .ok (.iload_n 1, 1) := by decide +kernel
theorem dX4_countOf_1 : decode cX4_countOf 1 = .ok (.tableswitch 131 0 12 #[67, 131, 131, 131, 131, 131, 75, 83, 91, 99, 107, 115, 123], 67) := by decide +kernel
theorem dX4_countOf_68 : decode cX4_countOf 68 = .ok (.aload_n 0, 1) := by decide +kernel
theorem dX4_countOf_69 : decode cX4_countOf 69 = .ok (.getfield 10, 3) := by decide +kernel
theorem dX4_countOf_72 : decode cX4_countOf 72 = .ok (.getfield 88, 3) := by decide +kernel
theorem dX4_countOf_75 : decode cX4_countOf 75 = .ok (.ireturn, 1) := by decide +kernel
theorem dX4_countOf_76 : decode cX4_countOf 76 = .ok (.aload_n 0, 1) := by decide +kernel
theorem dX4_countOf_77 : decode cX4_countOf 77 = .ok (.getfield 10, 3) := by decide +kernel
theorem dX4_countOf_80 : decode cX4_countOf 80 = .ok (.invokevirtual 78, 3) := by decide +kernel
theorem dX4_countOf_83 : decode cX4_countOf 83 = .ok (.ireturn, 1) := by decide +kernel
theorem dX4_countOf_84 : decode cX4_countOf 84 = .ok (.aload_n 0, 1) := by decide +kernel
theorem dX4_countOf_85 : decode cX4_countOf 85 = .ok (.getfield 10, 3) := by decide +kernel
theorem dX4_countOf_88 : decode cX4_countOf 88 = .ok (.invokevirtual 273, 3) := by decide +kernel
theorem dX4_countOf_91 : decode cX4_countOf 91 = .ok (.ireturn, 1) := by decide +kernel
theorem dX4_countOf_92 : decode cX4_countOf 92 = .ok (.aload_n 0, 1) := by decide +kernel
theorem dX4_countOf_93 : decode cX4_countOf 93 = .ok (.getfield 10, 3) := by decide +kernel
theorem dX4_countOf_96 : decode cX4_countOf 96 = .ok (.getfield 276, 3) := by decide +kernel
theorem dX4_countOf_99 : decode cX4_countOf 99 = .ok (.ireturn, 1) := by decide +kernel
theorem dX4_countOf_100 : decode cX4_countOf 100 = .ok (.aload_n 0, 1) := by decide +kernel
theorem dX4_countOf_101 : decode cX4_countOf 101 = .ok (.getfield 10, 3) := by decide +kernel
theorem dX4_countOf_104 : decode cX4_countOf 104 = .ok (.invokevirtual 279, 3) := by decide +kernel
theorem dX4_countOf_107 : decode cX4_countOf 107 = .ok (.ireturn, 1) := by decide +kernel
theorem dX4_countOf_108 : decode cX4_countOf 108 = .ok (.aload_n 0, 1) := by decide +kernel
theorem dX4_countOf_109 : decode cX4_countOf 109 = .ok (.getfield 10, 3) := by decide +kernel
theorem dX4_countOf_112 : decode cX4_countOf 112 = .ok (.invokevirtual 67, 3) := by decide +kernel
theorem dX4_countOf_115 : decode cX4_countOf 115 = .ok (.ireturn, 1) := by decide +kernel
theorem dX4_countOf_116 : decode cX4_countOf 116 = .ok (.aload_n 0, 1) := by decide +kernel
theorem dX4_countOf_117 : decode cX4_countOf 117 = .ok (.getfield 10, 3) := by decide +kernel
theorem dX4_countOf_120 : decode cX4_countOf 120 = .ok (.getfield 282, 3) := by decide +kernel
theorem dX4_countOf_123 : decode cX4_countOf 123 = .ok (.ireturn, 1) := by decide +kernel
theorem dX4_countOf_124 : decode cX4_countOf 124 = .ok (.aload_n 0, 1) := by decide +kernel
theorem dX4_countOf_125 : decode cX4_countOf 125 = .ok (.getfield 22, 3) := by decide +kernel
theorem dX4_countOf_128 : decode cX4_countOf 128 = .ok (.getfield 132, 3) := by decide +kernel
theorem dX4_countOf_131 : decode cX4_countOf 131 = .ok (.ireturn, 1) := by decide +kernel
theorem dX4_countOf_132 : decode cX4_countOf 132 = .ok (.aload_n 0, 1) := by decide +kernel
theorem dX4_countOf_133 : decode cX4_countOf 133 = .ok (.getfield 10, 3) := by decide +kernel
theorem dX4_countOf_136 : decode cX4_countOf 136 = .ok (.iload_n 1, 1) := by decide +kernel
theorem dX4_countOf_137 : decode cX4_countOf 137 = .ok (.iconst 1, 1) := by decide +kernel
theorem dX4_countOf_138 : decode cX4_countOf 138 = .ok (.isub, 1) := by decide +kernel
theorem dX4_countOf_139 : decode cX4_countOf 139 = .ok (.invokevirtual 285, 3) := by decide +kernel
theorem dX4_countOf_142 : decode cX4_countOf 142 = .ok (.ireturn, 1) := by decide +kernel
theorem dX4_putOutcome_0 : decode cX4_putOutcome 0 = .ok (.aload_n 0, 1) := by decide +kernel
theorem dX4_putOutcome_1 : decode cX4_putOutcome 1 = .ok (.getfield 10, 3) := by decide +kernel
theorem dX4_putOutcome_4 : decode cX4_putOutcome 4 = .ok (.invokevirtual 67, 3) := by decide +kernel
theorem dX4_putOutcome_7 : decode cX4_putOutcome 7 = .ok (.istore 4, 2) := by decide +kernel
theorem dX4_putOutcome_9 : decode cX4_putOutcome 9 = .ok (.iload 4, 2) := by decide +kernel
theorem dX4_putOutcome_11 : decode cX4_putOutcome 11 = .ok (.iconst (-1), 1) := by decide +kernel
theorem dX4_putOutcome_12 : decode cX4_putOutcome 12 = .ok (.if_icmp .ne 5, 3) := by decide +kernel
theorem dX4_putOutcome_15 : decode cX4_putOutcome 15 = .ok (.iconst (-1), 1) := by decide +kernel
theorem dX4_putOutcome_16 : decode cX4_putOutcome 16 = .ok (.ireturn, 1) := by decide +kernel
theorem dX4_putOutcome_17 : decode cX4_putOutcome 17 = .ok (.aload_n 0, 1) := by decide +kernel
theorem dX4_putOutcome_18 : decode cX4_putOutcome 18 = .ok (.getfield 16, 3) := by decide +kernel
theorem dX4_putOutcome_21 : decode cX4_putOutcome 21 = .ok (.aload_n 0, 1) := by decide +kernel
theorem dX4_putOutcome_22 : decode cX4_putOutcome 22 = .ok (.getfield 10, 3) := by decide +kernel
theorem dX4_putOutcome_25 : decode cX4_putOutcome 25 = .ok (.invokevirtual 288, 3) := by decide +kernel
theorem dX4_putOutcome_28 : decode cX4_putOutcome 28 = .ok (.aload_n 0, 1) := by decide +kernel
theorem dX4_putOutcome_29 : decode cX4_putOutcome 29 = .ok (.getfield 16, 3) := by decide +kernel
theorem dX4_putOutcome_32 : decode cX4_putOutcome 32 = .ok (.iload 4, 2) := by decide +kernel
theorem dX4_putOutcome_34 : decode cX4_putOutcome 34 = .ok (.iload_n 1, 1) := by decide +kernel
theorem dX4_putOutcome_35 : decode cX4_putOutcome 35 = .ok (.iload_n 2, 1) := by decide +kernel
theorem dX4_putOutcome_36 : decode cX4_putOutcome 36 = .ok (.invokevirtual 291, 3) := by decide +kernel
theorem dX4_putOutcome_39 : decode cX4_putOutcome 39 = .ok (.istore 5, 2) := by decide +kernel
theorem dX4_putOutcome_41 : decode cX4_putOutcome 41 = .ok (.aload_n 0, 1) := by decide +kernel
theorem dX4_putOutcome_42 : decode cX4_putOutcome 42 = .ok (.getfield 16, 3) := by decide +kernel
theorem dX4_putOutcome_45 : decode cX4_putOutcome 45 = .ok (.iload 4, 2) := by decide +kernel
theorem dX4_putOutcome_47 : decode cX4_putOutcome 47 = .ok (.iload_n 1, 1) := by decide +kernel
theorem dX4_putOutcome_48 : decode cX4_putOutcome 48 = .ok (.invokevirtual 294, 3) := by decide +kernel
theorem dX4_putOutcome_51 : decode cX4_putOutcome 51 = .ok (.istore 6, 2) := by decide +kernel
theorem dX4_putOutcome_53 : decode cX4_putOutcome 53 = .ok (.iload_n 3, 1) := by decide +kernel
theorem dX4_putOutcome_54 : decode cX4_putOutcome 54 = .ok (.tableswitch 68 0 3 #[30, 33, 43, 59], 30) := by decide +kernel
theorem dX4_putOutcome_84 : decode cX4_putOutcome 84 = .ok (.iload 5, 2) := by decide +kernel
theorem dX4_putOutcome_86 : decode cX4_putOutcome 86 = .ok (.ireturn, 1) := by decide +kernel
theorem dX4_putOutcome_87 : decode cX4_putOutcome 87 = .ok (.aload_n 0, 1) := by decide +kernel
theorem dX4_putOutcome_88 : decode cX4_putOutcome 88 = .ok (.getfield 16, 3) := by decide +kernel
theorem dX4_putOutcome_91 : decode cX4_putOutcome 91 = .ok (.iload 4, 2) := by decide +kernel
theorem dX4_putOutcome_93 : decode cX4_putOutcome 93 = .ok (.invokevirtual 167, 3) := by decide +kernel
theorem dX4_putOutcome_96 : decode cX4_putOutcome 96 = .ok (.ireturn, 1) := by decide +kernel
theorem dX4_putOutcome_97 : decode cX4_putOutcome 97 = .ok (.aload_n 0, 1) := by decide +kernel
theorem dX4_putOutcome_98 : decode cX4_putOutcome 98 = .ok (.getfield 16, 3) := by decide +kernel
theorem dX4_putOutcome_101 : decode cX4_putOutcome 101 = .ok (.getfield 276, 3) := by decide +kernel
theorem dX4_putOutcome_104 : decode cX4_putOutcome 104 = .ok (.aload_n 0, 1) := by decide +kernel
theorem dX4_putOutcome_105 : decode cX4_putOutcome 105 = .ok (.getfield 10, 3) := by decide +kernel
theorem dX4_putOutcome_108 : decode cX4_putOutcome 108 = .ok (.getfield 276, 3) := by decide +kernel
theorem dX4_putOutcome_111 : decode cX4_putOutcome 111 = .ok (.isub, 1) := by decide +kernel
theorem dX4_putOutcome_112 : decode cX4_putOutcome 112 = .ok (.ireturn, 1) := by decide +kernel
theorem dX4_putOutcome_113 : decode cX4_putOutcome 113 = .ok (.aload_n 0, 1) := by decide +kernel
theorem dX4_putOutcome_114 : decode cX4_putOutcome 114 = .ok (.getfield 16, 3) := by decide +kernel
theorem dX4_putOutcome_117 : decode cX4_putOutcome 117 = .ok (.iload_n 1, 1) := by decide +kernel
theorem dX4_putOutcome_118 : decode cX4_putOutcome 118 = .ok (.invokevirtual 252, 3) := by decide +kernel
theorem dX4_putOutcome_121 : decode cX4_putOutcome 121 = .ok (.ireturn, 1) := by decide +kernel
theorem dX4_putOutcome_122 : decode cX4_putOutcome 122 = .ok (.iload 6, 2) := by decide +kernel
theorem dX4_putOutcome_124 : decode cX4_putOutcome 124 = .ok (.ireturn, 1) := by decide +kernel
theorem dX4_heatOutcome_0 : decode cX4_heatOutcome 0 = .ok (.aload_n 0, 1) := by decide +kernel
theorem dX4_heatOutcome_1 : decode cX4_heatOutcome 1 = .ok (.getfield 16, 3) := by decide +kernel
theorem dX4_heatOutcome_4 : decode cX4_heatOutcome 4 = .ok (.aload_n 0, 1) := by decide +kernel
theorem dX4_heatOutcome_5 : decode cX4_heatOutcome 5 = .ok (.getfield 10, 3) := by decide +kernel
theorem dX4_heatOutcome_8 : decode cX4_heatOutcome 8 = .ok (.invokevirtual 288, 3) := by decide +kernel
theorem dX4_heatOutcome_11 : decode cX4_heatOutcome 11 = .ok (.aload_n 0, 1) := by decide +kernel
theorem dX4_heatOutcome_12 : decode cX4_heatOutcome 12 = .ok (.getfield 16, 3) := by decide +kernel
theorem dX4_heatOutcome_15 : decode cX4_heatOutcome 15 = .ok (.iload_n 1, 1) := by decide +kernel
theorem dX4_heatOutcome_16 : decode cX4_heatOutcome 16 = .ok (.invokevirtual 85, 3) := by decide +kernel
theorem dX4_heatOutcome_19 : decode cX4_heatOutcome 19 = .ok (.istore_n 3, 1) := by decide +kernel
theorem dX4_heatOutcome_20 : decode cX4_heatOutcome 20 = .ok (.iload_n 2, 1) := by decide +kernel
theorem dX4_heatOutcome_21 : decode cX4_heatOutcome 21 = .ok (.ifCond .ne 5, 3) := by decide +kernel
theorem dX4_heatOutcome_24 : decode cX4_heatOutcome 24 = .ok (.iload_n 3, 1) := by decide +kernel
theorem dX4_heatOutcome_25 : decode cX4_heatOutcome 25 = .ok (.ireturn, 1) := by decide +kernel
theorem dX4_heatOutcome_26 : decode cX4_heatOutcome 26 = .ok (.iconst 0, 1) := by decide +kernel
theorem dX4_heatOutcome_27 : decode cX4_heatOutcome 27 = .ok (.istore 4, 2) := by decide +kernel
theorem dX4_heatOutcome_29 : decode cX4_heatOutcome 29 = .ok (.iload_n 2, 1) := by decide +kernel
theorem dX4_heatOutcome_30 : decode cX4_heatOutcome 30 = .ok (.iconst 1, 1) := by decide +kernel
theorem dX4_heatOutcome_31 : decode cX4_heatOutcome 31 = .ok (.if_icmp .ne 53, 3) := by decide +kernel
theorem dX4_heatOutcome_34 : decode cX4_heatOutcome 34 = .ok (.iconst 0, 1) := by decide +kernel
theorem dX4_heatOutcome_35 : decode cX4_heatOutcome 35 = .ok (.istore 5, 2) := by decide +kernel
theorem dX4_heatOutcome_37 : decode cX4_heatOutcome 37 = .ok (.iload 5, 2) := by decide +kernel
theorem dX4_heatOutcome_39 : decode cX4_heatOutcome 39 = .ok (.bipush 20, 2) := by decide +kernel
theorem dX4_heatOutcome_41 : decode cX4_heatOutcome 41 = .ok (.if_icmp .ge 40, 3) := by decide +kernel
theorem dX4_heatOutcome_44 : decode cX4_heatOutcome 44 = .ok (.iload 4, 2) := by decide +kernel
theorem dX4_heatOutcome_46 : decode cX4_heatOutcome 46 = .ok (.aload_n 0, 1) := by decide +kernel
theorem dX4_heatOutcome_47 : decode cX4_heatOutcome 47 = .ok (.getfield 16, 3) := by decide +kernel
theorem dX4_heatOutcome_50 : decode cX4_heatOutcome 50 = .ok (.iload 5, 2) := by decide +kernel
theorem dX4_heatOutcome_52 : decode cX4_heatOutcome 52 = .ok (.invokevirtual 167, 3) := by decide +kernel
theorem dX4_heatOutcome_55 : decode cX4_heatOutcome 55 = .ok (.aload_n 0, 1) := by decide +kernel
theorem dX4_heatOutcome_56 : decode cX4_heatOutcome 56 = .ok (.getfield 10, 3) := by decide +kernel
theorem dX4_heatOutcome_59 : decode cX4_heatOutcome 59 = .ok (.iload 5, 2) := by decide +kernel
theorem dX4_heatOutcome_61 : decode cX4_heatOutcome 61 = .ok (.invokevirtual 167, 3) := by decide +kernel
theorem dX4_heatOutcome_64 : decode cX4_heatOutcome 64 = .ok (.if_icmp .eq 7, 3) := by decide +kernel
theorem dX4_heatOutcome_67 : decode cX4_heatOutcome 67 = .ok (.iconst 1, 1) := by decide +kernel
theorem dX4_heatOutcome_68 : decode cX4_heatOutcome 68 = .ok (.goto 4, 3) := by decide +kernel
theorem dX4_heatOutcome_71 : decode cX4_heatOutcome 71 = .ok (.iconst 0, 1) := by decide +kernel
theorem dX4_heatOutcome_72 : decode cX4_heatOutcome 72 = .ok (.iadd, 1) := by decide +kernel
theorem dX4_heatOutcome_73 : decode cX4_heatOutcome 73 = .ok (.istore 4, 2) := by decide +kernel
theorem dX4_heatOutcome_75 : decode cX4_heatOutcome 75 = .ok (.iinc 5 1, 3) := by decide +kernel
theorem dX4_heatOutcome_78 : decode cX4_heatOutcome 78 = .ok (.goto (-41), 3) := by decide +kernel
theorem dX4_heatOutcome_81 : decode cX4_heatOutcome 81 = .ok (.iload 4, 2) := by decide +kernel
theorem dX4_heatOutcome_83 : decode cX4_heatOutcome 83 = .ok (.ireturn, 1) := by decide +kernel
theorem dX4_heatOutcome_84 : decode cX4_heatOutcome 84 = .ok (.iconst 0, 1) := by decide +kernel
theorem dX4_heatOutcome_85 : decode cX4_heatOutcome 85 = .ok (.istore 5, 2) := by decide +kernel
theorem dX4_heatOutcome_87 : decode cX4_heatOutcome 87 = .ok (.iload 5, 2) := by decide +kernel
theorem dX4_heatOutcome_89 : decode cX4_heatOutcome 89 = .ok (.bipush 16, 2) := by decide +kernel
theorem dX4_heatOutcome_91 : decode cX4_heatOutcome 91 = .ok (.if_icmp .ge 40, 3) := by decide +kernel
theorem dX4_heatOutcome_94 : decode cX4_heatOutcome 94 = .ok (.iload 4, 2) := by decide +kernel
theorem dX4_heatOutcome_96 : decode cX4_heatOutcome 96 = .ok (.aload_n 0, 1) := by decide +kernel
theorem dX4_heatOutcome_97 : decode cX4_heatOutcome 97 = .ok (.getfield 16, 3) := by decide +kernel
theorem dX4_heatOutcome_100 : decode cX4_heatOutcome 100 = .ok (.iload 5, 2) := by decide +kernel
theorem dX4_heatOutcome_102 : decode cX4_heatOutcome 102 = .ok (.invokevirtual 252, 3) := by decide +kernel
theorem dX4_heatOutcome_105 : decode cX4_heatOutcome 105 = .ok (.aload_n 0, 1) := by decide +kernel
theorem dX4_heatOutcome_106 : decode cX4_heatOutcome 106 = .ok (.getfield 10, 3) := by decide +kernel
theorem dX4_heatOutcome_109 : decode cX4_heatOutcome 109 = .ok (.iload 5, 2) := by decide +kernel
theorem dX4_heatOutcome_111 : decode cX4_heatOutcome 111 = .ok (.invokevirtual 252, 3) := by decide +kernel
theorem dX4_heatOutcome_114 : decode cX4_heatOutcome 114 = .ok (.if_icmp .eq 7, 3) := by decide +kernel
theorem dX4_heatOutcome_117 : decode cX4_heatOutcome 117 = .ok (.iconst 1, 1) := by decide +kernel
theorem dX4_heatOutcome_118 : decode cX4_heatOutcome 118 = .ok (.goto 4, 3) := by decide +kernel
theorem dX4_heatOutcome_121 : decode cX4_heatOutcome 121 = .ok (.iconst 0, 1) := by decide +kernel
theorem dX4_heatOutcome_122 : decode cX4_heatOutcome 122 = .ok (.iadd, 1) := by decide +kernel
theorem dX4_heatOutcome_123 : decode cX4_heatOutcome 123 = .ok (.istore 4, 2) := by decide +kernel
theorem dX4_heatOutcome_125 : decode cX4_heatOutcome 125 = .ok (.iinc 5 1, 3) := by decide +kernel
theorem dX4_heatOutcome_128 : decode cX4_heatOutcome 128 = .ok (.goto (-41), 3) := by decide +kernel
theorem dX4_heatOutcome_131 : decode cX4_heatOutcome 131 = .ok (.iload 4, 2) := by decide +kernel
theorem dX4_heatOutcome_133 : decode cX4_heatOutcome 133 = .ok (.ireturn, 1) := by decide +kernel
theorem dX4_valuesReadOtherwise_0 : decode cX4_valuesReadOtherwise 0 = .ok (.iconst 0, 1) := by decide +kernel
theorem dX4_valuesReadOtherwise_1 : decode cX4_valuesReadOtherwise 1 = .ok (.istore_n 3, 1) := by decide +kernel
theorem dX4_valuesReadOtherwise_2 : decode cX4_valuesReadOtherwise 2 = .ok (.iconst 0, 1) := by decide +kernel
theorem dX4_valuesReadOtherwise_3 : decode cX4_valuesReadOtherwise 3 = .ok (.istore 4, 2) := by decide +kernel
theorem dX4_valuesReadOtherwise_5 : decode cX4_valuesReadOtherwise 5 = .ok (.iload 4, 2) := by decide +kernel
theorem dX4_valuesReadOtherwise_7 : decode cX4_valuesReadOtherwise 7 = .ok (.bipush 16, 2) := by decide +kernel
theorem dX4_valuesReadOtherwise_9 : decode cX4_valuesReadOtherwise 9 = .ok (.if_icmp .ge 48, 3) := by decide +kernel
theorem dX4_valuesReadOtherwise_12 : decode cX4_valuesReadOtherwise 12 = .ok (.iload_n 3, 1) := by decide +kernel
theorem dX4_valuesReadOtherwise_13 : decode cX4_valuesReadOtherwise 13 = .ok (.aload_n 0, 1) := by decide +kernel
theorem dX4_valuesReadOtherwise_14 : decode cX4_valuesReadOtherwise 14 = .ok (.getfield 10, 3) := by decide +kernel
theorem dX4_valuesReadOtherwise_17 : decode cX4_valuesReadOtherwise 17 = .ok (.iload 4, 2) := by decide +kernel
theorem dX4_valuesReadOtherwise_19 : decode cX4_valuesReadOtherwise 19 = .ok (.aload_n 0, 1) := by decide +kernel
theorem dX4_valuesReadOtherwise_20 : decode cX4_valuesReadOtherwise 20 = .ok (.getfield 10, 3) := by decide +kernel
theorem dX4_valuesReadOtherwise_23 : decode cX4_valuesReadOtherwise 23 = .ok (.getfield 88, 3) := by decide +kernel
theorem dX4_valuesReadOtherwise_26 : decode cX4_valuesReadOtherwise 26 = .ok (.iload_n 1, 1) := by decide +kernel
theorem dX4_valuesReadOtherwise_27 : decode cX4_valuesReadOtherwise 27 = .ok (.iadd, 1) := by decide +kernel
theorem dX4_valuesReadOtherwise_28 : decode cX4_valuesReadOtherwise 28 = .ok (.iload_n 2, 1) := by decide +kernel
theorem dX4_valuesReadOtherwise_29 : decode cX4_valuesReadOtherwise 29 = .ok (.invokevirtual 297, 3) := by decide +kernel
theorem dX4_valuesReadOtherwise_32 : decode cX4_valuesReadOtherwise 32 = .ok (.aload_n 0, 1) := by decide +kernel
theorem dX4_valuesReadOtherwise_33 : decode cX4_valuesReadOtherwise 33 = .ok (.getfield 10, 3) := by decide +kernel
theorem dX4_valuesReadOtherwise_36 : decode cX4_valuesReadOtherwise 36 = .ok (.iload 4, 2) := by decide +kernel
theorem dX4_valuesReadOtherwise_38 : decode cX4_valuesReadOtherwise 38 = .ok (.invokevirtual 252, 3) := by decide +kernel
theorem dX4_valuesReadOtherwise_41 : decode cX4_valuesReadOtherwise 41 = .ok (.if_icmp .eq 7, 3) := by decide +kernel
theorem dX4_valuesReadOtherwise_44 : decode cX4_valuesReadOtherwise 44 = .ok (.iconst 1, 1) := by decide +kernel
theorem dX4_valuesReadOtherwise_45 : decode cX4_valuesReadOtherwise 45 = .ok (.goto 4, 3) := by decide +kernel
theorem dX4_valuesReadOtherwise_48 : decode cX4_valuesReadOtherwise 48 = .ok (.iconst 0, 1) := by decide +kernel
theorem dX4_valuesReadOtherwise_49 : decode cX4_valuesReadOtherwise 49 = .ok (.iadd, 1) := by decide +kernel
theorem dX4_valuesReadOtherwise_50 : decode cX4_valuesReadOtherwise 50 = .ok (.istore_n 3, 1) := by decide +kernel
theorem dX4_valuesReadOtherwise_51 : decode cX4_valuesReadOtherwise 51 = .ok (.iinc 4 1, 3) := by decide +kernel
theorem dX4_valuesReadOtherwise_54 : decode cX4_valuesReadOtherwise 54 = .ok (.goto (-49), 3) := by decide +kernel
theorem dX4_valuesReadOtherwise_57 : decode cX4_valuesReadOtherwise 57 = .ok (.iload_n 3, 1) := by decide +kernel
theorem dX4_valuesReadOtherwise_58 : decode cX4_valuesReadOtherwise 58 = .ok (.ireturn, 1) := by decide +kernel
theorem dJ6_bitCount_0f7a4_0 : decode cJ6_bitCount_0f7a4 0 = .ok (.iload_n 0, 1) := by decide +kernel
theorem dJ6_bitCount_0f7a4_1 : decode cJ6_bitCount_0f7a4 1 = .ok (.iload_n 0, 1) := by decide +kernel
theorem dJ6_bitCount_0f7a4_2 : decode cJ6_bitCount_0f7a4 2 = .ok (.iconst 1, 1) := by decide +kernel
theorem dJ6_bitCount_0f7a4_3 : decode cJ6_bitCount_0f7a4 3 = .ok (.iushr, 1) := by decide +kernel
theorem dJ6_bitCount_0f7a4_4 : decode cJ6_bitCount_0f7a4 4 = .ok (.ldc_w 265, 3) := by decide +kernel
theorem dJ6_bitCount_0f7a4_7 : decode cJ6_bitCount_0f7a4 7 = .ok (.iand, 1) := by decide +kernel
theorem dJ6_bitCount_0f7a4_8 : decode cJ6_bitCount_0f7a4 8 = .ok (.isub, 1) := by decide +kernel
theorem dJ6_bitCount_0f7a4_9 : decode cJ6_bitCount_0f7a4 9 = .ok (.istore_n 0, 1) := by decide +kernel
theorem dJ6_bitCount_0f7a4_10 : decode cJ6_bitCount_0f7a4 10 = .ok (.iload_n 0, 1) := by decide +kernel
theorem dJ6_bitCount_0f7a4_11 : decode cJ6_bitCount_0f7a4 11 = .ok (.ldc_w 266, 3) := by decide +kernel
theorem dJ6_bitCount_0f7a4_14 : decode cJ6_bitCount_0f7a4 14 = .ok (.iand, 1) := by decide +kernel
theorem dJ6_bitCount_0f7a4_15 : decode cJ6_bitCount_0f7a4 15 = .ok (.iload_n 0, 1) := by decide +kernel
theorem dJ6_bitCount_0f7a4_16 : decode cJ6_bitCount_0f7a4 16 = .ok (.iconst 2, 1) := by decide +kernel
theorem dJ6_bitCount_0f7a4_17 : decode cJ6_bitCount_0f7a4 17 = .ok (.iushr, 1) := by decide +kernel
theorem dJ6_bitCount_0f7a4_18 : decode cJ6_bitCount_0f7a4 18 = .ok (.ldc_w 266, 3) := by decide +kernel
theorem dJ6_bitCount_0f7a4_21 : decode cJ6_bitCount_0f7a4 21 = .ok (.iand, 1) := by decide +kernel
theorem dJ6_bitCount_0f7a4_22 : decode cJ6_bitCount_0f7a4 22 = .ok (.iadd, 1) := by decide +kernel
theorem dJ6_bitCount_0f7a4_23 : decode cJ6_bitCount_0f7a4 23 = .ok (.istore_n 0, 1) := by decide +kernel
theorem dJ6_bitCount_0f7a4_24 : decode cJ6_bitCount_0f7a4 24 = .ok (.iload_n 0, 1) := by decide +kernel
theorem dJ6_bitCount_0f7a4_25 : decode cJ6_bitCount_0f7a4 25 = .ok (.iload_n 0, 1) := by decide +kernel
theorem dJ6_bitCount_0f7a4_26 : decode cJ6_bitCount_0f7a4 26 = .ok (.iconst 4, 1) := by decide +kernel
theorem dJ6_bitCount_0f7a4_27 : decode cJ6_bitCount_0f7a4 27 = .ok (.iushr, 1) := by decide +kernel
theorem dJ6_bitCount_0f7a4_28 : decode cJ6_bitCount_0f7a4 28 = .ok (.iadd, 1) := by decide +kernel
theorem dJ6_bitCount_0f7a4_29 : decode cJ6_bitCount_0f7a4 29 = .ok (.ldc_w 267, 3) := by decide +kernel
theorem dJ6_bitCount_0f7a4_32 : decode cJ6_bitCount_0f7a4 32 = .ok (.iand, 1) := by decide +kernel
theorem dJ6_bitCount_0f7a4_33 : decode cJ6_bitCount_0f7a4 33 = .ok (.istore_n 0, 1) := by decide +kernel
theorem dJ6_bitCount_0f7a4_34 : decode cJ6_bitCount_0f7a4 34 = .ok (.iload_n 0, 1) := by decide +kernel
theorem dJ6_bitCount_0f7a4_35 : decode cJ6_bitCount_0f7a4 35 = .ok (.iload_n 0, 1) := by decide +kernel
theorem dJ6_bitCount_0f7a4_36 : decode cJ6_bitCount_0f7a4 36 = .ok (.bipush 8, 2) := by decide +kernel
theorem dJ6_bitCount_0f7a4_38 : decode cJ6_bitCount_0f7a4 38 = .ok (.iushr, 1) := by decide +kernel
theorem dJ6_bitCount_0f7a4_39 : decode cJ6_bitCount_0f7a4 39 = .ok (.iadd, 1) := by decide +kernel
theorem dJ6_bitCount_0f7a4_40 : decode cJ6_bitCount_0f7a4 40 = .ok (.istore_n 0, 1) := by decide +kernel
theorem dJ6_bitCount_0f7a4_41 : decode cJ6_bitCount_0f7a4 41 = .ok (.iload_n 0, 1) := by decide +kernel
theorem dJ6_bitCount_0f7a4_42 : decode cJ6_bitCount_0f7a4 42 = .ok (.iload_n 0, 1) := by decide +kernel
theorem dJ6_bitCount_0f7a4_43 : decode cJ6_bitCount_0f7a4 43 = .ok (.bipush 16, 2) := by decide +kernel
theorem dJ6_bitCount_0f7a4_45 : decode cJ6_bitCount_0f7a4 45 = .ok (.iushr, 1) := by decide +kernel
theorem dJ6_bitCount_0f7a4_46 : decode cJ6_bitCount_0f7a4 46 = .ok (.iadd, 1) := by decide +kernel
theorem dJ6_bitCount_0f7a4_47 : decode cJ6_bitCount_0f7a4 47 = .ok (.istore_n 0, 1) := by decide +kernel
theorem dJ6_bitCount_0f7a4_48 : decode cJ6_bitCount_0f7a4 48 = .ok (.iload_n 0, 1) := by decide +kernel
theorem dJ6_bitCount_0f7a4_49 : decode cJ6_bitCount_0f7a4 49 = .ok (.bipush 63, 2) := by decide +kernel
theorem dJ6_bitCount_0f7a4_51 : decode cJ6_bitCount_0f7a4 51 = .ok (.iand, 1) := by decide +kernel
theorem dJ6_bitCount_0f7a4_52 : decode cJ6_bitCount_0f7a4 52 = .ok (.ireturn, 1) := by decide +kernel
theorem dJ9_max_7cf53_0 : decode cJ9_max_7cf53 0 = .ok (.iload_n 0, 1) := by decide +kernel
theorem dJ9_max_7cf53_1 : decode cJ9_max_7cf53 1 = .ok (.iload_n 1, 1) := by decide +kernel
theorem dJ9_max_7cf53_2 : decode cJ9_max_7cf53 2 = .ok (.if_icmp .lt 7, 3) := by decide +kernel
theorem dJ9_max_7cf53_5 : decode cJ9_max_7cf53 5 = .ok (.iload_n 0, 1) := by decide +kernel
theorem dJ9_max_7cf53_6 : decode cJ9_max_7cf53 6 = .ok (.goto 4, 3) := by decide +kernel
theorem dJ9_max_7cf53_9 : decode cJ9_max_7cf53 9 = .ok (.iload_n 1, 1) := by decide +kernel
theorem dJ9_max_7cf53_10 : decode cJ9_max_7cf53 10 = .ok (.ireturn, 1) := by decide +kernel
theorem dL_cell_0 : decode cL_cell 0 = .ok (.iload_n 1, 1) := by decide +kernel
theorem dL_cell_1 : decode cL_cell 1 = .ok (.aload_n 0, 1) := by decide +kernel
theorem dL_cell_2 : decode cL_cell 2 = .ok (.arraylength, 1) := by decide +kernel
theorem dL_cell_3 : decode cL_cell 3 = .ok (.if_icmp .ge 9, 3) := by decide +kernel
theorem dL_cell_6 : decode cL_cell 6 = .ok (.aload_n 0, 1) := by decide +kernel
theorem dL_cell_7 : decode cL_cell 7 = .ok (.iload_n 1, 1) := by decide +kernel
theorem dL_cell_8 : decode cL_cell 8 = .ok (.iaload, 1) := by decide +kernel
theorem dL_cell_9 : decode cL_cell 9 = .ok (.goto 10, 3) := by decide +kernel
theorem dL_cell_12 : decode cL_cell 12 = .ok (.ldc 7, 2) := by decide +kernel
theorem dL_cell_14 : decode cL_cell 14 = .ok (.iload_n 1, 1) := by decide +kernel
theorem dL_cell_15 : decode cL_cell 15 = .ok (.imul, 1) := by decide +kernel
theorem dL_cell_16 : decode cL_cell 16 = .ok (.ldc 8, 2) := by decide +kernel
theorem dL_cell_18 : decode cL_cell 18 = .ok (.iadd, 1) := by decide +kernel
theorem dL_cell_19 : decode cL_cell 19 = .ok (.ireturn, 1) := by decide +kernel
theorem dL_low_0 : decode cL_low 0 = .ok (.iload_n 0, 1) := by decide +kernel
theorem dL_low_1 : decode cL_low 1 = .ok (.ldc 9, 2) := by decide +kernel
theorem dL_low_3 : decode cL_low 3 = .ok (.iand, 1) := by decide +kernel
theorem dL_low_4 : decode cL_low 4 = .ok (.iload_n 1, 1) := by decide +kernel
theorem dL_low_5 : decode cL_low 5 = .ok (.irem, 1) := by decide +kernel
theorem dL_low_6 : decode cL_low 6 = .ok (.ireturn, 1) := by decide +kernel
theorem dL_put_0 : decode cL_put 0 = .ok (.aload_n 0, 1) := by decide +kernel
theorem dL_put_1 : decode cL_put 1 = .ok (.bipush 10, 2) := by decide +kernel
theorem dL_put_3 : decode cL_put 3 = .ok (.invokevirtual 10, 3) := by decide +kernel
theorem dL_put_6 : decode cL_put 6 = .ok (.istore_n 3, 1) := by decide +kernel
theorem dL_put_7 : decode cL_put 7 = .ok (.aload_n 0, 1) := by decide +kernel
theorem dL_put_8 : decode cL_put 8 = .ok (.iload_n 1, 1) := by decide +kernel
theorem dL_put_9 : decode cL_put 9 = .ok (.iload_n 2, 1) := by decide +kernel
theorem dL_put_10 : decode cL_put 10 = .ok (.iconst 0, 1) := by decide +kernel
theorem dL_put_11 : decode cL_put 11 = .ok (.invokevirtual 16, 3) := by decide +kernel
theorem dL_put_14 : decode cL_put 14 = .ok (.istore 4, 2) := by decide +kernel
theorem dL_put_16 : decode cL_put 16 = .ok (.iload_n 3, 1) := by decide +kernel
theorem dL_put_17 : decode cL_put 17 = .ok (.iconst (-1), 1) := by decide +kernel
theorem dL_put_18 : decode cL_put 18 = .ok (.if_icmp .ne 26, 3) := by decide +kernel
theorem dL_put_21 : decode cL_put 21 = .ok (.iload 4, 2) := by decide +kernel
theorem dL_put_23 : decode cL_put 23 = .ok (.iconst (-1), 1) := by decide +kernel
theorem dL_put_24 : decode cL_put 24 = .ok (.if_icmp .ne 18, 3) := by decide +kernel
theorem dL_put_27 : decode cL_put 27 = .ok (.aload_n 0, 1) := by decide +kernel
theorem dL_put_28 : decode cL_put 28 = .ok (.iload_n 1, 1) := by decide +kernel
theorem dL_put_29 : decode cL_put 29 = .ok (.iload_n 2, 1) := by decide +kernel
theorem dL_put_30 : decode cL_put 30 = .ok (.iconst 3, 1) := by decide +kernel
theorem dL_put_31 : decode cL_put 31 = .ok (.invokevirtual 16, 3) := by decide +kernel
theorem dL_put_34 : decode cL_put 34 = .ok (.iconst (-1), 1) := by decide +kernel
theorem dL_put_35 : decode cL_put 35 = .ok (.if_icmp .ne 7, 3) := by decide +kernel
theorem dL_put_38 : decode cL_put 38 = .ok (.iconst 1, 1) := by decide +kernel
theorem dL_put_39 : decode cL_put 39 = .ok (.goto 4, 3) := by decide +kernel
theorem dL_put_42 : decode cL_put 42 = .ok (.iconst 0, 1) := by decide +kernel
theorem dL_put_43 : decode cL_put 43 = .ok (.ireturn, 1) := by decide +kernel
theorem dL_put_44 : decode cL_put 44 = .ok (.aload_n 0, 1) := by decide +kernel
theorem dL_put_45 : decode cL_put 45 = .ok (.iload_n 1, 1) := by decide +kernel
theorem dL_put_46 : decode cL_put 46 = .ok (.iload_n 2, 1) := by decide +kernel
theorem dL_put_47 : decode cL_put 47 = .ok (.iconst 1, 1) := by decide +kernel
theorem dL_put_48 : decode cL_put 48 = .ok (.invokevirtual 16, 3) := by decide +kernel
theorem dL_put_51 : decode cL_put 51 = .ok (.istore 5, 2) := by decide +kernel
theorem dL_put_53 : decode cL_put 53 = .ok (.aload_n 0, 1) := by decide +kernel
theorem dL_put_54 : decode cL_put 54 = .ok (.bipush 8, 2) := by decide +kernel
theorem dL_put_56 : decode cL_put 56 = .ok (.invokevirtual 10, 3) := by decide +kernel
theorem dL_put_59 : decode cL_put 59 = .ok (.aload_n 0, 1) := by decide +kernel
theorem dL_put_60 : decode cL_put 60 = .ok (.iload_n 1, 1) := by decide +kernel
theorem dL_put_61 : decode cL_put 61 = .ok (.iload_n 2, 1) := by decide +kernel
theorem dL_put_62 : decode cL_put 62 = .ok (.iconst 2, 1) := by decide +kernel
theorem dL_put_63 : decode cL_put 63 = .ok (.invokevirtual 16, 3) := by decide +kernel
theorem dL_put_66 : decode cL_put 66 = .ok (.iadd, 1) := by decide +kernel
theorem dL_put_67 : decode cL_put 67 = .ok (.istore 6, 2) := by decide +kernel
theorem dL_put_69 : decode cL_put 69 = .ok (.aload_n 0, 1) := by decide +kernel
theorem dL_put_70 : decode cL_put 70 = .ok (.iload_n 1, 1) := by decide +kernel
theorem dL_put_71 : decode cL_put 71 = .ok (.iload_n 2, 1) := by decide +kernel
theorem dL_put_72 : decode cL_put 72 = .ok (.iconst 3, 1) := by decide +kernel
theorem dL_put_73 : decode cL_put 73 = .ok (.invokevirtual 16, 3) := by decide +kernel
theorem dL_put_76 : decode cL_put 76 = .ok (.istore 7, 2) := by decide +kernel
theorem dL_put_78 : decode cL_put 78 = .ok (.aload_n 0, 1) := by decide +kernel
theorem dL_put_79 : decode cL_put 79 = .ok (.iload_n 1, 1) := by decide +kernel
theorem dL_put_80 : decode cL_put 80 = .ok (.iload_n 2, 1) := by decide +kernel
theorem dL_put_81 : decode cL_put 81 = .ok (.iconst 4, 1) := by decide +kernel
theorem dL_put_82 : decode cL_put 82 = .ok (.invokevirtual 16, 3) := by decide +kernel
theorem dL_put_85 : decode cL_put 85 = .ok (.istore 8, 2) := by decide +kernel
theorem dL_put_87 : decode cL_put 87 = .ok (.aload_n 0, 1) := by decide +kernel
theorem dL_put_88 : decode cL_put 88 = .ok (.iload_n 1, 1) := by decide +kernel
theorem dL_put_89 : decode cL_put 89 = .ok (.iconst 2, 1) := by decide +kernel
theorem dL_put_90 : decode cL_put 90 = .ok (.invokevirtual 20, 3) := by decide +kernel
theorem dL_put_93 : decode cL_put 93 = .ok (.istore 9, 2) := by decide +kernel
theorem dL_put_95 : decode cL_put 95 = .ok (.aload_n 0, 1) := by decide +kernel
theorem dL_put_96 : decode cL_put 96 = .ok (.bipush 11, 2) := by decide +kernel
theorem dL_put_98 : decode cL_put 98 = .ok (.invokevirtual 10, 3) := by decide +kernel
theorem dL_put_101 : decode cL_put 101 = .ok (.istore 10, 2) := by decide +kernel
theorem dL_put_103 : decode cL_put 103 = .ok (.aload_n 0, 1) := by decide +kernel
theorem dL_put_104 : decode cL_put 104 = .ok (.iconst 1, 1) := by decide +kernel
theorem dL_put_105 : decode cL_put 105 = .ok (.invokevirtual 24, 3) := by decide +kernel
theorem dL_put_108 : decode cL_put 108 = .ok (.iconst 3, 1) := by decide +kernel
theorem dL_put_109 : decode cL_put 109 = .ok (.if_icmp .ne 7, 3) := by decide +kernel
theorem dL_put_112 : decode cL_put 112 = .ok (.iconst 1, 1) := by decide +kernel
theorem dL_put_113 : decode cL_put 113 = .ok (.goto 4, 3) := by decide +kernel
theorem dL_put_116 : decode cL_put 116 = .ok (.iconst 0, 1) := by decide +kernel
theorem dL_put_117 : decode cL_put 117 = .ok (.istore 11, 2) := by decide +kernel
theorem dL_put_119 : decode cL_put 119 = .ok (.aload_n 0, 1) := by decide +kernel
theorem dL_put_120 : decode cL_put 120 = .ok (.iload_n 3, 1) := by decide +kernel
theorem dL_put_121 : decode cL_put 121 = .ok (.iconst 1, 1) := by decide +kernel
theorem dL_put_122 : decode cL_put 122 = .ok (.invokevirtual 27, 3) := by decide +kernel
theorem dL_put_125 : decode cL_put 125 = .ok (.ifCond .ne 17, 3) := by decide +kernel
theorem dL_put_128 : decode cL_put 128 = .ok (.aload_n 0, 1) := by decide +kernel
theorem dL_put_129 : decode cL_put 129 = .ok (.iload_n 3, 1) := by decide +kernel
theorem dL_put_130 : decode cL_put 130 = .ok (.bipush 7, 2) := by decide +kernel
theorem dL_put_132 : decode cL_put 132 = .ok (.invokevirtual 27, 3) := by decide +kernel
theorem dL_put_135 : decode cL_put 135 = .ok (.ifCond .ne 7, 3) := by decide +kernel
theorem dL_put_138 : decode cL_put 138 = .ok (.iconst 1, 1) := by decide +kernel
theorem dL_put_139 : decode cL_put 139 = .ok (.goto 4, 3) := by decide +kernel
theorem dL_put_142 : decode cL_put 142 = .ok (.iconst 0, 1) := by decide +kernel
theorem dL_put_143 : decode cL_put 143 = .ok (.istore 12, 2) := by decide +kernel
theorem dL_put_145 : decode cL_put 145 = .ok (.iload 12, 2) := by decide +kernel
theorem dL_put_147 : decode cL_put 147 = .ok (.ifCond .eq 76, 3) := by decide +kernel
theorem dL_put_150 : decode cL_put 150 = .ok (.aload_n 0, 1) := by decide +kernel
theorem dL_put_151 : decode cL_put 151 = .ok (.iload_n 1, 1) := by decide +kernel
theorem dL_put_152 : decode cL_put 152 = .ok (.iload_n 2, 1) := by decide +kernel
theorem dL_put_153 : decode cL_put 153 = .ok (.invokevirtual 30, 3) := by decide +kernel
theorem dL_put_156 : decode cL_put 156 = .ok (.iload 4, 2) := by decide +kernel
theorem dL_put_158 : decode cL_put 158 = .ok (.if_icmp .ne 65, 3) := by decide +kernel
theorem dL_put_161 : decode cL_put 161 = .ok (.aload_n 0, 1) := by decide +kernel
theorem dL_put_162 : decode cL_put 162 = .ok (.iload_n 3, 1) := by decide +kernel
theorem dL_put_163 : decode cL_put 163 = .ok (.iconst 1, 1) := by decide +kernel
theorem dL_put_164 : decode cL_put 164 = .ok (.invokevirtual 27, 3) := by decide +kernel
theorem dL_put_167 : decode cL_put 167 = .ok (.iload 5, 2) := by decide +kernel
theorem dL_put_169 : decode cL_put 169 = .ok (.if_icmp .ne 54, 3) := by decide +kernel
theorem dL_put_172 : decode cL_put 172 = .ok (.aload_n 0, 1) := by decide +kernel
theorem dL_put_173 : decode cL_put 173 = .ok (.bipush 8, 2) := by decide +kernel
theorem dL_put_175 : decode cL_put 175 = .ok (.invokevirtual 10, 3) := by decide +kernel
theorem dL_put_178 : decode cL_put 178 = .ok (.iload 6, 2) := by decide +kernel
theorem dL_put_180 : decode cL_put 180 = .ok (.if_icmp .ne 43, 3) := by decide +kernel
theorem dL_put_183 : decode cL_put 183 = .ok (.aload_n 0, 1) := by decide +kernel
theorem dL_put_184 : decode cL_put 184 = .ok (.iload_n 1, 1) := by decide +kernel
theorem dL_put_185 : decode cL_put 185 = .ok (.iconst 0, 1) := by decide +kernel
theorem dL_put_186 : decode cL_put 186 = .ok (.invokevirtual 20, 3) := by decide +kernel
theorem dL_put_189 : decode cL_put 189 = .ok (.iload 7, 2) := by decide +kernel
theorem dL_put_191 : decode cL_put 191 = .ok (.if_icmp .ne 32, 3) := by decide +kernel
theorem dL_put_194 : decode cL_put 194 = .ok (.aload_n 0, 1) := by decide +kernel
theorem dL_put_195 : decode cL_put 195 = .ok (.bipush 11, 2) := by decide +kernel
theorem dL_put_197 : decode cL_put 197 = .ok (.invokevirtual 10, 3) := by decide +kernel
theorem dL_put_200 : decode cL_put 200 = .ok (.iload 10, 2) := by decide +kernel
theorem dL_put_202 : decode cL_put 202 = .ok (.iconst 1, 1) := by decide +kernel
theorem dL_put_203 : decode cL_put 203 = .ok (.iadd, 1) := by decide +kernel
theorem dL_put_204 : decode cL_put 204 = .ok (.if_icmp .ne 19, 3) := by decide +kernel
theorem dL_put_207 : decode cL_put 207 = .ok (.iload 8, 2) := by decide +kernel
theorem dL_put_209 : decode cL_put 209 = .ok (.ifCond .lt 14, 3) := by decide +kernel
theorem dL_put_212 : decode cL_put 212 = .ok (.iload 8, 2) := by decide +kernel
theorem dL_put_214 : decode cL_put 214 = .ok (.iload 9, 2) := by decide +kernel
theorem dL_put_216 : decode cL_put 216 = .ok (.if_icmp .gt 7, 3) := by decide +kernel
theorem dL_put_219 : decode cL_put 219 = .ok (.iconst 1, 1) := by decide +kernel
theorem dL_put_220 : decode cL_put 220 = .ok (.goto 4, 3) := by decide +kernel
theorem dL_put_223 : decode cL_put 223 = .ok (.iconst 0, 1) := by decide +kernel
theorem dL_put_224 : decode cL_put 224 = .ok (.istore 12, 2) := by decide +kernel
theorem dL_put_226 : decode cL_put 226 = .ok (.iload 12, 2) := by decide +kernel
theorem dL_put_228 : decode cL_put 228 = .ok (.ifCond .eq 37, 3) := by decide +kernel
theorem dL_put_231 : decode cL_put 231 = .ok (.iload 4, 2) := by decide +kernel
theorem dL_put_233 : decode cL_put 233 = .ok (.iconst 1, 1) := by decide +kernel
theorem dL_put_234 : decode cL_put 234 = .ok (.if_icmp .lt 31, 3) := by decide +kernel
theorem dL_put_237 : decode cL_put 237 = .ok (.iload 4, 2) := by decide +kernel
theorem dL_put_239 : decode cL_put 239 = .ok (.aload_n 0, 1) := by decide +kernel
theorem dL_put_240 : decode cL_put 240 = .ok (.iconst 2, 1) := by decide +kernel
theorem dL_put_241 : decode cL_put 241 = .ok (.invokevirtual 24, 3) := by decide +kernel
theorem dL_put_244 : decode cL_put 244 = .ok (.if_icmp .gt 21, 3) := by decide +kernel
theorem dL_put_247 : decode cL_put 247 = .ok (.aload_n 0, 1) := by decide +kernel
theorem dL_put_248 : decode cL_put 248 = .ok (.iconst 3, 1) := by decide +kernel
theorem dL_put_249 : decode cL_put 249 = .ok (.invokevirtual 24, 3) := by decide +kernel
theorem dL_put_252 : decode cL_put 252 = .ok (.iconst 1, 1) := by decide +kernel
theorem dL_put_253 : decode cL_put 253 = .ok (.if_icmp .eq 8, 3) := by decide +kernel
theorem dL_put_256 : decode cL_put 256 = .ok (.iload 8, 2) := by decide +kernel
theorem dL_put_258 : decode cL_put 258 = .ok (.ifCond .ne 7, 3) := by decide +kernel
theorem dL_put_261 : decode cL_put 261 = .ok (.iconst 1, 1) := by decide +kernel
theorem dL_put_262 : decode cL_put 262 = .ok (.goto 4, 3) := by decide +kernel
theorem dL_put_265 : decode cL_put 265 = .ok (.iconst 0, 1) := by decide +kernel
theorem dL_put_266 : decode cL_put 266 = .ok (.istore 12, 2) := by decide +kernel
theorem dL_put_268 : decode cL_put 268 = .ok (.iload 12, 2) := by decide +kernel
theorem dL_put_270 : decode cL_put 270 = .ok (.ifCond .eq 75, 3) := by decide +kernel
theorem dL_put_273 : decode cL_put 273 = .ok (.iload 11, 2) := by decide +kernel
theorem dL_put_275 : decode cL_put 275 = .ok (.ifCond .eq 66, 3) := by decide +kernel
theorem dL_put_278 : decode cL_put 278 = .ok (.iload 4, 2) := by decide +kernel
theorem dL_put_280 : decode cL_put 280 = .ok (.iconst 1, 1) := by decide +kernel
theorem dL_put_281 : decode cL_put 281 = .ok (.if_icmp .ne 64, 3) := by decide +kernel
theorem dL_put_284 : decode cL_put 284 = .ok (.iload 5, 2) := by decide +kernel
theorem dL_put_286 : decode cL_put 286 = .ok (.iconst 4, 1) := by decide +kernel
theorem dL_put_287 : decode cL_put 287 = .ok (.if_icmp .ne 58, 3) := by decide +kernel
theorem dL_put_290 : decode cL_put 290 = .ok (.iload 7, 2) := by decide +kernel
theorem dL_put_292 : decode cL_put 292 = .ok (.iload_n 2, 1) := by decide +kernel
theorem dL_put_293 : decode cL_put 293 = .ok (.if_icmp .ne 52, 3) := by decide +kernel
theorem dL_put_296 : decode cL_put 296 = .ok (.aload_n 0, 1) := by decide +kernel
theorem dL_put_297 : decode cL_put 297 = .ok (.iload_n 1, 1) := by decide +kernel
theorem dL_put_298 : decode cL_put 298 = .ok (.iconst 1, 1) := by decide +kernel
theorem dL_put_299 : decode cL_put 299 = .ok (.invokevirtual 20, 3) := by decide +kernel
theorem dL_put_302 : decode cL_put 302 = .ok (.iload_n 3, 1) := by decide +kernel
theorem dL_put_303 : decode cL_put 303 = .ok (.if_icmp .ne 42, 3) := by decide +kernel
theorem dL_put_306 : decode cL_put 306 = .ok (.aload_n 0, 1) := by decide +kernel
theorem dL_put_307 : decode cL_put 307 = .ok (.iload_n 3, 1) := by decide +kernel
theorem dL_put_308 : decode cL_put 308 = .ok (.iconst 2, 1) := by decide +kernel
theorem dL_put_309 : decode cL_put 309 = .ok (.invokevirtual 27, 3) := by decide +kernel
theorem dL_put_312 : decode cL_put 312 = .ok (.iload_n 1, 1) := by decide +kernel
theorem dL_put_313 : decode cL_put 313 = .ok (.if_icmp .ne 32, 3) := by decide +kernel
theorem dL_put_316 : decode cL_put 316 = .ok (.aload_n 0, 1) := by decide +kernel
theorem dL_put_317 : decode cL_put 317 = .ok (.iload_n 3, 1) := by decide +kernel
theorem dL_put_318 : decode cL_put 318 = .ok (.iconst 3, 1) := by decide +kernel
theorem dL_put_319 : decode cL_put 319 = .ok (.invokevirtual 27, 3) := by decide +kernel
theorem dL_put_322 : decode cL_put 322 = .ok (.iload_n 2, 1) := by decide +kernel
theorem dL_put_323 : decode cL_put 323 = .ok (.if_icmp .ne 22, 3) := by decide +kernel
theorem dL_put_326 : decode cL_put 326 = .ok (.aload_n 0, 1) := by decide +kernel
theorem dL_put_327 : decode cL_put 327 = .ok (.iload_n 3, 1) := by decide +kernel
theorem dL_put_328 : decode cL_put 328 = .ok (.iconst 5, 1) := by decide +kernel
theorem dL_put_329 : decode cL_put 329 = .ok (.invokevirtual 27, 3) := by decide +kernel
theorem dL_put_332 : decode cL_put 332 = .ok (.aload_n 0, 1) := by decide +kernel
theorem dL_put_333 : decode cL_put 333 = .ok (.iload_n 3, 1) := by decide +kernel
theorem dL_put_334 : decode cL_put 334 = .ok (.iconst 4, 1) := by decide +kernel
theorem dL_put_335 : decode cL_put 335 = .ok (.invokevirtual 27, 3) := by decide +kernel
theorem dL_put_338 : decode cL_put 338 = .ok (.if_icmp .ne 7, 3) := by decide +kernel
theorem dL_put_341 : decode cL_put 341 = .ok (.iconst 1, 1) := by decide +kernel
theorem dL_put_342 : decode cL_put 342 = .ok (.goto 4, 3) := by decide +kernel
theorem dL_put_345 : decode cL_put 345 = .ok (.iconst 0, 1) := by decide +kernel
theorem dL_put_346 : decode cL_put 346 = .ok (.ireturn, 1) := by decide +kernel
theorem dL_isSealed_0 : decode cL_isSealed 0 = .ok (.aload_n 0, 1) := by decide +kernel
theorem dL_isSealed_1 : decode cL_isSealed 1 = .ok (.iload_n 1, 1) := by decide +kernel
theorem dL_isSealed_2 : decode cL_isSealed 2 = .ok (.iconst 1, 1) := by decide +kernel
theorem dL_isSealed_3 : decode cL_isSealed 3 = .ok (.invokevirtual 27, 3) := by decide +kernel
theorem dL_isSealed_6 : decode cL_isSealed 6 = .ok (.iconst 4, 1) := by decide +kernel
theorem dL_isSealed_7 : decode cL_isSealed 7 = .ok (.if_icmp .ne 27, 3) := by decide +kernel
theorem dL_isSealed_10 : decode cL_isSealed 10 = .ok (.aload_n 0, 1) := by decide +kernel
theorem dL_isSealed_11 : decode cL_isSealed 11 = .ok (.iload_n 1, 1) := by decide +kernel
theorem dL_isSealed_12 : decode cL_isSealed 12 = .ok (.bipush 6, 2) := by decide +kernel
theorem dL_isSealed_14 : decode cL_isSealed 14 = .ok (.invokevirtual 27, 3) := by decide +kernel
theorem dL_isSealed_17 : decode cL_isSealed 17 = .ok (.ifCond .ne 17, 3) := by decide +kernel
theorem dL_isSealed_20 : decode cL_isSealed 20 = .ok (.aload_n 0, 1) := by decide +kernel
theorem dL_isSealed_21 : decode cL_isSealed 21 = .ok (.iload_n 1, 1) := by decide +kernel
theorem dL_isSealed_22 : decode cL_isSealed 22 = .ok (.bipush 7, 2) := by decide +kernel
theorem dL_isSealed_24 : decode cL_isSealed 24 = .ok (.invokevirtual 27, 3) := by decide +kernel
theorem dL_isSealed_27 : decode cL_isSealed 27 = .ok (.ifCond .ne 7, 3) := by decide +kernel
theorem dL_isSealed_30 : decode cL_isSealed 30 = .ok (.iconst 1, 1) := by decide +kernel
theorem dL_isSealed_31 : decode cL_isSealed 31 = .ok (.goto 4, 3) := by decide +kernel
theorem dL_isSealed_34 : decode cL_isSealed 34 = .ok (.iconst 0, 1) := by decide +kernel
theorem dL_isSealed_35 : decode cL_isSealed 35 = .ok (.istore_n 3, 1) := by decide +kernel
theorem dL_isSealed_36 : decode cL_isSealed 36 = .ok (.iload_n 3, 1) := by decide +kernel
theorem dL_isSealed_37 : decode cL_isSealed 37 = .ok (.ifCond .ne 5, 3) := by decide +kernel
theorem dL_isSealed_40 : decode cL_isSealed 40 = .ok (.iconst 1, 1) := by decide +kernel
theorem dL_isSealed_41 : decode cL_isSealed 41 = .ok (.ireturn, 1) := by decide +kernel
theorem dL_isSealed_42 : decode cL_isSealed 42 = .ok (.aload_n 0, 1) := by decide +kernel
theorem dL_isSealed_43 : decode cL_isSealed 43 = .ok (.iload_n 1, 1) := by decide +kernel
theorem dL_isSealed_44 : decode cL_isSealed 44 = .ok (.iconst 0, 1) := by decide +kernel
theorem dL_isSealed_45 : decode cL_isSealed 45 = .ok (.invokevirtual 27, 3) := by decide +kernel
theorem dL_isSealed_48 : decode cL_isSealed 48 = .ok (.istore 4, 2) := by decide +kernel
theorem dL_isSealed_50 : decode cL_isSealed 50 = .ok (.iconst 0, 1) := by decide +kernel
theorem dL_isSealed_51 : decode cL_isSealed 51 = .ok (.istore 5, 2) := by decide +kernel
theorem dL_isSealed_53 : decode cL_isSealed 53 = .ok (.iload 5, 2) := by decide +kernel
theorem dL_isSealed_55 : decode cL_isSealed 55 = .ok (.bipush 14, 2) := by decide +kernel
theorem dL_isSealed_57 : decode cL_isSealed 57 = .ok (.if_icmp .ge 170, 3) := by decide +kernel
theorem dL_isSealed_60 : decode cL_isSealed 60 = .ok (.iload 5, 2) := by decide +kernel
theorem dL_isSealed_62 : decode cL_isSealed 62 = .ok (.iconst 1, 1) := by decide +kernel
theorem dL_isSealed_63 : decode cL_isSealed 63 = .ok (.iadd, 1) := by decide +kernel
theorem dL_isSealed_64 : decode cL_isSealed 64 = .ok (.iload_n 2, 1) := by decide +kernel
theorem dL_isSealed_65 : decode cL_isSealed 65 = .ok (.iload 5, 2) := by decide +kernel
theorem dL_isSealed_67 : decode cL_isSealed 67 = .ok (.ishr, 1) := by decide +kernel
theorem dL_isSealed_68 : decode cL_isSealed 68 = .ok (.bipush 13, 2) := by decide +kernel
theorem dL_isSealed_70 : decode cL_isSealed 70 = .ok (.invokestatic 33, 3) := by decide +kernel
theorem dL_isSealed_73 : decode cL_isSealed 73 = .ok (.iadd, 1) := by decide +kernel
theorem dL_isSealed_74 : decode cL_isSealed 74 = .ok (.bipush 14, 2) := by decide +kernel
theorem dL_isSealed_76 : decode cL_isSealed 76 = .ok (.irem, 1) := by decide +kernel
theorem dL_isSealed_77 : decode cL_isSealed 77 = .ok (.istore 6, 2) := by decide +kernel
theorem dL_isSealed_79 : decode cL_isSealed 79 = .ok (.iload 4, 2) := by decide +kernel
theorem dL_isSealed_81 : decode cL_isSealed 81 = .ok (.iload 5, 2) := by decide +kernel
theorem dL_isSealed_83 : decode cL_isSealed 83 = .ok (.ishr, 1) := by decide +kernel
theorem dL_isSealed_84 : decode cL_isSealed 84 = .ok (.iconst 1, 1) := by decide +kernel
theorem dL_isSealed_85 : decode cL_isSealed 85 = .ok (.iand, 1) := by decide +kernel
theorem dL_isSealed_86 : decode cL_isSealed 86 = .ok (.iconst 1, 1) := by decide +kernel
theorem dL_isSealed_87 : decode cL_isSealed 87 = .ok (.if_icmp .ne 7, 3) := by decide +kernel
theorem dL_isSealed_90 : decode cL_isSealed 90 = .ok (.iconst 1, 1) := by decide +kernel
theorem dL_isSealed_91 : decode cL_isSealed 91 = .ok (.goto 4, 3) := by decide +kernel
theorem dL_isSealed_94 : decode cL_isSealed 94 = .ok (.iconst 0, 1) := by decide +kernel
theorem dL_isSealed_95 : decode cL_isSealed 95 = .ok (.istore 7, 2) := by decide +kernel
theorem dL_isSealed_97 : decode cL_isSealed 97 = .ok (.iload 4, 2) := by decide +kernel
theorem dL_isSealed_99 : decode cL_isSealed 99 = .ok (.iload 6, 2) := by decide +kernel
theorem dL_isSealed_101 : decode cL_isSealed 101 = .ok (.ishr, 1) := by decide +kernel
theorem dL_isSealed_102 : decode cL_isSealed 102 = .ok (.iconst 1, 1) := by decide +kernel
theorem dL_isSealed_103 : decode cL_isSealed 103 = .ok (.iand, 1) := by decide +kernel
theorem dL_isSealed_104 : decode cL_isSealed 104 = .ok (.iconst 1, 1) := by decide +kernel
theorem dL_isSealed_105 : decode cL_isSealed 105 = .ok (.if_icmp .ne 7, 3) := by decide +kernel
theorem dL_isSealed_108 : decode cL_isSealed 108 = .ok (.iconst 1, 1) := by decide +kernel
theorem dL_isSealed_109 : decode cL_isSealed 109 = .ok (.goto 4, 3) := by decide +kernel
theorem dL_isSealed_112 : decode cL_isSealed 112 = .ok (.iconst 0, 1) := by decide +kernel
theorem dL_isSealed_113 : decode cL_isSealed 113 = .ok (.istore 8, 2) := by decide +kernel
theorem dL_isSealed_115 : decode cL_isSealed 115 = .ok (.aload_n 0, 1) := by decide +kernel
theorem dL_isSealed_116 : decode cL_isSealed 116 = .ok (.bipush 8, 2) := by decide +kernel
theorem dL_isSealed_118 : decode cL_isSealed 118 = .ok (.invokevirtual 10, 3) := by decide +kernel
theorem dL_isSealed_121 : decode cL_isSealed 121 = .ok (.istore 9, 2) := by decide +kernel
theorem dL_isSealed_123 : decode cL_isSealed 123 = .ok (.aload_n 0, 1) := by decide +kernel
theorem dL_isSealed_124 : decode cL_isSealed 124 = .ok (.iload_n 1, 1) := by decide +kernel
theorem dL_isSealed_125 : decode cL_isSealed 125 = .ok (.iload 5, 2) := by decide +kernel
theorem dL_isSealed_127 : decode cL_isSealed 127 = .ok (.iconst 3, 1) := by decide +kernel
theorem dL_isSealed_128 : decode cL_isSealed 128 = .ok (.invokevirtual 38, 3) := by decide +kernel
theorem dL_isSealed_131 : decode cL_isSealed 131 = .ok (.iconst 3, 1) := by decide +kernel
theorem dL_isSealed_132 : decode cL_isSealed 132 = .ok (.if_icmp .ne 35, 3) := by decide +kernel
theorem dL_isSealed_135 : decode cL_isSealed 135 = .ok (.aload_n 0, 1) := by decide +kernel
theorem dL_isSealed_136 : decode cL_isSealed 136 = .ok (.iload_n 1, 1) := by decide +kernel
theorem dL_isSealed_137 : decode cL_isSealed 137 = .ok (.iconst 1, 1) := by decide +kernel
theorem dL_isSealed_138 : decode cL_isSealed 138 = .ok (.invokevirtual 27, 3) := by decide +kernel
theorem dL_isSealed_141 : decode cL_isSealed 141 = .ok (.iload 7, 2) := by decide +kernel
theorem dL_isSealed_143 : decode cL_isSealed 143 = .ok (.ifCond .eq 7, 3) := by decide +kernel
theorem dL_isSealed_146 : decode cL_isSealed 146 = .ok (.iconst 4, 1) := by decide +kernel
theorem dL_isSealed_147 : decode cL_isSealed 147 = .ok (.goto 4, 3) := by decide +kernel
theorem dL_isSealed_150 : decode cL_isSealed 150 = .ok (.iconst 3, 1) := by decide +kernel
theorem dL_isSealed_151 : decode cL_isSealed 151 = .ok (.if_icmp .ne 16, 3) := by decide +kernel
theorem dL_isSealed_154 : decode cL_isSealed 154 = .ok (.aload_n 0, 1) := by decide +kernel
theorem dL_isSealed_155 : decode cL_isSealed 155 = .ok (.bipush 8, 2) := by decide +kernel
theorem dL_isSealed_157 : decode cL_isSealed 157 = .ok (.invokevirtual 10, 3) := by decide +kernel
theorem dL_isSealed_160 : decode cL_isSealed 160 = .ok (.iload 9, 2) := by decide +kernel
theorem dL_isSealed_162 : decode cL_isSealed 162 = .ok (.iconst 3, 1) := by decide +kernel
theorem dL_isSealed_163 : decode cL_isSealed 163 = .ok (.iadd, 1) := by decide +kernel
theorem dL_isSealed_164 : decode cL_isSealed 164 = .ok (.if_icmp .eq 5, 3) := by decide +kernel
theorem dL_isSealed_167 : decode cL_isSealed 167 = .ok (.iconst 0, 1) := by decide +kernel
theorem dL_isSealed_168 : decode cL_isSealed 168 = .ok (.ireturn, 1) := by decide +kernel
theorem dL_isSealed_169 : decode cL_isSealed 169 = .ok (.aload_n 0, 1) := by decide +kernel
theorem dL_isSealed_170 : decode cL_isSealed 170 = .ok (.iload_n 1, 1) := by decide +kernel
theorem dL_isSealed_171 : decode cL_isSealed 171 = .ok (.iload 6, 2) := by decide +kernel
theorem dL_isSealed_173 : decode cL_isSealed 173 = .ok (.iconst 3, 1) := by decide +kernel
theorem dL_isSealed_174 : decode cL_isSealed 174 = .ok (.invokevirtual 38, 3) := by decide +kernel
theorem dL_isSealed_177 : decode cL_isSealed 177 = .ok (.iconst 3, 1) := by decide +kernel
theorem dL_isSealed_178 : decode cL_isSealed 178 = .ok (.if_icmp .ne 41, 3) := by decide +kernel
theorem dL_isSealed_181 : decode cL_isSealed 181 = .ok (.aload_n 0, 1) := by decide +kernel
theorem dL_isSealed_182 : decode cL_isSealed 182 = .ok (.iload_n 1, 1) := by decide +kernel
theorem dL_isSealed_183 : decode cL_isSealed 183 = .ok (.iconst 1, 1) := by decide +kernel
theorem dL_isSealed_184 : decode cL_isSealed 184 = .ok (.invokevirtual 27, 3) := by decide +kernel
theorem dL_isSealed_187 : decode cL_isSealed 187 = .ok (.iload 7, 2) := by decide +kernel
theorem dL_isSealed_189 : decode cL_isSealed 189 = .ok (.ifCond .eq 12, 3) := by decide +kernel
theorem dL_isSealed_192 : decode cL_isSealed 192 = .ok (.iload 8, 2) := by decide +kernel
theorem dL_isSealed_194 : decode cL_isSealed 194 = .ok (.ifCond .eq 7, 3) := by decide +kernel
theorem dL_isSealed_197 : decode cL_isSealed 197 = .ok (.iconst 4, 1) := by decide +kernel
theorem dL_isSealed_198 : decode cL_isSealed 198 = .ok (.goto 4, 3) := by decide +kernel
theorem dL_isSealed_201 : decode cL_isSealed 201 = .ok (.iconst 3, 1) := by decide +kernel
theorem dL_isSealed_202 : decode cL_isSealed 202 = .ok (.if_icmp .ne 17, 3) := by decide +kernel
theorem dL_isSealed_205 : decode cL_isSealed 205 = .ok (.aload_n 0, 1) := by decide +kernel
theorem dL_isSealed_206 : decode cL_isSealed 206 = .ok (.invokevirtual 41, 3) := by decide +kernel
theorem dL_isSealed_209 : decode cL_isSealed 209 = .ok (.ifCond .lt 10, 3) := by decide +kernel
theorem dL_isSealed_212 : decode cL_isSealed 212 = .ok (.aload_n 0, 1) := by decide +kernel
theorem dL_isSealed_213 : decode cL_isSealed 213 = .ok (.invokevirtual 41, 3) := by decide +kernel
theorem dL_isSealed_216 : decode cL_isSealed 216 = .ok (.ifCond .ge 5, 3) := by decide +kernel
theorem dL_isSealed_219 : decode cL_isSealed 219 = .ok (.iconst 0, 1) := by decide +kernel
theorem dL_isSealed_220 : decode cL_isSealed 220 = .ok (.ireturn, 1) := by decide +kernel
theorem dL_isSealed_221 : decode cL_isSealed 221 = .ok (.iinc 5 1, 3) := by decide +kernel
theorem dL_isSealed_224 : decode cL_isSealed 224 = .ok (.goto (-171), 3) := by decide +kernel
theorem dL_isSealed_227 : decode cL_isSealed 227 = .ok (.aload_n 0, 1) := by decide +kernel
theorem dL_isSealed_228 : decode cL_isSealed 228 = .ok (.iload_n 1, 1) := by decide +kernel
theorem dL_isSealed_229 : decode cL_isSealed 229 = .ok (.bipush 14, 2) := by decide +kernel
theorem dL_isSealed_231 : decode cL_isSealed 231 = .ok (.iconst 3, 1) := by decide +kernel
theorem dL_isSealed_232 : decode cL_isSealed 232 = .ok (.invokevirtual 38, 3) := by decide +kernel
theorem dL_isSealed_235 : decode cL_isSealed 235 = .ok (.iconst 3, 1) := by decide +kernel
theorem dL_isSealed_236 : decode cL_isSealed 236 = .ok (.if_icmp .ne 35, 3) := by decide +kernel
theorem dL_isSealed_239 : decode cL_isSealed 239 = .ok (.aload_n 0, 1) := by decide +kernel
theorem dL_isSealed_240 : decode cL_isSealed 240 = .ok (.iload_n 1, 1) := by decide +kernel
theorem dL_isSealed_241 : decode cL_isSealed 241 = .ok (.iconst 1, 1) := by decide +kernel
theorem dL_isSealed_242 : decode cL_isSealed 242 = .ok (.invokevirtual 27, 3) := by decide +kernel
theorem dL_isSealed_245 : decode cL_isSealed 245 = .ok (.iconst 2, 1) := by decide +kernel
theorem dL_isSealed_246 : decode cL_isSealed 246 = .ok (.if_icmp .ne 25, 3) := by decide +kernel
theorem dL_isSealed_249 : decode cL_isSealed 249 = .ok (.aload_n 0, 1) := by decide +kernel
theorem dL_isSealed_250 : decode cL_isSealed 250 = .ok (.invokevirtual 41, 3) := by decide +kernel
theorem dL_isSealed_253 : decode cL_isSealed 253 = .ok (.ifCond .lt 18, 3) := by decide +kernel
theorem dL_isSealed_256 : decode cL_isSealed 256 = .ok (.aload_n 0, 1) := by decide +kernel
theorem dL_isSealed_257 : decode cL_isSealed 257 = .ok (.iload_n 1, 1) := by decide +kernel
theorem dL_isSealed_258 : decode cL_isSealed 258 = .ok (.iconst 0, 1) := by decide +kernel
theorem dL_isSealed_259 : decode cL_isSealed 259 = .ok (.invokevirtual 27, 3) := by decide +kernel
theorem dL_isSealed_262 : decode cL_isSealed 262 = .ok (.iload 4, 2) := by decide +kernel
theorem dL_isSealed_264 : decode cL_isSealed 264 = .ok (.if_icmp .ne 7, 3) := by decide +kernel
theorem dL_isSealed_267 : decode cL_isSealed 267 = .ok (.iconst 1, 1) := by decide +kernel
theorem dL_isSealed_268 : decode cL_isSealed 268 = .ok (.goto 4, 3) := by decide +kernel
theorem dL_isSealed_271 : decode cL_isSealed 271 = .ok (.iconst 0, 1) := by decide +kernel
theorem dL_isSealed_272 : decode cL_isSealed 272 = .ok (.ireturn, 1) := by decide +kernel
theorem dL_heat_0 : decode cL_heat 0 = .ok (.aload_n 0, 1) := by decide +kernel
theorem dL_heat_1 : decode cL_heat 1 = .ok (.iload_n 1, 1) := by decide +kernel
theorem dL_heat_2 : decode cL_heat 2 = .ok (.iconst 0, 1) := by decide +kernel
theorem dL_heat_3 : decode cL_heat 3 = .ok (.invokevirtual 45, 3) := by decide +kernel
theorem dL_heat_6 : decode cL_heat 6 = .ok (.istore_n 2, 1) := by decide +kernel
theorem dL_heat_7 : decode cL_heat 7 = .ok (.aload_n 0, 1) := by decide +kernel
theorem dL_heat_8 : decode cL_heat 8 = .ok (.iload_n 1, 1) := by decide +kernel
theorem dL_heat_9 : decode cL_heat 9 = .ok (.iconst 1, 1) := by decide +kernel
theorem dL_heat_10 : decode cL_heat 10 = .ok (.invokevirtual 45, 3) := by decide +kernel
theorem dL_heat_13 : decode cL_heat 13 = .ok (.istore_n 3, 1) := by decide +kernel
theorem dL_heat_14 : decode cL_heat 14 = .ok (.aload_n 0, 1) := by decide +kernel
theorem dL_heat_15 : decode cL_heat 15 = .ok (.iload_n 1, 1) := by decide +kernel
theorem dL_heat_16 : decode cL_heat 16 = .ok (.iconst 2, 1) := by decide +kernel
theorem dL_heat_17 : decode cL_heat 17 = .ok (.invokevirtual 45, 3) := by decide +kernel
theorem dL_heat_20 : decode cL_heat 20 = .ok (.istore 4, 2) := by decide +kernel
theorem dL_heat_22 : decode cL_heat 22 = .ok (.aload_n 0, 1) := by decide +kernel
theorem dL_heat_23 : decode cL_heat 23 = .ok (.bipush 7, 2) := by decide +kernel
theorem dL_heat_25 : decode cL_heat 25 = .ok (.invokevirtual 10, 3) := by decide +kernel
theorem dL_heat_28 : decode cL_heat 28 = .ok (.istore 5, 2) := by decide +kernel
theorem dL_heat_30 : decode cL_heat 30 = .ok (.iconst 0, 1) := by decide +kernel
theorem dL_heat_31 : decode cL_heat 31 = .ok (.istore 6, 2) := by decide +kernel
theorem dL_heat_33 : decode cL_heat 33 = .ok (.iconst 0, 1) := by decide +kernel
theorem dL_heat_34 : decode cL_heat 34 = .ok (.istore 7, 2) := by decide +kernel
theorem dL_heat_36 : decode cL_heat 36 = .ok (.iload 7, 2) := by decide +kernel
theorem dL_heat_38 : decode cL_heat 38 = .ok (.bipush 20, 2) := by decide +kernel
theorem dL_heat_40 : decode cL_heat 40 = .ok (.if_icmp .ge 22, 3) := by decide +kernel
theorem dL_heat_43 : decode cL_heat 43 = .ok (.iload 6, 2) := by decide +kernel
theorem dL_heat_45 : decode cL_heat 45 = .ok (.aload_n 0, 1) := by decide +kernel
theorem dL_heat_46 : decode cL_heat 46 = .ok (.iload 7, 2) := by decide +kernel
theorem dL_heat_48 : decode cL_heat 48 = .ok (.bipush 8, 2) := by decide +kernel
theorem dL_heat_50 : decode cL_heat 50 = .ok (.invokevirtual 27, 3) := by decide +kernel
theorem dL_heat_53 : decode cL_heat 53 = .ok (.iadd, 1) := by decide +kernel
theorem dL_heat_54 : decode cL_heat 54 = .ok (.istore 6, 2) := by decide +kernel
theorem dL_heat_56 : decode cL_heat 56 = .ok (.iinc 7 1, 3) := by decide +kernel
theorem dL_heat_59 : decode cL_heat 59 = .ok (.goto (-23), 3) := by decide +kernel
theorem dL_heat_62 : decode cL_heat 62 = .ok (.aload_n 0, 1) := by decide +kernel
theorem dL_heat_63 : decode cL_heat 63 = .ok (.iload_n 1, 1) := by decide +kernel
theorem dL_heat_64 : decode cL_heat 64 = .ok (.invokevirtual 48, 3) := by decide +kernel
theorem dL_heat_67 : decode cL_heat 67 = .ok (.iload_n 2, 1) := by decide +kernel
theorem dL_heat_68 : decode cL_heat 68 = .ok (.if_icmp .ne 35, 3) := by decide +kernel
theorem dL_heat_71 : decode cL_heat 71 = .ok (.iload_n 2, 1) := by decide +kernel
theorem dL_heat_72 : decode cL_heat 72 = .ok (.iload 5, 2) := by decide +kernel
theorem dL_heat_74 : decode cL_heat 74 = .ok (.if_icmp .gt 29, 3) := by decide +kernel
theorem dL_heat_77 : decode cL_heat 77 = .ok (.iload_n 1, 1) := by decide +kernel
theorem dL_heat_78 : decode cL_heat 78 = .ok (.iconst 3, 1) := by decide +kernel
theorem dL_heat_79 : decode cL_heat 79 = .ok (.if_icmp .ge 7, 3) := by decide +kernel
theorem dL_heat_82 : decode cL_heat 82 = .ok (.iload_n 2, 1) := by decide +kernel
theorem dL_heat_83 : decode cL_heat 83 = .ok (.ifCond .ne 20, 3) := by decide +kernel
theorem dL_heat_86 : decode cL_heat 86 = .ok (.iload_n 3, 1) := by decide +kernel
theorem dL_heat_87 : decode cL_heat 87 = .ok (.bipush 20, 2) := by decide +kernel
theorem dL_heat_89 : decode cL_heat 89 = .ok (.if_icmp .gt 14, 3) := by decide +kernel
theorem dL_heat_92 : decode cL_heat 92 = .ok (.iload 4, 2) := by decide +kernel
theorem dL_heat_94 : decode cL_heat 94 = .ok (.bipush 16, 2) := by decide +kernel
theorem dL_heat_96 : decode cL_heat 96 = .ok (.if_icmp .gt 7, 3) := by decide +kernel
theorem dL_heat_99 : decode cL_heat 99 = .ok (.iconst 1, 1) := by decide +kernel
theorem dL_heat_100 : decode cL_heat 100 = .ok (.goto 4, 3) := by decide +kernel
theorem dL_heat_103 : decode cL_heat 103 = .ok (.iconst 0, 1) := by decide +kernel
theorem dL_heat_104 : decode cL_heat 104 = .ok (.istore 7, 2) := by decide +kernel
theorem dL_heat_106 : decode cL_heat 106 = .ok (.iconst 0, 1) := by decide +kernel
theorem dL_heat_107 : decode cL_heat 107 = .ok (.istore 8, 2) := by decide +kernel
theorem dL_heat_109 : decode cL_heat 109 = .ok (.iload 8, 2) := by decide +kernel
theorem dL_heat_111 : decode cL_heat 111 = .ok (.bipush 20, 2) := by decide +kernel
theorem dL_heat_113 : decode cL_heat 113 = .ok (.if_icmp .ge 22, 3) := by decide +kernel
theorem dL_heat_116 : decode cL_heat 116 = .ok (.iload 6, 2) := by decide +kernel
theorem dL_heat_118 : decode cL_heat 118 = .ok (.aload_n 0, 1) := by decide +kernel
theorem dL_heat_119 : decode cL_heat 119 = .ok (.iload 8, 2) := by decide +kernel
theorem dL_heat_121 : decode cL_heat 121 = .ok (.bipush 8, 2) := by decide +kernel
theorem dL_heat_123 : decode cL_heat 123 = .ok (.invokevirtual 27, 3) := by decide +kernel
theorem dL_heat_126 : decode cL_heat 126 = .ok (.isub, 1) := by decide +kernel
theorem dL_heat_127 : decode cL_heat 127 = .ok (.istore 6, 2) := by decide +kernel
theorem dL_heat_129 : decode cL_heat 129 = .ok (.iinc 8 1, 3) := by decide +kernel
theorem dL_heat_132 : decode cL_heat 132 = .ok (.goto (-23), 3) := by decide +kernel
theorem dL_heat_135 : decode cL_heat 135 = .ok (.iload 7, 2) := by decide +kernel
theorem dL_heat_137 : decode cL_heat 137 = .ok (.ifCond .eq 25, 3) := by decide +kernel
theorem dL_heat_140 : decode cL_heat 140 = .ok (.iload 6, 2) := by decide +kernel
theorem dL_heat_142 : decode cL_heat 142 = .ok (.iload_n 2, 1) := by decide +kernel
theorem dL_heat_143 : decode cL_heat 143 = .ok (.if_icmp .ne 19, 3) := by decide +kernel
theorem dL_heat_146 : decode cL_heat 146 = .ok (.iload_n 1, 1) := by decide +kernel
theorem dL_heat_147 : decode cL_heat 147 = .ok (.bipush 6, 2) := by decide +kernel
theorem dL_heat_149 : decode cL_heat 149 = .ok (.if_icmp .lt 9, 3) := by decide +kernel
theorem dL_heat_152 : decode cL_heat 152 = .ok (.iload_n 2, 1) := by decide +kernel
theorem dL_heat_153 : decode cL_heat 153 = .ok (.iload 5, 2) := by decide +kernel
theorem dL_heat_155 : decode cL_heat 155 = .ok (.if_icmp .ne 7, 3) := by decide +kernel
theorem dL_heat_158 : decode cL_heat 158 = .ok (.iconst 1, 1) := by decide +kernel
theorem dL_heat_159 : decode cL_heat 159 = .ok (.goto 4, 3) := by decide +kernel
theorem dL_heat_162 : decode cL_heat 162 = .ok (.iconst 0, 1) := by decide +kernel
theorem dL_heat_163 : decode cL_heat 163 = .ok (.ireturn, 1) := by decide +kernel
theorem dL_refresh_0 : decode cL_refresh 0 = .ok (.aload_n 0, 1) := by decide +kernel
theorem dL_refresh_1 : decode cL_refresh 1 = .ok (.iload_n 1, 1) := by decide +kernel
theorem dL_refresh_2 : decode cL_refresh 2 = .ok (.bipush 6, 2) := by decide +kernel
theorem dL_refresh_4 : decode cL_refresh 4 = .ok (.invokevirtual 27, 3) := by decide +kernel
theorem dL_refresh_7 : decode cL_refresh 7 = .ok (.istore_n 2, 1) := by decide +kernel
theorem dL_refresh_8 : decode cL_refresh 8 = .ok (.aload_n 0, 1) := by decide +kernel
theorem dL_refresh_9 : decode cL_refresh 9 = .ok (.bipush 8, 2) := by decide +kernel
theorem dL_refresh_11 : decode cL_refresh 11 = .ok (.invokevirtual 10, 3) := by decide +kernel
theorem dL_refresh_14 : decode cL_refresh 14 = .ok (.istore_n 3, 1) := by decide +kernel
theorem dL_refresh_15 : decode cL_refresh 15 = .ok (.iconst 0, 1) := by decide +kernel
theorem dL_refresh_16 : decode cL_refresh 16 = .ok (.istore 4, 2) := by decide +kernel
theorem dL_refresh_18 : decode cL_refresh 18 = .ok (.iconst 0, 1) := by decide +kernel
theorem dL_refresh_19 : decode cL_refresh 19 = .ok (.istore 5, 2) := by decide +kernel
theorem dL_refresh_21 : decode cL_refresh 21 = .ok (.iload 5, 2) := by decide +kernel
theorem dL_refresh_23 : decode cL_refresh 23 = .ok (.bipush 16, 2) := by decide +kernel
theorem dL_refresh_25 : decode cL_refresh 25 = .ok (.if_icmp .ge 22, 3) := by decide +kernel
theorem dL_refresh_28 : decode cL_refresh 28 = .ok (.iload 4, 2) := by decide +kernel
theorem dL_refresh_30 : decode cL_refresh 30 = .ok (.aload_n 0, 1) := by decide +kernel
theorem dL_refresh_31 : decode cL_refresh 31 = .ok (.iload_n 1, 1) := by decide +kernel
theorem dL_refresh_32 : decode cL_refresh 32 = .ok (.iload 5, 2) := by decide +kernel
theorem dL_refresh_34 : decode cL_refresh 34 = .ok (.iconst 2, 1) := by decide +kernel
theorem dL_refresh_35 : decode cL_refresh 35 = .ok (.invokevirtual 51, 3) := by decide +kernel
theorem dL_refresh_38 : decode cL_refresh 38 = .ok (.iadd, 1) := by decide +kernel
theorem dL_refresh_39 : decode cL_refresh 39 = .ok (.istore 4, 2) := by decide +kernel
theorem dL_refresh_41 : decode cL_refresh 41 = .ok (.iinc 5 1, 3) := by decide +kernel
theorem dL_refresh_44 : decode cL_refresh 44 = .ok (.goto (-23), 3) := by decide +kernel
theorem dL_refresh_47 : decode cL_refresh 47 = .ok (.aload_n 0, 1) := by decide +kernel
theorem dL_refresh_48 : decode cL_refresh 48 = .ok (.iload_n 1, 1) := by decide +kernel
theorem dL_refresh_49 : decode cL_refresh 49 = .ok (.invokevirtual 54, 3) := by decide +kernel
theorem dL_refresh_52 : decode cL_refresh 52 = .ok (.istore 5, 2) := by decide +kernel
theorem dL_refresh_54 : decode cL_refresh 54 = .ok (.iload 5, 2) := by decide +kernel
theorem dL_refresh_56 : decode cL_refresh 56 = .ok (.ifCond .lt 42, 3) := by decide +kernel
theorem dL_refresh_59 : decode cL_refresh 59 = .ok (.iload 5, 2) := by decide +kernel
theorem dL_refresh_61 : decode cL_refresh 61 = .ok (.iload_n 2, 1) := by decide +kernel
theorem dL_refresh_62 : decode cL_refresh 62 = .ok (.if_icmp .gt 36, 3) := by decide +kernel
theorem dL_refresh_65 : decode cL_refresh 65 = .ok (.aload_n 0, 1) := by decide +kernel
theorem dL_refresh_66 : decode cL_refresh 66 = .ok (.bipush 8, 2) := by decide +kernel
theorem dL_refresh_68 : decode cL_refresh 68 = .ok (.invokevirtual 10, 3) := by decide +kernel
theorem dL_refresh_71 : decode cL_refresh 71 = .ok (.iload_n 3, 1) := by decide +kernel
theorem dL_refresh_72 : decode cL_refresh 72 = .ok (.iconst 3, 1) := by decide +kernel
theorem dL_refresh_73 : decode cL_refresh 73 = .ok (.iload 4, 2) := by decide +kernel
theorem dL_refresh_75 : decode cL_refresh 75 = .ok (.imul, 1) := by decide +kernel
theorem dL_refresh_76 : decode cL_refresh 76 = .ok (.iadd, 1) := by decide +kernel
theorem dL_refresh_77 : decode cL_refresh 77 = .ok (.if_icmp .ne 21, 3) := by decide +kernel
theorem dL_refresh_80 : decode cL_refresh 80 = .ok (.aload_n 0, 1) := by decide +kernel
theorem dL_refresh_81 : decode cL_refresh 81 = .ok (.iload_n 1, 1) := by decide +kernel
theorem dL_refresh_82 : decode cL_refresh 82 = .ok (.bipush 6, 2) := by decide +kernel
theorem dL_refresh_84 : decode cL_refresh 84 = .ok (.invokevirtual 27, 3) := by decide +kernel
theorem dL_refresh_87 : decode cL_refresh 87 = .ok (.iload_n 2, 1) := by decide +kernel
theorem dL_refresh_88 : decode cL_refresh 88 = .ok (.iload 5, 2) := by decide +kernel
theorem dL_refresh_90 : decode cL_refresh 90 = .ok (.isub, 1) := by decide +kernel
theorem dL_refresh_91 : decode cL_refresh 91 = .ok (.if_icmp .ne 7, 3) := by decide +kernel
theorem dL_refresh_94 : decode cL_refresh 94 = .ok (.iconst 1, 1) := by decide +kernel
theorem dL_refresh_95 : decode cL_refresh 95 = .ok (.goto 4, 3) := by decide +kernel
theorem dL_refresh_98 : decode cL_refresh 98 = .ok (.iconst 0, 1) := by decide +kernel
theorem dL_refresh_99 : decode cL_refresh 99 = .ok (.istore 6, 2) := by decide +kernel
theorem dL_refresh_101 : decode cL_refresh 101 = .ok (.iconst 0, 1) := by decide +kernel
theorem dL_refresh_102 : decode cL_refresh 102 = .ok (.istore 7, 2) := by decide +kernel
theorem dL_refresh_104 : decode cL_refresh 104 = .ok (.iload 7, 2) := by decide +kernel
theorem dL_refresh_106 : decode cL_refresh 106 = .ok (.bipush 16, 2) := by decide +kernel
theorem dL_refresh_108 : decode cL_refresh 108 = .ok (.if_icmp .ge 72, 3) := by decide +kernel
theorem dL_refresh_111 : decode cL_refresh 111 = .ok (.iload 6, 2) := by decide +kernel
theorem dL_refresh_113 : decode cL_refresh 113 = .ok (.ifCond .eq 58, 3) := by decide +kernel
theorem dL_refresh_116 : decode cL_refresh 116 = .ok (.aload_n 0, 1) := by decide +kernel
theorem dL_refresh_117 : decode cL_refresh 117 = .ok (.iload_n 1, 1) := by decide +kernel
theorem dL_refresh_118 : decode cL_refresh 118 = .ok (.iload 7, 2) := by decide +kernel
theorem dL_refresh_120 : decode cL_refresh 120 = .ok (.iconst 2, 1) := by decide +kernel
theorem dL_refresh_121 : decode cL_refresh 121 = .ok (.invokevirtual 51, 3) := by decide +kernel
theorem dL_refresh_124 : decode cL_refresh 124 = .ok (.aload_n 0, 1) := by decide +kernel
theorem dL_refresh_125 : decode cL_refresh 125 = .ok (.iload_n 1, 1) := by decide +kernel
theorem dL_refresh_126 : decode cL_refresh 126 = .ok (.iload 7, 2) := by decide +kernel
theorem dL_refresh_128 : decode cL_refresh 128 = .ok (.iconst 0, 1) := by decide +kernel
theorem dL_refresh_129 : decode cL_refresh 129 = .ok (.invokevirtual 51, 3) := by decide +kernel
theorem dL_refresh_132 : decode cL_refresh 132 = .ok (.iconst 1, 1) := by decide +kernel
theorem dL_refresh_133 : decode cL_refresh 133 = .ok (.if_icmp .le 7, 3) := by decide +kernel
theorem dL_refresh_136 : decode cL_refresh 136 = .ok (.iconst 1, 1) := by decide +kernel
theorem dL_refresh_137 : decode cL_refresh 137 = .ok (.goto 4, 3) := by decide +kernel
theorem dL_refresh_140 : decode cL_refresh 140 = .ok (.iconst 0, 1) := by decide +kernel
theorem dL_refresh_141 : decode cL_refresh 141 = .ok (.if_icmp .ne 30, 3) := by decide +kernel
theorem dL_refresh_144 : decode cL_refresh 144 = .ok (.aload_n 0, 1) := by decide +kernel
theorem dL_refresh_145 : decode cL_refresh 145 = .ok (.iload_n 1, 1) := by decide +kernel
theorem dL_refresh_146 : decode cL_refresh 146 = .ok (.iload 7, 2) := by decide +kernel
theorem dL_refresh_148 : decode cL_refresh 148 = .ok (.iconst 2, 1) := by decide +kernel
theorem dL_refresh_149 : decode cL_refresh 149 = .ok (.invokevirtual 51, 3) := by decide +kernel
theorem dL_refresh_152 : decode cL_refresh 152 = .ok (.ifCond .eq 15, 3) := by decide +kernel
theorem dL_refresh_155 : decode cL_refresh 155 = .ok (.aload_n 0, 1) := by decide +kernel
theorem dL_refresh_156 : decode cL_refresh 156 = .ok (.iload_n 1, 1) := by decide +kernel
theorem dL_refresh_157 : decode cL_refresh 157 = .ok (.iload 7, 2) := by decide +kernel
theorem dL_refresh_159 : decode cL_refresh 159 = .ok (.iconst 0, 1) := by decide +kernel
theorem dL_refresh_160 : decode cL_refresh 160 = .ok (.invokevirtual 51, 3) := by decide +kernel
theorem dL_refresh_163 : decode cL_refresh 163 = .ok (.iconst 3, 1) := by decide +kernel
theorem dL_refresh_164 : decode cL_refresh 164 = .ok (.if_icmp .ne 7, 3) := by decide +kernel
theorem dL_refresh_167 : decode cL_refresh 167 = .ok (.iconst 1, 1) := by decide +kernel
theorem dL_refresh_168 : decode cL_refresh 168 = .ok (.goto 4, 3) := by decide +kernel
theorem dL_refresh_171 : decode cL_refresh 171 = .ok (.iconst 0, 1) := by decide +kernel
theorem dL_refresh_172 : decode cL_refresh 172 = .ok (.istore 6, 2) := by decide +kernel
theorem dL_refresh_174 : decode cL_refresh 174 = .ok (.iinc 7 1, 3) := by decide +kernel
theorem dL_refresh_177 : decode cL_refresh 177 = .ok (.goto (-73), 3) := by decide +kernel
theorem dL_refresh_180 : decode cL_refresh 180 = .ok (.iload 6, 2) := by decide +kernel
theorem dL_refresh_182 : decode cL_refresh 182 = .ok (.ifCond .eq 15, 3) := by decide +kernel
theorem dL_refresh_185 : decode cL_refresh 185 = .ok (.aload_n 0, 1) := by decide +kernel
theorem dL_refresh_186 : decode cL_refresh 186 = .ok (.iload_n 1, 1) := by decide +kernel
theorem dL_refresh_187 : decode cL_refresh 187 = .ok (.invokevirtual 54, 3) := by decide +kernel
theorem dL_refresh_190 : decode cL_refresh 190 = .ok (.ifCond .ne 7, 3) := by decide +kernel
theorem dL_refresh_193 : decode cL_refresh 193 = .ok (.iconst 1, 1) := by decide +kernel
theorem dL_refresh_194 : decode cL_refresh 194 = .ok (.goto 4, 3) := by decide +kernel
theorem dL_refresh_197 : decode cL_refresh 197 = .ok (.iconst 0, 1) := by decide +kernel
theorem dL_refresh_198 : decode cL_refresh 198 = .ok (.ireturn, 1) := by decide +kernel
theorem dL_addUp_0 : decode cL_addUp 0 = .ok (.iconst 0, 1) := by decide +kernel
theorem dL_addUp_1 : decode cL_addUp 1 = .ok (.istore_n 1, 1) := by decide +kernel
theorem dL_addUp_2 : decode cL_addUp 2 = .ok (.iconst 0, 1) := by decide +kernel
theorem dL_addUp_3 : decode cL_addUp 3 = .ok (.istore_n 2, 1) := by decide +kernel
theorem dL_addUp_4 : decode cL_addUp 4 = .ok (.iconst 0, 1) := by decide +kernel
theorem dL_addUp_5 : decode cL_addUp 5 = .ok (.istore_n 3, 1) := by decide +kernel
theorem dL_addUp_6 : decode cL_addUp 6 = .ok (.iconst (-1), 1) := by decide +kernel
theorem dL_addUp_7 : decode cL_addUp 7 = .ok (.istore 4, 2) := by decide +kernel
theorem dL_addUp_9 : decode cL_addUp 9 = .ok (.iconst 1, 1) := by decide +kernel
theorem dL_addUp_10 : decode cL_addUp 10 = .ok (.istore 5, 2) := by decide +kernel
theorem dL_addUp_12 : decode cL_addUp 12 = .ok (.iload 5, 2) := by decide +kernel
theorem dL_addUp_14 : decode cL_addUp 14 = .ok (.iconst 5, 1) := by decide +kernel
theorem dL_addUp_15 : decode cL_addUp 15 = .ok (.if_icmp .gt 18, 3) := by decide +kernel
theorem dL_addUp_18 : decode cL_addUp 18 = .ok (.iload_n 1, 1) := by decide +kernel
theorem dL_addUp_19 : decode cL_addUp 19 = .ok (.aload_n 0, 1) := by decide +kernel
theorem dL_addUp_20 : decode cL_addUp 20 = .ok (.iload 5, 2) := by decide +kernel
theorem dL_addUp_22 : decode cL_addUp 22 = .ok (.invokevirtual 10, 3) := by decide +kernel
theorem dL_addUp_25 : decode cL_addUp 25 = .ok (.iadd, 1) := by decide +kernel
theorem dL_addUp_26 : decode cL_addUp 26 = .ok (.istore_n 1, 1) := by decide +kernel
theorem dL_addUp_27 : decode cL_addUp 27 = .ok (.iinc 5 1, 3) := by decide +kernel
theorem dL_addUp_30 : decode cL_addUp 30 = .ok (.goto (-18), 3) := by decide +kernel
theorem dL_addUp_33 : decode cL_addUp 33 = .ok (.iconst 0, 1) := by decide +kernel
theorem dL_addUp_34 : decode cL_addUp 34 = .ok (.istore 5, 2) := by decide +kernel
theorem dL_addUp_36 : decode cL_addUp 36 = .ok (.iload 5, 2) := by decide +kernel
theorem dL_addUp_38 : decode cL_addUp 38 = .ok (.bipush 20, 2) := by decide +kernel
theorem dL_addUp_40 : decode cL_addUp 40 = .ok (.if_icmp .ge 50, 3) := by decide +kernel
theorem dL_addUp_43 : decode cL_addUp 43 = .ok (.iload_n 2, 1) := by decide +kernel
theorem dL_addUp_44 : decode cL_addUp 44 = .ok (.aload_n 0, 1) := by decide +kernel
theorem dL_addUp_45 : decode cL_addUp 45 = .ok (.iload 5, 2) := by decide +kernel
theorem dL_addUp_47 : decode cL_addUp 47 = .ok (.bipush 7, 2) := by decide +kernel
theorem dL_addUp_49 : decode cL_addUp 49 = .ok (.invokevirtual 27, 3) := by decide +kernel
theorem dL_addUp_52 : decode cL_addUp 52 = .ok (.iadd, 1) := by decide +kernel
theorem dL_addUp_53 : decode cL_addUp 53 = .ok (.istore_n 2, 1) := by decide +kernel
theorem dL_addUp_54 : decode cL_addUp 54 = .ok (.iload_n 3, 1) := by decide +kernel
theorem dL_addUp_55 : decode cL_addUp 55 = .ok (.aload_n 0, 1) := by decide +kernel
theorem dL_addUp_56 : decode cL_addUp 56 = .ok (.iload 5, 2) := by decide +kernel
theorem dL_addUp_58 : decode cL_addUp 58 = .ok (.bipush 6, 2) := by decide +kernel
theorem dL_addUp_60 : decode cL_addUp 60 = .ok (.invokevirtual 27, 3) := by decide +kernel
theorem dL_addUp_63 : decode cL_addUp 63 = .ok (.iadd, 1) := by decide +kernel
theorem dL_addUp_64 : decode cL_addUp 64 = .ok (.istore_n 3, 1) := by decide +kernel
theorem dL_addUp_65 : decode cL_addUp 65 = .ok (.aload_n 0, 1) := by decide +kernel
theorem dL_addUp_66 : decode cL_addUp 66 = .ok (.iload 5, 2) := by decide +kernel
theorem dL_addUp_68 : decode cL_addUp 68 = .ok (.iconst 1, 1) := by decide +kernel
theorem dL_addUp_69 : decode cL_addUp 69 = .ok (.invokevirtual 27, 3) := by decide +kernel
theorem dL_addUp_72 : decode cL_addUp 72 = .ok (.ifCond .le 8, 3) := by decide +kernel
theorem dL_addUp_75 : decode cL_addUp 75 = .ok (.iload 5, 2) := by decide +kernel
theorem dL_addUp_77 : decode cL_addUp 77 = .ok (.goto 5, 3) := by decide +kernel
theorem dL_addUp_80 : decode cL_addUp 80 = .ok (.iload 4, 2) := by decide +kernel
theorem dL_addUp_82 : decode cL_addUp 82 = .ok (.istore 4, 2) := by decide +kernel
theorem dL_addUp_84 : decode cL_addUp 84 = .ok (.iinc 5 1, 3) := by decide +kernel
theorem dL_addUp_87 : decode cL_addUp 87 = .ok (.goto (-51), 3) := by decide +kernel
theorem dL_addUp_90 : decode cL_addUp 90 = .ok (.iconst 0, 1) := by decide +kernel
theorem dL_addUp_91 : decode cL_addUp 91 = .ok (.istore 5, 2) := by decide +kernel
theorem dL_addUp_93 : decode cL_addUp 93 = .ok (.iconst 0, 1) := by decide +kernel
theorem dL_addUp_94 : decode cL_addUp 94 = .ok (.istore 6, 2) := by decide +kernel
theorem dL_addUp_96 : decode cL_addUp 96 = .ok (.iconst 0, 1) := by decide +kernel
theorem dL_addUp_97 : decode cL_addUp 97 = .ok (.istore 7, 2) := by decide +kernel
theorem dL_addUp_99 : decode cL_addUp 99 = .ok (.iload 7, 2) := by decide +kernel
theorem dL_addUp_101 : decode cL_addUp 101 = .ok (.bipush 16, 2) := by decide +kernel
theorem dL_addUp_103 : decode cL_addUp 103 = .ok (.if_icmp .ge 221, 3) := by decide +kernel
theorem dL_addUp_106 : decode cL_addUp 106 = .ok (.aload_n 0, 1) := by decide +kernel
theorem dL_addUp_107 : decode cL_addUp 107 = .ok (.iload 7, 2) := by decide +kernel
theorem dL_addUp_109 : decode cL_addUp 109 = .ok (.iconst 1, 1) := by decide +kernel
theorem dL_addUp_110 : decode cL_addUp 110 = .ok (.invokevirtual 20, 3) := by decide +kernel
theorem dL_addUp_113 : decode cL_addUp 113 = .ok (.istore 8, 2) := by decide +kernel
theorem dL_addUp_115 : decode cL_addUp 115 = .ok (.iload 5, 2) := by decide +kernel
theorem dL_addUp_117 : decode cL_addUp 117 = .ok (.aload_n 0, 1) := by decide +kernel
theorem dL_addUp_118 : decode cL_addUp 118 = .ok (.iload 7, 2) := by decide +kernel
theorem dL_addUp_120 : decode cL_addUp 120 = .ok (.iconst 2, 1) := by decide +kernel
theorem dL_addUp_121 : decode cL_addUp 121 = .ok (.invokevirtual 20, 3) := by decide +kernel
theorem dL_addUp_124 : decode cL_addUp 124 = .ok (.iadd, 1) := by decide +kernel
theorem dL_addUp_125 : decode cL_addUp 125 = .ok (.istore 5, 2) := by decide +kernel
theorem dL_addUp_127 : decode cL_addUp 127 = .ok (.iload 6, 2) := by decide +kernel
theorem dL_addUp_129 : decode cL_addUp 129 = .ok (.aload_n 0, 1) := by decide +kernel
theorem dL_addUp_130 : decode cL_addUp 130 = .ok (.iload 7, 2) := by decide +kernel
theorem dL_addUp_132 : decode cL_addUp 132 = .ok (.iconst 0, 1) := by decide +kernel
theorem dL_addUp_133 : decode cL_addUp 133 = .ok (.invokevirtual 20, 3) := by decide +kernel
theorem dL_addUp_136 : decode cL_addUp 136 = .ok (.ifCond .lt 7, 3) := by decide +kernel
theorem dL_addUp_139 : decode cL_addUp 139 = .ok (.iconst 1, 1) := by decide +kernel
theorem dL_addUp_140 : decode cL_addUp 140 = .ok (.goto 4, 3) := by decide +kernel
theorem dL_addUp_143 : decode cL_addUp 143 = .ok (.iconst 0, 1) := by decide +kernel
theorem dL_addUp_144 : decode cL_addUp 144 = .ok (.iadd, 1) := by decide +kernel
theorem dL_addUp_145 : decode cL_addUp 145 = .ok (.istore 6, 2) := by decide +kernel
theorem dL_addUp_147 : decode cL_addUp 147 = .ok (.iload 8, 2) := by decide +kernel
theorem dL_addUp_149 : decode cL_addUp 149 = .ok (.ifCond .lt 7, 3) := by decide +kernel
theorem dL_addUp_152 : decode cL_addUp 152 = .ok (.iconst 1, 1) := by decide +kernel
theorem dL_addUp_153 : decode cL_addUp 153 = .ok (.goto 4, 3) := by decide +kernel
theorem dL_addUp_156 : decode cL_addUp 156 = .ok (.iconst 0, 1) := by decide +kernel
theorem dL_addUp_157 : decode cL_addUp 157 = .ok (.aload_n 0, 1) := by decide +kernel
theorem dL_addUp_158 : decode cL_addUp 158 = .ok (.iload 7, 2) := by decide +kernel
theorem dL_addUp_160 : decode cL_addUp 160 = .ok (.iconst 2, 1) := by decide +kernel
theorem dL_addUp_161 : decode cL_addUp 161 = .ok (.invokevirtual 20, 3) := by decide +kernel
theorem dL_addUp_164 : decode cL_addUp 164 = .ok (.ifCond .le 7, 3) := by decide +kernel
theorem dL_addUp_167 : decode cL_addUp 167 = .ok (.iconst 1, 1) := by decide +kernel
theorem dL_addUp_168 : decode cL_addUp 168 = .ok (.goto 4, 3) := by decide +kernel
theorem dL_addUp_171 : decode cL_addUp 171 = .ok (.iconst 0, 1) := by decide +kernel
theorem dL_addUp_172 : decode cL_addUp 172 = .ok (.if_icmp .ne 69, 3) := by decide +kernel
theorem dL_addUp_175 : decode cL_addUp 175 = .ok (.iload 8, 2) := by decide +kernel
theorem dL_addUp_177 : decode cL_addUp 177 = .ok (.ifCond .lt 43, 3) := by decide +kernel
theorem dL_addUp_180 : decode cL_addUp 180 = .ok (.aload_n 0, 1) := by decide +kernel
theorem dL_addUp_181 : decode cL_addUp 181 = .ok (.iload 8, 2) := by decide +kernel
theorem dL_addUp_183 : decode cL_addUp 183 = .ok (.iconst 1, 1) := by decide +kernel
theorem dL_addUp_184 : decode cL_addUp 184 = .ok (.invokevirtual 27, 3) := by decide +kernel
theorem dL_addUp_187 : decode cL_addUp 187 = .ok (.iconst 4, 1) := by decide +kernel
theorem dL_addUp_188 : decode cL_addUp 188 = .ok (.if_icmp .ne 53, 3) := by decide +kernel
theorem dL_addUp_191 : decode cL_addUp 191 = .ok (.aload_n 0, 1) := by decide +kernel
theorem dL_addUp_192 : decode cL_addUp 192 = .ok (.iload 8, 2) := by decide +kernel
theorem dL_addUp_194 : decode cL_addUp 194 = .ok (.iconst 2, 1) := by decide +kernel
theorem dL_addUp_195 : decode cL_addUp 195 = .ok (.invokevirtual 27, 3) := by decide +kernel
theorem dL_addUp_198 : decode cL_addUp 198 = .ok (.iload 7, 2) := by decide +kernel
theorem dL_addUp_200 : decode cL_addUp 200 = .ok (.if_icmp .ne 41, 3) := by decide +kernel
theorem dL_addUp_203 : decode cL_addUp 203 = .ok (.aload_n 0, 1) := by decide +kernel
theorem dL_addUp_204 : decode cL_addUp 204 = .ok (.iload 8, 2) := by decide +kernel
theorem dL_addUp_206 : decode cL_addUp 206 = .ok (.iconst 3, 1) := by decide +kernel
theorem dL_addUp_207 : decode cL_addUp 207 = .ok (.invokevirtual 27, 3) := by decide +kernel
theorem dL_addUp_210 : decode cL_addUp 210 = .ok (.aload_n 0, 1) := by decide +kernel
theorem dL_addUp_211 : decode cL_addUp 211 = .ok (.iload 7, 2) := by decide +kernel
theorem dL_addUp_213 : decode cL_addUp 213 = .ok (.iconst 0, 1) := by decide +kernel
theorem dL_addUp_214 : decode cL_addUp 214 = .ok (.invokevirtual 20, 3) := by decide +kernel
theorem dL_addUp_217 : decode cL_addUp 217 = .ok (.if_icmp .ne 24, 3) := by decide +kernel
theorem dL_addUp_220 : decode cL_addUp 220 = .ok (.aload_n 0, 1) := by decide +kernel
theorem dL_addUp_221 : decode cL_addUp 221 = .ok (.iload 7, 2) := by decide +kernel
theorem dL_addUp_223 : decode cL_addUp 223 = .ok (.iconst 3, 1) := by decide +kernel
theorem dL_addUp_224 : decode cL_addUp 224 = .ok (.invokevirtual 20, 3) := by decide +kernel
theorem dL_addUp_227 : decode cL_addUp 227 = .ok (.aload_n 0, 1) := by decide +kernel
theorem dL_addUp_228 : decode cL_addUp 228 = .ok (.iload 7, 2) := by decide +kernel
theorem dL_addUp_230 : decode cL_addUp 230 = .ok (.iconst 2, 1) := by decide +kernel
theorem dL_addUp_231 : decode cL_addUp 231 = .ok (.invokevirtual 20, 3) := by decide +kernel
theorem dL_addUp_234 : decode cL_addUp 234 = .ok (.if_icmp .lt 7, 3) := by decide +kernel
theorem dL_addUp_237 : decode cL_addUp 237 = .ok (.iconst 1, 1) := by decide +kernel
theorem dL_addUp_238 : decode cL_addUp 238 = .ok (.goto 4, 3) := by decide +kernel
theorem dL_addUp_241 : decode cL_addUp 241 = .ok (.iconst 0, 1) := by decide +kernel
theorem dL_addUp_242 : decode cL_addUp 242 = .ok (.istore 9, 2) := by decide +kernel
theorem dL_addUp_244 : decode cL_addUp 244 = .ok (.iload 9, 2) := by decide +kernel
theorem dL_addUp_246 : decode cL_addUp 246 = .ok (.ifCond .eq 70, 3) := by decide +kernel
theorem dL_addUp_249 : decode cL_addUp 249 = .ok (.aload_n 0, 1) := by decide +kernel
theorem dL_addUp_250 : decode cL_addUp 250 = .ok (.iload 7, 2) := by decide +kernel
theorem dL_addUp_252 : decode cL_addUp 252 = .ok (.iconst 0, 1) := by decide +kernel
theorem dL_addUp_253 : decode cL_addUp 253 = .ok (.invokevirtual 57, 3) := by decide +kernel
theorem dL_addUp_256 : decode cL_addUp 256 = .ok (.ifCond .lt 7, 3) := by decide +kernel
theorem dL_addUp_259 : decode cL_addUp 259 = .ok (.iconst 1, 1) := by decide +kernel
theorem dL_addUp_260 : decode cL_addUp 260 = .ok (.goto 4, 3) := by decide +kernel
theorem dL_addUp_263 : decode cL_addUp 263 = .ok (.iconst 0, 1) := by decide +kernel
theorem dL_addUp_264 : decode cL_addUp 264 = .ok (.aload_n 0, 1) := by decide +kernel
theorem dL_addUp_265 : decode cL_addUp 265 = .ok (.iload 7, 2) := by decide +kernel
theorem dL_addUp_267 : decode cL_addUp 267 = .ok (.iconst 3, 1) := by decide +kernel
theorem dL_addUp_268 : decode cL_addUp 268 = .ok (.invokevirtual 20, 3) := by decide +kernel
theorem dL_addUp_271 : decode cL_addUp 271 = .ok (.ifCond .le 7, 3) := by decide +kernel
theorem dL_addUp_274 : decode cL_addUp 274 = .ok (.iconst 1, 1) := by decide +kernel
theorem dL_addUp_275 : decode cL_addUp 275 = .ok (.goto 4, 3) := by decide +kernel
theorem dL_addUp_278 : decode cL_addUp 278 = .ok (.iconst 0, 1) := by decide +kernel
theorem dL_addUp_279 : decode cL_addUp 279 = .ok (.if_icmp .ne 37, 3) := by decide +kernel
theorem dL_addUp_282 : decode cL_addUp 282 = .ok (.aload_n 0, 1) := by decide +kernel
theorem dL_addUp_283 : decode cL_addUp 283 = .ok (.iload 7, 2) := by decide +kernel
theorem dL_addUp_285 : decode cL_addUp 285 = .ok (.aload_n 0, 1) := by decide +kernel
theorem dL_addUp_286 : decode cL_addUp 286 = .ok (.iload 7, 2) := by decide +kernel
theorem dL_addUp_288 : decode cL_addUp 288 = .ok (.iconst 3, 1) := by decide +kernel
theorem dL_addUp_289 : decode cL_addUp 289 = .ok (.invokevirtual 20, 3) := by decide +kernel
theorem dL_addUp_292 : decode cL_addUp 292 = .ok (.invokevirtual 57, 3) := by decide +kernel
theorem dL_addUp_295 : decode cL_addUp 295 = .ok (.iconst (-1), 1) := by decide +kernel
theorem dL_addUp_296 : decode cL_addUp 296 = .ok (.if_icmp .ne 20, 3) := by decide +kernel
theorem dL_addUp_299 : decode cL_addUp 299 = .ok (.aload_n 0, 1) := by decide +kernel
theorem dL_addUp_300 : decode cL_addUp 300 = .ok (.iload 7, 2) := by decide +kernel
theorem dL_addUp_302 : decode cL_addUp 302 = .ok (.iconst 0, 1) := by decide +kernel
theorem dL_addUp_303 : decode cL_addUp 303 = .ok (.invokevirtual 20, 3) := by decide +kernel
theorem dL_addUp_306 : decode cL_addUp 306 = .ok (.aload_n 0, 1) := by decide +kernel
theorem dL_addUp_307 : decode cL_addUp 307 = .ok (.iload 7, 2) := by decide +kernel
theorem dL_addUp_309 : decode cL_addUp 309 = .ok (.iconst 4, 1) := by decide +kernel
theorem dL_addUp_310 : decode cL_addUp 310 = .ok (.invokevirtual 20, 3) := by decide +kernel
theorem dL_addUp_313 : decode cL_addUp 313 = .ok (.if_icmp .le 5, 3) := by decide +kernel
theorem dL_addUp_316 : decode cL_addUp 316 = .ok (.iconst 0, 1) := by decide +kernel
theorem dL_addUp_317 : decode cL_addUp 317 = .ok (.ireturn, 1) := by decide +kernel
theorem dL_addUp_318 : decode cL_addUp 318 = .ok (.iinc 7 1, 3) := by decide +kernel
theorem dL_addUp_321 : decode cL_addUp 321 = .ok (.goto (-222), 3) := by decide +kernel
theorem dL_addUp_324 : decode cL_addUp 324 = .ok (.iload 4, 2) := by decide +kernel
theorem dL_addUp_326 : decode cL_addUp 326 = .ok (.bipush 19, 2) := by decide +kernel
theorem dL_addUp_328 : decode cL_addUp 328 = .ok (.if_icmp .eq 17, 3) := by decide +kernel
theorem dL_addUp_331 : decode cL_addUp 331 = .ok (.aload_n 0, 1) := by decide +kernel
theorem dL_addUp_332 : decode cL_addUp 332 = .ok (.iload 4, 2) := by decide +kernel
theorem dL_addUp_334 : decode cL_addUp 334 = .ok (.iconst 1, 1) := by decide +kernel
theorem dL_addUp_335 : decode cL_addUp 335 = .ok (.iadd, 1) := by decide +kernel
theorem dL_addUp_336 : decode cL_addUp 336 = .ok (.bipush 7, 2) := by decide +kernel
theorem dL_addUp_338 : decode cL_addUp 338 = .ok (.invokevirtual 27, 3) := by decide +kernel
theorem dL_addUp_341 : decode cL_addUp 341 = .ok (.iconst 1, 1) := by decide +kernel
theorem dL_addUp_342 : decode cL_addUp 342 = .ok (.if_icmp .ne 7, 3) := by decide +kernel
theorem dL_addUp_345 : decode cL_addUp 345 = .ok (.iconst 1, 1) := by decide +kernel
theorem dL_addUp_346 : decode cL_addUp 346 = .ok (.goto 4, 3) := by decide +kernel
theorem dL_addUp_349 : decode cL_addUp 349 = .ok (.iconst 0, 1) := by decide +kernel
theorem dL_addUp_350 : decode cL_addUp 350 = .ok (.istore 7, 2) := by decide +kernel
theorem dL_addUp_352 : decode cL_addUp 352 = .ok (.iload_n 1, 1) := by decide +kernel
theorem dL_addUp_353 : decode cL_addUp 353 = .ok (.bipush 20, 2) := by decide +kernel
theorem dL_addUp_355 : decode cL_addUp 355 = .ok (.if_icmp .ne 70, 3) := by decide +kernel
theorem dL_addUp_358 : decode cL_addUp 358 = .ok (.aload_n 0, 1) := by decide +kernel
theorem dL_addUp_359 : decode cL_addUp 359 = .ok (.bipush 6, 2) := by decide +kernel
theorem dL_addUp_361 : decode cL_addUp 361 = .ok (.invokevirtual 10, 3) := by decide +kernel
theorem dL_addUp_364 : decode cL_addUp 364 = .ok (.iload_n 2, 1) := by decide +kernel
theorem dL_addUp_365 : decode cL_addUp 365 = .ok (.if_icmp .ne 60, 3) := by decide +kernel
theorem dL_addUp_368 : decode cL_addUp 368 = .ok (.aload_n 0, 1) := by decide +kernel
theorem dL_addUp_369 : decode cL_addUp 369 = .ok (.bipush 7, 2) := by decide +kernel
theorem dL_addUp_371 : decode cL_addUp 371 = .ok (.invokevirtual 10, 3) := by decide +kernel
theorem dL_addUp_374 : decode cL_addUp 374 = .ok (.iload_n 3, 1) := by decide +kernel
theorem dL_addUp_375 : decode cL_addUp 375 = .ok (.if_icmp .ne 50, 3) := by decide +kernel
theorem dL_addUp_378 : decode cL_addUp 378 = .ok (.aload_n 0, 1) := by decide +kernel
theorem dL_addUp_379 : decode cL_addUp 379 = .ok (.iconst 5, 1) := by decide +kernel
theorem dL_addUp_380 : decode cL_addUp 380 = .ok (.invokevirtual 10, 3) := by decide +kernel
theorem dL_addUp_383 : decode cL_addUp 383 = .ok (.iload 5, 2) := by decide +kernel
theorem dL_addUp_385 : decode cL_addUp 385 = .ok (.if_icmp .ne 40, 3) := by decide +kernel
theorem dL_addUp_388 : decode cL_addUp 388 = .ok (.aload_n 0, 1) := by decide +kernel
theorem dL_addUp_389 : decode cL_addUp 389 = .ok (.bipush 9, 2) := by decide +kernel
theorem dL_addUp_391 : decode cL_addUp 391 = .ok (.invokevirtual 10, 3) := by decide +kernel
theorem dL_addUp_394 : decode cL_addUp 394 = .ok (.iload 6, 2) := by decide +kernel
theorem dL_addUp_396 : decode cL_addUp 396 = .ok (.if_icmp .ne 29, 3) := by decide +kernel
theorem dL_addUp_399 : decode cL_addUp 399 = .ok (.aload_n 0, 1) := by decide +kernel
theorem dL_addUp_400 : decode cL_addUp 400 = .ok (.bipush 10, 2) := by decide +kernel
theorem dL_addUp_402 : decode cL_addUp 402 = .ok (.invokevirtual 10, 3) := by decide +kernel
theorem dL_addUp_405 : decode cL_addUp 405 = .ok (.iload 7, 2) := by decide +kernel
theorem dL_addUp_407 : decode cL_addUp 407 = .ok (.ifCond .eq 7, 3) := by decide +kernel
theorem dL_addUp_410 : decode cL_addUp 410 = .ok (.iconst (-1), 1) := by decide +kernel
theorem dL_addUp_411 : decode cL_addUp 411 = .ok (.goto 7, 3) := by decide +kernel
theorem dL_addUp_414 : decode cL_addUp 414 = .ok (.iload 4, 2) := by decide +kernel
theorem dL_addUp_416 : decode cL_addUp 416 = .ok (.iconst 1, 1) := by decide +kernel
theorem dL_addUp_417 : decode cL_addUp 417 = .ok (.iadd, 1) := by decide +kernel
theorem dL_addUp_418 : decode cL_addUp 418 = .ok (.if_icmp .ne 7, 3) := by decide +kernel
theorem dL_addUp_421 : decode cL_addUp 421 = .ok (.iconst 1, 1) := by decide +kernel
theorem dL_addUp_422 : decode cL_addUp 422 = .ok (.goto 4, 3) := by decide +kernel
theorem dL_addUp_425 : decode cL_addUp 425 = .ok (.iconst 0, 1) := by decide +kernel
theorem dL_addUp_426 : decode cL_addUp 426 = .ok (.ireturn, 1) := by decide +kernel
theorem dL_law_0 : decode cL_law 0 = .ok (.new 11, 3) := by decide +kernel
theorem dL_law_3 : decode cL_law 3 = .ok (.dup, 1) := by decide +kernel
theorem dL_law_4 : decode cL_law 4 = .ok (.invokespecial 60, 3) := by decide +kernel
theorem dL_law_7 : decode cL_law 7 = .ok (.astore_n 1, 1) := by decide +kernel
theorem dL_law_8 : decode cL_law 8 = .ok (.aload_n 1, 1) := by decide +kernel
theorem dL_law_9 : decode cL_law 9 = .ok (.invokevirtual 61, 3) := by decide +kernel
theorem dL_law_12 : decode cL_law 12 = .ok (.dconst 1, 1) := by decide +kernel
theorem dL_law_13 : decode cL_law 13 = .ok (.dcmp .l, 1) := by decide +kernel
theorem dL_law_14 : decode cL_law 14 = .ok (.ifCond .ne 10, 3) := by decide +kernel
theorem dL_law_17 : decode cL_law 17 = .ok (.aload_n 1, 1) := by decide +kernel
theorem dL_law_18 : decode cL_law 18 = .ok (.invokestatic 65, 3) := by decide +kernel
theorem dL_law_21 : decode cL_law 21 = .ok (.ifCond .ne 5, 3) := by decide +kernel
theorem dL_law_24 : decode cL_law 24 = .ok (.iconst 0, 1) := by decide +kernel
theorem dL_law_25 : decode cL_law 25 = .ok (.ireturn, 1) := by decide +kernel
theorem dL_law_26 : decode cL_law 26 = .ok (.iconst 1, 1) := by decide +kernel
theorem dL_law_27 : decode cL_law 27 = .ok (.aload_n 0, 1) := by decide +kernel
theorem dL_law_28 : decode cL_law 28 = .ok (.iconst 0, 1) := by decide +kernel
theorem dL_law_29 : decode cL_law 29 = .ok (.invokestatic 69, 3) := by decide +kernel
theorem dL_law_32 : decode cL_law 32 = .ok (.iconst 5, 1) := by decide +kernel
theorem dL_law_33 : decode cL_law 33 = .ok (.invokestatic 33, 3) := by decide +kernel
theorem dL_law_36 : decode cL_law 36 = .ok (.iadd, 1) := by decide +kernel
theorem dL_law_37 : decode cL_law 37 = .ok (.istore_n 2, 1) := by decide +kernel
theorem dL_law_38 : decode cL_law 38 = .ok (.iconst 0, 1) := by decide +kernel
theorem dL_law_39 : decode cL_law 39 = .ok (.istore_n 3, 1) := by decide +kernel
theorem dL_law_40 : decode cL_law 40 = .ok (.iload_n 3, 1) := by decide +kernel
theorem dL_law_41 : decode cL_law 41 = .ok (.bipush 26, 2) := by decide +kernel
theorem dL_law_43 : decode cL_law 43 = .ok (.if_icmp .ge 482, 3) := by decide +kernel
theorem dL_law_46 : decode cL_law 46 = .ok (.aload_n 0, 1) := by decide +kernel
theorem dL_law_47 : decode cL_law 47 = .ok (.iconst 1, 1) := by decide +kernel
theorem dL_law_48 : decode cL_law 48 = .ok (.iload_n 3, 1) := by decide +kernel
theorem dL_law_49 : decode cL_law 49 = .ok (.iadd, 1) := by decide +kernel
theorem dL_law_50 : decode cL_law 50 = .ok (.invokestatic 69, 3) := by decide +kernel
theorem dL_law_53 : decode cL_law 53 = .ok (.istore 4, 2) := by decide +kernel
theorem dL_law_55 : decode cL_law 55 = .ok (.iload 4, 2) := by decide +kernel
theorem dL_law_57 : decode cL_law 57 = .ok (.iconst 4, 1) := by decide +kernel
theorem dL_law_58 : decode cL_law 58 = .ok (.ishr, 1) := by decide +kernel
theorem dL_law_59 : decode cL_law 59 = .ok (.istore 5, 2) := by decide +kernel
theorem dL_law_61 : decode cL_law 61 = .ok (.iload 5, 2) := by decide +kernel
theorem dL_law_63 : decode cL_law 63 = .ok (.bipush 20, 2) := by decide +kernel
theorem dL_law_65 : decode cL_law 65 = .ok (.invokestatic 33, 3) := by decide +kernel
theorem dL_law_68 : decode cL_law 68 = .ok (.istore 6, 2) := by decide +kernel
theorem dL_law_70 : decode cL_law 70 = .ok (.iload 4, 2) := by decide +kernel
theorem dL_law_72 : decode cL_law 72 = .ok (.bipush 11, 2) := by decide +kernel
theorem dL_law_74 : decode cL_law 74 = .ok (.invokestatic 33, 3) := by decide +kernel
theorem dL_law_77 : decode cL_law 77 = .ok (.istore 7, 2) := by decide +kernel
theorem dL_law_79 : decode cL_law 79 = .ok (.iconst 1, 1) := by decide +kernel
theorem dL_law_80 : decode cL_law 80 = .ok (.istore 8, 2) := by decide +kernel
theorem dL_law_82 : decode cL_law 82 = .ok (.iload 7, 2) := by decide +kernel
theorem dL_law_84 : decode cL_law 84 = .ok (.iconst 5, 1) := by decide +kernel
theorem dL_law_85 : decode cL_law 85 = .ok (.if_icmp .ge 56, 3) := by decide +kernel
theorem dL_law_88 : decode cL_law 88 = .ok (.aload_n 1, 1) := by decide +kernel
theorem dL_law_89 : decode cL_law 89 = .ok (.bipush 10, 2) := by decide +kernel
theorem dL_law_91 : decode cL_law 91 = .ok (.invokevirtual 10, 3) := by decide +kernel
theorem dL_law_94 : decode cL_law 94 = .ok (.iconst (-1), 1) := by decide +kernel
theorem dL_law_95 : decode cL_law 95 = .ok (.if_icmp .ne 22, 3) := by decide +kernel
theorem dL_law_98 : decode cL_law 98 = .ok (.aload_n 1, 1) := by decide +kernel
theorem dL_law_99 : decode cL_law 99 = .ok (.iconst 1, 1) := by decide +kernel
theorem dL_law_100 : decode cL_law 100 = .ok (.iconst 1, 1) := by decide +kernel
theorem dL_law_101 : decode cL_law 101 = .ok (.iconst 0, 1) := by decide +kernel
theorem dL_law_102 : decode cL_law 102 = .ok (.invokevirtual 16, 3) := by decide +kernel
theorem dL_law_105 : decode cL_law 105 = .ok (.iconst (-1), 1) := by decide +kernel
theorem dL_law_106 : decode cL_law 106 = .ok (.if_icmp .ne 7, 3) := by decide +kernel
theorem dL_law_109 : decode cL_law 109 = .ok (.iconst 1, 1) := by decide +kernel
theorem dL_law_110 : decode cL_law 110 = .ok (.goto 26, 3) := by decide +kernel
theorem dL_law_113 : decode cL_law 113 = .ok (.iconst 0, 1) := by decide +kernel
theorem dL_law_114 : decode cL_law 114 = .ok (.goto 22, 3) := by decide +kernel
theorem dL_law_117 : decode cL_law 117 = .ok (.aload_n 1, 1) := by decide +kernel
theorem dL_law_118 : decode cL_law 118 = .ok (.iload 5, 2) := by decide +kernel
theorem dL_law_120 : decode cL_law 120 = .ok (.iload_n 2, 1) := by decide +kernel
theorem dL_law_121 : decode cL_law 121 = .ok (.invokestatic 33, 3) := by decide +kernel
theorem dL_law_124 : decode cL_law 124 = .ok (.iload 5, 2) := by decide +kernel
theorem dL_law_126 : decode cL_law 126 = .ok (.iconst 3, 1) := by decide +kernel
theorem dL_law_127 : decode cL_law 127 = .ok (.ishr, 1) := by decide +kernel
theorem dL_law_128 : decode cL_law 128 = .ok (.bipush 64, 2) := by decide +kernel
theorem dL_law_130 : decode cL_law 130 = .ok (.invokestatic 33, 3) := by decide +kernel
theorem dL_law_133 : decode cL_law 133 = .ok (.invokestatic 73, 3) := by decide +kernel
theorem dL_law_136 : decode cL_law 136 = .ok (.istore 8, 2) := by decide +kernel
theorem dL_law_138 : decode cL_law 138 = .ok (.goto 356, 3) := by decide +kernel
theorem dL_law_141 : decode cL_law 141 = .ok (.iload 7, 2) := by decide +kernel
theorem dL_law_143 : decode cL_law 143 = .ok (.iconst 5, 1) := by decide +kernel
theorem dL_law_144 : decode cL_law 144 = .ok (.if_icmp .ne 95, 3) := by decide +kernel
theorem dL_law_147 : decode cL_law 147 = .ok (.iconst 2, 1) := by decide +kernel
theorem dL_law_148 : decode cL_law 148 = .ok (.iload 5, 2) := by decide +kernel
theorem dL_law_150 : decode cL_law 150 = .ok (.iconst 3, 1) := by decide +kernel
theorem dL_law_151 : decode cL_law 151 = .ok (.invokestatic 33, 3) := by decide +kernel
theorem dL_law_154 : decode cL_law 154 = .ok (.iadd, 1) := by decide +kernel
theorem dL_law_155 : decode cL_law 155 = .ok (.istore 9, 2) := by decide +kernel
theorem dL_law_157 : decode cL_law 157 = .ok (.aload_n 1, 1) := by decide +kernel
theorem dL_law_158 : decode cL_law 158 = .ok (.iconst 1, 1) := by decide +kernel
theorem dL_law_159 : decode cL_law 159 = .ok (.iload 9, 2) := by decide +kernel
theorem dL_law_161 : decode cL_law 161 = .ok (.iconst 4, 1) := by decide +kernel
theorem dL_law_162 : decode cL_law 162 = .ok (.if_icmp .ne 7, 3) := by decide +kernel
theorem dL_law_165 : decode cL_law 165 = .ok (.iconst 3, 1) := by decide +kernel
theorem dL_law_166 : decode cL_law 166 = .ok (.goto 5, 3) := by decide +kernel
theorem dL_law_169 : decode cL_law 169 = .ok (.iload 9, 2) := by decide +kernel
theorem dL_law_171 : decode cL_law 171 = .ok (.invokevirtual 76, 3) := by decide +kernel
theorem dL_law_174 : decode cL_law 174 = .ok (.iconst 1, 1) := by decide +kernel
theorem dL_law_175 : decode cL_law 175 = .ok (.if_icmp .lt 58, 3) := by decide +kernel
theorem dL_law_178 : decode cL_law 178 = .ok (.aload_n 1, 1) := by decide +kernel
theorem dL_law_179 : decode cL_law 179 = .ok (.iconst 2, 1) := by decide +kernel
theorem dL_law_180 : decode cL_law 180 = .ok (.iconst 1, 1) := by decide +kernel
theorem dL_law_181 : decode cL_law 181 = .ok (.iload 5, 2) := by decide +kernel
theorem dL_law_183 : decode cL_law 183 = .ok (.iconst 2, 1) := by decide +kernel
theorem dL_law_184 : decode cL_law 184 = .ok (.ishr, 1) := by decide +kernel
theorem dL_law_185 : decode cL_law 185 = .ok (.iconst 3, 1) := by decide +kernel
theorem dL_law_186 : decode cL_law 186 = .ok (.invokestatic 33, 3) := by decide +kernel
theorem dL_law_189 : decode cL_law 189 = .ok (.iadd, 1) := by decide +kernel
theorem dL_law_190 : decode cL_law 190 = .ok (.invokevirtual 76, 3) := by decide +kernel
theorem dL_law_193 : decode cL_law 193 = .ok (.iconst 1, 1) := by decide +kernel
theorem dL_law_194 : decode cL_law 194 = .ok (.if_icmp .lt 39, 3) := by decide +kernel
theorem dL_law_197 : decode cL_law 197 = .ok (.aload_n 1, 1) := by decide +kernel
theorem dL_law_198 : decode cL_law 198 = .ok (.iconst 0, 1) := by decide +kernel
theorem dL_law_199 : decode cL_law 199 = .ok (.iload 5, 2) := by decide +kernel
theorem dL_law_201 : decode cL_law 201 = .ok (.iconst 4, 1) := by decide +kernel
theorem dL_law_202 : decode cL_law 202 = .ok (.ishr, 1) := by decide +kernel
theorem dL_law_203 : decode cL_law 203 = .ok (.iconst 2, 1) := by decide +kernel
theorem dL_law_204 : decode cL_law 204 = .ok (.invokestatic 33, 3) := by decide +kernel
theorem dL_law_207 : decode cL_law 207 = .ok (.invokevirtual 76, 3) := by decide +kernel
theorem dL_law_210 : decode cL_law 210 = .ok (.ifCond .lt 23, 3) := by decide +kernel
theorem dL_law_213 : decode cL_law 213 = .ok (.aload_n 1, 1) := by decide +kernel
theorem dL_law_214 : decode cL_law 214 = .ok (.iconst 3, 1) := by decide +kernel
theorem dL_law_215 : decode cL_law 215 = .ok (.iload 5, 2) := by decide +kernel
theorem dL_law_217 : decode cL_law 217 = .ok (.iconst 5, 1) := by decide +kernel
theorem dL_law_218 : decode cL_law 218 = .ok (.ishr, 1) := by decide +kernel
theorem dL_law_219 : decode cL_law 219 = .ok (.iconst 2, 1) := by decide +kernel
theorem dL_law_220 : decode cL_law 220 = .ok (.invokestatic 33, 3) := by decide +kernel
theorem dL_law_223 : decode cL_law 223 = .ok (.invokevirtual 76, 3) := by decide +kernel
theorem dL_law_226 : decode cL_law 226 = .ok (.ifCond .lt 7, 3) := by decide +kernel
theorem dL_law_229 : decode cL_law 229 = .ok (.iconst 1, 1) := by decide +kernel
theorem dL_law_230 : decode cL_law 230 = .ok (.goto 4, 3) := by decide +kernel
theorem dL_law_233 : decode cL_law 233 = .ok (.iconst 0, 1) := by decide +kernel
theorem dL_law_234 : decode cL_law 234 = .ok (.istore 8, 2) := by decide +kernel
theorem dL_law_236 : decode cL_law 236 = .ok (.goto 258, 3) := by decide +kernel
theorem dL_law_239 : decode cL_law 239 = .ok (.iload 7, 2) := by decide +kernel
theorem dL_law_241 : decode cL_law 241 = .ok (.bipush 6, 2) := by decide +kernel
theorem dL_law_243 : decode cL_law 243 = .ok (.if_icmp .ne 34, 3) := by decide +kernel
theorem dL_law_246 : decode cL_law 246 = .ok (.aload_n 1, 1) := by decide +kernel
theorem dL_law_247 : decode cL_law 247 = .ok (.iload 6, 2) := by decide +kernel
theorem dL_law_249 : decode cL_law 249 = .ok (.bipush 7, 2) := by decide +kernel
theorem dL_law_251 : decode cL_law 251 = .ok (.invokevirtual 27, 3) := by decide +kernel
theorem dL_law_254 : decode cL_law 254 = .ok (.iconst 1, 1) := by decide +kernel
theorem dL_law_255 : decode cL_law 255 = .ok (.if_icmp .eq 12, 3) := by decide +kernel
theorem dL_law_258 : decode cL_law 258 = .ok (.aload_n 1, 1) := by decide +kernel
theorem dL_law_259 : decode cL_law 259 = .ok (.iload 6, 2) := by decide +kernel
theorem dL_law_261 : decode cL_law 261 = .ok (.invokestatic 79, 3) := by decide +kernel
theorem dL_law_264 : decode cL_law 264 = .ok (.ifCond .eq 7, 3) := by decide +kernel
theorem dL_law_267 : decode cL_law 267 = .ok (.iconst 1, 1) := by decide +kernel
theorem dL_law_268 : decode cL_law 268 = .ok (.goto 4, 3) := by decide +kernel
theorem dL_law_271 : decode cL_law 271 = .ok (.iconst 0, 1) := by decide +kernel
theorem dL_law_272 : decode cL_law 272 = .ok (.istore 8, 2) := by decide +kernel
theorem dL_law_274 : decode cL_law 274 = .ok (.goto 220, 3) := by decide +kernel
theorem dL_law_277 : decode cL_law 277 = .ok (.iload 7, 2) := by decide +kernel
theorem dL_law_279 : decode cL_law 279 = .ok (.bipush 7, 2) := by decide +kernel
theorem dL_law_281 : decode cL_law 281 = .ok (.if_icmp .ne 21, 3) := by decide +kernel
theorem dL_law_284 : decode cL_law 284 = .ok (.aload_n 1, 1) := by decide +kernel
theorem dL_law_285 : decode cL_law 285 = .ok (.iconst 1, 1) := by decide +kernel
theorem dL_law_286 : decode cL_law 286 = .ok (.iload 5, 2) := by decide +kernel
theorem dL_law_288 : decode cL_law 288 = .ok (.bipush 9, 2) := by decide +kernel
theorem dL_law_290 : decode cL_law 290 = .ok (.invokestatic 33, 3) := by decide +kernel
theorem dL_law_293 : decode cL_law 293 = .ok (.iadd, 1) := by decide +kernel
theorem dL_law_294 : decode cL_law 294 = .ok (.invokestatic 82, 3) := by decide +kernel
theorem dL_law_297 : decode cL_law 297 = .ok (.istore 8, 2) := by decide +kernel
theorem dL_law_299 : decode cL_law 299 = .ok (.goto 195, 3) := by decide +kernel
theorem dL_law_302 : decode cL_law 302 = .ok (.iload 7, 2) := by decide +kernel
theorem dL_law_304 : decode cL_law 304 = .ok (.bipush 8, 2) := by decide +kernel
theorem dL_law_306 : decode cL_law 306 = .ok (.if_icmp .ne 46, 3) := by decide +kernel
theorem dL_law_309 : decode cL_law 309 = .ok (.aload_n 1, 1) := by decide +kernel
theorem dL_law_310 : decode cL_law 310 = .ok (.iconst 0, 1) := by decide +kernel
theorem dL_law_311 : decode cL_law 311 = .ok (.invokevirtual 10, 3) := by decide +kernel
theorem dL_law_314 : decode cL_law 314 = .ok (.istore 9, 2) := by decide +kernel
theorem dL_law_316 : decode cL_law 316 = .ok (.aload_n 1, 1) := by decide +kernel
theorem dL_law_317 : decode cL_law 317 = .ok (.iconst 1, 1) := by decide +kernel
theorem dL_law_318 : decode cL_law 318 = .ok (.iload 5, 2) := by decide +kernel
theorem dL_law_320 : decode cL_law 320 = .ok (.iconst 5, 1) := by decide +kernel
theorem dL_law_321 : decode cL_law 321 = .ok (.invokestatic 33, 3) := by decide +kernel
theorem dL_law_324 : decode cL_law 324 = .ok (.iadd, 1) := by decide +kernel
theorem dL_law_325 : decode cL_law 325 = .ok (.invokevirtual 84, 3) := by decide +kernel
theorem dL_law_328 : decode cL_law 328 = .ok (.iload 9, 2) := by decide +kernel
theorem dL_law_330 : decode cL_law 330 = .ok (.iconst 1, 1) := by decide +kernel
theorem dL_law_331 : decode cL_law 331 = .ok (.iadd, 1) := by decide +kernel
theorem dL_law_332 : decode cL_law 332 = .ok (.iload 5, 2) := by decide +kernel
theorem dL_law_334 : decode cL_law 334 = .ok (.iconst 5, 1) := by decide +kernel
theorem dL_law_335 : decode cL_law 335 = .ok (.invokestatic 33, 3) := by decide +kernel
theorem dL_law_338 : decode cL_law 338 = .ok (.iadd, 1) := by decide +kernel
theorem dL_law_339 : decode cL_law 339 = .ok (.if_icmp .ne 7, 3) := by decide +kernel
theorem dL_law_342 : decode cL_law 342 = .ok (.iconst 1, 1) := by decide +kernel
theorem dL_law_343 : decode cL_law 343 = .ok (.goto 4, 3) := by decide +kernel
theorem dL_law_346 : decode cL_law 346 = .ok (.iconst 0, 1) := by decide +kernel
theorem dL_law_347 : decode cL_law 347 = .ok (.istore 8, 2) := by decide +kernel
theorem dL_law_349 : decode cL_law 349 = .ok (.goto 145, 3) := by decide +kernel
theorem dL_law_352 : decode cL_law 352 = .ok (.iload 7, 2) := by decide +kernel
theorem dL_law_354 : decode cL_law 354 = .ok (.bipush 9, 2) := by decide +kernel
theorem dL_law_356 : decode cL_law 356 = .ok (.if_icmp .ne 76, 3) := by decide +kernel
theorem dL_law_359 : decode cL_law 359 = .ok (.iload 5, 2) := by decide +kernel
theorem dL_law_361 : decode cL_law 361 = .ok (.iload_n 2, 1) := by decide +kernel
theorem dL_law_362 : decode cL_law 362 = .ok (.invokestatic 33, 3) := by decide +kernel
theorem dL_law_365 : decode cL_law 365 = .ok (.istore 9, 2) := by decide +kernel
theorem dL_law_367 : decode cL_law 367 = .ok (.aload_n 1, 1) := by decide +kernel
theorem dL_law_368 : decode cL_law 368 = .ok (.iload 9, 2) := by decide +kernel
theorem dL_law_370 : decode cL_law 370 = .ok (.iconst 2, 1) := by decide +kernel
theorem dL_law_371 : decode cL_law 371 = .ok (.invokevirtual 20, 3) := by decide +kernel
theorem dL_law_374 : decode cL_law 374 = .ok (.istore 10, 2) := by decide +kernel
theorem dL_law_376 : decode cL_law 376 = .ok (.aload_n 1, 1) := by decide +kernel
theorem dL_law_377 : decode cL_law 377 = .ok (.bipush 6, 2) := by decide +kernel
theorem dL_law_379 : decode cL_law 379 = .ok (.invokevirtual 10, 3) := by decide +kernel
theorem dL_law_382 : decode cL_law 382 = .ok (.istore 11, 2) := by decide +kernel
theorem dL_law_384 : decode cL_law 384 = .ok (.aload_n 1, 1) := by decide +kernel
theorem dL_law_385 : decode cL_law 385 = .ok (.iload 9, 2) := by decide +kernel
theorem dL_law_387 : decode cL_law 387 = .ok (.invokevirtual 87, 3) := by decide +kernel
theorem dL_law_390 : decode cL_law 390 = .ok (.istore 12, 2) := by decide +kernel
theorem dL_law_392 : decode cL_law 392 = .ok (.iload 12, 2) := by decide +kernel
theorem dL_law_394 : decode cL_law 394 = .ok (.iload 10, 2) := by decide +kernel
theorem dL_law_396 : decode cL_law 396 = .ok (.if_icmp .gt 30, 3) := by decide +kernel
theorem dL_law_399 : decode cL_law 399 = .ok (.iload 11, 2) := by decide +kernel
theorem dL_law_401 : decode cL_law 401 = .ok (.ifCond .gt 21, 3) := by decide +kernel
theorem dL_law_404 : decode cL_law 404 = .ok (.iload 12, 2) := by decide +kernel
theorem dL_law_406 : decode cL_law 406 = .ok (.iload 10, 2) := by decide +kernel
theorem dL_law_408 : decode cL_law 408 = .ok (.if_icmp .ne 18, 3) := by decide +kernel
theorem dL_law_411 : decode cL_law 411 = .ok (.aload_n 1, 1) := by decide +kernel
theorem dL_law_412 : decode cL_law 412 = .ok (.iload 9, 2) := by decide +kernel
theorem dL_law_414 : decode cL_law 414 = .ok (.iconst 0, 1) := by decide +kernel
theorem dL_law_415 : decode cL_law 415 = .ok (.invokevirtual 20, 3) := by decide +kernel
theorem dL_law_418 : decode cL_law 418 = .ok (.iconst (-1), 1) := by decide +kernel
theorem dL_law_419 : decode cL_law 419 = .ok (.if_icmp .ne 7, 3) := by decide +kernel
theorem dL_law_422 : decode cL_law 422 = .ok (.iconst 1, 1) := by decide +kernel
theorem dL_law_423 : decode cL_law 423 = .ok (.goto 4, 3) := by decide +kernel
theorem dL_law_426 : decode cL_law 426 = .ok (.iconst 0, 1) := by decide +kernel
theorem dL_law_427 : decode cL_law 427 = .ok (.istore 8, 2) := by decide +kernel
theorem dL_law_429 : decode cL_law 429 = .ok (.goto 65, 3) := by decide +kernel
theorem dL_law_432 : decode cL_law 432 = .ok (.iload 5, 2) := by decide +kernel
theorem dL_law_434 : decode cL_law 434 = .ok (.iconst 5, 1) := by decide +kernel
theorem dL_law_435 : decode cL_law 435 = .ok (.ishr, 1) := by decide +kernel
theorem dL_law_436 : decode cL_law 436 = .ok (.iconst 4, 1) := by decide +kernel
theorem dL_law_437 : decode cL_law 437 = .ok (.invokestatic 33, 3) := by decide +kernel
theorem dL_law_440 : decode cL_law 440 = .ok (.ifCond .ne 54, 3) := by decide +kernel
theorem dL_law_443 : decode cL_law 443 = .ok (.aload_n 1, 1) := by decide +kernel
theorem dL_law_444 : decode cL_law 444 = .ok (.iload 6, 2) := by decide +kernel
theorem dL_law_446 : decode cL_law 446 = .ok (.bipush 7, 2) := by decide +kernel
theorem dL_law_448 : decode cL_law 448 = .ok (.invokevirtual 27, 3) := by decide +kernel
theorem dL_law_451 : decode cL_law 451 = .ok (.ifCond .ne 43, 3) := by decide +kernel
theorem dL_law_454 : decode cL_law 454 = .ok (.aload_n 1, 1) := by decide +kernel
theorem dL_law_455 : decode cL_law 455 = .ok (.bipush 6, 2) := by decide +kernel
theorem dL_law_457 : decode cL_law 457 = .ok (.invokevirtual 10, 3) := by decide +kernel
theorem dL_law_460 : decode cL_law 460 = .ok (.istore 9, 2) := by decide +kernel
theorem dL_law_462 : decode cL_law 462 = .ok (.aload_n 1, 1) := by decide +kernel
theorem dL_law_463 : decode cL_law 463 = .ok (.iload 6, 2) := by decide +kernel
theorem dL_law_465 : decode cL_law 465 = .ok (.invokevirtual 90, 3) := by decide +kernel
theorem dL_law_468 : decode cL_law 468 = .ok (.iload 9, 2) := by decide +kernel
theorem dL_law_470 : decode cL_law 470 = .ok (.iconst 1, 1) := by decide +kernel
theorem dL_law_471 : decode cL_law 471 = .ok (.iadd, 1) := by decide +kernel
theorem dL_law_472 : decode cL_law 472 = .ok (.if_icmp .ne 19, 3) := by decide +kernel
theorem dL_law_475 : decode cL_law 475 = .ok (.aload_n 1, 1) := by decide +kernel
theorem dL_law_476 : decode cL_law 476 = .ok (.iload 6, 2) := by decide +kernel
theorem dL_law_478 : decode cL_law 478 = .ok (.bipush 7, 2) := by decide +kernel
theorem dL_law_480 : decode cL_law 480 = .ok (.invokevirtual 27, 3) := by decide +kernel
theorem dL_law_483 : decode cL_law 483 = .ok (.iconst 1, 1) := by decide +kernel
theorem dL_law_484 : decode cL_law 484 = .ok (.if_icmp .ne 7, 3) := by decide +kernel
theorem dL_law_487 : decode cL_law 487 = .ok (.iconst 1, 1) := by decide +kernel
theorem dL_law_488 : decode cL_law 488 = .ok (.goto 4, 3) := by decide +kernel
theorem dL_law_491 : decode cL_law 491 = .ok (.iconst 0, 1) := by decide +kernel
theorem dL_law_492 : decode cL_law 492 = .ok (.istore 8, 2) := by decide +kernel
theorem dL_law_494 : decode cL_law 494 = .ok (.iload 8, 2) := by decide +kernel
theorem dL_law_496 : decode cL_law 496 = .ok (.ifCond .eq 21, 3) := by decide +kernel
theorem dL_law_499 : decode cL_law 499 = .ok (.aload_n 1, 1) := by decide +kernel
theorem dL_law_500 : decode cL_law 500 = .ok (.invokestatic 65, 3) := by decide +kernel
theorem dL_law_503 : decode cL_law 503 = .ok (.ifCond .eq 14, 3) := by decide +kernel
theorem dL_law_506 : decode cL_law 506 = .ok (.aload_n 1, 1) := by decide +kernel
theorem dL_law_507 : decode cL_law 507 = .ok (.iload 6, 2) := by decide +kernel
theorem dL_law_509 : decode cL_law 509 = .ok (.iload 5, 2) := by decide +kernel
theorem dL_law_511 : decode cL_law 511 = .ok (.invokestatic 93, 3) := by decide +kernel
theorem dL_law_514 : decode cL_law 514 = .ok (.ifCond .ne 5, 3) := by decide +kernel
theorem dL_law_517 : decode cL_law 517 = .ok (.iconst 0, 1) := by decide +kernel
theorem dL_law_518 : decode cL_law 518 = .ok (.ireturn, 1) := by decide +kernel
theorem dL_law_519 : decode cL_law 519 = .ok (.iinc 3 1, 3) := by decide +kernel
theorem dL_law_522 : decode cL_law 522 = .ok (.goto (-482), 3) := by decide +kernel
theorem dL_law_525 : decode cL_law 525 = .ok (.aload_n 1, 1) := by decide +kernel
theorem dL_law_526 : decode cL_law 526 = .ok (.invokevirtual 96, 3) := by decide +kernel
theorem dL_law_529 : decode cL_law 529 = .ok (.istore_n 3, 1) := by decide +kernel
theorem dL_law_530 : decode cL_law 530 = .ok (.iload_n 3, 1) := by decide +kernel
theorem dL_law_531 : decode cL_law 531 = .ok (.iconst (-1), 1) := by decide +kernel
theorem dL_law_532 : decode cL_law 532 = .ok (.if_icmp .eq 33, 3) := by decide +kernel
theorem dL_law_535 : decode cL_law 535 = .ok (.aload_n 1, 1) := by decide +kernel
theorem dL_law_536 : decode cL_law 536 = .ok (.iload_n 3, 1) := by decide +kernel
theorem dL_law_537 : decode cL_law 537 = .ok (.iconst 1, 1) := by decide +kernel
theorem dL_law_538 : decode cL_law 538 = .ok (.invokevirtual 27, 3) := by decide +kernel
theorem dL_law_541 : decode cL_law 541 = .ok (.iconst 4, 1) := by decide +kernel
theorem dL_law_542 : decode cL_law 542 = .ok (.if_icmp .ne 27, 3) := by decide +kernel
theorem dL_law_545 : decode cL_law 545 = .ok (.aload_n 1, 1) := by decide +kernel
theorem dL_law_546 : decode cL_law 546 = .ok (.iload_n 3, 1) := by decide +kernel
theorem dL_law_547 : decode cL_law 547 = .ok (.bipush 7, 2) := by decide +kernel
theorem dL_law_549 : decode cL_law 549 = .ok (.invokevirtual 27, 3) := by decide +kernel
theorem dL_law_552 : decode cL_law 552 = .ok (.ifCond .ne 17, 3) := by decide +kernel
theorem dL_law_555 : decode cL_law 555 = .ok (.aload_n 1, 1) := by decide +kernel
theorem dL_law_556 : decode cL_law 556 = .ok (.iload_n 3, 1) := by decide +kernel
theorem dL_law_557 : decode cL_law 557 = .ok (.bipush 6, 2) := by decide +kernel
theorem dL_law_559 : decode cL_law 559 = .ok (.invokevirtual 27, 3) := by decide +kernel
theorem dL_law_562 : decode cL_law 562 = .ok (.ifCond .le 7, 3) := by decide +kernel
theorem dL_law_565 : decode cL_law 565 = .ok (.iconst 1, 1) := by decide +kernel
theorem dL_law_566 : decode cL_law 566 = .ok (.goto 4, 3) := by decide +kernel
theorem dL_law_569 : decode cL_law 569 = .ok (.iconst 0, 1) := by decide +kernel
theorem dL_law_570 : decode cL_law 570 = .ok (.istore 4, 2) := by decide +kernel
theorem dL_law_572 : decode cL_law 572 = .ok (.iconst 0, 1) := by decide +kernel
theorem dL_law_573 : decode cL_law 573 = .ok (.istore 5, 2) := by decide +kernel
theorem dL_law_575 : decode cL_law 575 = .ok (.iload 5, 2) := by decide +kernel
theorem dL_law_577 : decode cL_law 577 = .ok (.bipush 20, 2) := by decide +kernel
theorem dL_law_579 : decode cL_law 579 = .ok (.if_icmp .ge 100, 3) := by decide +kernel
theorem dL_law_582 : decode cL_law 582 = .ok (.aload_n 1, 1) := by decide +kernel
theorem dL_law_583 : decode cL_law 583 = .ok (.iload 5, 2) := by decide +kernel
theorem dL_law_585 : decode cL_law 585 = .ok (.iconst 1, 1) := by decide +kernel
theorem dL_law_586 : decode cL_law 586 = .ok (.invokevirtual 27, 3) := by decide +kernel
theorem dL_law_589 : decode cL_law 589 = .ok (.iconst 4, 1) := by decide +kernel
theorem dL_law_590 : decode cL_law 590 = .ok (.if_icmp .ne 25, 3) := by decide +kernel
theorem dL_law_593 : decode cL_law 593 = .ok (.aload_n 1, 1) := by decide +kernel
theorem dL_law_594 : decode cL_law 594 = .ok (.iload 5, 2) := by decide +kernel
theorem dL_law_596 : decode cL_law 596 = .ok (.bipush 7, 2) := by decide +kernel
theorem dL_law_598 : decode cL_law 598 = .ok (.invokevirtual 27, 3) := by decide +kernel
theorem dL_law_601 : decode cL_law 601 = .ok (.ifCond .ne 14, 3) := by decide +kernel
theorem dL_law_604 : decode cL_law 604 = .ok (.aload_n 1, 1) := by decide +kernel
theorem dL_law_605 : decode cL_law 605 = .ok (.iload 5, 2) := by decide +kernel
theorem dL_law_607 : decode cL_law 607 = .ok (.bipush 6, 2) := by decide +kernel
theorem dL_law_609 : decode cL_law 609 = .ok (.invokevirtual 27, 3) := by decide +kernel
theorem dL_law_612 : decode cL_law 612 = .ok (.goto 4, 3) := by decide +kernel
theorem dL_law_615 : decode cL_law 615 = .ok (.iconst 0, 1) := by decide +kernel
theorem dL_law_616 : decode cL_law 616 = .ok (.istore 6, 2) := by decide +kernel
theorem dL_law_618 : decode cL_law 618 = .ok (.iload 4, 2) := by decide +kernel
theorem dL_law_620 : decode cL_law 620 = .ok (.ifCond .eq 50, 3) := by decide +kernel
theorem dL_law_623 : decode cL_law 623 = .ok (.iload_n 3, 1) := by decide +kernel
theorem dL_law_624 : decode cL_law 624 = .ok (.iconst (-1), 1) := by decide +kernel
theorem dL_law_625 : decode cL_law 625 = .ok (.if_icmp .ne 11, 3) := by decide +kernel
theorem dL_law_628 : decode cL_law 628 = .ok (.iload 6, 2) := by decide +kernel
theorem dL_law_630 : decode cL_law 630 = .ok (.ifCond .ne 40, 3) := by decide +kernel
theorem dL_law_633 : decode cL_law 633 = .ok (.goto 33, 3) := by decide +kernel
theorem dL_law_636 : decode cL_law 636 = .ok (.iload 6, 2) := by decide +kernel
theorem dL_law_638 : decode cL_law 638 = .ok (.aload_n 1, 1) := by decide +kernel
theorem dL_law_639 : decode cL_law 639 = .ok (.iload_n 3, 1) := by decide +kernel
theorem dL_law_640 : decode cL_law 640 = .ok (.bipush 6, 2) := by decide +kernel
theorem dL_law_642 : decode cL_law 642 = .ok (.invokevirtual 27, 3) := by decide +kernel
theorem dL_law_645 : decode cL_law 645 = .ok (.if_icmp .gt 25, 3) := by decide +kernel
theorem dL_law_648 : decode cL_law 648 = .ok (.iload 5, 2) := by decide +kernel
theorem dL_law_650 : decode cL_law 650 = .ok (.iload_n 3, 1) := by decide +kernel
theorem dL_law_651 : decode cL_law 651 = .ok (.if_icmp .ge 15, 3) := by decide +kernel
theorem dL_law_654 : decode cL_law 654 = .ok (.iload 6, 2) := by decide +kernel
theorem dL_law_656 : decode cL_law 656 = .ok (.aload_n 1, 1) := by decide +kernel
theorem dL_law_657 : decode cL_law 657 = .ok (.iload_n 3, 1) := by decide +kernel
theorem dL_law_658 : decode cL_law 658 = .ok (.bipush 6, 2) := by decide +kernel
theorem dL_law_660 : decode cL_law 660 = .ok (.invokevirtual 27, 3) := by decide +kernel
theorem dL_law_663 : decode cL_law 663 = .ok (.if_icmp .ge 7, 3) := by decide +kernel
theorem dL_law_666 : decode cL_law 666 = .ok (.iconst 1, 1) := by decide +kernel
theorem dL_law_667 : decode cL_law 667 = .ok (.goto 4, 3) := by decide +kernel
theorem dL_law_670 : decode cL_law 670 = .ok (.iconst 0, 1) := by decide +kernel
theorem dL_law_671 : decode cL_law 671 = .ok (.istore 4, 2) := by decide +kernel
theorem dL_law_673 : decode cL_law 673 = .ok (.iinc 5 1, 3) := by decide +kernel
theorem dL_law_676 : decode cL_law 676 = .ok (.goto (-101), 3) := by decide +kernel
theorem dL_law_679 : decode cL_law 679 = .ok (.iload 4, 2) := by decide +kernel
theorem dL_law_681 : decode cL_law 681 = .ok (.ifCond .eq 44, 3) := by decide +kernel
theorem dL_law_684 : decode cL_law 684 = .ok (.aload_n 1, 1) := by decide +kernel
theorem dL_law_685 : decode cL_law 685 = .ok (.iconst 0, 1) := by decide +kernel
theorem dL_law_686 : decode cL_law 686 = .ok (.aload_n 1, 1) := by decide +kernel
theorem dL_law_687 : decode cL_law 687 = .ok (.iconst 0, 1) := by decide +kernel
theorem dL_law_688 : decode cL_law 688 = .ok (.invokevirtual 24, 3) := by decide +kernel
theorem dL_law_691 : decode cL_law 691 = .ok (.iconst 1, 1) := by decide +kernel
theorem dL_law_692 : decode cL_law 692 = .ok (.if_icmp .ne 7, 3) := by decide +kernel
theorem dL_law_695 : decode cL_law 695 = .ok (.iconst 1, 1) := by decide +kernel
theorem dL_law_696 : decode cL_law 696 = .ok (.goto 4, 3) := by decide +kernel
theorem dL_law_699 : decode cL_law 699 = .ok (.iconst 0, 1) := by decide +kernel
theorem dL_law_700 : decode cL_law 700 = .ok (.invokevirtual 99, 3) := by decide +kernel
theorem dL_law_703 : decode cL_law 703 = .ok (.ifCond .ne 22, 3) := by decide +kernel
theorem dL_law_706 : decode cL_law 706 = .ok (.aload_n 1, 1) := by decide +kernel
theorem dL_law_707 : decode cL_law 707 = .ok (.iconst 3, 1) := by decide +kernel
theorem dL_law_708 : decode cL_law 708 = .ok (.iconst 0, 1) := by decide +kernel
theorem dL_law_709 : decode cL_law 709 = .ok (.invokevirtual 99, 3) := by decide +kernel
theorem dL_law_712 : decode cL_law 712 = .ok (.aload_n 1, 1) := by decide +kernel
theorem dL_law_713 : decode cL_law 713 = .ok (.iconst 0, 1) := by decide +kernel
theorem dL_law_714 : decode cL_law 714 = .ok (.iconst 0, 1) := by decide +kernel
theorem dL_law_715 : decode cL_law 715 = .ok (.invokevirtual 99, 3) := by decide +kernel
theorem dL_law_718 : decode cL_law 718 = .ok (.if_icmp .ne 7, 3) := by decide +kernel
theorem dL_law_721 : decode cL_law 721 = .ok (.iconst 1, 1) := by decide +kernel
theorem dL_law_722 : decode cL_law 722 = .ok (.goto 4, 3) := by decide +kernel
theorem dL_law_725 : decode cL_law 725 = .ok (.iconst 0, 1) := by decide +kernel
theorem dL_law_726 : decode cL_law 726 = .ok (.ireturn, 1) := by decide +kernel
