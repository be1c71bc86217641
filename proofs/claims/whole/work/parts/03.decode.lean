theorem dX0_keyOf_0 : decode cX0_keyOf 0 = .ok (.iload_n 0, 1) := by decide +kernel
theorem dX0_keyOf_1 : decode cX0_keyOf 1 = .ok (.bipush 15, 2) := by decide +kernel
theorem dX0_keyOf_3 : decode cX0_keyOf 3 = .ok (.iand, 1) := by decide +kernel
theorem dX0_keyOf_4 : decode cX0_keyOf 4 = .ok (.ireturn, 1) := by decide +kernel
theorem dX0_valueOf_0 : decode cX0_valueOf 0 = .ok (.iload_n 0, 1) := by decide +kernel
theorem dX0_valueOf_1 : decode cX0_valueOf 1 = .ok (.iconst 4, 1) := by decide +kernel
theorem dX0_valueOf_2 : decode cX0_valueOf 2 = .ok (.ishr, 1) := by decide +kernel
theorem dX0_valueOf_3 : decode cX0_valueOf 3 = .ok (.bipush 63, 2) := by decide +kernel
theorem dX0_valueOf_5 : decode cX0_valueOf 5 = .ok (.iand, 1) := by decide +kernel
theorem dX0_valueOf_6 : decode cX0_valueOf 6 = .ok (.ireturn, 1) := by decide +kernel
theorem dX0_checkOf_0 : decode cX0_checkOf 0 = .ok (.iload_n 0, 1) := by decide +kernel
theorem dX0_checkOf_1 : decode cX0_checkOf 1 = .ok (.bipush 10, 2) := by decide +kernel
theorem dX0_checkOf_3 : decode cX0_checkOf 3 = .ok (.ishr, 1) := by decide +kernel
theorem dX0_checkOf_4 : decode cX0_checkOf 4 = .ok (.bipush 15, 2) := by decide +kernel
theorem dX0_checkOf_6 : decode cX0_checkOf 6 = .ok (.iand, 1) := by decide +kernel
theorem dX0_checkOf_7 : decode cX0_checkOf 7 = .ok (.ireturn, 1) := by decide +kernel
theorem dX0_zerosOf_0 : decode cX0_zerosOf 0 = .ok (.bipush 10, 2) := by decide +kernel
theorem dX0_zerosOf_2 : decode cX0_zerosOf 2 = .ok (.iload_n 0, 1) := by decide +kernel
theorem dX0_zerosOf_3 : decode cX0_zerosOf 3 = .ok (.sipush 1023, 3) := by decide +kernel
theorem dX0_zerosOf_6 : decode cX0_zerosOf 6 = .ok (.iand, 1) := by decide +kernel
theorem dX0_zerosOf_7 : decode cX0_zerosOf 7 = .ok (.invokestatic 11, 3) := by decide +kernel
theorem dX0_zerosOf_10 : decode cX0_zerosOf 10 = .ok (.isub, 1) := by decide +kernel
theorem dX0_zerosOf_11 : decode cX0_zerosOf 11 = .ok (.ireturn, 1) := by decide +kernel
theorem dX0_kindOf_0 : decode cX0_kindOf 0 = .ok (.iload_n 0, 1) := by decide +kernel
theorem dX0_kindOf_1 : decode cX0_kindOf 1 = .ok (.ifCond .ne 5, 3) := by decide +kernel
theorem dX0_kindOf_4 : decode cX0_kindOf 4 = .ok (.iconst 0, 1) := by decide +kernel
theorem dX0_kindOf_5 : decode cX0_kindOf 5 = .ok (.ireturn, 1) := by decide +kernel
theorem dX0_kindOf_6 : decode cX0_kindOf 6 = .ok (.iload_n 0, 1) := by decide +kernel
theorem dX0_kindOf_7 : decode cX0_kindOf 7 = .ok (.sipush 16383, 3) := by decide +kernel
theorem dX0_kindOf_10 : decode cX0_kindOf 10 = .ok (.iand, 1) := by decide +kernel
theorem dX0_kindOf_11 : decode cX0_kindOf 11 = .ok (.ifCond .ne 5, 3) := by decide +kernel
theorem dX0_kindOf_14 : decode cX0_kindOf 14 = .ok (.iconst 1, 1) := by decide +kernel
theorem dX0_kindOf_15 : decode cX0_kindOf 15 = .ok (.ireturn, 1) := by decide +kernel
theorem dX0_kindOf_16 : decode cX0_kindOf 16 = .ok (.iload_n 0, 1) := by decide +kernel
theorem dX0_kindOf_17 : decode cX0_kindOf 17 = .ok (.sipush 16384, 3) := by decide +kernel
theorem dX0_kindOf_20 : decode cX0_kindOf 20 = .ok (.iand, 1) := by decide +kernel
theorem dX0_kindOf_21 : decode cX0_kindOf 21 = .ok (.ifCond .eq 5, 3) := by decide +kernel
theorem dX0_kindOf_24 : decode cX0_kindOf 24 = .ok (.iconst 2, 1) := by decide +kernel
theorem dX0_kindOf_25 : decode cX0_kindOf 25 = .ok (.ireturn, 1) := by decide +kernel
theorem dX0_kindOf_26 : decode cX0_kindOf 26 = .ok (.bipush 10, 2) := by decide +kernel
theorem dX0_kindOf_28 : decode cX0_kindOf 28 = .ok (.iload_n 0, 1) := by decide +kernel
theorem dX0_kindOf_29 : decode cX0_kindOf 29 = .ok (.sipush 1023, 3) := by decide +kernel
theorem dX0_kindOf_32 : decode cX0_kindOf 32 = .ok (.iand, 1) := by decide +kernel
theorem dX0_kindOf_33 : decode cX0_kindOf 33 = .ok (.invokestatic 11, 3) := by decide +kernel
theorem dX0_kindOf_36 : decode cX0_kindOf 36 = .ok (.isub, 1) := by decide +kernel
theorem dX0_kindOf_37 : decode cX0_kindOf 37 = .ok (.istore_n 1, 1) := by decide +kernel
theorem dX0_kindOf_38 : decode cX0_kindOf 38 = .ok (.iload_n 0, 1) := by decide +kernel
theorem dX0_kindOf_39 : decode cX0_kindOf 39 = .ok (.invokestatic 17, 3) := by decide +kernel
theorem dX0_kindOf_42 : decode cX0_kindOf 42 = .ok (.iload_n 1, 1) := by decide +kernel
theorem dX0_kindOf_43 : decode cX0_kindOf 43 = .ok (.if_icmp .ne 7, 3) := by decide +kernel
theorem dX0_kindOf_46 : decode cX0_kindOf 46 = .ok (.iconst 4, 1) := by decide +kernel
theorem dX0_kindOf_47 : decode cX0_kindOf 47 = .ok (.goto 4, 3) := by decide +kernel
theorem dX0_kindOf_50 : decode cX0_kindOf 50 = .ok (.iconst 3, 1) := by decide +kernel
theorem dX0_kindOf_51 : decode cX0_kindOf 51 = .ok (.ireturn, 1) := by decide +kernel
theorem dX0_ofEntry_0 : decode cX0_ofEntry 0 = .ok (.iload_n 0, 1) := by decide +kernel
theorem dX0_ofEntry_1 : decode cX0_ofEntry 1 = .ok (.iload_n 1, 1) := by decide +kernel
theorem dX0_ofEntry_2 : decode cX0_ofEntry 2 = .ok (.iconst 4, 1) := by decide +kernel
theorem dX0_ofEntry_3 : decode cX0_ofEntry 3 = .ok (.ishl, 1) := by decide +kernel
theorem dX0_ofEntry_4 : decode cX0_ofEntry 4 = .ok (.ior, 1) := by decide +kernel
theorem dX0_ofEntry_5 : decode cX0_ofEntry 5 = .ok (.istore_n 2, 1) := by decide +kernel
theorem dX0_ofEntry_6 : decode cX0_ofEntry 6 = .ok (.iload_n 2, 1) := by decide +kernel
theorem dX0_ofEntry_7 : decode cX0_ofEntry 7 = .ok (.iload_n 2, 1) := by decide +kernel
theorem dX0_ofEntry_8 : decode cX0_ofEntry 8 = .ok (.invokestatic 20, 3) := by decide +kernel
theorem dX0_ofEntry_11 : decode cX0_ofEntry 11 = .ok (.bipush 10, 2) := by decide +kernel
theorem dX0_ofEntry_13 : decode cX0_ofEntry 13 = .ok (.ishl, 1) := by decide +kernel
theorem dX0_ofEntry_14 : decode cX0_ofEntry 14 = .ok (.ior, 1) := by decide +kernel
theorem dX0_ofEntry_15 : decode cX0_ofEntry 15 = .ok (.ireturn, 1) := by decide +kernel
theorem dX1_init_0 : decode cX1_init 0 = .ok (.aload_n 0, 1) := by decide +kernel
theorem dX1_init_1 : decode cX1_init 1 = .ok (.invokespecial 3, 3) := by decide +kernel
theorem dX1_init_4 : decode cX1_init 4 = .ok (.aload_n 0, 1) := by decide +kernel
theorem dX1_init_5 : decode cX1_init 5 = .ok (.bipush 60, 2) := by decide +kernel
theorem dX1_init_7 : decode cX1_init 7 = .ok (.newarray .char, 2) := by decide +kernel
theorem dX1_init_9 : decode cX1_init 9 = .ok (.putfield 11, 3) := by decide +kernel
theorem dX1_init_12 : decode cX1_init 12 = .ok (.aload_n 0, 1) := by decide +kernel
theorem dX1_init_13 : decode cX1_init 13 = .ok (.bipush 10, 2) := by decide +kernel
theorem dX1_init_15 : decode cX1_init 15 = .ok (.newarray .int, 2) := by decide +kernel
theorem dX1_init_17 : decode cX1_init 17 = .ok (.putfield 15, 3) := by decide +kernel
theorem dX1_init_20 : decode cX1_init 20 = .ok (.aload_n 0, 1) := by decide +kernel
theorem dX1_init_21 : decode cX1_init 21 = .ok (.bipush 10, 2) := by decide +kernel
theorem dX1_init_23 : decode cX1_init 23 = .ok (.newarray .int, 2) := by decide +kernel
theorem dX1_init_25 : decode cX1_init 25 = .ok (.putfield 19, 3) := by decide +kernel
theorem dX1_init_28 : decode cX1_init 28 = .ok (.aload_n 0, 1) := by decide +kernel
theorem dX1_init_29 : decode cX1_init 29 = .ok (.bipush 10, 2) := by decide +kernel
theorem dX1_init_31 : decode cX1_init 31 = .ok (.newarray .int, 2) := by decide +kernel
theorem dX1_init_33 : decode cX1_init 33 = .ok (.putfield 22, 3) := by decide +kernel
theorem dX1_init_36 : decode cX1_init 36 = .ok (.return_, 1) := by decide +kernel
theorem dX1_isFull_0 : decode cX1_isFull 0 = .ok (.aload_n 0, 1) := by decide +kernel
theorem dX1_isFull_1 : decode cX1_isFull 1 = .ok (.getfield 25, 3) := by decide +kernel
theorem dX1_isFull_4 : decode cX1_isFull 4 = .ok (.bipush 60, 2) := by decide +kernel
theorem dX1_isFull_6 : decode cX1_isFull 6 = .ok (.if_icmp .lt 7, 3) := by decide +kernel
theorem dX1_isFull_9 : decode cX1_isFull 9 = .ok (.iconst 1, 1) := by decide +kernel
theorem dX1_isFull_10 : decode cX1_isFull 10 = .ok (.goto 4, 3) := by decide +kernel
theorem dX1_isFull_13 : decode cX1_isFull 13 = .ok (.iconst 0, 1) := by decide +kernel
theorem dX1_isFull_14 : decode cX1_isFull 14 = .ok (.ireturn, 1) := by decide +kernel
theorem dX1_add_0 : decode cX1_add 0 = .ok (.aload_n 0, 1) := by decide +kernel
theorem dX1_add_1 : decode cX1_add 1 = .ok (.invokevirtual 29, 3) := by decide +kernel
theorem dX1_add_4 : decode cX1_add 4 = .ok (.ifCond .ne 23, 3) := by decide +kernel
theorem dX1_add_7 : decode cX1_add 7 = .ok (.aload_n 0, 1) := by decide +kernel
theorem dX1_add_8 : decode cX1_add 8 = .ok (.getfield 11, 3) := by decide +kernel
theorem dX1_add_11 : decode cX1_add 11 = .ok (.aload_n 0, 1) := by decide +kernel
theorem dX1_add_12 : decode cX1_add 12 = .ok (.getfield 25, 3) := by decide +kernel
theorem dX1_add_15 : decode cX1_add 15 = .ok (.iload_n 1, 1) := by decide +kernel
theorem dX1_add_16 : decode cX1_add 16 = .ok (.castore, 1) := by decide +kernel
theorem dX1_add_17 : decode cX1_add 17 = .ok (.aload_n 0, 1) := by decide +kernel
theorem dX1_add_18 : decode cX1_add 18 = .ok (.dup, 1) := by decide +kernel
theorem dX1_add_19 : decode cX1_add 19 = .ok (.getfield 25, 3) := by decide +kernel
theorem dX1_add_22 : decode cX1_add 22 = .ok (.iconst 1, 1) := by decide +kernel
theorem dX1_add_23 : decode cX1_add 23 = .ok (.iadd, 1) := by decide +kernel
theorem dX1_add_24 : decode cX1_add 24 = .ok (.putfield 25, 3) := by decide +kernel
theorem dX1_add_27 : decode cX1_add 27 = .ok (.return_, 1) := by decide +kernel
theorem dX1_empty_0 : decode cX1_empty 0 = .ok (.aload_n 0, 1) := by decide +kernel
theorem dX1_empty_1 : decode cX1_empty 1 = .ok (.iconst 0, 1) := by decide +kernel
theorem dX1_empty_2 : decode cX1_empty 2 = .ok (.putfield 25, 3) := by decide +kernel
theorem dX1_empty_5 : decode cX1_empty 5 = .ok (.return_, 1) := by decide +kernel
theorem dX1_scan_0 : decode cX1_scan 0 = .ok (.aload_n 0, 1) := by decide +kernel
theorem dX1_scan_1 : decode cX1_scan 1 = .ok (.iconst 0, 1) := by decide +kernel
theorem dX1_scan_2 : decode cX1_scan 2 = .ok (.putfield 33, 3) := by decide +kernel
theorem dX1_scan_5 : decode cX1_scan 5 = .ok (.aload_n 0, 1) := by decide +kernel
theorem dX1_scan_6 : decode cX1_scan 6 = .ok (.iconst 0, 1) := by decide +kernel
theorem dX1_scan_7 : decode cX1_scan 7 = .ok (.putfield 36, 3) := by decide +kernel
theorem dX1_scan_10 : decode cX1_scan 10 = .ok (.aload_n 0, 1) := by decide +kernel
theorem dX1_scan_11 : decode cX1_scan 11 = .ok (.iconst 0, 1) := by decide +kernel
theorem dX1_scan_12 : decode cX1_scan 12 = .ok (.putfield 39, 3) := by decide +kernel
theorem dX1_scan_15 : decode cX1_scan 15 = .ok (.iconst 1, 1) := by decide +kernel
theorem dX1_scan_16 : decode cX1_scan 16 = .ok (.istore_n 1, 1) := by decide +kernel
theorem dX1_scan_17 : decode cX1_scan 17 = .ok (.iconst 0, 1) := by decide +kernel
theorem dX1_scan_18 : decode cX1_scan 18 = .ok (.istore_n 2, 1) := by decide +kernel
theorem dX1_scan_19 : decode cX1_scan 19 = .ok (.iload_n 2, 1) := by decide +kernel
theorem dX1_scan_20 : decode cX1_scan 20 = .ok (.bipush 60, 2) := by decide +kernel
theorem dX1_scan_22 : decode cX1_scan 22 = .ok (.if_icmp .ge 61, 3) := by decide +kernel
theorem dX1_scan_25 : decode cX1_scan 25 = .ok (.iload_n 1, 1) := by decide +kernel
theorem dX1_scan_26 : decode cX1_scan 26 = .ok (.ifCond .eq 57, 3) := by decide +kernel
theorem dX1_scan_29 : decode cX1_scan 29 = .ok (.aload_n 0, 1) := by decide +kernel
theorem dX1_scan_30 : decode cX1_scan 30 = .ok (.invokevirtual 43, 3) := by decide +kernel
theorem dX1_scan_33 : decode cX1_scan 33 = .ok (.istore_n 3, 1) := by decide +kernel
theorem dX1_scan_34 : decode cX1_scan 34 = .ok (.aload_n 0, 1) := by decide +kernel
theorem dX1_scan_35 : decode cX1_scan 35 = .ok (.iload_n 3, 1) := by decide +kernel
theorem dX1_scan_36 : decode cX1_scan 36 = .ok (.ifCond .eq 18, 3) := by decide +kernel
theorem dX1_scan_39 : decode cX1_scan 39 = .ok (.aload_n 0, 1) := by decide +kernel
theorem dX1_scan_40 : decode cX1_scan 40 = .ok (.getfield 33, 3) := by decide +kernel
theorem dX1_scan_43 : decode cX1_scan 43 = .ok (.aload_n 0, 1) := by decide +kernel
theorem dX1_scan_44 : decode cX1_scan 44 = .ok (.getfield 25, 3) := by decide +kernel
theorem dX1_scan_47 : decode cX1_scan 47 = .ok (.if_icmp .ne 7, 3) := by decide +kernel
theorem dX1_scan_50 : decode cX1_scan 50 = .ok (.iconst 1, 1) := by decide +kernel
theorem dX1_scan_51 : decode cX1_scan 51 = .ok (.goto 4, 3) := by decide +kernel
theorem dX1_scan_54 : decode cX1_scan 54 = .ok (.iconst 0, 1) := by decide +kernel
theorem dX1_scan_55 : decode cX1_scan 55 = .ok (.putfield 39, 3) := by decide +kernel
theorem dX1_scan_58 : decode cX1_scan 58 = .ok (.iload_n 3, 1) := by decide +kernel
theorem dX1_scan_59 : decode cX1_scan 59 = .ok (.ifCond .eq 16, 3) := by decide +kernel
theorem dX1_scan_62 : decode cX1_scan 62 = .ok (.aload_n 0, 1) := by decide +kernel
theorem dX1_scan_63 : decode cX1_scan 63 = .ok (.bipush 59, 2) := by decide +kernel
theorem dX1_scan_65 : decode cX1_scan 65 = .ok (.invokevirtual 46, 3) := by decide +kernel
theorem dX1_scan_68 : decode cX1_scan 68 = .ok (.ifCond .eq 7, 3) := by decide +kernel
theorem dX1_scan_71 : decode cX1_scan 71 = .ok (.iconst 1, 1) := by decide +kernel
theorem dX1_scan_72 : decode cX1_scan 72 = .ok (.goto 4, 3) := by decide +kernel
theorem dX1_scan_75 : decode cX1_scan 75 = .ok (.iconst 0, 1) := by decide +kernel
theorem dX1_scan_76 : decode cX1_scan 76 = .ok (.istore_n 1, 1) := by decide +kernel
theorem dX1_scan_77 : decode cX1_scan 77 = .ok (.iinc 2 1, 3) := by decide +kernel
theorem dX1_scan_80 : decode cX1_scan 80 = .ok (.goto (-61), 3) := by decide +kernel
theorem dX1_scan_83 : decode cX1_scan 83 = .ok (.return_, 1) := by decide +kernel
theorem dX1_scanOrder_0 : decode cX1_scanOrder 0 = .ok (.aload_n 0, 1) := by decide +kernel
theorem dX1_scanOrder_1 : decode cX1_scanOrder 1 = .ok (.invokevirtual 50, 3) := by decide +kernel
theorem dX1_scanOrder_4 : decode cX1_scanOrder 4 = .ok (.istore_n 1, 1) := by decide +kernel
theorem dX1_scanOrder_5 : decode cX1_scanOrder 5 = .ok (.iload_n 1, 1) := by decide +kernel
theorem dX1_scanOrder_6 : decode cX1_scanOrder 6 = .ok (.iconst (-1), 1) := by decide +kernel
theorem dX1_scanOrder_7 : decode cX1_scanOrder 7 = .ok (.if_icmp .ne 5, 3) := by decide +kernel
theorem dX1_scanOrder_10 : decode cX1_scanOrder 10 = .ok (.iconst 0, 1) := by decide +kernel
theorem dX1_scanOrder_11 : decode cX1_scanOrder 11 = .ok (.ireturn, 1) := by decide +kernel
theorem dX1_scanOrder_12 : decode cX1_scanOrder 12 = .ok (.aload_n 0, 1) := by decide +kernel
theorem dX1_scanOrder_13 : decode cX1_scanOrder 13 = .ok (.getstatic 54, 3) := by decide +kernel
theorem dX1_scanOrder_16 : decode cX1_scanOrder 16 = .ok (.iload_n 1, 1) := by decide +kernel
theorem dX1_scanOrder_17 : decode cX1_scanOrder 17 = .ok (.iaload, 1) := by decide +kernel
theorem dX1_scanOrder_18 : decode cX1_scanOrder 18 = .ok (.getstatic 57, 3) := by decide +kernel
theorem dX1_scanOrder_21 : decode cX1_scanOrder 21 = .ok (.iload_n 1, 1) := by decide +kernel
theorem dX1_scanOrder_22 : decode cX1_scanOrder 22 = .ok (.iaload, 1) := by decide +kernel
theorem dX1_scanOrder_23 : decode cX1_scanOrder 23 = .ok (.invokevirtual 60, 3) := by decide +kernel
theorem dX1_scanOrder_26 : decode cX1_scanOrder 26 = .ok (.istore_n 2, 1) := by decide +kernel
theorem dX1_scanOrder_27 : decode cX1_scanOrder 27 = .ok (.iconst 0, 1) := by decide +kernel
theorem dX1_scanOrder_28 : decode cX1_scanOrder 28 = .ok (.istore_n 3, 1) := by decide +kernel
theorem dX1_scanOrder_29 : decode cX1_scanOrder 29 = .ok (.iload_n 1, 1) := by decide +kernel
theorem dX1_scanOrder_30 : decode cX1_scanOrder 30 = .ok (.ifCond .ne 29, 3) := by decide +kernel
theorem dX1_scanOrder_33 : decode cX1_scanOrder 33 = .ok (.iload_n 2, 1) := by decide +kernel
theorem dX1_scanOrder_34 : decode cX1_scanOrder 34 = .ok (.iconst (-1), 1) := by decide +kernel
theorem dX1_scanOrder_35 : decode cX1_scanOrder 35 = .ok (.if_icmp .eq 22, 3) := by decide +kernel
theorem dX1_scanOrder_38 : decode cX1_scanOrder 38 = .ok (.aload_n 0, 1) := by decide +kernel
theorem dX1_scanOrder_39 : decode cX1_scanOrder 39 = .ok (.bipush 58, 2) := by decide +kernel
theorem dX1_scanOrder_41 : decode cX1_scanOrder 41 = .ok (.invokevirtual 46, 3) := by decide +kernel
theorem dX1_scanOrder_44 : decode cX1_scanOrder 44 = .ok (.ifCond .eq 13, 3) := by decide +kernel
theorem dX1_scanOrder_47 : decode cX1_scanOrder 47 = .ok (.aload_n 0, 1) := by decide +kernel
theorem dX1_scanOrder_48 : decode cX1_scanOrder 48 = .ok (.iconst 0, 1) := by decide +kernel
theorem dX1_scanOrder_49 : decode cX1_scanOrder 49 = .ok (.bipush 63, 2) := by decide +kernel
theorem dX1_scanOrder_51 : decode cX1_scanOrder 51 = .ok (.invokevirtual 60, 3) := by decide +kernel
theorem dX1_scanOrder_54 : decode cX1_scanOrder 54 = .ok (.goto 4, 3) := by decide +kernel
theorem dX1_scanOrder_57 : decode cX1_scanOrder 57 = .ok (.iconst (-1), 1) := by decide +kernel
theorem dX1_scanOrder_58 : decode cX1_scanOrder 58 = .ok (.istore_n 3, 1) := by decide +kernel
theorem dX1_scanOrder_59 : decode cX1_scanOrder 59 = .ok (.iload_n 2, 1) := by decide +kernel
theorem dX1_scanOrder_60 : decode cX1_scanOrder 60 = .ok (.iconst (-1), 1) := by decide +kernel
theorem dX1_scanOrder_61 : decode cX1_scanOrder 61 = .ok (.if_icmp .eq 8, 3) := by decide +kernel
theorem dX1_scanOrder_64 : decode cX1_scanOrder 64 = .ok (.iload_n 3, 1) := by decide +kernel
theorem dX1_scanOrder_65 : decode cX1_scanOrder 65 = .ok (.iconst (-1), 1) := by decide +kernel
theorem dX1_scanOrder_66 : decode cX1_scanOrder 66 = .ok (.if_icmp .ne 5, 3) := by decide +kernel
theorem dX1_scanOrder_69 : decode cX1_scanOrder 69 = .ok (.iconst 0, 1) := by decide +kernel
theorem dX1_scanOrder_70 : decode cX1_scanOrder 70 = .ok (.ireturn, 1) := by decide +kernel
theorem dX1_scanOrder_71 : decode cX1_scanOrder 71 = .ok (.aload_n 0, 1) := by decide +kernel
theorem dX1_scanOrder_72 : decode cX1_scanOrder 72 = .ok (.getfield 36, 3) := by decide +kernel
theorem dX1_scanOrder_75 : decode cX1_scanOrder 75 = .ok (.bipush 10, 2) := by decide +kernel
theorem dX1_scanOrder_77 : decode cX1_scanOrder 77 = .ok (.if_icmp .ge 43, 3) := by decide +kernel
theorem dX1_scanOrder_80 : decode cX1_scanOrder 80 = .ok (.aload_n 0, 1) := by decide +kernel
theorem dX1_scanOrder_81 : decode cX1_scanOrder 81 = .ok (.getfield 15, 3) := by decide +kernel
theorem dX1_scanOrder_84 : decode cX1_scanOrder 84 = .ok (.aload_n 0, 1) := by decide +kernel
theorem dX1_scanOrder_85 : decode cX1_scanOrder 85 = .ok (.getfield 36, 3) := by decide +kernel
theorem dX1_scanOrder_88 : decode cX1_scanOrder 88 = .ok (.iload_n 1, 1) := by decide +kernel
theorem dX1_scanOrder_89 : decode cX1_scanOrder 89 = .ok (.iastore, 1) := by decide +kernel
theorem dX1_scanOrder_90 : decode cX1_scanOrder 90 = .ok (.aload_n 0, 1) := by decide +kernel
theorem dX1_scanOrder_91 : decode cX1_scanOrder 91 = .ok (.getfield 19, 3) := by decide +kernel
theorem dX1_scanOrder_94 : decode cX1_scanOrder 94 = .ok (.aload_n 0, 1) := by decide +kernel
theorem dX1_scanOrder_95 : decode cX1_scanOrder 95 = .ok (.getfield 36, 3) := by decide +kernel
theorem dX1_scanOrder_98 : decode cX1_scanOrder 98 = .ok (.iload_n 2, 1) := by decide +kernel
theorem dX1_scanOrder_99 : decode cX1_scanOrder 99 = .ok (.iastore, 1) := by decide +kernel
theorem dX1_scanOrder_100 : decode cX1_scanOrder 100 = .ok (.aload_n 0, 1) := by decide +kernel
theorem dX1_scanOrder_101 : decode cX1_scanOrder 101 = .ok (.getfield 22, 3) := by decide +kernel
theorem dX1_scanOrder_104 : decode cX1_scanOrder 104 = .ok (.aload_n 0, 1) := by decide +kernel
theorem dX1_scanOrder_105 : decode cX1_scanOrder 105 = .ok (.getfield 36, 3) := by decide +kernel
theorem dX1_scanOrder_108 : decode cX1_scanOrder 108 = .ok (.iload_n 3, 1) := by decide +kernel
theorem dX1_scanOrder_109 : decode cX1_scanOrder 109 = .ok (.iastore, 1) := by decide +kernel
theorem dX1_scanOrder_110 : decode cX1_scanOrder 110 = .ok (.aload_n 0, 1) := by decide +kernel
theorem dX1_scanOrder_111 : decode cX1_scanOrder 111 = .ok (.dup, 1) := by decide +kernel
theorem dX1_scanOrder_112 : decode cX1_scanOrder 112 = .ok (.getfield 36, 3) := by decide +kernel
theorem dX1_scanOrder_115 : decode cX1_scanOrder 115 = .ok (.iconst 1, 1) := by decide +kernel
theorem dX1_scanOrder_116 : decode cX1_scanOrder 116 = .ok (.iadd, 1) := by decide +kernel
theorem dX1_scanOrder_117 : decode cX1_scanOrder 117 = .ok (.putfield 36, 3) := by decide +kernel
theorem dX1_scanOrder_120 : decode cX1_scanOrder 120 = .ok (.iconst 1, 1) := by decide +kernel
theorem dX1_scanOrder_121 : decode cX1_scanOrder 121 = .ok (.ireturn, 1) := by decide +kernel
theorem dX1_scanWord_0 : decode cX1_scanWord 0 = .ok (.iconst 0, 1) := by decide +kernel
theorem dX1_scanWord_1 : decode cX1_scanWord 1 = .ok (.istore_n 1, 1) := by decide +kernel
theorem dX1_scanWord_2 : decode cX1_scanWord 2 = .ok (.iconst (-1), 1) := by decide +kernel
theorem dX1_scanWord_3 : decode cX1_scanWord 3 = .ok (.istore_n 2, 1) := by decide +kernel
theorem dX1_scanWord_4 : decode cX1_scanWord 4 = .ok (.iconst 0, 1) := by decide +kernel
theorem dX1_scanWord_5 : decode cX1_scanWord 5 = .ok (.istore_n 3, 1) := by decide +kernel
theorem dX1_scanWord_6 : decode cX1_scanWord 6 = .ok (.iload_n 3, 1) := by decide +kernel
theorem dX1_scanWord_7 : decode cX1_scanWord 7 = .ok (.iconst 5, 1) := by decide +kernel
theorem dX1_scanWord_8 : decode cX1_scanWord 8 = .ok (.if_icmp .ge 40, 3) := by decide +kernel
theorem dX1_scanWord_11 : decode cX1_scanWord 11 = .ok (.aload_n 0, 1) := by decide +kernel
theorem dX1_scanWord_12 : decode cX1_scanWord 12 = .ok (.iload_n 3, 1) := by decide +kernel
theorem dX1_scanWord_13 : decode cX1_scanWord 13 = .ok (.invokestatic 64, 3) := by decide +kernel
theorem dX1_scanWord_16 : decode cX1_scanWord 16 = .ok (.invokevirtual 68, 3) := by decide +kernel
theorem dX1_scanWord_19 : decode cX1_scanWord 19 = .ok (.istore 4, 2) := by decide +kernel
theorem dX1_scanWord_21 : decode cX1_scanWord 21 = .ok (.iload_n 1, 1) := by decide +kernel
theorem dX1_scanWord_22 : decode cX1_scanWord 22 = .ok (.iload 4, 2) := by decide +kernel
theorem dX1_scanWord_24 : decode cX1_scanWord 24 = .ok (.invokestatic 72, 3) := by decide +kernel
theorem dX1_scanWord_27 : decode cX1_scanWord 27 = .ok (.istore_n 1, 1) := by decide +kernel
theorem dX1_scanWord_28 : decode cX1_scanWord 28 = .ok (.iload 4, 2) := by decide +kernel
theorem dX1_scanWord_30 : decode cX1_scanWord 30 = .ok (.iload_n 3, 1) := by decide +kernel
theorem dX1_scanWord_31 : decode cX1_scanWord 31 = .ok (.invokestatic 64, 3) := by decide +kernel
theorem dX1_scanWord_34 : decode cX1_scanWord 34 = .ok (.invokevirtual 77, 3) := by decide +kernel
theorem dX1_scanWord_37 : decode cX1_scanWord 37 = .ok (.if_icmp .ne 5, 3) := by decide +kernel
theorem dX1_scanWord_40 : decode cX1_scanWord 40 = .ok (.iload_n 3, 1) := by decide +kernel
theorem dX1_scanWord_41 : decode cX1_scanWord 41 = .ok (.istore_n 2, 1) := by decide +kernel
theorem dX1_scanWord_42 : decode cX1_scanWord 42 = .ok (.iinc 3 1, 3) := by decide +kernel
theorem dX1_scanWord_45 : decode cX1_scanWord 45 = .ok (.goto (-39), 3) := by decide +kernel
theorem dX1_scanWord_48 : decode cX1_scanWord 48 = .ok (.aload_n 0, 1) := by decide +kernel
theorem dX1_scanWord_49 : decode cX1_scanWord 49 = .ok (.dup, 1) := by decide +kernel
theorem dX1_scanWord_50 : decode cX1_scanWord 50 = .ok (.getfield 33, 3) := by decide +kernel
theorem dX1_scanWord_53 : decode cX1_scanWord 53 = .ok (.iload_n 1, 1) := by decide +kernel
theorem dX1_scanWord_54 : decode cX1_scanWord 54 = .ok (.iadd, 1) := by decide +kernel
theorem dX1_scanWord_55 : decode cX1_scanWord 55 = .ok (.putfield 33, 3) := by decide +kernel
theorem dX1_scanWord_58 : decode cX1_scanWord 58 = .ok (.iload_n 2, 1) := by decide +kernel
theorem dX1_scanWord_59 : decode cX1_scanWord 59 = .ok (.ireturn, 1) := by decide +kernel
theorem dX1_sameSigns_0 : decode cX1_sameSigns 0 = .ok (.iconst 0, 1) := by decide +kernel
theorem dX1_sameSigns_1 : decode cX1_sameSigns 1 = .ok (.istore_n 2, 1) := by decide +kernel
theorem dX1_sameSigns_2 : decode cX1_sameSigns 2 = .ok (.iload_n 2, 1) := by decide +kernel
theorem dX1_sameSigns_3 : decode cX1_sameSigns 3 = .ok (.aload_n 1, 1) := by decide +kernel
theorem dX1_sameSigns_4 : decode cX1_sameSigns 4 = .ok (.invokevirtual 77, 3) := by decide +kernel
theorem dX1_sameSigns_7 : decode cX1_sameSigns 7 = .ok (.if_icmp .ge 41, 3) := by decide +kernel
theorem dX1_sameSigns_10 : decode cX1_sameSigns 10 = .ok (.aload_n 0, 1) := by decide +kernel
theorem dX1_sameSigns_11 : decode cX1_sameSigns 11 = .ok (.getfield 33, 3) := by decide +kernel
theorem dX1_sameSigns_14 : decode cX1_sameSigns 14 = .ok (.iload_n 2, 1) := by decide +kernel
theorem dX1_sameSigns_15 : decode cX1_sameSigns 15 = .ok (.iadd, 1) := by decide +kernel
theorem dX1_sameSigns_16 : decode cX1_sameSigns 16 = .ok (.aload_n 0, 1) := by decide +kernel
theorem dX1_sameSigns_17 : decode cX1_sameSigns 17 = .ok (.getfield 25, 3) := by decide +kernel
theorem dX1_sameSigns_20 : decode cX1_sameSigns 20 = .ok (.if_icmp .ge 28, 3) := by decide +kernel
theorem dX1_sameSigns_23 : decode cX1_sameSigns 23 = .ok (.aload_n 0, 1) := by decide +kernel
theorem dX1_sameSigns_24 : decode cX1_sameSigns 24 = .ok (.getfield 11, 3) := by decide +kernel
theorem dX1_sameSigns_27 : decode cX1_sameSigns 27 = .ok (.aload_n 0, 1) := by decide +kernel
theorem dX1_sameSigns_28 : decode cX1_sameSigns 28 = .ok (.getfield 33, 3) := by decide +kernel
theorem dX1_sameSigns_31 : decode cX1_sameSigns 31 = .ok (.iload_n 2, 1) := by decide +kernel
theorem dX1_sameSigns_32 : decode cX1_sameSigns 32 = .ok (.iadd, 1) := by decide +kernel
theorem dX1_sameSigns_33 : decode cX1_sameSigns 33 = .ok (.caload, 1) := by decide +kernel
theorem dX1_sameSigns_34 : decode cX1_sameSigns 34 = .ok (.aload_n 1, 1) := by decide +kernel
theorem dX1_sameSigns_35 : decode cX1_sameSigns 35 = .ok (.iload_n 2, 1) := by decide +kernel
theorem dX1_sameSigns_36 : decode cX1_sameSigns 36 = .ok (.invokevirtual 81, 3) := by decide +kernel
theorem dX1_sameSigns_39 : decode cX1_sameSigns 39 = .ok (.if_icmp .ne 9, 3) := by decide +kernel
theorem dX1_sameSigns_42 : decode cX1_sameSigns 42 = .ok (.iinc 2 1, 3) := by decide +kernel
theorem dX1_sameSigns_45 : decode cX1_sameSigns 45 = .ok (.goto (-43), 3) := by decide +kernel
theorem dX1_sameSigns_48 : decode cX1_sameSigns 48 = .ok (.iload_n 2, 1) := by decide +kernel
theorem dX1_sameSigns_49 : decode cX1_sameSigns 49 = .ok (.ireturn, 1) := by decide +kernel
theorem dX1_wordOf_0 : decode cX1_wordOf 0 = .ok (.iload_n 0, 1) := by decide +kernel
theorem dX1_wordOf_1 : decode cX1_wordOf 1 = .ok (.tableswitch 43 0 3 #[31, 34, 37, 40], 31) := by decide +kernel
theorem dX1_wordOf_32 : decode cX1_wordOf 32 = .ok (.ldc 85, 2) := by decide +kernel
theorem dX1_wordOf_34 : decode cX1_wordOf 34 = .ok (.areturn, 1) := by decide +kernel
theorem dX1_wordOf_35 : decode cX1_wordOf 35 = .ok (.ldc 87, 2) := by decide +kernel
theorem dX1_wordOf_37 : decode cX1_wordOf 37 = .ok (.areturn, 1) := by decide +kernel
theorem dX1_wordOf_38 : decode cX1_wordOf 38 = .ok (.ldc 89, 2) := by decide +kernel
theorem dX1_wordOf_40 : decode cX1_wordOf 40 = .ok (.areturn, 1) := by decide +kernel
theorem dX1_wordOf_41 : decode cX1_wordOf 41 = .ok (.ldc 91, 2) := by decide +kernel
theorem dX1_wordOf_43 : decode cX1_wordOf 43 = .ok (.areturn, 1) := by decide +kernel
theorem dX1_wordOf_44 : decode cX1_wordOf 44 = .ok (.ldc 93, 2) := by decide +kernel
theorem dX1_wordOf_46 : decode cX1_wordOf 46 = .ok (.areturn, 1) := by decide +kernel
theorem dX1_scanSign_0 : decode cX1_scanSign 0 = .ok (.aload_n 0, 1) := by decide +kernel
theorem dX1_scanSign_1 : decode cX1_scanSign 1 = .ok (.getfield 33, 3) := by decide +kernel
theorem dX1_scanSign_4 : decode cX1_scanSign 4 = .ok (.aload_n 0, 1) := by decide +kernel
theorem dX1_scanSign_5 : decode cX1_scanSign 5 = .ok (.getfield 25, 3) := by decide +kernel
theorem dX1_scanSign_8 : decode cX1_scanSign 8 = .ok (.if_icmp .ge 16, 3) := by decide +kernel
theorem dX1_scanSign_11 : decode cX1_scanSign 11 = .ok (.aload_n 0, 1) := by decide +kernel
theorem dX1_scanSign_12 : decode cX1_scanSign 12 = .ok (.getfield 11, 3) := by decide +kernel
theorem dX1_scanSign_15 : decode cX1_scanSign 15 = .ok (.aload_n 0, 1) := by decide +kernel
theorem dX1_scanSign_16 : decode cX1_scanSign 16 = .ok (.getfield 33, 3) := by decide +kernel
theorem dX1_scanSign_19 : decode cX1_scanSign 19 = .ok (.caload, 1) := by decide +kernel
theorem dX1_scanSign_20 : decode cX1_scanSign 20 = .ok (.iload_n 1, 1) := by decide +kernel
theorem dX1_scanSign_21 : decode cX1_scanSign 21 = .ok (.if_icmp .eq 5, 3) := by decide +kernel
theorem dX1_scanSign_24 : decode cX1_scanSign 24 = .ok (.iconst 0, 1) := by decide +kernel
theorem dX1_scanSign_25 : decode cX1_scanSign 25 = .ok (.ireturn, 1) := by decide +kernel
theorem dX1_scanSign_26 : decode cX1_scanSign 26 = .ok (.aload_n 0, 1) := by decide +kernel
theorem dX1_scanSign_27 : decode cX1_scanSign 27 = .ok (.dup, 1) := by decide +kernel
theorem dX1_scanSign_28 : decode cX1_scanSign 28 = .ok (.getfield 33, 3) := by decide +kernel
theorem dX1_scanSign_31 : decode cX1_scanSign 31 = .ok (.iconst 1, 1) := by decide +kernel
theorem dX1_scanSign_32 : decode cX1_scanSign 32 = .ok (.iadd, 1) := by decide +kernel
theorem dX1_scanSign_33 : decode cX1_scanSign 33 = .ok (.putfield 33, 3) := by decide +kernel
theorem dX1_scanSign_36 : decode cX1_scanSign 36 = .ok (.iconst 1, 1) := by decide +kernel
theorem dX1_scanSign_37 : decode cX1_scanSign 37 = .ok (.ireturn, 1) := by decide +kernel
theorem dX1_scanNumber_0 : decode cX1_scanNumber 0 = .ok (.iconst (-1), 1) := by decide +kernel
theorem dX1_scanNumber_1 : decode cX1_scanNumber 1 = .ok (.istore_n 3, 1) := by decide +kernel
theorem dX1_scanNumber_2 : decode cX1_scanNumber 2 = .ok (.aload_n 0, 1) := by decide +kernel
theorem dX1_scanNumber_3 : decode cX1_scanNumber 3 = .ok (.getfield 33, 3) := by decide +kernel
theorem dX1_scanNumber_6 : decode cX1_scanNumber 6 = .ok (.aload_n 0, 1) := by decide +kernel
theorem dX1_scanNumber_7 : decode cX1_scanNumber 7 = .ok (.getfield 25, 3) := by decide +kernel
theorem dX1_scanNumber_10 : decode cX1_scanNumber 10 = .ok (.if_icmp .ge 87, 3) := by decide +kernel
theorem dX1_scanNumber_13 : decode cX1_scanNumber 13 = .ok (.aload_n 0, 1) := by decide +kernel
theorem dX1_scanNumber_14 : decode cX1_scanNumber 14 = .ok (.getfield 11, 3) := by decide +kernel
theorem dX1_scanNumber_17 : decode cX1_scanNumber 17 = .ok (.aload_n 0, 1) := by decide +kernel
theorem dX1_scanNumber_18 : decode cX1_scanNumber 18 = .ok (.getfield 33, 3) := by decide +kernel
theorem dX1_scanNumber_21 : decode cX1_scanNumber 21 = .ok (.caload, 1) := by decide +kernel
theorem dX1_scanNumber_22 : decode cX1_scanNumber 22 = .ok (.bipush 48, 2) := by decide +kernel
theorem dX1_scanNumber_24 : decode cX1_scanNumber 24 = .ok (.if_icmp .lt 73, 3) := by decide +kernel
theorem dX1_scanNumber_27 : decode cX1_scanNumber 27 = .ok (.aload_n 0, 1) := by decide +kernel
theorem dX1_scanNumber_28 : decode cX1_scanNumber 28 = .ok (.getfield 11, 3) := by decide +kernel
theorem dX1_scanNumber_31 : decode cX1_scanNumber 31 = .ok (.aload_n 0, 1) := by decide +kernel
theorem dX1_scanNumber_32 : decode cX1_scanNumber 32 = .ok (.getfield 33, 3) := by decide +kernel
theorem dX1_scanNumber_35 : decode cX1_scanNumber 35 = .ok (.caload, 1) := by decide +kernel
theorem dX1_scanNumber_36 : decode cX1_scanNumber 36 = .ok (.bipush 57, 2) := by decide +kernel
theorem dX1_scanNumber_38 : decode cX1_scanNumber 38 = .ok (.if_icmp .gt 59, 3) := by decide +kernel
theorem dX1_scanNumber_41 : decode cX1_scanNumber 41 = .ok (.iload_n 3, 1) := by decide +kernel
theorem dX1_scanNumber_42 : decode cX1_scanNumber 42 = .ok (.iconst 0, 1) := by decide +kernel
theorem dX1_scanNumber_43 : decode cX1_scanNumber 43 = .ok (.invokestatic 72, 3) := by decide +kernel
theorem dX1_scanNumber_46 : decode cX1_scanNumber 46 = .ok (.bipush 10, 2) := by decide +kernel
theorem dX1_scanNumber_48 : decode cX1_scanNumber 48 = .ok (.imul, 1) := by decide +kernel
theorem dX1_scanNumber_49 : decode cX1_scanNumber 49 = .ok (.aload_n 0, 1) := by decide +kernel
theorem dX1_scanNumber_50 : decode cX1_scanNumber 50 = .ok (.getfield 11, 3) := by decide +kernel
theorem dX1_scanNumber_53 : decode cX1_scanNumber 53 = .ok (.aload_n 0, 1) := by decide +kernel
theorem dX1_scanNumber_54 : decode cX1_scanNumber 54 = .ok (.getfield 33, 3) := by decide +kernel
theorem dX1_scanNumber_57 : decode cX1_scanNumber 57 = .ok (.caload, 1) := by decide +kernel
theorem dX1_scanNumber_58 : decode cX1_scanNumber 58 = .ok (.bipush 48, 2) := by decide +kernel
theorem dX1_scanNumber_60 : decode cX1_scanNumber 60 = .ok (.isub, 1) := by decide +kernel
theorem dX1_scanNumber_61 : decode cX1_scanNumber 61 = .ok (.iadd, 1) := by decide +kernel
theorem dX1_scanNumber_62 : decode cX1_scanNumber 62 = .ok (.istore 4, 2) := by decide +kernel
theorem dX1_scanNumber_64 : decode cX1_scanNumber 64 = .ok (.iload_n 3, 1) := by decide +kernel
theorem dX1_scanNumber_65 : decode cX1_scanNumber 65 = .ok (.ifCond .eq 32, 3) := by decide +kernel
theorem dX1_scanNumber_68 : decode cX1_scanNumber 68 = .ok (.iload 4, 2) := by decide +kernel
theorem dX1_scanNumber_70 : decode cX1_scanNumber 70 = .ok (.iload_n 1, 1) := by decide +kernel
theorem dX1_scanNumber_71 : decode cX1_scanNumber 71 = .ok (.iload_n 2, 1) := by decide +kernel
theorem dX1_scanNumber_72 : decode cX1_scanNumber 72 = .ok (.invokestatic 95, 3) := by decide +kernel
theorem dX1_scanNumber_75 : decode cX1_scanNumber 75 = .ok (.ifCond .ne 6, 3) := by decide +kernel
theorem dX1_scanNumber_78 : decode cX1_scanNumber 78 = .ok (.goto 19, 3) := by decide +kernel
theorem dX1_scanNumber_81 : decode cX1_scanNumber 81 = .ok (.iload 4, 2) := by decide +kernel
theorem dX1_scanNumber_83 : decode cX1_scanNumber 83 = .ok (.istore_n 3, 1) := by decide +kernel
theorem dX1_scanNumber_84 : decode cX1_scanNumber 84 = .ok (.aload_n 0, 1) := by decide +kernel
theorem dX1_scanNumber_85 : decode cX1_scanNumber 85 = .ok (.dup, 1) := by decide +kernel
theorem dX1_scanNumber_86 : decode cX1_scanNumber 86 = .ok (.getfield 33, 3) := by decide +kernel
theorem dX1_scanNumber_89 : decode cX1_scanNumber 89 = .ok (.iconst 1, 1) := by decide +kernel
theorem dX1_scanNumber_90 : decode cX1_scanNumber 90 = .ok (.iadd, 1) := by decide +kernel
theorem dX1_scanNumber_91 : decode cX1_scanNumber 91 = .ok (.putfield 33, 3) := by decide +kernel
theorem dX1_scanNumber_94 : decode cX1_scanNumber 94 = .ok (.goto (-92), 3) := by decide +kernel
theorem dX1_scanNumber_97 : decode cX1_scanNumber 97 = .ok (.iload_n 3, 1) := by decide +kernel
theorem dX1_scanNumber_98 : decode cX1_scanNumber 98 = .ok (.ireturn, 1) := by decide +kernel
theorem dX2_init_0 : decode cX2_init 0 = .ok (.aload_n 0, 1) := by decide +kernel
theorem dX2_init_1 : decode cX2_init 1 = .ok (.invokespecial 1, 3) := by decide +kernel
theorem dX2_init_4 : decode cX2_init 4 = .ok (.aload_n 0, 1) := by decide +kernel
theorem dX2_init_5 : decode cX2_init 5 = .ok (.bipush 6, 2) := by decide +kernel
theorem dX2_init_7 : decode cX2_init 7 = .ok (.anewarray 9, 3) := by decide +kernel
theorem dX2_init_10 : decode cX2_init 10 = .ok (.putfield 11, 3) := by decide +kernel
theorem dX2_init_13 : decode cX2_init 13 = .ok (.iconst 0, 1) := by decide +kernel
theorem dX2_init_14 : decode cX2_init 14 = .ok (.istore_n 1, 1) := by decide +kernel
theorem dX2_init_15 : decode cX2_init 15 = .ok (.iload_n 1, 1) := by decide +kernel
theorem dX2_init_16 : decode cX2_init 16 = .ok (.bipush 6, 2) := by decide +kernel
theorem dX2_init_18 : decode cX2_init 18 = .ok (.if_icmp .ge 22, 3) := by decide +kernel
theorem dX2_init_21 : decode cX2_init 21 = .ok (.aload_n 0, 1) := by decide +kernel
theorem dX2_init_22 : decode cX2_init 22 = .ok (.getfield 11, 3) := by decide +kernel
theorem dX2_init_25 : decode cX2_init 25 = .ok (.iload_n 1, 1) := by decide +kernel
theorem dX2_init_26 : decode cX2_init 26 = .ok (.new 9, 3) := by decide +kernel
theorem dX2_init_29 : decode cX2_init 29 = .ok (.dup, 1) := by decide +kernel
theorem dX2_init_30 : decode cX2_init 30 = .ok (.invokespecial 15, 3) := by decide +kernel
theorem dX2_init_33 : decode cX2_init 33 = .ok (.aastore, 1) := by decide +kernel
theorem dX2_init_34 : decode cX2_init 34 = .ok (.iinc 1 1, 3) := by decide +kernel
theorem dX2_init_37 : decode cX2_init 37 = .ok (.goto (-22), 3) := by decide +kernel
theorem dX2_init_40 : decode cX2_init 40 = .ok (.return_, 1) := by decide +kernel
theorem dX2_save_0 : decode cX2_save 0 = .ok (.aload_n 0, 1) := by decide +kernel
theorem dX2_save_1 : decode cX2_save 1 = .ok (.getfield 11, 3) := by decide +kernel
theorem dX2_save_4 : decode cX2_save 4 = .ok (.aload_n 0, 1) := by decide +kernel
theorem dX2_save_5 : decode cX2_save 5 = .ok (.getfield 16, 3) := by decide +kernel
theorem dX2_save_8 : decode cX2_save 8 = .ok (.aload_n 0, 1) := by decide +kernel
theorem dX2_save_9 : decode cX2_save 9 = .ok (.getfield 20, 3) := by decide +kernel
theorem dX2_save_12 : decode cX2_save 12 = .ok (.iadd, 1) := by decide +kernel
theorem dX2_save_13 : decode cX2_save 13 = .ok (.bipush 6, 2) := by decide +kernel
theorem dX2_save_15 : decode cX2_save 15 = .ok (.irem, 1) := by decide +kernel
theorem dX2_save_16 : decode cX2_save 16 = .ok (.aaload, 1) := by decide +kernel
theorem dX2_save_17 : decode cX2_save 17 = .ok (.aload_n 1, 1) := by decide +kernel
theorem dX2_save_18 : decode cX2_save 18 = .ok (.invokevirtual 23, 3) := by decide +kernel
theorem dX2_save_21 : decode cX2_save 21 = .ok (.aload_n 0, 1) := by decide +kernel
theorem dX2_save_22 : decode cX2_save 22 = .ok (.getfield 20, 3) := by decide +kernel
theorem dX2_save_25 : decode cX2_save 25 = .ok (.bipush 6, 2) := by decide +kernel
theorem dX2_save_27 : decode cX2_save 27 = .ok (.if_icmp .ge 16, 3) := by decide +kernel
theorem dX2_save_30 : decode cX2_save 30 = .ok (.aload_n 0, 1) := by decide +kernel
theorem dX2_save_31 : decode cX2_save 31 = .ok (.dup, 1) := by decide +kernel
theorem dX2_save_32 : decode cX2_save 32 = .ok (.getfield 20, 3) := by decide +kernel
theorem dX2_save_35 : decode cX2_save 35 = .ok (.iconst 1, 1) := by decide +kernel
theorem dX2_save_36 : decode cX2_save 36 = .ok (.iadd, 1) := by decide +kernel
theorem dX2_save_37 : decode cX2_save 37 = .ok (.putfield 20, 3) := by decide +kernel
theorem dX2_save_40 : decode cX2_save 40 = .ok (.goto 16, 3) := by decide +kernel
theorem dX2_save_43 : decode cX2_save 43 = .ok (.aload_n 0, 1) := by decide +kernel
theorem dX2_save_44 : decode cX2_save 44 = .ok (.aload_n 0, 1) := by decide +kernel
theorem dX2_save_45 : decode cX2_save 45 = .ok (.getfield 16, 3) := by decide +kernel
theorem dX2_save_48 : decode cX2_save 48 = .ok (.iconst 1, 1) := by decide +kernel
theorem dX2_save_49 : decode cX2_save 49 = .ok (.iadd, 1) := by decide +kernel
theorem dX2_save_50 : decode cX2_save 50 = .ok (.bipush 6, 2) := by decide +kernel
theorem dX2_save_52 : decode cX2_save 52 = .ok (.irem, 1) := by decide +kernel
theorem dX2_save_53 : decode cX2_save 53 = .ok (.putfield 16, 3) := by decide +kernel
theorem dX2_save_56 : decode cX2_save 56 = .ok (.return_, 1) := by decide +kernel
theorem dX2_restore_0 : decode cX2_restore 0 = .ok (.aload_n 0, 1) := by decide +kernel
theorem dX2_restore_1 : decode cX2_restore 1 = .ok (.getfield 20, 3) := by decide +kernel
theorem dX2_restore_4 : decode cX2_restore 4 = .ok (.ifCond .le 34, 3) := by decide +kernel
theorem dX2_restore_7 : decode cX2_restore 7 = .ok (.aload_n 0, 1) := by decide +kernel
theorem dX2_restore_8 : decode cX2_restore 8 = .ok (.dup, 1) := by decide +kernel
theorem dX2_restore_9 : decode cX2_restore 9 = .ok (.getfield 20, 3) := by decide +kernel
theorem dX2_restore_12 : decode cX2_restore 12 = .ok (.iconst 1, 1) := by decide +kernel
theorem dX2_restore_13 : decode cX2_restore 13 = .ok (.isub, 1) := by decide +kernel
theorem dX2_restore_14 : decode cX2_restore 14 = .ok (.putfield 20, 3) := by decide +kernel
theorem dX2_restore_17 : decode cX2_restore 17 = .ok (.aload_n 1, 1) := by decide +kernel
theorem dX2_restore_18 : decode cX2_restore 18 = .ok (.aload_n 0, 1) := by decide +kernel
theorem dX2_restore_19 : decode cX2_restore 19 = .ok (.getfield 11, 3) := by decide +kernel
theorem dX2_restore_22 : decode cX2_restore 22 = .ok (.aload_n 0, 1) := by decide +kernel
theorem dX2_restore_23 : decode cX2_restore 23 = .ok (.getfield 16, 3) := by decide +kernel
theorem dX2_restore_26 : decode cX2_restore 26 = .ok (.aload_n 0, 1) := by decide +kernel
theorem dX2_restore_27 : decode cX2_restore 27 = .ok (.getfield 20, 3) := by decide +kernel
theorem dX2_restore_30 : decode cX2_restore 30 = .ok (.iadd, 1) := by decide +kernel
theorem dX2_restore_31 : decode cX2_restore 31 = .ok (.bipush 6, 2) := by decide +kernel
theorem dX2_restore_33 : decode cX2_restore 33 = .ok (.irem, 1) := by decide +kernel
theorem dX2_restore_34 : decode cX2_restore 34 = .ok (.aaload, 1) := by decide +kernel
theorem dX2_restore_35 : decode cX2_restore 35 = .ok (.invokevirtual 23, 3) := by decide +kernel
theorem dX2_restore_38 : decode cX2_restore 38 = .ok (.return_, 1) := by decide +kernel
theorem dX3_init_0 : decode cX3_init 0 = .ok (.aload_n 0, 1) := by decide +kernel
theorem dX3_init_1 : decode cX3_init 1 = .ok (.invokespecial 3, 3) := by decide +kernel
theorem dX3_init_4 : decode cX3_init 4 = .ok (.aload_n 0, 1) := by decide +kernel
theorem dX3_init_5 : decode cX3_init 5 = .ok (.bipush 20, 2) := by decide +kernel
theorem dX3_init_7 : decode cX3_init 7 = .ok (.newarray .int, 2) := by decide +kernel
theorem dX3_init_9 : decode cX3_init 9 = .ok (.putfield 9, 3) := by decide +kernel
theorem dX3_init_12 : decode cX3_init 12 = .ok (.aload_n 0, 1) := by decide +kernel
theorem dX3_init_13 : decode cX3_init 13 = .ok (.bipush 20, 2) := by decide +kernel
theorem dX3_init_15 : decode cX3_init 15 = .ok (.newarray .int, 2) := by decide +kernel
theorem dX3_init_17 : decode cX3_init 17 = .ok (.putfield 15, 3) := by decide +kernel
theorem dX3_init_20 : decode cX3_init 20 = .ok (.aload_n 0, 1) := by decide +kernel
theorem dX3_init_21 : decode cX3_init 21 = .ok (.iconst 4, 1) := by decide +kernel
theorem dX3_init_22 : decode cX3_init 22 = .ok (.newarray .int, 2) := by decide +kernel
theorem dX3_init_24 : decode cX3_init 24 = .ok (.dup, 1) := by decide +kernel
theorem dX3_init_25 : decode cX3_init 25 = .ok (.iconst 0, 1) := by decide +kernel
theorem dX3_init_26 : decode cX3_init 26 = .ok (.iconst 1, 1) := by decide +kernel
theorem dX3_init_27 : decode cX3_init 27 = .ok (.iastore, 1) := by decide +kernel
theorem dX3_init_28 : decode cX3_init 28 = .ok (.dup, 1) := by decide +kernel
theorem dX3_init_29 : decode cX3_init 29 = .ok (.iconst 1, 1) := by decide +kernel
theorem dX3_init_30 : decode cX3_init 30 = .ok (.iconst 3, 1) := by decide +kernel
theorem dX3_init_31 : decode cX3_init 31 = .ok (.iastore, 1) := by decide +kernel
theorem dX3_init_32 : decode cX3_init 32 = .ok (.dup, 1) := by decide +kernel
theorem dX3_init_33 : decode cX3_init 33 = .ok (.iconst 2, 1) := by decide +kernel
theorem dX3_init_34 : decode cX3_init 34 = .ok (.iconst 1, 1) := by decide +kernel
theorem dX3_init_35 : decode cX3_init 35 = .ok (.iastore, 1) := by decide +kernel
theorem dX3_init_36 : decode cX3_init 36 = .ok (.dup, 1) := by decide +kernel
theorem dX3_init_37 : decode cX3_init 37 = .ok (.iconst 3, 1) := by decide +kernel
theorem dX3_init_38 : decode cX3_init 38 = .ok (.iconst 1, 1) := by decide +kernel
theorem dX3_init_39 : decode cX3_init 39 = .ok (.iastore, 1) := by decide +kernel
theorem dX3_init_40 : decode cX3_init 40 = .ok (.putfield 18, 3) := by decide +kernel
theorem dX3_init_43 : decode cX3_init 43 = .ok (.return_, 1) := by decide +kernel
theorem dX3_copyFrom_0 : decode cX3_copyFrom 0 = .ok (.aload_n 1, 1) := by decide +kernel
theorem dX3_copyFrom_1 : decode cX3_copyFrom 1 = .ok (.getfield 9, 3) := by decide +kernel
theorem dX3_copyFrom_4 : decode cX3_copyFrom 4 = .ok (.iconst 0, 1) := by decide +kernel
theorem dX3_copyFrom_5 : decode cX3_copyFrom 5 = .ok (.aload_n 0, 1) := by decide +kernel
theorem dX3_copyFrom_6 : decode cX3_copyFrom 6 = .ok (.getfield 9, 3) := by decide +kernel
theorem dX3_copyFrom_9 : decode cX3_copyFrom 9 = .ok (.iconst 0, 1) := by decide +kernel
theorem dX3_copyFrom_10 : decode cX3_copyFrom 10 = .ok (.bipush 20, 2) := by decide +kernel
theorem dX3_copyFrom_12 : decode cX3_copyFrom 12 = .ok (.invokestatic 21, 3) := by decide +kernel
theorem dX3_copyFrom_15 : decode cX3_copyFrom 15 = .ok (.aload_n 1, 1) := by decide +kernel
theorem dX3_copyFrom_16 : decode cX3_copyFrom 16 = .ok (.getfield 15, 3) := by decide +kernel
theorem dX3_copyFrom_19 : decode cX3_copyFrom 19 = .ok (.iconst 0, 1) := by decide +kernel
theorem dX3_copyFrom_20 : decode cX3_copyFrom 20 = .ok (.aload_n 0, 1) := by decide +kernel
theorem dX3_copyFrom_21 : decode cX3_copyFrom 21 = .ok (.getfield 15, 3) := by decide +kernel
theorem dX3_copyFrom_24 : decode cX3_copyFrom 24 = .ok (.iconst 0, 1) := by decide +kernel
theorem dX3_copyFrom_25 : decode cX3_copyFrom 25 = .ok (.bipush 20, 2) := by decide +kernel
theorem dX3_copyFrom_27 : decode cX3_copyFrom 27 = .ok (.invokestatic 21, 3) := by decide +kernel
theorem dX3_copyFrom_30 : decode cX3_copyFrom 30 = .ok (.aload_n 1, 1) := by decide +kernel
theorem dX3_copyFrom_31 : decode cX3_copyFrom 31 = .ok (.getfield 18, 3) := by decide +kernel
theorem dX3_copyFrom_34 : decode cX3_copyFrom 34 = .ok (.iconst 0, 1) := by decide +kernel
theorem dX3_copyFrom_35 : decode cX3_copyFrom 35 = .ok (.aload_n 0, 1) := by decide +kernel
theorem dX3_copyFrom_36 : decode cX3_copyFrom 36 = .ok (.getfield 18, 3) := by decide +kernel
theorem dX3_copyFrom_39 : decode cX3_copyFrom 39 = .ok (.iconst 0, 1) := by decide +kernel
theorem dX3_copyFrom_40 : decode cX3_copyFrom 40 = .ok (.iconst 4, 1) := by decide +kernel
theorem dX3_copyFrom_41 : decode cX3_copyFrom 41 = .ok (.invokestatic 21, 3) := by decide +kernel
theorem dX3_copyFrom_44 : decode cX3_copyFrom 44 = .ok (.aload_n 0, 1) := by decide +kernel
theorem dX3_copyFrom_45 : decode cX3_copyFrom 45 = .ok (.aload_n 1, 1) := by decide +kernel
theorem dX3_copyFrom_46 : decode cX3_copyFrom 46 = .ok (.getfield 27, 3) := by decide +kernel
theorem dX3_copyFrom_49 : decode cX3_copyFrom 49 = .ok (.putfield 27, 3) := by decide +kernel
theorem dX3_copyFrom_52 : decode cX3_copyFrom 52 = .ok (.aload_n 0, 1) := by decide +kernel
theorem dX3_copyFrom_53 : decode cX3_copyFrom 53 = .ok (.aload_n 1, 1) := by decide +kernel
theorem dX3_copyFrom_54 : decode cX3_copyFrom 54 = .ok (.getfield 31, 3) := by decide +kernel
theorem dX3_copyFrom_57 : decode cX3_copyFrom 57 = .ok (.putfield 31, 3) := by decide +kernel
theorem dX3_copyFrom_60 : decode cX3_copyFrom 60 = .ok (.aload_n 0, 1) := by decide +kernel
theorem dX3_copyFrom_61 : decode cX3_copyFrom 61 = .ok (.aload_n 1, 1) := by decide +kernel
theorem dX3_copyFrom_62 : decode cX3_copyFrom 62 = .ok (.getfield 34, 3) := by decide +kernel
theorem dX3_copyFrom_65 : decode cX3_copyFrom 65 = .ok (.putfield 34, 3) := by decide +kernel
theorem dX3_copyFrom_68 : decode cX3_copyFrom 68 = .ok (.return_, 1) := by decide +kernel
theorem dX3_strength_0 : decode cX3_strength 0 = .ok (.aload_n 0, 1) := by decide +kernel
theorem dX3_strength_1 : decode cX3_strength 1 = .ok (.getfield 9, 3) := by decide +kernel
theorem dX3_strength_4 : decode cX3_strength 4 = .ok (.iload_n 1, 1) := by decide +kernel
theorem dX3_strength_5 : decode cX3_strength 5 = .ok (.iaload, 1) := by decide +kernel
theorem dX3_strength_6 : decode cX3_strength 6 = .ok (.iload_n 2, 1) := by decide +kernel
theorem dX3_strength_7 : decode cX3_strength 7 = .ok (.ishr, 1) := by decide +kernel
theorem dX3_strength_8 : decode cX3_strength 8 = .ok (.iconst 1, 1) := by decide +kernel
theorem dX3_strength_9 : decode cX3_strength 9 = .ok (.iand, 1) := by decide +kernel
theorem dX3_strength_10 : decode cX3_strength 10 = .ok (.iconst 2, 1) := by decide +kernel
theorem dX3_strength_11 : decode cX3_strength 11 = .ok (.aload_n 0, 1) := by decide +kernel
theorem dX3_strength_12 : decode cX3_strength 12 = .ok (.getfield 15, 3) := by decide +kernel
theorem dX3_strength_15 : decode cX3_strength 15 = .ok (.iload_n 1, 1) := by decide +kernel
theorem dX3_strength_16 : decode cX3_strength 16 = .ok (.iaload, 1) := by decide +kernel
theorem dX3_strength_17 : decode cX3_strength 17 = .ok (.iload_n 2, 1) := by decide +kernel
theorem dX3_strength_18 : decode cX3_strength 18 = .ok (.ishr, 1) := by decide +kernel
theorem dX3_strength_19 : decode cX3_strength 19 = .ok (.iconst 1, 1) := by decide +kernel
theorem dX3_strength_20 : decode cX3_strength 20 = .ok (.iand, 1) := by decide +kernel
theorem dX3_strength_21 : decode cX3_strength 21 = .ok (.imul, 1) := by decide +kernel
theorem dX3_strength_22 : decode cX3_strength 22 = .ok (.iadd, 1) := by decide +kernel
theorem dX3_strength_23 : decode cX3_strength 23 = .ok (.ireturn, 1) := by decide +kernel
theorem dX3_readAt_0 : decode cX3_readAt 0 = .ok (.iload_n 3, 1) := by decide +kernel
theorem dX3_readAt_1 : decode cX3_readAt 1 = .ok (.ifCond .eq 10, 3) := by decide +kernel
theorem dX3_readAt_4 : decode cX3_readAt 4 = .ok (.aload_n 0, 1) := by decide +kernel
theorem dX3_readAt_5 : decode cX3_readAt 5 = .ok (.getfield 15, 3) := by decide +kernel
theorem dX3_readAt_8 : decode cX3_readAt 8 = .ok (.iload_n 1, 1) := by decide +kernel
theorem dX3_readAt_9 : decode cX3_readAt 9 = .ok (.iaload, 1) := by decide +kernel
theorem dX3_readAt_10 : decode cX3_readAt 10 = .ok (.ireturn, 1) := by decide +kernel
theorem dX3_readAt_11 : decode cX3_readAt 11 = .ok (.iload_n 2, 1) := by decide +kernel
theorem dX3_readAt_12 : decode cX3_readAt 12 = .ok (.iload_n 1, 1) := by decide +kernel
theorem dX3_readAt_13 : decode cX3_readAt 13 = .ok (.iadd, 1) := by decide +kernel
theorem dX3_readAt_14 : decode cX3_readAt 14 = .ok (.iconst 3, 1) := by decide +kernel
theorem dX3_readAt_15 : decode cX3_readAt 15 = .ok (.irem, 1) := by decide +kernel
theorem dX3_readAt_16 : decode cX3_readAt 16 = .ok (.istore 4, 2) := by decide +kernel
theorem dX3_readAt_18 : decode cX3_readAt 18 = .ok (.ldc 37, 2) := by decide +kernel
theorem dX3_readAt_20 : decode cX3_readAt 20 = .ok (.iload 4, 2) := by decide +kernel
theorem dX3_readAt_22 : decode cX3_readAt 22 = .ok (.ishr, 1) := by decide +kernel
theorem dX3_readAt_23 : decode cX3_readAt 23 = .ok (.istore 5, 2) := by decide +kernel
theorem dX3_readAt_25 : decode cX3_readAt 25 = .ok (.ldc 38, 2) := by decide +kernel
theorem dX3_readAt_27 : decode cX3_readAt 27 = .ok (.iload 4, 2) := by decide +kernel
theorem dX3_readAt_29 : decode cX3_readAt 29 = .ok (.ishr, 1) := by decide +kernel
theorem dX3_readAt_30 : decode cX3_readAt 30 = .ok (.istore 6, 2) := by decide +kernel
theorem dX3_readAt_32 : decode cX3_readAt 32 = .ok (.ldc 39, 2) := by decide +kernel
theorem dX3_readAt_34 : decode cX3_readAt 34 = .ok (.iload 4, 2) := by decide +kernel
theorem dX3_readAt_36 : decode cX3_readAt 36 = .ok (.ishr, 1) := by decide +kernel
theorem dX3_readAt_37 : decode cX3_readAt 37 = .ok (.istore 7, 2) := by decide +kernel
theorem dX3_readAt_39 : decode cX3_readAt 39 = .ok (.aload_n 0, 1) := by decide +kernel
theorem dX3_readAt_40 : decode cX3_readAt 40 = .ok (.getfield 9, 3) := by decide +kernel
theorem dX3_readAt_43 : decode cX3_readAt 43 = .ok (.iload_n 1, 1) := by decide +kernel
theorem dX3_readAt_44 : decode cX3_readAt 44 = .ok (.iaload, 1) := by decide +kernel
theorem dX3_readAt_45 : decode cX3_readAt 45 = .ok (.aload_n 0, 1) := by decide +kernel
theorem dX3_readAt_46 : decode cX3_readAt 46 = .ok (.getfield 15, 3) := by decide +kernel
theorem dX3_readAt_49 : decode cX3_readAt 49 = .ok (.iload_n 1, 1) := by decide +kernel
theorem dX3_readAt_50 : decode cX3_readAt 50 = .ok (.iaload, 1) := by decide +kernel
theorem dX3_readAt_51 : decode cX3_readAt 51 = .ok (.ior, 1) := by decide +kernel
theorem dX3_readAt_52 : decode cX3_readAt 52 = .ok (.iload 5, 2) := by decide +kernel
theorem dX3_readAt_54 : decode cX3_readAt 54 = .ok (.iand, 1) := by decide +kernel
theorem dX3_readAt_55 : decode cX3_readAt 55 = .ok (.aload_n 0, 1) := by decide +kernel
theorem dX3_readAt_56 : decode cX3_readAt 56 = .ok (.getfield 15, 3) := by decide +kernel
theorem dX3_readAt_59 : decode cX3_readAt 59 = .ok (.iload_n 1, 1) := by decide +kernel
theorem dX3_readAt_60 : decode cX3_readAt 60 = .ok (.iaload, 1) := by decide +kernel
theorem dX3_readAt_61 : decode cX3_readAt 61 = .ok (.iload 6, 2) := by decide +kernel
theorem dX3_readAt_63 : decode cX3_readAt 63 = .ok (.iand, 1) := by decide +kernel
theorem dX3_readAt_64 : decode cX3_readAt 64 = .ok (.ior, 1) := by decide +kernel
theorem dX3_readAt_65 : decode cX3_readAt 65 = .ok (.aload_n 0, 1) := by decide +kernel
theorem dX3_readAt_66 : decode cX3_readAt 66 = .ok (.getfield 9, 3) := by decide +kernel
theorem dX3_readAt_69 : decode cX3_readAt 69 = .ok (.iload_n 1, 1) := by decide +kernel
theorem dX3_readAt_70 : decode cX3_readAt 70 = .ok (.iaload, 1) := by decide +kernel
theorem dX3_readAt_71 : decode cX3_readAt 71 = .ok (.aload_n 0, 1) := by decide +kernel
theorem dX3_readAt_72 : decode cX3_readAt 72 = .ok (.getfield 15, 3) := by decide +kernel
theorem dX3_readAt_75 : decode cX3_readAt 75 = .ok (.iload_n 1, 1) := by decide +kernel
theorem dX3_readAt_76 : decode cX3_readAt 76 = .ok (.iaload, 1) := by decide +kernel
theorem dX3_readAt_77 : decode cX3_readAt 77 = .ok (.iand, 1) := by decide +kernel
theorem dX3_readAt_78 : decode cX3_readAt 78 = .ok (.iload 7, 2) := by decide +kernel
theorem dX3_readAt_80 : decode cX3_readAt 80 = .ok (.iand, 1) := by decide +kernel
theorem dX3_readAt_81 : decode cX3_readAt 81 = .ok (.ior, 1) := by decide +kernel
theorem dX3_readAt_82 : decode cX3_readAt 82 = .ok (.ireturn, 1) := by decide +kernel
theorem dX3_readsThrice_0 : decode cX3_readsThrice 0 = .ok (.aload_n 0, 1) := by decide +kernel
theorem dX3_readsThrice_1 : decode cX3_readsThrice 1 = .ok (.getfield 18, 3) := by decide +kernel
theorem dX3_readsThrice_4 : decode cX3_readsThrice 4 = .ok (.iconst 0, 1) := by decide +kernel
theorem dX3_readsThrice_5 : decode cX3_readsThrice 5 = .ok (.iaload, 1) := by decide +kernel
theorem dX3_readsThrice_6 : decode cX3_readsThrice 6 = .ok (.iconst 1, 1) := by decide +kernel
theorem dX3_readsThrice_7 : decode cX3_readsThrice 7 = .ok (.if_icmp .ne 7, 3) := by decide +kernel
theorem dX3_readsThrice_10 : decode cX3_readsThrice 10 = .ok (.iconst 1, 1) := by decide +kernel
theorem dX3_readsThrice_11 : decode cX3_readsThrice 11 = .ok (.goto 4, 3) := by decide +kernel
theorem dX3_readsThrice_14 : decode cX3_readsThrice 14 = .ok (.iconst 0, 1) := by decide +kernel
theorem dX3_readsThrice_15 : decode cX3_readsThrice 15 = .ok (.ireturn, 1) := by decide +kernel
theorem dX3_read_0 : decode cX3_read 0 = .ok (.aload_n 0, 1) := by decide +kernel
theorem dX3_read_1 : decode cX3_read 1 = .ok (.iload_n 1, 1) := by decide +kernel
theorem dX3_read_2 : decode cX3_read 2 = .ok (.aload_n 0, 1) := by decide +kernel
theorem dX3_read_3 : decode cX3_read 3 = .ok (.getfield 27, 3) := by decide +kernel
theorem dX3_read_6 : decode cX3_read 6 = .ok (.aload_n 0, 1) := by decide +kernel
theorem dX3_read_7 : decode cX3_read 7 = .ok (.invokevirtual 40, 3) := by decide +kernel
theorem dX3_read_10 : decode cX3_read 10 = .ok (.invokevirtual 44, 3) := by decide +kernel
theorem dX3_read_13 : decode cX3_read 13 = .ok (.ireturn, 1) := by decide +kernel
theorem dX3_kind_0 : decode cX3_kind 0 = .ok (.aload_n 0, 1) := by decide +kernel
theorem dX3_kind_1 : decode cX3_kind 1 = .ok (.iload_n 1, 1) := by decide +kernel
theorem dX3_kind_2 : decode cX3_kind 2 = .ok (.invokevirtual 48, 3) := by decide +kernel
theorem dX3_kind_5 : decode cX3_kind 5 = .ok (.invokestatic 52, 3) := by decide +kernel
theorem dX3_kind_8 : decode cX3_kind 8 = .ok (.ireturn, 1) := by decide +kernel
theorem dX3_isLocked_0 : decode cX3_isLocked 0 = .ok (.aload_n 0, 1) := by decide +kernel
theorem dX3_isLocked_1 : decode cX3_isLocked 1 = .ok (.iload_n 1, 1) := by decide +kernel
theorem dX3_isLocked_2 : decode cX3_isLocked 2 = .ok (.aload_n 0, 1) := by decide +kernel
theorem dX3_isLocked_3 : decode cX3_isLocked 3 = .ok (.getfield 27, 3) := by decide +kernel
theorem dX3_isLocked_6 : decode cX3_isLocked 6 = .ok (.iconst 1, 1) := by decide +kernel
theorem dX3_isLocked_7 : decode cX3_isLocked 7 = .ok (.invokevirtual 44, 3) := by decide +kernel
theorem dX3_isLocked_10 : decode cX3_isLocked 10 = .ok (.bipush 15, 2) := by decide +kernel
theorem dX3_isLocked_12 : decode cX3_isLocked 12 = .ok (.ishr, 1) := by decide +kernel
theorem dX3_isLocked_13 : decode cX3_isLocked 13 = .ok (.iconst 1, 1) := by decide +kernel
theorem dX3_isLocked_14 : decode cX3_isLocked 14 = .ok (.iand, 1) := by decide +kernel
theorem dX3_isLocked_15 : decode cX3_isLocked 15 = .ok (.iconst 1, 1) := by decide +kernel
theorem dX3_isLocked_16 : decode cX3_isLocked 16 = .ok (.if_icmp .ne 7, 3) := by decide +kernel
theorem dX3_isLocked_19 : decode cX3_isLocked 19 = .ok (.iconst 1, 1) := by decide +kernel
theorem dX3_isLocked_20 : decode cX3_isLocked 20 = .ok (.goto 4, 3) := by decide +kernel
theorem dX3_isLocked_23 : decode cX3_isLocked 23 = .ok (.iconst 0, 1) := by decide +kernel
theorem dX3_isLocked_24 : decode cX3_isLocked 24 = .ok (.ireturn, 1) := by decide +kernel
theorem dX3_doubtfulFuses_0 : decode cX3_doubtfulFuses 0 = .ok (.aload_n 0, 1) := by decide +kernel
theorem dX3_doubtfulFuses_1 : decode cX3_doubtfulFuses 1 = .ok (.getfield 9, 3) := by decide +kernel
theorem dX3_doubtfulFuses_4 : decode cX3_doubtfulFuses 4 = .ok (.iload_n 1, 1) := by decide +kernel
theorem dX3_doubtfulFuses_5 : decode cX3_doubtfulFuses 5 = .ok (.iaload, 1) := by decide +kernel
theorem dX3_doubtfulFuses_6 : decode cX3_doubtfulFuses 6 = .ok (.aload_n 0, 1) := by decide +kernel
theorem dX3_doubtfulFuses_7 : decode cX3_doubtfulFuses 7 = .ok (.getfield 15, 3) := by decide +kernel
theorem dX3_doubtfulFuses_10 : decode cX3_doubtfulFuses 10 = .ok (.iload_n 1, 1) := by decide +kernel
theorem dX3_doubtfulFuses_11 : decode cX3_doubtfulFuses 11 = .ok (.iaload, 1) := by decide +kernel
theorem dX3_doubtfulFuses_12 : decode cX3_doubtfulFuses 12 = .ok (.ixor, 1) := by decide +kernel
theorem dX3_doubtfulFuses_13 : decode cX3_doubtfulFuses 13 = .ok (.invokestatic 57, 3) := by decide +kernel
theorem dX3_doubtfulFuses_16 : decode cX3_doubtfulFuses 16 = .ok (.ireturn, 1) := by decide +kernel
theorem dX3_strengthSum_0 : decode cX3_strengthSum 0 = .ok (.aload_n 0, 1) := by decide +kernel
theorem dX3_strengthSum_1 : decode cX3_strengthSum 1 = .ok (.getfield 9, 3) := by decide +kernel
theorem dX3_strengthSum_4 : decode cX3_strengthSum 4 = .ok (.iload_n 1, 1) := by decide +kernel
theorem dX3_strengthSum_5 : decode cX3_strengthSum 5 = .ok (.iaload, 1) := by decide +kernel
theorem dX3_strengthSum_6 : decode cX3_strengthSum 6 = .ok (.invokestatic 57, 3) := by decide +kernel
theorem dX3_strengthSum_9 : decode cX3_strengthSum 9 = .ok (.iconst 2, 1) := by decide +kernel
theorem dX3_strengthSum_10 : decode cX3_strengthSum 10 = .ok (.aload_n 0, 1) := by decide +kernel
theorem dX3_strengthSum_11 : decode cX3_strengthSum 11 = .ok (.getfield 15, 3) := by decide +kernel
theorem dX3_strengthSum_14 : decode cX3_strengthSum 14 = .ok (.iload_n 1, 1) := by decide +kernel
theorem dX3_strengthSum_15 : decode cX3_strengthSum 15 = .ok (.iaload, 1) := by decide +kernel
theorem dX3_strengthSum_16 : decode cX3_strengthSum 16 = .ok (.invokestatic 57, 3) := by decide +kernel
theorem dX3_strengthSum_19 : decode cX3_strengthSum 19 = .ok (.imul, 1) := by decide +kernel
theorem dX3_strengthSum_20 : decode cX3_strengthSum 20 = .ok (.iadd, 1) := by decide +kernel
theorem dX3_strengthSum_21 : decode cX3_strengthSum 21 = .ok (.ireturn, 1) := by decide +kernel
theorem dX3_allDoubtfulFuses_0 : decode cX3_allDoubtfulFuses 0 = .ok (.iconst 0, 1) := by decide +kernel
theorem dX3_allDoubtfulFuses_1 : decode cX3_allDoubtfulFuses 1 = .ok (.istore_n 1, 1) := by decide +kernel
theorem dX3_allDoubtfulFuses_2 : decode cX3_allDoubtfulFuses 2 = .ok (.iconst 0, 1) := by decide +kernel
theorem dX3_allDoubtfulFuses_3 : decode cX3_allDoubtfulFuses 3 = .ok (.istore_n 2, 1) := by decide +kernel
theorem dX3_allDoubtfulFuses_4 : decode cX3_allDoubtfulFuses 4 = .ok (.iload_n 2, 1) := by decide +kernel
theorem dX3_allDoubtfulFuses_5 : decode cX3_allDoubtfulFuses 5 = .ok (.bipush 20, 2) := by decide +kernel
theorem dX3_allDoubtfulFuses_7 : decode cX3_allDoubtfulFuses 7 = .ok (.if_icmp .ge 17, 3) := by decide +kernel
theorem dX3_allDoubtfulFuses_10 : decode cX3_allDoubtfulFuses 10 = .ok (.iload_n 1, 1) := by decide +kernel
theorem dX3_allDoubtfulFuses_11 : decode cX3_allDoubtfulFuses 11 = .ok (.aload_n 0, 1) := by decide +kernel
theorem dX3_allDoubtfulFuses_12 : decode cX3_allDoubtfulFuses 12 = .ok (.iload_n 2, 1) := by decide +kernel
theorem dX3_allDoubtfulFuses_13 : decode cX3_allDoubtfulFuses 13 = .ok (.invokevirtual 62, 3) := by decide +kernel
theorem dX3_allDoubtfulFuses_16 : decode cX3_allDoubtfulFuses 16 = .ok (.iadd, 1) := by decide +kernel
theorem dX3_allDoubtfulFuses_17 : decode cX3_allDoubtfulFuses 17 = .ok (.istore_n 1, 1) := by decide +kernel
theorem dX3_allDoubtfulFuses_18 : decode cX3_allDoubtfulFuses 18 = .ok (.iinc 2 1, 3) := by decide +kernel
theorem dX3_allDoubtfulFuses_21 : decode cX3_allDoubtfulFuses 21 = .ok (.goto (-17), 3) := by decide +kernel
theorem dX3_allDoubtfulFuses_24 : decode cX3_allDoubtfulFuses 24 = .ok (.iload_n 1, 1) := by decide +kernel
theorem dX3_allDoubtfulFuses_25 : decode cX3_allDoubtfulFuses 25 = .ok (.ireturn, 1) := by decide +kernel
theorem dX3_lockedRows_0 : decode cX3_lockedRows 0 = .ok (.iconst 0, 1) := by decide +kernel
theorem dX3_lockedRows_1 : decode cX3_lockedRows 1 = .ok (.istore_n 1, 1) := by decide +kernel
theorem dX3_lockedRows_2 : decode cX3_lockedRows 2 = .ok (.iconst 0, 1) := by decide +kernel
theorem dX3_lockedRows_3 : decode cX3_lockedRows 3 = .ok (.istore_n 2, 1) := by decide +kernel
theorem dX3_lockedRows_4 : decode cX3_lockedRows 4 = .ok (.iload_n 2, 1) := by decide +kernel
theorem dX3_lockedRows_5 : decode cX3_lockedRows 5 = .ok (.bipush 20, 2) := by decide +kernel
theorem dX3_lockedRows_7 : decode cX3_lockedRows 7 = .ok (.if_icmp .ge 25, 3) := by decide +kernel
theorem dX3_lockedRows_10 : decode cX3_lockedRows 10 = .ok (.iload_n 1, 1) := by decide +kernel
theorem dX3_lockedRows_11 : decode cX3_lockedRows 11 = .ok (.aload_n 0, 1) := by decide +kernel
theorem dX3_lockedRows_12 : decode cX3_lockedRows 12 = .ok (.iload_n 2, 1) := by decide +kernel
theorem dX3_lockedRows_13 : decode cX3_lockedRows 13 = .ok (.invokevirtual 65, 3) := by decide +kernel
theorem dX3_lockedRows_16 : decode cX3_lockedRows 16 = .ok (.ifCond .eq 7, 3) := by decide +kernel
theorem dX3_lockedRows_19 : decode cX3_lockedRows 19 = .ok (.iconst 1, 1) := by decide +kernel
theorem dX3_lockedRows_20 : decode cX3_lockedRows 20 = .ok (.goto 4, 3) := by decide +kernel
theorem dX3_lockedRows_23 : decode cX3_lockedRows 23 = .ok (.iconst 0, 1) := by decide +kernel
theorem dX3_lockedRows_24 : decode cX3_lockedRows 24 = .ok (.iadd, 1) := by decide +kernel
theorem dX3_lockedRows_25 : decode cX3_lockedRows 25 = .ok (.istore_n 1, 1) := by decide +kernel
theorem dX3_lockedRows_26 : decode cX3_lockedRows 26 = .ok (.iinc 2 1, 3) := by decide +kernel
theorem dX3_lockedRows_29 : decode cX3_lockedRows 29 = .ok (.goto (-25), 3) := by decide +kernel
theorem dX3_lockedRows_32 : decode cX3_lockedRows 32 = .ok (.iload_n 1, 1) := by decide +kernel
theorem dX3_lockedRows_33 : decode cX3_lockedRows 33 = .ok (.ireturn, 1) := by decide +kernel
theorem dX3_rowsOfKind_0 : decode cX3_rowsOfKind 0 = .ok (.iconst 0, 1) := by decide +kernel
theorem dX3_rowsOfKind_1 : decode cX3_rowsOfKind 1 = .ok (.istore_n 2, 1) := by decide +kernel
theorem dX3_rowsOfKind_2 : decode cX3_rowsOfKind 2 = .ok (.iconst 0, 1) := by decide +kernel
theorem dX3_rowsOfKind_3 : decode cX3_rowsOfKind 3 = .ok (.istore_n 3, 1) := by decide +kernel
theorem dX3_rowsOfKind_4 : decode cX3_rowsOfKind 4 = .ok (.iload_n 3, 1) := by decide +kernel
theorem dX3_rowsOfKind_5 : decode cX3_rowsOfKind 5 = .ok (.bipush 20, 2) := by decide +kernel
theorem dX3_rowsOfKind_7 : decode cX3_rowsOfKind 7 = .ok (.if_icmp .ge 26, 3) := by decide +kernel
theorem dX3_rowsOfKind_10 : decode cX3_rowsOfKind 10 = .ok (.iload_n 2, 1) := by decide +kernel
theorem dX3_rowsOfKind_11 : decode cX3_rowsOfKind 11 = .ok (.aload_n 0, 1) := by decide +kernel
theorem dX3_rowsOfKind_12 : decode cX3_rowsOfKind 12 = .ok (.iload_n 3, 1) := by decide +kernel
theorem dX3_rowsOfKind_13 : decode cX3_rowsOfKind 13 = .ok (.invokevirtual 69, 3) := by decide +kernel
theorem dX3_rowsOfKind_16 : decode cX3_rowsOfKind 16 = .ok (.iload_n 1, 1) := by decide +kernel
theorem dX3_rowsOfKind_17 : decode cX3_rowsOfKind 17 = .ok (.if_icmp .ne 7, 3) := by decide +kernel
theorem dX3_rowsOfKind_20 : decode cX3_rowsOfKind 20 = .ok (.iconst 1, 1) := by decide +kernel
theorem dX3_rowsOfKind_21 : decode cX3_rowsOfKind 21 = .ok (.goto 4, 3) := by decide +kernel
theorem dX3_rowsOfKind_24 : decode cX3_rowsOfKind 24 = .ok (.iconst 0, 1) := by decide +kernel
theorem dX3_rowsOfKind_25 : decode cX3_rowsOfKind 25 = .ok (.iadd, 1) := by decide +kernel
theorem dX3_rowsOfKind_26 : decode cX3_rowsOfKind 26 = .ok (.istore_n 2, 1) := by decide +kernel
theorem dX3_rowsOfKind_27 : decode cX3_rowsOfKind 27 = .ok (.iinc 3 1, 3) := by decide +kernel
theorem dX3_rowsOfKind_30 : decode cX3_rowsOfKind 30 = .ok (.goto (-26), 3) := by decide +kernel
theorem dX3_rowsOfKind_33 : decode cX3_rowsOfKind 33 = .ok (.iload_n 2, 1) := by decide +kernel
theorem dX3_rowsOfKind_34 : decode cX3_rowsOfKind 34 = .ok (.ireturn, 1) := by decide +kernel
theorem dX3_nextRow_0 : decode cX3_nextRow 0 = .ok (.bipush 20, 2) := by decide +kernel
theorem dX3_nextRow_2 : decode cX3_nextRow 2 = .ok (.istore_n 1, 1) := by decide +kernel
theorem dX3_nextRow_3 : decode cX3_nextRow 3 = .ok (.iload_n 1, 1) := by decide +kernel
theorem dX3_nextRow_4 : decode cX3_nextRow 4 = .ok (.ifCond .le 19, 3) := by decide +kernel
theorem dX3_nextRow_7 : decode cX3_nextRow 7 = .ok (.aload_n 0, 1) := by decide +kernel
theorem dX3_nextRow_8 : decode cX3_nextRow 8 = .ok (.iload_n 1, 1) := by decide +kernel
theorem dX3_nextRow_9 : decode cX3_nextRow 9 = .ok (.iconst 1, 1) := by decide +kernel
theorem dX3_nextRow_10 : decode cX3_nextRow 10 = .ok (.isub, 1) := by decide +kernel
theorem dX3_nextRow_11 : decode cX3_nextRow 11 = .ok (.invokevirtual 69, 3) := by decide +kernel
theorem dX3_nextRow_14 : decode cX3_nextRow 14 = .ok (.ifCond .ne 9, 3) := by decide +kernel
theorem dX3_nextRow_17 : decode cX3_nextRow 17 = .ok (.iinc 1 (-1), 3) := by decide +kernel
theorem dX3_nextRow_20 : decode cX3_nextRow 20 = .ok (.goto (-17), 3) := by decide +kernel
theorem dX3_nextRow_23 : decode cX3_nextRow 23 = .ok (.iload_n 1, 1) := by decide +kernel
theorem dX3_nextRow_24 : decode cX3_nextRow 24 = .ok (.bipush 20, 2) := by decide +kernel
theorem dX3_nextRow_26 : decode cX3_nextRow 26 = .ok (.if_icmp .eq 11, 3) := by decide +kernel
theorem dX3_nextRow_29 : decode cX3_nextRow 29 = .ok (.aload_n 0, 1) := by decide +kernel
theorem dX3_nextRow_30 : decode cX3_nextRow 30 = .ok (.iload_n 1, 1) := by decide +kernel
theorem dX3_nextRow_31 : decode cX3_nextRow 31 = .ok (.invokevirtual 65, 3) := by decide +kernel
theorem dX3_nextRow_34 : decode cX3_nextRow 34 = .ok (.ifCond .eq 7, 3) := by decide +kernel
theorem dX3_nextRow_37 : decode cX3_nextRow 37 = .ok (.iconst (-1), 1) := by decide +kernel
theorem dX3_nextRow_38 : decode cX3_nextRow 38 = .ok (.goto 4, 3) := by decide +kernel
theorem dX3_nextRow_41 : decode cX3_nextRow 41 = .ok (.iload_n 1, 1) := by decide +kernel
theorem dX3_nextRow_42 : decode cX3_nextRow 42 = .ok (.ireturn, 1) := by decide +kernel
theorem dX3_isRowOf_0 : decode cX3_isRowOf 0 = .ok (.aload_n 0, 1) := by decide +kernel
theorem dX3_isRowOf_1 : decode cX3_isRowOf 1 = .ok (.iload_n 1, 1) := by decide +kernel
theorem dX3_isRowOf_2 : decode cX3_isRowOf 2 = .ok (.invokevirtual 48, 3) := by decide +kernel
theorem dX3_isRowOf_5 : decode cX3_isRowOf 5 = .ok (.istore_n 3, 1) := by decide +kernel
theorem dX3_isRowOf_6 : decode cX3_isRowOf 6 = .ok (.iload_n 3, 1) := by decide +kernel
theorem dX3_isRowOf_7 : decode cX3_isRowOf 7 = .ok (.invokestatic 52, 3) := by decide +kernel
theorem dX3_isRowOf_10 : decode cX3_isRowOf 10 = .ok (.istore 4, 2) := by decide +kernel
theorem dX3_isRowOf_12 : decode cX3_isRowOf 12 = .ok (.iload 4, 2) := by decide +kernel
theorem dX3_isRowOf_14 : decode cX3_isRowOf 14 = .ok (.iconst 4, 1) := by decide +kernel
theorem dX3_isRowOf_15 : decode cX3_isRowOf 15 = .ok (.if_icmp .eq 9, 3) := by decide +kernel
theorem dX3_isRowOf_18 : decode cX3_isRowOf 18 = .ok (.iload 4, 2) := by decide +kernel
theorem dX3_isRowOf_20 : decode cX3_isRowOf 20 = .ok (.iconst 2, 1) := by decide +kernel
theorem dX3_isRowOf_21 : decode cX3_isRowOf 21 = .ok (.if_icmp .ne 15, 3) := by decide +kernel
theorem dX3_isRowOf_24 : decode cX3_isRowOf 24 = .ok (.iload_n 3, 1) := by decide +kernel
theorem dX3_isRowOf_25 : decode cX3_isRowOf 25 = .ok (.invokestatic 72, 3) := by decide +kernel
theorem dX3_isRowOf_28 : decode cX3_isRowOf 28 = .ok (.iload_n 2, 1) := by decide +kernel
theorem dX3_isRowOf_29 : decode cX3_isRowOf 29 = .ok (.if_icmp .ne 7, 3) := by decide +kernel
theorem dX3_isRowOf_32 : decode cX3_isRowOf 32 = .ok (.iconst 1, 1) := by decide +kernel
theorem dX3_isRowOf_33 : decode cX3_isRowOf 33 = .ok (.goto 4, 3) := by decide +kernel
theorem dX3_isRowOf_36 : decode cX3_isRowOf 36 = .ok (.iconst 0, 1) := by decide +kernel
theorem dX3_isRowOf_37 : decode cX3_isRowOf 37 = .ok (.ireturn, 1) := by decide +kernel
theorem dX3_entryRow_0 : decode cX3_entryRow 0 = .ok (.bipush 19, 2) := by decide +kernel
theorem dX3_entryRow_2 : decode cX3_entryRow 2 = .ok (.istore 4, 2) := by decide +kernel
theorem dX3_entryRow_4 : decode cX3_entryRow 4 = .ok (.iload 4, 2) := by decide +kernel
theorem dX3_entryRow_6 : decode cX3_entryRow 6 = .ok (.ifCond .lt 40, 3) := by decide +kernel
theorem dX3_entryRow_9 : decode cX3_entryRow 9 = .ok (.aload_n 0, 1) := by decide +kernel
theorem dX3_entryRow_10 : decode cX3_entryRow 10 = .ok (.iload 4, 2) := by decide +kernel
theorem dX3_entryRow_12 : decode cX3_entryRow 12 = .ok (.iload_n 2, 1) := by decide +kernel
theorem dX3_entryRow_13 : decode cX3_entryRow 13 = .ok (.iload_n 3, 1) := by decide +kernel
theorem dX3_entryRow_14 : decode cX3_entryRow 14 = .ok (.invokevirtual 44, 3) := by decide +kernel
theorem dX3_entryRow_17 : decode cX3_entryRow 17 = .ok (.istore 5, 2) := by decide +kernel
theorem dX3_entryRow_19 : decode cX3_entryRow 19 = .ok (.iload 5, 2) := by decide +kernel
theorem dX3_entryRow_21 : decode cX3_entryRow 21 = .ok (.invokestatic 72, 3) := by decide +kernel
theorem dX3_entryRow_24 : decode cX3_entryRow 24 = .ok (.iload_n 1, 1) := by decide +kernel
theorem dX3_entryRow_25 : decode cX3_entryRow 25 = .ok (.if_icmp .ne 15, 3) := by decide +kernel
theorem dX3_entryRow_28 : decode cX3_entryRow 28 = .ok (.iload 5, 2) := by decide +kernel
theorem dX3_entryRow_30 : decode cX3_entryRow 30 = .ok (.invokestatic 52, 3) := by decide +kernel
theorem dX3_entryRow_33 : decode cX3_entryRow 33 = .ok (.iconst 4, 1) := by decide +kernel
theorem dX3_entryRow_34 : decode cX3_entryRow 34 = .ok (.if_icmp .ne 6, 3) := by decide +kernel
theorem dX3_entryRow_37 : decode cX3_entryRow 37 = .ok (.iload 4, 2) := by decide +kernel
theorem dX3_entryRow_39 : decode cX3_entryRow 39 = .ok (.ireturn, 1) := by decide +kernel
theorem dX3_entryRow_40 : decode cX3_entryRow 40 = .ok (.iinc 4 (-1), 3) := by decide +kernel
theorem dX3_entryRow_43 : decode cX3_entryRow 43 = .ok (.goto (-39), 3) := by decide +kernel
theorem dX3_entryRow_46 : decode cX3_entryRow 46 = .ok (.iconst (-1), 1) := by decide +kernel
theorem dX3_entryRow_47 : decode cX3_entryRow 47 = .ok (.ireturn, 1) := by decide +kernel
theorem dX3_valueAt_0 : decode cX3_valueAt 0 = .ok (.aload_n 0, 1) := by decide +kernel
theorem dX3_valueAt_1 : decode cX3_valueAt 1 = .ok (.iload_n 1, 1) := by decide +kernel
theorem dX3_valueAt_2 : decode cX3_valueAt 2 = .ok (.iload_n 2, 1) := by decide +kernel
theorem dX3_valueAt_3 : decode cX3_valueAt 3 = .ok (.iload_n 3, 1) := by decide +kernel
theorem dX3_valueAt_4 : decode cX3_valueAt 4 = .ok (.invokevirtual 75, 3) := by decide +kernel
theorem dX3_valueAt_7 : decode cX3_valueAt 7 = .ok (.istore 4, 2) := by decide +kernel
theorem dX3_valueAt_9 : decode cX3_valueAt 9 = .ok (.iload 4, 2) := by decide +kernel
theorem dX3_valueAt_11 : decode cX3_valueAt 11 = .ok (.iconst (-1), 1) := by decide +kernel
theorem dX3_valueAt_12 : decode cX3_valueAt 12 = .ok (.if_icmp .ne 7, 3) := by decide +kernel
theorem dX3_valueAt_15 : decode cX3_valueAt 15 = .ok (.iconst (-1), 1) := by decide +kernel
theorem dX3_valueAt_16 : decode cX3_valueAt 16 = .ok (.goto 14, 3) := by decide +kernel
theorem dX3_valueAt_19 : decode cX3_valueAt 19 = .ok (.aload_n 0, 1) := by decide +kernel
theorem dX3_valueAt_20 : decode cX3_valueAt 20 = .ok (.iload 4, 2) := by decide +kernel
theorem dX3_valueAt_22 : decode cX3_valueAt 22 = .ok (.iload_n 2, 1) := by decide +kernel
theorem dX3_valueAt_23 : decode cX3_valueAt 23 = .ok (.iload_n 3, 1) := by decide +kernel
theorem dX3_valueAt_24 : decode cX3_valueAt 24 = .ok (.invokevirtual 44, 3) := by decide +kernel
theorem dX3_valueAt_27 : decode cX3_valueAt 27 = .ok (.invokestatic 78, 3) := by decide +kernel
theorem dX3_valueAt_30 : decode cX3_valueAt 30 = .ok (.ireturn, 1) := by decide +kernel
theorem dX3_valueOfKey_0 : decode cX3_valueOfKey 0 = .ok (.aload_n 0, 1) := by decide +kernel
theorem dX3_valueOfKey_1 : decode cX3_valueOfKey 1 = .ok (.iload_n 1, 1) := by decide +kernel
theorem dX3_valueOfKey_2 : decode cX3_valueOfKey 2 = .ok (.aload_n 0, 1) := by decide +kernel
theorem dX3_valueOfKey_3 : decode cX3_valueOfKey 3 = .ok (.getfield 27, 3) := by decide +kernel
theorem dX3_valueOfKey_6 : decode cX3_valueOfKey 6 = .ok (.aload_n 0, 1) := by decide +kernel
theorem dX3_valueOfKey_7 : decode cX3_valueOfKey 7 = .ok (.invokevirtual 40, 3) := by decide +kernel
theorem dX3_valueOfKey_10 : decode cX3_valueOfKey 10 = .ok (.invokevirtual 81, 3) := by decide +kernel
theorem dX3_valueOfKey_13 : decode cX3_valueOfKey 13 = .ok (.ireturn, 1) := by decide +kernel
theorem dX3_keysWithValue_0 : decode cX3_keysWithValue 0 = .ok (.iconst 0, 1) := by decide +kernel
theorem dX3_keysWithValue_1 : decode cX3_keysWithValue 1 = .ok (.istore_n 1, 1) := by decide +kernel
theorem dX3_keysWithValue_2 : decode cX3_keysWithValue 2 = .ok (.iconst 0, 1) := by decide +kernel
theorem dX3_keysWithValue_3 : decode cX3_keysWithValue 3 = .ok (.istore_n 2, 1) := by decide +kernel
theorem dX3_keysWithValue_4 : decode cX3_keysWithValue 4 = .ok (.iload_n 2, 1) := by decide +kernel
theorem dX3_keysWithValue_5 : decode cX3_keysWithValue 5 = .ok (.bipush 16, 2) := by decide +kernel
theorem dX3_keysWithValue_7 : decode cX3_keysWithValue 7 = .ok (.if_icmp .ge 34, 3) := by decide +kernel
theorem dX3_keysWithValue_10 : decode cX3_keysWithValue 10 = .ok (.iload_n 1, 1) := by decide +kernel
theorem dX3_keysWithValue_11 : decode cX3_keysWithValue 11 = .ok (.aload_n 0, 1) := by decide +kernel
theorem dX3_keysWithValue_12 : decode cX3_keysWithValue 12 = .ok (.iload_n 2, 1) := by decide +kernel
theorem dX3_keysWithValue_13 : decode cX3_keysWithValue 13 = .ok (.aload_n 0, 1) := by decide +kernel
theorem dX3_keysWithValue_14 : decode cX3_keysWithValue 14 = .ok (.getfield 27, 3) := by decide +kernel
theorem dX3_keysWithValue_17 : decode cX3_keysWithValue 17 = .ok (.aload_n 0, 1) := by decide +kernel
theorem dX3_keysWithValue_18 : decode cX3_keysWithValue 18 = .ok (.invokevirtual 40, 3) := by decide +kernel
theorem dX3_keysWithValue_21 : decode cX3_keysWithValue 21 = .ok (.invokevirtual 75, 3) := by decide +kernel
theorem dX3_keysWithValue_24 : decode cX3_keysWithValue 24 = .ok (.iconst (-1), 1) := by decide +kernel
theorem dX3_keysWithValue_25 : decode cX3_keysWithValue 25 = .ok (.if_icmp .eq 7, 3) := by decide +kernel
theorem dX3_keysWithValue_28 : decode cX3_keysWithValue 28 = .ok (.iconst 1, 1) := by decide +kernel
theorem dX3_keysWithValue_29 : decode cX3_keysWithValue 29 = .ok (.goto 4, 3) := by decide +kernel
theorem dX3_keysWithValue_32 : decode cX3_keysWithValue 32 = .ok (.iconst 0, 1) := by decide +kernel
theorem dX3_keysWithValue_33 : decode cX3_keysWithValue 33 = .ok (.iadd, 1) := by decide +kernel
theorem dX3_keysWithValue_34 : decode cX3_keysWithValue 34 = .ok (.istore_n 1, 1) := by decide +kernel
theorem dX3_keysWithValue_35 : decode cX3_keysWithValue 35 = .ok (.iinc 2 1, 3) := by decide +kernel
theorem dX3_keysWithValue_38 : decode cX3_keysWithValue 38 = .ok (.goto (-34), 3) := by decide +kernel
theorem dX3_keysWithValue_41 : decode cX3_keysWithValue 41 = .ok (.iload_n 1, 1) := by decide +kernel
theorem dX3_keysWithValue_42 : decode cX3_keysWithValue 42 = .ok (.ireturn, 1) := by decide +kernel
theorem dX3_entriesOf_0 : decode cX3_entriesOf 0 = .ok (.iconst 0, 1) := by decide +kernel
theorem dX3_entriesOf_1 : decode cX3_entriesOf 1 = .ok (.istore_n 2, 1) := by decide +kernel
theorem dX3_entriesOf_2 : decode cX3_entriesOf 2 = .ok (.iconst 0, 1) := by decide +kernel
theorem dX3_entriesOf_3 : decode cX3_entriesOf 3 = .ok (.istore_n 3, 1) := by decide +kernel
theorem dX3_entriesOf_4 : decode cX3_entriesOf 4 = .ok (.iload_n 3, 1) := by decide +kernel
theorem dX3_entriesOf_5 : decode cX3_entriesOf 5 = .ok (.bipush 20, 2) := by decide +kernel
theorem dX3_entriesOf_7 : decode cX3_entriesOf 7 = .ok (.if_icmp .ge 42, 3) := by decide +kernel
theorem dX3_entriesOf_10 : decode cX3_entriesOf 10 = .ok (.aload_n 0, 1) := by decide +kernel
theorem dX3_entriesOf_11 : decode cX3_entriesOf 11 = .ok (.iload_n 3, 1) := by decide +kernel
theorem dX3_entriesOf_12 : decode cX3_entriesOf 12 = .ok (.invokevirtual 48, 3) := by decide +kernel
theorem dX3_entriesOf_15 : decode cX3_entriesOf 15 = .ok (.istore 4, 2) := by decide +kernel
theorem dX3_entriesOf_17 : decode cX3_entriesOf 17 = .ok (.iload_n 2, 1) := by decide +kernel
theorem dX3_entriesOf_18 : decode cX3_entriesOf 18 = .ok (.iload 4, 2) := by decide +kernel
theorem dX3_entriesOf_20 : decode cX3_entriesOf 20 = .ok (.invokestatic 72, 3) := by decide +kernel
theorem dX3_entriesOf_23 : decode cX3_entriesOf 23 = .ok (.iload_n 1, 1) := by decide +kernel
theorem dX3_entriesOf_24 : decode cX3_entriesOf 24 = .ok (.if_icmp .ne 16, 3) := by decide +kernel
theorem dX3_entriesOf_27 : decode cX3_entriesOf 27 = .ok (.iload 4, 2) := by decide +kernel
theorem dX3_entriesOf_29 : decode cX3_entriesOf 29 = .ok (.invokestatic 52, 3) := by decide +kernel
theorem dX3_entriesOf_32 : decode cX3_entriesOf 32 = .ok (.iconst 4, 1) := by decide +kernel
theorem dX3_entriesOf_33 : decode cX3_entriesOf 33 = .ok (.if_icmp .ne 7, 3) := by decide +kernel
theorem dX3_entriesOf_36 : decode cX3_entriesOf 36 = .ok (.iconst 1, 1) := by decide +kernel
theorem dX3_entriesOf_37 : decode cX3_entriesOf 37 = .ok (.goto 4, 3) := by decide +kernel
theorem dX3_entriesOf_40 : decode cX3_entriesOf 40 = .ok (.iconst 0, 1) := by decide +kernel
theorem dX3_entriesOf_41 : decode cX3_entriesOf 41 = .ok (.iadd, 1) := by decide +kernel
theorem dX3_entriesOf_42 : decode cX3_entriesOf 42 = .ok (.istore_n 2, 1) := by decide +kernel
theorem dX3_entriesOf_43 : decode cX3_entriesOf 43 = .ok (.iinc 3 1, 3) := by decide +kernel
theorem dX3_entriesOf_46 : decode cX3_entriesOf 46 = .ok (.goto (-42), 3) := by decide +kernel
theorem dX3_entriesOf_49 : decode cX3_entriesOf 49 = .ok (.iload_n 2, 1) := by decide +kernel
theorem dX3_entriesOf_50 : decode cX3_entriesOf 50 = .ok (.ireturn, 1) := by decide +kernel
theorem dX3_rowsOf_0 : decode cX3_rowsOf 0 = .ok (.iconst 0, 1) := by decide +kernel
theorem dX3_rowsOf_1 : decode cX3_rowsOf 1 = .ok (.istore_n 2, 1) := by decide +kernel
theorem dX3_rowsOf_2 : decode cX3_rowsOf 2 = .ok (.iconst 0, 1) := by decide +kernel
theorem dX3_rowsOf_3 : decode cX3_rowsOf 3 = .ok (.istore_n 3, 1) := by decide +kernel
theorem dX3_rowsOf_4 : decode cX3_rowsOf 4 = .ok (.iload_n 3, 1) := by decide +kernel
theorem dX3_rowsOf_5 : decode cX3_rowsOf 5 = .ok (.bipush 20, 2) := by decide +kernel
theorem dX3_rowsOf_7 : decode cX3_rowsOf 7 = .ok (.if_icmp .ge 26, 3) := by decide +kernel
theorem dX3_rowsOf_10 : decode cX3_rowsOf 10 = .ok (.iload_n 2, 1) := by decide +kernel
theorem dX3_rowsOf_11 : decode cX3_rowsOf 11 = .ok (.aload_n 0, 1) := by decide +kernel
theorem dX3_rowsOf_12 : decode cX3_rowsOf 12 = .ok (.iload_n 3, 1) := by decide +kernel
theorem dX3_rowsOf_13 : decode cX3_rowsOf 13 = .ok (.iload_n 1, 1) := by decide +kernel
theorem dX3_rowsOf_14 : decode cX3_rowsOf 14 = .ok (.invokevirtual 84, 3) := by decide +kernel
theorem dX3_rowsOf_17 : decode cX3_rowsOf 17 = .ok (.ifCond .eq 7, 3) := by decide +kernel
theorem dX3_rowsOf_20 : decode cX3_rowsOf 20 = .ok (.iconst 1, 1) := by decide +kernel
theorem dX3_rowsOf_21 : decode cX3_rowsOf 21 = .ok (.goto 4, 3) := by decide +kernel
theorem dX3_rowsOf_24 : decode cX3_rowsOf 24 = .ok (.iconst 0, 1) := by decide +kernel
theorem dX3_rowsOf_25 : decode cX3_rowsOf 25 = .ok (.iadd, 1) := by decide +kernel
theorem dX3_rowsOf_26 : decode cX3_rowsOf 26 = .ok (.istore_n 2, 1) := by decide +kernel
theorem dX3_rowsOf_27 : decode cX3_rowsOf 27 = .ok (.iinc 3 1, 3) := by decide +kernel
theorem dX3_rowsOf_30 : decode cX3_rowsOf 30 = .ok (.goto (-26), 3) := by decide +kernel
theorem dX3_rowsOf_33 : decode cX3_rowsOf 33 = .ok (.iload_n 2, 1) := by decide +kernel
theorem dX3_rowsOf_34 : decode cX3_rowsOf 34 = .ok (.ireturn, 1) := by decide +kernel
theorem dX3_greatestValue_0 : decode cX3_greatestValue 0 = .ok (.iconst (-1), 1) := by decide +kernel
theorem dX3_greatestValue_1 : decode cX3_greatestValue 1 = .ok (.istore_n 2, 1) := by decide +kernel
theorem dX3_greatestValue_2 : decode cX3_greatestValue 2 = .ok (.iconst 0, 1) := by decide +kernel
theorem dX3_greatestValue_3 : decode cX3_greatestValue 3 = .ok (.istore_n 3, 1) := by decide +kernel
theorem dX3_greatestValue_4 : decode cX3_greatestValue 4 = .ok (.iload_n 3, 1) := by decide +kernel
theorem dX3_greatestValue_5 : decode cX3_greatestValue 5 = .ok (.bipush 20, 2) := by decide +kernel
theorem dX3_greatestValue_7 : decode cX3_greatestValue 7 = .ok (.if_icmp .ge 31, 3) := by decide +kernel
theorem dX3_greatestValue_10 : decode cX3_greatestValue 10 = .ok (.aload_n 0, 1) := by decide +kernel
theorem dX3_greatestValue_11 : decode cX3_greatestValue 11 = .ok (.iload_n 3, 1) := by decide +kernel
theorem dX3_greatestValue_12 : decode cX3_greatestValue 12 = .ok (.iload_n 1, 1) := by decide +kernel
theorem dX3_greatestValue_13 : decode cX3_greatestValue 13 = .ok (.invokevirtual 84, 3) := by decide +kernel
theorem dX3_greatestValue_16 : decode cX3_greatestValue 16 = .ok (.ifCond .eq 16, 3) := by decide +kernel
theorem dX3_greatestValue_19 : decode cX3_greatestValue 19 = .ok (.iload_n 2, 1) := by decide +kernel
theorem dX3_greatestValue_20 : decode cX3_greatestValue 20 = .ok (.aload_n 0, 1) := by decide +kernel
theorem dX3_greatestValue_21 : decode cX3_greatestValue 21 = .ok (.iload_n 3, 1) := by decide +kernel
theorem dX3_greatestValue_22 : decode cX3_greatestValue 22 = .ok (.invokevirtual 48, 3) := by decide +kernel
theorem dX3_greatestValue_25 : decode cX3_greatestValue 25 = .ok (.invokestatic 78, 3) := by decide +kernel
theorem dX3_greatestValue_28 : decode cX3_greatestValue 28 = .ok (.invokestatic 88, 3) := by decide +kernel
theorem dX3_greatestValue_31 : decode cX3_greatestValue 31 = .ok (.istore_n 2, 1) := by decide +kernel
theorem dX3_greatestValue_32 : decode cX3_greatestValue 32 = .ok (.iinc 3 1, 3) := by decide +kernel
theorem dX3_greatestValue_35 : decode cX3_greatestValue 35 = .ok (.goto (-31), 3) := by decide +kernel
theorem dX3_greatestValue_38 : decode cX3_greatestValue 38 = .ok (.iload_n 2, 1) := by decide +kernel
theorem dX3_greatestValue_39 : decode cX3_greatestValue 39 = .ok (.ireturn, 1) := by decide +kernel
theorem dX3_earlierValue_0 : decode cX3_earlierValue 0 = .ok (.iload_n 2, 1) := by decide +kernel
theorem dX3_earlierValue_1 : decode cX3_earlierValue 1 = .ok (.istore_n 3, 1) := by decide +kernel
theorem dX3_earlierValue_2 : decode cX3_earlierValue 2 = .ok (.bipush 19, 2) := by decide +kernel
theorem dX3_earlierValue_4 : decode cX3_earlierValue 4 = .ok (.istore 4, 2) := by decide +kernel
theorem dX3_earlierValue_6 : decode cX3_earlierValue 6 = .ok (.iload 4, 2) := by decide +kernel
theorem dX3_earlierValue_8 : decode cX3_earlierValue 8 = .ok (.ifCond .lt 36, 3) := by decide +kernel
theorem dX3_earlierValue_11 : decode cX3_earlierValue 11 = .ok (.aload_n 0, 1) := by decide +kernel
theorem dX3_earlierValue_12 : decode cX3_earlierValue 12 = .ok (.iload 4, 2) := by decide +kernel
theorem dX3_earlierValue_14 : decode cX3_earlierValue 14 = .ok (.iload_n 1, 1) := by decide +kernel
theorem dX3_earlierValue_15 : decode cX3_earlierValue 15 = .ok (.invokevirtual 84, 3) := by decide +kernel
theorem dX3_earlierValue_18 : decode cX3_earlierValue 18 = .ok (.ifCond .eq 20, 3) := by decide +kernel
theorem dX3_earlierValue_21 : decode cX3_earlierValue 21 = .ok (.iload_n 3, 1) := by decide +kernel
theorem dX3_earlierValue_22 : decode cX3_earlierValue 22 = .ok (.ifCond .ne 13, 3) := by decide +kernel
theorem dX3_earlierValue_25 : decode cX3_earlierValue 25 = .ok (.aload_n 0, 1) := by decide +kernel
theorem dX3_earlierValue_26 : decode cX3_earlierValue 26 = .ok (.iload 4, 2) := by decide +kernel
theorem dX3_earlierValue_28 : decode cX3_earlierValue 28 = .ok (.invokevirtual 48, 3) := by decide +kernel
theorem dX3_earlierValue_31 : decode cX3_earlierValue 31 = .ok (.invokestatic 78, 3) := by decide +kernel
theorem dX3_earlierValue_34 : decode cX3_earlierValue 34 = .ok (.ireturn, 1) := by decide +kernel
theorem dX3_earlierValue_35 : decode cX3_earlierValue 35 = .ok (.iinc 3 (-1), 3) := by decide +kernel
theorem dX3_earlierValue_38 : decode cX3_earlierValue 38 = .ok (.iinc 4 (-1), 3) := by decide +kernel
theorem dX3_earlierValue_41 : decode cX3_earlierValue 41 = .ok (.goto (-35), 3) := by decide +kernel
theorem dX3_earlierValue_44 : decode cX3_earlierValue 44 = .ok (.iconst (-1), 1) := by decide +kernel
theorem dX3_earlierValue_45 : decode cX3_earlierValue 45 = .ok (.ireturn, 1) := by decide +kernel
theorem dX3_steadyReadings_0 : decode cX3_steadyReadings 0 = .ok (.aload_n 0, 1) := by decide +kernel
theorem dX3_steadyReadings_1 : decode cX3_steadyReadings 1 = .ok (.iload_n 1, 1) := by decide +kernel
theorem dX3_steadyReadings_2 : decode cX3_steadyReadings 2 = .ok (.aload_n 0, 1) := by decide +kernel
theorem dX3_steadyReadings_3 : decode cX3_steadyReadings 3 = .ok (.getfield 27, 3) := by decide +kernel
theorem dX3_steadyReadings_6 : decode cX3_steadyReadings 6 = .ok (.iconst 1, 1) := by decide +kernel
theorem dX3_steadyReadings_7 : decode cX3_steadyReadings 7 = .ok (.invokevirtual 81, 3) := by decide +kernel
theorem dX3_steadyReadings_10 : decode cX3_steadyReadings 10 = .ok (.istore_n 2, 1) := by decide +kernel
theorem dX3_steadyReadings_11 : decode cX3_steadyReadings 11 = .ok (.iconst 0, 1) := by decide +kernel
theorem dX3_steadyReadings_12 : decode cX3_steadyReadings 12 = .ok (.istore_n 3, 1) := by decide +kernel
theorem dX3_steadyReadings_13 : decode cX3_steadyReadings 13 = .ok (.iconst 0, 1) := by decide +kernel
theorem dX3_steadyReadings_14 : decode cX3_steadyReadings 14 = .ok (.istore 4, 2) := by decide +kernel
theorem dX3_steadyReadings_16 : decode cX3_steadyReadings 16 = .ok (.iload 4, 2) := by decide +kernel
theorem dX3_steadyReadings_18 : decode cX3_steadyReadings 18 = .ok (.iconst 3, 1) := by decide +kernel
theorem dX3_steadyReadings_19 : decode cX3_steadyReadings 19 = .ok (.if_icmp .ge 34, 3) := by decide +kernel
theorem dX3_steadyReadings_22 : decode cX3_steadyReadings 22 = .ok (.iload_n 3, 1) := by decide +kernel
theorem dX3_steadyReadings_23 : decode cX3_steadyReadings 23 = .ok (.aload_n 0, 1) := by decide +kernel
theorem dX3_steadyReadings_24 : decode cX3_steadyReadings 24 = .ok (.iload_n 1, 1) := by decide +kernel
theorem dX3_steadyReadings_25 : decode cX3_steadyReadings 25 = .ok (.aload_n 0, 1) := by decide +kernel
theorem dX3_steadyReadings_26 : decode cX3_steadyReadings 26 = .ok (.getfield 27, 3) := by decide +kernel
theorem dX3_steadyReadings_29 : decode cX3_steadyReadings 29 = .ok (.iload 4, 2) := by decide +kernel
theorem dX3_steadyReadings_31 : decode cX3_steadyReadings 31 = .ok (.iadd, 1) := by decide +kernel
theorem dX3_steadyReadings_32 : decode cX3_steadyReadings 32 = .ok (.iconst 0, 1) := by decide +kernel
theorem dX3_steadyReadings_33 : decode cX3_steadyReadings 33 = .ok (.invokevirtual 81, 3) := by decide +kernel
theorem dX3_steadyReadings_36 : decode cX3_steadyReadings 36 = .ok (.iload_n 2, 1) := by decide +kernel
theorem dX3_steadyReadings_37 : decode cX3_steadyReadings 37 = .ok (.if_icmp .ne 7, 3) := by decide +kernel
theorem dX3_steadyReadings_40 : decode cX3_steadyReadings 40 = .ok (.iconst 1, 1) := by decide +kernel
theorem dX3_steadyReadings_41 : decode cX3_steadyReadings 41 = .ok (.goto 4, 3) := by decide +kernel
theorem dX3_steadyReadings_44 : decode cX3_steadyReadings 44 = .ok (.iconst 0, 1) := by decide +kernel
theorem dX3_steadyReadings_45 : decode cX3_steadyReadings 45 = .ok (.iadd, 1) := by decide +kernel
theorem dX3_steadyReadings_46 : decode cX3_steadyReadings 46 = .ok (.istore_n 3, 1) := by decide +kernel
theorem dX3_steadyReadings_47 : decode cX3_steadyReadings 47 = .ok (.iinc 4 1, 3) := by decide +kernel
theorem dX3_steadyReadings_50 : decode cX3_steadyReadings 50 = .ok (.goto (-34), 3) := by decide +kernel
theorem dX3_steadyReadings_53 : decode cX3_steadyReadings 53 = .ok (.iload_n 3, 1) := by decide +kernel
theorem dX3_steadyReadings_54 : decode cX3_steadyReadings 54 = .ok (.ireturn, 1) := by decide +kernel
theorem dX3_blowFuse_0 : decode cX3_blowFuse 0 = .ok (.aload_n 0, 1) := by decide +kernel
theorem dX3_blowFuse_1 : decode cX3_blowFuse 1 = .ok (.iload_n 1, 1) := by decide +kernel
theorem dX3_blowFuse_2 : decode cX3_blowFuse 2 = .ok (.iload_n 2, 1) := by decide +kernel
theorem dX3_blowFuse_3 : decode cX3_blowFuse 3 = .ok (.invokevirtual 94, 3) := by decide +kernel
theorem dX3_blowFuse_6 : decode cX3_blowFuse 6 = .ok (.iload_n 3, 1) := by decide +kernel
theorem dX3_blowFuse_7 : decode cX3_blowFuse 7 = .ok (.invokestatic 88, 3) := by decide +kernel
theorem dX3_blowFuse_10 : decode cX3_blowFuse 10 = .ok (.istore 4, 2) := by decide +kernel
theorem dX3_blowFuse_12 : decode cX3_blowFuse 12 = .ok (.aload_n 0, 1) := by decide +kernel
theorem dX3_blowFuse_13 : decode cX3_blowFuse 13 = .ok (.getfield 9, 3) := by decide +kernel
theorem dX3_blowFuse_16 : decode cX3_blowFuse 16 = .ok (.iload_n 1, 1) := by decide +kernel
theorem dX3_blowFuse_17 : decode cX3_blowFuse 17 = .ok (.aload_n 0, 1) := by decide +kernel
theorem dX3_blowFuse_18 : decode cX3_blowFuse 18 = .ok (.getfield 9, 3) := by decide +kernel
theorem dX3_blowFuse_21 : decode cX3_blowFuse 21 = .ok (.iload_n 1, 1) := by decide +kernel
theorem dX3_blowFuse_22 : decode cX3_blowFuse 22 = .ok (.iaload, 1) := by decide +kernel
theorem dX3_blowFuse_23 : decode cX3_blowFuse 23 = .ok (.iconst 1, 1) := by decide +kernel
theorem dX3_blowFuse_24 : decode cX3_blowFuse 24 = .ok (.iload_n 2, 1) := by decide +kernel
theorem dX3_blowFuse_25 : decode cX3_blowFuse 25 = .ok (.ishl, 1) := by decide +kernel
theorem dX3_blowFuse_26 : decode cX3_blowFuse 26 = .ok (.iconst (-1), 1) := by decide +kernel
theorem dX3_blowFuse_27 : decode cX3_blowFuse 27 = .ok (.ixor, 1) := by decide +kernel
theorem dX3_blowFuse_28 : decode cX3_blowFuse 28 = .ok (.iand, 1) := by decide +kernel
theorem dX3_blowFuse_29 : decode cX3_blowFuse 29 = .ok (.iload 4, 2) := by decide +kernel
theorem dX3_blowFuse_31 : decode cX3_blowFuse 31 = .ok (.iconst 1, 1) := by decide +kernel
theorem dX3_blowFuse_32 : decode cX3_blowFuse 32 = .ok (.iand, 1) := by decide +kernel
theorem dX3_blowFuse_33 : decode cX3_blowFuse 33 = .ok (.iload_n 2, 1) := by decide +kernel
theorem dX3_blowFuse_34 : decode cX3_blowFuse 34 = .ok (.ishl, 1) := by decide +kernel
theorem dX3_blowFuse_35 : decode cX3_blowFuse 35 = .ok (.ior, 1) := by decide +kernel
theorem dX3_blowFuse_36 : decode cX3_blowFuse 36 = .ok (.iastore, 1) := by decide +kernel
theorem dX3_blowFuse_37 : decode cX3_blowFuse 37 = .ok (.aload_n 0, 1) := by decide +kernel
theorem dX3_blowFuse_38 : decode cX3_blowFuse 38 = .ok (.getfield 15, 3) := by decide +kernel
theorem dX3_blowFuse_41 : decode cX3_blowFuse 41 = .ok (.iload_n 1, 1) := by decide +kernel
theorem dX3_blowFuse_42 : decode cX3_blowFuse 42 = .ok (.aload_n 0, 1) := by decide +kernel
theorem dX3_blowFuse_43 : decode cX3_blowFuse 43 = .ok (.getfield 15, 3) := by decide +kernel
theorem dX3_blowFuse_46 : decode cX3_blowFuse 46 = .ok (.iload_n 1, 1) := by decide +kernel
theorem dX3_blowFuse_47 : decode cX3_blowFuse 47 = .ok (.iaload, 1) := by decide +kernel
theorem dX3_blowFuse_48 : decode cX3_blowFuse 48 = .ok (.iconst 1, 1) := by decide +kernel
theorem dX3_blowFuse_49 : decode cX3_blowFuse 49 = .ok (.iload_n 2, 1) := by decide +kernel
theorem dX3_blowFuse_50 : decode cX3_blowFuse 50 = .ok (.ishl, 1) := by decide +kernel
theorem dX3_blowFuse_51 : decode cX3_blowFuse 51 = .ok (.iconst (-1), 1) := by decide +kernel
theorem dX3_blowFuse_52 : decode cX3_blowFuse 52 = .ok (.ixor, 1) := by decide +kernel
theorem dX3_blowFuse_53 : decode cX3_blowFuse 53 = .ok (.iand, 1) := by decide +kernel
theorem dX3_blowFuse_54 : decode cX3_blowFuse 54 = .ok (.iload 4, 2) := by decide +kernel
theorem dX3_blowFuse_56 : decode cX3_blowFuse 56 = .ok (.iconst 1, 1) := by decide +kernel
theorem dX3_blowFuse_57 : decode cX3_blowFuse 57 = .ok (.ishr, 1) := by decide +kernel
theorem dX3_blowFuse_58 : decode cX3_blowFuse 58 = .ok (.iload_n 2, 1) := by decide +kernel
theorem dX3_blowFuse_59 : decode cX3_blowFuse 59 = .ok (.ishl, 1) := by decide +kernel
theorem dX3_blowFuse_60 : decode cX3_blowFuse 60 = .ok (.ior, 1) := by decide +kernel
theorem dX3_blowFuse_61 : decode cX3_blowFuse 61 = .ok (.iastore, 1) := by decide +kernel
theorem dX3_blowFuse_62 : decode cX3_blowFuse 62 = .ok (.aload_n 0, 1) := by decide +kernel
theorem dX3_blowFuse_63 : decode cX3_blowFuse 63 = .ok (.dup, 1) := by decide +kernel
theorem dX3_blowFuse_64 : decode cX3_blowFuse 64 = .ok (.getfield 31, 3) := by decide +kernel
theorem dX3_blowFuse_67 : decode cX3_blowFuse 67 = .ok (.iload_n 3, 1) := by decide +kernel
theorem dX3_blowFuse_68 : decode cX3_blowFuse 68 = .ok (.iadd, 1) := by decide +kernel
theorem dX3_blowFuse_69 : decode cX3_blowFuse 69 = .ok (.putfield 31, 3) := by decide +kernel
theorem dX3_blowFuse_72 : decode cX3_blowFuse 72 = .ok (.return_, 1) := by decide +kernel
theorem dX3_blowFuses_0 : decode cX3_blowFuses 0 = .ok (.iconst 0, 1) := by decide +kernel
theorem dX3_blowFuses_1 : decode cX3_blowFuses 1 = .ok (.istore 4, 2) := by decide +kernel
theorem dX3_blowFuses_3 : decode cX3_blowFuses 3 = .ok (.iload 4, 2) := by decide +kernel
theorem dX3_blowFuses_5 : decode cX3_blowFuses 5 = .ok (.bipush 16, 2) := by decide +kernel
theorem dX3_blowFuses_7 : decode cX3_blowFuses 7 = .ok (.if_icmp .ge 27, 3) := by decide +kernel
theorem dX3_blowFuses_10 : decode cX3_blowFuses 10 = .ok (.iload_n 2, 1) := by decide +kernel
theorem dX3_blowFuses_11 : decode cX3_blowFuses 11 = .ok (.iload 4, 2) := by decide +kernel
theorem dX3_blowFuses_13 : decode cX3_blowFuses 13 = .ok (.ishr, 1) := by decide +kernel
theorem dX3_blowFuses_14 : decode cX3_blowFuses 14 = .ok (.iconst 1, 1) := by decide +kernel
theorem dX3_blowFuses_15 : decode cX3_blowFuses 15 = .ok (.iand, 1) := by decide +kernel
theorem dX3_blowFuses_16 : decode cX3_blowFuses 16 = .ok (.iconst 1, 1) := by decide +kernel
theorem dX3_blowFuses_17 : decode cX3_blowFuses 17 = .ok (.if_icmp .ne 11, 3) := by decide +kernel
theorem dX3_blowFuses_20 : decode cX3_blowFuses 20 = .ok (.aload_n 0, 1) := by decide +kernel
theorem dX3_blowFuses_21 : decode cX3_blowFuses 21 = .ok (.iload_n 1, 1) := by decide +kernel
theorem dX3_blowFuses_22 : decode cX3_blowFuses 22 = .ok (.iload 4, 2) := by decide +kernel
theorem dX3_blowFuses_24 : decode cX3_blowFuses 24 = .ok (.iload_n 3, 1) := by decide +kernel
theorem dX3_blowFuses_25 : decode cX3_blowFuses 25 = .ok (.invokevirtual 97, 3) := by decide +kernel
theorem dX3_blowFuses_28 : decode cX3_blowFuses 28 = .ok (.iinc 4 1, 3) := by decide +kernel
theorem dX3_blowFuses_31 : decode cX3_blowFuses 31 = .ok (.goto (-28), 3) := by decide +kernel
theorem dX3_blowFuses_34 : decode cX3_blowFuses 34 = .ok (.return_, 1) := by decide +kernel
theorem dX3_strengthenFuses_0 : decode cX3_strengthenFuses 0 = .ok (.iconst 0, 1) := by decide +kernel
theorem dX3_strengthenFuses_1 : decode cX3_strengthenFuses 1 = .ok (.istore_n 3, 1) := by decide +kernel
theorem dX3_strengthenFuses_2 : decode cX3_strengthenFuses 2 = .ok (.iload_n 3, 1) := by decide +kernel
theorem dX3_strengthenFuses_3 : decode cX3_strengthenFuses 3 = .ok (.bipush 16, 2) := by decide +kernel
theorem dX3_strengthenFuses_5 : decode cX3_strengthenFuses 5 = .ok (.if_icmp .ge 32, 3) := by decide +kernel
theorem dX3_strengthenFuses_8 : decode cX3_strengthenFuses 8 = .ok (.iload_n 2, 1) := by decide +kernel
theorem dX3_strengthenFuses_9 : decode cX3_strengthenFuses 9 = .ok (.iload_n 3, 1) := by decide +kernel
theorem dX3_strengthenFuses_10 : decode cX3_strengthenFuses 10 = .ok (.ishr, 1) := by decide +kernel
theorem dX3_strengthenFuses_11 : decode cX3_strengthenFuses 11 = .ok (.iconst 1, 1) := by decide +kernel
theorem dX3_strengthenFuses_12 : decode cX3_strengthenFuses 12 = .ok (.iand, 1) := by decide +kernel
theorem dX3_strengthenFuses_13 : decode cX3_strengthenFuses 13 = .ok (.iconst 1, 1) := by decide +kernel
theorem dX3_strengthenFuses_14 : decode cX3_strengthenFuses 14 = .ok (.if_icmp .ne 17, 3) := by decide +kernel
theorem dX3_strengthenFuses_17 : decode cX3_strengthenFuses 17 = .ok (.aload_n 0, 1) := by decide +kernel
theorem dX3_strengthenFuses_18 : decode cX3_strengthenFuses 18 = .ok (.iload_n 1, 1) := by decide +kernel
theorem dX3_strengthenFuses_19 : decode cX3_strengthenFuses 19 = .ok (.iload_n 3, 1) := by decide +kernel
theorem dX3_strengthenFuses_20 : decode cX3_strengthenFuses 20 = .ok (.aload_n 0, 1) := by decide +kernel
theorem dX3_strengthenFuses_21 : decode cX3_strengthenFuses 21 = .ok (.iload_n 1, 1) := by decide +kernel
theorem dX3_strengthenFuses_22 : decode cX3_strengthenFuses 22 = .ok (.iload_n 3, 1) := by decide +kernel
theorem dX3_strengthenFuses_23 : decode cX3_strengthenFuses 23 = .ok (.invokevirtual 94, 3) := by decide +kernel
theorem dX3_strengthenFuses_26 : decode cX3_strengthenFuses 26 = .ok (.iconst 1, 1) := by decide +kernel
theorem dX3_strengthenFuses_27 : decode cX3_strengthenFuses 27 = .ok (.iadd, 1) := by decide +kernel
theorem dX3_strengthenFuses_28 : decode cX3_strengthenFuses 28 = .ok (.invokevirtual 97, 3) := by decide +kernel
theorem dX3_strengthenFuses_31 : decode cX3_strengthenFuses 31 = .ok (.iinc 3 1, 3) := by decide +kernel
theorem dX3_strengthenFuses_34 : decode cX3_strengthenFuses 34 = .ok (.goto (-32), 3) := by decide +kernel
theorem dX3_strengthenFuses_37 : decode cX3_strengthenFuses 37 = .ok (.return_, 1) := by decide +kernel
theorem dX3_putNext_0 : decode cX3_putNext 0 = .ok (.aload_n 0, 1) := by decide +kernel
theorem dX3_putNext_1 : decode cX3_putNext 1 = .ok (.invokevirtual 101, 3) := by decide +kernel
theorem dX3_putNext_4 : decode cX3_putNext 4 = .ok (.istore_n 3, 1) := by decide +kernel
theorem dX3_putNext_5 : decode cX3_putNext 5 = .ok (.iload_n 3, 1) := by decide +kernel
theorem dX3_putNext_6 : decode cX3_putNext 6 = .ok (.iconst (-1), 1) := by decide +kernel
theorem dX3_putNext_7 : decode cX3_putNext 7 = .ok (.if_icmp .ne 5, 3) := by decide +kernel
theorem dX3_putNext_10 : decode cX3_putNext 10 = .ok (.iconst (-1), 1) := by decide +kernel
theorem dX3_putNext_11 : decode cX3_putNext 11 = .ok (.ireturn, 1) := by decide +kernel
theorem dX3_putNext_12 : decode cX3_putNext 12 = .ok (.aload_n 0, 1) := by decide +kernel
theorem dX3_putNext_13 : decode cX3_putNext 13 = .ok (.iload_n 3, 1) := by decide +kernel
theorem dX3_putNext_14 : decode cX3_putNext 14 = .ok (.iload_n 1, 1) := by decide +kernel
theorem dX3_putNext_15 : decode cX3_putNext 15 = .ok (.iload_n 2, 1) := by decide +kernel
theorem dX3_putNext_16 : decode cX3_putNext 16 = .ok (.invokevirtual 105, 3) := by decide +kernel
theorem dX3_putNext_19 : decode cX3_putNext 19 = .ok (.istore 4, 2) := by decide +kernel
theorem dX3_putNext_21 : decode cX3_putNext 21 = .ok (.aload_n 0, 1) := by decide +kernel
theorem dX3_putNext_22 : decode cX3_putNext 22 = .ok (.iload_n 3, 1) := by decide +kernel
theorem dX3_putNext_23 : decode cX3_putNext 23 = .ok (.iload_n 1, 1) := by decide +kernel
theorem dX3_putNext_24 : decode cX3_putNext 24 = .ok (.invokevirtual 109, 3) := by decide +kernel
theorem dX3_putNext_27 : decode cX3_putNext 27 = .ok (.pop, 1) := by decide +kernel
theorem dX3_putNext_28 : decode cX3_putNext 28 = .ok (.aload_n 0, 1) := by decide +kernel
theorem dX3_putNext_29 : decode cX3_putNext 29 = .ok (.dup, 1) := by decide +kernel
theorem dX3_putNext_30 : decode cX3_putNext 30 = .ok (.getfield 34, 3) := by decide +kernel
theorem dX3_putNext_33 : decode cX3_putNext 33 = .ok (.iconst 1, 1) := by decide +kernel
theorem dX3_putNext_34 : decode cX3_putNext 34 = .ok (.iadd, 1) := by decide +kernel
theorem dX3_putNext_35 : decode cX3_putNext 35 = .ok (.putfield 34, 3) := by decide +kernel
theorem dX3_putNext_38 : decode cX3_putNext 38 = .ok (.iload 4, 2) := by decide +kernel
theorem dX3_putNext_40 : decode cX3_putNext 40 = .ok (.ireturn, 1) := by decide +kernel
theorem dX3_writeEntry_0 : decode cX3_writeEntry 0 = .ok (.iload_n 2, 1) := by decide +kernel
theorem dX3_writeEntry_1 : decode cX3_writeEntry 1 = .ok (.iload_n 3, 1) := by decide +kernel
theorem dX3_writeEntry_2 : decode cX3_writeEntry 2 = .ok (.invokestatic 112, 3) := by decide +kernel
theorem dX3_writeEntry_5 : decode cX3_writeEntry 5 = .ok (.istore 4, 2) := by decide +kernel
theorem dX3_writeEntry_7 : decode cX3_writeEntry 7 = .ok (.aload_n 0, 1) := by decide +kernel
theorem dX3_writeEntry_8 : decode cX3_writeEntry 8 = .ok (.iload_n 1, 1) := by decide +kernel
theorem dX3_writeEntry_9 : decode cX3_writeEntry 9 = .ok (.iload 4, 2) := by decide +kernel
theorem dX3_writeEntry_11 : decode cX3_writeEntry 11 = .ok (.aload_n 0, 1) := by decide +kernel
theorem dX3_writeEntry_12 : decode cX3_writeEntry 12 = .ok (.getfield 18, 3) := by decide +kernel
theorem dX3_writeEntry_15 : decode cX3_writeEntry 15 = .ok (.iconst 1, 1) := by decide +kernel
theorem dX3_writeEntry_16 : decode cX3_writeEntry 16 = .ok (.iaload, 1) := by decide +kernel
theorem dX3_writeEntry_17 : decode cX3_writeEntry 17 = .ok (.invokevirtual 115, 3) := by decide +kernel
theorem dX3_writeEntry_20 : decode cX3_writeEntry 20 = .ok (.iconst 1, 1) := by decide +kernel
theorem dX3_writeEntry_21 : decode cX3_writeEntry 21 = .ok (.istore 5, 2) := by decide +kernel
theorem dX3_writeEntry_23 : decode cX3_writeEntry 23 = .ok (.iload 5, 2) := by decide +kernel
theorem dX3_writeEntry_25 : decode cX3_writeEntry 25 = .ok (.aload_n 0, 1) := by decide +kernel
theorem dX3_writeEntry_26 : decode cX3_writeEntry 26 = .ok (.getfield 18, 3) := by decide +kernel
theorem dX3_writeEntry_29 : decode cX3_writeEntry 29 = .ok (.iconst 2, 1) := by decide +kernel
theorem dX3_writeEntry_30 : decode cX3_writeEntry 30 = .ok (.iaload, 1) := by decide +kernel
theorem dX3_writeEntry_31 : decode cX3_writeEntry 31 = .ok (.if_icmp .ge 34, 3) := by decide +kernel
theorem dX3_writeEntry_34 : decode cX3_writeEntry 34 = .ok (.aload_n 0, 1) := by decide +kernel
theorem dX3_writeEntry_35 : decode cX3_writeEntry 35 = .ok (.iload_n 1, 1) := by decide +kernel
theorem dX3_writeEntry_36 : decode cX3_writeEntry 36 = .ok (.iload_n 2, 1) := by decide +kernel
theorem dX3_writeEntry_37 : decode cX3_writeEntry 37 = .ok (.iload_n 3, 1) := by decide +kernel
theorem dX3_writeEntry_38 : decode cX3_writeEntry 38 = .ok (.invokevirtual 118, 3) := by decide +kernel
theorem dX3_writeEntry_41 : decode cX3_writeEntry 41 = .ok (.ifCond .ne 24, 3) := by decide +kernel
theorem dX3_writeEntry_44 : decode cX3_writeEntry 44 = .ok (.aload_n 0, 1) := by decide +kernel
theorem dX3_writeEntry_45 : decode cX3_writeEntry 45 = .ok (.iload_n 1, 1) := by decide +kernel
theorem dX3_writeEntry_46 : decode cX3_writeEntry 46 = .ok (.iload 4, 2) := by decide +kernel
theorem dX3_writeEntry_48 : decode cX3_writeEntry 48 = .ok (.aload_n 0, 1) := by decide +kernel
theorem dX3_writeEntry_49 : decode cX3_writeEntry 49 = .ok (.iload_n 1, 1) := by decide +kernel
theorem dX3_writeEntry_50 : decode cX3_writeEntry 50 = .ok (.invokevirtual 48, 3) := by decide +kernel
theorem dX3_writeEntry_53 : decode cX3_writeEntry 53 = .ok (.iconst (-1), 1) := by decide +kernel
theorem dX3_writeEntry_54 : decode cX3_writeEntry 54 = .ok (.ixor, 1) := by decide +kernel
theorem dX3_writeEntry_55 : decode cX3_writeEntry 55 = .ok (.iand, 1) := by decide +kernel
theorem dX3_writeEntry_56 : decode cX3_writeEntry 56 = .ok (.invokevirtual 122, 3) := by decide +kernel
theorem dX3_writeEntry_59 : decode cX3_writeEntry 59 = .ok (.iinc 5 1, 3) := by decide +kernel
theorem dX3_writeEntry_62 : decode cX3_writeEntry 62 = .ok (.goto (-39), 3) := by decide +kernel
theorem dX3_writeEntry_65 : decode cX3_writeEntry 65 = .ok (.iload 5, 2) := by decide +kernel
theorem dX3_writeEntry_67 : decode cX3_writeEntry 67 = .ok (.ireturn, 1) := by decide +kernel
theorem dX3_tellsEntry_0 : decode cX3_tellsEntry 0 = .ok (.aload_n 0, 1) := by decide +kernel
theorem dX3_tellsEntry_1 : decode cX3_tellsEntry 1 = .ok (.iload_n 1, 1) := by decide +kernel
theorem dX3_tellsEntry_2 : decode cX3_tellsEntry 2 = .ok (.invokevirtual 48, 3) := by decide +kernel
theorem dX3_tellsEntry_5 : decode cX3_tellsEntry 5 = .ok (.istore 4, 2) := by decide +kernel
theorem dX3_tellsEntry_7 : decode cX3_tellsEntry 7 = .ok (.iload 4, 2) := by decide +kernel
theorem dX3_tellsEntry_9 : decode cX3_tellsEntry 9 = .ok (.invokestatic 52, 3) := by decide +kernel
theorem dX3_tellsEntry_12 : decode cX3_tellsEntry 12 = .ok (.iconst 4, 1) := by decide +kernel
theorem dX3_tellsEntry_13 : decode cX3_tellsEntry 13 = .ok (.if_icmp .ne 25, 3) := by decide +kernel
theorem dX3_tellsEntry_16 : decode cX3_tellsEntry 16 = .ok (.iload 4, 2) := by decide +kernel
theorem dX3_tellsEntry_18 : decode cX3_tellsEntry 18 = .ok (.invokestatic 72, 3) := by decide +kernel
theorem dX3_tellsEntry_21 : decode cX3_tellsEntry 21 = .ok (.iload_n 2, 1) := by decide +kernel
theorem dX3_tellsEntry_22 : decode cX3_tellsEntry 22 = .ok (.if_icmp .ne 16, 3) := by decide +kernel
theorem dX3_tellsEntry_25 : decode cX3_tellsEntry 25 = .ok (.iload 4, 2) := by decide +kernel
theorem dX3_tellsEntry_27 : decode cX3_tellsEntry 27 = .ok (.invokestatic 78, 3) := by decide +kernel
theorem dX3_tellsEntry_30 : decode cX3_tellsEntry 30 = .ok (.iload_n 3, 1) := by decide +kernel
theorem dX3_tellsEntry_31 : decode cX3_tellsEntry 31 = .ok (.if_icmp .ne 7, 3) := by decide +kernel
theorem dX3_tellsEntry_34 : decode cX3_tellsEntry 34 = .ok (.iconst 1, 1) := by decide +kernel
theorem dX3_tellsEntry_35 : decode cX3_tellsEntry 35 = .ok (.goto 4, 3) := by decide +kernel
theorem dX3_tellsEntry_38 : decode cX3_tellsEntry 38 = .ok (.iconst 0, 1) := by decide +kernel
theorem dX3_tellsEntry_39 : decode cX3_tellsEntry 39 = .ok (.ireturn, 1) := by decide +kernel
theorem dX3_markEarlier_0 : decode cX3_markEarlier 0 = .ok (.aload_n 0, 1) := by decide +kernel
theorem dX3_markEarlier_1 : decode cX3_markEarlier 1 = .ok (.getfield 18, 3) := by decide +kernel
theorem dX3_markEarlier_4 : decode cX3_markEarlier 4 = .ok (.iconst 3, 1) := by decide +kernel
theorem dX3_markEarlier_5 : decode cX3_markEarlier 5 = .ok (.iaload, 1) := by decide +kernel
theorem dX3_markEarlier_6 : decode cX3_markEarlier 6 = .ok (.iconst 1, 1) := by decide +kernel
theorem dX3_markEarlier_7 : decode cX3_markEarlier 7 = .ok (.if_icmp .ne 18, 3) := by decide +kernel
theorem dX3_markEarlier_10 : decode cX3_markEarlier 10 = .ok (.aload_n 0, 1) := by decide +kernel
theorem dX3_markEarlier_11 : decode cX3_markEarlier 11 = .ok (.iload_n 2, 1) := by decide +kernel
theorem dX3_markEarlier_12 : decode cX3_markEarlier 12 = .ok (.iload_n 1, 1) := by decide +kernel
theorem dX3_markEarlier_13 : decode cX3_markEarlier 13 = .ok (.aload_n 0, 1) := by decide +kernel
theorem dX3_markEarlier_14 : decode cX3_markEarlier 14 = .ok (.getfield 18, 3) := by decide +kernel
theorem dX3_markEarlier_17 : decode cX3_markEarlier 17 = .ok (.iconst 1, 1) := by decide +kernel
theorem dX3_markEarlier_18 : decode cX3_markEarlier 18 = .ok (.iaload, 1) := by decide +kernel
theorem dX3_markEarlier_19 : decode cX3_markEarlier 19 = .ok (.invokevirtual 126, 3) := by decide +kernel
theorem dX3_markEarlier_22 : decode cX3_markEarlier 22 = .ok (.goto 4, 3) := by decide +kernel
theorem dX3_markEarlier_25 : decode cX3_markEarlier 25 = .ok (.iconst 0, 1) := by decide +kernel
theorem dX3_markEarlier_26 : decode cX3_markEarlier 26 = .ok (.ireturn, 1) := by decide +kernel
theorem dX3_markEntries_0 : decode cX3_markEntries 0 = .ok (.iconst 0, 1) := by decide +kernel
theorem dX3_markEntries_1 : decode cX3_markEntries 1 = .ok (.istore 4, 2) := by decide +kernel
theorem dX3_markEntries_3 : decode cX3_markEntries 3 = .ok (.iconst 0, 1) := by decide +kernel
theorem dX3_markEntries_4 : decode cX3_markEntries 4 = .ok (.istore 5, 2) := by decide +kernel
theorem dX3_markEntries_6 : decode cX3_markEntries 6 = .ok (.iload 5, 2) := by decide +kernel
theorem dX3_markEntries_8 : decode cX3_markEntries 8 = .ok (.bipush 20, 2) := by decide +kernel
theorem dX3_markEntries_10 : decode cX3_markEntries 10 = .ok (.if_icmp .ge 62, 3) := by decide +kernel
theorem dX3_markEntries_13 : decode cX3_markEntries 13 = .ok (.aload_n 0, 1) := by decide +kernel
theorem dX3_markEntries_14 : decode cX3_markEntries 14 = .ok (.iload 5, 2) := by decide +kernel
theorem dX3_markEntries_16 : decode cX3_markEntries 16 = .ok (.invokevirtual 48, 3) := by decide +kernel
theorem dX3_markEntries_19 : decode cX3_markEntries 19 = .ok (.istore 6, 2) := by decide +kernel
theorem dX3_markEntries_21 : decode cX3_markEntries 21 = .ok (.iload 5, 2) := by decide +kernel
theorem dX3_markEntries_23 : decode cX3_markEntries 23 = .ok (.iload_n 2, 1) := by decide +kernel
theorem dX3_markEntries_24 : decode cX3_markEntries 24 = .ok (.if_icmp .eq 42, 3) := by decide +kernel
theorem dX3_markEntries_27 : decode cX3_markEntries 27 = .ok (.aload_n 0, 1) := by decide +kernel
theorem dX3_markEntries_28 : decode cX3_markEntries 28 = .ok (.iload 5, 2) := by decide +kernel
theorem dX3_markEntries_30 : decode cX3_markEntries 30 = .ok (.invokevirtual 65, 3) := by decide +kernel
theorem dX3_markEntries_33 : decode cX3_markEntries 33 = .ok (.ifCond .ne 33, 3) := by decide +kernel
theorem dX3_markEntries_36 : decode cX3_markEntries 36 = .ok (.iload 6, 2) := by decide +kernel
theorem dX3_markEntries_38 : decode cX3_markEntries 38 = .ok (.invokestatic 72, 3) := by decide +kernel
theorem dX3_markEntries_41 : decode cX3_markEntries 41 = .ok (.iload_n 1, 1) := by decide +kernel
theorem dX3_markEntries_42 : decode cX3_markEntries 42 = .ok (.if_icmp .ne 24, 3) := by decide +kernel
theorem dX3_markEntries_45 : decode cX3_markEntries 45 = .ok (.iload 6, 2) := by decide +kernel
theorem dX3_markEntries_47 : decode cX3_markEntries 47 = .ok (.invokestatic 52, 3) := by decide +kernel
theorem dX3_markEntries_50 : decode cX3_markEntries 50 = .ok (.iconst 4, 1) := by decide +kernel
theorem dX3_markEntries_51 : decode cX3_markEntries 51 = .ok (.if_icmp .ne 15, 3) := by decide +kernel
theorem dX3_markEntries_54 : decode cX3_markEntries 54 = .ok (.aload_n 0, 1) := by decide +kernel
theorem dX3_markEntries_55 : decode cX3_markEntries 55 = .ok (.iload 5, 2) := by decide +kernel
theorem dX3_markEntries_57 : decode cX3_markEntries 57 = .ok (.bipush 14, 2) := by decide +kernel
theorem dX3_markEntries_59 : decode cX3_markEntries 59 = .ok (.iload_n 3, 1) := by decide +kernel
theorem dX3_markEntries_60 : decode cX3_markEntries 60 = .ok (.invokevirtual 97, 3) := by decide +kernel
theorem dX3_markEntries_63 : decode cX3_markEntries 63 = .ok (.iinc 4 1, 3) := by decide +kernel
theorem dX3_markEntries_66 : decode cX3_markEntries 66 = .ok (.iinc 5 1, 3) := by decide +kernel
theorem dX3_markEntries_69 : decode cX3_markEntries 69 = .ok (.goto (-63), 3) := by decide +kernel
theorem dX3_markEntries_72 : decode cX3_markEntries 72 = .ok (.iload 4, 2) := by decide +kernel
theorem dX3_markEntries_74 : decode cX3_markEntries 74 = .ok (.ireturn, 1) := by decide +kernel
theorem dX3_refreshRow_0 : decode cX3_refreshRow 0 = .ok (.aload_n 0, 1) := by decide +kernel
theorem dX3_refreshRow_1 : decode cX3_refreshRow 1 = .ok (.getfield 15, 3) := by decide +kernel
theorem dX3_refreshRow_4 : decode cX3_refreshRow 4 = .ok (.iload_n 1, 1) := by decide +kernel
theorem dX3_refreshRow_5 : decode cX3_refreshRow 5 = .ok (.iaload, 1) := by decide +kernel
theorem dX3_refreshRow_6 : decode cX3_refreshRow 6 = .ok (.aload_n 0, 1) := by decide +kernel
theorem dX3_refreshRow_7 : decode cX3_refreshRow 7 = .ok (.getfield 9, 3) := by decide +kernel
theorem dX3_refreshRow_10 : decode cX3_refreshRow 10 = .ok (.iload_n 1, 1) := by decide +kernel
theorem dX3_refreshRow_11 : decode cX3_refreshRow 11 = .ok (.iaload, 1) := by decide +kernel
theorem dX3_refreshRow_12 : decode cX3_refreshRow 12 = .ok (.iconst (-1), 1) := by decide +kernel
theorem dX3_refreshRow_13 : decode cX3_refreshRow 13 = .ok (.ixor, 1) := by decide +kernel
theorem dX3_refreshRow_14 : decode cX3_refreshRow 14 = .ok (.iand, 1) := by decide +kernel
theorem dX3_refreshRow_15 : decode cX3_refreshRow 15 = .ok (.invokestatic 57, 3) := by decide +kernel
theorem dX3_refreshRow_18 : decode cX3_refreshRow 18 = .ok (.istore_n 2, 1) := by decide +kernel
theorem dX3_refreshRow_19 : decode cX3_refreshRow 19 = .ok (.aload_n 0, 1) := by decide +kernel
theorem dX3_refreshRow_20 : decode cX3_refreshRow 20 = .ok (.iload_n 1, 1) := by decide +kernel
theorem dX3_refreshRow_21 : decode cX3_refreshRow 21 = .ok (.aload_n 0, 1) := by decide +kernel
theorem dX3_refreshRow_22 : decode cX3_refreshRow 22 = .ok (.iload_n 1, 1) := by decide +kernel
theorem dX3_refreshRow_23 : decode cX3_refreshRow 23 = .ok (.aload_n 0, 1) := by decide +kernel
theorem dX3_refreshRow_24 : decode cX3_refreshRow 24 = .ok (.getfield 27, 3) := by decide +kernel
theorem dX3_refreshRow_27 : decode cX3_refreshRow 27 = .ok (.iconst 1, 1) := by decide +kernel
theorem dX3_refreshRow_28 : decode cX3_refreshRow 28 = .ok (.invokevirtual 44, 3) := by decide +kernel
theorem dX3_refreshRow_31 : decode cX3_refreshRow 31 = .ok (.iconst 3, 1) := by decide +kernel
theorem dX3_refreshRow_32 : decode cX3_refreshRow 32 = .ok (.invokevirtual 115, 3) := by decide +kernel
theorem dX3_refreshRow_35 : decode cX3_refreshRow 35 = .ok (.iload_n 2, 1) := by decide +kernel
theorem dX3_refreshRow_36 : decode cX3_refreshRow 36 = .ok (.ireturn, 1) := by decide +kernel
theorem dX3_heatRows_0 : decode cX3_heatRows 0 = .ok (.iconst 0, 1) := by decide +kernel
theorem dX3_heatRows_1 : decode cX3_heatRows 1 = .ok (.istore_n 2, 1) := by decide +kernel
theorem dX3_heatRows_2 : decode cX3_heatRows 2 = .ok (.iconst 0, 1) := by decide +kernel
theorem dX3_heatRows_3 : decode cX3_heatRows 3 = .ok (.istore_n 3, 1) := by decide +kernel
theorem dX3_heatRows_4 : decode cX3_heatRows 4 = .ok (.iload_n 3, 1) := by decide +kernel
theorem dX3_heatRows_5 : decode cX3_heatRows 5 = .ok (.bipush 20, 2) := by decide +kernel
theorem dX3_heatRows_7 : decode cX3_heatRows 7 = .ok (.if_icmp .ge 113, 3) := by decide +kernel
theorem dX3_heatRows_10 : decode cX3_heatRows 10 = .ok (.iload_n 1, 1) := by decide +kernel
theorem dX3_heatRows_11 : decode cX3_heatRows 11 = .ok (.iconst 3, 1) := by decide +kernel
theorem dX3_heatRows_12 : decode cX3_heatRows 12 = .ok (.if_icmp .lt 21, 3) := by decide +kernel
theorem dX3_heatRows_15 : decode cX3_heatRows 15 = .ok (.aload_n 0, 1) := by decide +kernel
theorem dX3_heatRows_16 : decode cX3_heatRows 16 = .ok (.getfield 9, 3) := by decide +kernel
theorem dX3_heatRows_19 : decode cX3_heatRows 19 = .ok (.iload_n 3, 1) := by decide +kernel
theorem dX3_heatRows_20 : decode cX3_heatRows 20 = .ok (.iaload, 1) := by decide +kernel
theorem dX3_heatRows_21 : decode cX3_heatRows 21 = .ok (.aload_n 0, 1) := by decide +kernel
theorem dX3_heatRows_22 : decode cX3_heatRows 22 = .ok (.getfield 15, 3) := by decide +kernel
theorem dX3_heatRows_25 : decode cX3_heatRows 25 = .ok (.iload_n 3, 1) := by decide +kernel
theorem dX3_heatRows_26 : decode cX3_heatRows 26 = .ok (.iaload, 1) := by decide +kernel
theorem dX3_heatRows_27 : decode cX3_heatRows 27 = .ok (.iconst (-1), 1) := by decide +kernel
theorem dX3_heatRows_28 : decode cX3_heatRows 28 = .ok (.ixor, 1) := by decide +kernel
theorem dX3_heatRows_29 : decode cX3_heatRows 29 = .ok (.iand, 1) := by decide +kernel
theorem dX3_heatRows_30 : decode cX3_heatRows 30 = .ok (.goto 4, 3) := by decide +kernel
theorem dX3_heatRows_33 : decode cX3_heatRows 33 = .ok (.iconst 0, 1) := by decide +kernel
theorem dX3_heatRows_34 : decode cX3_heatRows 34 = .ok (.istore 4, 2) := by decide +kernel
theorem dX3_heatRows_36 : decode cX3_heatRows 36 = .ok (.iload_n 1, 1) := by decide +kernel
theorem dX3_heatRows_37 : decode cX3_heatRows 37 = .ok (.bipush 6, 2) := by decide +kernel
theorem dX3_heatRows_39 : decode cX3_heatRows 39 = .ok (.if_icmp .lt 21, 3) := by decide +kernel
theorem dX3_heatRows_42 : decode cX3_heatRows 42 = .ok (.aload_n 0, 1) := by decide +kernel
theorem dX3_heatRows_43 : decode cX3_heatRows 43 = .ok (.getfield 15, 3) := by decide +kernel
theorem dX3_heatRows_46 : decode cX3_heatRows 46 = .ok (.iload_n 3, 1) := by decide +kernel
theorem dX3_heatRows_47 : decode cX3_heatRows 47 = .ok (.iaload, 1) := by decide +kernel
theorem dX3_heatRows_48 : decode cX3_heatRows 48 = .ok (.aload_n 0, 1) := by decide +kernel
theorem dX3_heatRows_49 : decode cX3_heatRows 49 = .ok (.getfield 9, 3) := by decide +kernel
theorem dX3_heatRows_52 : decode cX3_heatRows 52 = .ok (.iload_n 3, 1) := by decide +kernel
theorem dX3_heatRows_53 : decode cX3_heatRows 53 = .ok (.iaload, 1) := by decide +kernel
theorem dX3_heatRows_54 : decode cX3_heatRows 54 = .ok (.iconst (-1), 1) := by decide +kernel
theorem dX3_heatRows_55 : decode cX3_heatRows 55 = .ok (.ixor, 1) := by decide +kernel
theorem dX3_heatRows_56 : decode cX3_heatRows 56 = .ok (.iand, 1) := by decide +kernel
theorem dX3_heatRows_57 : decode cX3_heatRows 57 = .ok (.goto 4, 3) := by decide +kernel
theorem dX3_heatRows_60 : decode cX3_heatRows 60 = .ok (.iconst 0, 1) := by decide +kernel
theorem dX3_heatRows_61 : decode cX3_heatRows 61 = .ok (.istore 5, 2) := by decide +kernel
theorem dX3_heatRows_63 : decode cX3_heatRows 63 = .ok (.aload_n 0, 1) := by decide +kernel
theorem dX3_heatRows_64 : decode cX3_heatRows 64 = .ok (.getfield 9, 3) := by decide +kernel
theorem dX3_heatRows_67 : decode cX3_heatRows 67 = .ok (.iload_n 3, 1) := by decide +kernel
theorem dX3_heatRows_68 : decode cX3_heatRows 68 = .ok (.aload_n 0, 1) := by decide +kernel
theorem dX3_heatRows_69 : decode cX3_heatRows 69 = .ok (.getfield 9, 3) := by decide +kernel
theorem dX3_heatRows_72 : decode cX3_heatRows 72 = .ok (.iload_n 3, 1) := by decide +kernel
theorem dX3_heatRows_73 : decode cX3_heatRows 73 = .ok (.iaload, 1) := by decide +kernel
theorem dX3_heatRows_74 : decode cX3_heatRows 74 = .ok (.iload 4, 2) := by decide +kernel
theorem dX3_heatRows_76 : decode cX3_heatRows 76 = .ok (.iconst (-1), 1) := by decide +kernel
theorem dX3_heatRows_77 : decode cX3_heatRows 77 = .ok (.ixor, 1) := by decide +kernel
theorem dX3_heatRows_78 : decode cX3_heatRows 78 = .ok (.iand, 1) := by decide +kernel
theorem dX3_heatRows_79 : decode cX3_heatRows 79 = .ok (.iload 5, 2) := by decide +kernel
theorem dX3_heatRows_81 : decode cX3_heatRows 81 = .ok (.ior, 1) := by decide +kernel
theorem dX3_heatRows_82 : decode cX3_heatRows 82 = .ok (.iastore, 1) := by decide +kernel
theorem dX3_heatRows_83 : decode cX3_heatRows 83 = .ok (.aload_n 0, 1) := by decide +kernel
theorem dX3_heatRows_84 : decode cX3_heatRows 84 = .ok (.getfield 15, 3) := by decide +kernel
theorem dX3_heatRows_87 : decode cX3_heatRows 87 = .ok (.iload_n 3, 1) := by decide +kernel
theorem dX3_heatRows_88 : decode cX3_heatRows 88 = .ok (.aload_n 0, 1) := by decide +kernel
theorem dX3_heatRows_89 : decode cX3_heatRows 89 = .ok (.getfield 15, 3) := by decide +kernel
theorem dX3_heatRows_92 : decode cX3_heatRows 92 = .ok (.iload_n 3, 1) := by decide +kernel
theorem dX3_heatRows_93 : decode cX3_heatRows 93 = .ok (.iaload, 1) := by decide +kernel
theorem dX3_heatRows_94 : decode cX3_heatRows 94 = .ok (.iload 5, 2) := by decide +kernel
theorem dX3_heatRows_96 : decode cX3_heatRows 96 = .ok (.iconst (-1), 1) := by decide +kernel
theorem dX3_heatRows_97 : decode cX3_heatRows 97 = .ok (.ixor, 1) := by decide +kernel
theorem dX3_heatRows_98 : decode cX3_heatRows 98 = .ok (.iand, 1) := by decide +kernel
theorem dX3_heatRows_99 : decode cX3_heatRows 99 = .ok (.iastore, 1) := by decide +kernel
theorem dX3_heatRows_100 : decode cX3_heatRows 100 = .ok (.iload_n 2, 1) := by decide +kernel
theorem dX3_heatRows_101 : decode cX3_heatRows 101 = .ok (.iload 4, 2) := by decide +kernel
theorem dX3_heatRows_103 : decode cX3_heatRows 103 = .ok (.invokestatic 57, 3) := by decide +kernel
theorem dX3_heatRows_106 : decode cX3_heatRows 106 = .ok (.iload 5, 2) := by decide +kernel
theorem dX3_heatRows_108 : decode cX3_heatRows 108 = .ok (.invokestatic 57, 3) := by decide +kernel
theorem dX3_heatRows_111 : decode cX3_heatRows 111 = .ok (.iadd, 1) := by decide +kernel
theorem dX3_heatRows_112 : decode cX3_heatRows 112 = .ok (.iadd, 1) := by decide +kernel
theorem dX3_heatRows_113 : decode cX3_heatRows 113 = .ok (.istore_n 2, 1) := by decide +kernel
theorem dX3_heatRows_114 : decode cX3_heatRows 114 = .ok (.iinc 3 1, 3) := by decide +kernel
theorem dX3_heatRows_117 : decode cX3_heatRows 117 = .ok (.goto (-113), 3) := by decide +kernel
theorem dX3_heatRows_120 : decode cX3_heatRows 120 = .ok (.iload_n 2, 1) := by decide +kernel
theorem dX3_heatRows_121 : decode cX3_heatRows 121 = .ok (.ireturn, 1) := by decide +kernel
theorem dX4_init_0 : decode cX4_init 0 = .ok (.aload_n 0, 1) := by decide +kernel
theorem dX4_init_1 : decode cX4_init 1 = .ok (.invokespecial 1, 3) := by decide +kernel
theorem dX4_init_4 : decode cX4_init 4 = .ok (.aload_n 0, 1) := by decide +kernel
theorem dX4_init_5 : decode cX4_init 5 = .ok (.new 7, 3) := by decide +kernel
theorem dX4_init_8 : decode cX4_init 8 = .ok (.dup, 1) := by decide +kernel
theorem dX4_init_9 : decode cX4_init 9 = .ok (.invokespecial 9, 3) := by decide +kernel
theorem dX4_init_12 : decode cX4_init 12 = .ok (.putfield 10, 3) := by decide +kernel
theorem dX4_init_15 : decode cX4_init 15 = .ok (.aload_n 0, 1) := by decide +kernel
theorem dX4_init_16 : decode cX4_init 16 = .ok (.new 7, 3) := by decide +kernel
theorem dX4_init_19 : decode cX4_init 19 = .ok (.dup, 1) := by decide +kernel
theorem dX4_init_20 : decode cX4_init 20 = .ok (.invokespecial 9, 3) := by decide +kernel
theorem dX4_init_23 : decode cX4_init 23 = .ok (.putfield 16, 3) := by decide +kernel
theorem dX4_init_26 : decode cX4_init 26 = .ok (.aload_n 0, 1) := by decide +kernel
theorem dX4_init_27 : decode cX4_init 27 = .ok (.new 19, 3) := by decide +kernel
theorem dX4_init_30 : decode cX4_init 30 = .ok (.dup, 1) := by decide +kernel
theorem dX4_init_31 : decode cX4_init 31 = .ok (.invokespecial 21, 3) := by decide +kernel
theorem dX4_init_34 : decode cX4_init 34 = .ok (.putfield 22, 3) := by decide +kernel
theorem dX4_init_37 : decode cX4_init 37 = .ok (.aload_n 0, 1) := by decide +kernel
theorem dX4_init_38 : decode cX4_init 38 = .ok (.new 26, 3) := by decide +kernel
theorem dX4_init_41 : decode cX4_init 41 = .ok (.dup, 1) := by decide +kernel
theorem dX4_init_42 : decode cX4_init 42 = .ok (.invokespecial 28, 3) := by decide +kernel
theorem dX4_init_45 : decode cX4_init 45 = .ok (.putfield 29, 3) := by decide +kernel
theorem dX4_init_48 : decode cX4_init 48 = .ok (.return_, 1) := by decide +kernel
theorem dX4_blow_0 : decode cX4_blow 0 = .ok (.iload_n 1, 1) := by decide +kernel
theorem dX4_blow_1 : decode cX4_blow 1 = .ok (.bipush 20, 2) := by decide +kernel
theorem dX4_blow_3 : decode cX4_blow 3 = .ok (.invokestatic 33, 3) := by decide +kernel
theorem dX4_blow_6 : decode cX4_blow 6 = .ok (.ifCond .eq 16, 3) := by decide +kernel
theorem dX4_blow_9 : decode cX4_blow 9 = .ok (.iload_n 2, 1) := by decide +kernel
theorem dX4_blow_10 : decode cX4_blow 10 = .ok (.bipush 16, 2) := by decide +kernel
theorem dX4_blow_12 : decode cX4_blow 12 = .ok (.invokestatic 33, 3) := by decide +kernel
theorem dX4_blow_15 : decode cX4_blow 15 = .ok (.ifCond .eq 7, 3) := by decide +kernel
theorem dX4_blow_18 : decode cX4_blow 18 = .ok (.iconst 1, 1) := by decide +kernel
theorem dX4_blow_19 : decode cX4_blow 19 = .ok (.goto 4, 3) := by decide +kernel
theorem dX4_blow_22 : decode cX4_blow 22 = .ok (.iconst 0, 1) := by decide +kernel
theorem dX4_blow_23 : decode cX4_blow 23 = .ok (.invokestatic 37, 3) := by decide +kernel
theorem dX4_blow_26 : decode cX4_blow 26 = .ok (.iload_n 3, 1) := by decide +kernel
theorem dX4_blow_27 : decode cX4_blow 27 = .ok (.iconst 1, 1) := by decide +kernel
theorem dX4_blow_28 : decode cX4_blow 28 = .ok (.iconst 3, 1) := by decide +kernel
theorem dX4_blow_29 : decode cX4_blow 29 = .ok (.invokestatic 41, 3) := by decide +kernel
theorem dX4_blow_32 : decode cX4_blow 32 = .ok (.invokestatic 45, 3) := by decide +kernel
theorem dX4_blow_35 : decode cX4_blow 35 = .ok (.aload_n 0, 1) := by decide +kernel
theorem dX4_blow_36 : decode cX4_blow 36 = .ok (.getfield 10, 3) := by decide +kernel
theorem dX4_blow_39 : decode cX4_blow 39 = .ok (.iload_n 1, 1) := by decide +kernel
theorem dX4_blow_40 : decode cX4_blow 40 = .ok (.invokevirtual 48, 3) := by decide +kernel
theorem dX4_blow_43 : decode cX4_blow 43 = .ok (.ifCond .ne 7, 3) := by decide +kernel
theorem dX4_blow_46 : decode cX4_blow 46 = .ok (.iconst 1, 1) := by decide +kernel
theorem dX4_blow_47 : decode cX4_blow 47 = .ok (.goto 4, 3) := by decide +kernel
theorem dX4_blow_50 : decode cX4_blow 50 = .ok (.iconst 0, 1) := by decide +kernel
theorem dX4_blow_51 : decode cX4_blow 51 = .ok (.invokestatic 52, 3) := by decide +kernel
theorem dX4_blow_54 : decode cX4_blow 54 = .ok (.aload_n 0, 1) := by decide +kernel
theorem dX4_blow_55 : decode cX4_blow 55 = .ok (.getfield 22, 3) := by decide +kernel
theorem dX4_blow_58 : decode cX4_blow 58 = .ok (.aload_n 0, 1) := by decide +kernel
theorem dX4_blow_59 : decode cX4_blow 59 = .ok (.getfield 10, 3) := by decide +kernel
theorem dX4_blow_62 : decode cX4_blow 62 = .ok (.invokevirtual 55, 3) := by decide +kernel
theorem dX4_blow_65 : decode cX4_blow 65 = .ok (.aload_n 0, 1) := by decide +kernel
theorem dX4_blow_66 : decode cX4_blow 66 = .ok (.getfield 10, 3) := by decide +kernel
theorem dX4_blow_69 : decode cX4_blow 69 = .ok (.iload_n 1, 1) := by decide +kernel
theorem dX4_blow_70 : decode cX4_blow 70 = .ok (.iload_n 2, 1) := by decide +kernel
theorem dX4_blow_71 : decode cX4_blow 71 = .ok (.iload_n 3, 1) := by decide +kernel
theorem dX4_blow_72 : decode cX4_blow 72 = .ok (.invokevirtual 59, 3) := by decide +kernel
theorem dX4_blow_75 : decode cX4_blow 75 = .ok (.aload_n 0, 1) := by decide +kernel
theorem dX4_blow_76 : decode cX4_blow 76 = .ok (.getfield 10, 3) := by decide +kernel
theorem dX4_blow_79 : decode cX4_blow 79 = .ok (.iload_n 1, 1) := by decide +kernel
theorem dX4_blow_80 : decode cX4_blow 80 = .ok (.iload_n 2, 1) := by decide +kernel
theorem dX4_blow_81 : decode cX4_blow 81 = .ok (.invokevirtual 63, 3) := by decide +kernel
theorem dX4_blow_84 : decode cX4_blow 84 = .ok (.ireturn, 1) := by decide +kernel
theorem dX4_put_0 : decode cX4_put 0 = .ok (.iload_n 1, 1) := by decide +kernel
theorem dX4_put_1 : decode cX4_put 1 = .ok (.bipush 16, 2) := by decide +kernel
theorem dX4_put_3 : decode cX4_put 3 = .ok (.invokestatic 33, 3) := by decide +kernel
theorem dX4_put_6 : decode cX4_put 6 = .ok (.ifCond .eq 16, 3) := by decide +kernel
theorem dX4_put_9 : decode cX4_put 9 = .ok (.iload_n 2, 1) := by decide +kernel
theorem dX4_put_10 : decode cX4_put 10 = .ok (.bipush 64, 2) := by decide +kernel
theorem dX4_put_12 : decode cX4_put 12 = .ok (.invokestatic 33, 3) := by decide +kernel
theorem dX4_put_15 : decode cX4_put 15 = .ok (.ifCond .eq 7, 3) := by decide +kernel
theorem dX4_put_18 : decode cX4_put 18 = .ok (.iconst 1, 1) := by decide +kernel
theorem dX4_put_19 : decode cX4_put 19 = .ok (.goto 4, 3) := by decide +kernel
theorem dX4_put_22 : decode cX4_put 22 = .ok (.iconst 0, 1) := by decide +kernel
theorem dX4_put_23 : decode cX4_put 23 = .ok (.invokestatic 45, 3) := by decide +kernel
theorem dX4_put_26 : decode cX4_put 26 = .ok (.aload_n 0, 1) := by decide +kernel
theorem dX4_put_27 : decode cX4_put 27 = .ok (.getfield 10, 3) := by decide +kernel
theorem dX4_put_30 : decode cX4_put 30 = .ok (.invokevirtual 67, 3) := by decide +kernel
theorem dX4_put_33 : decode cX4_put 33 = .ok (.iconst (-1), 1) := by decide +kernel
theorem dX4_put_34 : decode cX4_put 34 = .ok (.if_icmp .eq 7, 3) := by decide +kernel
theorem dX4_put_37 : decode cX4_put 37 = .ok (.iconst 1, 1) := by decide +kernel
theorem dX4_put_38 : decode cX4_put 38 = .ok (.goto 4, 3) := by decide +kernel
theorem dX4_put_41 : decode cX4_put 41 = .ok (.iconst 0, 1) := by decide +kernel
theorem dX4_put_42 : decode cX4_put 42 = .ok (.invokestatic 52, 3) := by decide +kernel
theorem dX4_put_45 : decode cX4_put 45 = .ok (.aload_n 0, 1) := by decide +kernel
theorem dX4_put_46 : decode cX4_put 46 = .ok (.getfield 22, 3) := by decide +kernel
theorem dX4_put_49 : decode cX4_put 49 = .ok (.aload_n 0, 1) := by decide +kernel
theorem dX4_put_50 : decode cX4_put 50 = .ok (.getfield 10, 3) := by decide +kernel
theorem dX4_put_53 : decode cX4_put 53 = .ok (.invokevirtual 55, 3) := by decide +kernel
theorem dX4_put_56 : decode cX4_put 56 = .ok (.aload_n 0, 1) := by decide +kernel
theorem dX4_put_57 : decode cX4_put 57 = .ok (.getfield 10, 3) := by decide +kernel
theorem dX4_put_60 : decode cX4_put 60 = .ok (.iload_n 1, 1) := by decide +kernel
theorem dX4_put_61 : decode cX4_put 61 = .ok (.iload_n 2, 1) := by decide +kernel
theorem dX4_put_62 : decode cX4_put 62 = .ok (.invokevirtual 71, 3) := by decide +kernel
theorem dX4_put_65 : decode cX4_put 65 = .ok (.ireturn, 1) := by decide +kernel
theorem dX4_drop_0 : decode cX4_drop 0 = .ok (.iload_n 1, 1) := by decide +kernel
theorem dX4_drop_1 : decode cX4_drop 1 = .ok (.bipush 16, 2) := by decide +kernel
theorem dX4_drop_3 : decode cX4_drop 3 = .ok (.invokestatic 33, 3) := by decide +kernel
theorem dX4_drop_6 : decode cX4_drop 6 = .ok (.invokestatic 45, 3) := by decide +kernel
theorem dX4_drop_9 : decode cX4_drop 9 = .ok (.aload_n 0, 1) := by decide +kernel
theorem dX4_drop_10 : decode cX4_drop 10 = .ok (.getfield 22, 3) := by decide +kernel
theorem dX4_drop_13 : decode cX4_drop 13 = .ok (.aload_n 0, 1) := by decide +kernel
theorem dX4_drop_14 : decode cX4_drop 14 = .ok (.getfield 10, 3) := by decide +kernel
theorem dX4_drop_17 : decode cX4_drop 17 = .ok (.invokevirtual 55, 3) := by decide +kernel
theorem dX4_drop_20 : decode cX4_drop 20 = .ok (.aload_n 0, 1) := by decide +kernel
theorem dX4_drop_21 : decode cX4_drop 21 = .ok (.getfield 10, 3) := by decide +kernel
theorem dX4_drop_24 : decode cX4_drop 24 = .ok (.iload_n 1, 1) := by decide +kernel
theorem dX4_drop_25 : decode cX4_drop 25 = .ok (.iconst (-1), 1) := by decide +kernel
theorem dX4_drop_26 : decode cX4_drop 26 = .ok (.iconst 3, 1) := by decide +kernel
theorem dX4_drop_27 : decode cX4_drop 27 = .ok (.invokevirtual 74, 3) := by decide +kernel
theorem dX4_drop_30 : decode cX4_drop 30 = .ok (.ireturn, 1) := by decide +kernel
theorem dX4_lock_0 : decode cX4_lock 0 = .ok (.iload_n 1, 1) := by decide +kernel
theorem dX4_lock_1 : decode cX4_lock 1 = .ok (.bipush 20, 2) := by decide +kernel
theorem dX4_lock_3 : decode cX4_lock 3 = .ok (.invokestatic 33, 3) := by decide +kernel
theorem dX4_lock_6 : decode cX4_lock 6 = .ok (.invokestatic 37, 3) := by decide +kernel
theorem dX4_lock_9 : decode cX4_lock 9 = .ok (.aload_n 0, 1) := by decide +kernel
theorem dX4_lock_10 : decode cX4_lock 10 = .ok (.getfield 10, 3) := by decide +kernel
theorem dX4_lock_13 : decode cX4_lock 13 = .ok (.iload_n 1, 1) := by decide +kernel
theorem dX4_lock_14 : decode cX4_lock 14 = .ok (.invokevirtual 48, 3) := by decide +kernel
theorem dX4_lock_17 : decode cX4_lock 17 = .ok (.ifCond .ne 7, 3) := by decide +kernel
theorem dX4_lock_20 : decode cX4_lock 20 = .ok (.iconst 1, 1) := by decide +kernel
theorem dX4_lock_21 : decode cX4_lock 21 = .ok (.goto 4, 3) := by decide +kernel
theorem dX4_lock_24 : decode cX4_lock 24 = .ok (.iconst 0, 1) := by decide +kernel
theorem dX4_lock_25 : decode cX4_lock 25 = .ok (.invokestatic 52, 3) := by decide +kernel
theorem dX4_lock_28 : decode cX4_lock 28 = .ok (.aload_n 0, 1) := by decide +kernel
theorem dX4_lock_29 : decode cX4_lock 29 = .ok (.getfield 22, 3) := by decide +kernel
theorem dX4_lock_32 : decode cX4_lock 32 = .ok (.aload_n 0, 1) := by decide +kernel
theorem dX4_lock_33 : decode cX4_lock 33 = .ok (.getfield 10, 3) := by decide +kernel
theorem dX4_lock_36 : decode cX4_lock 36 = .ok (.invokevirtual 55, 3) := by decide +kernel
theorem dX4_lock_39 : decode cX4_lock 39 = .ok (.aload_n 0, 1) := by decide +kernel
theorem dX4_lock_40 : decode cX4_lock 40 = .ok (.getfield 10, 3) := by decide +kernel
theorem dX4_lock_43 : decode cX4_lock 43 = .ok (.iload_n 1, 1) := by decide +kernel
theorem dX4_lock_44 : decode cX4_lock 44 = .ok (.bipush 15, 2) := by decide +kernel
theorem dX4_lock_46 : decode cX4_lock 46 = .ok (.iconst 3, 1) := by decide +kernel
theorem dX4_lock_47 : decode cX4_lock 47 = .ok (.invokevirtual 59, 3) := by decide +kernel
theorem dX4_lock_50 : decode cX4_lock 50 = .ok (.aload_n 0, 1) := by decide +kernel
theorem dX4_lock_51 : decode cX4_lock 51 = .ok (.getfield 10, 3) := by decide +kernel
theorem dX4_lock_54 : decode cX4_lock 54 = .ok (.invokevirtual 78, 3) := by decide +kernel
theorem dX4_lock_57 : decode cX4_lock 57 = .ok (.ireturn, 1) := by decide +kernel
theorem dX4_refresh_0 : decode cX4_refresh 0 = .ok (.iload_n 1, 1) := by decide +kernel
theorem dX4_refresh_1 : decode cX4_refresh 1 = .ok (.bipush 20, 2) := by decide +kernel
theorem dX4_refresh_3 : decode cX4_refresh 3 = .ok (.invokestatic 33, 3) := by decide +kernel
theorem dX4_refresh_6 : decode cX4_refresh 6 = .ok (.invokestatic 37, 3) := by decide +kernel
theorem dX4_refresh_9 : decode cX4_refresh 9 = .ok (.aload_n 0, 1) := by decide +kernel
theorem dX4_refresh_10 : decode cX4_refresh 10 = .ok (.getfield 10, 3) := by decide +kernel
theorem dX4_refresh_13 : decode cX4_refresh 13 = .ok (.iload_n 1, 1) := by decide +kernel
theorem dX4_refresh_14 : decode cX4_refresh 14 = .ok (.invokevirtual 48, 3) := by decide +kernel
theorem dX4_refresh_17 : decode cX4_refresh 17 = .ok (.ifCond .ne 7, 3) := by decide +kernel
theorem dX4_refresh_20 : decode cX4_refresh 20 = .ok (.iconst 1, 1) := by decide +kernel
theorem dX4_refresh_21 : decode cX4_refresh 21 = .ok (.goto 4, 3) := by decide +kernel
theorem dX4_refresh_24 : decode cX4_refresh 24 = .ok (.iconst 0, 1) := by decide +kernel
theorem dX4_refresh_25 : decode cX4_refresh 25 = .ok (.invokestatic 52, 3) := by decide +kernel
theorem dX4_refresh_28 : decode cX4_refresh 28 = .ok (.aload_n 0, 1) := by decide +kernel
theorem dX4_refresh_29 : decode cX4_refresh 29 = .ok (.getfield 22, 3) := by decide +kernel
theorem dX4_refresh_32 : decode cX4_refresh 32 = .ok (.aload_n 0, 1) := by decide +kernel
theorem dX4_refresh_33 : decode cX4_refresh 33 = .ok (.getfield 10, 3) := by decide +kernel
theorem dX4_refresh_36 : decode cX4_refresh 36 = .ok (.invokevirtual 55, 3) := by decide +kernel
theorem dX4_refresh_39 : decode cX4_refresh 39 = .ok (.aload_n 0, 1) := by decide +kernel
theorem dX4_refresh_40 : decode cX4_refresh 40 = .ok (.getfield 10, 3) := by decide +kernel
theorem dX4_refresh_43 : decode cX4_refresh 43 = .ok (.iload_n 1, 1) := by decide +kernel
theorem dX4_refresh_44 : decode cX4_refresh 44 = .ok (.invokevirtual 81, 3) := by decide +kernel
theorem dX4_refresh_47 : decode cX4_refresh 47 = .ok (.ireturn, 1) := by decide +kernel
theorem dX4_heat_0 : decode cX4_heat 0 = .ok (.iload_n 1, 1) := by decide +kernel
theorem dX4_heat_1 : decode cX4_heat 1 = .ok (.iconst 1, 1) := by decide +kernel
theorem dX4_heat_2 : decode cX4_heat 2 = .ok (.bipush 9, 2) := by decide +kernel
theorem dX4_heat_4 : decode cX4_heat 4 = .ok (.invokestatic 41, 3) := by decide +kernel
theorem dX4_heat_7 : decode cX4_heat 7 = .ok (.invokestatic 45, 3) := by decide +kernel
theorem dX4_heat_10 : decode cX4_heat 10 = .ok (.aload_n 0, 1) := by decide +kernel
theorem dX4_heat_11 : decode cX4_heat 11 = .ok (.getfield 22, 3) := by decide +kernel
theorem dX4_heat_14 : decode cX4_heat 14 = .ok (.aload_n 0, 1) := by decide +kernel
theorem dX4_heat_15 : decode cX4_heat 15 = .ok (.getfield 10, 3) := by decide +kernel
theorem dX4_heat_18 : decode cX4_heat 18 = .ok (.invokevirtual 55, 3) := by decide +kernel
theorem dX4_heat_21 : decode cX4_heat 21 = .ok (.aload_n 0, 1) := by decide +kernel
theorem dX4_heat_22 : decode cX4_heat 22 = .ok (.getfield 10, 3) := by decide +kernel
theorem dX4_heat_25 : decode cX4_heat 25 = .ok (.iload_n 1, 1) := by decide +kernel
theorem dX4_heat_26 : decode cX4_heat 26 = .ok (.invokevirtual 85, 3) := by decide +kernel
theorem dX4_heat_29 : decode cX4_heat 29 = .ok (.ireturn, 1) := by decide +kernel
theorem dX4_pass_0 : decode cX4_pass 0 = .ok (.iload_n 1, 1) := by decide +kernel
theorem dX4_pass_1 : decode cX4_pass 1 = .ok (.iconst 1, 1) := by decide +kernel
theorem dX4_pass_2 : decode cX4_pass 2 = .ok (.bipush 99, 2) := by decide +kernel
theorem dX4_pass_4 : decode cX4_pass 4 = .ok (.invokestatic 41, 3) := by decide +kernel
theorem dX4_pass_7 : decode cX4_pass 7 = .ok (.invokestatic 45, 3) := by decide +kernel
theorem dX4_pass_10 : decode cX4_pass 10 = .ok (.aload_n 0, 1) := by decide +kernel
theorem dX4_pass_11 : decode cX4_pass 11 = .ok (.getfield 10, 3) := by decide +kernel
theorem dX4_pass_14 : decode cX4_pass 14 = .ok (.getfield 88, 3) := by decide +kernel
theorem dX4_pass_17 : decode cX4_pass 17 = .ok (.iload_n 1, 1) := by decide +kernel
theorem dX4_pass_18 : decode cX4_pass 18 = .ok (.iadd, 1) := by decide +kernel
theorem dX4_pass_19 : decode cX4_pass 19 = .ok (.sipush 9999, 3) := by decide +kernel
theorem dX4_pass_22 : decode cX4_pass 22 = .ok (.if_icmp .gt 7, 3) := by decide +kernel
theorem dX4_pass_25 : decode cX4_pass 25 = .ok (.iconst 1, 1) := by decide +kernel
theorem dX4_pass_26 : decode cX4_pass 26 = .ok (.goto 4, 3) := by decide +kernel
theorem dX4_pass_29 : decode cX4_pass 29 = .ok (.iconst 0, 1) := by decide +kernel
theorem dX4_pass_30 : decode cX4_pass 30 = .ok (.invokestatic 52, 3) := by decide +kernel
theorem dX4_pass_33 : decode cX4_pass 33 = .ok (.aload_n 0, 1) := by decide +kernel
theorem dX4_pass_34 : decode cX4_pass 34 = .ok (.getfield 22, 3) := by decide +kernel
theorem dX4_pass_37 : decode cX4_pass 37 = .ok (.aload_n 0, 1) := by decide +kernel
theorem dX4_pass_38 : decode cX4_pass 38 = .ok (.getfield 10, 3) := by decide +kernel
theorem dX4_pass_41 : decode cX4_pass 41 = .ok (.invokevirtual 55, 3) := by decide +kernel
theorem dX4_pass_44 : decode cX4_pass 44 = .ok (.aload_n 0, 1) := by decide +kernel
theorem dX4_pass_45 : decode cX4_pass 45 = .ok (.getfield 10, 3) := by decide +kernel
theorem dX4_pass_48 : decode cX4_pass 48 = .ok (.dup, 1) := by decide +kernel
theorem dX4_pass_49 : decode cX4_pass 49 = .ok (.getfield 88, 3) := by decide +kernel
theorem dX4_pass_52 : decode cX4_pass 52 = .ok (.iload_n 1, 1) := by decide +kernel
theorem dX4_pass_53 : decode cX4_pass 53 = .ok (.iadd, 1) := by decide +kernel
theorem dX4_pass_54 : decode cX4_pass 54 = .ok (.putfield 88, 3) := by decide +kernel
theorem dX4_pass_57 : decode cX4_pass 57 = .ok (.aload_n 0, 1) := by decide +kernel
theorem dX4_pass_58 : decode cX4_pass 58 = .ok (.getfield 10, 3) := by decide +kernel
theorem dX4_pass_61 : decode cX4_pass 61 = .ok (.getfield 88, 3) := by decide +kernel
theorem dX4_pass_64 : decode cX4_pass 64 = .ok (.ireturn, 1) := by decide +kernel
theorem dX4_set_0 : decode cX4_set 0 = .ok (.iload_n 1, 1) := by decide +kernel
theorem dX4_set_1 : decode cX4_set 1 = .ok (.iconst 4, 1) := by decide +kernel
theorem dX4_set_2 : decode cX4_set 2 = .ok (.invokestatic 33, 3) := by decide +kernel
theorem dX4_set_5 : decode cX4_set 5 = .ok (.invokestatic 37, 3) := by decide +kernel
theorem dX4_set_8 : decode cX4_set 8 = .ok (.iload_n 2, 1) := by decide +kernel
theorem dX4_set_9 : decode cX4_set 9 = .ok (.getstatic 92, 3) := by decide +kernel
theorem dX4_set_12 : decode cX4_set 12 = .ok (.iload_n 1, 1) := by decide +kernel
theorem dX4_set_13 : decode cX4_set 13 = .ok (.iaload, 1) := by decide +kernel
theorem dX4_set_14 : decode cX4_set 14 = .ok (.getstatic 96, 3) := by decide +kernel
theorem dX4_set_17 : decode cX4_set 17 = .ok (.iload_n 1, 1) := by decide +kernel
theorem dX4_set_18 : decode cX4_set 18 = .ok (.iaload, 1) := by decide +kernel
theorem dX4_set_19 : decode cX4_set 19 = .ok (.invokestatic 41, 3) := by decide +kernel
theorem dX4_set_22 : decode cX4_set 22 = .ok (.invokestatic 45, 3) := by decide +kernel
theorem dX4_set_25 : decode cX4_set 25 = .ok (.aload_n 0, 1) := by decide +kernel
theorem dX4_set_26 : decode cX4_set 26 = .ok (.getfield 22, 3) := by decide +kernel
theorem dX4_set_29 : decode cX4_set 29 = .ok (.aload_n 0, 1) := by decide +kernel
theorem dX4_set_30 : decode cX4_set 30 = .ok (.getfield 10, 3) := by decide +kernel
theorem dX4_set_33 : decode cX4_set 33 = .ok (.invokevirtual 55, 3) := by decide +kernel
theorem dX4_set_36 : decode cX4_set 36 = .ok (.aload_n 0, 1) := by decide +kernel
theorem dX4_set_37 : decode cX4_set 37 = .ok (.getfield 10, 3) := by decide +kernel
theorem dX4_set_40 : decode cX4_set 40 = .ok (.getfield 99, 3) := by decide +kernel
theorem dX4_set_43 : decode cX4_set 43 = .ok (.iload_n 1, 1) := by decide +kernel
theorem dX4_set_44 : decode cX4_set 44 = .ok (.iaload, 1) := by decide +kernel
theorem dX4_set_45 : decode cX4_set 45 = .ok (.istore_n 3, 1) := by decide +kernel
theorem dX4_set_46 : decode cX4_set 46 = .ok (.aload_n 0, 1) := by decide +kernel
theorem dX4_set_47 : decode cX4_set 47 = .ok (.getfield 10, 3) := by decide +kernel
theorem dX4_set_50 : decode cX4_set 50 = .ok (.getfield 99, 3) := by decide +kernel
theorem dX4_set_53 : decode cX4_set 53 = .ok (.iload_n 1, 1) := by decide +kernel
theorem dX4_set_54 : decode cX4_set 54 = .ok (.iload_n 2, 1) := by decide +kernel
theorem dX4_set_55 : decode cX4_set 55 = .ok (.iastore, 1) := by decide +kernel
theorem dX4_set_56 : decode cX4_set 56 = .ok (.iload_n 3, 1) := by decide +kernel
theorem dX4_set_57 : decode cX4_set 57 = .ok (.ireturn, 1) := by decide +kernel
theorem dX4_append_0 : decode cX4_append 0 = .ok (.iload_n 1, 1) := by decide +kernel
theorem dX4_append_1 : decode cX4_append 1 = .ok (.bipush 33, 2) := by decide +kernel
theorem dX4_append_3 : decode cX4_append 3 = .ok (.bipush 126, 2) := by decide +kernel
theorem dX4_append_5 : decode cX4_append 5 = .ok (.invokestatic 41, 3) := by decide +kernel
theorem dX4_append_8 : decode cX4_append 8 = .ok (.invokestatic 45, 3) := by decide +kernel
theorem dX4_append_11 : decode cX4_append 11 = .ok (.aload_n 0, 1) := by decide +kernel
theorem dX4_append_12 : decode cX4_append 12 = .ok (.getfield 29, 3) := by decide +kernel
theorem dX4_append_15 : decode cX4_append 15 = .ok (.invokevirtual 102, 3) := by decide +kernel
theorem dX4_append_18 : decode cX4_append 18 = .ok (.ifCond .ne 7, 3) := by decide +kernel
theorem dX4_append_21 : decode cX4_append 21 = .ok (.iconst 1, 1) := by decide +kernel
theorem dX4_append_22 : decode cX4_append 22 = .ok (.goto 4, 3) := by decide +kernel
theorem dX4_append_25 : decode cX4_append 25 = .ok (.iconst 0, 1) := by decide +kernel
theorem dX4_append_26 : decode cX4_append 26 = .ok (.invokestatic 52, 3) := by decide +kernel
theorem dX4_append_29 : decode cX4_append 29 = .ok (.aload_n 0, 1) := by decide +kernel
theorem dX4_append_30 : decode cX4_append 30 = .ok (.getfield 29, 3) := by decide +kernel
theorem dX4_append_33 : decode cX4_append 33 = .ok (.iload_n 1, 1) := by decide +kernel
theorem dX4_append_34 : decode cX4_append 34 = .ok (.i2c, 1) := by decide +kernel
theorem dX4_append_35 : decode cX4_append 35 = .ok (.invokevirtual 106, 3) := by decide +kernel
theorem dX4_append_38 : decode cX4_append 38 = .ok (.aload_n 0, 1) := by decide +kernel
theorem dX4_append_39 : decode cX4_append 39 = .ok (.getfield 29, 3) := by decide +kernel
theorem dX4_append_42 : decode cX4_append 42 = .ok (.getfield 110, 3) := by decide +kernel
theorem dX4_append_45 : decode cX4_append 45 = .ok (.ireturn, 1) := by decide +kernel
theorem dX4_clearBuffer_0 : decode cX4_clearBuffer 0 = .ok (.aload_n 0, 1) := by decide +kernel
theorem dX4_clearBuffer_1 : decode cX4_clearBuffer 1 = .ok (.getfield 29, 3) := by decide +kernel
theorem dX4_clearBuffer_4 : decode cX4_clearBuffer 4 = .ok (.getfield 110, 3) := by decide +kernel
theorem dX4_clearBuffer_7 : decode cX4_clearBuffer 7 = .ok (.istore_n 1, 1) := by decide +kernel
theorem dX4_clearBuffer_8 : decode cX4_clearBuffer 8 = .ok (.aload_n 0, 1) := by decide +kernel
theorem dX4_clearBuffer_9 : decode cX4_clearBuffer 9 = .ok (.getfield 29, 3) := by decide +kernel
theorem dX4_clearBuffer_12 : decode cX4_clearBuffer 12 = .ok (.invokevirtual 113, 3) := by decide +kernel
theorem dX4_clearBuffer_15 : decode cX4_clearBuffer 15 = .ok (.iload_n 1, 1) := by decide +kernel
theorem dX4_clearBuffer_16 : decode cX4_clearBuffer 16 = .ok (.ireturn, 1) := by decide +kernel
theorem dX4_firstError_0 : decode cX4_firstError 0 = .ok (.aload_n 0, 1) := by decide +kernel
theorem dX4_firstError_1 : decode cX4_firstError 1 = .ok (.getfield 29, 3) := by decide +kernel
theorem dX4_firstError_4 : decode cX4_firstError 4 = .ok (.invokevirtual 116, 3) := by decide +kernel
theorem dX4_firstError_7 : decode cX4_firstError 7 = .ok (.aload_n 0, 1) := by decide +kernel
theorem dX4_firstError_8 : decode cX4_firstError 8 = .ok (.getfield 29, 3) := by decide +kernel
theorem dX4_firstError_11 : decode cX4_firstError 11 = .ok (.getfield 119, 3) := by decide +kernel
theorem dX4_firstError_14 : decode cX4_firstError 14 = .ok (.ireturn, 1) := by decide +kernel
theorem dX4_run_0 : decode cX4_run 0 = .ok (.aload_n 0, 1) := by decide +kernel
theorem dX4_run_1 : decode cX4_run 1 = .ok (.getfield 29, 3) := by decide +kernel
theorem dX4_run_4 : decode cX4_run 4 = .ok (.invokevirtual 116, 3) := by decide +kernel
theorem dX4_run_7 : decode cX4_run 7 = .ok (.aload_n 0, 1) := by decide +kernel
theorem dX4_run_8 : decode cX4_run 8 = .ok (.getfield 29, 3) := by decide +kernel
theorem dX4_run_11 : decode cX4_run 11 = .ok (.getfield 122, 3) := by decide +kernel
theorem dX4_run_14 : decode cX4_run 14 = .ok (.invokestatic 45, 3) := by decide +kernel
theorem dX4_run_17 : decode cX4_run 17 = .ok (.aload_n 0, 1) := by decide +kernel
theorem dX4_run_18 : decode cX4_run 18 = .ok (.getfield 22, 3) := by decide +kernel
theorem dX4_run_21 : decode cX4_run 21 = .ok (.aload_n 0, 1) := by decide +kernel
theorem dX4_run_22 : decode cX4_run 22 = .ok (.getfield 10, 3) := by decide +kernel
theorem dX4_run_25 : decode cX4_run 25 = .ok (.invokevirtual 55, 3) := by decide +kernel
theorem dX4_run_28 : decode cX4_run 28 = .ok (.iconst 0, 1) := by decide +kernel
theorem dX4_run_29 : decode cX4_run 29 = .ok (.istore_n 1, 1) := by decide +kernel
theorem dX4_run_30 : decode cX4_run 30 = .ok (.iload_n 1, 1) := by decide +kernel
theorem dX4_run_31 : decode cX4_run 31 = .ok (.aload_n 0, 1) := by decide +kernel
theorem dX4_run_32 : decode cX4_run 32 = .ok (.getfield 29, 3) := by decide +kernel
theorem dX4_run_35 : decode cX4_run 35 = .ok (.getfield 126, 3) := by decide +kernel
theorem dX4_run_38 : decode cX4_run 38 = .ok (.if_icmp .ge 17, 3) := by decide +kernel
theorem dX4_run_41 : decode cX4_run 41 = .ok (.aload_n 0, 1) := by decide +kernel
theorem dX4_run_42 : decode cX4_run 42 = .ok (.iload_n 1, 1) := by decide +kernel
theorem dX4_run_43 : decode cX4_run 43 = .ok (.invokevirtual 129, 3) := by decide +kernel
theorem dX4_run_46 : decode cX4_run 46 = .ok (.ifCond .eq 9, 3) := by decide +kernel
theorem dX4_run_49 : decode cX4_run 49 = .ok (.iinc 1 1, 3) := by decide +kernel
theorem dX4_run_52 : decode cX4_run 52 = .ok (.goto (-22), 3) := by decide +kernel
theorem dX4_run_55 : decode cX4_run 55 = .ok (.aload_n 0, 1) := by decide +kernel
theorem dX4_run_56 : decode cX4_run 56 = .ok (.getfield 29, 3) := by decide +kernel
theorem dX4_run_59 : decode cX4_run 59 = .ok (.invokevirtual 113, 3) := by decide +kernel
theorem dX4_run_62 : decode cX4_run 62 = .ok (.iload_n 1, 1) := by decide +kernel
theorem dX4_run_63 : decode cX4_run 63 = .ok (.ireturn, 1) := by decide +kernel
theorem dX4_undo_0 : decode cX4_undo 0 = .ok (.aload_n 0, 1) := by decide +kernel
theorem dX4_undo_1 : decode cX4_undo 1 = .ok (.getfield 22, 3) := by decide +kernel
theorem dX4_undo_4 : decode cX4_undo 4 = .ok (.getfield 132, 3) := by decide +kernel
theorem dX4_undo_7 : decode cX4_undo 7 = .ok (.ifCond .le 7, 3) := by decide +kernel
theorem dX4_undo_10 : decode cX4_undo 10 = .ok (.iconst 1, 1) := by decide +kernel
theorem dX4_undo_11 : decode cX4_undo 11 = .ok (.goto 4, 3) := by decide +kernel
theorem dX4_undo_14 : decode cX4_undo 14 = .ok (.iconst 0, 1) := by decide +kernel
theorem dX4_undo_15 : decode cX4_undo 15 = .ok (.invokestatic 52, 3) := by decide +kernel
theorem dX4_undo_18 : decode cX4_undo 18 = .ok (.aload_n 0, 1) := by decide +kernel
theorem dX4_undo_19 : decode cX4_undo 19 = .ok (.getfield 22, 3) := by decide +kernel
theorem dX4_undo_22 : decode cX4_undo 22 = .ok (.aload_n 0, 1) := by decide +kernel
theorem dX4_undo_23 : decode cX4_undo 23 = .ok (.getfield 10, 3) := by decide +kernel
theorem dX4_undo_26 : decode cX4_undo 26 = .ok (.invokevirtual 135, 3) := by decide +kernel
theorem dX4_undo_29 : decode cX4_undo 29 = .ok (.aload_n 0, 1) := by decide +kernel
theorem dX4_undo_30 : decode cX4_undo 30 = .ok (.getfield 22, 3) := by decide +kernel
theorem dX4_undo_33 : decode cX4_undo 33 = .ok (.getfield 132, 3) := by decide +kernel
theorem dX4_undo_36 : decode cX4_undo 36 = .ok (.ireturn, 1) := by decide +kernel
theorem dX4_fuse_0 : decode cX4_fuse 0 = .ok (.iload_n 1, 1) := by decide +kernel
theorem dX4_fuse_1 : decode cX4_fuse 1 = .ok (.bipush 20, 2) := by decide +kernel
theorem dX4_fuse_3 : decode cX4_fuse 3 = .ok (.invokestatic 33, 3) := by decide +kernel
theorem dX4_fuse_6 : decode cX4_fuse 6 = .ok (.ifCond .eq 16, 3) := by decide +kernel
theorem dX4_fuse_9 : decode cX4_fuse 9 = .ok (.iload_n 2, 1) := by decide +kernel
theorem dX4_fuse_10 : decode cX4_fuse 10 = .ok (.bipush 16, 2) := by decide +kernel
theorem dX4_fuse_12 : decode cX4_fuse 12 = .ok (.invokestatic 33, 3) := by decide +kernel
theorem dX4_fuse_15 : decode cX4_fuse 15 = .ok (.ifCond .eq 7, 3) := by decide +kernel
theorem dX4_fuse_18 : decode cX4_fuse 18 = .ok (.iconst 1, 1) := by decide +kernel
theorem dX4_fuse_19 : decode cX4_fuse 19 = .ok (.goto 4, 3) := by decide +kernel
theorem dX4_fuse_22 : decode cX4_fuse 22 = .ok (.iconst 0, 1) := by decide +kernel
theorem dX4_fuse_23 : decode cX4_fuse 23 = .ok (.invokestatic 37, 3) := by decide +kernel
theorem dX4_fuse_26 : decode cX4_fuse 26 = .ok (.iload_n 3, 1) := by decide +kernel
theorem dX4_fuse_27 : decode cX4_fuse 27 = .ok (.iconst 3, 1) := by decide +kernel
theorem dX4_fuse_28 : decode cX4_fuse 28 = .ok (.invokestatic 33, 3) := by decide +kernel
theorem dX4_fuse_31 : decode cX4_fuse 31 = .ok (.invokestatic 45, 3) := by decide +kernel
theorem dX4_fuse_34 : decode cX4_fuse 34 = .ok (.iload_n 3, 1) := by decide +kernel
theorem dX4_fuse_35 : decode cX4_fuse 35 = .ok (.ifCond .ne 13, 3) := by decide +kernel
theorem dX4_fuse_38 : decode cX4_fuse 38 = .ok (.aload_n 0, 1) := by decide +kernel
theorem dX4_fuse_39 : decode cX4_fuse 39 = .ok (.getfield 10, 3) := by decide +kernel
theorem dX4_fuse_42 : decode cX4_fuse 42 = .ok (.iload_n 1, 1) := by decide +kernel
theorem dX4_fuse_43 : decode cX4_fuse 43 = .ok (.iload_n 2, 1) := by decide +kernel
theorem dX4_fuse_44 : decode cX4_fuse 44 = .ok (.invokevirtual 63, 3) := by decide +kernel
theorem dX4_fuse_47 : decode cX4_fuse 47 = .ok (.ireturn, 1) := by decide +kernel
theorem dX4_fuse_48 : decode cX4_fuse 48 = .ok (.aload_n 0, 1) := by decide +kernel
theorem dX4_fuse_49 : decode cX4_fuse 49 = .ok (.getfield 10, 3) := by decide +kernel
theorem dX4_fuse_52 : decode cX4_fuse 52 = .ok (.iload_n 1, 1) := by decide +kernel
theorem dX4_fuse_53 : decode cX4_fuse 53 = .ok (.aload_n 0, 1) := by decide +kernel
theorem dX4_fuse_54 : decode cX4_fuse 54 = .ok (.getfield 10, 3) := by decide +kernel
theorem dX4_fuse_57 : decode cX4_fuse 57 = .ok (.getfield 88, 3) := by decide +kernel
theorem dX4_fuse_60 : decode cX4_fuse 60 = .ok (.iload_n 3, 1) := by decide +kernel
theorem dX4_fuse_61 : decode cX4_fuse 61 = .ok (.iconst 2, 1) := by decide +kernel
theorem dX4_fuse_62 : decode cX4_fuse 62 = .ok (.if_icmp .ne 7, 3) := by decide +kernel
theorem dX4_fuse_65 : decode cX4_fuse 65 = .ok (.iconst 1, 1) := by decide +kernel
theorem dX4_fuse_66 : decode cX4_fuse 66 = .ok (.goto 4, 3) := by decide +kernel
theorem dX4_fuse_69 : decode cX4_fuse 69 = .ok (.iconst 0, 1) := by decide +kernel
theorem dX4_fuse_70 : decode cX4_fuse 70 = .ok (.invokevirtual 138, 3) := by decide +kernel
theorem dX4_fuse_73 : decode cX4_fuse 73 = .ok (.iload_n 2, 1) := by decide +kernel
theorem dX4_fuse_74 : decode cX4_fuse 74 = .ok (.ishr, 1) := by decide +kernel
theorem dX4_fuse_75 : decode cX4_fuse 75 = .ok (.iconst 1, 1) := by decide +kernel
theorem dX4_fuse_76 : decode cX4_fuse 76 = .ok (.iand, 1) := by decide +kernel
theorem dX4_fuse_77 : decode cX4_fuse 77 = .ok (.ireturn, 1) := by decide +kernel
theorem dX4_row_0 : decode cX4_row 0 = .ok (.iload_n 1, 1) := by decide +kernel
theorem dX4_row_1 : decode cX4_row 1 = .ok (.bipush 20, 2) := by decide +kernel
theorem dX4_row_3 : decode cX4_row 3 = .ok (.invokestatic 33, 3) := by decide +kernel
theorem dX4_row_6 : decode cX4_row 6 = .ok (.invokestatic 37, 3) := by decide +kernel
theorem dX4_row_9 : decode cX4_row 9 = .ok (.iload_n 2, 1) := by decide +kernel
theorem dX4_row_10 : decode cX4_row 10 = .ok (.bipush 9, 2) := by decide +kernel
theorem dX4_row_12 : decode cX4_row 12 = .ok (.invokestatic 33, 3) := by decide +kernel
theorem dX4_row_15 : decode cX4_row 15 = .ok (.invokestatic 45, 3) := by decide +kernel
theorem dX4_row_18 : decode cX4_row 18 = .ok (.aload_n 0, 1) := by decide +kernel
theorem dX4_row_19 : decode cX4_row 19 = .ok (.iload_n 1, 1) := by decide +kernel
theorem dX4_row_20 : decode cX4_row 20 = .ok (.iload_n 2, 1) := by decide +kernel
theorem dX4_row_21 : decode cX4_row 21 = .ok (.invokevirtual 142, 3) := by decide +kernel
theorem dX4_row_24 : decode cX4_row 24 = .ok (.ireturn, 1) := by decide +kernel
theorem dX4_key_0 : decode cX4_key 0 = .ok (.iload_n 1, 1) := by decide +kernel
theorem dX4_key_1 : decode cX4_key 1 = .ok (.bipush 16, 2) := by decide +kernel
theorem dX4_key_3 : decode cX4_key 3 = .ok (.invokestatic 33, 3) := by decide +kernel
theorem dX4_key_6 : decode cX4_key 6 = .ok (.ifCond .eq 16, 3) := by decide +kernel
theorem dX4_key_9 : decode cX4_key 9 = .ok (.iload_n 2, 1) := by decide +kernel
theorem dX4_key_10 : decode cX4_key 10 = .ok (.bipush 6, 2) := by decide +kernel
theorem dX4_key_12 : decode cX4_key 12 = .ok (.invokestatic 33, 3) := by decide +kernel
theorem dX4_key_15 : decode cX4_key 15 = .ok (.ifCond .eq 7, 3) := by decide +kernel
theorem dX4_key_18 : decode cX4_key 18 = .ok (.iconst 1, 1) := by decide +kernel
theorem dX4_key_19 : decode cX4_key 19 = .ok (.goto 4, 3) := by decide +kernel
theorem dX4_key_22 : decode cX4_key 22 = .ok (.iconst 0, 1) := by decide +kernel
theorem dX4_key_23 : decode cX4_key 23 = .ok (.invokestatic 45, 3) := by decide +kernel
theorem dX4_key_26 : decode cX4_key 26 = .ok (.aload_n 0, 1) := by decide +kernel
theorem dX4_key_27 : decode cX4_key 27 = .ok (.iload_n 1, 1) := by decide +kernel
theorem dX4_key_28 : decode cX4_key 28 = .ok (.iload_n 2, 1) := by decide +kernel
theorem dX4_key_29 : decode cX4_key 29 = .ok (.invokevirtual 145, 3) := by decide +kernel
theorem dX4_key_32 : decode cX4_key 32 = .ok (.ireturn, 1) := by decide +kernel
theorem dX4_history_0 : decode cX4_history 0 = .ok (.iload_n 1, 1) := by decide +kernel
theorem dX4_history_1 : decode cX4_history 1 = .ok (.bipush 16, 2) := by decide +kernel
theorem dX4_history_3 : decode cX4_history 3 = .ok (.invokestatic 33, 3) := by decide +kernel
theorem dX4_history_6 : decode cX4_history 6 = .ok (.ifCond .eq 11, 3) := by decide +kernel
theorem dX4_history_9 : decode cX4_history 9 = .ok (.iload_n 2, 1) := by decide +kernel
theorem dX4_history_10 : decode cX4_history 10 = .ok (.ifCond .lt 7, 3) := by decide +kernel
theorem dX4_history_13 : decode cX4_history 13 = .ok (.iconst 1, 1) := by decide +kernel
theorem dX4_history_14 : decode cX4_history 14 = .ok (.goto 4, 3) := by decide +kernel
theorem dX4_history_17 : decode cX4_history 17 = .ok (.iconst 0, 1) := by decide +kernel
theorem dX4_history_18 : decode cX4_history 18 = .ok (.invokestatic 45, 3) := by decide +kernel
theorem dX4_history_21 : decode cX4_history 21 = .ok (.aload_n 0, 1) := by decide +kernel
theorem dX4_history_22 : decode cX4_history 22 = .ok (.getfield 10, 3) := by decide +kernel
theorem dX4_history_25 : decode cX4_history 25 = .ok (.iload_n 1, 1) := by decide +kernel
theorem dX4_history_26 : decode cX4_history 26 = .ok (.iload_n 2, 1) := by decide +kernel
theorem dX4_history_27 : decode cX4_history 27 = .ok (.invokevirtual 148, 3) := by decide +kernel
theorem dX4_history_30 : decode cX4_history 30 = .ok (.ireturn, 1) := by decide +kernel
theorem dX4_count_0 : decode cX4_count 0 = .ok (.iload_n 1, 1) := by decide +kernel
theorem dX4_count_1 : decode cX4_count 1 = .ok (.bipush 13, 2) := by decide +kernel
theorem dX4_count_3 : decode cX4_count 3 = .ok (.invokestatic 33, 3) := by decide +kernel
theorem dX4_count_6 : decode cX4_count 6 = .ok (.invokestatic 45, 3) := by decide +kernel
theorem dX4_count_9 : decode cX4_count 9 = .ok (.aload_n 0, 1) := by decide +kernel
theorem dX4_count_10 : decode cX4_count 10 = .ok (.iload_n 1, 1) := by decide +kernel
theorem dX4_count_11 : decode cX4_count 11 = .ok (.invokevirtual 151, 3) := by decide +kernel
theorem dX4_count_14 : decode cX4_count 14 = .ok (.ireturn, 1) := by decide +kernel
theorem dX4_setting_0 : decode cX4_setting 0 = .ok (.iload_n 1, 1) := by decide +kernel
theorem dX4_setting_1 : decode cX4_setting 1 = .ok (.iconst 4, 1) := by decide +kernel
theorem dX4_setting_2 : decode cX4_setting 2 = .ok (.invokestatic 33, 3) := by decide +kernel
theorem dX4_setting_5 : decode cX4_setting 5 = .ok (.invokestatic 37, 3) := by decide +kernel
theorem dX4_setting_8 : decode cX4_setting 8 = .ok (.aload_n 0, 1) := by decide +kernel
theorem dX4_setting_9 : decode cX4_setting 9 = .ok (.getfield 10, 3) := by decide +kernel
theorem dX4_setting_12 : decode cX4_setting 12 = .ok (.getfield 99, 3) := by decide +kernel
theorem dX4_setting_15 : decode cX4_setting 15 = .ok (.iload_n 1, 1) := by decide +kernel
theorem dX4_setting_16 : decode cX4_setting 16 = .ok (.iaload, 1) := by decide +kernel
theorem dX4_setting_17 : decode cX4_setting 17 = .ok (.ireturn, 1) := by decide +kernel
theorem dX4_ifPut_0 : decode cX4_ifPut 0 = .ok (.iload_n 1, 1) := by decide +kernel
theorem dX4_ifPut_1 : decode cX4_ifPut 1 = .ok (.bipush 16, 2) := by decide +kernel
theorem dX4_ifPut_3 : decode cX4_ifPut 3 = .ok (.invokestatic 33, 3) := by decide +kernel
theorem dX4_ifPut_6 : decode cX4_ifPut 6 = .ok (.ifCond .eq 24, 3) := by decide +kernel
theorem dX4_ifPut_9 : decode cX4_ifPut 9 = .ok (.iload_n 2, 1) := by decide +kernel
theorem dX4_ifPut_10 : decode cX4_ifPut 10 = .ok (.bipush 64, 2) := by decide +kernel
theorem dX4_ifPut_12 : decode cX4_ifPut 12 = .ok (.invokestatic 33, 3) := by decide +kernel
theorem dX4_ifPut_15 : decode cX4_ifPut 15 = .ok (.ifCond .eq 15, 3) := by decide +kernel
theorem dX4_ifPut_18 : decode cX4_ifPut 18 = .ok (.iload_n 3, 1) := by decide +kernel
theorem dX4_ifPut_19 : decode cX4_ifPut 19 = .ok (.iconst 5, 1) := by decide +kernel
theorem dX4_ifPut_20 : decode cX4_ifPut 20 = .ok (.invokestatic 33, 3) := by decide +kernel
theorem dX4_ifPut_23 : decode cX4_ifPut 23 = .ok (.ifCond .eq 7, 3) := by decide +kernel
theorem dX4_ifPut_26 : decode cX4_ifPut 26 = .ok (.iconst 1, 1) := by decide +kernel
theorem dX4_ifPut_27 : decode cX4_ifPut 27 = .ok (.goto 4, 3) := by decide +kernel
theorem dX4_ifPut_30 : decode cX4_ifPut 30 = .ok (.iconst 0, 1) := by decide +kernel
theorem dX4_ifPut_31 : decode cX4_ifPut 31 = .ok (.invokestatic 45, 3) := by decide +kernel
theorem dX4_ifPut_34 : decode cX4_ifPut 34 = .ok (.aload_n 0, 1) := by decide +kernel
theorem dX4_ifPut_35 : decode cX4_ifPut 35 = .ok (.iload_n 1, 1) := by decide +kernel
theorem dX4_ifPut_36 : decode cX4_ifPut 36 = .ok (.iload_n 2, 1) := by decide +kernel
theorem dX4_ifPut_37 : decode cX4_ifPut 37 = .ok (.iload_n 3, 1) := by decide +kernel
theorem dX4_ifPut_38 : decode cX4_ifPut 38 = .ok (.invokevirtual 154, 3) := by decide +kernel
theorem dX4_ifPut_41 : decode cX4_ifPut 41 = .ok (.ireturn, 1) := by decide +kernel
theorem dX4_ifHeated_0 : decode cX4_ifHeated 0 = .ok (.iload_n 1, 1) := by decide +kernel
theorem dX4_ifHeated_1 : decode cX4_ifHeated 1 = .ok (.iconst 1, 1) := by decide +kernel
theorem dX4_ifHeated_2 : decode cX4_ifHeated 2 = .ok (.bipush 9, 2) := by decide +kernel
theorem dX4_ifHeated_4 : decode cX4_ifHeated 4 = .ok (.invokestatic 41, 3) := by decide +kernel
theorem dX4_ifHeated_7 : decode cX4_ifHeated 7 = .ok (.ifCond .eq 15, 3) := by decide +kernel
theorem dX4_ifHeated_10 : decode cX4_ifHeated 10 = .ok (.iload_n 2, 1) := by decide +kernel
theorem dX4_ifHeated_11 : decode cX4_ifHeated 11 = .ok (.iconst 3, 1) := by decide +kernel
theorem dX4_ifHeated_12 : decode cX4_ifHeated 12 = .ok (.invokestatic 33, 3) := by decide +kernel
theorem dX4_ifHeated_15 : decode cX4_ifHeated 15 = .ok (.ifCond .eq 7, 3) := by decide +kernel
theorem dX4_ifHeated_18 : decode cX4_ifHeated 18 = .ok (.iconst 1, 1) := by decide +kernel
theorem dX4_ifHeated_19 : decode cX4_ifHeated 19 = .ok (.goto 4, 3) := by decide +kernel
theorem dX4_ifHeated_22 : decode cX4_ifHeated 22 = .ok (.iconst 0, 1) := by decide +kernel
theorem dX4_ifHeated_23 : decode cX4_ifHeated 23 = .ok (.invokestatic 45, 3) := by decide +kernel
theorem dX4_ifHeated_26 : decode cX4_ifHeated 26 = .ok (.aload_n 0, 1) := by decide +kernel
theorem dX4_ifHeated_27 : decode cX4_ifHeated 27 = .ok (.iload_n 1, 1) := by decide +kernel
theorem dX4_ifHeated_28 : decode cX4_ifHeated 28 = .ok (.iload_n 2, 1) := by decide +kernel
theorem dX4_ifHeated_29 : decode cX4_ifHeated 29 = .ok (.invokevirtual 157, 3) := by decide +kernel
theorem dX4_ifHeated_32 : decode cX4_ifHeated 32 = .ok (.ireturn, 1) := by decide +kernel
theorem dX4_ifRead_0 : decode cX4_ifRead 0 = .ok (.iload_n 1, 1) := by decide +kernel
theorem dX4_ifRead_1 : decode cX4_ifRead 1 = .ok (.iconst 0, 1) := by decide +kernel
theorem dX4_ifRead_2 : decode cX4_ifRead 2 = .ok (.bipush 99, 2) := by decide +kernel
theorem dX4_ifRead_4 : decode cX4_ifRead 4 = .ok (.invokestatic 41, 3) := by decide +kernel
theorem dX4_ifRead_7 : decode cX4_ifRead 7 = .ok (.invokestatic 45, 3) := by decide +kernel
theorem dX4_ifRead_10 : decode cX4_ifRead 10 = .ok (.aload_n 0, 1) := by decide +kernel
theorem dX4_ifRead_11 : decode cX4_ifRead 11 = .ok (.iload_n 1, 1) := by decide +kernel
theorem dX4_ifRead_12 : decode cX4_ifRead 12 = .ok (.iload_n 2, 1) := by decide +kernel
theorem dX4_ifRead_13 : decode cX4_ifRead 13 = .ok (.invokevirtual 160, 3) := by decide +kernel
theorem dX4_ifRead_16 : decode cX4_ifRead 16 = .ok (.ireturn, 1) := by decide +kernel
theorem dX4_worst_0 : decode cX4_worst 0 = .ok (.iconst (-1), 1) := by decide +kernel
theorem dX4_worst_1 : decode cX4_worst 1 = .ok (.istore_n 1, 1) := by decide +kernel
theorem dX4_worst_2 : decode cX4_worst 2 = .ok (.iconst 0, 1) := by decide +kernel
theorem dX4_worst_3 : decode cX4_worst 3 = .ok (.istore_n 2, 1) := by decide +kernel
theorem dX4_worst_4 : decode cX4_worst 4 = .ok (.iconst 0, 1) := by decide +kernel
theorem dX4_worst_5 : decode cX4_worst 5 = .ok (.istore_n 3, 1) := by decide +kernel
theorem dX4_worst_6 : decode cX4_worst 6 = .ok (.iload_n 3, 1) := by decide +kernel
theorem dX4_worst_7 : decode cX4_worst 7 = .ok (.bipush 20, 2) := by decide +kernel
theorem dX4_worst_9 : decode cX4_worst 9 = .ok (.if_icmp .ge 53, 3) := by decide +kernel
theorem dX4_worst_12 : decode cX4_worst 12 = .ok (.aload_n 0, 1) := by decide +kernel
theorem dX4_worst_13 : decode cX4_worst 13 = .ok (.getfield 10, 3) := by decide +kernel
theorem dX4_worst_16 : decode cX4_worst 16 = .ok (.iload_n 3, 1) := by decide +kernel
theorem dX4_worst_17 : decode cX4_worst 17 = .ok (.invokevirtual 164, 3) := by decide +kernel
theorem dX4_worst_20 : decode cX4_worst 20 = .ok (.istore 4, 2) := by decide +kernel
theorem dX4_worst_22 : decode cX4_worst 22 = .ok (.iload 4, 2) := by decide +kernel
theorem dX4_worst_24 : decode cX4_worst 24 = .ok (.iload_n 2, 1) := by decide +kernel
theorem dX4_worst_25 : decode cX4_worst 25 = .ok (.if_icmp .le 31, 3) := by decide +kernel
theorem dX4_worst_28 : decode cX4_worst 28 = .ok (.aload_n 0, 1) := by decide +kernel
theorem dX4_worst_29 : decode cX4_worst 29 = .ok (.getfield 10, 3) := by decide +kernel
theorem dX4_worst_32 : decode cX4_worst 32 = .ok (.iload_n 3, 1) := by decide +kernel
theorem dX4_worst_33 : decode cX4_worst 33 = .ok (.invokevirtual 48, 3) := by decide +kernel
theorem dX4_worst_36 : decode cX4_worst 36 = .ok (.ifCond .ne 20, 3) := by decide +kernel
theorem dX4_worst_39 : decode cX4_worst 39 = .ok (.aload_n 0, 1) := by decide +kernel
theorem dX4_worst_40 : decode cX4_worst 40 = .ok (.getfield 10, 3) := by decide +kernel
theorem dX4_worst_43 : decode cX4_worst 43 = .ok (.iload_n 3, 1) := by decide +kernel
theorem dX4_worst_44 : decode cX4_worst 44 = .ok (.invokevirtual 167, 3) := by decide +kernel
theorem dX4_worst_47 : decode cX4_worst 47 = .ok (.iconst 4, 1) := by decide +kernel
theorem dX4_worst_48 : decode cX4_worst 48 = .ok (.if_icmp .ne 8, 3) := by decide +kernel
theorem dX4_worst_51 : decode cX4_worst 51 = .ok (.iload_n 3, 1) := by decide +kernel
theorem dX4_worst_52 : decode cX4_worst 52 = .ok (.istore_n 1, 1) := by decide +kernel
theorem dX4_worst_53 : decode cX4_worst 53 = .ok (.iload 4, 2) := by decide +kernel
theorem dX4_worst_55 : decode cX4_worst 55 = .ok (.istore_n 2, 1) := by decide +kernel
theorem dX4_worst_56 : decode cX4_worst 56 = .ok (.iinc 3 1, 3) := by decide +kernel
theorem dX4_worst_59 : decode cX4_worst 59 = .ok (.goto (-53), 3) := by decide +kernel
theorem dX4_worst_62 : decode cX4_worst 62 = .ok (.iload_n 1, 1) := by decide +kernel
theorem dX4_worst_63 : decode cX4_worst 63 = .ok (.ireturn, 1) := by decide +kernel
theorem dX4_sureShare_0 : decode cX4_sureShare 0 = .ok (.iconst 0, 1) := by decide +kernel
theorem dX4_sureShare_1 : decode cX4_sureShare 1 = .ok (.istore_n 1, 1) := by decide +kernel
theorem dX4_sureShare_2 : decode cX4_sureShare 2 = .ok (.iconst 0, 1) := by decide +kernel
theorem dX4_sureShare_3 : decode cX4_sureShare 3 = .ok (.istore_n 2, 1) := by decide +kernel
theorem dX4_sureShare_4 : decode cX4_sureShare 4 = .ok (.iconst 0, 1) := by decide +kernel
theorem dX4_sureShare_5 : decode cX4_sureShare 5 = .ok (.istore_n 3, 1) := by decide +kernel
theorem dX4_sureShare_6 : decode cX4_sureShare 6 = .ok (.iload_n 3, 1) := by decide +kernel
theorem dX4_sureShare_7 : decode cX4_sureShare 7 = .ok (.bipush 20, 2) := by decide +kernel
theorem dX4_sureShare_9 : decode cX4_sureShare 9 = .ok (.if_icmp .ge 59, 3) := by decide +kernel
theorem dX4_sureShare_12 : decode cX4_sureShare 12 = .ok (.iload_n 1, 1) := by decide +kernel
theorem dX4_sureShare_13 : decode cX4_sureShare 13 = .ok (.aload_n 0, 1) := by decide +kernel
theorem dX4_sureShare_14 : decode cX4_sureShare 14 = .ok (.getfield 10, 3) := by decide +kernel
theorem dX4_sureShare_17 : decode cX4_sureShare 17 = .ok (.getfield 170, 3) := by decide +kernel
theorem dX4_sureShare_20 : decode cX4_sureShare 20 = .ok (.iload_n 3, 1) := by decide +kernel
theorem dX4_sureShare_21 : decode cX4_sureShare 21 = .ok (.iaload, 1) := by decide +kernel
theorem dX4_sureShare_22 : decode cX4_sureShare 22 = .ok (.aload_n 0, 1) := by decide +kernel
theorem dX4_sureShare_23 : decode cX4_sureShare 23 = .ok (.getfield 10, 3) := by decide +kernel
theorem dX4_sureShare_26 : decode cX4_sureShare 26 = .ok (.getfield 173, 3) := by decide +kernel
theorem dX4_sureShare_29 : decode cX4_sureShare 29 = .ok (.iload_n 3, 1) := by decide +kernel
theorem dX4_sureShare_30 : decode cX4_sureShare 30 = .ok (.iaload, 1) := by decide +kernel
theorem dX4_sureShare_31 : decode cX4_sureShare 31 = .ok (.iand, 1) := by decide +kernel
theorem dX4_sureShare_32 : decode cX4_sureShare 32 = .ok (.invokestatic 176, 3) := by decide +kernel
theorem dX4_sureShare_35 : decode cX4_sureShare 35 = .ok (.iadd, 1) := by decide +kernel
theorem dX4_sureShare_36 : decode cX4_sureShare 36 = .ok (.istore_n 1, 1) := by decide +kernel
theorem dX4_sureShare_37 : decode cX4_sureShare 37 = .ok (.iload_n 2, 1) := by decide +kernel
theorem dX4_sureShare_38 : decode cX4_sureShare 38 = .ok (.aload_n 0, 1) := by decide +kernel
theorem dX4_sureShare_39 : decode cX4_sureShare 39 = .ok (.getfield 10, 3) := by decide +kernel
theorem dX4_sureShare_42 : decode cX4_sureShare 42 = .ok (.getfield 170, 3) := by decide +kernel
theorem dX4_sureShare_45 : decode cX4_sureShare 45 = .ok (.iload_n 3, 1) := by decide +kernel
theorem dX4_sureShare_46 : decode cX4_sureShare 46 = .ok (.iaload, 1) := by decide +kernel
theorem dX4_sureShare_47 : decode cX4_sureShare 47 = .ok (.aload_n 0, 1) := by decide +kernel
theorem dX4_sureShare_48 : decode cX4_sureShare 48 = .ok (.getfield 10, 3) := by decide +kernel
theorem dX4_sureShare_51 : decode cX4_sureShare 51 = .ok (.getfield 173, 3) := by decide +kernel
theorem dX4_sureShare_54 : decode cX4_sureShare 54 = .ok (.iload_n 3, 1) := by decide +kernel
theorem dX4_sureShare_55 : decode cX4_sureShare 55 = .ok (.iaload, 1) := by decide +kernel
theorem dX4_sureShare_56 : decode cX4_sureShare 56 = .ok (.ior, 1) := by decide +kernel
theorem dX4_sureShare_57 : decode cX4_sureShare 57 = .ok (.invokestatic 176, 3) := by decide +kernel
theorem dX4_sureShare_60 : decode cX4_sureShare 60 = .ok (.iadd, 1) := by decide +kernel
theorem dX4_sureShare_61 : decode cX4_sureShare 61 = .ok (.istore_n 2, 1) := by decide +kernel
theorem dX4_sureShare_62 : decode cX4_sureShare 62 = .ok (.iinc 3 1, 3) := by decide +kernel
theorem dX4_sureShare_65 : decode cX4_sureShare 65 = .ok (.goto (-59), 3) := by decide +kernel
theorem dX4_sureShare_68 : decode cX4_sureShare 68 = .ok (.iload_n 2, 1) := by decide +kernel
theorem dX4_sureShare_69 : decode cX4_sureShare 69 = .ok (.ifCond .ne 5, 3) := by decide +kernel
theorem dX4_sureShare_72 : decode cX4_sureShare 72 = .ok (.dconst 1, 1) := by decide +kernel
theorem dX4_sureShare_73 : decode cX4_sureShare 73 = .ok (.dreturn, 1) := by decide +kernel
theorem dX4_sureShare_74 : decode cX4_sureShare 74 = .ok (.iload_n 1, 1) := by decide +kernel
theorem dX4_sureShare_75 : decode cX4_sureShare 75 = .ok (.i2d, 1) := by decide +kernel
theorem dX4_sureShare_76 : decode cX4_sureShare 76 = .ok (.iload_n 2, 1) := by decide +kernel
theorem dX4_sureShare_77 : decode cX4_sureShare 77 = .ok (.i2d, 1) := by decide +kernel
theorem dX4_sureShare_78 : decode cX4_sureShare 78 = .ok (.ddiv, 1) := by decide +kernel
theorem dX4_sureShare_79 : decode cX4_sureShare 79 = .ok (.dreturn, 1) := by decide +kernel
theorem dX4_digest_0 : decode cX4_digest 0 = .ok (.ldc2_w 181, 3) := by decide +kernel
theorem dX4_digest_3 : decode cX4_digest 3 = .ok (.lstore_n 1, 1) := by decide +kernel
theorem dX4_digest_4 : decode cX4_digest 4 = .ok (.iconst 0, 1) := by decide +kernel
theorem dX4_digest_5 : decode cX4_digest 5 = .ok (.istore_n 3, 1) := by decide +kernel
theorem dX4_digest_6 : decode cX4_digest 6 = .ok (.iload_n 3, 1) := by decide +kernel
theorem dX4_digest_7 : decode cX4_digest 7 = .ok (.bipush 13, 2) := by decide +kernel
theorem dX4_digest_9 : decode cX4_digest 9 = .ok (.if_icmp .ge 22, 3) := by decide +kernel
theorem dX4_digest_12 : decode cX4_digest 12 = .ok (.ldc2_w 183, 3) := by decide +kernel
theorem dX4_digest_15 : decode cX4_digest 15 = .ok (.lload_n 1, 1) := by decide +kernel
theorem dX4_digest_16 : decode cX4_digest 16 = .ok (.lmul, 1) := by decide +kernel
theorem dX4_digest_17 : decode cX4_digest 17 = .ok (.aload_n 0, 1) := by decide +kernel
theorem dX4_digest_18 : decode cX4_digest 18 = .ok (.iload_n 3, 1) := by decide +kernel
theorem dX4_digest_19 : decode cX4_digest 19 = .ok (.invokevirtual 151, 3) := by decide +kernel
theorem dX4_digest_22 : decode cX4_digest 22 = .ok (.i2l, 1) := by decide +kernel
theorem dX4_digest_23 : decode cX4_digest 23 = .ok (.ladd, 1) := by decide +kernel
theorem dX4_digest_24 : decode cX4_digest 24 = .ok (.lstore_n 1, 1) := by decide +kernel
theorem dX4_digest_25 : decode cX4_digest 25 = .ok (.iinc 3 1, 3) := by decide +kernel
theorem dX4_digest_28 : decode cX4_digest 28 = .ok (.goto (-22), 3) := by decide +kernel
theorem dX4_digest_31 : decode cX4_digest 31 = .ok (.iconst 0, 1) := by decide +kernel
theorem dX4_digest_32 : decode cX4_digest 32 = .ok (.istore_n 3, 1) := by decide +kernel
theorem dX4_digest_33 : decode cX4_digest 33 = .ok (.iload_n 3, 1) := by decide +kernel
theorem dX4_digest_34 : decode cX4_digest 34 = .ok (.iconst 4, 1) := by decide +kernel
theorem dX4_digest_35 : decode cX4_digest 35 = .ok (.if_icmp .ge 26, 3) := by decide +kernel
theorem dX4_digest_38 : decode cX4_digest 38 = .ok (.ldc2_w 183, 3) := by decide +kernel
theorem dX4_digest_41 : decode cX4_digest 41 = .ok (.lload_n 1, 1) := by decide +kernel
theorem dX4_digest_42 : decode cX4_digest 42 = .ok (.lmul, 1) := by decide +kernel
theorem dX4_digest_43 : decode cX4_digest 43 = .ok (.aload_n 0, 1) := by decide +kernel
theorem dX4_digest_44 : decode cX4_digest 44 = .ok (.getfield 10, 3) := by decide +kernel
theorem dX4_digest_47 : decode cX4_digest 47 = .ok (.getfield 99, 3) := by decide +kernel
theorem dX4_digest_50 : decode cX4_digest 50 = .ok (.iload_n 3, 1) := by decide +kernel
theorem dX4_digest_51 : decode cX4_digest 51 = .ok (.iaload, 1) := by decide +kernel
theorem dX4_digest_52 : decode cX4_digest 52 = .ok (.i2l, 1) := by decide +kernel
theorem dX4_digest_53 : decode cX4_digest 53 = .ok (.ladd, 1) := by decide +kernel
theorem dX4_digest_54 : decode cX4_digest 54 = .ok (.lstore_n 1, 1) := by decide +kernel
theorem dX4_digest_55 : decode cX4_digest 55 = .ok (.iinc 3 1, 3) := by decide +kernel
theorem dX4_digest_58 : decode cX4_digest 58 = .ok (.goto (-25), 3) := by decide +kernel
theorem dX4_digest_61 : decode cX4_digest 61 = .ok (.iconst 0, 1) := by decide +kernel
theorem dX4_digest_62 : decode cX4_digest 62 = .ok (.istore_n 3, 1) := by decide +kernel
theorem dX4_digest_63 : decode cX4_digest 63 = .ok (.iload_n 3, 1) := by decide +kernel
theorem dX4_digest_64 : decode cX4_digest 64 = .ok (.bipush 20, 2) := by decide +kernel
theorem dX4_digest_66 : decode cX4_digest 66 = .ok (.if_icmp .ge 74, 3) := by decide +kernel
theorem dX4_digest_69 : decode cX4_digest 69 = .ok (.iconst 0, 1) := by decide +kernel
theorem dX4_digest_70 : decode cX4_digest 70 = .ok (.istore 4, 2) := by decide +kernel
theorem dX4_digest_72 : decode cX4_digest 72 = .ok (.iload 4, 2) := by decide +kernel
theorem dX4_digest_74 : decode cX4_digest 74 = .ok (.bipush 9, 2) := by decide +kernel
theorem dX4_digest_76 : decode cX4_digest 76 = .ok (.if_icmp .ge 24, 3) := by decide +kernel
theorem dX4_digest_79 : decode cX4_digest 79 = .ok (.ldc2_w 183, 3) := by decide +kernel
theorem dX4_digest_82 : decode cX4_digest 82 = .ok (.lload_n 1, 1) := by decide +kernel
theorem dX4_digest_83 : decode cX4_digest 83 = .ok (.lmul, 1) := by decide +kernel
theorem dX4_digest_84 : decode cX4_digest 84 = .ok (.aload_n 0, 1) := by decide +kernel
theorem dX4_digest_85 : decode cX4_digest 85 = .ok (.iload_n 3, 1) := by decide +kernel
theorem dX4_digest_86 : decode cX4_digest 86 = .ok (.iload 4, 2) := by decide +kernel
theorem dX4_digest_88 : decode cX4_digest 88 = .ok (.invokevirtual 142, 3) := by decide +kernel
theorem dX4_digest_91 : decode cX4_digest 91 = .ok (.i2l, 1) := by decide +kernel
theorem dX4_digest_92 : decode cX4_digest 92 = .ok (.ladd, 1) := by decide +kernel
theorem dX4_digest_93 : decode cX4_digest 93 = .ok (.lstore_n 1, 1) := by decide +kernel
theorem dX4_digest_94 : decode cX4_digest 94 = .ok (.iinc 4 1, 3) := by decide +kernel
theorem dX4_digest_97 : decode cX4_digest 97 = .ok (.goto (-25), 3) := by decide +kernel
theorem dX4_digest_100 : decode cX4_digest 100 = .ok (.iconst 0, 1) := by decide +kernel
theorem dX4_digest_101 : decode cX4_digest 101 = .ok (.istore 4, 2) := by decide +kernel
theorem dX4_digest_103 : decode cX4_digest 103 = .ok (.iload 4, 2) := by decide +kernel
theorem dX4_digest_105 : decode cX4_digest 105 = .ok (.bipush 16, 2) := by decide +kernel
theorem dX4_digest_107 : decode cX4_digest 107 = .ok (.if_icmp .ge 27, 3) := by decide +kernel
theorem dX4_digest_110 : decode cX4_digest 110 = .ok (.ldc2_w 183, 3) := by decide +kernel
theorem dX4_digest_113 : decode cX4_digest 113 = .ok (.lload_n 1, 1) := by decide +kernel
theorem dX4_digest_114 : decode cX4_digest 114 = .ok (.lmul, 1) := by decide +kernel
theorem dX4_digest_115 : decode cX4_digest 115 = .ok (.aload_n 0, 1) := by decide +kernel
theorem dX4_digest_116 : decode cX4_digest 116 = .ok (.getfield 10, 3) := by decide +kernel
theorem dX4_digest_119 : decode cX4_digest 119 = .ok (.iload_n 3, 1) := by decide +kernel
theorem dX4_digest_120 : decode cX4_digest 120 = .ok (.iload 4, 2) := by decide +kernel
theorem dX4_digest_122 : decode cX4_digest 122 = .ok (.invokevirtual 63, 3) := by decide +kernel
theorem dX4_digest_125 : decode cX4_digest 125 = .ok (.i2l, 1) := by decide +kernel
theorem dX4_digest_126 : decode cX4_digest 126 = .ok (.ladd, 1) := by decide +kernel
theorem dX4_digest_127 : decode cX4_digest 127 = .ok (.lstore_n 1, 1) := by decide +kernel
theorem dX4_digest_128 : decode cX4_digest 128 = .ok (.iinc 4 1, 3) := by decide +kernel
theorem dX4_digest_131 : decode cX4_digest 131 = .ok (.goto (-28), 3) := by decide +kernel
theorem dX4_digest_134 : decode cX4_digest 134 = .ok (.iinc 3 1, 3) := by decide +kernel
theorem dX4_digest_137 : decode cX4_digest 137 = .ok (.goto (-74), 3) := by decide +kernel
theorem dX4_digest_140 : decode cX4_digest 140 = .ok (.iconst 0, 1) := by decide +kernel
theorem dX4_digest_141 : decode cX4_digest 141 = .ok (.istore_n 3, 1) := by decide +kernel
theorem dX4_digest_142 : decode cX4_digest 142 = .ok (.iload_n 3, 1) := by decide +kernel
theorem dX4_digest_143 : decode cX4_digest 143 = .ok (.bipush 16, 2) := by decide +kernel
theorem dX4_digest_145 : decode cX4_digest 145 = .ok (.if_icmp .ge 74, 3) := by decide +kernel
theorem dX4_digest_148 : decode cX4_digest 148 = .ok (.iconst 0, 1) := by decide +kernel
theorem dX4_digest_149 : decode cX4_digest 149 = .ok (.istore 4, 2) := by decide +kernel
theorem dX4_digest_151 : decode cX4_digest 151 = .ok (.iload 4, 2) := by decide +kernel
theorem dX4_digest_153 : decode cX4_digest 153 = .ok (.bipush 6, 2) := by decide +kernel
theorem dX4_digest_155 : decode cX4_digest 155 = .ok (.if_icmp .ge 24, 3) := by decide +kernel
theorem dX4_digest_158 : decode cX4_digest 158 = .ok (.ldc2_w 183, 3) := by decide +kernel
theorem dX4_digest_161 : decode cX4_digest 161 = .ok (.lload_n 1, 1) := by decide +kernel
theorem dX4_digest_162 : decode cX4_digest 162 = .ok (.lmul, 1) := by decide +kernel
theorem dX4_digest_163 : decode cX4_digest 163 = .ok (.aload_n 0, 1) := by decide +kernel
theorem dX4_digest_164 : decode cX4_digest 164 = .ok (.iload_n 3, 1) := by decide +kernel
theorem dX4_digest_165 : decode cX4_digest 165 = .ok (.iload 4, 2) := by decide +kernel
theorem dX4_digest_167 : decode cX4_digest 167 = .ok (.invokevirtual 145, 3) := by decide +kernel
theorem dX4_digest_170 : decode cX4_digest 170 = .ok (.i2l, 1) := by decide +kernel
theorem dX4_digest_171 : decode cX4_digest 171 = .ok (.ladd, 1) := by decide +kernel
theorem dX4_digest_172 : decode cX4_digest 172 = .ok (.lstore_n 1, 1) := by decide +kernel
theorem dX4_digest_173 : decode cX4_digest 173 = .ok (.iinc 4 1, 3) := by decide +kernel
theorem dX4_digest_176 : decode cX4_digest 176 = .ok (.goto (-25), 3) := by decide +kernel
theorem dX4_digest_179 : decode cX4_digest 179 = .ok (.ldc2_w 183, 3) := by decide +kernel
theorem dX4_digest_182 : decode cX4_digest 182 = .ok (.lload_n 1, 1) := by decide +kernel
theorem dX4_digest_183 : decode cX4_digest 183 = .ok (.lmul, 1) := by decide +kernel
theorem dX4_digest_184 : decode cX4_digest 184 = .ok (.aload_n 0, 1) := by decide +kernel
theorem dX4_digest_185 : decode cX4_digest 185 = .ok (.getfield 10, 3) := by decide +kernel
theorem dX4_digest_188 : decode cX4_digest 188 = .ok (.iload_n 3, 1) := by decide +kernel
theorem dX4_digest_189 : decode cX4_digest 189 = .ok (.iconst 0, 1) := by decide +kernel
theorem dX4_digest_190 : decode cX4_digest 190 = .ok (.invokevirtual 148, 3) := by decide +kernel
theorem dX4_digest_193 : decode cX4_digest 193 = .ok (.i2l, 1) := by decide +kernel
theorem dX4_digest_194 : decode cX4_digest 194 = .ok (.ladd, 1) := by decide +kernel
theorem dX4_digest_195 : decode cX4_digest 195 = .ok (.lstore_n 1, 1) := by decide +kernel
theorem dX4_digest_196 : decode cX4_digest 196 = .ok (.ldc2_w 183, 3) := by decide +kernel
theorem dX4_digest_199 : decode cX4_digest 199 = .ok (.lload_n 1, 1) := by decide +kernel
theorem dX4_digest_200 : decode cX4_digest 200 = .ok (.lmul, 1) := by decide +kernel
theorem dX4_digest_201 : decode cX4_digest 201 = .ok (.aload_n 0, 1) := by decide +kernel
theorem dX4_digest_202 : decode cX4_digest 202 = .ok (.getfield 10, 3) := by decide +kernel
theorem dX4_digest_205 : decode cX4_digest 205 = .ok (.iload_n 3, 1) := by decide +kernel
theorem dX4_digest_206 : decode cX4_digest 206 = .ok (.iconst 1, 1) := by decide +kernel
theorem dX4_digest_207 : decode cX4_digest 207 = .ok (.invokevirtual 148, 3) := by decide +kernel
theorem dX4_digest_210 : decode cX4_digest 210 = .ok (.i2l, 1) := by decide +kernel
theorem dX4_digest_211 : decode cX4_digest 211 = .ok (.ladd, 1) := by decide +kernel
theorem dX4_digest_212 : decode cX4_digest 212 = .ok (.lstore_n 1, 1) := by decide +kernel
theorem dX4_digest_213 : decode cX4_digest 213 = .ok (.iinc 3 1, 3) := by decide +kernel
theorem dX4_digest_216 : decode cX4_digest 216 = .ok (.goto (-74), 3) := by decide +kernel
theorem dX4_digest_219 : decode cX4_digest 219 = .ok (.iconst 0, 1) := by decide +kernel
theorem dX4_digest_220 : decode cX4_digest 220 = .ok (.istore_n 3, 1) := by decide +kernel
theorem dX4_digest_221 : decode cX4_digest 221 = .ok (.iload_n 3, 1) := by decide +kernel
theorem dX4_digest_222 : decode cX4_digest 222 = .ok (.iconst 5, 1) := by decide +kernel
theorem dX4_digest_223 : decode cX4_digest 223 = .ok (.if_icmp .ge 24, 3) := by decide +kernel
theorem dX4_digest_226 : decode cX4_digest 226 = .ok (.ldc2_w 183, 3) := by decide +kernel
theorem dX4_digest_229 : decode cX4_digest 229 = .ok (.lload_n 1, 1) := by decide +kernel
theorem dX4_digest_230 : decode cX4_digest 230 = .ok (.lmul, 1) := by decide +kernel
theorem dX4_digest_231 : decode cX4_digest 231 = .ok (.aload_n 0, 1) := by decide +kernel
theorem dX4_digest_232 : decode cX4_digest 232 = .ok (.iconst 3, 1) := by decide +kernel
theorem dX4_digest_233 : decode cX4_digest 233 = .ok (.iconst 5, 1) := by decide +kernel
theorem dX4_digest_234 : decode cX4_digest 234 = .ok (.iload_n 3, 1) := by decide +kernel
theorem dX4_digest_235 : decode cX4_digest 235 = .ok (.invokevirtual 154, 3) := by decide +kernel
theorem dX4_digest_238 : decode cX4_digest 238 = .ok (.i2l, 1) := by decide +kernel
theorem dX4_digest_239 : decode cX4_digest 239 = .ok (.ladd, 1) := by decide +kernel
theorem dX4_digest_240 : decode cX4_digest 240 = .ok (.lstore_n 1, 1) := by decide +kernel
theorem dX4_digest_241 : decode cX4_digest 241 = .ok (.iinc 3 1, 3) := by decide +kernel
theorem dX4_digest_244 : decode cX4_digest 244 = .ok (.goto (-23), 3) := by decide +kernel
theorem dX4_digest_247 : decode cX4_digest 247 = .ok (.iconst 0, 1) := by decide +kernel
theorem dX4_digest_248 : decode cX4_digest 248 = .ok (.istore_n 3, 1) := by decide +kernel
theorem dX4_digest_249 : decode cX4_digest 249 = .ok (.iload_n 3, 1) := by decide +kernel
theorem dX4_digest_250 : decode cX4_digest 250 = .ok (.iconst 3, 1) := by decide +kernel
theorem dX4_digest_251 : decode cX4_digest 251 = .ok (.if_icmp .ge 24, 3) := by decide +kernel
theorem dX4_digest_254 : decode cX4_digest 254 = .ok (.ldc2_w 183, 3) := by decide +kernel
theorem dX4_digest_257 : decode cX4_digest 257 = .ok (.lload_n 1, 1) := by decide +kernel
theorem dX4_digest_258 : decode cX4_digest 258 = .ok (.lmul, 1) := by decide +kernel
theorem dX4_digest_259 : decode cX4_digest 259 = .ok (.aload_n 0, 1) := by decide +kernel
theorem dX4_digest_260 : decode cX4_digest 260 = .ok (.bipush 6, 2) := by decide +kernel
theorem dX4_digest_262 : decode cX4_digest 262 = .ok (.iload_n 3, 1) := by decide +kernel
theorem dX4_digest_263 : decode cX4_digest 263 = .ok (.invokevirtual 157, 3) := by decide +kernel
theorem dX4_digest_266 : decode cX4_digest 266 = .ok (.i2l, 1) := by decide +kernel
theorem dX4_digest_267 : decode cX4_digest 267 = .ok (.ladd, 1) := by decide +kernel
theorem dX4_digest_268 : decode cX4_digest 268 = .ok (.lstore_n 1, 1) := by decide +kernel
theorem dX4_digest_269 : decode cX4_digest 269 = .ok (.iinc 3 1, 3) := by decide +kernel
theorem dX4_digest_272 : decode cX4_digest 272 = .ok (.goto (-23), 3) := by decide +kernel
theorem dX4_digest_275 : decode cX4_digest 275 = .ok (.ldc2_w 183, 3) := by decide +kernel
theorem dX4_digest_278 : decode cX4_digest 278 = .ok (.lload_n 1, 1) := by decide +kernel
theorem dX4_digest_279 : decode cX4_digest 279 = .ok (.lmul, 1) := by decide +kernel
theorem dX4_digest_280 : decode cX4_digest 280 = .ok (.aload_n 0, 1) := by decide +kernel
theorem dX4_digest_281 : decode cX4_digest 281 = .ok (.iconst 1, 1) := by decide +kernel
theorem dX4_digest_282 : decode cX4_digest 282 = .ok (.iconst 0, 1) := by decide +kernel
theorem dX4_digest_283 : decode cX4_digest 283 = .ok (.invokevirtual 160, 3) := by decide +kernel
theorem dX4_digest_286 : decode cX4_digest 286 = .ok (.i2l, 1) := by decide +kernel
theorem dX4_digest_287 : decode cX4_digest 287 = .ok (.ladd, 1) := by decide +kernel
theorem dX4_digest_288 : decode cX4_digest 288 = .ok (.lstore_n 1, 1) := by decide +kernel
theorem dX4_digest_289 : decode cX4_digest 289 = .ok (.ldc2_w 183, 3) := by decide +kernel
theorem dX4_digest_292 : decode cX4_digest 292 = .ok (.lload_n 1, 1) := by decide +kernel
theorem dX4_digest_293 : decode cX4_digest 293 = .ok (.lmul, 1) := by decide +kernel
theorem dX4_digest_294 : decode cX4_digest 294 = .ok (.aload_n 0, 1) := by decide +kernel
theorem dX4_digest_295 : decode cX4_digest 295 = .ok (.iconst 1, 1) := by decide +kernel
theorem dX4_digest_296 : decode cX4_digest 296 = .ok (.iconst 1, 1) := by decide +kernel
theorem dX4_digest_297 : decode cX4_digest 297 = .ok (.invokevirtual 160, 3) := by decide +kernel
theorem dX4_digest_300 : decode cX4_digest 300 = .ok (.i2l, 1) := by decide +kernel
theorem dX4_digest_301 : decode cX4_digest 301 = .ok (.ladd, 1) := by decide +kernel
theorem dX4_digest_302 : decode cX4_digest 302 = .ok (.lstore_n 1, 1) := by decide +kernel
theorem dX4_digest_303 : decode cX4_digest 303 = .ok (.ldc2_w 183, 3) := by decide +kernel
theorem dX4_digest_306 : decode cX4_digest 306 = .ok (.lload_n 1, 1) := by decide +kernel
theorem dX4_digest_307 : decode cX4_digest 307 = .ok (.lmul, 1) := by decide +kernel
theorem dX4_digest_308 : decode cX4_digest 308 = .ok (.aload_n 0, 1) := by decide +kernel
theorem dX4_digest_309 : decode cX4_digest 309 = .ok (.invokevirtual 185, 3) := by decide +kernel
theorem dX4_digest_312 : decode cX4_digest 312 = .ok (.i2l, 1) := by decide +kernel
theorem dX4_digest_313 : decode cX4_digest 313 = .ok (.ladd, 1) := by decide +kernel
theorem dX4_digest_314 : decode cX4_digest 314 = .ok (.lstore_n 1, 1) := by decide +kernel
theorem dX4_digest_315 : decode cX4_digest 315 = .ok (.ldc2_w 183, 3) := by decide +kernel
theorem dX4_digest_318 : decode cX4_digest 318 = .ok (.lload_n 1, 1) := by decide +kernel
theorem dX4_digest_319 : decode cX4_digest 319 = .ok (.lmul, 1) := by decide +kernel
theorem dX4_digest_320 : decode cX4_digest 320 = .ok (.aload_n 0, 1) := by decide +kernel
theorem dX4_digest_321 : decode cX4_digest 321 = .ok (.invokevirtual 188, 3) := by decide +kernel
theorem dX4_digest_324 : decode cX4_digest 324 = .ok (.invokestatic 192, 3) := by decide +kernel
theorem dX4_digest_327 : decode cX4_digest 327 = .ok (.ladd, 1) := by decide +kernel
theorem dX4_digest_328 : decode cX4_digest 328 = .ok (.lstore_n 1, 1) := by decide +kernel
theorem dX4_digest_329 : decode cX4_digest 329 = .ok (.ldc2_w 183, 3) := by decide +kernel
theorem dX4_digest_332 : decode cX4_digest 332 = .ok (.lload_n 1, 1) := by decide +kernel
theorem dX4_digest_333 : decode cX4_digest 333 = .ok (.lmul, 1) := by decide +kernel
theorem dX4_digest_334 : decode cX4_digest 334 = .ok (.aload_n 0, 1) := by decide +kernel
theorem dX4_digest_335 : decode cX4_digest 335 = .ok (.getfield 29, 3) := by decide +kernel
theorem dX4_digest_338 : decode cX4_digest 338 = .ok (.getfield 110, 3) := by decide +kernel
theorem dX4_digest_341 : decode cX4_digest 341 = .ok (.i2l, 1) := by decide +kernel
theorem dX4_digest_342 : decode cX4_digest 342 = .ok (.ladd, 1) := by decide +kernel
theorem dX4_digest_343 : decode cX4_digest 343 = .ok (.lstore_n 1, 1) := by decide +kernel
theorem dX4_digest_344 : decode cX4_digest 344 = .ok (.iconst 0, 1) := by decide +kernel
theorem dX4_digest_345 : decode cX4_digest 345 = .ok (.istore_n 3, 1) := by decide +kernel
theorem dX4_digest_346 : decode cX4_digest 346 = .ok (.iload_n 3, 1) := by decide +kernel
theorem dX4_digest_347 : decode cX4_digest 347 = .ok (.aload_n 0, 1) := by decide +kernel
theorem dX4_digest_348 : decode cX4_digest 348 = .ok (.getfield 29, 3) := by decide +kernel
theorem dX4_digest_351 : decode cX4_digest 351 = .ok (.getfield 110, 3) := by decide +kernel
theorem dX4_digest_354 : decode cX4_digest 354 = .ok (.if_icmp .ge 26, 3) := by decide +kernel
theorem dX4_digest_357 : decode cX4_digest 357 = .ok (.ldc2_w 183, 3) := by decide +kernel
theorem dX4_digest_360 : decode cX4_digest 360 = .ok (.lload_n 1, 1) := by decide +kernel
theorem dX4_digest_361 : decode cX4_digest 361 = .ok (.lmul, 1) := by decide +kernel
theorem dX4_digest_362 : decode cX4_digest 362 = .ok (.aload_n 0, 1) := by decide +kernel
theorem dX4_digest_363 : decode cX4_digest 363 = .ok (.getfield 29, 3) := by decide +kernel
theorem dX4_digest_366 : decode cX4_digest 366 = .ok (.getfield 196, 3) := by decide +kernel
theorem dX4_digest_369 : decode cX4_digest 369 = .ok (.iload_n 3, 1) := by decide +kernel
theorem dX4_digest_370 : decode cX4_digest 370 = .ok (.caload, 1) := by decide +kernel
theorem dX4_digest_371 : decode cX4_digest 371 = .ok (.i2l, 1) := by decide +kernel
theorem dX4_digest_372 : decode cX4_digest 372 = .ok (.ladd, 1) := by decide +kernel
theorem dX4_digest_373 : decode cX4_digest 373 = .ok (.lstore_n 1, 1) := by decide +kernel
theorem dX4_digest_374 : decode cX4_digest 374 = .ok (.iinc 3 1, 3) := by decide +kernel
theorem dX4_digest_377 : decode cX4_digest 377 = .ok (.goto (-31), 3) := by decide +kernel
theorem dX4_digest_380 : decode cX4_digest 380 = .ok (.lload_n 1, 1) := by decide +kernel
theorem dX4_digest_381 : decode cX4_digest 381 = .ok (.lreturn, 1) := by decide +kernel
theorem dX4_isIndex_0 : decode cX4_isIndex 0 = .ok (.iload_n 0, 1) := by decide +kernel
theorem dX4_isIndex_1 : decode cX4_isIndex 1 = .ok (.ifCond .lt 12, 3) := by decide +kernel
theorem dX4_isIndex_4 : decode cX4_isIndex 4 = .ok (.iload_n 0, 1) := by decide +kernel
theorem dX4_isIndex_5 : decode cX4_isIndex 5 = .ok (.iload_n 1, 1) := by decide +kernel
theorem dX4_isIndex_6 : decode cX4_isIndex 6 = .ok (.if_icmp .ge 7, 3) := by decide +kernel
theorem dX4_isIndex_9 : decode cX4_isIndex 9 = .ok (.iconst 1, 1) := by decide +kernel
theorem dX4_isIndex_10 : decode cX4_isIndex 10 = .ok (.goto 4, 3) := by decide +kernel
theorem dX4_isIndex_13 : decode cX4_isIndex 13 = .ok (.iconst 0, 1) := by decide +kernel
theorem dX4_isIndex_14 : decode cX4_isIndex 14 = .ok (.ireturn, 1) := by decide +kernel
theorem dX4_isWithin_0 : decode cX4_isWithin 0 = .ok (.iload_n 0, 1) := by decide +kernel
theorem dX4_isWithin_1 : decode cX4_isWithin 1 = .ok (.iload_n 1, 1) := by decide +kernel
theorem dX4_isWithin_2 : decode cX4_isWithin 2 = .ok (.if_icmp .lt 12, 3) := by decide +kernel
theorem dX4_isWithin_5 : decode cX4_isWithin 5 = .ok (.iload_n 0, 1) := by decide +kernel
theorem dX4_isWithin_6 : decode cX4_isWithin 6 = .ok (.iload_n 2, 1) := by decide +kernel
theorem dX4_isWithin_7 : decode cX4_isWithin 7 = .ok (.if_icmp .gt 7, 3) := by decide +kernel
theorem dX4_isWithin_10 : decode cX4_isWithin 10 = .ok (.iconst 1, 1) := by decide +kernel
theorem dX4_isWithin_11 : decode cX4_isWithin 11 = .ok (.goto 4, 3) := by decide +kernel
theorem dX4_isWithin_14 : decode cX4_isWithin 14 = .ok (.iconst 0, 1) := by decide +kernel
theorem dX4_isWithin_15 : decode cX4_isWithin 15 = .ok (.ireturn, 1) := by decide +kernel
theorem dX4_requireIndex_0 : decode cX4_requireIndex 0 = .ok (.iload_n 0, 1) := by decide +kernel
theorem dX4_requireIndex_1 : decode cX4_requireIndex 1 = .ok (.ifCond .ne 13, 3) := by decide +kernel
theorem dX4_requireIndex_4 : decode cX4_requireIndex 4 = .ok (.new 200, 3) := by decide +kernel
theorem dX4_requireIndex_7 : decode cX4_requireIndex 7 = .ok (.dup, 1) := by decide +kernel
theorem dX4_requireIndex_8 : decode cX4_requireIndex 8 = .ok (.ldc 202, 2) := by decide +kernel
theorem dX4_requireIndex_10 : decode cX4_requireIndex 10 = .ok (.invokespecial 204, 3) := by decide +kernel
theorem dX4_requireIndex_13 : decode cX4_requireIndex 13 = .ok (.athrow, 1) := by decide +kernel
theorem dX4_requireIndex_14 : decode cX4_requireIndex 14 = .ok (.return_, 1) := by decide +kernel
theorem dX4_requireArgument_0 : decode cX4_requireArgument 0 = .ok (.iload_n 0, 1) := by decide +kernel
theorem dX4_requireArgument_1 : decode cX4_requireArgument 1 = .ok (.ifCond .ne 13, 3) := by decide +kernel
theorem dX4_requireArgument_4 : decode cX4_requireArgument 4 = .ok (.new 207, 3) := by decide +kernel
theorem dX4_requireArgument_7 : decode cX4_requireArgument 7 = .ok (.dup, 1) := by decide +kernel
theorem dX4_requireArgument_8 : decode cX4_requireArgument 8 = .ok (.ldc 209, 2) := by decide +kernel
theorem dX4_requireArgument_10 : decode cX4_requireArgument 10 = .ok (.invokespecial 211, 3) := by decide +kernel
theorem dX4_requireArgument_13 : decode cX4_requireArgument 13 = .ok (.athrow, 1) := by decide +kernel
theorem dX4_requireArgument_14 : decode cX4_requireArgument 14 = .ok (.return_, 1) := by decide +kernel
theorem dX4_requireState_0 : decode cX4_requireState 0 = .ok (.iload_n 0, 1) := by decide +kernel
theorem dX4_requireState_1 : decode cX4_requireState 1 = .ok (.ifCond .ne 13, 3) := by decide +kernel
theorem dX4_requireState_4 : decode cX4_requireState 4 = .ok (.new 212, 3) := by decide +kernel
theorem dX4_requireState_7 : decode cX4_requireState 7 = .ok (.dup, 1) := by decide +kernel
theorem dX4_requireState_8 : decode cX4_requireState 8 = .ok (.ldc 214, 2) := by decide +kernel
theorem dX4_requireState_10 : decode cX4_requireState 10 = .ok (.invokespecial 216, 3) := by decide +kernel
theorem dX4_requireState_13 : decode cX4_requireState 13 = .ok (.athrow, 1) := by decide +kernel
theorem dX4_requireState_14 : decode cX4_requireState 14 = .ok (.return_, 1) := by decide +kernel
theorem dX4_carryOut_0 : decode cX4_carryOut 0 = .ok (.iload_n 1, 1) := by decide +kernel
theorem dX4_carryOut_1 : decode cX4_carryOut 1 = .ok (.aload_n 0, 1) := by decide +kernel
theorem dX4_carryOut_2 : decode cX4_carryOut 2 = .ok (.getfield 29, 3) := by decide +kernel
theorem dX4_carryOut_5 : decode cX4_carryOut 5 = .ok (.getfield 126, 3) := by decide +kernel
theorem dX4_carryOut_8 : decode cX4_carryOut 8 = .ok (.invokestatic 33, 3) := by decide +kernel
theorem dX4_carryOut_11 : decode cX4_carryOut 11 = .ok (.ifCond .eq 28, 3) := by decide +kernel
theorem dX4_carryOut_14 : decode cX4_carryOut 14 = .ok (.aload_n 0, 1) := by decide +kernel
theorem dX4_carryOut_15 : decode cX4_carryOut 15 = .ok (.aload_n 0, 1) := by decide +kernel
theorem dX4_carryOut_16 : decode cX4_carryOut 16 = .ok (.getfield 29, 3) := by decide +kernel
theorem dX4_carryOut_19 : decode cX4_carryOut 19 = .ok (.getfield 217, 3) := by decide +kernel
theorem dX4_carryOut_22 : decode cX4_carryOut 22 = .ok (.iload_n 1, 1) := by decide +kernel
theorem dX4_carryOut_23 : decode cX4_carryOut 23 = .ok (.iaload, 1) := by decide +kernel
theorem dX4_carryOut_24 : decode cX4_carryOut 24 = .ok (.aload_n 0, 1) := by decide +kernel
theorem dX4_carryOut_25 : decode cX4_carryOut 25 = .ok (.getfield 29, 3) := by decide +kernel
theorem dX4_carryOut_28 : decode cX4_carryOut 28 = .ok (.getfield 220, 3) := by decide +kernel
theorem dX4_carryOut_31 : decode cX4_carryOut 31 = .ok (.iload_n 1, 1) := by decide +kernel
theorem dX4_carryOut_32 : decode cX4_carryOut 32 = .ok (.iaload, 1) := by decide +kernel
theorem dX4_carryOut_33 : decode cX4_carryOut 33 = .ok (.invokevirtual 223, 3) := by decide +kernel
theorem dX4_carryOut_36 : decode cX4_carryOut 36 = .ok (.ifCond .eq 5, 3) := by decide +kernel
theorem dX4_carryOut_39 : decode cX4_carryOut 39 = .ok (.iconst 0, 1) := by decide +kernel
theorem dX4_carryOut_40 : decode cX4_carryOut 40 = .ok (.ireturn, 1) := by decide +kernel
theorem dX4_carryOut_41 : decode cX4_carryOut 41 = .ok (.aload_n 0, 1) := by decide +kernel
theorem dX4_carryOut_42 : decode cX4_carryOut 42 = .ok (.getfield 29, 3) := by decide +kernel
theorem dX4_carryOut_45 : decode cX4_carryOut 45 = .ok (.getfield 220, 3) := by decide +kernel
theorem dX4_carryOut_48 : decode cX4_carryOut 48 = .ok (.iload_n 1, 1) := by decide +kernel
theorem dX4_carryOut_49 : decode cX4_carryOut 49 = .ok (.iaload, 1) := by decide +kernel
theorem dX4_carryOut_50 : decode cX4_carryOut 50 = .ok (.istore_n 2, 1) := by decide +kernel
theorem dX4_carryOut_51 : decode cX4_carryOut 51 = .ok (.aload_n 0, 1) := by decide +kernel
theorem dX4_carryOut_52 : decode cX4_carryOut 52 = .ok (.getfield 29, 3) := by decide +kernel
theorem dX4_carryOut_55 : decode cX4_carryOut 55 = .ok (.getfield 217, 3) := by decide +kernel
theorem dX4_carryOut_58 : decode cX4_carryOut 58 = .ok (.iload_n 1, 1) := by decide +kernel
theorem dX4_carryOut_59 : decode cX4_carryOut 59 = .ok (.iaload, 1) := by decide +kernel
theorem dX4_carryOut_60 : decode cX4_carryOut 60 = .ok (.tableswitch 95 0 3 #[32, 53, 67, 79], 32) := by decide +kernel
theorem dX4_carryOut_92 : decode cX4_carryOut 92 = .ok (.aload_n 0, 1) := by decide +kernel
theorem dX4_carryOut_93 : decode cX4_carryOut 93 = .ok (.getfield 10, 3) := by decide +kernel
theorem dX4_carryOut_96 : decode cX4_carryOut 96 = .ok (.iload_n 2, 1) := by decide +kernel
theorem dX4_carryOut_97 : decode cX4_carryOut 97 = .ok (.aload_n 0, 1) := by decide +kernel
theorem dX4_carryOut_98 : decode cX4_carryOut 98 = .ok (.getfield 29, 3) := by decide +kernel
theorem dX4_carryOut_101 : decode cX4_carryOut 101 = .ok (.getfield 226, 3) := by decide +kernel
theorem dX4_carryOut_104 : decode cX4_carryOut 104 = .ok (.iload_n 1, 1) := by decide +kernel
theorem dX4_carryOut_105 : decode cX4_carryOut 105 = .ok (.iaload, 1) := by decide +kernel
theorem dX4_carryOut_106 : decode cX4_carryOut 106 = .ok (.invokevirtual 71, 3) := by decide +kernel
theorem dX4_carryOut_109 : decode cX4_carryOut 109 = .ok (.pop, 1) := by decide +kernel
theorem dX4_carryOut_110 : decode cX4_carryOut 110 = .ok (.goto 54, 3) := by decide +kernel
theorem dX4_carryOut_113 : decode cX4_carryOut 113 = .ok (.aload_n 0, 1) := by decide +kernel
theorem dX4_carryOut_114 : decode cX4_carryOut 114 = .ok (.getfield 10, 3) := by decide +kernel
theorem dX4_carryOut_117 : decode cX4_carryOut 117 = .ok (.iload_n 2, 1) := by decide +kernel
theorem dX4_carryOut_118 : decode cX4_carryOut 118 = .ok (.bipush 15, 2) := by decide +kernel
theorem dX4_carryOut_120 : decode cX4_carryOut 120 = .ok (.iconst 3, 1) := by decide +kernel
theorem dX4_carryOut_121 : decode cX4_carryOut 121 = .ok (.invokevirtual 59, 3) := by decide +kernel
theorem dX4_carryOut_124 : decode cX4_carryOut 124 = .ok (.goto 40, 3) := by decide +kernel
theorem dX4_carryOut_127 : decode cX4_carryOut 127 = .ok (.aload_n 0, 1) := by decide +kernel
theorem dX4_carryOut_128 : decode cX4_carryOut 128 = .ok (.getfield 10, 3) := by decide +kernel
theorem dX4_carryOut_131 : decode cX4_carryOut 131 = .ok (.iload_n 2, 1) := by decide +kernel
theorem dX4_carryOut_132 : decode cX4_carryOut 132 = .ok (.invokevirtual 85, 3) := by decide +kernel
theorem dX4_carryOut_135 : decode cX4_carryOut 135 = .ok (.pop, 1) := by decide +kernel
theorem dX4_carryOut_136 : decode cX4_carryOut 136 = .ok (.goto 28, 3) := by decide +kernel
theorem dX4_carryOut_139 : decode cX4_carryOut 139 = .ok (.aload_n 0, 1) := by decide +kernel
theorem dX4_carryOut_140 : decode cX4_carryOut 140 = .ok (.getfield 10, 3) := by decide +kernel
theorem dX4_carryOut_143 : decode cX4_carryOut 143 = .ok (.dup, 1) := by decide +kernel
theorem dX4_carryOut_144 : decode cX4_carryOut 144 = .ok (.getfield 88, 3) := by decide +kernel
theorem dX4_carryOut_147 : decode cX4_carryOut 147 = .ok (.iload_n 2, 1) := by decide +kernel
theorem dX4_carryOut_148 : decode cX4_carryOut 148 = .ok (.iadd, 1) := by decide +kernel
theorem dX4_carryOut_149 : decode cX4_carryOut 149 = .ok (.putfield 88, 3) := by decide +kernel
theorem dX4_carryOut_152 : decode cX4_carryOut 152 = .ok (.goto 12, 3) := by decide +kernel
theorem dX4_carryOut_155 : decode cX4_carryOut 155 = .ok (.aload_n 0, 1) := by decide +kernel
theorem dX4_carryOut_156 : decode cX4_carryOut 156 = .ok (.getfield 10, 3) := by decide +kernel
theorem dX4_carryOut_159 : decode cX4_carryOut 159 = .ok (.iload_n 2, 1) := by decide +kernel
theorem dX4_carryOut_160 : decode cX4_carryOut 160 = .ok (.invokevirtual 81, 3) := by decide +kernel
theorem dX4_carryOut_163 : decode cX4_carryOut 163 = .ok (.pop, 1) := by decide +kernel
theorem dX4_carryOut_164 : decode cX4_carryOut 164 = .ok (.iconst 1, 1) := by decide +kernel
theorem dX4_carryOut_165 : decode cX4_carryOut 165 = .ok (.ireturn, 1) := by decide +kernel
theorem dX4_isRefused_0 : decode cX4_isRefused 0 = .ok (.iload_n 1, 1) := by decide +kernel
theorem dX4_isRefused_1 : decode cX4_isRefused 1 = .ok (.tableswitch 71 0 3 #[31, 71, 48, 50], 31) := by decide +kernel
theorem dX4_isRefused_32 : decode cX4_isRefused 32 = .ok (.aload_n 0, 1) := by decide +kernel
theorem dX4_isRefused_33 : decode cX4_isRefused 33 = .ok (.getfield 10, 3) := by decide +kernel
theorem dX4_isRefused_36 : decode cX4_isRefused 36 = .ok (.invokevirtual 67, 3) := by decide +kernel
theorem dX4_isRefused_39 : decode cX4_isRefused 39 = .ok (.iconst (-1), 1) := by decide +kernel
theorem dX4_isRefused_40 : decode cX4_isRefused 40 = .ok (.if_icmp .ne 7, 3) := by decide +kernel
theorem dX4_isRefused_43 : decode cX4_isRefused 43 = .ok (.iconst 1, 1) := by decide +kernel
theorem dX4_isRefused_44 : decode cX4_isRefused 44 = .ok (.goto 4, 3) := by decide +kernel
theorem dX4_isRefused_47 : decode cX4_isRefused 47 = .ok (.iconst 0, 1) := by decide +kernel
theorem dX4_isRefused_48 : decode cX4_isRefused 48 = .ok (.ireturn, 1) := by decide +kernel
theorem dX4_isRefused_49 : decode cX4_isRefused 49 = .ok (.iconst 0, 1) := by decide +kernel
theorem dX4_isRefused_50 : decode cX4_isRefused 50 = .ok (.ireturn, 1) := by decide +kernel
theorem dX4_isRefused_51 : decode cX4_isRefused 51 = .ok (.aload_n 0, 1) := by decide +kernel
theorem dX4_isRefused_52 : decode cX4_isRefused 52 = .ok (.getfield 10, 3) := by decide +kernel
theorem dX4_isRefused_55 : decode cX4_isRefused 55 = .ok (.getfield 88, 3) := by decide +kernel
theorem dX4_isRefused_58 : decode cX4_isRefused 58 = .ok (.iload_n 2, 1) := by decide +kernel
theorem dX4_isRefused_59 : decode cX4_isRefused 59 = .ok (.iadd, 1) := by decide +kernel
theorem dX4_isRefused_60 : decode cX4_isRefused 60 = .ok (.sipush 9999, 3) := by decide +kernel
theorem dX4_isRefused_63 : decode cX4_isRefused 63 = .ok (.if_icmp .le 7, 3) := by decide +kernel
theorem dX4_isRefused_66 : decode cX4_isRefused 66 = .ok (.iconst 1, 1) := by decide +kernel
theorem dX4_isRefused_67 : decode cX4_isRefused 67 = .ok (.goto 4, 3) := by decide +kernel
theorem dX4_isRefused_70 : decode cX4_isRefused 70 = .ok (.iconst 0, 1) := by decide +kernel
theorem dX4_isRefused_71 : decode cX4_isRefused 71 = .ok (.ireturn, 1) := by decide +kernel
theorem dX4_isRefused_72 : decode cX4_isRefused 72 = .ok (.aload_n 0, 1) := by decide +kernel
theorem dX4_isRefused_73 : decode cX4_isRefused 73 = .ok (.getfield 10, 3) := by decide +kernel
theorem dX4_isRefused_76 : decode cX4_isRefused 76 = .ok (.iload_n 2, 1) := by decide +kernel
theorem dX4_isRefused_77 : decode cX4_isRefused 77 = .ok (.invokevirtual 48, 3) := by decide +kernel
theorem dX4_isRefused_80 : decode cX4_isRefused 80 = .ok (.ireturn, 1) := by decide +kernel
theorem dX4_rowProperty_0 : decode cX4_rowProperty 0 = .ok (.aload_n 0, 1) := by decide +kernel
theorem dX4_rowProperty_1 : decode cX4_rowProperty 1 = .ok (.getfield 10, 3) := by decide +kernel
theorem dX4_rowProperty_4 : decode cX4_rowProperty 4 = .ok (.iload_n 1, 1) := by decide +kernel
theorem dX4_rowProperty_5 : decode cX4_rowProperty 5 = .ok (.invokevirtual 229, 3) := by decide +kernel
theorem dX4_rowProperty_8 : decode cX4_rowProperty 8 = .ok (.istore_n 3, 1) := by decide +kernel
theorem dX4_rowProperty_9 : decode cX4_rowProperty 9 = .ok (.iload_n 2, 1) := by decide +kernel
theorem dX4_rowProperty_10 : decode cX4_rowProperty 10 = .ok (.tableswitch 99 0 7 #[46, 48, 53, 58, 63, 68, 73, 82], 46) := by decide +kernel
theorem dX4_rowProperty_56 : decode cX4_rowProperty 56 = .ok (.iload_n 3, 1) := by decide +kernel
theorem dX4_rowProperty_57 : decode cX4_rowProperty 57 = .ok (.ireturn, 1) := by decide +kernel
theorem dX4_rowProperty_58 : decode cX4_rowProperty 58 = .ok (.iload_n 3, 1) := by decide +kernel
theorem dX4_rowProperty_59 : decode cX4_rowProperty 59 = .ok (.invokestatic 232, 3) := by decide +kernel
theorem dX4_rowProperty_62 : decode cX4_rowProperty 62 = .ok (.ireturn, 1) := by decide +kernel
theorem dX4_rowProperty_63 : decode cX4_rowProperty 63 = .ok (.iload_n 3, 1) := by decide +kernel
theorem dX4_rowProperty_64 : decode cX4_rowProperty 64 = .ok (.invokestatic 237, 3) := by decide +kernel
theorem dX4_rowProperty_67 : decode cX4_rowProperty 67 = .ok (.ireturn, 1) := by decide +kernel
theorem dX4_rowProperty_68 : decode cX4_rowProperty 68 = .ok (.iload_n 3, 1) := by decide +kernel
theorem dX4_rowProperty_69 : decode cX4_rowProperty 69 = .ok (.invokestatic 240, 3) := by decide +kernel
theorem dX4_rowProperty_72 : decode cX4_rowProperty 72 = .ok (.ireturn, 1) := by decide +kernel
theorem dX4_rowProperty_73 : decode cX4_rowProperty 73 = .ok (.iload_n 3, 1) := by decide +kernel
theorem dX4_rowProperty_74 : decode cX4_rowProperty 74 = .ok (.invokestatic 243, 3) := by decide +kernel
theorem dX4_rowProperty_77 : decode cX4_rowProperty 77 = .ok (.ireturn, 1) := by decide +kernel
theorem dX4_rowProperty_78 : decode cX4_rowProperty 78 = .ok (.iload_n 3, 1) := by decide +kernel
theorem dX4_rowProperty_79 : decode cX4_rowProperty 79 = .ok (.invokestatic 246, 3) := by decide +kernel
theorem dX4_rowProperty_82 : decode cX4_rowProperty 82 = .ok (.ireturn, 1) := by decide +kernel
theorem dX4_rowProperty_83 : decode cX4_rowProperty 83 = .ok (.aload_n 0, 1) := by decide +kernel
theorem dX4_rowProperty_84 : decode cX4_rowProperty 84 = .ok (.getfield 10, 3) := by decide +kernel
theorem dX4_rowProperty_87 : decode cX4_rowProperty 87 = .ok (.iload_n 1, 1) := by decide +kernel
theorem dX4_rowProperty_88 : decode cX4_rowProperty 88 = .ok (.invokevirtual 164, 3) := by decide +kernel
theorem dX4_rowProperty_91 : decode cX4_rowProperty 91 = .ok (.ireturn, 1) := by decide +kernel
theorem dX4_rowProperty_92 : decode cX4_rowProperty 92 = .ok (.aload_n 0, 1) := by decide +kernel
theorem dX4_rowProperty_93 : decode cX4_rowProperty 93 = .ok (.getfield 10, 3) := by decide +kernel
theorem dX4_rowProperty_96 : decode cX4_rowProperty 96 = .ok (.iload_n 1, 1) := by decide +kernel
theorem dX4_rowProperty_97 : decode cX4_rowProperty 97 = .ok (.invokevirtual 48, 3) := by decide +kernel
theorem dX4_rowProperty_100 : decode cX4_rowProperty 100 = .ok (.ifCond .eq 7, 3) := by decide +kernel
theorem dX4_rowProperty_103 : decode cX4_rowProperty 103 = .ok (.iconst 1, 1) := by decide +kernel
theorem dX4_rowProperty_104 : decode cX4_rowProperty 104 = .ok (.goto 4, 3) := by decide +kernel
theorem dX4_rowProperty_107 : decode cX4_rowProperty 107 = .ok (.iconst 0, 1) := by decide +kernel
theorem dX4_rowProperty_108 : decode cX4_rowProperty 108 = .ok (.ireturn, 1) := by decide +kernel
theorem dX4_rowProperty_109 : decode cX4_rowProperty 109 = .ok (.aload_n 0, 1) := by decide +kernel
theorem dX4_rowProperty_110 : decode cX4_rowProperty 110 = .ok (.getfield 10, 3) := by decide +kernel
theorem dX4_rowProperty_113 : decode cX4_rowProperty 113 = .ok (.iload_n 1, 1) := by decide +kernel
theorem dX4_rowProperty_114 : decode cX4_rowProperty 114 = .ok (.invokevirtual 249, 3) := by decide +kernel
theorem dX4_rowProperty_117 : decode cX4_rowProperty 117 = .ok (.ireturn, 1) := by decide +kernel
theorem dX4_keyProperty_0 : decode cX4_keyProperty 0 = .ok (.iload_n 2, 1) := by decide +kernel
theorem dX4_keyProperty_1 : decode cX4_keyProperty 1 = .ok (.tableswitch 94 0 4 #[35, 44, 67, 76, 85], 35) := by decide +kernel
theorem dX4_keyProperty_36 : decode cX4_keyProperty 36 = .ok (.aload_n 0, 1) := by decide +kernel
theorem dX4_keyProperty_37 : decode cX4_keyProperty 37 = .ok (.getfield 10, 3) := by decide +kernel
theorem dX4_keyProperty_40 : decode cX4_keyProperty 40 = .ok (.iload_n 1, 1) := by decide +kernel
theorem dX4_keyProperty_41 : decode cX4_keyProperty 41 = .ok (.invokevirtual 252, 3) := by decide +kernel
theorem dX4_keyProperty_44 : decode cX4_keyProperty 44 = .ok (.ireturn, 1) := by decide +kernel
theorem dX4_keyProperty_45 : decode cX4_keyProperty 45 = .ok (.aload_n 0, 1) := by decide +kernel
theorem dX4_keyProperty_46 : decode cX4_keyProperty 46 = .ok (.getfield 10, 3) := by decide +kernel
theorem dX4_keyProperty_49 : decode cX4_keyProperty 49 = .ok (.iload_n 1, 1) := by decide +kernel
theorem dX4_keyProperty_50 : decode cX4_keyProperty 50 = .ok (.aload_n 0, 1) := by decide +kernel
theorem dX4_keyProperty_51 : decode cX4_keyProperty 51 = .ok (.getfield 10, 3) := by decide +kernel
theorem dX4_keyProperty_54 : decode cX4_keyProperty 54 = .ok (.getfield 88, 3) := by decide +kernel
theorem dX4_keyProperty_57 : decode cX4_keyProperty 57 = .ok (.aload_n 0, 1) := by decide +kernel
theorem dX4_keyProperty_58 : decode cX4_keyProperty 58 = .ok (.getfield 10, 3) := by decide +kernel
theorem dX4_keyProperty_61 : decode cX4_keyProperty 61 = .ok (.invokevirtual 255, 3) := by decide +kernel
theorem dX4_keyProperty_64 : decode cX4_keyProperty 64 = .ok (.invokevirtual 258, 3) := by decide +kernel
theorem dX4_keyProperty_67 : decode cX4_keyProperty 67 = .ok (.ireturn, 1) := by decide +kernel
theorem dX4_keyProperty_68 : decode cX4_keyProperty 68 = .ok (.aload_n 0, 1) := by decide +kernel
theorem dX4_keyProperty_69 : decode cX4_keyProperty 69 = .ok (.getfield 10, 3) := by decide +kernel
theorem dX4_keyProperty_72 : decode cX4_keyProperty 72 = .ok (.iload_n 1, 1) := by decide +kernel
theorem dX4_keyProperty_73 : decode cX4_keyProperty 73 = .ok (.invokevirtual 261, 3) := by decide +kernel
theorem dX4_keyProperty_76 : decode cX4_keyProperty 76 = .ok (.ireturn, 1) := by decide +kernel
theorem dX4_keyProperty_77 : decode cX4_keyProperty 77 = .ok (.aload_n 0, 1) := by decide +kernel
theorem dX4_keyProperty_78 : decode cX4_keyProperty 78 = .ok (.getfield 10, 3) := by decide +kernel
theorem dX4_keyProperty_81 : decode cX4_keyProperty 81 = .ok (.iload_n 1, 1) := by decide +kernel
theorem dX4_keyProperty_82 : decode cX4_keyProperty 82 = .ok (.invokevirtual 264, 3) := by decide +kernel
theorem dX4_keyProperty_85 : decode cX4_keyProperty 85 = .ok (.ireturn, 1) := by decide +kernel
theorem dX4_keyProperty_86 : decode cX4_keyProperty 86 = .ok (.aload_n 0, 1) := by decide +kernel
theorem dX4_keyProperty_87 : decode cX4_keyProperty 87 = .ok (.getfield 10, 3) := by decide +kernel
theorem dX4_keyProperty_90 : decode cX4_keyProperty 90 = .ok (.iload_n 1, 1) := by decide +kernel
theorem dX4_keyProperty_91 : decode cX4_keyProperty 91 = .ok (.invokevirtual 267, 3) := by decide +kernel
theorem dX4_keyProperty_94 : decode cX4_keyProperty 94 = .ok (.ireturn, 1) := by decide +kernel
theorem dX4_keyProperty_95 : decode cX4_keyProperty 95 = .ok (.aload_n 0, 1) := by decide +kernel
theorem dX4_keyProperty_96 : decode cX4_keyProperty 96 = .ok (.getfield 10, 3) := by decide +kernel
theorem dX4_keyProperty_99 : decode cX4_keyProperty 99 = .ok (.iload_n 1, 1) := by decide +kernel
theorem dX4_keyProperty_100 : decode cX4_keyProperty 100 = .ok (.invokevirtual 270, 3) := by decide +kernel
theorem dX4_keyProperty_103 : decode cX4_keyProperty 103 = .ok (.ireturn, 1) := by decide +kernel
theorem dX4_countOf_0 : decode cX4_countOf 0 = .ok (.iload_n 1, 1) := by decide +kernel
theorem dX4_countOf_1 : decode cX4_countOf 1 = .ok (.tableswitch 131 0 12 #[67, 131, 131, 131, 131, 131, 75, 83, 91, 99, 107, 115, 123], 67) := by decide +kernel
theorem dX4_countOf_68 : decode cX4_countOf 68 = .ok (.aload_n 0, 1) := by decide +kernel
theorem dX4_countOf_69 : decode cX4_countOf 69 = .ok (.getfield 10, 3) := by decide +kernel
theorem dX4_countOf_72 : decode cX4_countOf 72 = .ok (.getfield 88, 3) := by decide +kernel
theorem dX4_countOf_75 : decode cX4_countOf 75 = .ok (.ireturn, 1) := by decide +kernel
theorem dX4_countOf_76 : decode cX4_countOf 76 = .ok (.aload_n 0, 1) := by decide +kernel
theorem dX4_countOf_77 : decode cX4_countOf 77 = .ok (.getfield 10, 3) := by decide +kernel
theorem dX4_countOf_80 : decode cX4_countOf 80 = .ok (.invokevirtual 78, 3) := by decide +kernel
theorem dX4_countOf_83 : decode cX4_countOf 83 = .ok (.ireturn, 1) := by decide +kernel
theorem dX4_countOf_84 : decode cX4_countOf 84 = .ok (.aload_n 0, 1) := by decide +kernel
theorem dX4_countOf_85 : decode cX4_countOf 85 = .ok (.getfield 10, 3) := by decide +kernel
theorem dX4_countOf_88 : decode cX4_countOf 88 = .ok (.invokevirtual 273, 3) := by decide +kernel
theorem dX4_countOf_91 : decode cX4_countOf 91 = .ok (.ireturn, 1) := by decide +kernel
theorem dX4_countOf_92 : decode cX4_countOf 92 = .ok (.aload_n 0, 1) := by decide +kernel
theorem dX4_countOf_93 : decode cX4_countOf 93 = .ok (.getfield 10, 3) := by decide +kernel
theorem dX4_countOf_96 : decode cX4_countOf 96 = .ok (.getfield 276, 3) := by decide +kernel
theorem dX4_countOf_99 : decode cX4_countOf 99 = .ok (.ireturn, 1) := by decide +kernel
theorem dX4_countOf_100 : decode cX4_countOf 100 = .ok (.aload_n 0, 1) := by decide +kernel
theorem dX4_countOf_101 : decode cX4_countOf 101 = .ok (.getfield 10, 3) := by decide +kernel
theorem dX4_countOf_104 : decode cX4_countOf 104 = .ok (.invokevirtual 279, 3) := by decide +kernel
theorem dX4_countOf_107 : decode cX4_countOf 107 = .ok (.ireturn, 1) := by decide +kernel
theorem dX4_countOf_108 : decode cX4_countOf 108 = .ok (.aload_n 0, 1) := by decide +kernel
theorem dX4_countOf_109 : decode cX4_countOf 109 = .ok (.getfield 10, 3) := by decide +kernel
theorem dX4_countOf_112 : decode cX4_countOf 112 = .ok (.invokevirtual 67, 3) := by decide +kernel
theorem dX4_countOf_115 : decode cX4_countOf 115 = .ok (.ireturn, 1) := by decide +kernel
theorem dX4_countOf_116 : decode cX4_countOf 116 = .ok (.aload_n 0, 1) := by decide +kernel
theorem dX4_countOf_117 : decode cX4_countOf 117 = .ok (.getfield 10, 3) := by decide +kernel
theorem dX4_countOf_120 : decode cX4_countOf 120 = .ok (.getfield 282, 3) := by decide +kernel
theorem dX4_countOf_123 : decode cX4_countOf 123 = .ok (.ireturn, 1) := by decide +kernel
theorem dX4_countOf_124 : decode cX4_countOf 124 = .ok (.aload_n 0, 1) := by decide +kernel
theorem dX4_countOf_125 : decode cX4_countOf 125 = .ok (.getfield 22, 3) := by decide +kernel
theorem dX4_countOf_128 : decode cX4_countOf 128 = .ok (.getfield 132, 3) := by decide +kernel
theorem dX4_countOf_131 : decode cX4_countOf 131 = .ok (.ireturn, 1) := by decide +kernel
theorem dX4_countOf_132 : decode cX4_countOf 132 = .ok (.aload_n 0, 1) := by decide +kernel
theorem dX4_countOf_133 : decode cX4_countOf 133 = .ok (.getfield 10, 3) := by decide +kernel
theorem dX4_countOf_136 : decode cX4_countOf 136 = .ok (.iload_n 1, 1) := by decide +kernel
theorem dX4_countOf_137 : decode cX4_countOf 137 = .ok (.iconst 1, 1) := by decide +kernel
theorem dX4_countOf_138 : decode cX4_countOf 138 = .ok (.isub, 1) := by decide +kernel
theorem dX4_countOf_139 : decode cX4_countOf 139 = .ok (.invokevirtual 285, 3) := by decide +kernel
theorem dX4_countOf_142 : decode cX4_countOf 142 = .ok (.ireturn, 1) := by decide +kernel
theorem dX4_putOutcome_0 : decode cX4_putOutcome 0 = .ok (.aload_n 0, 1) := by decide +kernel
theorem dX4_putOutcome_1 : decode cX4_putOutcome 1 = .ok (.getfield 10, 3) := by decide +kernel
theorem dX4_putOutcome_4 : decode cX4_putOutcome 4 = .ok (.invokevirtual 67, 3) := by decide +kernel
theorem dX4_putOutcome_7 : decode cX4_putOutcome 7 = .ok (.istore 4, 2) := by decide +kernel
theorem dX4_putOutcome_9 : decode cX4_putOutcome 9 = .ok (.iload 4, 2) := by decide +kernel
theorem dX4_putOutcome_11 : decode cX4_putOutcome 11 = .ok (.iconst (-1), 1) := by decide +kernel
theorem dX4_putOutcome_12 : decode cX4_putOutcome 12 = .ok (.if_icmp .ne 5, 3) := by decide +kernel
theorem dX4_putOutcome_15 : decode cX4_putOutcome 15 = .ok (.iconst (-1), 1) := by decide +kernel
theorem dX4_putOutcome_16 : decode cX4_putOutcome 16 = .ok (.ireturn, 1) := by decide +kernel
theorem dX4_putOutcome_17 : decode cX4_putOutcome 17 = .ok (.aload_n 0, 1) := by decide +kernel
theorem dX4_putOutcome_18 : decode cX4_putOutcome 18 = .ok (.getfield 16, 3) := by decide +kernel
theorem dX4_putOutcome_21 : decode cX4_putOutcome 21 = .ok (.aload_n 0, 1) := by decide +kernel
theorem dX4_putOutcome_22 : decode cX4_putOutcome 22 = .ok (.getfield 10, 3) := by decide +kernel
theorem dX4_putOutcome_25 : decode cX4_putOutcome 25 = .ok (.invokevirtual 288, 3) := by decide +kernel
theorem dX4_putOutcome_28 : decode cX4_putOutcome 28 = .ok (.aload_n 0, 1) := by decide +kernel
theorem dX4_putOutcome_29 : decode cX4_putOutcome 29 = .ok (.getfield 16, 3) := by decide +kernel
theorem dX4_putOutcome_32 : decode cX4_putOutcome 32 = .ok (.iload 4, 2) := by decide +kernel
theorem dX4_putOutcome_34 : decode cX4_putOutcome 34 = .ok (.iload_n 1, 1) := by decide +kernel
theorem dX4_putOutcome_35 : decode cX4_putOutcome 35 = .ok (.iload_n 2, 1) := by decide +kernel
theorem dX4_putOutcome_36 : decode cX4_putOutcome 36 = .ok (.invokevirtual 291, 3) := by decide +kernel
theorem dX4_putOutcome_39 : decode cX4_putOutcome 39 = .ok (.istore 5, 2) := by decide +kernel
theorem dX4_putOutcome_41 : decode cX4_putOutcome 41 = .ok (.aload_n 0, 1) := by decide +kernel
theorem dX4_putOutcome_42 : decode cX4_putOutcome 42 = .ok (.getfield 16, 3) := by decide +kernel
theorem dX4_putOutcome_45 : decode cX4_putOutcome 45 = .ok (.iload 4, 2) := by decide +kernel
theorem dX4_putOutcome_47 : decode cX4_putOutcome 47 = .ok (.iload_n 1, 1) := by decide +kernel
theorem dX4_putOutcome_48 : decode cX4_putOutcome 48 = .ok (.invokevirtual 294, 3) := by decide +kernel
theorem dX4_putOutcome_51 : decode cX4_putOutcome 51 = .ok (.istore 6, 2) := by decide +kernel
theorem dX4_putOutcome_53 : decode cX4_putOutcome 53 = .ok (.iload_n 3, 1) := by decide +kernel
theorem dX4_putOutcome_54 : decode cX4_putOutcome 54 = .ok (.tableswitch 68 0 3 #[30, 33, 43, 59], 30) := by decide +kernel
theorem dX4_putOutcome_84 : decode cX4_putOutcome 84 = .ok (.iload 5, 2) := by decide +kernel
theorem dX4_putOutcome_86 : decode cX4_putOutcome 86 = .ok (.ireturn, 1) := by decide +kernel
theorem dX4_putOutcome_87 : decode cX4_putOutcome 87 = .ok (.aload_n 0, 1) := by decide +kernel
theorem dX4_putOutcome_88 : decode cX4_putOutcome 88 = .ok (.getfield 16, 3) := by decide +kernel
theorem dX4_putOutcome_91 : decode cX4_putOutcome 91 = .ok (.iload 4, 2) := by decide +kernel
theorem dX4_putOutcome_93 : decode cX4_putOutcome 93 = .ok (.invokevirtual 167, 3) := by decide +kernel
theorem dX4_putOutcome_96 : decode cX4_putOutcome 96 = .ok (.ireturn, 1) := by decide +kernel
theorem dX4_putOutcome_97 : decode cX4_putOutcome 97 = .ok (.aload_n 0, 1) := by decide +kernel
theorem dX4_putOutcome_98 : decode cX4_putOutcome 98 = .ok (.getfield 16, 3) := by decide +kernel
theorem dX4_putOutcome_101 : decode cX4_putOutcome 101 = .ok (.getfield 276, 3) := by decide +kernel
theorem dX4_putOutcome_104 : decode cX4_putOutcome 104 = .ok (.aload_n 0, 1) := by decide +kernel
theorem dX4_putOutcome_105 : decode cX4_putOutcome 105 = .ok (.getfield 10, 3) := by decide +kernel
theorem dX4_putOutcome_108 : decode cX4_putOutcome 108 = .ok (.getfield 276, 3) := by decide +kernel
theorem dX4_putOutcome_111 : decode cX4_putOutcome 111 = .ok (.isub, 1) := by decide +kernel
theorem dX4_putOutcome_112 : decode cX4_putOutcome 112 = .ok (.ireturn, 1) := by decide +kernel
theorem dX4_putOutcome_113 : decode cX4_putOutcome 113 = .ok (.aload_n 0, 1) := by decide +kernel
theorem dX4_putOutcome_114 : decode cX4_putOutcome 114 = .ok (.getfield 16, 3) := by decide +kernel
theorem dX4_putOutcome_117 : decode cX4_putOutcome 117 = .ok (.iload_n 1, 1) := by decide +kernel
theorem dX4_putOutcome_118 : decode cX4_putOutcome 118 = .ok (.invokevirtual 252, 3) := by decide +kernel
theorem dX4_putOutcome_121 : decode cX4_putOutcome 121 = .ok (.ireturn, 1) := by decide +kernel
theorem dX4_putOutcome_122 : decode cX4_putOutcome 122 = .ok (.iload 6, 2) := by decide +kernel
theorem dX4_putOutcome_124 : decode cX4_putOutcome 124 = .ok (.ireturn, 1) := by decide +kernel
theorem dX4_heatOutcome_0 : decode cX4_heatOutcome 0 = .ok (.aload_n 0, 1) := by decide +kernel
theorem dX4_heatOutcome_1 : decode cX4_heatOutcome 1 = .ok (.getfield 16, 3) := by decide +kernel
theorem dX4_heatOutcome_4 : decode cX4_heatOutcome 4 = .ok (.aload_n 0, 1) := by decide +kernel
theorem dX4_heatOutcome_5 : decode cX4_heatOutcome 5 = .ok (.getfield 10, 3) := by decide +kernel
theorem dX4_heatOutcome_8 : decode cX4_heatOutcome 8 = .ok (.invokevirtual 288, 3) := by decide +kernel
theorem dX4_heatOutcome_11 : decode cX4_heatOutcome 11 = .ok (.aload_n 0, 1) := by decide +kernel
theorem dX4_heatOutcome_12 : decode cX4_heatOutcome 12 = .ok (.getfield 16, 3) := by decide +kernel
theorem dX4_heatOutcome_15 : decode cX4_heatOutcome 15 = .ok (.iload_n 1, 1) := by decide +kernel
theorem dX4_heatOutcome_16 : decode cX4_heatOutcome 16 = .ok (.invokevirtual 85, 3) := by decide +kernel
theorem dX4_heatOutcome_19 : decode cX4_heatOutcome 19 = .ok (.istore_n 3, 1) := by decide +kernel
theorem dX4_heatOutcome_20 : decode cX4_heatOutcome 20 = .ok (.iload_n 2, 1) := by decide +kernel
theorem dX4_heatOutcome_21 : decode cX4_heatOutcome 21 = .ok (.ifCond .ne 5, 3) := by decide +kernel
theorem dX4_heatOutcome_24 : decode cX4_heatOutcome 24 = .ok (.iload_n 3, 1) := by decide +kernel
theorem dX4_heatOutcome_25 : decode cX4_heatOutcome 25 = .ok (.ireturn, 1) := by decide +kernel
theorem dX4_heatOutcome_26 : decode cX4_heatOutcome 26 = .ok (.iconst 0, 1) := by decide +kernel
theorem dX4_heatOutcome_27 : decode cX4_heatOutcome 27 = .ok (.istore 4, 2) := by decide +kernel
theorem dX4_heatOutcome_29 : decode cX4_heatOutcome 29 = .ok (.iload_n 2, 1) := by decide +kernel
theorem dX4_heatOutcome_30 : decode cX4_heatOutcome 30 = .ok (.iconst 1, 1) := by decide +kernel
theorem dX4_heatOutcome_31 : decode cX4_heatOutcome 31 = .ok (.if_icmp .ne 53, 3) := by decide +kernel
theorem dX4_heatOutcome_34 : decode cX4_heatOutcome 34 = .ok (.iconst 0, 1) := by decide +kernel
theorem dX4_heatOutcome_35 : decode cX4_heatOutcome 35 = .ok (.istore 5, 2) := by decide +kernel
theorem dX4_heatOutcome_37 : decode cX4_heatOutcome 37 = .ok (.iload 5, 2) := by decide +kernel
theorem dX4_heatOutcome_39 : decode cX4_heatOutcome 39 = .ok (.bipush 20, 2) := by decide +kernel
theorem dX4_heatOutcome_41 : decode cX4_heatOutcome 41 = .ok (.if_icmp .ge 40, 3) := by decide +kernel
theorem dX4_heatOutcome_44 : decode cX4_heatOutcome 44 = .ok (.iload 4, 2) := by decide +kernel
theorem dX4_heatOutcome_46 : decode cX4_heatOutcome 46 = .ok (.aload_n 0, 1) := by decide +kernel
theorem dX4_heatOutcome_47 : decode cX4_heatOutcome 47 = .ok (.getfield 16, 3) := by decide +kernel
theorem dX4_heatOutcome_50 : decode cX4_heatOutcome 50 = .ok (.iload 5, 2) := by decide +kernel
theorem dX4_heatOutcome_52 : decode cX4_heatOutcome 52 = .ok (.invokevirtual 167, 3) := by decide +kernel
theorem dX4_heatOutcome_55 : decode cX4_heatOutcome 55 = .ok (.aload_n 0, 1) := by decide +kernel
theorem dX4_heatOutcome_56 : decode cX4_heatOutcome 56 = .ok (.getfield 10, 3) := by decide +kernel
theorem dX4_heatOutcome_59 : decode cX4_heatOutcome 59 = .ok (.iload 5, 2) := by decide +kernel
theorem dX4_heatOutcome_61 : decode cX4_heatOutcome 61 = .ok (.invokevirtual 167, 3) := by decide +kernel
theorem dX4_heatOutcome_64 : decode cX4_heatOutcome 64 = .ok (.if_icmp .eq 7, 3) := by decide +kernel
theorem dX4_heatOutcome_67 : decode cX4_heatOutcome 67 = .ok (.iconst 1, 1) := by decide +kernel
theorem dX4_heatOutcome_68 : decode cX4_heatOutcome 68 = .ok (.goto 4, 3) := by decide +kernel
theorem dX4_heatOutcome_71 : decode cX4_heatOutcome 71 = .ok (.iconst 0, 1) := by decide +kernel
theorem dX4_heatOutcome_72 : decode cX4_heatOutcome 72 = .ok (.iadd, 1) := by decide +kernel
theorem dX4_heatOutcome_73 : decode cX4_heatOutcome 73 = .ok (.istore 4, 2) := by decide +kernel
theorem dX4_heatOutcome_75 : decode cX4_heatOutcome 75 = .ok (.iinc 5 1, 3) := by decide +kernel
theorem dX4_heatOutcome_78 : decode cX4_heatOutcome 78 = .ok (.goto (-41), 3) := by decide +kernel
theorem dX4_heatOutcome_81 : decode cX4_heatOutcome 81 = .ok (.iload 4, 2) := by decide +kernel
theorem dX4_heatOutcome_83 : decode cX4_heatOutcome 83 = .ok (.ireturn, 1) := by decide +kernel
theorem dX4_heatOutcome_84 : decode cX4_heatOutcome 84 = .ok (.iconst 0, 1) := by decide +kernel
theorem dX4_heatOutcome_85 : decode cX4_heatOutcome 85 = .ok (.istore 5, 2) := by decide +kernel
theorem dX4_heatOutcome_87 : decode cX4_heatOutcome 87 = .ok (.iload 5, 2) := by decide +kernel
theorem dX4_heatOutcome_89 : decode cX4_heatOutcome 89 = .ok (.bipush 16, 2) := by decide +kernel
theorem dX4_heatOutcome_91 : decode cX4_heatOutcome 91 = .ok (.if_icmp .ge 40, 3) := by decide +kernel
theorem dX4_heatOutcome_94 : decode cX4_heatOutcome 94 = .ok (.iload 4, 2) := by decide +kernel
theorem dX4_heatOutcome_96 : decode cX4_heatOutcome 96 = .ok (.aload_n 0, 1) := by decide +kernel
theorem dX4_heatOutcome_97 : decode cX4_heatOutcome 97 = .ok (.getfield 16, 3) := by decide +kernel
theorem dX4_heatOutcome_100 : decode cX4_heatOutcome 100 = .ok (.iload 5, 2) := by decide +kernel
theorem dX4_heatOutcome_102 : decode cX4_heatOutcome 102 = .ok (.invokevirtual 252, 3) := by decide +kernel
theorem dX4_heatOutcome_105 : decode cX4_heatOutcome 105 = .ok (.aload_n 0, 1) := by decide +kernel
theorem dX4_heatOutcome_106 : decode cX4_heatOutcome 106 = .ok (.getfield 10, 3) := by decide +kernel
theorem dX4_heatOutcome_109 : decode cX4_heatOutcome 109 = .ok (.iload 5, 2) := by decide +kernel
theorem dX4_heatOutcome_111 : decode cX4_heatOutcome 111 = .ok (.invokevirtual 252, 3) := by decide +kernel
theorem dX4_heatOutcome_114 : decode cX4_heatOutcome 114 = .ok (.if_icmp .eq 7, 3) := by decide +kernel
theorem dX4_heatOutcome_117 : decode cX4_heatOutcome 117 = .ok (.iconst 1, 1) := by decide +kernel
theorem dX4_heatOutcome_118 : decode cX4_heatOutcome 118 = .ok (.goto 4, 3) := by decide +kernel
theorem dX4_heatOutcome_121 : decode cX4_heatOutcome 121 = .ok (.iconst 0, 1) := by decide +kernel
theorem dX4_heatOutcome_122 : decode cX4_heatOutcome 122 = .ok (.iadd, 1) := by decide +kernel
theorem dX4_heatOutcome_123 : decode cX4_heatOutcome 123 = .ok (.istore 4, 2) := by decide +kernel
theorem dX4_heatOutcome_125 : decode cX4_heatOutcome 125 = .ok (.iinc 5 1, 3) := by decide +kernel
theorem dX4_heatOutcome_128 : decode cX4_heatOutcome 128 = .ok (.goto (-41), 3) := by decide +kernel
theorem dX4_heatOutcome_131 : decode cX4_heatOutcome 131 = .ok (.iload 4, 2) := by decide +kernel
theorem dX4_heatOutcome_133 : decode cX4_heatOutcome 133 = .ok (.ireturn, 1) := by decide +kernel
theorem dX4_valuesReadOtherwise_0 : decode cX4_valuesReadOtherwise 0 = .ok (.iconst 0, 1) := by decide +kernel
theorem dX4_valuesReadOtherwise_1 : decode cX4_valuesReadOtherwise 1 = .ok (.istore_n 3, 1) := by decide +kernel
theorem dX4_valuesReadOtherwise_2 : decode cX4_valuesReadOtherwise 2 = .ok (.iconst 0, 1) := by decide +kernel
theorem dX4_valuesReadOtherwise_3 : decode cX4_valuesReadOtherwise 3 = .ok (.istore 4, 2) := by decide +kernel
theorem dX4_valuesReadOtherwise_5 : decode cX4_valuesReadOtherwise 5 = .ok (.iload 4, 2) := by decide +kernel
theorem dX4_valuesReadOtherwise_7 : decode cX4_valuesReadOtherwise 7 = .ok (.bipush 16, 2) := by decide +kernel
theorem dX4_valuesReadOtherwise_9 : decode cX4_valuesReadOtherwise 9 = .ok (.if_icmp .ge 48, 3) := by decide +kernel
theorem dX4_valuesReadOtherwise_12 : decode cX4_valuesReadOtherwise 12 = .ok (.iload_n 3, 1) := by decide +kernel
theorem dX4_valuesReadOtherwise_13 : decode cX4_valuesReadOtherwise 13 = .ok (.aload_n 0, 1) := by decide +kernel
theorem dX4_valuesReadOtherwise_14 : decode cX4_valuesReadOtherwise 14 = .ok (.getfield 10, 3) := by decide +kernel
theorem dX4_valuesReadOtherwise_17 : decode cX4_valuesReadOtherwise 17 = .ok (.iload 4, 2) := by decide +kernel
theorem dX4_valuesReadOtherwise_19 : decode cX4_valuesReadOtherwise 19 = .ok (.aload_n 0, 1) := by decide +kernel
theorem dX4_valuesReadOtherwise_20 : decode cX4_valuesReadOtherwise 20 = .ok (.getfield 10, 3) := by decide +kernel
theorem dX4_valuesReadOtherwise_23 : decode cX4_valuesReadOtherwise 23 = .ok (.getfield 88, 3) := by decide +kernel
theorem dX4_valuesReadOtherwise_26 : decode cX4_valuesReadOtherwise 26 = .ok (.iload_n 1, 1) := by decide +kernel
theorem dX4_valuesReadOtherwise_27 : decode cX4_valuesReadOtherwise 27 = .ok (.iadd, 1) := by decide +kernel
theorem dX4_valuesReadOtherwise_28 : decode cX4_valuesReadOtherwise 28 = .ok (.iload_n 2, 1) := by decide +kernel
theorem dX4_valuesReadOtherwise_29 : decode cX4_valuesReadOtherwise 29 = .ok (.invokevirtual 297, 3) := by decide +kernel
theorem dX4_valuesReadOtherwise_32 : decode cX4_valuesReadOtherwise 32 = .ok (.aload_n 0, 1) := by decide +kernel
theorem dX4_valuesReadOtherwise_33 : decode cX4_valuesReadOtherwise 33 = .ok (.getfield 10, 3) := by decide +kernel
theorem dX4_valuesReadOtherwise_36 : decode cX4_valuesReadOtherwise 36 = .ok (.iload 4, 2) := by decide +kernel
theorem dX4_valuesReadOtherwise_38 : decode cX4_valuesReadOtherwise 38 = .ok (.invokevirtual 252, 3) := by decide +kernel
theorem dX4_valuesReadOtherwise_41 : decode cX4_valuesReadOtherwise 41 = .ok (.if_icmp .eq 7, 3) := by decide +kernel
theorem dX4_valuesReadOtherwise_44 : decode cX4_valuesReadOtherwise 44 = .ok (.iconst 1, 1) := by decide +kernel
theorem dX4_valuesReadOtherwise_45 : decode cX4_valuesReadOtherwise 45 = .ok (.goto 4, 3) := by decide +kernel
theorem dX4_valuesReadOtherwise_48 : decode cX4_valuesReadOtherwise 48 = .ok (.iconst 0, 1) := by decide +kernel
theorem dX4_valuesReadOtherwise_49 : decode cX4_valuesReadOtherwise 49 = .ok (.iadd, 1) := by decide +kernel
theorem dX4_valuesReadOtherwise_50 : decode cX4_valuesReadOtherwise 50 = .ok (.istore_n 3, 1) := by decide +kernel
theorem dX4_valuesReadOtherwise_51 : decode cX4_valuesReadOtherwise 51 = .ok (.iinc 4 1, 3) := by decide +kernel
theorem dX4_valuesReadOtherwise_54 : decode cX4_valuesReadOtherwise 54 = .ok (.goto (-49), 3) := by decide +kernel
theorem dX4_valuesReadOtherwise_57 : decode cX4_valuesReadOtherwise 57 = .ok (.iload_n 3, 1) := by decide +kernel
theorem dX4_valuesReadOtherwise_58 : decode cX4_valuesReadOtherwise 58 = .ok (.ireturn, 1) := by decide +kernel
theorem dX4_bitsOfShare_0 : decode cX4_bitsOfShare 0 = .ok (.dload_n 0, 1) := by decide +kernel
theorem dX4_bitsOfShare_1 : decode cX4_bitsOfShare 1 = .ok (.dconst 0, 1) := by decide +kernel
theorem dX4_bitsOfShare_2 : decode cX4_bitsOfShare 2 = .ok (.dcmp .g, 1) := by decide +kernel
theorem dX4_bitsOfShare_3 : decode cX4_bitsOfShare 3 = .ok (.ifCond .gt 5, 3) := by decide +kernel
theorem dX4_bitsOfShare_6 : decode cX4_bitsOfShare 6 = .ok (.lconst 0, 1) := by decide +kernel
theorem dX4_bitsOfShare_7 : decode cX4_bitsOfShare 7 = .ok (.lreturn, 1) := by decide +kernel
theorem dX4_bitsOfShare_8 : decode cX4_bitsOfShare 8 = .ok (.dload_n 0, 1) := by decide +kernel
theorem dX4_bitsOfShare_9 : decode cX4_bitsOfShare 9 = .ok (.dstore_n 2, 1) := by decide +kernel
theorem dX4_bitsOfShare_10 : decode cX4_bitsOfShare 10 = .ok (.ldc2_w 300, 3) := by decide +kernel
theorem dX4_bitsOfShare_13 : decode cX4_bitsOfShare 13 = .ok (.lstore 4, 2) := by decide +kernel
theorem dX4_bitsOfShare_15 : decode cX4_bitsOfShare 15 = .ok (.iconst 0, 1) := by decide +kernel
theorem dX4_bitsOfShare_16 : decode cX4_bitsOfShare 16 = .ok (.istore 6, 2) := by decide +kernel
theorem dX4_bitsOfShare_18 : decode cX4_bitsOfShare 18 = .ok (.iload 6, 2) := by decide +kernel
theorem dX4_bitsOfShare_20 : decode cX4_bitsOfShare 20 = .ok (.bipush 64, 2) := by decide +kernel
theorem dX4_bitsOfShare_22 : decode cX4_bitsOfShare 22 = .ok (.if_icmp .ge 27, 3) := by decide +kernel
theorem dX4_bitsOfShare_25 : decode cX4_bitsOfShare 25 = .ok (.dload_n 2, 1) := by decide +kernel
theorem dX4_bitsOfShare_26 : decode cX4_bitsOfShare 26 = .ok (.dconst 1, 1) := by decide +kernel
theorem dX4_bitsOfShare_27 : decode cX4_bitsOfShare 27 = .ok (.dcmp .g, 1) := by decide +kernel
theorem dX4_bitsOfShare_28 : decode cX4_bitsOfShare 28 = .ok (.ifCond .ge 21, 3) := by decide +kernel
theorem dX4_bitsOfShare_31 : decode cX4_bitsOfShare 31 = .ok (.dload_n 2, 1) := by decide +kernel
theorem dX4_bitsOfShare_32 : decode cX4_bitsOfShare 32 = .ok (.ldc2_w 302, 3) := by decide +kernel
theorem dX4_bitsOfShare_35 : decode cX4_bitsOfShare 35 = .ok (.dmul, 1) := by decide +kernel
theorem dX4_bitsOfShare_36 : decode cX4_bitsOfShare 36 = .ok (.dstore_n 2, 1) := by decide +kernel
theorem dX4_bitsOfShare_37 : decode cX4_bitsOfShare 37 = .ok (.lload 4, 2) := by decide +kernel
theorem dX4_bitsOfShare_39 : decode cX4_bitsOfShare 39 = .ok (.lconst 1, 1) := by decide +kernel
theorem dX4_bitsOfShare_40 : decode cX4_bitsOfShare 40 = .ok (.lsub, 1) := by decide +kernel
theorem dX4_bitsOfShare_41 : decode cX4_bitsOfShare 41 = .ok (.lstore 4, 2) := by decide +kernel
theorem dX4_bitsOfShare_43 : decode cX4_bitsOfShare 43 = .ok (.iinc 6 1, 3) := by decide +kernel
theorem dX4_bitsOfShare_46 : decode cX4_bitsOfShare 46 = .ok (.goto (-28), 3) := by decide +kernel
theorem dX4_bitsOfShare_49 : decode cX4_bitsOfShare 49 = .ok (.dload_n 2, 1) := by decide +kernel
theorem dX4_bitsOfShare_50 : decode cX4_bitsOfShare 50 = .ok (.dconst 1, 1) := by decide +kernel
theorem dX4_bitsOfShare_51 : decode cX4_bitsOfShare 51 = .ok (.dsub, 1) := by decide +kernel
theorem dX4_bitsOfShare_52 : decode cX4_bitsOfShare 52 = .ok (.ldc2_w 304, 3) := by decide +kernel
theorem dX4_bitsOfShare_55 : decode cX4_bitsOfShare 55 = .ok (.dmul, 1) := by decide +kernel
theorem dX4_bitsOfShare_56 : decode cX4_bitsOfShare 56 = .ok (.d2l, 1) := by decide +kernel
theorem dX4_bitsOfShare_57 : decode cX4_bitsOfShare 57 = .ok (.lstore 6, 2) := by decide +kernel
theorem dX4_bitsOfShare_59 : decode cX4_bitsOfShare 59 = .ok (.lload 4, 2) := by decide +kernel
theorem dX4_bitsOfShare_61 : decode cX4_bitsOfShare 61 = .ok (.bipush 52, 2) := by decide +kernel
theorem dX4_bitsOfShare_63 : decode cX4_bitsOfShare 63 = .ok (.lshl, 1) := by decide +kernel
theorem dX4_bitsOfShare_64 : decode cX4_bitsOfShare 64 = .ok (.lload 6, 2) := by decide +kernel
theorem dX4_bitsOfShare_66 : decode cX4_bitsOfShare 66 = .ok (.lor, 1) := by decide +kernel
theorem dX4_bitsOfShare_67 : decode cX4_bitsOfShare 67 = .ok (.lreturn, 1) := by decide +kernel
theorem dX5_init_0 : decode cX5_init 0 = .ok (.aload_n 0, 1) := by decide +kernel
theorem dX5_init_1 : decode cX5_init 1 = .ok (.invokespecial 1, 3) := by decide +kernel
theorem dX5_init_4 : decode cX5_init 4 = .ok (.aload_n 0, 1) := by decide +kernel
theorem dX5_init_5 : decode cX5_init 5 = .ok (.sipush 327, 3) := by decide +kernel
theorem dX5_init_8 : decode cX5_init 8 = .ok (.newarray .int, 2) := by decide +kernel
theorem dX5_init_10 : decode cX5_init 10 = .ok (.putfield 7, 3) := by decide +kernel
theorem dX5_init_13 : decode cX5_init 13 = .ok (.aload_n 0, 1) := by decide +kernel
theorem dX5_init_14 : decode cX5_init 14 = .ok (.sipush 1962, 3) := by decide +kernel
theorem dX5_init_17 : decode cX5_init 17 = .ok (.newarray .int, 2) := by decide +kernel
theorem dX5_init_19 : decode cX5_init 19 = .ok (.putfield 13, 3) := by decide +kernel
theorem dX5_init_22 : decode cX5_init 22 = .ok (.aload_n 0, 1) := by decide +kernel
theorem dX5_init_23 : decode cX5_init 23 = .ok (.sipush 327, 3) := by decide +kernel
theorem dX5_init_26 : decode cX5_init 26 = .ok (.newarray .int, 2) := by decide +kernel
theorem dX5_init_28 : decode cX5_init 28 = .ok (.putfield 16, 3) := by decide +kernel
theorem dX5_init_31 : decode cX5_init 31 = .ok (.aload_n 0, 1) := by decide +kernel
theorem dX5_init_32 : decode cX5_init 32 = .ok (.bipush 60, 2) := by decide +kernel
theorem dX5_init_34 : decode cX5_init 34 = .ok (.newarray .int, 2) := by decide +kernel
theorem dX5_init_36 : decode cX5_init 36 = .ok (.putfield 19, 3) := by decide +kernel
theorem dX5_init_39 : decode cX5_init 39 = .ok (.aload_n 0, 1) := by decide +kernel
theorem dX5_init_40 : decode cX5_init 40 = .ok (.bipush 16, 2) := by decide +kernel
theorem dX5_init_42 : decode cX5_init 42 = .ok (.newarray .char, 2) := by decide +kernel
theorem dX5_init_44 : decode cX5_init 44 = .ok (.dup, 1) := by decide +kernel
theorem dX5_init_45 : decode cX5_init 45 = .ok (.iconst 0, 1) := by decide +kernel
theorem dX5_init_46 : decode cX5_init 46 = .ok (.bipush 116, 2) := by decide +kernel
theorem dX5_init_48 : decode cX5_init 48 = .ok (.castore, 1) := by decide +kernel
theorem dX5_init_49 : decode cX5_init 49 = .ok (.dup, 1) := by decide +kernel
theorem dX5_init_50 : decode cX5_init 50 = .ok (.iconst 1, 1) := by decide +kernel
theorem dX5_init_51 : decode cX5_init 51 = .ok (.bipush 58, 2) := by decide +kernel
theorem dX5_init_53 : decode cX5_init 53 = .ok (.castore, 1) := by decide +kernel
theorem dX5_init_54 : decode cX5_init 54 = .ok (.dup, 1) := by decide +kernel
theorem dX5_init_55 : decode cX5_init 55 = .ok (.iconst 2, 1) := by decide +kernel
theorem dX5_init_56 : decode cX5_init 56 = .ok (.bipush 111, 2) := by decide +kernel
theorem dX5_init_58 : decode cX5_init 58 = .ok (.castore, 1) := by decide +kernel
theorem dX5_init_59 : decode cX5_init 59 = .ok (.dup, 1) := by decide +kernel
theorem dX5_init_60 : decode cX5_init 60 = .ok (.iconst 3, 1) := by decide +kernel
theorem dX5_init_61 : decode cX5_init 61 = .ok (.bipush 99, 2) := by decide +kernel
theorem dX5_init_63 : decode cX5_init 63 = .ok (.castore, 1) := by decide +kernel
theorem dX5_init_64 : decode cX5_init 64 = .ok (.dup, 1) := by decide +kernel
theorem dX5_init_65 : decode cX5_init 65 = .ok (.iconst 4, 1) := by decide +kernel
theorem dX5_init_66 : decode cX5_init 66 = .ok (.bipush 107, 2) := by decide +kernel
theorem dX5_init_68 : decode cX5_init 68 = .ok (.castore, 1) := by decide +kernel
theorem dX5_init_69 : decode cX5_init 69 = .ok (.dup, 1) := by decide +kernel
theorem dX5_init_70 : decode cX5_init 70 = .ok (.iconst 5, 1) := by decide +kernel
theorem dX5_init_71 : decode cX5_init 71 = .ok (.bipush 58, 2) := by decide +kernel
theorem dX5_init_73 : decode cX5_init 73 = .ok (.castore, 1) := by decide +kernel
theorem dX5_init_74 : decode cX5_init 74 = .ok (.dup, 1) := by decide +kernel
theorem dX5_init_75 : decode cX5_init 75 = .ok (.bipush 6, 2) := by decide +kernel
theorem dX5_init_77 : decode cX5_init 77 = .ok (.bipush 101, 2) := by decide +kernel
theorem dX5_init_79 : decode cX5_init 79 = .ok (.castore, 1) := by decide +kernel
theorem dX5_init_80 : decode cX5_init 80 = .ok (.dup, 1) := by decide +kernel
theorem dX5_init_81 : decode cX5_init 81 = .ok (.bipush 7, 2) := by decide +kernel
theorem dX5_init_83 : decode cX5_init 83 = .ok (.bipush 97, 2) := by decide +kernel
theorem dX5_init_85 : decode cX5_init 85 = .ok (.castore, 1) := by decide +kernel
theorem dX5_init_86 : decode cX5_init 86 = .ok (.dup, 1) := by decide +kernel
theorem dX5_init_87 : decode cX5_init 87 = .ok (.bipush 8, 2) := by decide +kernel
theorem dX5_init_89 : decode cX5_init 89 = .ok (.bipush 116, 2) := by decide +kernel
theorem dX5_init_91 : decode cX5_init 91 = .ok (.castore, 1) := by decide +kernel
theorem dX5_init_92 : decode cX5_init 92 = .ok (.dup, 1) := by decide +kernel
theorem dX5_init_93 : decode cX5_init 93 = .ok (.bipush 9, 2) := by decide +kernel
theorem dX5_init_95 : decode cX5_init 95 = .ok (.bipush 58, 2) := by decide +kernel
theorem dX5_init_97 : decode cX5_init 97 = .ok (.castore, 1) := by decide +kernel
theorem dX5_init_98 : decode cX5_init 98 = .ok (.dup, 1) := by decide +kernel
theorem dX5_init_99 : decode cX5_init 99 = .ok (.bipush 10, 2) := by decide +kernel
theorem dX5_init_101 : decode cX5_init 101 = .ok (.bipush 115, 2) := by decide +kernel
theorem dX5_init_103 : decode cX5_init 103 = .ok (.castore, 1) := by decide +kernel
theorem dX5_init_104 : decode cX5_init 104 = .ok (.dup, 1) := by decide +kernel
theorem dX5_init_105 : decode cX5_init 105 = .ok (.bipush 11, 2) := by decide +kernel
theorem dX5_init_107 : decode cX5_init 107 = .ok (.bipush 115, 2) := by decide +kernel
theorem dX5_init_109 : decode cX5_init 109 = .ok (.castore, 1) := by decide +kernel
theorem dX5_init_110 : decode cX5_init 110 = .ok (.dup, 1) := by decide +kernel
theorem dX5_init_111 : decode cX5_init 111 = .ok (.bipush 12, 2) := by decide +kernel
theorem dX5_init_113 : decode cX5_init 113 = .ok (.bipush 58, 2) := by decide +kernel
theorem dX5_init_115 : decode cX5_init 115 = .ok (.castore, 1) := by decide +kernel
theorem dX5_init_116 : decode cX5_init 116 = .ok (.dup, 1) := by decide +kernel
theorem dX5_init_117 : decode cX5_init 117 = .ok (.bipush 13, 2) := by decide +kernel
theorem dX5_init_119 : decode cX5_init 119 = .ok (.bipush 105, 2) := by decide +kernel
theorem dX5_init_121 : decode cX5_init 121 = .ok (.castore, 1) := by decide +kernel
theorem dX5_init_122 : decode cX5_init 122 = .ok (.dup, 1) := by decide +kernel
theorem dX5_init_123 : decode cX5_init 123 = .ok (.bipush 14, 2) := by decide +kernel
theorem dX5_init_125 : decode cX5_init 125 = .ok (.bipush 120, 2) := by decide +kernel
theorem dX5_init_127 : decode cX5_init 127 = .ok (.castore, 1) := by decide +kernel
theorem dX5_init_128 : decode cX5_init 128 = .ok (.dup, 1) := by decide +kernel
theorem dX5_init_129 : decode cX5_init 129 = .ok (.bipush 15, 2) := by decide +kernel
theorem dX5_init_131 : decode cX5_init 131 = .ok (.bipush 58, 2) := by decide +kernel
theorem dX5_init_133 : decode cX5_init 133 = .ok (.castore, 1) := by decide +kernel
theorem dX5_init_134 : decode cX5_init 134 = .ok (.putfield 22, 3) := by decide +kernel
theorem dX5_init_137 : decode cX5_init 137 = .ok (.aload_n 0, 1) := by decide +kernel
theorem dX5_init_138 : decode cX5_init 138 = .ok (.bipush 6, 2) := by decide +kernel
theorem dX5_init_140 : decode cX5_init 140 = .ok (.newarray .int, 2) := by decide +kernel
theorem dX5_init_142 : decode cX5_init 142 = .ok (.dup, 1) := by decide +kernel
theorem dX5_init_143 : decode cX5_init 143 = .ok (.iconst 0, 1) := by decide +kernel
theorem dX5_init_144 : decode cX5_init 144 = .ok (.iconst 0, 1) := by decide +kernel
theorem dX5_init_145 : decode cX5_init 145 = .ok (.iastore, 1) := by decide +kernel
theorem dX5_init_146 : decode cX5_init 146 = .ok (.dup, 1) := by decide +kernel
theorem dX5_init_147 : decode cX5_init 147 = .ok (.iconst 1, 1) := by decide +kernel
theorem dX5_init_148 : decode cX5_init 148 = .ok (.iconst 2, 1) := by decide +kernel
theorem dX5_init_149 : decode cX5_init 149 = .ok (.iastore, 1) := by decide +kernel
theorem dX5_init_150 : decode cX5_init 150 = .ok (.dup, 1) := by decide +kernel
theorem dX5_init_151 : decode cX5_init 151 = .ok (.iconst 2, 1) := by decide +kernel
theorem dX5_init_152 : decode cX5_init 152 = .ok (.bipush 6, 2) := by decide +kernel
theorem dX5_init_154 : decode cX5_init 154 = .ok (.iastore, 1) := by decide +kernel
theorem dX5_init_155 : decode cX5_init 155 = .ok (.dup, 1) := by decide +kernel
theorem dX5_init_156 : decode cX5_init 156 = .ok (.iconst 3, 1) := by decide +kernel
theorem dX5_init_157 : decode cX5_init 157 = .ok (.bipush 10, 2) := by decide +kernel
theorem dX5_init_159 : decode cX5_init 159 = .ok (.iastore, 1) := by decide +kernel
theorem dX5_init_160 : decode cX5_init 160 = .ok (.dup, 1) := by decide +kernel
theorem dX5_init_161 : decode cX5_init 161 = .ok (.iconst 4, 1) := by decide +kernel
theorem dX5_init_162 : decode cX5_init 162 = .ok (.bipush 13, 2) := by decide +kernel
theorem dX5_init_164 : decode cX5_init 164 = .ok (.iastore, 1) := by decide +kernel
theorem dX5_init_165 : decode cX5_init 165 = .ok (.dup, 1) := by decide +kernel
theorem dX5_init_166 : decode cX5_init 166 = .ok (.iconst 5, 1) := by decide +kernel
theorem dX5_init_167 : decode cX5_init 167 = .ok (.bipush 16, 2) := by decide +kernel
theorem dX5_init_169 : decode cX5_init 169 = .ok (.iastore, 1) := by decide +kernel
theorem dX5_init_170 : decode cX5_init 170 = .ok (.putfield 26, 3) := by decide +kernel
theorem dX5_init_173 : decode cX5_init 173 = .ok (.aload_n 0, 1) := by decide +kernel
theorem dX5_init_174 : decode cX5_init 174 = .ok (.bipush 48, 2) := by decide +kernel
theorem dX5_init_176 : decode cX5_init 176 = .ok (.newarray .int, 2) := by decide +kernel
theorem dX5_init_178 : decode cX5_init 178 = .ok (.putfield 29, 3) := by decide +kernel
theorem dX5_init_181 : decode cX5_init 181 = .ok (.aload_n 0, 1) := by decide +kernel
theorem dX5_init_182 : decode cX5_init 182 = .ok (.bipush 36, 2) := by decide +kernel
theorem dX5_init_184 : decode cX5_init 184 = .ok (.newarray .int, 2) := by decide +kernel
theorem dX5_init_186 : decode cX5_init 186 = .ok (.putfield 32, 3) := by decide +kernel
theorem dX5_init_189 : decode cX5_init 189 = .ok (.aload_n 0, 1) := by decide +kernel
theorem dX5_init_190 : decode cX5_init 190 = .ok (.getfield 7, 3) := by decide +kernel
theorem dX5_init_193 : decode cX5_init 193 = .ok (.iconst 3, 1) := by decide +kernel
theorem dX5_init_194 : decode cX5_init 194 = .ok (.iconst 1, 1) := by decide +kernel
theorem dX5_init_195 : decode cX5_init 195 = .ok (.iastore, 1) := by decide +kernel
theorem dX5_init_196 : decode cX5_init 196 = .ok (.aload_n 0, 1) := by decide +kernel
theorem dX5_init_197 : decode cX5_init 197 = .ok (.getfield 7, 3) := by decide +kernel
theorem dX5_init_200 : decode cX5_init 200 = .ok (.iconst 4, 1) := by decide +kernel
theorem dX5_init_201 : decode cX5_init 201 = .ok (.iconst 3, 1) := by decide +kernel
theorem dX5_init_202 : decode cX5_init 202 = .ok (.iastore, 1) := by decide +kernel
theorem dX5_init_203 : decode cX5_init 203 = .ok (.aload_n 0, 1) := by decide +kernel
theorem dX5_init_204 : decode cX5_init 204 = .ok (.getfield 7, 3) := by decide +kernel
theorem dX5_init_207 : decode cX5_init 207 = .ok (.iconst 5, 1) := by decide +kernel
theorem dX5_init_208 : decode cX5_init 208 = .ok (.iconst 1, 1) := by decide +kernel
theorem dX5_init_209 : decode cX5_init 209 = .ok (.iastore, 1) := by decide +kernel
theorem dX5_init_210 : decode cX5_init 210 = .ok (.aload_n 0, 1) := by decide +kernel
theorem dX5_init_211 : decode cX5_init 211 = .ok (.getfield 7, 3) := by decide +kernel
theorem dX5_init_214 : decode cX5_init 214 = .ok (.bipush 6, 2) := by decide +kernel
theorem dX5_init_216 : decode cX5_init 216 = .ok (.iconst 1, 1) := by decide +kernel
theorem dX5_init_217 : decode cX5_init 217 = .ok (.iastore, 1) := by decide +kernel
theorem dX5_init_218 : decode cX5_init 218 = .ok (.return_, 1) := by decide +kernel
theorem dX5_thrown_0 : decode cX5_thrown 0 = .ok (.aload_n 0, 1) := by decide +kernel
theorem dX5_thrown_1 : decode cX5_thrown 1 = .ok (.getfield 35, 3) := by decide +kernel
theorem dX5_thrown_4 : decode cX5_thrown 4 = .ok (.ireturn, 1) := by decide +kernel
theorem dX5_in_0 : decode cX5_in 0 = .ok (.iload_n 0, 1) := by decide +kernel
theorem dX5_in_1 : decode cX5_in 1 = .ok (.iload_n 1, 1) := by decide +kernel
theorem dX5_in_2 : decode cX5_in 2 = .ok (.if_icmp .lt 12, 3) := by decide +kernel
theorem dX5_in_5 : decode cX5_in 5 = .ok (.iload_n 0, 1) := by decide +kernel
theorem dX5_in_6 : decode cX5_in 6 = .ok (.iload_n 2, 1) := by decide +kernel
theorem dX5_in_7 : decode cX5_in 7 = .ok (.if_icmp .gt 7, 3) := by decide +kernel
theorem dX5_in_10 : decode cX5_in 10 = .ok (.iconst 1, 1) := by decide +kernel
theorem dX5_in_11 : decode cX5_in 11 = .ok (.goto 4, 3) := by decide +kernel
theorem dX5_in_14 : decode cX5_in 14 = .ok (.iconst 0, 1) := by decide +kernel
theorem dX5_in_15 : decode cX5_in 15 = .ok (.ireturn, 1) := by decide +kernel
theorem dX5_isRow_0 : decode cX5_isRow 0 = .ok (.iload_n 0, 1) := by decide +kernel
theorem dX5_isRow_1 : decode cX5_isRow 1 = .ok (.iconst 0, 1) := by decide +kernel
theorem dX5_isRow_2 : decode cX5_isRow 2 = .ok (.bipush 19, 2) := by decide +kernel
theorem dX5_isRow_4 : decode cX5_isRow 4 = .ok (.invokestatic 39, 3) := by decide +kernel
theorem dX5_isRow_7 : decode cX5_isRow 7 = .ok (.ireturn, 1) := by decide +kernel
theorem dX5_isKey_0 : decode cX5_isKey 0 = .ok (.iload_n 0, 1) := by decide +kernel
theorem dX5_isKey_1 : decode cX5_isKey 1 = .ok (.iconst 0, 1) := by decide +kernel
theorem dX5_isKey_2 : decode cX5_isKey 2 = .ok (.bipush 15, 2) := by decide +kernel
theorem dX5_isKey_4 : decode cX5_isKey 4 = .ok (.invokestatic 39, 3) := by decide +kernel
theorem dX5_isKey_7 : decode cX5_isKey 7 = .ok (.ireturn, 1) := by decide +kernel
theorem dX5_save_0 : decode cX5_save 0 = .ok (.aload_n 0, 1) := by decide +kernel
theorem dX5_save_1 : decode cX5_save 1 = .ok (.getfield 43, 3) := by decide +kernel
theorem dX5_save_4 : decode cX5_save 4 = .ok (.bipush 6, 2) := by decide +kernel
theorem dX5_save_6 : decode cX5_save 6 = .ok (.if_icmp .ne 44, 3) := by decide +kernel
theorem dX5_save_9 : decode cX5_save 9 = .ok (.iconst 0, 1) := by decide +kernel
theorem dX5_save_10 : decode cX5_save 10 = .ok (.istore_n 1, 1) := by decide +kernel
theorem dX5_save_11 : decode cX5_save 11 = .ok (.iload_n 1, 1) := by decide +kernel
theorem dX5_save_12 : decode cX5_save 12 = .ok (.sipush 1635, 3) := by decide +kernel
theorem dX5_save_15 : decode cX5_save 15 = .ok (.if_icmp .ge 25, 3) := by decide +kernel
theorem dX5_save_18 : decode cX5_save 18 = .ok (.aload_n 0, 1) := by decide +kernel
theorem dX5_save_19 : decode cX5_save 19 = .ok (.getfield 13, 3) := by decide +kernel
theorem dX5_save_22 : decode cX5_save 22 = .ok (.iload_n 1, 1) := by decide +kernel
theorem dX5_save_23 : decode cX5_save 23 = .ok (.aload_n 0, 1) := by decide +kernel
theorem dX5_save_24 : decode cX5_save 24 = .ok (.getfield 13, 3) := by decide +kernel
theorem dX5_save_27 : decode cX5_save 27 = .ok (.iload_n 1, 1) := by decide +kernel
theorem dX5_save_28 : decode cX5_save 28 = .ok (.sipush 327, 3) := by decide +kernel
theorem dX5_save_31 : decode cX5_save 31 = .ok (.iadd, 1) := by decide +kernel
theorem dX5_save_32 : decode cX5_save 32 = .ok (.iaload, 1) := by decide +kernel
theorem dX5_save_33 : decode cX5_save 33 = .ok (.iastore, 1) := by decide +kernel
theorem dX5_save_34 : decode cX5_save 34 = .ok (.iinc 1 1, 3) := by decide +kernel
theorem dX5_save_37 : decode cX5_save 37 = .ok (.goto (-26), 3) := by decide +kernel
theorem dX5_save_40 : decode cX5_save 40 = .ok (.aload_n 0, 1) := by decide +kernel
theorem dX5_save_41 : decode cX5_save 41 = .ok (.dup, 1) := by decide +kernel
theorem dX5_save_42 : decode cX5_save 42 = .ok (.getfield 43, 3) := by decide +kernel
theorem dX5_save_45 : decode cX5_save 45 = .ok (.iconst 1, 1) := by decide +kernel
theorem dX5_save_46 : decode cX5_save 46 = .ok (.isub, 1) := by decide +kernel
theorem dX5_save_47 : decode cX5_save 47 = .ok (.putfield 43, 3) := by decide +kernel
theorem dX5_save_50 : decode cX5_save 50 = .ok (.iconst 0, 1) := by decide +kernel
theorem dX5_save_51 : decode cX5_save 51 = .ok (.istore_n 1, 1) := by decide +kernel
theorem dX5_save_52 : decode cX5_save 52 = .ok (.iload_n 1, 1) := by decide +kernel
theorem dX5_save_53 : decode cX5_save 53 = .ok (.sipush 327, 3) := by decide +kernel
theorem dX5_save_56 : decode cX5_save 56 = .ok (.if_icmp .ge 30, 3) := by decide +kernel
theorem dX5_save_59 : decode cX5_save 59 = .ok (.aload_n 0, 1) := by decide +kernel
theorem dX5_save_60 : decode cX5_save 60 = .ok (.getfield 13, 3) := by decide +kernel
theorem dX5_save_63 : decode cX5_save 63 = .ok (.aload_n 0, 1) := by decide +kernel
theorem dX5_save_64 : decode cX5_save 64 = .ok (.getfield 43, 3) := by decide +kernel
theorem dX5_save_67 : decode cX5_save 67 = .ok (.sipush 327, 3) := by decide +kernel
theorem dX5_save_70 : decode cX5_save 70 = .ok (.imul, 1) := by decide +kernel
theorem dX5_save_71 : decode cX5_save 71 = .ok (.iload_n 1, 1) := by decide +kernel
theorem dX5_save_72 : decode cX5_save 72 = .ok (.iadd, 1) := by decide +kernel
theorem dX5_save_73 : decode cX5_save 73 = .ok (.aload_n 0, 1) := by decide +kernel
theorem dX5_save_74 : decode cX5_save 74 = .ok (.getfield 7, 3) := by decide +kernel
theorem dX5_save_77 : decode cX5_save 77 = .ok (.iload_n 1, 1) := by decide +kernel
theorem dX5_save_78 : decode cX5_save 78 = .ok (.iaload, 1) := by decide +kernel
theorem dX5_save_79 : decode cX5_save 79 = .ok (.iastore, 1) := by decide +kernel
theorem dX5_save_80 : decode cX5_save 80 = .ok (.iinc 1 1, 3) := by decide +kernel
theorem dX5_save_83 : decode cX5_save 83 = .ok (.goto (-31), 3) := by decide +kernel
theorem dX5_save_86 : decode cX5_save 86 = .ok (.aload_n 0, 1) := by decide +kernel
theorem dX5_save_87 : decode cX5_save 87 = .ok (.dup, 1) := by decide +kernel
theorem dX5_save_88 : decode cX5_save 88 = .ok (.getfield 43, 3) := by decide +kernel
theorem dX5_save_91 : decode cX5_save 91 = .ok (.iconst 1, 1) := by decide +kernel
theorem dX5_save_92 : decode cX5_save 92 = .ok (.iadd, 1) := by decide +kernel
theorem dX5_save_93 : decode cX5_save 93 = .ok (.putfield 43, 3) := by decide +kernel
theorem dX5_save_96 : decode cX5_save 96 = .ok (.return_, 1) := by decide +kernel
theorem dX5_undo_0 : decode cX5_undo 0 = .ok (.aload_n 0, 1) := by decide +kernel
theorem dX5_undo_1 : decode cX5_undo 1 = .ok (.aload_n 0, 1) := by decide +kernel
theorem dX5_undo_2 : decode cX5_undo 2 = .ok (.getfield 43, 3) := by decide +kernel
theorem dX5_undo_5 : decode cX5_undo 5 = .ok (.ifCond .ne 7, 3) := by decide +kernel
theorem dX5_undo_8 : decode cX5_undo 8 = .ok (.iconst 1, 1) := by decide +kernel
theorem dX5_undo_9 : decode cX5_undo 9 = .ok (.goto 4, 3) := by decide +kernel
theorem dX5_undo_12 : decode cX5_undo 12 = .ok (.iconst 0, 1) := by decide +kernel
theorem dX5_undo_13 : decode cX5_undo 13 = .ok (.putfield 35, 3) := by decide +kernel
theorem dX5_undo_16 : decode cX5_undo 16 = .ok (.aload_n 0, 1) := by decide +kernel
theorem dX5_undo_17 : decode cX5_undo 17 = .ok (.getfield 35, 3) := by decide +kernel
theorem dX5_undo_20 : decode cX5_undo 20 = .ok (.ifCond .le 5, 3) := by decide +kernel
theorem dX5_undo_23 : decode cX5_undo 23 = .ok (.iconst 0, 1) := by decide +kernel
theorem dX5_undo_24 : decode cX5_undo 24 = .ok (.ireturn, 1) := by decide +kernel
theorem dX5_undo_25 : decode cX5_undo 25 = .ok (.aload_n 0, 1) := by decide +kernel
theorem dX5_undo_26 : decode cX5_undo 26 = .ok (.dup, 1) := by decide +kernel
theorem dX5_undo_27 : decode cX5_undo 27 = .ok (.getfield 43, 3) := by decide +kernel
theorem dX5_undo_30 : decode cX5_undo 30 = .ok (.iconst 1, 1) := by decide +kernel
theorem dX5_undo_31 : decode cX5_undo 31 = .ok (.isub, 1) := by decide +kernel
theorem dX5_undo_32 : decode cX5_undo 32 = .ok (.putfield 43, 3) := by decide +kernel
theorem dX5_undo_35 : decode cX5_undo 35 = .ok (.iconst 0, 1) := by decide +kernel
theorem dX5_undo_36 : decode cX5_undo 36 = .ok (.istore_n 1, 1) := by decide +kernel
theorem dX5_undo_37 : decode cX5_undo 37 = .ok (.iload_n 1, 1) := by decide +kernel
theorem dX5_undo_38 : decode cX5_undo 38 = .ok (.sipush 327, 3) := by decide +kernel
theorem dX5_undo_41 : decode cX5_undo 41 = .ok (.if_icmp .ge 30, 3) := by decide +kernel
theorem dX5_undo_44 : decode cX5_undo 44 = .ok (.aload_n 0, 1) := by decide +kernel
theorem dX5_undo_45 : decode cX5_undo 45 = .ok (.getfield 7, 3) := by decide +kernel
theorem dX5_undo_48 : decode cX5_undo 48 = .ok (.iload_n 1, 1) := by decide +kernel
theorem dX5_undo_49 : decode cX5_undo 49 = .ok (.aload_n 0, 1) := by decide +kernel
theorem dX5_undo_50 : decode cX5_undo 50 = .ok (.getfield 13, 3) := by decide +kernel
theorem dX5_undo_53 : decode cX5_undo 53 = .ok (.aload_n 0, 1) := by decide +kernel
theorem dX5_undo_54 : decode cX5_undo 54 = .ok (.getfield 43, 3) := by decide +kernel
theorem dX5_undo_57 : decode cX5_undo 57 = .ok (.sipush 327, 3) := by decide +kernel
theorem dX5_undo_60 : decode cX5_undo 60 = .ok (.imul, 1) := by decide +kernel
theorem dX5_undo_61 : decode cX5_undo 61 = .ok (.iload_n 1, 1) := by decide +kernel
theorem dX5_undo_62 : decode cX5_undo 62 = .ok (.iadd, 1) := by decide +kernel
theorem dX5_undo_63 : decode cX5_undo 63 = .ok (.iaload, 1) := by decide +kernel
theorem dX5_undo_64 : decode cX5_undo 64 = .ok (.iastore, 1) := by decide +kernel
theorem dX5_undo_65 : decode cX5_undo 65 = .ok (.iinc 1 1, 3) := by decide +kernel
theorem dX5_undo_68 : decode cX5_undo 68 = .ok (.goto (-31), 3) := by decide +kernel
theorem dX5_undo_71 : decode cX5_undo 71 = .ok (.aload_n 0, 1) := by decide +kernel
theorem dX5_undo_72 : decode cX5_undo 72 = .ok (.getfield 43, 3) := by decide +kernel
theorem dX5_undo_75 : decode cX5_undo 75 = .ok (.ireturn, 1) := by decide +kernel
theorem dX5_putAside_0 : decode cX5_putAside 0 = .ok (.iconst 0, 1) := by decide +kernel
theorem dX5_putAside_1 : decode cX5_putAside 1 = .ok (.istore_n 1, 1) := by decide +kernel
theorem dX5_putAside_2 : decode cX5_putAside 2 = .ok (.iload_n 1, 1) := by decide +kernel
theorem dX5_putAside_3 : decode cX5_putAside 3 = .ok (.sipush 327, 3) := by decide +kernel
theorem dX5_putAside_6 : decode cX5_putAside 6 = .ok (.if_icmp .ge 21, 3) := by decide +kernel
theorem dX5_putAside_9 : decode cX5_putAside 9 = .ok (.aload_n 0, 1) := by decide +kernel
theorem dX5_putAside_10 : decode cX5_putAside 10 = .ok (.getfield 16, 3) := by decide +kernel
theorem dX5_putAside_13 : decode cX5_putAside 13 = .ok (.iload_n 1, 1) := by decide +kernel
theorem dX5_putAside_14 : decode cX5_putAside 14 = .ok (.aload_n 0, 1) := by decide +kernel
theorem dX5_putAside_15 : decode cX5_putAside 15 = .ok (.getfield 7, 3) := by decide +kernel
theorem dX5_putAside_18 : decode cX5_putAside 18 = .ok (.iload_n 1, 1) := by decide +kernel
theorem dX5_putAside_19 : decode cX5_putAside 19 = .ok (.iaload, 1) := by decide +kernel
theorem dX5_putAside_20 : decode cX5_putAside 20 = .ok (.iastore, 1) := by decide +kernel
theorem dX5_putAside_21 : decode cX5_putAside 21 = .ok (.iinc 1 1, 3) := by decide +kernel
theorem dX5_putAside_24 : decode cX5_putAside 24 = .ok (.goto (-22), 3) := by decide +kernel
theorem dX5_putAside_27 : decode cX5_putAside 27 = .ok (.return_, 1) := by decide +kernel
theorem dX5_bringBack_0 : decode cX5_bringBack 0 = .ok (.iconst 0, 1) := by decide +kernel
theorem dX5_bringBack_1 : decode cX5_bringBack 1 = .ok (.istore_n 1, 1) := by decide +kernel
theorem dX5_bringBack_2 : decode cX5_bringBack 2 = .ok (.iload_n 1, 1) := by decide +kernel
theorem dX5_bringBack_3 : decode cX5_bringBack 3 = .ok (.sipush 327, 3) := by decide +kernel
theorem dX5_bringBack_6 : decode cX5_bringBack 6 = .ok (.if_icmp .ge 21, 3) := by decide +kernel
theorem dX5_bringBack_9 : decode cX5_bringBack 9 = .ok (.aload_n 0, 1) := by decide +kernel
theorem dX5_bringBack_10 : decode cX5_bringBack 10 = .ok (.getfield 7, 3) := by decide +kernel
theorem dX5_bringBack_13 : decode cX5_bringBack 13 = .ok (.iload_n 1, 1) := by decide +kernel
theorem dX5_bringBack_14 : decode cX5_bringBack 14 = .ok (.aload_n 0, 1) := by decide +kernel
theorem dX5_bringBack_15 : decode cX5_bringBack 15 = .ok (.getfield 16, 3) := by decide +kernel
theorem dX5_bringBack_18 : decode cX5_bringBack 18 = .ok (.iload_n 1, 1) := by decide +kernel
theorem dX5_bringBack_19 : decode cX5_bringBack 19 = .ok (.iaload, 1) := by decide +kernel
theorem dX5_bringBack_20 : decode cX5_bringBack 20 = .ok (.iastore, 1) := by decide +kernel
theorem dX5_bringBack_21 : decode cX5_bringBack 21 = .ok (.iinc 1 1, 3) := by decide +kernel
theorem dX5_bringBack_24 : decode cX5_bringBack 24 = .ok (.goto (-22), 3) := by decide +kernel
theorem dX5_bringBack_27 : decode cX5_bringBack 27 = .ok (.return_, 1) := by decide +kernel
theorem dX5_strength_0 : decode cX5_strength 0 = .ok (.aload_n 0, 1) := by decide +kernel
theorem dX5_strength_1 : decode cX5_strength 1 = .ok (.getfield 7, 3) := by decide +kernel
theorem dX5_strength_4 : decode cX5_strength 4 = .ok (.bipush 7, 2) := by decide +kernel
theorem dX5_strength_6 : decode cX5_strength 6 = .ok (.bipush 16, 2) := by decide +kernel
theorem dX5_strength_8 : decode cX5_strength 8 = .ok (.iload_n 1, 1) := by decide +kernel
theorem dX5_strength_9 : decode cX5_strength 9 = .ok (.imul, 1) := by decide +kernel
theorem dX5_strength_10 : decode cX5_strength 10 = .ok (.iadd, 1) := by decide +kernel
theorem dX5_strength_11 : decode cX5_strength 11 = .ok (.iload_n 2, 1) := by decide +kernel
theorem dX5_strength_12 : decode cX5_strength 12 = .ok (.iadd, 1) := by decide +kernel
theorem dX5_strength_13 : decode cX5_strength 13 = .ok (.iaload, 1) := by decide +kernel
theorem dX5_strength_14 : decode cX5_strength 14 = .ok (.ireturn, 1) := by decide +kernel
theorem dX5_once_0 : decode cX5_once 0 = .ok (.aload_n 0, 1) := by decide +kernel
theorem dX5_once_1 : decode cX5_once 1 = .ok (.iload_n 1, 1) := by decide +kernel
theorem dX5_once_2 : decode cX5_once 2 = .ok (.iload_n 2, 1) := by decide +kernel
theorem dX5_once_3 : decode cX5_once 3 = .ok (.invokevirtual 46, 3) := by decide +kernel
theorem dX5_once_6 : decode cX5_once 6 = .ok (.iload_n 3, 1) := by decide +kernel
theorem dX5_once_7 : decode cX5_once 7 = .ok (.iload_n 1, 1) := by decide +kernel
theorem dX5_once_8 : decode cX5_once 8 = .ok (.iadd, 1) := by decide +kernel
theorem dX5_once_9 : decode cX5_once 9 = .ok (.iload_n 2, 1) := by decide +kernel
theorem dX5_once_10 : decode cX5_once 10 = .ok (.iadd, 1) := by decide +kernel
theorem dX5_once_11 : decode cX5_once 11 = .ok (.iconst 3, 1) := by decide +kernel
theorem dX5_once_12 : decode cX5_once 12 = .ok (.irem, 1) := by decide +kernel
theorem dX5_once_13 : decode cX5_once 13 = .ok (.if_icmp .le 7, 3) := by decide +kernel
theorem dX5_once_16 : decode cX5_once 16 = .ok (.iconst 1, 1) := by decide +kernel
theorem dX5_once_17 : decode cX5_once 17 = .ok (.goto 4, 3) := by decide +kernel
theorem dX5_once_20 : decode cX5_once 20 = .ok (.iconst 0, 1) := by decide +kernel
theorem dX5_once_21 : decode cX5_once 21 = .ok (.ireturn, 1) := by decide +kernel
theorem dX5_thrice_0 : decode cX5_thrice 0 = .ok (.aload_n 0, 1) := by decide +kernel
theorem dX5_thrice_1 : decode cX5_thrice 1 = .ok (.iload_n 1, 1) := by decide +kernel
theorem dX5_thrice_2 : decode cX5_thrice 2 = .ok (.iload_n 2, 1) := by decide +kernel
theorem dX5_thrice_3 : decode cX5_thrice 3 = .ok (.iload_n 3, 1) := by decide +kernel
theorem dX5_thrice_4 : decode cX5_thrice 4 = .ok (.invokevirtual 50, 3) := by decide +kernel
theorem dX5_thrice_7 : decode cX5_thrice 7 = .ok (.aload_n 0, 1) := by decide +kernel
theorem dX5_thrice_8 : decode cX5_thrice 8 = .ok (.iload_n 1, 1) := by decide +kernel
theorem dX5_thrice_9 : decode cX5_thrice 9 = .ok (.iload_n 2, 1) := by decide +kernel
theorem dX5_thrice_10 : decode cX5_thrice 10 = .ok (.iload_n 3, 1) := by decide +kernel
theorem dX5_thrice_11 : decode cX5_thrice 11 = .ok (.iconst 1, 1) := by decide +kernel
theorem dX5_thrice_12 : decode cX5_thrice 12 = .ok (.iadd, 1) := by decide +kernel
theorem dX5_thrice_13 : decode cX5_thrice 13 = .ok (.invokevirtual 50, 3) := by decide +kernel
theorem dX5_thrice_16 : decode cX5_thrice 16 = .ok (.iadd, 1) := by decide +kernel
theorem dX5_thrice_17 : decode cX5_thrice 17 = .ok (.aload_n 0, 1) := by decide +kernel
theorem dX5_thrice_18 : decode cX5_thrice 18 = .ok (.iload_n 1, 1) := by decide +kernel
theorem dX5_thrice_19 : decode cX5_thrice 19 = .ok (.iload_n 2, 1) := by decide +kernel
theorem dX5_thrice_20 : decode cX5_thrice 20 = .ok (.iload_n 3, 1) := by decide +kernel
theorem dX5_thrice_21 : decode cX5_thrice 21 = .ok (.iconst 2, 1) := by decide +kernel
theorem dX5_thrice_22 : decode cX5_thrice 22 = .ok (.iadd, 1) := by decide +kernel
theorem dX5_thrice_23 : decode cX5_thrice 23 = .ok (.invokevirtual 50, 3) := by decide +kernel
theorem dX5_thrice_26 : decode cX5_thrice 26 = .ok (.iadd, 1) := by decide +kernel
theorem dX5_thrice_27 : decode cX5_thrice 27 = .ok (.iconst 1, 1) := by decide +kernel
theorem dX5_thrice_28 : decode cX5_thrice 28 = .ok (.if_icmp .le 7, 3) := by decide +kernel
theorem dX5_thrice_31 : decode cX5_thrice 31 = .ok (.iconst 1, 1) := by decide +kernel
theorem dX5_thrice_32 : decode cX5_thrice 32 = .ok (.goto 4, 3) := by decide +kernel
theorem dX5_thrice_35 : decode cX5_thrice 35 = .ok (.iconst 0, 1) := by decide +kernel
theorem dX5_thrice_36 : decode cX5_thrice 36 = .ok (.ireturn, 1) := by decide +kernel
theorem dX5_reads_0 : decode cX5_reads 0 = .ok (.iload 4, 2) := by decide +kernel
theorem dX5_reads_2 : decode cX5_reads 2 = .ok (.ifCond .eq 13, 3) := by decide +kernel
theorem dX5_reads_5 : decode cX5_reads 5 = .ok (.aload_n 0, 1) := by decide +kernel
theorem dX5_reads_6 : decode cX5_reads 6 = .ok (.iload_n 1, 1) := by decide +kernel
theorem dX5_reads_7 : decode cX5_reads 7 = .ok (.iload_n 2, 1) := by decide +kernel
theorem dX5_reads_8 : decode cX5_reads 8 = .ok (.iload_n 3, 1) := by decide +kernel
theorem dX5_reads_9 : decode cX5_reads 9 = .ok (.invokevirtual 54, 3) := by decide +kernel
theorem dX5_reads_12 : decode cX5_reads 12 = .ok (.goto 10, 3) := by decide +kernel
theorem dX5_reads_15 : decode cX5_reads 15 = .ok (.aload_n 0, 1) := by decide +kernel
theorem dX5_reads_16 : decode cX5_reads 16 = .ok (.iload_n 1, 1) := by decide +kernel
theorem dX5_reads_17 : decode cX5_reads 17 = .ok (.iload_n 2, 1) := by decide +kernel
theorem dX5_reads_18 : decode cX5_reads 18 = .ok (.iload_n 3, 1) := by decide +kernel
theorem dX5_reads_19 : decode cX5_reads 19 = .ok (.invokevirtual 50, 3) := by decide +kernel
theorem dX5_reads_22 : decode cX5_reads 22 = .ok (.ireturn, 1) := by decide +kernel
theorem dX5_mask_0 : decode cX5_mask 0 = .ok (.iconst 0, 1) := by decide +kernel
theorem dX5_mask_1 : decode cX5_mask 1 = .ok (.istore 4, 2) := by decide +kernel
theorem dX5_mask_3 : decode cX5_mask 3 = .ok (.iconst 0, 1) := by decide +kernel
theorem dX5_mask_4 : decode cX5_mask 4 = .ok (.istore 5, 2) := by decide +kernel
theorem dX5_mask_6 : decode cX5_mask 6 = .ok (.iload 5, 2) := by decide +kernel
theorem dX5_mask_8 : decode cX5_mask 8 = .ok (.bipush 16, 2) := by decide +kernel
theorem dX5_mask_10 : decode cX5_mask 10 = .ok (.if_icmp .ge 26, 3) := by decide +kernel
theorem dX5_mask_13 : decode cX5_mask 13 = .ok (.iload 4, 2) := by decide +kernel
theorem dX5_mask_15 : decode cX5_mask 15 = .ok (.aload_n 0, 1) := by decide +kernel
theorem dX5_mask_16 : decode cX5_mask 16 = .ok (.iload_n 1, 1) := by decide +kernel
theorem dX5_mask_17 : decode cX5_mask 17 = .ok (.iload 5, 2) := by decide +kernel
theorem dX5_mask_19 : decode cX5_mask 19 = .ok (.iload_n 2, 1) := by decide +kernel
theorem dX5_mask_20 : decode cX5_mask 20 = .ok (.iload_n 3, 1) := by decide +kernel
theorem dX5_mask_21 : decode cX5_mask 21 = .ok (.invokevirtual 57, 3) := by decide +kernel
theorem dX5_mask_24 : decode cX5_mask 24 = .ok (.iload 5, 2) := by decide +kernel
theorem dX5_mask_26 : decode cX5_mask 26 = .ok (.ishl, 1) := by decide +kernel
theorem dX5_mask_27 : decode cX5_mask 27 = .ok (.ior, 1) := by decide +kernel
theorem dX5_mask_28 : decode cX5_mask 28 = .ok (.istore 4, 2) := by decide +kernel
theorem dX5_mask_30 : decode cX5_mask 30 = .ok (.iinc 5 1, 3) := by decide +kernel
theorem dX5_mask_33 : decode cX5_mask 33 = .ok (.goto (-27), 3) := by decide +kernel
theorem dX5_mask_36 : decode cX5_mask 36 = .ok (.iload 4, 2) := by decide +kernel
theorem dX5_mask_38 : decode cX5_mask 38 = .ok (.ireturn, 1) := by decide +kernel
theorem dX5_isThriceNow_0 : decode cX5_isThriceNow 0 = .ok (.aload_n 0, 1) := by decide +kernel
theorem dX5_isThriceNow_1 : decode cX5_isThriceNow 1 = .ok (.getfield 7, 3) := by decide +kernel
theorem dX5_isThriceNow_4 : decode cX5_isThriceNow 4 = .ok (.iconst 3, 1) := by decide +kernel
theorem dX5_isThriceNow_5 : decode cX5_isThriceNow 5 = .ok (.iaload, 1) := by decide +kernel
theorem dX5_isThriceNow_6 : decode cX5_isThriceNow 6 = .ok (.iconst 1, 1) := by decide +kernel
theorem dX5_isThriceNow_7 : decode cX5_isThriceNow 7 = .ok (.if_icmp .ne 7, 3) := by decide +kernel
theorem dX5_isThriceNow_10 : decode cX5_isThriceNow 10 = .ok (.iconst 1, 1) := by decide +kernel
theorem dX5_isThriceNow_11 : decode cX5_isThriceNow 11 = .ok (.goto 4, 3) := by decide +kernel
theorem dX5_isThriceNow_14 : decode cX5_isThriceNow 14 = .ok (.iconst 0, 1) := by decide +kernel
theorem dX5_isThriceNow_15 : decode cX5_isThriceNow 15 = .ok (.ireturn, 1) := by decide +kernel
theorem dX5_maskNow_0 : decode cX5_maskNow 0 = .ok (.aload_n 0, 1) := by decide +kernel
theorem dX5_maskNow_1 : decode cX5_maskNow 1 = .ok (.iload_n 1, 1) := by decide +kernel
theorem dX5_maskNow_2 : decode cX5_maskNow 2 = .ok (.aload_n 0, 1) := by decide +kernel
theorem dX5_maskNow_3 : decode cX5_maskNow 3 = .ok (.getfield 7, 3) := by decide +kernel
theorem dX5_maskNow_6 : decode cX5_maskNow 6 = .ok (.iconst 0, 1) := by decide +kernel
theorem dX5_maskNow_7 : decode cX5_maskNow 7 = .ok (.iaload, 1) := by decide +kernel
theorem dX5_maskNow_8 : decode cX5_maskNow 8 = .ok (.aload_n 0, 1) := by decide +kernel
theorem dX5_maskNow_9 : decode cX5_maskNow 9 = .ok (.invokevirtual 61, 3) := by decide +kernel
theorem dX5_maskNow_12 : decode cX5_maskNow 12 = .ok (.invokevirtual 65, 3) := by decide +kernel
theorem dX5_maskNow_15 : decode cX5_maskNow 15 = .ok (.ireturn, 1) := by decide +kernel
theorem dX5_bits_0 : decode cX5_bits 0 = .ok (.iconst 0, 1) := by decide +kernel
theorem dX5_bits_1 : decode cX5_bits 1 = .ok (.istore_n 1, 1) := by decide +kernel
theorem dX5_bits_2 : decode cX5_bits 2 = .ok (.iload_n 0, 1) := by decide +kernel
theorem dX5_bits_3 : decode cX5_bits 3 = .ok (.istore_n 2, 1) := by decide +kernel
theorem dX5_bits_4 : decode cX5_bits 4 = .ok (.iload_n 2, 1) := by decide +kernel
theorem dX5_bits_5 : decode cX5_bits 5 = .ok (.ifCond .eq 15, 3) := by decide +kernel
theorem dX5_bits_8 : decode cX5_bits 8 = .ok (.iinc 1 1, 3) := by decide +kernel
theorem dX5_bits_11 : decode cX5_bits 11 = .ok (.iload_n 2, 1) := by decide +kernel
theorem dX5_bits_12 : decode cX5_bits 12 = .ok (.iload_n 2, 1) := by decide +kernel
theorem dX5_bits_13 : decode cX5_bits 13 = .ok (.iconst 1, 1) := by decide +kernel
theorem dX5_bits_14 : decode cX5_bits 14 = .ok (.isub, 1) := by decide +kernel
theorem dX5_bits_15 : decode cX5_bits 15 = .ok (.iand, 1) := by decide +kernel
theorem dX5_bits_16 : decode cX5_bits 16 = .ok (.istore_n 2, 1) := by decide +kernel
theorem dX5_bits_17 : decode cX5_bits 17 = .ok (.goto (-13), 3) := by decide +kernel
theorem dX5_bits_20 : decode cX5_bits 20 = .ok (.iload_n 1, 1) := by decide +kernel
theorem dX5_bits_21 : decode cX5_bits 21 = .ok (.ireturn, 1) := by decide +kernel
theorem dX5_keyIn_0 : decode cX5_keyIn 0 = .ok (.iload_n 0, 1) := by decide +kernel
theorem dX5_keyIn_1 : decode cX5_keyIn 1 = .ok (.bipush 15, 2) := by decide +kernel
theorem dX5_keyIn_3 : decode cX5_keyIn 3 = .ok (.iand, 1) := by decide +kernel
theorem dX5_keyIn_4 : decode cX5_keyIn 4 = .ok (.ireturn, 1) := by decide +kernel
theorem dX5_valueIn_0 : decode cX5_valueIn 0 = .ok (.iload_n 0, 1) := by decide +kernel
theorem dX5_valueIn_1 : decode cX5_valueIn 1 = .ok (.iconst 4, 1) := by decide +kernel
theorem dX5_valueIn_2 : decode cX5_valueIn 2 = .ok (.ishr, 1) := by decide +kernel
theorem dX5_valueIn_3 : decode cX5_valueIn 3 = .ok (.bipush 63, 2) := by decide +kernel
theorem dX5_valueIn_5 : decode cX5_valueIn 5 = .ok (.iand, 1) := by decide +kernel
theorem dX5_valueIn_6 : decode cX5_valueIn 6 = .ok (.ireturn, 1) := by decide +kernel
theorem dX5_zerosIn_0 : decode cX5_zerosIn 0 = .ok (.bipush 10, 2) := by decide +kernel
theorem dX5_zerosIn_2 : decode cX5_zerosIn 2 = .ok (.iload_n 0, 1) := by decide +kernel
theorem dX5_zerosIn_3 : decode cX5_zerosIn 3 = .ok (.sipush 1023, 3) := by decide +kernel
theorem dX5_zerosIn_6 : decode cX5_zerosIn 6 = .ok (.iand, 1) := by decide +kernel
theorem dX5_zerosIn_7 : decode cX5_zerosIn 7 = .ok (.invokestatic 69, 3) := by decide +kernel
theorem dX5_zerosIn_10 : decode cX5_zerosIn 10 = .ok (.isub, 1) := by decide +kernel
theorem dX5_zerosIn_11 : decode cX5_zerosIn 11 = .ok (.ireturn, 1) := by decide +kernel
theorem dX5_kindOf_0 : decode cX5_kindOf 0 = .ok (.iload_n 0, 1) := by decide +kernel
theorem dX5_kindOf_1 : decode cX5_kindOf 1 = .ok (.ifCond .ne 5, 3) := by decide +kernel
theorem dX5_kindOf_4 : decode cX5_kindOf 4 = .ok (.iconst 0, 1) := by decide +kernel
theorem dX5_kindOf_5 : decode cX5_kindOf 5 = .ok (.ireturn, 1) := by decide +kernel
theorem dX5_kindOf_6 : decode cX5_kindOf 6 = .ok (.iload_n 0, 1) := by decide +kernel
theorem dX5_kindOf_7 : decode cX5_kindOf 7 = .ok (.sipush 16383, 3) := by decide +kernel
theorem dX5_kindOf_10 : decode cX5_kindOf 10 = .ok (.iand, 1) := by decide +kernel
theorem dX5_kindOf_11 : decode cX5_kindOf 11 = .ok (.ifCond .ne 5, 3) := by decide +kernel
theorem dX5_kindOf_14 : decode cX5_kindOf 14 = .ok (.iconst 1, 1) := by decide +kernel
theorem dX5_kindOf_15 : decode cX5_kindOf 15 = .ok (.ireturn, 1) := by decide +kernel
theorem dX5_kindOf_16 : decode cX5_kindOf 16 = .ok (.iload_n 0, 1) := by decide +kernel
theorem dX5_kindOf_17 : decode cX5_kindOf 17 = .ok (.bipush 14, 2) := by decide +kernel
theorem dX5_kindOf_19 : decode cX5_kindOf 19 = .ok (.ishr, 1) := by decide +kernel
theorem dX5_kindOf_20 : decode cX5_kindOf 20 = .ok (.iconst 1, 1) := by decide +kernel
theorem dX5_kindOf_21 : decode cX5_kindOf 21 = .ok (.iand, 1) := by decide +kernel
theorem dX5_kindOf_22 : decode cX5_kindOf 22 = .ok (.iconst 1, 1) := by decide +kernel
theorem dX5_kindOf_23 : decode cX5_kindOf 23 = .ok (.if_icmp .ne 7, 3) := by decide +kernel
theorem dX5_kindOf_26 : decode cX5_kindOf 26 = .ok (.iconst 1, 1) := by decide +kernel
theorem dX5_kindOf_27 : decode cX5_kindOf 27 = .ok (.goto 4, 3) := by decide +kernel
theorem dX5_kindOf_30 : decode cX5_kindOf 30 = .ok (.iconst 0, 1) := by decide +kernel
theorem dX5_kindOf_31 : decode cX5_kindOf 31 = .ok (.istore_n 1, 1) := by decide +kernel
theorem dX5_kindOf_32 : decode cX5_kindOf 32 = .ok (.iload_n 1, 1) := by decide +kernel
theorem dX5_kindOf_33 : decode cX5_kindOf 33 = .ok (.ifCond .eq 7, 3) := by decide +kernel
theorem dX5_kindOf_36 : decode cX5_kindOf 36 = .ok (.iconst 2, 1) := by decide +kernel
theorem dX5_kindOf_37 : decode cX5_kindOf 37 = .ok (.goto 22, 3) := by decide +kernel
theorem dX5_kindOf_40 : decode cX5_kindOf 40 = .ok (.iload_n 0, 1) := by decide +kernel
theorem dX5_kindOf_41 : decode cX5_kindOf 41 = .ok (.bipush 10, 2) := by decide +kernel
theorem dX5_kindOf_43 : decode cX5_kindOf 43 = .ok (.ishr, 1) := by decide +kernel
theorem dX5_kindOf_44 : decode cX5_kindOf 44 = .ok (.bipush 15, 2) := by decide +kernel
theorem dX5_kindOf_46 : decode cX5_kindOf 46 = .ok (.iand, 1) := by decide +kernel
theorem dX5_kindOf_47 : decode cX5_kindOf 47 = .ok (.iload_n 0, 1) := by decide +kernel
theorem dX5_kindOf_48 : decode cX5_kindOf 48 = .ok (.invokestatic 73, 3) := by decide +kernel
theorem dX5_kindOf_51 : decode cX5_kindOf 51 = .ok (.if_icmp .ne 7, 3) := by decide +kernel
theorem dX5_kindOf_54 : decode cX5_kindOf 54 = .ok (.iconst 4, 1) := by decide +kernel
theorem dX5_kindOf_55 : decode cX5_kindOf 55 = .ok (.goto 4, 3) := by decide +kernel
theorem dX5_kindOf_58 : decode cX5_kindOf 58 = .ok (.iconst 3, 1) := by decide +kernel
theorem dX5_kindOf_59 : decode cX5_kindOf 59 = .ok (.ireturn, 1) := by decide +kernel
theorem dX5_isLocked_0 : decode cX5_isLocked 0 = .ok (.aload_n 0, 1) := by decide +kernel
theorem dX5_isLocked_1 : decode cX5_isLocked 1 = .ok (.iload_n 1, 1) := by decide +kernel
theorem dX5_isLocked_2 : decode cX5_isLocked 2 = .ok (.bipush 15, 2) := by decide +kernel
theorem dX5_isLocked_4 : decode cX5_isLocked 4 = .ok (.aload_n 0, 1) := by decide +kernel
theorem dX5_isLocked_5 : decode cX5_isLocked 5 = .ok (.getfield 7, 3) := by decide +kernel
theorem dX5_isLocked_8 : decode cX5_isLocked 8 = .ok (.iconst 0, 1) := by decide +kernel
theorem dX5_isLocked_9 : decode cX5_isLocked 9 = .ok (.iaload, 1) := by decide +kernel
theorem dX5_isLocked_10 : decode cX5_isLocked 10 = .ok (.invokevirtual 54, 3) := by decide +kernel
theorem dX5_isLocked_13 : decode cX5_isLocked 13 = .ok (.iconst 1, 1) := by decide +kernel
theorem dX5_isLocked_14 : decode cX5_isLocked 14 = .ok (.if_icmp .ne 7, 3) := by decide +kernel
theorem dX5_isLocked_17 : decode cX5_isLocked 17 = .ok (.iconst 1, 1) := by decide +kernel
theorem dX5_isLocked_18 : decode cX5_isLocked 18 = .ok (.goto 4, 3) := by decide +kernel
theorem dX5_isLocked_21 : decode cX5_isLocked 21 = .ok (.iconst 0, 1) := by decide +kernel
theorem dX5_isLocked_22 : decode cX5_isLocked 22 = .ok (.ireturn, 1) := by decide +kernel
theorem dX5_rowOf_0 : decode cX5_rowOf 0 = .ok (.iconst (-1), 1) := by decide +kernel
theorem dX5_rowOf_1 : decode cX5_rowOf 1 = .ok (.istore 4, 2) := by decide +kernel
theorem dX5_rowOf_3 : decode cX5_rowOf 3 = .ok (.iconst 0, 1) := by decide +kernel
theorem dX5_rowOf_4 : decode cX5_rowOf 4 = .ok (.istore 5, 2) := by decide +kernel
theorem dX5_rowOf_6 : decode cX5_rowOf 6 = .ok (.iload 5, 2) := by decide +kernel
theorem dX5_rowOf_8 : decode cX5_rowOf 8 = .ok (.bipush 20, 2) := by decide +kernel
theorem dX5_rowOf_10 : decode cX5_rowOf 10 = .ok (.if_icmp .ge 46, 3) := by decide +kernel
theorem dX5_rowOf_13 : decode cX5_rowOf 13 = .ok (.aload_n 0, 1) := by decide +kernel
theorem dX5_rowOf_14 : decode cX5_rowOf 14 = .ok (.iload 5, 2) := by decide +kernel
theorem dX5_rowOf_16 : decode cX5_rowOf 16 = .ok (.iload_n 2, 1) := by decide +kernel
theorem dX5_rowOf_17 : decode cX5_rowOf 17 = .ok (.iload_n 3, 1) := by decide +kernel
theorem dX5_rowOf_18 : decode cX5_rowOf 18 = .ok (.invokevirtual 65, 3) := by decide +kernel
theorem dX5_rowOf_21 : decode cX5_rowOf 21 = .ok (.istore 6, 2) := by decide +kernel
theorem dX5_rowOf_23 : decode cX5_rowOf 23 = .ok (.iload 6, 2) := by decide +kernel
theorem dX5_rowOf_25 : decode cX5_rowOf 25 = .ok (.invokestatic 76, 3) := by decide +kernel
theorem dX5_rowOf_28 : decode cX5_rowOf 28 = .ok (.iconst 4, 1) := by decide +kernel
theorem dX5_rowOf_29 : decode cX5_rowOf 29 = .ok (.if_icmp .ne 17, 3) := by decide +kernel
theorem dX5_rowOf_32 : decode cX5_rowOf 32 = .ok (.iload 6, 2) := by decide +kernel
theorem dX5_rowOf_34 : decode cX5_rowOf 34 = .ok (.invokestatic 79, 3) := by decide +kernel
theorem dX5_rowOf_37 : decode cX5_rowOf 37 = .ok (.iload_n 1, 1) := by decide +kernel
theorem dX5_rowOf_38 : decode cX5_rowOf 38 = .ok (.if_icmp .ne 8, 3) := by decide +kernel
theorem dX5_rowOf_41 : decode cX5_rowOf 41 = .ok (.iload 5, 2) := by decide +kernel
theorem dX5_rowOf_43 : decode cX5_rowOf 43 = .ok (.goto 5, 3) := by decide +kernel
theorem dX5_rowOf_46 : decode cX5_rowOf 46 = .ok (.iload 4, 2) := by decide +kernel
theorem dX5_rowOf_48 : decode cX5_rowOf 48 = .ok (.istore 4, 2) := by decide +kernel
theorem dX5_rowOf_50 : decode cX5_rowOf 50 = .ok (.iinc 5 1, 3) := by decide +kernel
theorem dX5_rowOf_53 : decode cX5_rowOf 53 = .ok (.goto (-47), 3) := by decide +kernel
theorem dX5_rowOf_56 : decode cX5_rowOf 56 = .ok (.iload 4, 2) := by decide +kernel
theorem dX5_rowOf_58 : decode cX5_rowOf 58 = .ok (.ireturn, 1) := by decide +kernel
theorem dX5_valueOf_0 : decode cX5_valueOf 0 = .ok (.aload_n 0, 1) := by decide +kernel
theorem dX5_valueOf_1 : decode cX5_valueOf 1 = .ok (.iload_n 1, 1) := by decide +kernel
theorem dX5_valueOf_2 : decode cX5_valueOf 2 = .ok (.iload_n 2, 1) := by decide +kernel
theorem dX5_valueOf_3 : decode cX5_valueOf 3 = .ok (.iload_n 3, 1) := by decide +kernel
theorem dX5_valueOf_4 : decode cX5_valueOf 4 = .ok (.invokevirtual 82, 3) := by decide +kernel
theorem dX5_valueOf_7 : decode cX5_valueOf 7 = .ok (.istore 4, 2) := by decide +kernel
theorem dX5_valueOf_9 : decode cX5_valueOf 9 = .ok (.iload 4, 2) := by decide +kernel
theorem dX5_valueOf_11 : decode cX5_valueOf 11 = .ok (.iconst (-1), 1) := by decide +kernel
theorem dX5_valueOf_12 : decode cX5_valueOf 12 = .ok (.if_icmp .ne 7, 3) := by decide +kernel
theorem dX5_valueOf_15 : decode cX5_valueOf 15 = .ok (.iconst (-1), 1) := by decide +kernel
theorem dX5_valueOf_16 : decode cX5_valueOf 16 = .ok (.goto 14, 3) := by decide +kernel
theorem dX5_valueOf_19 : decode cX5_valueOf 19 = .ok (.aload_n 0, 1) := by decide +kernel
theorem dX5_valueOf_20 : decode cX5_valueOf 20 = .ok (.iload 4, 2) := by decide +kernel
theorem dX5_valueOf_22 : decode cX5_valueOf 22 = .ok (.iload_n 2, 1) := by decide +kernel
theorem dX5_valueOf_23 : decode cX5_valueOf 23 = .ok (.iload_n 3, 1) := by decide +kernel
theorem dX5_valueOf_24 : decode cX5_valueOf 24 = .ok (.invokevirtual 65, 3) := by decide +kernel
theorem dX5_valueOf_27 : decode cX5_valueOf 27 = .ok (.invokestatic 85, 3) := by decide +kernel
theorem dX5_valueOf_30 : decode cX5_valueOf 30 = .ok (.ireturn, 1) := by decide +kernel
theorem dX5_valueNow_0 : decode cX5_valueNow 0 = .ok (.aload_n 0, 1) := by decide +kernel
theorem dX5_valueNow_1 : decode cX5_valueNow 1 = .ok (.iload_n 1, 1) := by decide +kernel
theorem dX5_valueNow_2 : decode cX5_valueNow 2 = .ok (.aload_n 0, 1) := by decide +kernel
theorem dX5_valueNow_3 : decode cX5_valueNow 3 = .ok (.getfield 7, 3) := by decide +kernel
theorem dX5_valueNow_6 : decode cX5_valueNow 6 = .ok (.iconst 0, 1) := by decide +kernel
theorem dX5_valueNow_7 : decode cX5_valueNow 7 = .ok (.iaload, 1) := by decide +kernel
theorem dX5_valueNow_8 : decode cX5_valueNow 8 = .ok (.aload_n 0, 1) := by decide +kernel
theorem dX5_valueNow_9 : decode cX5_valueNow 9 = .ok (.invokevirtual 61, 3) := by decide +kernel
theorem dX5_valueNow_12 : decode cX5_valueNow 12 = .ok (.invokevirtual 88, 3) := by decide +kernel
theorem dX5_valueNow_15 : decode cX5_valueNow 15 = .ok (.ireturn, 1) := by decide +kernel
theorem dX5_blowOne_0 : decode cX5_blowOne 0 = .ok (.bipush 7, 2) := by decide +kernel
theorem dX5_blowOne_2 : decode cX5_blowOne 2 = .ok (.bipush 16, 2) := by decide +kernel
theorem dX5_blowOne_4 : decode cX5_blowOne 4 = .ok (.iload_n 1, 1) := by decide +kernel
theorem dX5_blowOne_5 : decode cX5_blowOne 5 = .ok (.imul, 1) := by decide +kernel
theorem dX5_blowOne_6 : decode cX5_blowOne 6 = .ok (.iadd, 1) := by decide +kernel
theorem dX5_blowOne_7 : decode cX5_blowOne 7 = .ok (.iload_n 2, 1) := by decide +kernel
theorem dX5_blowOne_8 : decode cX5_blowOne 8 = .ok (.iadd, 1) := by decide +kernel
theorem dX5_blowOne_9 : decode cX5_blowOne 9 = .ok (.istore 4, 2) := by decide +kernel
theorem dX5_blowOne_11 : decode cX5_blowOne 11 = .ok (.aload_n 0, 1) := by decide +kernel
theorem dX5_blowOne_12 : decode cX5_blowOne 12 = .ok (.getfield 7, 3) := by decide +kernel
theorem dX5_blowOne_15 : decode cX5_blowOne 15 = .ok (.iload 4, 2) := by decide +kernel
theorem dX5_blowOne_17 : decode cX5_blowOne 17 = .ok (.aload_n 0, 1) := by decide +kernel
theorem dX5_blowOne_18 : decode cX5_blowOne 18 = .ok (.getfield 7, 3) := by decide +kernel
theorem dX5_blowOne_21 : decode cX5_blowOne 21 = .ok (.iload 4, 2) := by decide +kernel
theorem dX5_blowOne_23 : decode cX5_blowOne 23 = .ok (.iaload, 1) := by decide +kernel
theorem dX5_blowOne_24 : decode cX5_blowOne 24 = .ok (.iload_n 3, 1) := by decide +kernel
theorem dX5_blowOne_25 : decode cX5_blowOne 25 = .ok (.if_icmp .le 13, 3) := by decide +kernel
theorem dX5_blowOne_28 : decode cX5_blowOne 28 = .ok (.aload_n 0, 1) := by decide +kernel
theorem dX5_blowOne_29 : decode cX5_blowOne 29 = .ok (.getfield 7, 3) := by decide +kernel
theorem dX5_blowOne_32 : decode cX5_blowOne 32 = .ok (.iload 4, 2) := by decide +kernel
theorem dX5_blowOne_34 : decode cX5_blowOne 34 = .ok (.iaload, 1) := by decide +kernel
theorem dX5_blowOne_35 : decode cX5_blowOne 35 = .ok (.goto 4, 3) := by decide +kernel
theorem dX5_blowOne_38 : decode cX5_blowOne 38 = .ok (.iload_n 3, 1) := by decide +kernel
theorem dX5_blowOne_39 : decode cX5_blowOne 39 = .ok (.iastore, 1) := by decide +kernel
theorem dX5_blowOne_40 : decode cX5_blowOne 40 = .ok (.aload_n 0, 1) := by decide +kernel
theorem dX5_blowOne_41 : decode cX5_blowOne 41 = .ok (.getfield 7, 3) := by decide +kernel
theorem dX5_blowOne_44 : decode cX5_blowOne 44 = .ok (.iconst 1, 1) := by decide +kernel
theorem dX5_blowOne_45 : decode cX5_blowOne 45 = .ok (.dup2, 1) := by decide +kernel
theorem dX5_blowOne_46 : decode cX5_blowOne 46 = .ok (.iaload, 1) := by decide +kernel
theorem dX5_blowOne_47 : decode cX5_blowOne 47 = .ok (.iload_n 3, 1) := by decide +kernel
theorem dX5_blowOne_48 : decode cX5_blowOne 48 = .ok (.iadd, 1) := by decide +kernel
theorem dX5_blowOne_49 : decode cX5_blowOne 49 = .ok (.iastore, 1) := by decide +kernel
theorem dX5_blowOne_50 : decode cX5_blowOne 50 = .ok (.return_, 1) := by decide +kernel
theorem dX5_blow_0 : decode cX5_blow 0 = .ok (.aload_n 0, 1) := by decide +kernel
theorem dX5_blow_1 : decode cX5_blow 1 = .ok (.iload_n 1, 1) := by decide +kernel
theorem dX5_blow_2 : decode cX5_blow 2 = .ok (.invokestatic 91, 3) := by decide +kernel
theorem dX5_blow_5 : decode cX5_blow 5 = .ok (.ifCond .eq 13, 3) := by decide +kernel
theorem dX5_blow_8 : decode cX5_blow 8 = .ok (.iload_n 2, 1) := by decide +kernel
theorem dX5_blow_9 : decode cX5_blow 9 = .ok (.iconst 0, 1) := by decide +kernel
theorem dX5_blow_10 : decode cX5_blow 10 = .ok (.bipush 15, 2) := by decide +kernel
theorem dX5_blow_12 : decode cX5_blow 12 = .ok (.invokestatic 39, 3) := by decide +kernel
theorem dX5_blow_15 : decode cX5_blow 15 = .ok (.ifCond .ne 7, 3) := by decide +kernel
theorem dX5_blow_18 : decode cX5_blow 18 = .ok (.iconst 1, 1) := by decide +kernel
theorem dX5_blow_19 : decode cX5_blow 19 = .ok (.goto 29, 3) := by decide +kernel
theorem dX5_blow_22 : decode cX5_blow 22 = .ok (.iload_n 3, 1) := by decide +kernel
theorem dX5_blow_23 : decode cX5_blow 23 = .ok (.iconst 1, 1) := by decide +kernel
theorem dX5_blow_24 : decode cX5_blow 24 = .ok (.iconst 3, 1) := by decide +kernel
theorem dX5_blow_25 : decode cX5_blow 25 = .ok (.invokestatic 39, 3) := by decide +kernel
theorem dX5_blow_28 : decode cX5_blow 28 = .ok (.ifCond .ne 7, 3) := by decide +kernel
theorem dX5_blow_31 : decode cX5_blow 31 = .ok (.iconst 2, 1) := by decide +kernel
theorem dX5_blow_32 : decode cX5_blow 32 = .ok (.goto 16, 3) := by decide +kernel
theorem dX5_blow_35 : decode cX5_blow 35 = .ok (.aload_n 0, 1) := by decide +kernel
theorem dX5_blow_36 : decode cX5_blow 36 = .ok (.iload_n 1, 1) := by decide +kernel
theorem dX5_blow_37 : decode cX5_blow 37 = .ok (.invokevirtual 95, 3) := by decide +kernel
theorem dX5_blow_40 : decode cX5_blow 40 = .ok (.ifCond .eq 7, 3) := by decide +kernel
theorem dX5_blow_43 : decode cX5_blow 43 = .ok (.iconst 3, 1) := by decide +kernel
theorem dX5_blow_44 : decode cX5_blow 44 = .ok (.goto 4, 3) := by decide +kernel
theorem dX5_blow_47 : decode cX5_blow 47 = .ok (.iconst 0, 1) := by decide +kernel
theorem dX5_blow_48 : decode cX5_blow 48 = .ok (.putfield 35, 3) := by decide +kernel
theorem dX5_blow_51 : decode cX5_blow 51 = .ok (.aload_n 0, 1) := by decide +kernel
theorem dX5_blow_52 : decode cX5_blow 52 = .ok (.getfield 35, 3) := by decide +kernel
theorem dX5_blow_55 : decode cX5_blow 55 = .ok (.ifCond .le 5, 3) := by decide +kernel
theorem dX5_blow_58 : decode cX5_blow 58 = .ok (.iconst 0, 1) := by decide +kernel
theorem dX5_blow_59 : decode cX5_blow 59 = .ok (.ireturn, 1) := by decide +kernel
theorem dX5_blow_60 : decode cX5_blow 60 = .ok (.aload_n 0, 1) := by decide +kernel
theorem dX5_blow_61 : decode cX5_blow 61 = .ok (.invokevirtual 98, 3) := by decide +kernel
theorem dX5_blow_64 : decode cX5_blow 64 = .ok (.aload_n 0, 1) := by decide +kernel
theorem dX5_blow_65 : decode cX5_blow 65 = .ok (.iload_n 1, 1) := by decide +kernel
theorem dX5_blow_66 : decode cX5_blow 66 = .ok (.iload_n 2, 1) := by decide +kernel
theorem dX5_blow_67 : decode cX5_blow 67 = .ok (.iload_n 3, 1) := by decide +kernel
theorem dX5_blow_68 : decode cX5_blow 68 = .ok (.invokevirtual 101, 3) := by decide +kernel
theorem dX5_blow_71 : decode cX5_blow 71 = .ok (.aload_n 0, 1) := by decide +kernel
theorem dX5_blow_72 : decode cX5_blow 72 = .ok (.iload_n 1, 1) := by decide +kernel
theorem dX5_blow_73 : decode cX5_blow 73 = .ok (.iload_n 2, 1) := by decide +kernel
theorem dX5_blow_74 : decode cX5_blow 74 = .ok (.invokevirtual 46, 3) := by decide +kernel
theorem dX5_blow_77 : decode cX5_blow 77 = .ok (.ireturn, 1) := by decide +kernel
theorem dX5_nextRow_0 : decode cX5_nextRow 0 = .ok (.iconst 0, 1) := by decide +kernel
theorem dX5_nextRow_1 : decode cX5_nextRow 1 = .ok (.istore_n 1, 1) := by decide +kernel
theorem dX5_nextRow_2 : decode cX5_nextRow 2 = .ok (.iconst 0, 1) := by decide +kernel
theorem dX5_nextRow_3 : decode cX5_nextRow 3 = .ok (.istore_n 2, 1) := by decide +kernel
theorem dX5_nextRow_4 : decode cX5_nextRow 4 = .ok (.iload_n 2, 1) := by decide +kernel
theorem dX5_nextRow_5 : decode cX5_nextRow 5 = .ok (.bipush 20, 2) := by decide +kernel
theorem dX5_nextRow_7 : decode cX5_nextRow 7 = .ok (.if_icmp .ge 25, 3) := by decide +kernel
theorem dX5_nextRow_10 : decode cX5_nextRow 10 = .ok (.aload_n 0, 1) := by decide +kernel
theorem dX5_nextRow_11 : decode cX5_nextRow 11 = .ok (.iload_n 2, 1) := by decide +kernel
theorem dX5_nextRow_12 : decode cX5_nextRow 12 = .ok (.invokevirtual 105, 3) := by decide +kernel
theorem dX5_nextRow_15 : decode cX5_nextRow 15 = .ok (.ifCond .ne 7, 3) := by decide +kernel
theorem dX5_nextRow_18 : decode cX5_nextRow 18 = .ok (.iload_n 1, 1) := by decide +kernel
theorem dX5_nextRow_19 : decode cX5_nextRow 19 = .ok (.goto 6, 3) := by decide +kernel
theorem dX5_nextRow_22 : decode cX5_nextRow 22 = .ok (.iload_n 2, 1) := by decide +kernel
theorem dX5_nextRow_23 : decode cX5_nextRow 23 = .ok (.iconst 1, 1) := by decide +kernel
theorem dX5_nextRow_24 : decode cX5_nextRow 24 = .ok (.iadd, 1) := by decide +kernel
theorem dX5_nextRow_25 : decode cX5_nextRow 25 = .ok (.istore_n 1, 1) := by decide +kernel
theorem dX5_nextRow_26 : decode cX5_nextRow 26 = .ok (.iinc 2 1, 3) := by decide +kernel
theorem dX5_nextRow_29 : decode cX5_nextRow 29 = .ok (.goto (-25), 3) := by decide +kernel
theorem dX5_nextRow_32 : decode cX5_nextRow 32 = .ok (.iload_n 1, 1) := by decide +kernel
theorem dX5_nextRow_33 : decode cX5_nextRow 33 = .ok (.bipush 20, 2) := by decide +kernel
theorem dX5_nextRow_35 : decode cX5_nextRow 35 = .ok (.if_icmp .eq 11, 3) := by decide +kernel
theorem dX5_nextRow_38 : decode cX5_nextRow 38 = .ok (.aload_n 0, 1) := by decide +kernel
theorem dX5_nextRow_39 : decode cX5_nextRow 39 = .ok (.iload_n 1, 1) := by decide +kernel
theorem dX5_nextRow_40 : decode cX5_nextRow 40 = .ok (.invokevirtual 95, 3) := by decide +kernel
theorem dX5_nextRow_43 : decode cX5_nextRow 43 = .ok (.ifCond .eq 7, 3) := by decide +kernel
theorem dX5_nextRow_46 : decode cX5_nextRow 46 = .ok (.iconst (-1), 1) := by decide +kernel
theorem dX5_nextRow_47 : decode cX5_nextRow 47 = .ok (.goto 4, 3) := by decide +kernel
theorem dX5_nextRow_50 : decode cX5_nextRow 50 = .ok (.iload_n 1, 1) := by decide +kernel
theorem dX5_nextRow_51 : decode cX5_nextRow 51 = .ok (.ireturn, 1) := by decide +kernel
theorem dX5_markAll_0 : decode cX5_markAll 0 = .ok (.iconst 0, 1) := by decide +kernel
theorem dX5_markAll_1 : decode cX5_markAll 1 = .ok (.istore 4, 2) := by decide +kernel
theorem dX5_markAll_3 : decode cX5_markAll 3 = .ok (.iconst 0, 1) := by decide +kernel
theorem dX5_markAll_4 : decode cX5_markAll 4 = .ok (.istore 5, 2) := by decide +kernel
theorem dX5_markAll_6 : decode cX5_markAll 6 = .ok (.iload 5, 2) := by decide +kernel
theorem dX5_markAll_8 : decode cX5_markAll 8 = .ok (.bipush 20, 2) := by decide +kernel
theorem dX5_markAll_10 : decode cX5_markAll 10 = .ok (.if_icmp .ge 63, 3) := by decide +kernel
theorem dX5_markAll_13 : decode cX5_markAll 13 = .ok (.aload_n 0, 1) := by decide +kernel
theorem dX5_markAll_14 : decode cX5_markAll 14 = .ok (.iload 5, 2) := by decide +kernel
theorem dX5_markAll_16 : decode cX5_markAll 16 = .ok (.invokevirtual 105, 3) := by decide +kernel
theorem dX5_markAll_19 : decode cX5_markAll 19 = .ok (.istore 6, 2) := by decide +kernel
theorem dX5_markAll_21 : decode cX5_markAll 21 = .ok (.iload 4, 2) := by decide +kernel
theorem dX5_markAll_23 : decode cX5_markAll 23 = .ok (.iload 5, 2) := by decide +kernel
theorem dX5_markAll_25 : decode cX5_markAll 25 = .ok (.iload_n 2, 1) := by decide +kernel
theorem dX5_markAll_26 : decode cX5_markAll 26 = .ok (.if_icmp .eq 37, 3) := by decide +kernel
theorem dX5_markAll_29 : decode cX5_markAll 29 = .ok (.iload 6, 2) := by decide +kernel
theorem dX5_markAll_31 : decode cX5_markAll 31 = .ok (.invokestatic 76, 3) := by decide +kernel
theorem dX5_markAll_34 : decode cX5_markAll 34 = .ok (.iconst 4, 1) := by decide +kernel
theorem dX5_markAll_35 : decode cX5_markAll 35 = .ok (.if_icmp .ne 28, 3) := by decide +kernel
theorem dX5_markAll_38 : decode cX5_markAll 38 = .ok (.iload 6, 2) := by decide +kernel
theorem dX5_markAll_40 : decode cX5_markAll 40 = .ok (.invokestatic 79, 3) := by decide +kernel
theorem dX5_markAll_43 : decode cX5_markAll 43 = .ok (.iload_n 1, 1) := by decide +kernel
theorem dX5_markAll_44 : decode cX5_markAll 44 = .ok (.if_icmp .ne 19, 3) := by decide +kernel
theorem dX5_markAll_47 : decode cX5_markAll 47 = .ok (.aload_n 0, 1) := by decide +kernel
theorem dX5_markAll_48 : decode cX5_markAll 48 = .ok (.iload 5, 2) := by decide +kernel
theorem dX5_markAll_50 : decode cX5_markAll 50 = .ok (.invokevirtual 95, 3) := by decide +kernel
theorem dX5_markAll_53 : decode cX5_markAll 53 = .ok (.ifCond .ne 10, 3) := by decide +kernel
theorem dX5_markAll_56 : decode cX5_markAll 56 = .ok (.iconst 1, 1) := by decide +kernel
theorem dX5_markAll_57 : decode cX5_markAll 57 = .ok (.iload 5, 2) := by decide +kernel
theorem dX5_markAll_59 : decode cX5_markAll 59 = .ok (.ishl, 1) := by decide +kernel
theorem dX5_markAll_60 : decode cX5_markAll 60 = .ok (.goto 4, 3) := by decide +kernel
theorem dX5_markAll_63 : decode cX5_markAll 63 = .ok (.iconst 0, 1) := by decide +kernel
theorem dX5_markAll_64 : decode cX5_markAll 64 = .ok (.ior, 1) := by decide +kernel
theorem dX5_markAll_65 : decode cX5_markAll 65 = .ok (.istore 4, 2) := by decide +kernel
theorem dX5_markAll_67 : decode cX5_markAll 67 = .ok (.iinc 5 1, 3) := by decide +kernel
theorem dX5_markAll_70 : decode cX5_markAll 70 = .ok (.goto (-64), 3) := by decide +kernel
theorem dX5_markAll_73 : decode cX5_markAll 73 = .ok (.iconst 0, 1) := by decide +kernel
theorem dX5_markAll_74 : decode cX5_markAll 74 = .ok (.istore 5, 2) := by decide +kernel
theorem dX5_markAll_76 : decode cX5_markAll 76 = .ok (.iload 5, 2) := by decide +kernel
theorem dX5_markAll_78 : decode cX5_markAll 78 = .ok (.bipush 20, 2) := by decide +kernel
theorem dX5_markAll_80 : decode cX5_markAll 80 = .ok (.if_icmp .ge 29, 3) := by decide +kernel
theorem dX5_markAll_83 : decode cX5_markAll 83 = .ok (.iload 4, 2) := by decide +kernel
theorem dX5_markAll_85 : decode cX5_markAll 85 = .ok (.iload 5, 2) := by decide +kernel
theorem dX5_markAll_87 : decode cX5_markAll 87 = .ok (.ishr, 1) := by decide +kernel
theorem dX5_markAll_88 : decode cX5_markAll 88 = .ok (.iconst 1, 1) := by decide +kernel
theorem dX5_markAll_89 : decode cX5_markAll 89 = .ok (.iand, 1) := by decide +kernel
theorem dX5_markAll_90 : decode cX5_markAll 90 = .ok (.iconst 1, 1) := by decide +kernel
theorem dX5_markAll_91 : decode cX5_markAll 91 = .ok (.if_icmp .ne 12, 3) := by decide +kernel
theorem dX5_markAll_94 : decode cX5_markAll 94 = .ok (.aload_n 0, 1) := by decide +kernel
theorem dX5_markAll_95 : decode cX5_markAll 95 = .ok (.iload 5, 2) := by decide +kernel
theorem dX5_markAll_97 : decode cX5_markAll 97 = .ok (.bipush 14, 2) := by decide +kernel
theorem dX5_markAll_99 : decode cX5_markAll 99 = .ok (.iload_n 3, 1) := by decide +kernel
theorem dX5_markAll_100 : decode cX5_markAll 100 = .ok (.invokevirtual 101, 3) := by decide +kernel
theorem dX5_markAll_103 : decode cX5_markAll 103 = .ok (.iinc 5 1, 3) := by decide +kernel
theorem dX5_markAll_106 : decode cX5_markAll 106 = .ok (.goto (-30), 3) := by decide +kernel
theorem dX5_markAll_109 : decode cX5_markAll 109 = .ok (.iload 4, 2) := by decide +kernel
theorem dX5_markAll_111 : decode cX5_markAll 111 = .ok (.invokestatic 69, 3) := by decide +kernel
theorem dX5_markAll_114 : decode cX5_markAll 114 = .ok (.ireturn, 1) := by decide +kernel
theorem dX5_readsAs_0 : decode cX5_readsAs 0 = .ok (.aload_n 0, 1) := by decide +kernel
theorem dX5_readsAs_1 : decode cX5_readsAs 1 = .ok (.iload_n 1, 1) := by decide +kernel
theorem dX5_readsAs_2 : decode cX5_readsAs 2 = .ok (.invokevirtual 105, 3) := by decide +kernel
theorem dX5_readsAs_5 : decode cX5_readsAs 5 = .ok (.istore 4, 2) := by decide +kernel
theorem dX5_readsAs_7 : decode cX5_readsAs 7 = .ok (.iload 4, 2) := by decide +kernel
theorem dX5_readsAs_9 : decode cX5_readsAs 9 = .ok (.invokestatic 76, 3) := by decide +kernel
theorem dX5_readsAs_12 : decode cX5_readsAs 12 = .ok (.iconst 4, 1) := by decide +kernel
theorem dX5_readsAs_13 : decode cX5_readsAs 13 = .ok (.if_icmp .ne 25, 3) := by decide +kernel
theorem dX5_readsAs_16 : decode cX5_readsAs 16 = .ok (.iload 4, 2) := by decide +kernel
theorem dX5_readsAs_18 : decode cX5_readsAs 18 = .ok (.invokestatic 79, 3) := by decide +kernel
theorem dX5_readsAs_21 : decode cX5_readsAs 21 = .ok (.iload_n 2, 1) := by decide +kernel
theorem dX5_readsAs_22 : decode cX5_readsAs 22 = .ok (.if_icmp .ne 16, 3) := by decide +kernel
theorem dX5_readsAs_25 : decode cX5_readsAs 25 = .ok (.iload 4, 2) := by decide +kernel
theorem dX5_readsAs_27 : decode cX5_readsAs 27 = .ok (.invokestatic 85, 3) := by decide +kernel
theorem dX5_readsAs_30 : decode cX5_readsAs 30 = .ok (.iload_n 3, 1) := by decide +kernel
theorem dX5_readsAs_31 : decode cX5_readsAs 31 = .ok (.if_icmp .ne 7, 3) := by decide +kernel
theorem dX5_readsAs_34 : decode cX5_readsAs 34 = .ok (.iconst 1, 1) := by decide +kernel
theorem dX5_readsAs_35 : decode cX5_readsAs 35 = .ok (.goto 4, 3) := by decide +kernel
theorem dX5_readsAs_38 : decode cX5_readsAs 38 = .ok (.iconst 0, 1) := by decide +kernel
theorem dX5_readsAs_39 : decode cX5_readsAs 39 = .ok (.ireturn, 1) := by decide +kernel
theorem dX5_putInto_0 : decode cX5_putInto 0 = .ok (.iload_n 2, 1) := by decide +kernel
theorem dX5_putInto_1 : decode cX5_putInto 1 = .ok (.iload_n 3, 1) := by decide +kernel
theorem dX5_putInto_2 : decode cX5_putInto 2 = .ok (.iconst 4, 1) := by decide +kernel
theorem dX5_putInto_3 : decode cX5_putInto 3 = .ok (.ishl, 1) := by decide +kernel
theorem dX5_putInto_4 : decode cX5_putInto 4 = .ok (.ior, 1) := by decide +kernel
theorem dX5_putInto_5 : decode cX5_putInto 5 = .ok (.istore 4, 2) := by decide +kernel
theorem dX5_putInto_7 : decode cX5_putInto 7 = .ok (.iload 4, 2) := by decide +kernel
theorem dX5_putInto_9 : decode cX5_putInto 9 = .ok (.iload 4, 2) := by decide +kernel
theorem dX5_putInto_11 : decode cX5_putInto 11 = .ok (.invokestatic 73, 3) := by decide +kernel
theorem dX5_putInto_14 : decode cX5_putInto 14 = .ok (.bipush 10, 2) := by decide +kernel
theorem dX5_putInto_16 : decode cX5_putInto 16 = .ok (.ishl, 1) := by decide +kernel
theorem dX5_putInto_17 : decode cX5_putInto 17 = .ok (.ior, 1) := by decide +kernel
theorem dX5_putInto_18 : decode cX5_putInto 18 = .ok (.istore 4, 2) := by decide +kernel
theorem dX5_putInto_20 : decode cX5_putInto 20 = .ok (.iconst 0, 1) := by decide +kernel
theorem dX5_putInto_21 : decode cX5_putInto 21 = .ok (.istore 5, 2) := by decide +kernel
theorem dX5_putInto_23 : decode cX5_putInto 23 = .ok (.iconst 1, 1) := by decide +kernel
theorem dX5_putInto_24 : decode cX5_putInto 24 = .ok (.istore 6, 2) := by decide +kernel
theorem dX5_putInto_26 : decode cX5_putInto 26 = .ok (.iload 6, 2) := by decide +kernel
theorem dX5_putInto_28 : decode cX5_putInto 28 = .ok (.ifCond .eq 138, 3) := by decide +kernel
theorem dX5_putInto_31 : decode cX5_putInto 31 = .ok (.iconst 0, 1) := by decide +kernel
theorem dX5_putInto_32 : decode cX5_putInto 32 = .ok (.istore 7, 2) := by decide +kernel
theorem dX5_putInto_34 : decode cX5_putInto 34 = .ok (.iload 7, 2) := by decide +kernel
theorem dX5_putInto_36 : decode cX5_putInto 36 = .ok (.bipush 16, 2) := by decide +kernel
theorem dX5_putInto_38 : decode cX5_putInto 38 = .ok (.if_icmp .ge 94, 3) := by decide +kernel
theorem dX5_putInto_41 : decode cX5_putInto 41 = .ok (.iload 4, 2) := by decide +kernel
theorem dX5_putInto_43 : decode cX5_putInto 43 = .ok (.iload 7, 2) := by decide +kernel
theorem dX5_putInto_45 : decode cX5_putInto 45 = .ok (.ishr, 1) := by decide +kernel
theorem dX5_putInto_46 : decode cX5_putInto 46 = .ok (.iconst 1, 1) := by decide +kernel
theorem dX5_putInto_47 : decode cX5_putInto 47 = .ok (.iand, 1) := by decide +kernel
theorem dX5_putInto_48 : decode cX5_putInto 48 = .ok (.iconst 1, 1) := by decide +kernel
theorem dX5_putInto_49 : decode cX5_putInto 49 = .ok (.if_icmp .ne 7, 3) := by decide +kernel
theorem dX5_putInto_52 : decode cX5_putInto 52 = .ok (.iconst 1, 1) := by decide +kernel
theorem dX5_putInto_53 : decode cX5_putInto 53 = .ok (.goto 4, 3) := by decide +kernel
theorem dX5_putInto_56 : decode cX5_putInto 56 = .ok (.iconst 0, 1) := by decide +kernel
theorem dX5_putInto_57 : decode cX5_putInto 57 = .ok (.istore 8, 2) := by decide +kernel
theorem dX5_putInto_59 : decode cX5_putInto 59 = .ok (.iload 8, 2) := by decide +kernel
theorem dX5_putInto_61 : decode cX5_putInto 61 = .ok (.ifCond .eq 24, 3) := by decide +kernel
theorem dX5_putInto_64 : decode cX5_putInto 64 = .ok (.iload 5, 2) := by decide +kernel
theorem dX5_putInto_66 : decode cX5_putInto 66 = .ok (.ifCond .ne 19, 3) := by decide +kernel
theorem dX5_putInto_69 : decode cX5_putInto 69 = .ok (.aload_n 0, 1) := by decide +kernel
theorem dX5_putInto_70 : decode cX5_putInto 70 = .ok (.iload_n 1, 1) := by decide +kernel
theorem dX5_putInto_71 : decode cX5_putInto 71 = .ok (.iload 7, 2) := by decide +kernel
theorem dX5_putInto_73 : decode cX5_putInto 73 = .ok (.aload_n 0, 1) := by decide +kernel
theorem dX5_putInto_74 : decode cX5_putInto 74 = .ok (.getfield 7, 3) := by decide +kernel
theorem dX5_putInto_77 : decode cX5_putInto 77 = .ok (.iconst 4, 1) := by decide +kernel
theorem dX5_putInto_78 : decode cX5_putInto 78 = .ok (.iaload, 1) := by decide +kernel
theorem dX5_putInto_79 : decode cX5_putInto 79 = .ok (.invokevirtual 101, 3) := by decide +kernel
theorem dX5_putInto_82 : decode cX5_putInto 82 = .ok (.goto 44, 3) := by decide +kernel
theorem dX5_putInto_85 : decode cX5_putInto 85 = .ok (.iload 8, 2) := by decide +kernel
theorem dX5_putInto_87 : decode cX5_putInto 87 = .ok (.ifCond .eq 39, 3) := by decide +kernel
theorem dX5_putInto_90 : decode cX5_putInto 90 = .ok (.aload_n 0, 1) := by decide +kernel
theorem dX5_putInto_91 : decode cX5_putInto 91 = .ok (.iload_n 1, 1) := by decide +kernel
theorem dX5_putInto_92 : decode cX5_putInto 92 = .ok (.iload 7, 2) := by decide +kernel
theorem dX5_putInto_94 : decode cX5_putInto 94 = .ok (.aload_n 0, 1) := by decide +kernel
theorem dX5_putInto_95 : decode cX5_putInto 95 = .ok (.getfield 7, 3) := by decide +kernel
theorem dX5_putInto_98 : decode cX5_putInto 98 = .ok (.iconst 0, 1) := by decide +kernel
theorem dX5_putInto_99 : decode cX5_putInto 99 = .ok (.iaload, 1) := by decide +kernel
theorem dX5_putInto_100 : decode cX5_putInto 100 = .ok (.aload_n 0, 1) := by decide +kernel
theorem dX5_putInto_101 : decode cX5_putInto 101 = .ok (.invokevirtual 61, 3) := by decide +kernel
theorem dX5_putInto_104 : decode cX5_putInto 104 = .ok (.invokevirtual 57, 3) := by decide +kernel
theorem dX5_putInto_107 : decode cX5_putInto 107 = .ok (.ifCond .ne 19, 3) := by decide +kernel
theorem dX5_putInto_110 : decode cX5_putInto 110 = .ok (.aload_n 0, 1) := by decide +kernel
theorem dX5_putInto_111 : decode cX5_putInto 111 = .ok (.iload_n 1, 1) := by decide +kernel
theorem dX5_putInto_112 : decode cX5_putInto 112 = .ok (.iload 7, 2) := by decide +kernel
theorem dX5_putInto_114 : decode cX5_putInto 114 = .ok (.aload_n 0, 1) := by decide +kernel
theorem dX5_putInto_115 : decode cX5_putInto 115 = .ok (.iload_n 1, 1) := by decide +kernel
theorem dX5_putInto_116 : decode cX5_putInto 116 = .ok (.iload 7, 2) := by decide +kernel
theorem dX5_putInto_118 : decode cX5_putInto 118 = .ok (.invokevirtual 46, 3) := by decide +kernel
theorem dX5_putInto_121 : decode cX5_putInto 121 = .ok (.iconst 1, 1) := by decide +kernel
theorem dX5_putInto_122 : decode cX5_putInto 122 = .ok (.iadd, 1) := by decide +kernel
theorem dX5_putInto_123 : decode cX5_putInto 123 = .ok (.invokevirtual 101, 3) := by decide +kernel
theorem dX5_putInto_126 : decode cX5_putInto 126 = .ok (.iinc 7 1, 3) := by decide +kernel
theorem dX5_putInto_129 : decode cX5_putInto 129 = .ok (.goto (-95), 3) := by decide +kernel
theorem dX5_putInto_132 : decode cX5_putInto 132 = .ok (.iinc 5 1, 3) := by decide +kernel
theorem dX5_putInto_135 : decode cX5_putInto 135 = .ok (.iload 5, 2) := by decide +kernel
theorem dX5_putInto_137 : decode cX5_putInto 137 = .ok (.aload_n 0, 1) := by decide +kernel
theorem dX5_putInto_138 : decode cX5_putInto 138 = .ok (.getfield 7, 3) := by decide +kernel
theorem dX5_putInto_141 : decode cX5_putInto 141 = .ok (.iconst 5, 1) := by decide +kernel
theorem dX5_putInto_142 : decode cX5_putInto 142 = .ok (.iaload, 1) := by decide +kernel
theorem dX5_putInto_143 : decode cX5_putInto 143 = .ok (.if_icmp .ge 17, 3) := by decide +kernel
theorem dX5_putInto_146 : decode cX5_putInto 146 = .ok (.aload_n 0, 1) := by decide +kernel
theorem dX5_putInto_147 : decode cX5_putInto 147 = .ok (.iload_n 1, 1) := by decide +kernel
theorem dX5_putInto_148 : decode cX5_putInto 148 = .ok (.iload_n 2, 1) := by decide +kernel
theorem dX5_putInto_149 : decode cX5_putInto 149 = .ok (.iload_n 3, 1) := by decide +kernel
theorem dX5_putInto_150 : decode cX5_putInto 150 = .ok (.invokevirtual 108, 3) := by decide +kernel
theorem dX5_putInto_153 : decode cX5_putInto 153 = .ok (.ifCond .ne 7, 3) := by decide +kernel
theorem dX5_putInto_156 : decode cX5_putInto 156 = .ok (.iconst 1, 1) := by decide +kernel
theorem dX5_putInto_157 : decode cX5_putInto 157 = .ok (.goto 4, 3) := by decide +kernel
theorem dX5_putInto_160 : decode cX5_putInto 160 = .ok (.iconst 0, 1) := by decide +kernel
theorem dX5_putInto_161 : decode cX5_putInto 161 = .ok (.istore 6, 2) := by decide +kernel
theorem dX5_putInto_163 : decode cX5_putInto 163 = .ok (.goto (-137), 3) := by decide +kernel
theorem dX5_putInto_166 : decode cX5_putInto 166 = .ok (.aload_n 0, 1) := by decide +kernel
theorem dX5_putInto_167 : decode cX5_putInto 167 = .ok (.aload_n 0, 1) := by decide +kernel
theorem dX5_putInto_168 : decode cX5_putInto 168 = .ok (.getfield 7, 3) := by decide +kernel
theorem dX5_putInto_171 : decode cX5_putInto 171 = .ok (.bipush 6, 2) := by decide +kernel
theorem dX5_putInto_173 : decode cX5_putInto 173 = .ok (.iaload, 1) := by decide +kernel
theorem dX5_putInto_174 : decode cX5_putInto 174 = .ok (.iconst 1, 1) := by decide +kernel
theorem dX5_putInto_175 : decode cX5_putInto 175 = .ok (.if_icmp .ne 18, 3) := by decide +kernel
theorem dX5_putInto_178 : decode cX5_putInto 178 = .ok (.aload_n 0, 1) := by decide +kernel
theorem dX5_putInto_179 : decode cX5_putInto 179 = .ok (.iload_n 2, 1) := by decide +kernel
theorem dX5_putInto_180 : decode cX5_putInto 180 = .ok (.iload_n 1, 1) := by decide +kernel
theorem dX5_putInto_181 : decode cX5_putInto 181 = .ok (.aload_n 0, 1) := by decide +kernel
theorem dX5_putInto_182 : decode cX5_putInto 182 = .ok (.getfield 7, 3) := by decide +kernel
theorem dX5_putInto_185 : decode cX5_putInto 185 = .ok (.iconst 4, 1) := by decide +kernel
theorem dX5_putInto_186 : decode cX5_putInto 186 = .ok (.iaload, 1) := by decide +kernel
theorem dX5_putInto_187 : decode cX5_putInto 187 = .ok (.invokevirtual 111, 3) := by decide +kernel
theorem dX5_putInto_190 : decode cX5_putInto 190 = .ok (.goto 4, 3) := by decide +kernel
theorem dX5_putInto_193 : decode cX5_putInto 193 = .ok (.iconst 0, 1) := by decide +kernel
theorem dX5_putInto_194 : decode cX5_putInto 194 = .ok (.putfield 114, 3) := by decide +kernel
theorem dX5_putInto_197 : decode cX5_putInto 197 = .ok (.aload_n 0, 1) := by decide +kernel
theorem dX5_putInto_198 : decode cX5_putInto 198 = .ok (.getfield 7, 3) := by decide +kernel
theorem dX5_putInto_201 : decode cX5_putInto 201 = .ok (.iconst 2, 1) := by decide +kernel
theorem dX5_putInto_202 : decode cX5_putInto 202 = .ok (.dup2, 1) := by decide +kernel
theorem dX5_putInto_203 : decode cX5_putInto 203 = .ok (.iaload, 1) := by decide +kernel
theorem dX5_putInto_204 : decode cX5_putInto 204 = .ok (.iconst 1, 1) := by decide +kernel
theorem dX5_putInto_205 : decode cX5_putInto 205 = .ok (.iadd, 1) := by decide +kernel
theorem dX5_putInto_206 : decode cX5_putInto 206 = .ok (.iastore, 1) := by decide +kernel
theorem dX5_putInto_207 : decode cX5_putInto 207 = .ok (.iload 5, 2) := by decide +kernel
theorem dX5_putInto_209 : decode cX5_putInto 209 = .ok (.ireturn, 1) := by decide +kernel
theorem dX5_whyNotPut_0 : decode cX5_whyNotPut 0 = .ok (.iload_n 1, 1) := by decide +kernel
theorem dX5_whyNotPut_1 : decode cX5_whyNotPut 1 = .ok (.invokestatic 117, 3) := by decide +kernel
theorem dX5_whyNotPut_4 : decode cX5_whyNotPut 4 = .ok (.ifCond .eq 13, 3) := by decide +kernel
theorem dX5_whyNotPut_7 : decode cX5_whyNotPut 7 = .ok (.iload_n 2, 1) := by decide +kernel
theorem dX5_whyNotPut_8 : decode cX5_whyNotPut 8 = .ok (.iconst 0, 1) := by decide +kernel
theorem dX5_whyNotPut_9 : decode cX5_whyNotPut 9 = .ok (.bipush 63, 2) := by decide +kernel
theorem dX5_whyNotPut_11 : decode cX5_whyNotPut 11 = .ok (.invokestatic 39, 3) := by decide +kernel
theorem dX5_whyNotPut_14 : decode cX5_whyNotPut 14 = .ok (.ifCond .ne 7, 3) := by decide +kernel
theorem dX5_whyNotPut_17 : decode cX5_whyNotPut 17 = .ok (.iconst 1, 1) := by decide +kernel
theorem dX5_whyNotPut_18 : decode cX5_whyNotPut 18 = .ok (.goto 16, 3) := by decide +kernel
theorem dX5_whyNotPut_21 : decode cX5_whyNotPut 21 = .ok (.aload_n 0, 1) := by decide +kernel
theorem dX5_whyNotPut_22 : decode cX5_whyNotPut 22 = .ok (.invokevirtual 120, 3) := by decide +kernel
theorem dX5_whyNotPut_25 : decode cX5_whyNotPut 25 = .ok (.iconst (-1), 1) := by decide +kernel
theorem dX5_whyNotPut_26 : decode cX5_whyNotPut 26 = .ok (.if_icmp .ne 7, 3) := by decide +kernel
theorem dX5_whyNotPut_29 : decode cX5_whyNotPut 29 = .ok (.iconst 2, 1) := by decide +kernel
theorem dX5_whyNotPut_30 : decode cX5_whyNotPut 30 = .ok (.goto 4, 3) := by decide +kernel
theorem dX5_whyNotPut_33 : decode cX5_whyNotPut 33 = .ok (.iconst 0, 1) := by decide +kernel
theorem dX5_whyNotPut_34 : decode cX5_whyNotPut 34 = .ok (.ireturn, 1) := by decide +kernel
theorem dX5_put_0 : decode cX5_put 0 = .ok (.aload_n 0, 1) := by decide +kernel
theorem dX5_put_1 : decode cX5_put 1 = .ok (.aload_n 0, 1) := by decide +kernel
theorem dX5_put_2 : decode cX5_put 2 = .ok (.iload_n 1, 1) := by decide +kernel
theorem dX5_put_3 : decode cX5_put 3 = .ok (.iload_n 2, 1) := by decide +kernel
theorem dX5_put_4 : decode cX5_put 4 = .ok (.invokevirtual 124, 3) := by decide +kernel
theorem dX5_put_7 : decode cX5_put 7 = .ok (.putfield 35, 3) := by decide +kernel
theorem dX5_put_10 : decode cX5_put 10 = .ok (.aload_n 0, 1) := by decide +kernel
theorem dX5_put_11 : decode cX5_put 11 = .ok (.getfield 35, 3) := by decide +kernel
theorem dX5_put_14 : decode cX5_put 14 = .ok (.ifCond .le 5, 3) := by decide +kernel
theorem dX5_put_17 : decode cX5_put 17 = .ok (.iconst 0, 1) := by decide +kernel
theorem dX5_put_18 : decode cX5_put 18 = .ok (.ireturn, 1) := by decide +kernel
theorem dX5_put_19 : decode cX5_put 19 = .ok (.aload_n 0, 1) := by decide +kernel
theorem dX5_put_20 : decode cX5_put 20 = .ok (.invokevirtual 98, 3) := by decide +kernel
theorem dX5_put_23 : decode cX5_put 23 = .ok (.aload_n 0, 1) := by decide +kernel
theorem dX5_put_24 : decode cX5_put 24 = .ok (.aload_n 0, 1) := by decide +kernel
theorem dX5_put_25 : decode cX5_put 25 = .ok (.invokevirtual 120, 3) := by decide +kernel
theorem dX5_put_28 : decode cX5_put 28 = .ok (.iload_n 1, 1) := by decide +kernel
theorem dX5_put_29 : decode cX5_put 29 = .ok (.iload_n 2, 1) := by decide +kernel
theorem dX5_put_30 : decode cX5_put 30 = .ok (.invokevirtual 127, 3) := by decide +kernel
theorem dX5_put_33 : decode cX5_put 33 = .ok (.ireturn, 1) := by decide +kernel
theorem dX5_drop_0 : decode cX5_drop 0 = .ok (.aload_n 0, 1) := by decide +kernel
theorem dX5_drop_1 : decode cX5_drop 1 = .ok (.iload_n 1, 1) := by decide +kernel
theorem dX5_drop_2 : decode cX5_drop 2 = .ok (.invokestatic 117, 3) := by decide +kernel
theorem dX5_drop_5 : decode cX5_drop 5 = .ok (.ifCond .eq 7, 3) := by decide +kernel
theorem dX5_drop_8 : decode cX5_drop 8 = .ok (.iconst 0, 1) := by decide +kernel
theorem dX5_drop_9 : decode cX5_drop 9 = .ok (.goto 4, 3) := by decide +kernel
theorem dX5_drop_12 : decode cX5_drop 12 = .ok (.iconst 1, 1) := by decide +kernel
theorem dX5_drop_13 : decode cX5_drop 13 = .ok (.putfield 35, 3) := by decide +kernel
theorem dX5_drop_16 : decode cX5_drop 16 = .ok (.aload_n 0, 1) := by decide +kernel
theorem dX5_drop_17 : decode cX5_drop 17 = .ok (.getfield 35, 3) := by decide +kernel
theorem dX5_drop_20 : decode cX5_drop 20 = .ok (.ifCond .le 5, 3) := by decide +kernel
theorem dX5_drop_23 : decode cX5_drop 23 = .ok (.iconst 0, 1) := by decide +kernel
theorem dX5_drop_24 : decode cX5_drop 24 = .ok (.ireturn, 1) := by decide +kernel
theorem dX5_drop_25 : decode cX5_drop 25 = .ok (.aload_n 0, 1) := by decide +kernel
theorem dX5_drop_26 : decode cX5_drop 26 = .ok (.invokevirtual 98, 3) := by decide +kernel
theorem dX5_drop_29 : decode cX5_drop 29 = .ok (.aload_n 0, 1) := by decide +kernel
theorem dX5_drop_30 : decode cX5_drop 30 = .ok (.iload_n 1, 1) := by decide +kernel
theorem dX5_drop_31 : decode cX5_drop 31 = .ok (.iconst (-1), 1) := by decide +kernel
theorem dX5_drop_32 : decode cX5_drop 32 = .ok (.iconst 3, 1) := by decide +kernel
theorem dX5_drop_33 : decode cX5_drop 33 = .ok (.invokevirtual 111, 3) := by decide +kernel
theorem dX5_drop_36 : decode cX5_drop 36 = .ok (.ireturn, 1) := by decide +kernel
theorem dX5_lockedMany_0 : decode cX5_lockedMany 0 = .ok (.iconst 0, 1) := by decide +kernel
theorem dX5_lockedMany_1 : decode cX5_lockedMany 1 = .ok (.istore_n 1, 1) := by decide +kernel
theorem dX5_lockedMany_2 : decode cX5_lockedMany 2 = .ok (.iconst 0, 1) := by decide +kernel
theorem dX5_lockedMany_3 : decode cX5_lockedMany 3 = .ok (.istore_n 2, 1) := by decide +kernel
theorem dX5_lockedMany_4 : decode cX5_lockedMany 4 = .ok (.iload_n 2, 1) := by decide +kernel
theorem dX5_lockedMany_5 : decode cX5_lockedMany 5 = .ok (.bipush 20, 2) := by decide +kernel
theorem dX5_lockedMany_7 : decode cX5_lockedMany 7 = .ok (.if_icmp .ge 25, 3) := by decide +kernel
theorem dX5_lockedMany_10 : decode cX5_lockedMany 10 = .ok (.iload_n 1, 1) := by decide +kernel
theorem dX5_lockedMany_11 : decode cX5_lockedMany 11 = .ok (.aload_n 0, 1) := by decide +kernel
theorem dX5_lockedMany_12 : decode cX5_lockedMany 12 = .ok (.iload_n 2, 1) := by decide +kernel
theorem dX5_lockedMany_13 : decode cX5_lockedMany 13 = .ok (.invokevirtual 95, 3) := by decide +kernel
theorem dX5_lockedMany_16 : decode cX5_lockedMany 16 = .ok (.ifCond .eq 7, 3) := by decide +kernel
theorem dX5_lockedMany_19 : decode cX5_lockedMany 19 = .ok (.iconst 1, 1) := by decide +kernel
theorem dX5_lockedMany_20 : decode cX5_lockedMany 20 = .ok (.goto 4, 3) := by decide +kernel
theorem dX5_lockedMany_23 : decode cX5_lockedMany 23 = .ok (.iconst 0, 1) := by decide +kernel
theorem dX5_lockedMany_24 : decode cX5_lockedMany 24 = .ok (.iadd, 1) := by decide +kernel
theorem dX5_lockedMany_25 : decode cX5_lockedMany 25 = .ok (.istore_n 1, 1) := by decide +kernel
theorem dX5_lockedMany_26 : decode cX5_lockedMany 26 = .ok (.iinc 2 1, 3) := by decide +kernel
theorem dX5_lockedMany_29 : decode cX5_lockedMany 29 = .ok (.goto (-25), 3) := by decide +kernel
theorem dX5_lockedMany_32 : decode cX5_lockedMany 32 = .ok (.iload_n 1, 1) := by decide +kernel
theorem dX5_lockedMany_33 : decode cX5_lockedMany 33 = .ok (.ireturn, 1) := by decide +kernel
theorem dX5_whyNotChange_0 : decode cX5_whyNotChange 0 = .ok (.iload_n 1, 1) := by decide +kernel
theorem dX5_whyNotChange_1 : decode cX5_whyNotChange 1 = .ok (.invokestatic 91, 3) := by decide +kernel
theorem dX5_whyNotChange_4 : decode cX5_whyNotChange 4 = .ok (.ifCond .ne 7, 3) := by decide +kernel
theorem dX5_whyNotChange_7 : decode cX5_whyNotChange 7 = .ok (.iconst 1, 1) := by decide +kernel
theorem dX5_whyNotChange_8 : decode cX5_whyNotChange 8 = .ok (.goto 16, 3) := by decide +kernel
theorem dX5_whyNotChange_11 : decode cX5_whyNotChange 11 = .ok (.aload_n 0, 1) := by decide +kernel
theorem dX5_whyNotChange_12 : decode cX5_whyNotChange 12 = .ok (.iload_n 1, 1) := by decide +kernel
theorem dX5_whyNotChange_13 : decode cX5_whyNotChange 13 = .ok (.invokevirtual 95, 3) := by decide +kernel
theorem dX5_whyNotChange_16 : decode cX5_whyNotChange 16 = .ok (.ifCond .eq 7, 3) := by decide +kernel
theorem dX5_whyNotChange_19 : decode cX5_whyNotChange 19 = .ok (.iconst 2, 1) := by decide +kernel
theorem dX5_whyNotChange_20 : decode cX5_whyNotChange 20 = .ok (.goto 4, 3) := by decide +kernel
theorem dX5_whyNotChange_23 : decode cX5_whyNotChange 23 = .ok (.iconst 0, 1) := by decide +kernel
theorem dX5_whyNotChange_24 : decode cX5_whyNotChange 24 = .ok (.ireturn, 1) := by decide +kernel
theorem dX5_lock_0 : decode cX5_lock 0 = .ok (.aload_n 0, 1) := by decide +kernel
theorem dX5_lock_1 : decode cX5_lock 1 = .ok (.aload_n 0, 1) := by decide +kernel
theorem dX5_lock_2 : decode cX5_lock 2 = .ok (.iload_n 1, 1) := by decide +kernel
theorem dX5_lock_3 : decode cX5_lock 3 = .ok (.invokevirtual 130, 3) := by decide +kernel
theorem dX5_lock_6 : decode cX5_lock 6 = .ok (.putfield 35, 3) := by decide +kernel
theorem dX5_lock_9 : decode cX5_lock 9 = .ok (.aload_n 0, 1) := by decide +kernel
theorem dX5_lock_10 : decode cX5_lock 10 = .ok (.getfield 35, 3) := by decide +kernel
theorem dX5_lock_13 : decode cX5_lock 13 = .ok (.ifCond .le 5, 3) := by decide +kernel
theorem dX5_lock_16 : decode cX5_lock 16 = .ok (.iconst 0, 1) := by decide +kernel
theorem dX5_lock_17 : decode cX5_lock 17 = .ok (.ireturn, 1) := by decide +kernel
theorem dX5_lock_18 : decode cX5_lock 18 = .ok (.aload_n 0, 1) := by decide +kernel
theorem dX5_lock_19 : decode cX5_lock 19 = .ok (.invokevirtual 98, 3) := by decide +kernel
theorem dX5_lock_22 : decode cX5_lock 22 = .ok (.aload_n 0, 1) := by decide +kernel
theorem dX5_lock_23 : decode cX5_lock 23 = .ok (.iload_n 1, 1) := by decide +kernel
theorem dX5_lock_24 : decode cX5_lock 24 = .ok (.bipush 15, 2) := by decide +kernel
theorem dX5_lock_26 : decode cX5_lock 26 = .ok (.iconst 3, 1) := by decide +kernel
theorem dX5_lock_27 : decode cX5_lock 27 = .ok (.invokevirtual 101, 3) := by decide +kernel
theorem dX5_lock_30 : decode cX5_lock 30 = .ok (.aload_n 0, 1) := by decide +kernel
theorem dX5_lock_31 : decode cX5_lock 31 = .ok (.invokevirtual 133, 3) := by decide +kernel
theorem dX5_lock_34 : decode cX5_lock 34 = .ok (.ireturn, 1) := by decide +kernel
theorem dX5_refreshAll_0 : decode cX5_refreshAll 0 = .ok (.iconst 0, 1) := by decide +kernel
theorem dX5_refreshAll_1 : decode cX5_refreshAll 1 = .ok (.istore_n 2, 1) := by decide +kernel
theorem dX5_refreshAll_2 : decode cX5_refreshAll 2 = .ok (.iconst 0, 1) := by decide +kernel
theorem dX5_refreshAll_3 : decode cX5_refreshAll 3 = .ok (.istore_n 3, 1) := by decide +kernel
theorem dX5_refreshAll_4 : decode cX5_refreshAll 4 = .ok (.iload_n 3, 1) := by decide +kernel
theorem dX5_refreshAll_5 : decode cX5_refreshAll 5 = .ok (.bipush 16, 2) := by decide +kernel
theorem dX5_refreshAll_7 : decode cX5_refreshAll 7 = .ok (.if_icmp .ge 50, 3) := by decide +kernel
theorem dX5_refreshAll_10 : decode cX5_refreshAll 10 = .ok (.aload_n 0, 1) := by decide +kernel
theorem dX5_refreshAll_11 : decode cX5_refreshAll 11 = .ok (.iload_n 1, 1) := by decide +kernel
theorem dX5_refreshAll_12 : decode cX5_refreshAll 12 = .ok (.iload_n 3, 1) := by decide +kernel
theorem dX5_refreshAll_13 : decode cX5_refreshAll 13 = .ok (.aload_n 0, 1) := by decide +kernel
theorem dX5_refreshAll_14 : decode cX5_refreshAll 14 = .ok (.getfield 7, 3) := by decide +kernel
theorem dX5_refreshAll_17 : decode cX5_refreshAll 17 = .ok (.iconst 0, 1) := by decide +kernel
theorem dX5_refreshAll_18 : decode cX5_refreshAll 18 = .ok (.iaload, 1) := by decide +kernel
theorem dX5_refreshAll_19 : decode cX5_refreshAll 19 = .ok (.invokevirtual 54, 3) := by decide +kernel
theorem dX5_refreshAll_22 : decode cX5_refreshAll 22 = .ok (.iconst 1, 1) := by decide +kernel
theorem dX5_refreshAll_23 : decode cX5_refreshAll 23 = .ok (.if_icmp .ne 28, 3) := by decide +kernel
theorem dX5_refreshAll_26 : decode cX5_refreshAll 26 = .ok (.iload_n 2, 1) := by decide +kernel
theorem dX5_refreshAll_27 : decode cX5_refreshAll 27 = .ok (.aload_n 0, 1) := by decide +kernel
theorem dX5_refreshAll_28 : decode cX5_refreshAll 28 = .ok (.iload_n 1, 1) := by decide +kernel
theorem dX5_refreshAll_29 : decode cX5_refreshAll 29 = .ok (.iload_n 3, 1) := by decide +kernel
theorem dX5_refreshAll_30 : decode cX5_refreshAll 30 = .ok (.invokevirtual 46, 3) := by decide +kernel
theorem dX5_refreshAll_33 : decode cX5_refreshAll 33 = .ok (.iconst 3, 1) := by decide +kernel
theorem dX5_refreshAll_34 : decode cX5_refreshAll 34 = .ok (.if_icmp .ge 7, 3) := by decide +kernel
theorem dX5_refreshAll_37 : decode cX5_refreshAll 37 = .ok (.iconst 1, 1) := by decide +kernel
theorem dX5_refreshAll_38 : decode cX5_refreshAll 38 = .ok (.goto 4, 3) := by decide +kernel
theorem dX5_refreshAll_41 : decode cX5_refreshAll 41 = .ok (.iconst 0, 1) := by decide +kernel
theorem dX5_refreshAll_42 : decode cX5_refreshAll 42 = .ok (.iadd, 1) := by decide +kernel
theorem dX5_refreshAll_43 : decode cX5_refreshAll 43 = .ok (.istore_n 2, 1) := by decide +kernel
theorem dX5_refreshAll_44 : decode cX5_refreshAll 44 = .ok (.aload_n 0, 1) := by decide +kernel
theorem dX5_refreshAll_45 : decode cX5_refreshAll 45 = .ok (.iload_n 1, 1) := by decide +kernel
theorem dX5_refreshAll_46 : decode cX5_refreshAll 46 = .ok (.iload_n 3, 1) := by decide +kernel
theorem dX5_refreshAll_47 : decode cX5_refreshAll 47 = .ok (.iconst 3, 1) := by decide +kernel
theorem dX5_refreshAll_48 : decode cX5_refreshAll 48 = .ok (.invokevirtual 101, 3) := by decide +kernel
theorem dX5_refreshAll_51 : decode cX5_refreshAll 51 = .ok (.iinc 3 1, 3) := by decide +kernel
theorem dX5_refreshAll_54 : decode cX5_refreshAll 54 = .ok (.goto (-50), 3) := by decide +kernel
theorem dX5_refreshAll_57 : decode cX5_refreshAll 57 = .ok (.iload_n 2, 1) := by decide +kernel
theorem dX5_refreshAll_58 : decode cX5_refreshAll 58 = .ok (.ireturn, 1) := by decide +kernel
theorem dX5_refresh_0 : decode cX5_refresh 0 = .ok (.aload_n 0, 1) := by decide +kernel
theorem dX5_refresh_1 : decode cX5_refresh 1 = .ok (.aload_n 0, 1) := by decide +kernel
theorem dX5_refresh_2 : decode cX5_refresh 2 = .ok (.iload_n 1, 1) := by decide +kernel
theorem dX5_refresh_3 : decode cX5_refresh 3 = .ok (.invokevirtual 130, 3) := by decide +kernel
theorem dX5_refresh_6 : decode cX5_refresh 6 = .ok (.putfield 35, 3) := by decide +kernel
theorem dX5_refresh_9 : decode cX5_refresh 9 = .ok (.aload_n 0, 1) := by decide +kernel
theorem dX5_refresh_10 : decode cX5_refresh 10 = .ok (.getfield 35, 3) := by decide +kernel
theorem dX5_refresh_13 : decode cX5_refresh 13 = .ok (.ifCond .le 5, 3) := by decide +kernel
theorem dX5_refresh_16 : decode cX5_refresh 16 = .ok (.iconst 0, 1) := by decide +kernel
theorem dX5_refresh_17 : decode cX5_refresh 17 = .ok (.ireturn, 1) := by decide +kernel
theorem dX5_refresh_18 : decode cX5_refresh 18 = .ok (.aload_n 0, 1) := by decide +kernel
theorem dX5_refresh_19 : decode cX5_refresh 19 = .ok (.invokevirtual 98, 3) := by decide +kernel
theorem dX5_refresh_22 : decode cX5_refresh 22 = .ok (.aload_n 0, 1) := by decide +kernel
theorem dX5_refresh_23 : decode cX5_refresh 23 = .ok (.iload_n 1, 1) := by decide +kernel
theorem dX5_refresh_24 : decode cX5_refresh 24 = .ok (.invokevirtual 136, 3) := by decide +kernel
theorem dX5_refresh_27 : decode cX5_refresh 27 = .ok (.ireturn, 1) := by decide +kernel
theorem dX5_heatAll_0 : decode cX5_heatAll 0 = .ok (.iconst 0, 1) := by decide +kernel
theorem dX5_heatAll_1 : decode cX5_heatAll 1 = .ok (.istore_n 2, 1) := by decide +kernel
theorem dX5_heatAll_2 : decode cX5_heatAll 2 = .ok (.bipush 7, 2) := by decide +kernel
theorem dX5_heatAll_4 : decode cX5_heatAll 4 = .ok (.istore_n 3, 1) := by decide +kernel
theorem dX5_heatAll_5 : decode cX5_heatAll 5 = .ok (.iload_n 3, 1) := by decide +kernel
theorem dX5_heatAll_6 : decode cX5_heatAll 6 = .ok (.sipush 327, 3) := by decide +kernel
theorem dX5_heatAll_9 : decode cX5_heatAll 9 = .ok (.if_icmp .ge 79, 3) := by decide +kernel
theorem dX5_heatAll_12 : decode cX5_heatAll 12 = .ok (.aload_n 0, 1) := by decide +kernel
theorem dX5_heatAll_13 : decode cX5_heatAll 13 = .ok (.getfield 7, 3) := by decide +kernel
theorem dX5_heatAll_16 : decode cX5_heatAll 16 = .ok (.iload_n 3, 1) := by decide +kernel
theorem dX5_heatAll_17 : decode cX5_heatAll 17 = .ok (.iaload, 1) := by decide +kernel
theorem dX5_heatAll_18 : decode cX5_heatAll 18 = .ok (.iconst 1, 1) := by decide +kernel
theorem dX5_heatAll_19 : decode cX5_heatAll 19 = .ok (.if_icmp .ne 8, 3) := by decide +kernel
theorem dX5_heatAll_22 : decode cX5_heatAll 22 = .ok (.iload_n 1, 1) := by decide +kernel
theorem dX5_heatAll_23 : decode cX5_heatAll 23 = .ok (.iconst 3, 1) := by decide +kernel
theorem dX5_heatAll_24 : decode cX5_heatAll 24 = .ok (.if_icmp .ge 19, 3) := by decide +kernel
theorem dX5_heatAll_27 : decode cX5_heatAll 27 = .ok (.aload_n 0, 1) := by decide +kernel
theorem dX5_heatAll_28 : decode cX5_heatAll 28 = .ok (.getfield 7, 3) := by decide +kernel
theorem dX5_heatAll_31 : decode cX5_heatAll 31 = .ok (.iload_n 3, 1) := by decide +kernel
theorem dX5_heatAll_32 : decode cX5_heatAll 32 = .ok (.iaload, 1) := by decide +kernel
theorem dX5_heatAll_33 : decode cX5_heatAll 33 = .ok (.iconst 2, 1) := by decide +kernel
theorem dX5_heatAll_34 : decode cX5_heatAll 34 = .ok (.if_icmp .ne 13, 3) := by decide +kernel
theorem dX5_heatAll_37 : decode cX5_heatAll 37 = .ok (.iload_n 1, 1) := by decide +kernel
theorem dX5_heatAll_38 : decode cX5_heatAll 38 = .ok (.bipush 6, 2) := by decide +kernel
theorem dX5_heatAll_40 : decode cX5_heatAll 40 = .ok (.if_icmp .lt 7, 3) := by decide +kernel
theorem dX5_heatAll_43 : decode cX5_heatAll 43 = .ok (.iconst 1, 1) := by decide +kernel
theorem dX5_heatAll_44 : decode cX5_heatAll 44 = .ok (.goto 4, 3) := by decide +kernel
theorem dX5_heatAll_47 : decode cX5_heatAll 47 = .ok (.iconst 0, 1) := by decide +kernel
theorem dX5_heatAll_48 : decode cX5_heatAll 48 = .ok (.istore 4, 2) := by decide +kernel
theorem dX5_heatAll_50 : decode cX5_heatAll 50 = .ok (.aload_n 0, 1) := by decide +kernel
theorem dX5_heatAll_51 : decode cX5_heatAll 51 = .ok (.getfield 7, 3) := by decide +kernel
theorem dX5_heatAll_54 : decode cX5_heatAll 54 = .ok (.iload_n 3, 1) := by decide +kernel
theorem dX5_heatAll_55 : decode cX5_heatAll 55 = .ok (.dup2, 1) := by decide +kernel
theorem dX5_heatAll_56 : decode cX5_heatAll 56 = .ok (.iaload, 1) := by decide +kernel
theorem dX5_heatAll_57 : decode cX5_heatAll 57 = .ok (.iload 4, 2) := by decide +kernel
theorem dX5_heatAll_59 : decode cX5_heatAll 59 = .ok (.ifCond .eq 7, 3) := by decide +kernel
theorem dX5_heatAll_62 : decode cX5_heatAll 62 = .ok (.iconst 1, 1) := by decide +kernel
theorem dX5_heatAll_63 : decode cX5_heatAll 63 = .ok (.goto 4, 3) := by decide +kernel
theorem dX5_heatAll_66 : decode cX5_heatAll 66 = .ok (.iconst 0, 1) := by decide +kernel
theorem dX5_heatAll_67 : decode cX5_heatAll 67 = .ok (.isub, 1) := by decide +kernel
theorem dX5_heatAll_68 : decode cX5_heatAll 68 = .ok (.iastore, 1) := by decide +kernel
theorem dX5_heatAll_69 : decode cX5_heatAll 69 = .ok (.iload_n 2, 1) := by decide +kernel
theorem dX5_heatAll_70 : decode cX5_heatAll 70 = .ok (.iload 4, 2) := by decide +kernel
theorem dX5_heatAll_72 : decode cX5_heatAll 72 = .ok (.ifCond .eq 7, 3) := by decide +kernel
theorem dX5_heatAll_75 : decode cX5_heatAll 75 = .ok (.iconst 1, 1) := by decide +kernel
theorem dX5_heatAll_76 : decode cX5_heatAll 76 = .ok (.goto 4, 3) := by decide +kernel
theorem dX5_heatAll_79 : decode cX5_heatAll 79 = .ok (.iconst 0, 1) := by decide +kernel
theorem dX5_heatAll_80 : decode cX5_heatAll 80 = .ok (.iadd, 1) := by decide +kernel
theorem dX5_heatAll_81 : decode cX5_heatAll 81 = .ok (.istore_n 2, 1) := by decide +kernel
theorem dX5_heatAll_82 : decode cX5_heatAll 82 = .ok (.iinc 3 1, 3) := by decide +kernel
theorem dX5_heatAll_85 : decode cX5_heatAll 85 = .ok (.goto (-80), 3) := by decide +kernel
theorem dX5_heatAll_88 : decode cX5_heatAll 88 = .ok (.iload_n 2, 1) := by decide +kernel
theorem dX5_heatAll_89 : decode cX5_heatAll 89 = .ok (.ireturn, 1) := by decide +kernel
theorem dX5_heat_0 : decode cX5_heat 0 = .ok (.aload_n 0, 1) := by decide +kernel
theorem dX5_heat_1 : decode cX5_heat 1 = .ok (.iload_n 1, 1) := by decide +kernel
theorem dX5_heat_2 : decode cX5_heat 2 = .ok (.iconst 1, 1) := by decide +kernel
theorem dX5_heat_3 : decode cX5_heat 3 = .ok (.bipush 9, 2) := by decide +kernel
theorem dX5_heat_5 : decode cX5_heat 5 = .ok (.invokestatic 39, 3) := by decide +kernel
theorem dX5_heat_8 : decode cX5_heat 8 = .ok (.ifCond .eq 7, 3) := by decide +kernel
theorem dX5_heat_11 : decode cX5_heat 11 = .ok (.iconst 0, 1) := by decide +kernel
theorem dX5_heat_12 : decode cX5_heat 12 = .ok (.goto 4, 3) := by decide +kernel
theorem dX5_heat_15 : decode cX5_heat 15 = .ok (.iconst 1, 1) := by decide +kernel
theorem dX5_heat_16 : decode cX5_heat 16 = .ok (.putfield 35, 3) := by decide +kernel
theorem dX5_heat_19 : decode cX5_heat 19 = .ok (.aload_n 0, 1) := by decide +kernel
theorem dX5_heat_20 : decode cX5_heat 20 = .ok (.getfield 35, 3) := by decide +kernel
theorem dX5_heat_23 : decode cX5_heat 23 = .ok (.ifCond .le 5, 3) := by decide +kernel
theorem dX5_heat_26 : decode cX5_heat 26 = .ok (.iconst 0, 1) := by decide +kernel
theorem dX5_heat_27 : decode cX5_heat 27 = .ok (.ireturn, 1) := by decide +kernel
theorem dX5_heat_28 : decode cX5_heat 28 = .ok (.aload_n 0, 1) := by decide +kernel
theorem dX5_heat_29 : decode cX5_heat 29 = .ok (.invokevirtual 98, 3) := by decide +kernel
theorem dX5_heat_32 : decode cX5_heat 32 = .ok (.aload_n 0, 1) := by decide +kernel
theorem dX5_heat_33 : decode cX5_heat 33 = .ok (.iload_n 1, 1) := by decide +kernel
theorem dX5_heat_34 : decode cX5_heat 34 = .ok (.invokevirtual 139, 3) := by decide +kernel
theorem dX5_heat_37 : decode cX5_heat 37 = .ok (.ireturn, 1) := by decide +kernel
theorem dX5_pass_0 : decode cX5_pass 0 = .ok (.aload_n 0, 1) := by decide +kernel
theorem dX5_pass_1 : decode cX5_pass 1 = .ok (.iload_n 1, 1) := by decide +kernel
theorem dX5_pass_2 : decode cX5_pass 2 = .ok (.iconst 1, 1) := by decide +kernel
theorem dX5_pass_3 : decode cX5_pass 3 = .ok (.bipush 99, 2) := by decide +kernel
theorem dX5_pass_5 : decode cX5_pass 5 = .ok (.invokestatic 39, 3) := by decide +kernel
theorem dX5_pass_8 : decode cX5_pass 8 = .ok (.ifCond .ne 7, 3) := by decide +kernel
theorem dX5_pass_11 : decode cX5_pass 11 = .ok (.iconst 1, 1) := by decide +kernel
theorem dX5_pass_12 : decode cX5_pass 12 = .ok (.goto 22, 3) := by decide +kernel
theorem dX5_pass_15 : decode cX5_pass 15 = .ok (.aload_n 0, 1) := by decide +kernel
theorem dX5_pass_16 : decode cX5_pass 16 = .ok (.getfield 7, 3) := by decide +kernel
theorem dX5_pass_19 : decode cX5_pass 19 = .ok (.iconst 0, 1) := by decide +kernel
theorem dX5_pass_20 : decode cX5_pass 20 = .ok (.iaload, 1) := by decide +kernel
theorem dX5_pass_21 : decode cX5_pass 21 = .ok (.iload_n 1, 1) := by decide +kernel
theorem dX5_pass_22 : decode cX5_pass 22 = .ok (.iadd, 1) := by decide +kernel
theorem dX5_pass_23 : decode cX5_pass 23 = .ok (.sipush 9999, 3) := by decide +kernel
theorem dX5_pass_26 : decode cX5_pass 26 = .ok (.if_icmp .le 7, 3) := by decide +kernel
theorem dX5_pass_29 : decode cX5_pass 29 = .ok (.iconst 2, 1) := by decide +kernel
theorem dX5_pass_30 : decode cX5_pass 30 = .ok (.goto 4, 3) := by decide +kernel
theorem dX5_pass_33 : decode cX5_pass 33 = .ok (.iconst 0, 1) := by decide +kernel
theorem dX5_pass_34 : decode cX5_pass 34 = .ok (.putfield 35, 3) := by decide +kernel
theorem dX5_pass_37 : decode cX5_pass 37 = .ok (.aload_n 0, 1) := by decide +kernel
theorem dX5_pass_38 : decode cX5_pass 38 = .ok (.getfield 35, 3) := by decide +kernel
theorem dX5_pass_41 : decode cX5_pass 41 = .ok (.ifCond .le 5, 3) := by decide +kernel
theorem dX5_pass_44 : decode cX5_pass 44 = .ok (.iconst 0, 1) := by decide +kernel
theorem dX5_pass_45 : decode cX5_pass 45 = .ok (.ireturn, 1) := by decide +kernel
theorem dX5_pass_46 : decode cX5_pass 46 = .ok (.aload_n 0, 1) := by decide +kernel
theorem dX5_pass_47 : decode cX5_pass 47 = .ok (.invokevirtual 98, 3) := by decide +kernel
theorem dX5_pass_50 : decode cX5_pass 50 = .ok (.aload_n 0, 1) := by decide +kernel
theorem dX5_pass_51 : decode cX5_pass 51 = .ok (.getfield 7, 3) := by decide +kernel
theorem dX5_pass_54 : decode cX5_pass 54 = .ok (.iconst 0, 1) := by decide +kernel
theorem dX5_pass_55 : decode cX5_pass 55 = .ok (.dup2, 1) := by decide +kernel
theorem dX5_pass_56 : decode cX5_pass 56 = .ok (.iaload, 1) := by decide +kernel
theorem dX5_pass_57 : decode cX5_pass 57 = .ok (.iload_n 1, 1) := by decide +kernel
theorem dX5_pass_58 : decode cX5_pass 58 = .ok (.iadd, 1) := by decide +kernel
theorem dX5_pass_59 : decode cX5_pass 59 = .ok (.iastore, 1) := by decide +kernel
theorem dX5_pass_60 : decode cX5_pass 60 = .ok (.aload_n 0, 1) := by decide +kernel
theorem dX5_pass_61 : decode cX5_pass 61 = .ok (.getfield 7, 3) := by decide +kernel
theorem dX5_pass_64 : decode cX5_pass 64 = .ok (.iconst 0, 1) := by decide +kernel
theorem dX5_pass_65 : decode cX5_pass 65 = .ok (.iaload, 1) := by decide +kernel
theorem dX5_pass_66 : decode cX5_pass 66 = .ok (.ireturn, 1) := by decide +kernel
theorem dX5_leastOf_0 : decode cX5_leastOf 0 = .ok (.iload_n 0, 1) := by decide +kernel
theorem dX5_leastOf_1 : decode cX5_leastOf 1 = .ok (.iconst 1, 1) := by decide +kernel
theorem dX5_leastOf_2 : decode cX5_leastOf 2 = .ok (.if_icmp .eq 8, 3) := by decide +kernel
theorem dX5_leastOf_5 : decode cX5_leastOf 5 = .ok (.iload_n 0, 1) := by decide +kernel
theorem dX5_leastOf_6 : decode cX5_leastOf 6 = .ok (.iconst 2, 1) := by decide +kernel
theorem dX5_leastOf_7 : decode cX5_leastOf 7 = .ok (.if_icmp .ne 7, 3) := by decide +kernel
theorem dX5_leastOf_10 : decode cX5_leastOf 10 = .ok (.iconst 1, 1) := by decide +kernel
theorem dX5_leastOf_11 : decode cX5_leastOf 11 = .ok (.goto 4, 3) := by decide +kernel
theorem dX5_leastOf_14 : decode cX5_leastOf 14 = .ok (.iconst 0, 1) := by decide +kernel
theorem dX5_leastOf_15 : decode cX5_leastOf 15 = .ok (.ireturn, 1) := by decide +kernel
theorem dX5_mostOf_0 : decode cX5_mostOf 0 = .ok (.iload_n 0, 1) := by decide +kernel
theorem dX5_mostOf_1 : decode cX5_mostOf 1 = .ok (.iconst 1, 1) := by decide +kernel
theorem dX5_mostOf_2 : decode cX5_mostOf 2 = .ok (.if_icmp .eq 8, 3) := by decide +kernel
theorem dX5_mostOf_5 : decode cX5_mostOf 5 = .ok (.iload_n 0, 1) := by decide +kernel
theorem dX5_mostOf_6 : decode cX5_mostOf 6 = .ok (.iconst 2, 1) := by decide +kernel
theorem dX5_mostOf_7 : decode cX5_mostOf 7 = .ok (.if_icmp .ne 7, 3) := by decide +kernel
theorem dX5_mostOf_10 : decode cX5_mostOf 10 = .ok (.iconst 3, 1) := by decide +kernel
theorem dX5_mostOf_11 : decode cX5_mostOf 11 = .ok (.goto 4, 3) := by decide +kernel
theorem dX5_mostOf_14 : decode cX5_mostOf 14 = .ok (.iconst 1, 1) := by decide +kernel
theorem dX5_mostOf_15 : decode cX5_mostOf 15 = .ok (.ireturn, 1) := by decide +kernel
theorem dX5_set_0 : decode cX5_set 0 = .ok (.aload_n 0, 1) := by decide +kernel
theorem dX5_set_1 : decode cX5_set 1 = .ok (.iload_n 1, 1) := by decide +kernel
theorem dX5_set_2 : decode cX5_set 2 = .ok (.iconst 0, 1) := by decide +kernel
theorem dX5_set_3 : decode cX5_set 3 = .ok (.iconst 3, 1) := by decide +kernel
theorem dX5_set_4 : decode cX5_set 4 = .ok (.invokestatic 39, 3) := by decide +kernel
theorem dX5_set_7 : decode cX5_set 7 = .ok (.ifCond .ne 7, 3) := by decide +kernel
theorem dX5_set_10 : decode cX5_set 10 = .ok (.iconst 1, 1) := by decide +kernel
theorem dX5_set_11 : decode cX5_set 11 = .ok (.goto 23, 3) := by decide +kernel
theorem dX5_set_14 : decode cX5_set 14 = .ok (.iload_n 2, 1) := by decide +kernel
theorem dX5_set_15 : decode cX5_set 15 = .ok (.iload_n 1, 1) := by decide +kernel
theorem dX5_set_16 : decode cX5_set 16 = .ok (.invokestatic 142, 3) := by decide +kernel
theorem dX5_set_19 : decode cX5_set 19 = .ok (.iload_n 1, 1) := by decide +kernel
theorem dX5_set_20 : decode cX5_set 20 = .ok (.invokestatic 145, 3) := by decide +kernel
theorem dX5_set_23 : decode cX5_set 23 = .ok (.invokestatic 39, 3) := by decide +kernel
theorem dX5_set_26 : decode cX5_set 26 = .ok (.ifCond .ne 7, 3) := by decide +kernel
theorem dX5_set_29 : decode cX5_set 29 = .ok (.iconst 2, 1) := by decide +kernel
theorem dX5_set_30 : decode cX5_set 30 = .ok (.goto 4, 3) := by decide +kernel
theorem dX5_set_33 : decode cX5_set 33 = .ok (.iconst 0, 1) := by decide +kernel
theorem dX5_set_34 : decode cX5_set 34 = .ok (.putfield 35, 3) := by decide +kernel
theorem dX5_set_37 : decode cX5_set 37 = .ok (.aload_n 0, 1) := by decide +kernel
theorem dX5_set_38 : decode cX5_set 38 = .ok (.getfield 35, 3) := by decide +kernel
theorem dX5_set_41 : decode cX5_set 41 = .ok (.ifCond .le 5, 3) := by decide +kernel
theorem dX5_set_44 : decode cX5_set 44 = .ok (.iconst 0, 1) := by decide +kernel
theorem dX5_set_45 : decode cX5_set 45 = .ok (.ireturn, 1) := by decide +kernel
theorem dX5_set_46 : decode cX5_set 46 = .ok (.aload_n 0, 1) := by decide +kernel
theorem dX5_set_47 : decode cX5_set 47 = .ok (.invokevirtual 98, 3) := by decide +kernel
theorem dX5_set_50 : decode cX5_set 50 = .ok (.aload_n 0, 1) := by decide +kernel
theorem dX5_set_51 : decode cX5_set 51 = .ok (.getfield 7, 3) := by decide +kernel
theorem dX5_set_54 : decode cX5_set 54 = .ok (.iconst 3, 1) := by decide +kernel
theorem dX5_set_55 : decode cX5_set 55 = .ok (.iload_n 1, 1) := by decide +kernel
theorem dX5_set_56 : decode cX5_set 56 = .ok (.iadd, 1) := by decide +kernel
theorem dX5_set_57 : decode cX5_set 57 = .ok (.iaload, 1) := by decide +kernel
theorem dX5_set_58 : decode cX5_set 58 = .ok (.istore_n 3, 1) := by decide +kernel
theorem dX5_set_59 : decode cX5_set 59 = .ok (.aload_n 0, 1) := by decide +kernel
theorem dX5_set_60 : decode cX5_set 60 = .ok (.getfield 7, 3) := by decide +kernel
theorem dX5_set_63 : decode cX5_set 63 = .ok (.iconst 3, 1) := by decide +kernel
theorem dX5_set_64 : decode cX5_set 64 = .ok (.iload_n 1, 1) := by decide +kernel
theorem dX5_set_65 : decode cX5_set 65 = .ok (.iadd, 1) := by decide +kernel
theorem dX5_set_66 : decode cX5_set 66 = .ok (.iload_n 2, 1) := by decide +kernel
theorem dX5_set_67 : decode cX5_set 67 = .ok (.iastore, 1) := by decide +kernel
theorem dX5_set_68 : decode cX5_set 68 = .ok (.iload_n 3, 1) := by decide +kernel
theorem dX5_set_69 : decode cX5_set 69 = .ok (.ireturn, 1) := by decide +kernel
theorem dX5_append_0 : decode cX5_append 0 = .ok (.aload_n 0, 1) := by decide +kernel
theorem dX5_append_1 : decode cX5_append 1 = .ok (.iload_n 1, 1) := by decide +kernel
theorem dX5_append_2 : decode cX5_append 2 = .ok (.bipush 33, 2) := by decide +kernel
theorem dX5_append_4 : decode cX5_append 4 = .ok (.bipush 126, 2) := by decide +kernel
theorem dX5_append_6 : decode cX5_append 6 = .ok (.invokestatic 39, 3) := by decide +kernel
theorem dX5_append_9 : decode cX5_append 9 = .ok (.ifCond .ne 7, 3) := by decide +kernel
theorem dX5_append_12 : decode cX5_append 12 = .ok (.iconst 1, 1) := by decide +kernel
theorem dX5_append_13 : decode cX5_append 13 = .ok (.goto 17, 3) := by decide +kernel
theorem dX5_append_16 : decode cX5_append 16 = .ok (.aload_n 0, 1) := by decide +kernel
theorem dX5_append_17 : decode cX5_append 17 = .ok (.getfield 148, 3) := by decide +kernel
theorem dX5_append_20 : decode cX5_append 20 = .ok (.bipush 60, 2) := by decide +kernel
theorem dX5_append_22 : decode cX5_append 22 = .ok (.if_icmp .ne 7, 3) := by decide +kernel
theorem dX5_append_25 : decode cX5_append 25 = .ok (.iconst 2, 1) := by decide +kernel
theorem dX5_append_26 : decode cX5_append 26 = .ok (.goto 4, 3) := by decide +kernel
theorem dX5_append_29 : decode cX5_append 29 = .ok (.iconst 0, 1) := by decide +kernel
theorem dX5_append_30 : decode cX5_append 30 = .ok (.putfield 35, 3) := by decide +kernel
theorem dX5_append_33 : decode cX5_append 33 = .ok (.aload_n 0, 1) := by decide +kernel
theorem dX5_append_34 : decode cX5_append 34 = .ok (.getfield 35, 3) := by decide +kernel
theorem dX5_append_37 : decode cX5_append 37 = .ok (.ifCond .le 5, 3) := by decide +kernel
theorem dX5_append_40 : decode cX5_append 40 = .ok (.iconst 0, 1) := by decide +kernel
theorem dX5_append_41 : decode cX5_append 41 = .ok (.ireturn, 1) := by decide +kernel
theorem dX5_append_42 : decode cX5_append 42 = .ok (.aload_n 0, 1) := by decide +kernel
theorem dX5_append_43 : decode cX5_append 43 = .ok (.getfield 19, 3) := by decide +kernel
theorem dX5_append_46 : decode cX5_append 46 = .ok (.aload_n 0, 1) := by decide +kernel
theorem dX5_append_47 : decode cX5_append 47 = .ok (.getfield 148, 3) := by decide +kernel
theorem dX5_append_50 : decode cX5_append 50 = .ok (.iload_n 1, 1) := by decide +kernel
theorem dX5_append_51 : decode cX5_append 51 = .ok (.iastore, 1) := by decide +kernel
theorem dX5_append_52 : decode cX5_append 52 = .ok (.aload_n 0, 1) := by decide +kernel
theorem dX5_append_53 : decode cX5_append 53 = .ok (.dup, 1) := by decide +kernel
theorem dX5_append_54 : decode cX5_append 54 = .ok (.getfield 148, 3) := by decide +kernel
theorem dX5_append_57 : decode cX5_append 57 = .ok (.iconst 1, 1) := by decide +kernel
theorem dX5_append_58 : decode cX5_append 58 = .ok (.iadd, 1) := by decide +kernel
theorem dX5_append_59 : decode cX5_append 59 = .ok (.putfield 148, 3) := by decide +kernel
theorem dX5_append_62 : decode cX5_append 62 = .ok (.aload_n 0, 1) := by decide +kernel
theorem dX5_append_63 : decode cX5_append 63 = .ok (.getfield 148, 3) := by decide +kernel
theorem dX5_append_66 : decode cX5_append 66 = .ok (.ireturn, 1) := by decide +kernel
theorem dX5_clearBuffer_0 : decode cX5_clearBuffer 0 = .ok (.aload_n 0, 1) := by decide +kernel
theorem dX5_clearBuffer_1 : decode cX5_clearBuffer 1 = .ok (.iconst 0, 1) := by decide +kernel
theorem dX5_clearBuffer_2 : decode cX5_clearBuffer 2 = .ok (.putfield 35, 3) := by decide +kernel
theorem dX5_clearBuffer_5 : decode cX5_clearBuffer 5 = .ok (.aload_n 0, 1) := by decide +kernel
theorem dX5_clearBuffer_6 : decode cX5_clearBuffer 6 = .ok (.getfield 148, 3) := by decide +kernel
theorem dX5_clearBuffer_9 : decode cX5_clearBuffer 9 = .ok (.istore_n 1, 1) := by decide +kernel
theorem dX5_clearBuffer_10 : decode cX5_clearBuffer 10 = .ok (.aload_n 0, 1) := by decide +kernel
theorem dX5_clearBuffer_11 : decode cX5_clearBuffer 11 = .ok (.iconst 0, 1) := by decide +kernel
theorem dX5_clearBuffer_12 : decode cX5_clearBuffer 12 = .ok (.putfield 148, 3) := by decide +kernel
theorem dX5_clearBuffer_15 : decode cX5_clearBuffer 15 = .ok (.iload_n 1, 1) := by decide +kernel
theorem dX5_clearBuffer_16 : decode cX5_clearBuffer 16 = .ok (.ireturn, 1) := by decide +kernel
theorem dX5_letter_0 : decode cX5_letter 0 = .ok (.aload_n 0, 1) := by decide +kernel
theorem dX5_letter_1 : decode cX5_letter 1 = .ok (.getfield 151, 3) := by decide +kernel
theorem dX5_letter_4 : decode cX5_letter 4 = .ok (.aload_n 0, 1) := by decide +kernel
theorem dX5_letter_5 : decode cX5_letter 5 = .ok (.getfield 148, 3) := by decide +kernel
theorem dX5_letter_8 : decode cX5_letter 8 = .ok (.if_icmp .ge 15, 3) := by decide +kernel
theorem dX5_letter_11 : decode cX5_letter 11 = .ok (.aload_n 0, 1) := by decide +kernel
theorem dX5_letter_12 : decode cX5_letter 12 = .ok (.getfield 19, 3) := by decide +kernel
theorem dX5_letter_15 : decode cX5_letter 15 = .ok (.aload_n 0, 1) := by decide +kernel
theorem dX5_letter_16 : decode cX5_letter 16 = .ok (.getfield 151, 3) := by decide +kernel
theorem dX5_letter_19 : decode cX5_letter 19 = .ok (.iaload, 1) := by decide +kernel
theorem dX5_letter_20 : decode cX5_letter 20 = .ok (.goto 4, 3) := by decide +kernel
theorem dX5_letter_23 : decode cX5_letter 23 = .ok (.iconst (-1), 1) := by decide +kernel
theorem dX5_letter_24 : decode cX5_letter 24 = .ok (.ireturn, 1) := by decide +kernel
theorem dX5_isFine_0 : decode cX5_isFine 0 = .ok (.aload_n 0, 1) := by decide +kernel
theorem dX5_isFine_1 : decode cX5_isFine 1 = .ok (.getfield 154, 3) := by decide +kernel
theorem dX5_isFine_4 : decode cX5_isFine 4 = .ok (.iconst (-1), 1) := by decide +kernel
theorem dX5_isFine_5 : decode cX5_isFine 5 = .ok (.if_icmp .ne 14, 3) := by decide +kernel
theorem dX5_isFine_8 : decode cX5_isFine 8 = .ok (.aload_n 0, 1) := by decide +kernel
theorem dX5_isFine_9 : decode cX5_isFine 9 = .ok (.getfield 157, 3) := by decide +kernel
theorem dX5_isFine_12 : decode cX5_isFine 12 = .ok (.ifCond .ne 7, 3) := by decide +kernel
theorem dX5_isFine_15 : decode cX5_isFine 15 = .ok (.iconst 1, 1) := by decide +kernel
theorem dX5_isFine_16 : decode cX5_isFine 16 = .ok (.goto 4, 3) := by decide +kernel
theorem dX5_isFine_19 : decode cX5_isFine 19 = .ok (.iconst 0, 1) := by decide +kernel
theorem dX5_isFine_20 : decode cX5_isFine 20 = .ok (.ireturn, 1) := by decide +kernel
theorem dX5_takes_0 : decode cX5_takes 0 = .ok (.aload_n 0, 1) := by decide +kernel
theorem dX5_takes_1 : decode cX5_takes 1 = .ok (.invokevirtual 161, 3) := by decide +kernel
theorem dX5_takes_4 : decode cX5_takes 4 = .ok (.ifCond .ne 4, 3) := by decide +kernel
theorem dX5_takes_7 : decode cX5_takes 7 = .ok (.return_, 1) := by decide +kernel
theorem dX5_takes_8 : decode cX5_takes 8 = .ok (.aload_n 0, 1) := by decide +kernel
theorem dX5_takes_9 : decode cX5_takes 9 = .ok (.getfield 151, 3) := by decide +kernel
theorem dX5_takes_12 : decode cX5_takes 12 = .ok (.aload_n 0, 1) := by decide +kernel
theorem dX5_takes_13 : decode cX5_takes 13 = .ok (.getfield 148, 3) := by decide +kernel
theorem dX5_takes_16 : decode cX5_takes 16 = .ok (.if_icmp .ne 11, 3) := by decide +kernel
theorem dX5_takes_19 : decode cX5_takes 19 = .ok (.aload_n 0, 1) := by decide +kernel
theorem dX5_takes_20 : decode cX5_takes 20 = .ok (.iconst 1, 1) := by decide +kernel
theorem dX5_takes_21 : decode cX5_takes 21 = .ok (.putfield 157, 3) := by decide +kernel
theorem dX5_takes_24 : decode cX5_takes 24 = .ok (.goto 19, 3) := by decide +kernel
theorem dX5_takes_27 : decode cX5_takes 27 = .ok (.aload_n 0, 1) := by decide +kernel
theorem dX5_takes_28 : decode cX5_takes 28 = .ok (.invokevirtual 164, 3) := by decide +kernel
theorem dX5_takes_31 : decode cX5_takes 31 = .ok (.iload_n 1, 1) := by decide +kernel
theorem dX5_takes_32 : decode cX5_takes 32 = .ok (.if_icmp .eq 11, 3) := by decide +kernel
theorem dX5_takes_35 : decode cX5_takes 35 = .ok (.aload_n 0, 1) := by decide +kernel
theorem dX5_takes_36 : decode cX5_takes 36 = .ok (.aload_n 0, 1) := by decide +kernel
theorem dX5_takes_37 : decode cX5_takes 37 = .ok (.getfield 151, 3) := by decide +kernel
theorem dX5_takes_40 : decode cX5_takes 40 = .ok (.putfield 154, 3) := by decide +kernel
theorem dX5_takes_43 : decode cX5_takes 43 = .ok (.aload_n 0, 1) := by decide +kernel
theorem dX5_takes_44 : decode cX5_takes 44 = .ok (.dup, 1) := by decide +kernel
theorem dX5_takes_45 : decode cX5_takes 45 = .ok (.getfield 151, 3) := by decide +kernel
theorem dX5_takes_48 : decode cX5_takes 48 = .ok (.iconst 1, 1) := by decide +kernel
theorem dX5_takes_49 : decode cX5_takes 49 = .ok (.iadd, 1) := by decide +kernel
theorem dX5_takes_50 : decode cX5_takes 50 = .ok (.putfield 151, 3) := by decide +kernel
theorem dX5_takes_53 : decode cX5_takes 53 = .ok (.return_, 1) := by decide +kernel
theorem dX5_word_0 : decode cX5_word 0 = .ok (.aload_n 0, 1) := by decide +kernel
theorem dX5_word_1 : decode cX5_word 1 = .ok (.getfield 26, 3) := by decide +kernel
theorem dX5_word_4 : decode cX5_word 4 = .ok (.iload_n 1, 1) := by decide +kernel
theorem dX5_word_5 : decode cX5_word 5 = .ok (.iaload, 1) := by decide +kernel
theorem dX5_word_6 : decode cX5_word 6 = .ok (.istore_n 2, 1) := by decide +kernel
theorem dX5_word_7 : decode cX5_word 7 = .ok (.iload_n 2, 1) := by decide +kernel
theorem dX5_word_8 : decode cX5_word 8 = .ok (.aload_n 0, 1) := by decide +kernel
theorem dX5_word_9 : decode cX5_word 9 = .ok (.getfield 26, 3) := by decide +kernel
theorem dX5_word_12 : decode cX5_word 12 = .ok (.iload_n 1, 1) := by decide +kernel
theorem dX5_word_13 : decode cX5_word 13 = .ok (.iconst 1, 1) := by decide +kernel
theorem dX5_word_14 : decode cX5_word 14 = .ok (.iadd, 1) := by decide +kernel
theorem dX5_word_15 : decode cX5_word 15 = .ok (.iaload, 1) := by decide +kernel
theorem dX5_word_16 : decode cX5_word 16 = .ok (.if_icmp .ge 19, 3) := by decide +kernel
theorem dX5_word_19 : decode cX5_word 19 = .ok (.aload_n 0, 1) := by decide +kernel
theorem dX5_word_20 : decode cX5_word 20 = .ok (.aload_n 0, 1) := by decide +kernel
theorem dX5_word_21 : decode cX5_word 21 = .ok (.getfield 22, 3) := by decide +kernel
theorem dX5_word_24 : decode cX5_word 24 = .ok (.iload_n 2, 1) := by decide +kernel
theorem dX5_word_25 : decode cX5_word 25 = .ok (.caload, 1) := by decide +kernel
theorem dX5_word_26 : decode cX5_word 26 = .ok (.invokevirtual 167, 3) := by decide +kernel
theorem dX5_word_29 : decode cX5_word 29 = .ok (.iinc 2 1, 3) := by decide +kernel
theorem dX5_word_32 : decode cX5_word 32 = .ok (.goto (-25), 3) := by decide +kernel
theorem dX5_word_35 : decode cX5_word 35 = .ok (.return_, 1) := by decide +kernel
theorem dX5_number_0 : decode cX5_number 0 = .ok (.aload_n 0, 1) := by decide +kernel
theorem dX5_number_1 : decode cX5_number 1 = .ok (.invokevirtual 161, 3) := by decide +kernel
theorem dX5_number_4 : decode cX5_number 4 = .ok (.ifCond .ne 5, 3) := by decide +kernel
theorem dX5_number_7 : decode cX5_number 7 = .ok (.iconst 0, 1) := by decide +kernel
theorem dX5_number_8 : decode cX5_number 8 = .ok (.ireturn, 1) := by decide +kernel
theorem dX5_number_9 : decode cX5_number 9 = .ok (.aload_n 0, 1) := by decide +kernel
theorem dX5_number_10 : decode cX5_number 10 = .ok (.getfield 151, 3) := by decide +kernel
theorem dX5_number_13 : decode cX5_number 13 = .ok (.aload_n 0, 1) := by decide +kernel
theorem dX5_number_14 : decode cX5_number 14 = .ok (.getfield 148, 3) := by decide +kernel
theorem dX5_number_17 : decode cX5_number 17 = .ok (.if_icmp .ne 10, 3) := by decide +kernel
theorem dX5_number_20 : decode cX5_number 20 = .ok (.aload_n 0, 1) := by decide +kernel
theorem dX5_number_21 : decode cX5_number 21 = .ok (.iconst 1, 1) := by decide +kernel
theorem dX5_number_22 : decode cX5_number 22 = .ok (.putfield 157, 3) := by decide +kernel
theorem dX5_number_25 : decode cX5_number 25 = .ok (.iconst 0, 1) := by decide +kernel
theorem dX5_number_26 : decode cX5_number 26 = .ok (.ireturn, 1) := by decide +kernel
theorem dX5_number_27 : decode cX5_number 27 = .ok (.aload_n 0, 1) := by decide +kernel
theorem dX5_number_28 : decode cX5_number 28 = .ok (.invokevirtual 164, 3) := by decide +kernel
theorem dX5_number_31 : decode cX5_number 31 = .ok (.bipush 48, 2) := by decide +kernel
theorem dX5_number_33 : decode cX5_number 33 = .ok (.isub, 1) := by decide +kernel
theorem dX5_number_34 : decode cX5_number 34 = .ok (.istore_n 3, 1) := by decide +kernel
theorem dX5_number_35 : decode cX5_number 35 = .ok (.iload_n 3, 1) := by decide +kernel
theorem dX5_number_36 : decode cX5_number 36 = .ok (.iconst 0, 1) := by decide +kernel
theorem dX5_number_37 : decode cX5_number 37 = .ok (.bipush 9, 2) := by decide +kernel
theorem dX5_number_39 : decode cX5_number 39 = .ok (.invokestatic 39, 3) := by decide +kernel
theorem dX5_number_42 : decode cX5_number 42 = .ok (.ifCond .eq 17, 3) := by decide +kernel
theorem dX5_number_45 : decode cX5_number 45 = .ok (.iload_n 3, 1) := by decide +kernel
theorem dX5_number_46 : decode cX5_number 46 = .ok (.iload_n 1, 1) := by decide +kernel
theorem dX5_number_47 : decode cX5_number 47 = .ok (.if_icmp .ge 7, 3) := by decide +kernel
theorem dX5_number_50 : decode cX5_number 50 = .ok (.iload_n 3, 1) := by decide +kernel
theorem dX5_number_51 : decode cX5_number 51 = .ok (.ifCond .eq 8, 3) := by decide +kernel
theorem dX5_number_54 : decode cX5_number 54 = .ok (.iload_n 3, 1) := by decide +kernel
theorem dX5_number_55 : decode cX5_number 55 = .ok (.iload_n 2, 1) := by decide +kernel
theorem dX5_number_56 : decode cX5_number 56 = .ok (.if_icmp .le 11, 3) := by decide +kernel
theorem dX5_number_59 : decode cX5_number 59 = .ok (.aload_n 0, 1) := by decide +kernel
theorem dX5_number_60 : decode cX5_number 60 = .ok (.aload_n 0, 1) := by decide +kernel
theorem dX5_number_61 : decode cX5_number 61 = .ok (.getfield 151, 3) := by decide +kernel
theorem dX5_number_64 : decode cX5_number 64 = .ok (.putfield 154, 3) := by decide +kernel
theorem dX5_number_67 : decode cX5_number 67 = .ok (.aload_n 0, 1) := by decide +kernel
theorem dX5_number_68 : decode cX5_number 68 = .ok (.dup, 1) := by decide +kernel
theorem dX5_number_69 : decode cX5_number 69 = .ok (.getfield 151, 3) := by decide +kernel
theorem dX5_number_72 : decode cX5_number 72 = .ok (.iconst 1, 1) := by decide +kernel
theorem dX5_number_73 : decode cX5_number 73 = .ok (.iadd, 1) := by decide +kernel
theorem dX5_number_74 : decode cX5_number 74 = .ok (.putfield 151, 3) := by decide +kernel
theorem dX5_number_77 : decode cX5_number 77 = .ok (.aload_n 0, 1) := by decide +kernel
theorem dX5_number_78 : decode cX5_number 78 = .ok (.invokevirtual 164, 3) := by decide +kernel
theorem dX5_number_81 : decode cX5_number 81 = .ok (.bipush 48, 2) := by decide +kernel
theorem dX5_number_83 : decode cX5_number 83 = .ok (.isub, 1) := by decide +kernel
theorem dX5_number_84 : decode cX5_number 84 = .ok (.istore 4, 2) := by decide +kernel
theorem dX5_number_86 : decode cX5_number 86 = .ok (.aload_n 0, 1) := by decide +kernel
theorem dX5_number_87 : decode cX5_number 87 = .ok (.invokevirtual 161, 3) := by decide +kernel
theorem dX5_number_90 : decode cX5_number 90 = .ok (.ifCond .eq 59, 3) := by decide +kernel
theorem dX5_number_93 : decode cX5_number 93 = .ok (.iload_n 3, 1) := by decide +kernel
theorem dX5_number_94 : decode cX5_number 94 = .ok (.ifCond .le 55, 3) := by decide +kernel
theorem dX5_number_97 : decode cX5_number 97 = .ok (.iload 4, 2) := by decide +kernel
theorem dX5_number_99 : decode cX5_number 99 = .ok (.iconst 0, 1) := by decide +kernel
theorem dX5_number_100 : decode cX5_number 100 = .ok (.bipush 9, 2) := by decide +kernel
theorem dX5_number_102 : decode cX5_number 102 = .ok (.invokestatic 39, 3) := by decide +kernel
theorem dX5_number_105 : decode cX5_number 105 = .ok (.ifCond .eq 44, 3) := by decide +kernel
theorem dX5_number_108 : decode cX5_number 108 = .ok (.bipush 10, 2) := by decide +kernel
theorem dX5_number_110 : decode cX5_number 110 = .ok (.iload_n 3, 1) := by decide +kernel
theorem dX5_number_111 : decode cX5_number 111 = .ok (.imul, 1) := by decide +kernel
theorem dX5_number_112 : decode cX5_number 112 = .ok (.iload 4, 2) := by decide +kernel
theorem dX5_number_114 : decode cX5_number 114 = .ok (.iadd, 1) := by decide +kernel
theorem dX5_number_115 : decode cX5_number 115 = .ok (.iload_n 2, 1) := by decide +kernel
theorem dX5_number_116 : decode cX5_number 116 = .ok (.if_icmp .gt 33, 3) := by decide +kernel
theorem dX5_number_119 : decode cX5_number 119 = .ok (.bipush 10, 2) := by decide +kernel
theorem dX5_number_121 : decode cX5_number 121 = .ok (.iload_n 3, 1) := by decide +kernel
theorem dX5_number_122 : decode cX5_number 122 = .ok (.imul, 1) := by decide +kernel
theorem dX5_number_123 : decode cX5_number 123 = .ok (.iload 4, 2) := by decide +kernel
theorem dX5_number_125 : decode cX5_number 125 = .ok (.iadd, 1) := by decide +kernel
theorem dX5_number_126 : decode cX5_number 126 = .ok (.istore_n 3, 1) := by decide +kernel
theorem dX5_number_127 : decode cX5_number 127 = .ok (.aload_n 0, 1) := by decide +kernel
theorem dX5_number_128 : decode cX5_number 128 = .ok (.dup, 1) := by decide +kernel
theorem dX5_number_129 : decode cX5_number 129 = .ok (.getfield 151, 3) := by decide +kernel
theorem dX5_number_132 : decode cX5_number 132 = .ok (.iconst 1, 1) := by decide +kernel
theorem dX5_number_133 : decode cX5_number 133 = .ok (.iadd, 1) := by decide +kernel
theorem dX5_number_134 : decode cX5_number 134 = .ok (.putfield 151, 3) := by decide +kernel
theorem dX5_number_137 : decode cX5_number 137 = .ok (.aload_n 0, 1) := by decide +kernel
theorem dX5_number_138 : decode cX5_number 138 = .ok (.invokevirtual 164, 3) := by decide +kernel
theorem dX5_number_141 : decode cX5_number 141 = .ok (.bipush 48, 2) := by decide +kernel
theorem dX5_number_143 : decode cX5_number 143 = .ok (.isub, 1) := by decide +kernel
theorem dX5_number_144 : decode cX5_number 144 = .ok (.istore 4, 2) := by decide +kernel
theorem dX5_number_146 : decode cX5_number 146 = .ok (.goto (-60), 3) := by decide +kernel
theorem dX5_number_149 : decode cX5_number 149 = .ok (.iload_n 3, 1) := by decide +kernel
theorem dX5_number_150 : decode cX5_number 150 = .ok (.ireturn, 1) := by decide +kernel
theorem dX5_kindAt_0 : decode cX5_kindAt 0 = .ok (.aload_n 0, 1) := by decide +kernel
theorem dX5_kindAt_1 : decode cX5_kindAt 1 = .ok (.invokevirtual 164, 3) := by decide +kernel
theorem dX5_kindAt_4 : decode cX5_kindAt 4 = .ok (.istore_n 1, 1) := by decide +kernel
theorem dX5_kindAt_5 : decode cX5_kindAt 5 = .ok (.aload_n 0, 1) := by decide +kernel
theorem dX5_kindAt_6 : decode cX5_kindAt 6 = .ok (.dup, 1) := by decide +kernel
theorem dX5_kindAt_7 : decode cX5_kindAt 7 = .ok (.getfield 151, 3) := by decide +kernel
theorem dX5_kindAt_10 : decode cX5_kindAt 10 = .ok (.iconst 1, 1) := by decide +kernel
theorem dX5_kindAt_11 : decode cX5_kindAt 11 = .ok (.iadd, 1) := by decide +kernel
theorem dX5_kindAt_12 : decode cX5_kindAt 12 = .ok (.putfield 151, 3) := by decide +kernel
theorem dX5_kindAt_15 : decode cX5_kindAt 15 = .ok (.iload_n 1, 1) := by decide +kernel
theorem dX5_kindAt_16 : decode cX5_kindAt 16 = .ok (.bipush 112, 2) := by decide +kernel
theorem dX5_kindAt_18 : decode cX5_kindAt 18 = .ok (.if_icmp .ne 65, 3) := by decide +kernel
theorem dX5_kindAt_21 : decode cX5_kindAt 21 = .ok (.aload_n 0, 1) := by decide +kernel
theorem dX5_kindAt_22 : decode cX5_kindAt 22 = .ok (.invokevirtual 164, 3) := by decide +kernel
theorem dX5_kindAt_25 : decode cX5_kindAt 25 = .ok (.istore_n 2, 1) := by decide +kernel
theorem dX5_kindAt_26 : decode cX5_kindAt 26 = .ok (.aload_n 0, 1) := by decide +kernel
theorem dX5_kindAt_27 : decode cX5_kindAt 27 = .ok (.dup, 1) := by decide +kernel
theorem dX5_kindAt_28 : decode cX5_kindAt 28 = .ok (.getfield 151, 3) := by decide +kernel
theorem dX5_kindAt_31 : decode cX5_kindAt 31 = .ok (.iconst 1, 1) := by decide +kernel
theorem dX5_kindAt_32 : decode cX5_kindAt 32 = .ok (.iadd, 1) := by decide +kernel
theorem dX5_kindAt_33 : decode cX5_kindAt 33 = .ok (.putfield 151, 3) := by decide +kernel
theorem dX5_kindAt_36 : decode cX5_kindAt 36 = .ok (.iload_n 2, 1) := by decide +kernel
theorem dX5_kindAt_37 : decode cX5_kindAt 37 = .ok (.iconst (-1), 1) := by decide +kernel
theorem dX5_kindAt_38 : decode cX5_kindAt 38 = .ok (.if_icmp .ne 11, 3) := by decide +kernel
theorem dX5_kindAt_41 : decode cX5_kindAt 41 = .ok (.aload_n 0, 1) := by decide +kernel
theorem dX5_kindAt_42 : decode cX5_kindAt 42 = .ok (.iconst 1, 1) := by decide +kernel
theorem dX5_kindAt_43 : decode cX5_kindAt 43 = .ok (.putfield 157, 3) := by decide +kernel
theorem dX5_kindAt_46 : decode cX5_kindAt 46 = .ok (.goto 25, 3) := by decide +kernel
theorem dX5_kindAt_49 : decode cX5_kindAt 49 = .ok (.iload_n 2, 1) := by decide +kernel
theorem dX5_kindAt_50 : decode cX5_kindAt 50 = .ok (.bipush 117, 2) := by decide +kernel
theorem dX5_kindAt_52 : decode cX5_kindAt 52 = .ok (.if_icmp .eq 19, 3) := by decide +kernel
theorem dX5_kindAt_55 : decode cX5_kindAt 55 = .ok (.iload_n 2, 1) := by decide +kernel
theorem dX5_kindAt_56 : decode cX5_kindAt 56 = .ok (.bipush 97, 2) := by decide +kernel
theorem dX5_kindAt_58 : decode cX5_kindAt 58 = .ok (.if_icmp .eq 13, 3) := by decide +kernel
theorem dX5_kindAt_61 : decode cX5_kindAt 61 = .ok (.aload_n 0, 1) := by decide +kernel
theorem dX5_kindAt_62 : decode cX5_kindAt 62 = .ok (.aload_n 0, 1) := by decide +kernel
theorem dX5_kindAt_63 : decode cX5_kindAt 63 = .ok (.getfield 151, 3) := by decide +kernel
theorem dX5_kindAt_66 : decode cX5_kindAt 66 = .ok (.iconst 1, 1) := by decide +kernel
theorem dX5_kindAt_67 : decode cX5_kindAt 67 = .ok (.isub, 1) := by decide +kernel
theorem dX5_kindAt_68 : decode cX5_kindAt 68 = .ok (.putfield 154, 3) := by decide +kernel
theorem dX5_kindAt_71 : decode cX5_kindAt 71 = .ok (.iload_n 2, 1) := by decide +kernel
theorem dX5_kindAt_72 : decode cX5_kindAt 72 = .ok (.bipush 117, 2) := by decide +kernel
theorem dX5_kindAt_74 : decode cX5_kindAt 74 = .ok (.if_icmp .ne 7, 3) := by decide +kernel
theorem dX5_kindAt_77 : decode cX5_kindAt 77 = .ok (.iconst 0, 1) := by decide +kernel
theorem dX5_kindAt_78 : decode cX5_kindAt 78 = .ok (.goto 4, 3) := by decide +kernel
theorem dX5_kindAt_81 : decode cX5_kindAt 81 = .ok (.iconst 3, 1) := by decide +kernel
theorem dX5_kindAt_82 : decode cX5_kindAt 82 = .ok (.ireturn, 1) := by decide +kernel
theorem dX5_kindAt_83 : decode cX5_kindAt 83 = .ok (.iload_n 1, 1) := by decide +kernel
theorem dX5_kindAt_84 : decode cX5_kindAt 84 = .ok (.iconst (-1), 1) := by decide +kernel
theorem dX5_kindAt_85 : decode cX5_kindAt 85 = .ok (.if_icmp .ne 11, 3) := by decide +kernel
theorem dX5_kindAt_88 : decode cX5_kindAt 88 = .ok (.aload_n 0, 1) := by decide +kernel
theorem dX5_kindAt_89 : decode cX5_kindAt 89 = .ok (.iconst 1, 1) := by decide +kernel
theorem dX5_kindAt_90 : decode cX5_kindAt 90 = .ok (.putfield 157, 3) := by decide +kernel
theorem dX5_kindAt_93 : decode cX5_kindAt 93 = .ok (.goto 31, 3) := by decide +kernel
theorem dX5_kindAt_96 : decode cX5_kindAt 96 = .ok (.iload_n 1, 1) := by decide +kernel
theorem dX5_kindAt_97 : decode cX5_kindAt 97 = .ok (.bipush 108, 2) := by decide +kernel
theorem dX5_kindAt_99 : decode cX5_kindAt 99 = .ok (.if_icmp .eq 25, 3) := by decide +kernel
theorem dX5_kindAt_102 : decode cX5_kindAt 102 = .ok (.iload_n 1, 1) := by decide +kernel
theorem dX5_kindAt_103 : decode cX5_kindAt 103 = .ok (.bipush 104, 2) := by decide +kernel
theorem dX5_kindAt_105 : decode cX5_kindAt 105 = .ok (.if_icmp .eq 19, 3) := by decide +kernel
theorem dX5_kindAt_108 : decode cX5_kindAt 108 = .ok (.iload_n 1, 1) := by decide +kernel
theorem dX5_kindAt_109 : decode cX5_kindAt 109 = .ok (.bipush 102, 2) := by decide +kernel
theorem dX5_kindAt_111 : decode cX5_kindAt 111 = .ok (.if_icmp .eq 13, 3) := by decide +kernel
theorem dX5_kindAt_114 : decode cX5_kindAt 114 = .ok (.aload_n 0, 1) := by decide +kernel
theorem dX5_kindAt_115 : decode cX5_kindAt 115 = .ok (.aload_n 0, 1) := by decide +kernel
theorem dX5_kindAt_116 : decode cX5_kindAt 116 = .ok (.getfield 151, 3) := by decide +kernel
theorem dX5_kindAt_119 : decode cX5_kindAt 119 = .ok (.iconst 1, 1) := by decide +kernel
theorem dX5_kindAt_120 : decode cX5_kindAt 120 = .ok (.isub, 1) := by decide +kernel
theorem dX5_kindAt_121 : decode cX5_kindAt 121 = .ok (.putfield 154, 3) := by decide +kernel
theorem dX5_kindAt_124 : decode cX5_kindAt 124 = .ok (.iload_n 1, 1) := by decide +kernel
theorem dX5_kindAt_125 : decode cX5_kindAt 125 = .ok (.bipush 108, 2) := by decide +kernel
theorem dX5_kindAt_127 : decode cX5_kindAt 127 = .ok (.if_icmp .ne 7, 3) := by decide +kernel
theorem dX5_kindAt_130 : decode cX5_kindAt 130 = .ok (.iconst 1, 1) := by decide +kernel
theorem dX5_kindAt_131 : decode cX5_kindAt 131 = .ok (.goto 14, 3) := by decide +kernel
theorem dX5_kindAt_134 : decode cX5_kindAt 134 = .ok (.iload_n 1, 1) := by decide +kernel
theorem dX5_kindAt_135 : decode cX5_kindAt 135 = .ok (.bipush 104, 2) := by decide +kernel
theorem dX5_kindAt_137 : decode cX5_kindAt 137 = .ok (.if_icmp .ne 7, 3) := by decide +kernel
theorem dX5_kindAt_140 : decode cX5_kindAt 140 = .ok (.iconst 2, 1) := by decide +kernel
theorem dX5_kindAt_141 : decode cX5_kindAt 141 = .ok (.goto 4, 3) := by decide +kernel
theorem dX5_kindAt_144 : decode cX5_kindAt 144 = .ok (.iconst 4, 1) := by decide +kernel
theorem dX5_kindAt_145 : decode cX5_kindAt 145 = .ok (.ireturn, 1) := by decide +kernel
theorem dX5_order_0 : decode cX5_order 0 = .ok (.iconst 3, 1) := by decide +kernel
theorem dX5_order_1 : decode cX5_order 1 = .ok (.aload_n 0, 1) := by decide +kernel
theorem dX5_order_2 : decode cX5_order 2 = .ok (.getfield 171, 3) := by decide +kernel
theorem dX5_order_5 : decode cX5_order 5 = .ok (.imul, 1) := by decide +kernel
theorem dX5_order_6 : decode cX5_order 6 = .ok (.istore_n 1, 1) := by decide +kernel
theorem dX5_order_7 : decode cX5_order 7 = .ok (.aload_n 0, 1) := by decide +kernel
theorem dX5_order_8 : decode cX5_order 8 = .ok (.invokevirtual 174, 3) := by decide +kernel
theorem dX5_order_11 : decode cX5_order 11 = .ok (.istore_n 2, 1) := by decide +kernel
theorem dX5_order_12 : decode cX5_order 12 = .ok (.aload_n 0, 1) := by decide +kernel
theorem dX5_order_13 : decode cX5_order 13 = .ok (.iload_n 2, 1) := by decide +kernel
theorem dX5_order_14 : decode cX5_order 14 = .ok (.invokevirtual 177, 3) := by decide +kernel
theorem dX5_order_17 : decode cX5_order 17 = .ok (.aload_n 0, 1) := by decide +kernel
theorem dX5_order_18 : decode cX5_order 18 = .ok (.getfield 29, 3) := by decide +kernel
theorem dX5_order_21 : decode cX5_order 21 = .ok (.iload_n 1, 1) := by decide +kernel
theorem dX5_order_22 : decode cX5_order 22 = .ok (.iload_n 2, 1) := by decide +kernel
theorem dX5_order_23 : decode cX5_order 23 = .ok (.iastore, 1) := by decide +kernel
theorem dX5_order_24 : decode cX5_order 24 = .ok (.aload_n 0, 1) := by decide +kernel
theorem dX5_order_25 : decode cX5_order 25 = .ok (.getfield 29, 3) := by decide +kernel
theorem dX5_order_28 : decode cX5_order 28 = .ok (.iload_n 1, 1) := by decide +kernel
theorem dX5_order_29 : decode cX5_order 29 = .ok (.iconst 1, 1) := by decide +kernel
theorem dX5_order_30 : decode cX5_order 30 = .ok (.iadd, 1) := by decide +kernel
theorem dX5_order_31 : decode cX5_order 31 = .ok (.iload_n 2, 1) := by decide +kernel
theorem dX5_order_32 : decode cX5_order 32 = .ok (.ifCond .ne 13, 3) := by decide +kernel
theorem dX5_order_35 : decode cX5_order 35 = .ok (.aload_n 0, 1) := by decide +kernel
theorem dX5_order_36 : decode cX5_order 36 = .ok (.iconst 0, 1) := by decide +kernel
theorem dX5_order_37 : decode cX5_order 37 = .ok (.bipush 15, 2) := by decide +kernel
theorem dX5_order_39 : decode cX5_order 39 = .ok (.invokevirtual 181, 3) := by decide +kernel
theorem dX5_order_42 : decode cX5_order 42 = .ok (.goto 40, 3) := by decide +kernel
theorem dX5_order_45 : decode cX5_order 45 = .ok (.iload_n 2, 1) := by decide +kernel
theorem dX5_order_46 : decode cX5_order 46 = .ok (.iconst 2, 1) := by decide +kernel
theorem dX5_order_47 : decode cX5_order 47 = .ok (.if_icmp .ne 13, 3) := by decide +kernel
theorem dX5_order_50 : decode cX5_order 50 = .ok (.aload_n 0, 1) := by decide +kernel
theorem dX5_order_51 : decode cX5_order 51 = .ok (.iconst 1, 1) := by decide +kernel
theorem dX5_order_52 : decode cX5_order 52 = .ok (.bipush 9, 2) := by decide +kernel
theorem dX5_order_54 : decode cX5_order 54 = .ok (.invokevirtual 181, 3) := by decide +kernel
theorem dX5_order_57 : decode cX5_order 57 = .ok (.goto 25, 3) := by decide +kernel
theorem dX5_order_60 : decode cX5_order 60 = .ok (.iload_n 2, 1) := by decide +kernel
theorem dX5_order_61 : decode cX5_order 61 = .ok (.iconst 3, 1) := by decide +kernel
theorem dX5_order_62 : decode cX5_order 62 = .ok (.if_icmp .ne 13, 3) := by decide +kernel
theorem dX5_order_65 : decode cX5_order 65 = .ok (.aload_n 0, 1) := by decide +kernel
theorem dX5_order_66 : decode cX5_order 66 = .ok (.iconst 1, 1) := by decide +kernel
theorem dX5_order_67 : decode cX5_order 67 = .ok (.bipush 99, 2) := by decide +kernel
theorem dX5_order_69 : decode cX5_order 69 = .ok (.invokevirtual 181, 3) := by decide +kernel
theorem dX5_order_72 : decode cX5_order 72 = .ok (.goto 10, 3) := by decide +kernel
theorem dX5_order_75 : decode cX5_order 75 = .ok (.aload_n 0, 1) := by decide +kernel
theorem dX5_order_76 : decode cX5_order 76 = .ok (.iconst 0, 1) := by decide +kernel
theorem dX5_order_77 : decode cX5_order 77 = .ok (.bipush 19, 2) := by decide +kernel
theorem dX5_order_79 : decode cX5_order 79 = .ok (.invokevirtual 181, 3) := by decide +kernel
theorem dX5_order_82 : decode cX5_order 82 = .ok (.iastore, 1) := by decide +kernel
theorem dX5_order_83 : decode cX5_order 83 = .ok (.iload_n 2, 1) := by decide +kernel
theorem dX5_order_84 : decode cX5_order 84 = .ok (.ifCond .ne 24, 3) := by decide +kernel
theorem dX5_order_87 : decode cX5_order 87 = .ok (.aload_n 0, 1) := by decide +kernel
theorem dX5_order_88 : decode cX5_order 88 = .ok (.bipush 58, 2) := by decide +kernel
theorem dX5_order_90 : decode cX5_order 90 = .ok (.invokevirtual 167, 3) := by decide +kernel
theorem dX5_order_93 : decode cX5_order 93 = .ok (.aload_n 0, 1) := by decide +kernel
theorem dX5_order_94 : decode cX5_order 94 = .ok (.getfield 29, 3) := by decide +kernel
theorem dX5_order_97 : decode cX5_order 97 = .ok (.iload_n 1, 1) := by decide +kernel
theorem dX5_order_98 : decode cX5_order 98 = .ok (.iconst 2, 1) := by decide +kernel
theorem dX5_order_99 : decode cX5_order 99 = .ok (.iadd, 1) := by decide +kernel
theorem dX5_order_100 : decode cX5_order 100 = .ok (.aload_n 0, 1) := by decide +kernel
theorem dX5_order_101 : decode cX5_order 101 = .ok (.iconst 0, 1) := by decide +kernel
theorem dX5_order_102 : decode cX5_order 102 = .ok (.bipush 63, 2) := by decide +kernel
theorem dX5_order_104 : decode cX5_order 104 = .ok (.invokevirtual 181, 3) := by decide +kernel
theorem dX5_order_107 : decode cX5_order 107 = .ok (.iastore, 1) := by decide +kernel
theorem dX5_order_108 : decode cX5_order 108 = .ok (.aload_n 0, 1) := by decide +kernel
theorem dX5_order_109 : decode cX5_order 109 = .ok (.dup, 1) := by decide +kernel
theorem dX5_order_110 : decode cX5_order 110 = .ok (.getfield 171, 3) := by decide +kernel
theorem dX5_order_113 : decode cX5_order 113 = .ok (.iconst 1, 1) := by decide +kernel
theorem dX5_order_114 : decode cX5_order 114 = .ok (.iadd, 1) := by decide +kernel
theorem dX5_order_115 : decode cX5_order 115 = .ok (.putfield 171, 3) := by decide +kernel
theorem dX5_order_118 : decode cX5_order 118 = .ok (.return_, 1) := by decide +kernel
theorem dX5_readBuffer_0 : decode cX5_readBuffer 0 = .ok (.aload_n 0, 1) := by decide +kernel
theorem dX5_readBuffer_1 : decode cX5_readBuffer 1 = .ok (.iconst 0, 1) := by decide +kernel
theorem dX5_readBuffer_2 : decode cX5_readBuffer 2 = .ok (.putfield 171, 3) := by decide +kernel
theorem dX5_readBuffer_5 : decode cX5_readBuffer 5 = .ok (.aload_n 0, 1) := by decide +kernel
theorem dX5_readBuffer_6 : decode cX5_readBuffer 6 = .ok (.iconst 0, 1) := by decide +kernel
theorem dX5_readBuffer_7 : decode cX5_readBuffer 7 = .ok (.putfield 151, 3) := by decide +kernel
theorem dX5_readBuffer_10 : decode cX5_readBuffer 10 = .ok (.aload_n 0, 1) := by decide +kernel
theorem dX5_readBuffer_11 : decode cX5_readBuffer 11 = .ok (.iconst (-1), 1) := by decide +kernel
theorem dX5_readBuffer_12 : decode cX5_readBuffer 12 = .ok (.putfield 154, 3) := by decide +kernel
theorem dX5_readBuffer_15 : decode cX5_readBuffer 15 = .ok (.aload_n 0, 1) := by decide +kernel
theorem dX5_readBuffer_16 : decode cX5_readBuffer 16 = .ok (.iconst 0, 1) := by decide +kernel
theorem dX5_readBuffer_17 : decode cX5_readBuffer 17 = .ok (.putfield 157, 3) := by decide +kernel
theorem dX5_readBuffer_20 : decode cX5_readBuffer 20 = .ok (.iconst 1, 1) := by decide +kernel
theorem dX5_readBuffer_21 : decode cX5_readBuffer 21 = .ok (.istore_n 1, 1) := by decide +kernel
theorem dX5_readBuffer_22 : decode cX5_readBuffer 22 = .ok (.iload_n 1, 1) := by decide +kernel
theorem dX5_readBuffer_23 : decode cX5_readBuffer 23 = .ok (.ifCond .eq 49, 3) := by decide +kernel
theorem dX5_readBuffer_26 : decode cX5_readBuffer 26 = .ok (.aload_n 0, 1) := by decide +kernel
theorem dX5_readBuffer_27 : decode cX5_readBuffer 27 = .ok (.invokevirtual 184, 3) := by decide +kernel
theorem dX5_readBuffer_30 : decode cX5_readBuffer 30 = .ok (.aload_n 0, 1) := by decide +kernel
theorem dX5_readBuffer_31 : decode cX5_readBuffer 31 = .ok (.invokevirtual 161, 3) := by decide +kernel
theorem dX5_readBuffer_34 : decode cX5_readBuffer 34 = .ok (.ifCond .eq 18, 3) := by decide +kernel
theorem dX5_readBuffer_37 : decode cX5_readBuffer 37 = .ok (.aload_n 0, 1) := by decide +kernel
theorem dX5_readBuffer_38 : decode cX5_readBuffer 38 = .ok (.getfield 151, 3) := by decide +kernel
theorem dX5_readBuffer_41 : decode cX5_readBuffer 41 = .ok (.aload_n 0, 1) := by decide +kernel
theorem dX5_readBuffer_42 : decode cX5_readBuffer 42 = .ok (.getfield 148, 3) := by decide +kernel
theorem dX5_readBuffer_45 : decode cX5_readBuffer 45 = .ok (.if_icmp .ge 7, 3) := by decide +kernel
theorem dX5_readBuffer_48 : decode cX5_readBuffer 48 = .ok (.iconst 1, 1) := by decide +kernel
theorem dX5_readBuffer_49 : decode cX5_readBuffer 49 = .ok (.goto 4, 3) := by decide +kernel
theorem dX5_readBuffer_52 : decode cX5_readBuffer 52 = .ok (.iconst 0, 1) := by decide +kernel
theorem dX5_readBuffer_53 : decode cX5_readBuffer 53 = .ok (.istore_n 1, 1) := by decide +kernel
theorem dX5_readBuffer_54 : decode cX5_readBuffer 54 = .ok (.iload_n 1, 1) := by decide +kernel
theorem dX5_readBuffer_55 : decode cX5_readBuffer 55 = .ok (.ifCond .eq (-33), 3) := by decide +kernel
theorem dX5_readBuffer_58 : decode cX5_readBuffer 58 = .ok (.aload_n 0, 1) := by decide +kernel
theorem dX5_readBuffer_59 : decode cX5_readBuffer 59 = .ok (.bipush 59, 2) := by decide +kernel
theorem dX5_readBuffer_61 : decode cX5_readBuffer 61 = .ok (.invokevirtual 167, 3) := by decide +kernel
theorem dX5_readBuffer_64 : decode cX5_readBuffer 64 = .ok (.aload_n 0, 1) := by decide +kernel
theorem dX5_readBuffer_65 : decode cX5_readBuffer 65 = .ok (.invokevirtual 161, 3) := by decide +kernel
theorem dX5_readBuffer_68 : decode cX5_readBuffer 68 = .ok (.istore_n 1, 1) := by decide +kernel
theorem dX5_readBuffer_69 : decode cX5_readBuffer 69 = .ok (.goto (-47), 3) := by decide +kernel
theorem dX5_readBuffer_72 : decode cX5_readBuffer 72 = .ok (.return_, 1) := by decide +kernel
theorem dX5_firstError_0 : decode cX5_firstError 0 = .ok (.aload_n 0, 1) := by decide +kernel
theorem dX5_firstError_1 : decode cX5_firstError 1 = .ok (.iconst 0, 1) := by decide +kernel
theorem dX5_firstError_2 : decode cX5_firstError 2 = .ok (.putfield 35, 3) := by decide +kernel
theorem dX5_firstError_5 : decode cX5_firstError 5 = .ok (.aload_n 0, 1) := by decide +kernel
theorem dX5_firstError_6 : decode cX5_firstError 6 = .ok (.invokevirtual 187, 3) := by decide +kernel
theorem dX5_firstError_9 : decode cX5_firstError 9 = .ok (.aload_n 0, 1) := by decide +kernel
theorem dX5_firstError_10 : decode cX5_firstError 10 = .ok (.getfield 154, 3) := by decide +kernel
theorem dX5_firstError_13 : decode cX5_firstError 13 = .ok (.iconst (-1), 1) := by decide +kernel
theorem dX5_firstError_14 : decode cX5_firstError 14 = .ok (.if_icmp .ne 10, 3) := by decide +kernel
theorem dX5_firstError_17 : decode cX5_firstError 17 = .ok (.aload_n 0, 1) := by decide +kernel
theorem dX5_firstError_18 : decode cX5_firstError 18 = .ok (.getfield 148, 3) := by decide +kernel
theorem dX5_firstError_21 : decode cX5_firstError 21 = .ok (.goto 7, 3) := by decide +kernel
theorem dX5_firstError_24 : decode cX5_firstError 24 = .ok (.aload_n 0, 1) := by decide +kernel
theorem dX5_firstError_25 : decode cX5_firstError 25 = .ok (.getfield 154, 3) := by decide +kernel
theorem dX5_firstError_28 : decode cX5_firstError 28 = .ok (.ireturn, 1) := by decide +kernel
theorem dX5_does_0 : decode cX5_does 0 = .ok (.aload_n 0, 1) := by decide +kernel
theorem dX5_does_1 : decode cX5_does 1 = .ok (.getfield 29, 3) := by decide +kernel
theorem dX5_does_4 : decode cX5_does 4 = .ok (.iconst 3, 1) := by decide +kernel
theorem dX5_does_5 : decode cX5_does 5 = .ok (.iload_n 1, 1) := by decide +kernel
theorem dX5_does_6 : decode cX5_does 6 = .ok (.imul, 1) := by decide +kernel
theorem dX5_does_7 : decode cX5_does 7 = .ok (.iconst 1, 1) := by decide +kernel
theorem dX5_does_8 : decode cX5_does 8 = .ok (.iadd, 1) := by decide +kernel
theorem dX5_does_9 : decode cX5_does 9 = .ok (.iaload, 1) := by decide +kernel
theorem dX5_does_10 : decode cX5_does 10 = .ok (.istore_n 2, 1) := by decide +kernel
theorem dX5_does_11 : decode cX5_does 11 = .ok (.aload_n 0, 1) := by decide +kernel
theorem dX5_does_12 : decode cX5_does 12 = .ok (.getfield 29, 3) := by decide +kernel
theorem dX5_does_15 : decode cX5_does 15 = .ok (.iconst 3, 1) := by decide +kernel
theorem dX5_does_16 : decode cX5_does 16 = .ok (.iload_n 1, 1) := by decide +kernel
theorem dX5_does_17 : decode cX5_does 17 = .ok (.imul, 1) := by decide +kernel
theorem dX5_does_18 : decode cX5_does 18 = .ok (.iaload, 1) := by decide +kernel
theorem dX5_does_19 : decode cX5_does 19 = .ok (.tableswitch 127 0 3 #[29, 71, 91, 99], 29) := by decide +kernel
theorem dX5_does_48 : decode cX5_does 48 = .ok (.aload_n 0, 1) := by decide +kernel
theorem dX5_does_49 : decode cX5_does 49 = .ok (.iload_n 2, 1) := by decide +kernel
theorem dX5_does_50 : decode cX5_does 50 = .ok (.aload_n 0, 1) := by decide +kernel
theorem dX5_does_51 : decode cX5_does 51 = .ok (.getfield 29, 3) := by decide +kernel
theorem dX5_does_54 : decode cX5_does 54 = .ok (.iconst 3, 1) := by decide +kernel
theorem dX5_does_55 : decode cX5_does 55 = .ok (.iload_n 1, 1) := by decide +kernel
theorem dX5_does_56 : decode cX5_does 56 = .ok (.imul, 1) := by decide +kernel
theorem dX5_does_57 : decode cX5_does 57 = .ok (.iconst 2, 1) := by decide +kernel
theorem dX5_does_58 : decode cX5_does 58 = .ok (.iadd, 1) := by decide +kernel
theorem dX5_does_59 : decode cX5_does 59 = .ok (.iaload, 1) := by decide +kernel
theorem dX5_does_60 : decode cX5_does 60 = .ok (.invokevirtual 124, 3) := by decide +kernel
theorem dX5_does_63 : decode cX5_does 63 = .ok (.ifCond .le 5, 3) := by decide +kernel
theorem dX5_does_66 : decode cX5_does 66 = .ok (.iconst 0, 1) := by decide +kernel
theorem dX5_does_67 : decode cX5_does 67 = .ok (.ireturn, 1) := by decide +kernel
theorem dX5_does_68 : decode cX5_does 68 = .ok (.aload_n 0, 1) := by decide +kernel
theorem dX5_does_69 : decode cX5_does 69 = .ok (.aload_n 0, 1) := by decide +kernel
theorem dX5_does_70 : decode cX5_does 70 = .ok (.invokevirtual 120, 3) := by decide +kernel
theorem dX5_does_73 : decode cX5_does 73 = .ok (.iload_n 2, 1) := by decide +kernel
theorem dX5_does_74 : decode cX5_does 74 = .ok (.aload_n 0, 1) := by decide +kernel
theorem dX5_does_75 : decode cX5_does 75 = .ok (.getfield 29, 3) := by decide +kernel
theorem dX5_does_78 : decode cX5_does 78 = .ok (.iconst 3, 1) := by decide +kernel
theorem dX5_does_79 : decode cX5_does 79 = .ok (.iload_n 1, 1) := by decide +kernel
theorem dX5_does_80 : decode cX5_does 80 = .ok (.imul, 1) := by decide +kernel
theorem dX5_does_81 : decode cX5_does 81 = .ok (.iconst 2, 1) := by decide +kernel
theorem dX5_does_82 : decode cX5_does 82 = .ok (.iadd, 1) := by decide +kernel
theorem dX5_does_83 : decode cX5_does 83 = .ok (.iaload, 1) := by decide +kernel
theorem dX5_does_84 : decode cX5_does 84 = .ok (.invokevirtual 127, 3) := by decide +kernel
theorem dX5_does_87 : decode cX5_does 87 = .ok (.pop, 1) := by decide +kernel
theorem dX5_does_88 : decode cX5_does 88 = .ok (.iconst 1, 1) := by decide +kernel
theorem dX5_does_89 : decode cX5_does 89 = .ok (.ireturn, 1) := by decide +kernel
theorem dX5_does_90 : decode cX5_does 90 = .ok (.aload_n 0, 1) := by decide +kernel
theorem dX5_does_91 : decode cX5_does 91 = .ok (.iload_n 2, 1) := by decide +kernel
theorem dX5_does_92 : decode cX5_does 92 = .ok (.invokevirtual 130, 3) := by decide +kernel
theorem dX5_does_95 : decode cX5_does 95 = .ok (.ifCond .le 5, 3) := by decide +kernel
theorem dX5_does_98 : decode cX5_does 98 = .ok (.iconst 0, 1) := by decide +kernel
theorem dX5_does_99 : decode cX5_does 99 = .ok (.ireturn, 1) := by decide +kernel
theorem dX5_does_100 : decode cX5_does 100 = .ok (.aload_n 0, 1) := by decide +kernel
theorem dX5_does_101 : decode cX5_does 101 = .ok (.iload_n 2, 1) := by decide +kernel
theorem dX5_does_102 : decode cX5_does 102 = .ok (.bipush 15, 2) := by decide +kernel
theorem dX5_does_104 : decode cX5_does 104 = .ok (.iconst 3, 1) := by decide +kernel
theorem dX5_does_105 : decode cX5_does 105 = .ok (.invokevirtual 101, 3) := by decide +kernel
theorem dX5_does_108 : decode cX5_does 108 = .ok (.iconst 1, 1) := by decide +kernel
theorem dX5_does_109 : decode cX5_does 109 = .ok (.ireturn, 1) := by decide +kernel
theorem dX5_does_110 : decode cX5_does 110 = .ok (.aload_n 0, 1) := by decide +kernel
theorem dX5_does_111 : decode cX5_does 111 = .ok (.iload_n 2, 1) := by decide +kernel
theorem dX5_does_112 : decode cX5_does 112 = .ok (.invokevirtual 139, 3) := by decide +kernel
theorem dX5_does_115 : decode cX5_does 115 = .ok (.pop, 1) := by decide +kernel
theorem dX5_does_116 : decode cX5_does 116 = .ok (.iconst 1, 1) := by decide +kernel
theorem dX5_does_117 : decode cX5_does 117 = .ok (.ireturn, 1) := by decide +kernel
theorem dX5_does_118 : decode cX5_does 118 = .ok (.aload_n 0, 1) := by decide +kernel
theorem dX5_does_119 : decode cX5_does 119 = .ok (.getfield 7, 3) := by decide +kernel
theorem dX5_does_122 : decode cX5_does 122 = .ok (.iconst 0, 1) := by decide +kernel
theorem dX5_does_123 : decode cX5_does 123 = .ok (.iaload, 1) := by decide +kernel
theorem dX5_does_124 : decode cX5_does 124 = .ok (.iload_n 2, 1) := by decide +kernel
theorem dX5_does_125 : decode cX5_does 125 = .ok (.iadd, 1) := by decide +kernel
theorem dX5_does_126 : decode cX5_does 126 = .ok (.sipush 9999, 3) := by decide +kernel
theorem dX5_does_129 : decode cX5_does 129 = .ok (.if_icmp .le 5, 3) := by decide +kernel
theorem dX5_does_132 : decode cX5_does 132 = .ok (.iconst 0, 1) := by decide +kernel
theorem dX5_does_133 : decode cX5_does 133 = .ok (.ireturn, 1) := by decide +kernel
theorem dX5_does_134 : decode cX5_does 134 = .ok (.aload_n 0, 1) := by decide +kernel
theorem dX5_does_135 : decode cX5_does 135 = .ok (.getfield 7, 3) := by decide +kernel
theorem dX5_does_138 : decode cX5_does 138 = .ok (.iconst 0, 1) := by decide +kernel
theorem dX5_does_139 : decode cX5_does 139 = .ok (.dup2, 1) := by decide +kernel
theorem dX5_does_140 : decode cX5_does 140 = .ok (.iaload, 1) := by decide +kernel
theorem dX5_does_141 : decode cX5_does 141 = .ok (.iload_n 2, 1) := by decide +kernel
theorem dX5_does_142 : decode cX5_does 142 = .ok (.iadd, 1) := by decide +kernel
theorem dX5_does_143 : decode cX5_does 143 = .ok (.iastore, 1) := by decide +kernel
theorem dX5_does_144 : decode cX5_does 144 = .ok (.iconst 1, 1) := by decide +kernel
theorem dX5_does_145 : decode cX5_does 145 = .ok (.ireturn, 1) := by decide +kernel
theorem dX5_does_146 : decode cX5_does 146 = .ok (.aload_n 0, 1) := by decide +kernel
theorem dX5_does_147 : decode cX5_does 147 = .ok (.iload_n 2, 1) := by decide +kernel
theorem dX5_does_148 : decode cX5_does 148 = .ok (.invokevirtual 130, 3) := by decide +kernel
theorem dX5_does_151 : decode cX5_does 151 = .ok (.ifCond .le 5, 3) := by decide +kernel
theorem dX5_does_154 : decode cX5_does 154 = .ok (.iconst 0, 1) := by decide +kernel
theorem dX5_does_155 : decode cX5_does 155 = .ok (.ireturn, 1) := by decide +kernel
theorem dX5_does_156 : decode cX5_does 156 = .ok (.aload_n 0, 1) := by decide +kernel
theorem dX5_does_157 : decode cX5_does 157 = .ok (.iload_n 2, 1) := by decide +kernel
theorem dX5_does_158 : decode cX5_does 158 = .ok (.invokevirtual 136, 3) := by decide +kernel
theorem dX5_does_161 : decode cX5_does 161 = .ok (.pop, 1) := by decide +kernel
theorem dX5_does_162 : decode cX5_does 162 = .ok (.iconst 1, 1) := by decide +kernel
theorem dX5_does_163 : decode cX5_does 163 = .ok (.ireturn, 1) := by decide +kernel
theorem dX5_run_0 : decode cX5_run 0 = .ok (.aload_n 0, 1) := by decide +kernel
theorem dX5_run_1 : decode cX5_run 1 = .ok (.invokevirtual 187, 3) := by decide +kernel
theorem dX5_run_4 : decode cX5_run 4 = .ok (.aload_n 0, 1) := by decide +kernel
theorem dX5_run_5 : decode cX5_run 5 = .ok (.aload_n 0, 1) := by decide +kernel
theorem dX5_run_6 : decode cX5_run 6 = .ok (.invokevirtual 161, 3) := by decide +kernel
theorem dX5_run_9 : decode cX5_run 9 = .ok (.ifCond .eq 7, 3) := by decide +kernel
theorem dX5_run_12 : decode cX5_run 12 = .ok (.iconst 0, 1) := by decide +kernel
theorem dX5_run_13 : decode cX5_run 13 = .ok (.goto 4, 3) := by decide +kernel
theorem dX5_run_16 : decode cX5_run 16 = .ok (.iconst 1, 1) := by decide +kernel
theorem dX5_run_17 : decode cX5_run 17 = .ok (.putfield 35, 3) := by decide +kernel
theorem dX5_run_20 : decode cX5_run 20 = .ok (.aload_n 0, 1) := by decide +kernel
theorem dX5_run_21 : decode cX5_run 21 = .ok (.getfield 35, 3) := by decide +kernel
theorem dX5_run_24 : decode cX5_run 24 = .ok (.ifCond .le 5, 3) := by decide +kernel
theorem dX5_run_27 : decode cX5_run 27 = .ok (.iconst 0, 1) := by decide +kernel
theorem dX5_run_28 : decode cX5_run 28 = .ok (.ireturn, 1) := by decide +kernel
theorem dX5_run_29 : decode cX5_run 29 = .ok (.aload_n 0, 1) := by decide +kernel
theorem dX5_run_30 : decode cX5_run 30 = .ok (.invokevirtual 98, 3) := by decide +kernel
theorem dX5_run_33 : decode cX5_run 33 = .ok (.iconst 0, 1) := by decide +kernel
theorem dX5_run_34 : decode cX5_run 34 = .ok (.istore_n 1, 1) := by decide +kernel
theorem dX5_run_35 : decode cX5_run 35 = .ok (.iload_n 1, 1) := by decide +kernel
theorem dX5_run_36 : decode cX5_run 36 = .ok (.aload_n 0, 1) := by decide +kernel
theorem dX5_run_37 : decode cX5_run 37 = .ok (.getfield 171, 3) := by decide +kernel
theorem dX5_run_40 : decode cX5_run 40 = .ok (.if_icmp .ge 17, 3) := by decide +kernel
theorem dX5_run_43 : decode cX5_run 43 = .ok (.aload_n 0, 1) := by decide +kernel
theorem dX5_run_44 : decode cX5_run 44 = .ok (.iload_n 1, 1) := by decide +kernel
theorem dX5_run_45 : decode cX5_run 45 = .ok (.invokevirtual 190, 3) := by decide +kernel
theorem dX5_run_48 : decode cX5_run 48 = .ok (.ifCond .eq 9, 3) := by decide +kernel
theorem dX5_run_51 : decode cX5_run 51 = .ok (.iinc 1 1, 3) := by decide +kernel
theorem dX5_run_54 : decode cX5_run 54 = .ok (.goto (-19), 3) := by decide +kernel
theorem dX5_run_57 : decode cX5_run 57 = .ok (.aload_n 0, 1) := by decide +kernel
theorem dX5_run_58 : decode cX5_run 58 = .ok (.iconst 0, 1) := by decide +kernel
theorem dX5_run_59 : decode cX5_run 59 = .ok (.putfield 148, 3) := by decide +kernel
theorem dX5_run_62 : decode cX5_run 62 = .ok (.iload_n 1, 1) := by decide +kernel
theorem dX5_run_63 : decode cX5_run 63 = .ok (.ireturn, 1) := by decide +kernel
theorem dX5_fuse_0 : decode cX5_fuse 0 = .ok (.aload_n 0, 1) := by decide +kernel
theorem dX5_fuse_1 : decode cX5_fuse 1 = .ok (.iload_n 1, 1) := by decide +kernel
theorem dX5_fuse_2 : decode cX5_fuse 2 = .ok (.invokestatic 91, 3) := by decide +kernel
theorem dX5_fuse_5 : decode cX5_fuse 5 = .ok (.ifCond .eq 13, 3) := by decide +kernel
theorem dX5_fuse_8 : decode cX5_fuse 8 = .ok (.iload_n 2, 1) := by decide +kernel
theorem dX5_fuse_9 : decode cX5_fuse 9 = .ok (.iconst 0, 1) := by decide +kernel
theorem dX5_fuse_10 : decode cX5_fuse 10 = .ok (.bipush 15, 2) := by decide +kernel
theorem dX5_fuse_12 : decode cX5_fuse 12 = .ok (.invokestatic 39, 3) := by decide +kernel
theorem dX5_fuse_15 : decode cX5_fuse 15 = .ok (.ifCond .ne 7, 3) := by decide +kernel
theorem dX5_fuse_18 : decode cX5_fuse 18 = .ok (.iconst 1, 1) := by decide +kernel
theorem dX5_fuse_19 : decode cX5_fuse 19 = .ok (.goto 17, 3) := by decide +kernel
theorem dX5_fuse_22 : decode cX5_fuse 22 = .ok (.iload_n 3, 1) := by decide +kernel
theorem dX5_fuse_23 : decode cX5_fuse 23 = .ok (.iconst 0, 1) := by decide +kernel
theorem dX5_fuse_24 : decode cX5_fuse 24 = .ok (.iconst 2, 1) := by decide +kernel
theorem dX5_fuse_25 : decode cX5_fuse 25 = .ok (.invokestatic 39, 3) := by decide +kernel
theorem dX5_fuse_28 : decode cX5_fuse 28 = .ok (.ifCond .eq 7, 3) := by decide +kernel
theorem dX5_fuse_31 : decode cX5_fuse 31 = .ok (.iconst 0, 1) := by decide +kernel
theorem dX5_fuse_32 : decode cX5_fuse 32 = .ok (.goto 4, 3) := by decide +kernel
theorem dX5_fuse_35 : decode cX5_fuse 35 = .ok (.iconst 2, 1) := by decide +kernel
theorem dX5_fuse_36 : decode cX5_fuse 36 = .ok (.putfield 35, 3) := by decide +kernel
theorem dX5_fuse_39 : decode cX5_fuse 39 = .ok (.aload_n 0, 1) := by decide +kernel
theorem dX5_fuse_40 : decode cX5_fuse 40 = .ok (.getfield 35, 3) := by decide +kernel
theorem dX5_fuse_43 : decode cX5_fuse 43 = .ok (.ifCond .le 5, 3) := by decide +kernel
theorem dX5_fuse_46 : decode cX5_fuse 46 = .ok (.iconst 0, 1) := by decide +kernel
theorem dX5_fuse_47 : decode cX5_fuse 47 = .ok (.ireturn, 1) := by decide +kernel
theorem dX5_fuse_48 : decode cX5_fuse 48 = .ok (.iload_n 3, 1) := by decide +kernel
theorem dX5_fuse_49 : decode cX5_fuse 49 = .ok (.ifCond .ne 12, 3) := by decide +kernel
theorem dX5_fuse_52 : decode cX5_fuse 52 = .ok (.aload_n 0, 1) := by decide +kernel
theorem dX5_fuse_53 : decode cX5_fuse 53 = .ok (.iload_n 1, 1) := by decide +kernel
theorem dX5_fuse_54 : decode cX5_fuse 54 = .ok (.iload_n 2, 1) := by decide +kernel
theorem dX5_fuse_55 : decode cX5_fuse 55 = .ok (.invokevirtual 46, 3) := by decide +kernel
theorem dX5_fuse_58 : decode cX5_fuse 58 = .ok (.goto 25, 3) := by decide +kernel
theorem dX5_fuse_61 : decode cX5_fuse 61 = .ok (.aload_n 0, 1) := by decide +kernel
theorem dX5_fuse_62 : decode cX5_fuse 62 = .ok (.iload_n 1, 1) := by decide +kernel
theorem dX5_fuse_63 : decode cX5_fuse 63 = .ok (.iload_n 2, 1) := by decide +kernel
theorem dX5_fuse_64 : decode cX5_fuse 64 = .ok (.aload_n 0, 1) := by decide +kernel
theorem dX5_fuse_65 : decode cX5_fuse 65 = .ok (.getfield 7, 3) := by decide +kernel
theorem dX5_fuse_68 : decode cX5_fuse 68 = .ok (.iconst 0, 1) := by decide +kernel
theorem dX5_fuse_69 : decode cX5_fuse 69 = .ok (.iaload, 1) := by decide +kernel
theorem dX5_fuse_70 : decode cX5_fuse 70 = .ok (.iload_n 3, 1) := by decide +kernel
theorem dX5_fuse_71 : decode cX5_fuse 71 = .ok (.iconst 2, 1) := by decide +kernel
theorem dX5_fuse_72 : decode cX5_fuse 72 = .ok (.if_icmp .ne 7, 3) := by decide +kernel
theorem dX5_fuse_75 : decode cX5_fuse 75 = .ok (.iconst 1, 1) := by decide +kernel
theorem dX5_fuse_76 : decode cX5_fuse 76 = .ok (.goto 4, 3) := by decide +kernel
theorem dX5_fuse_79 : decode cX5_fuse 79 = .ok (.iconst 0, 1) := by decide +kernel
theorem dX5_fuse_80 : decode cX5_fuse 80 = .ok (.invokevirtual 57, 3) := by decide +kernel
theorem dX5_fuse_83 : decode cX5_fuse 83 = .ok (.ireturn, 1) := by decide +kernel
theorem dX5_doubtful_0 : decode cX5_doubtful 0 = .ok (.iconst 0, 1) := by decide +kernel
theorem dX5_doubtful_1 : decode cX5_doubtful 1 = .ok (.istore_n 2, 1) := by decide +kernel
theorem dX5_doubtful_2 : decode cX5_doubtful 2 = .ok (.iconst 0, 1) := by decide +kernel
theorem dX5_doubtful_3 : decode cX5_doubtful 3 = .ok (.istore_n 3, 1) := by decide +kernel
theorem dX5_doubtful_4 : decode cX5_doubtful 4 = .ok (.iload_n 3, 1) := by decide +kernel
theorem dX5_doubtful_5 : decode cX5_doubtful 5 = .ok (.bipush 16, 2) := by decide +kernel
theorem dX5_doubtful_7 : decode cX5_doubtful 7 = .ok (.if_icmp .ge 31, 3) := by decide +kernel
theorem dX5_doubtful_10 : decode cX5_doubtful 10 = .ok (.iload_n 2, 1) := by decide +kernel
theorem dX5_doubtful_11 : decode cX5_doubtful 11 = .ok (.aload_n 0, 1) := by decide +kernel
theorem dX5_doubtful_12 : decode cX5_doubtful 12 = .ok (.iload_n 1, 1) := by decide +kernel
theorem dX5_doubtful_13 : decode cX5_doubtful 13 = .ok (.iload_n 3, 1) := by decide +kernel
theorem dX5_doubtful_14 : decode cX5_doubtful 14 = .ok (.invokevirtual 46, 3) := by decide +kernel
theorem dX5_doubtful_17 : decode cX5_doubtful 17 = .ok (.iconst 1, 1) := by decide +kernel
theorem dX5_doubtful_18 : decode cX5_doubtful 18 = .ok (.iconst 2, 1) := by decide +kernel
theorem dX5_doubtful_19 : decode cX5_doubtful 19 = .ok (.invokestatic 39, 3) := by decide +kernel
theorem dX5_doubtful_22 : decode cX5_doubtful 22 = .ok (.ifCond .eq 7, 3) := by decide +kernel
theorem dX5_doubtful_25 : decode cX5_doubtful 25 = .ok (.iconst 1, 1) := by decide +kernel
theorem dX5_doubtful_26 : decode cX5_doubtful 26 = .ok (.goto 4, 3) := by decide +kernel
theorem dX5_doubtful_29 : decode cX5_doubtful 29 = .ok (.iconst 0, 1) := by decide +kernel
theorem dX5_doubtful_30 : decode cX5_doubtful 30 = .ok (.iadd, 1) := by decide +kernel
theorem dX5_doubtful_31 : decode cX5_doubtful 31 = .ok (.istore_n 2, 1) := by decide +kernel
theorem dX5_doubtful_32 : decode cX5_doubtful 32 = .ok (.iinc 3 1, 3) := by decide +kernel
theorem dX5_doubtful_35 : decode cX5_doubtful 35 = .ok (.goto (-31), 3) := by decide +kernel
theorem dX5_doubtful_38 : decode cX5_doubtful 38 = .ok (.iload_n 2, 1) := by decide +kernel
theorem dX5_doubtful_39 : decode cX5_doubtful 39 = .ok (.ireturn, 1) := by decide +kernel
theorem dX5_strengths_0 : decode cX5_strengths 0 = .ok (.iconst 0, 1) := by decide +kernel
theorem dX5_strengths_1 : decode cX5_strengths 1 = .ok (.istore_n 2, 1) := by decide +kernel
theorem dX5_strengths_2 : decode cX5_strengths 2 = .ok (.iconst 0, 1) := by decide +kernel
theorem dX5_strengths_3 : decode cX5_strengths 3 = .ok (.istore_n 3, 1) := by decide +kernel
theorem dX5_strengths_4 : decode cX5_strengths 4 = .ok (.iload_n 3, 1) := by decide +kernel
theorem dX5_strengths_5 : decode cX5_strengths 5 = .ok (.bipush 16, 2) := by decide +kernel
theorem dX5_strengths_7 : decode cX5_strengths 7 = .ok (.if_icmp .ge 18, 3) := by decide +kernel
theorem dX5_strengths_10 : decode cX5_strengths 10 = .ok (.iload_n 2, 1) := by decide +kernel
theorem dX5_strengths_11 : decode cX5_strengths 11 = .ok (.aload_n 0, 1) := by decide +kernel
theorem dX5_strengths_12 : decode cX5_strengths 12 = .ok (.iload_n 1, 1) := by decide +kernel
theorem dX5_strengths_13 : decode cX5_strengths 13 = .ok (.iload_n 3, 1) := by decide +kernel
theorem dX5_strengths_14 : decode cX5_strengths 14 = .ok (.invokevirtual 46, 3) := by decide +kernel
theorem dX5_strengths_17 : decode cX5_strengths 17 = .ok (.iadd, 1) := by decide +kernel
theorem dX5_strengths_18 : decode cX5_strengths 18 = .ok (.istore_n 2, 1) := by decide +kernel
theorem dX5_strengths_19 : decode cX5_strengths 19 = .ok (.iinc 3 1, 3) := by decide +kernel
theorem dX5_strengths_22 : decode cX5_strengths 22 = .ok (.goto (-18), 3) := by decide +kernel
theorem dX5_strengths_25 : decode cX5_strengths 25 = .ok (.iload_n 2, 1) := by decide +kernel
theorem dX5_strengths_26 : decode cX5_strengths 26 = .ok (.ireturn, 1) := by decide +kernel
theorem dX5_toldRow_0 : decode cX5_toldRow 0 = .ok (.aload_n 0, 1) := by decide +kernel
theorem dX5_toldRow_1 : decode cX5_toldRow 1 = .ok (.iload_n 1, 1) := by decide +kernel
theorem dX5_toldRow_2 : decode cX5_toldRow 2 = .ok (.invokevirtual 105, 3) := by decide +kernel
theorem dX5_toldRow_5 : decode cX5_toldRow 5 = .ok (.istore_n 3, 1) := by decide +kernel
theorem dX5_toldRow_6 : decode cX5_toldRow 6 = .ok (.iload_n 2, 1) := by decide +kernel
theorem dX5_toldRow_7 : decode cX5_toldRow 7 = .ok (.tableswitch 95 0 7 #[45, 47, 52, 57, 62, 70, 75, 81], 45) := by decide +kernel
theorem dX5_toldRow_52 : decode cX5_toldRow 52 = .ok (.iload_n 3, 1) := by decide +kernel
theorem dX5_toldRow_53 : decode cX5_toldRow 53 = .ok (.ireturn, 1) := by decide +kernel
theorem dX5_toldRow_54 : decode cX5_toldRow 54 = .ok (.iload_n 3, 1) := by decide +kernel
theorem dX5_toldRow_55 : decode cX5_toldRow 55 = .ok (.invokestatic 76, 3) := by decide +kernel
theorem dX5_toldRow_58 : decode cX5_toldRow 58 = .ok (.ireturn, 1) := by decide +kernel
theorem dX5_toldRow_59 : decode cX5_toldRow 59 = .ok (.iload_n 3, 1) := by decide +kernel
theorem dX5_toldRow_60 : decode cX5_toldRow 60 = .ok (.invokestatic 79, 3) := by decide +kernel
theorem dX5_toldRow_63 : decode cX5_toldRow 63 = .ok (.ireturn, 1) := by decide +kernel
theorem dX5_toldRow_64 : decode cX5_toldRow 64 = .ok (.iload_n 3, 1) := by decide +kernel
theorem dX5_toldRow_65 : decode cX5_toldRow 65 = .ok (.invokestatic 85, 3) := by decide +kernel
theorem dX5_toldRow_68 : decode cX5_toldRow 68 = .ok (.ireturn, 1) := by decide +kernel
theorem dX5_toldRow_69 : decode cX5_toldRow 69 = .ok (.iload_n 3, 1) := by decide +kernel
theorem dX5_toldRow_70 : decode cX5_toldRow 70 = .ok (.bipush 10, 2) := by decide +kernel
theorem dX5_toldRow_72 : decode cX5_toldRow 72 = .ok (.ishr, 1) := by decide +kernel
theorem dX5_toldRow_73 : decode cX5_toldRow 73 = .ok (.bipush 15, 2) := by decide +kernel
theorem dX5_toldRow_75 : decode cX5_toldRow 75 = .ok (.iand, 1) := by decide +kernel
theorem dX5_toldRow_76 : decode cX5_toldRow 76 = .ok (.ireturn, 1) := by decide +kernel
theorem dX5_toldRow_77 : decode cX5_toldRow 77 = .ok (.iload_n 3, 1) := by decide +kernel
theorem dX5_toldRow_78 : decode cX5_toldRow 78 = .ok (.invokestatic 73, 3) := by decide +kernel
theorem dX5_toldRow_81 : decode cX5_toldRow 81 = .ok (.ireturn, 1) := by decide +kernel
theorem dX5_toldRow_82 : decode cX5_toldRow 82 = .ok (.aload_n 0, 1) := by decide +kernel
theorem dX5_toldRow_83 : decode cX5_toldRow 83 = .ok (.iload_n 1, 1) := by decide +kernel
theorem dX5_toldRow_84 : decode cX5_toldRow 84 = .ok (.invokevirtual 193, 3) := by decide +kernel
theorem dX5_toldRow_87 : decode cX5_toldRow 87 = .ok (.ireturn, 1) := by decide +kernel
theorem dX5_toldRow_88 : decode cX5_toldRow 88 = .ok (.aload_n 0, 1) := by decide +kernel
theorem dX5_toldRow_89 : decode cX5_toldRow 89 = .ok (.iload_n 1, 1) := by decide +kernel
theorem dX5_toldRow_90 : decode cX5_toldRow 90 = .ok (.invokevirtual 95, 3) := by decide +kernel
theorem dX5_toldRow_93 : decode cX5_toldRow 93 = .ok (.ifCond .eq 7, 3) := by decide +kernel
theorem dX5_toldRow_96 : decode cX5_toldRow 96 = .ok (.iconst 1, 1) := by decide +kernel
theorem dX5_toldRow_97 : decode cX5_toldRow 97 = .ok (.goto 4, 3) := by decide +kernel
theorem dX5_toldRow_100 : decode cX5_toldRow 100 = .ok (.iconst 0, 1) := by decide +kernel
theorem dX5_toldRow_101 : decode cX5_toldRow 101 = .ok (.ireturn, 1) := by decide +kernel
theorem dX5_toldRow_102 : decode cX5_toldRow 102 = .ok (.aload_n 0, 1) := by decide +kernel
theorem dX5_toldRow_103 : decode cX5_toldRow 103 = .ok (.iload_n 1, 1) := by decide +kernel
theorem dX5_toldRow_104 : decode cX5_toldRow 104 = .ok (.invokevirtual 196, 3) := by decide +kernel
theorem dX5_toldRow_107 : decode cX5_toldRow 107 = .ok (.ireturn, 1) := by decide +kernel
theorem dX5_row_0 : decode cX5_row 0 = .ok (.aload_n 0, 1) := by decide +kernel
theorem dX5_row_1 : decode cX5_row 1 = .ok (.iload_n 1, 1) := by decide +kernel
theorem dX5_row_2 : decode cX5_row 2 = .ok (.invokestatic 91, 3) := by decide +kernel
theorem dX5_row_5 : decode cX5_row 5 = .ok (.ifCond .ne 7, 3) := by decide +kernel
theorem dX5_row_8 : decode cX5_row 8 = .ok (.iconst 1, 1) := by decide +kernel
theorem dX5_row_9 : decode cX5_row 9 = .ok (.goto 18, 3) := by decide +kernel
theorem dX5_row_12 : decode cX5_row 12 = .ok (.iload_n 2, 1) := by decide +kernel
theorem dX5_row_13 : decode cX5_row 13 = .ok (.iconst 0, 1) := by decide +kernel
theorem dX5_row_14 : decode cX5_row 14 = .ok (.bipush 8, 2) := by decide +kernel
theorem dX5_row_16 : decode cX5_row 16 = .ok (.invokestatic 39, 3) := by decide +kernel
theorem dX5_row_19 : decode cX5_row 19 = .ok (.ifCond .eq 7, 3) := by decide +kernel
theorem dX5_row_22 : decode cX5_row 22 = .ok (.iconst 0, 1) := by decide +kernel
theorem dX5_row_23 : decode cX5_row 23 = .ok (.goto 4, 3) := by decide +kernel
theorem dX5_row_26 : decode cX5_row 26 = .ok (.iconst 2, 1) := by decide +kernel
theorem dX5_row_27 : decode cX5_row 27 = .ok (.putfield 35, 3) := by decide +kernel
theorem dX5_row_30 : decode cX5_row 30 = .ok (.aload_n 0, 1) := by decide +kernel
theorem dX5_row_31 : decode cX5_row 31 = .ok (.getfield 35, 3) := by decide +kernel
theorem dX5_row_34 : decode cX5_row 34 = .ok (.ifCond .le 7, 3) := by decide +kernel
theorem dX5_row_37 : decode cX5_row 37 = .ok (.iconst 0, 1) := by decide +kernel
theorem dX5_row_38 : decode cX5_row 38 = .ok (.goto 9, 3) := by decide +kernel
theorem dX5_row_41 : decode cX5_row 41 = .ok (.aload_n 0, 1) := by decide +kernel
theorem dX5_row_42 : decode cX5_row 42 = .ok (.iload_n 1, 1) := by decide +kernel
theorem dX5_row_43 : decode cX5_row 43 = .ok (.iload_n 2, 1) := by decide +kernel
theorem dX5_row_44 : decode cX5_row 44 = .ok (.invokevirtual 199, 3) := by decide +kernel
theorem dX5_row_47 : decode cX5_row 47 = .ok (.ireturn, 1) := by decide +kernel
theorem dX5_isRowOf_0 : decode cX5_isRowOf 0 = .ok (.aload_n 0, 1) := by decide +kernel
theorem dX5_isRowOf_1 : decode cX5_isRowOf 1 = .ok (.iload_n 2, 1) := by decide +kernel
theorem dX5_isRowOf_2 : decode cX5_isRowOf 2 = .ok (.invokevirtual 105, 3) := by decide +kernel
theorem dX5_isRowOf_5 : decode cX5_isRowOf 5 = .ok (.istore_n 3, 1) := by decide +kernel
theorem dX5_isRowOf_6 : decode cX5_isRowOf 6 = .ok (.iload_n 3, 1) := by decide +kernel
theorem dX5_isRowOf_7 : decode cX5_isRowOf 7 = .ok (.invokestatic 76, 3) := by decide +kernel
theorem dX5_isRowOf_10 : decode cX5_isRowOf 10 = .ok (.istore 4, 2) := by decide +kernel
theorem dX5_isRowOf_12 : decode cX5_isRowOf 12 = .ok (.iload_n 3, 1) := by decide +kernel
theorem dX5_isRowOf_13 : decode cX5_isRowOf 13 = .ok (.invokestatic 79, 3) := by decide +kernel
theorem dX5_isRowOf_16 : decode cX5_isRowOf 16 = .ok (.iload_n 1, 1) := by decide +kernel
theorem dX5_isRowOf_17 : decode cX5_isRowOf 17 = .ok (.if_icmp .ne 19, 3) := by decide +kernel
theorem dX5_isRowOf_20 : decode cX5_isRowOf 20 = .ok (.iload 4, 2) := by decide +kernel
theorem dX5_isRowOf_22 : decode cX5_isRowOf 22 = .ok (.iconst 4, 1) := by decide +kernel
theorem dX5_isRowOf_23 : decode cX5_isRowOf 23 = .ok (.if_icmp .eq 9, 3) := by decide +kernel
theorem dX5_isRowOf_26 : decode cX5_isRowOf 26 = .ok (.iload 4, 2) := by decide +kernel
theorem dX5_isRowOf_28 : decode cX5_isRowOf 28 = .ok (.iconst 2, 1) := by decide +kernel
theorem dX5_isRowOf_29 : decode cX5_isRowOf 29 = .ok (.if_icmp .ne 7, 3) := by decide +kernel
theorem dX5_isRowOf_32 : decode cX5_isRowOf 32 = .ok (.iconst 1, 1) := by decide +kernel
theorem dX5_isRowOf_33 : decode cX5_isRowOf 33 = .ok (.goto 4, 3) := by decide +kernel
theorem dX5_isRowOf_36 : decode cX5_isRowOf 36 = .ok (.iconst 0, 1) := by decide +kernel
theorem dX5_isRowOf_37 : decode cX5_isRowOf 37 = .ok (.ireturn, 1) := by decide +kernel
theorem dX5_entriesOf_0 : decode cX5_entriesOf 0 = .ok (.iconst 0, 1) := by decide +kernel
theorem dX5_entriesOf_1 : decode cX5_entriesOf 1 = .ok (.istore_n 2, 1) := by decide +kernel
theorem dX5_entriesOf_2 : decode cX5_entriesOf 2 = .ok (.iconst 0, 1) := by decide +kernel
theorem dX5_entriesOf_3 : decode cX5_entriesOf 3 = .ok (.istore_n 3, 1) := by decide +kernel
theorem dX5_entriesOf_4 : decode cX5_entriesOf 4 = .ok (.iload_n 3, 1) := by decide +kernel
theorem dX5_entriesOf_5 : decode cX5_entriesOf 5 = .ok (.bipush 20, 2) := by decide +kernel
theorem dX5_entriesOf_7 : decode cX5_entriesOf 7 = .ok (.if_icmp .ge 38, 3) := by decide +kernel
theorem dX5_entriesOf_10 : decode cX5_entriesOf 10 = .ok (.iload_n 2, 1) := by decide +kernel
theorem dX5_entriesOf_11 : decode cX5_entriesOf 11 = .ok (.aload_n 0, 1) := by decide +kernel
theorem dX5_entriesOf_12 : decode cX5_entriesOf 12 = .ok (.iload_n 1, 1) := by decide +kernel
theorem dX5_entriesOf_13 : decode cX5_entriesOf 13 = .ok (.iload_n 3, 1) := by decide +kernel
theorem dX5_entriesOf_14 : decode cX5_entriesOf 14 = .ok (.invokevirtual 202, 3) := by decide +kernel
theorem dX5_entriesOf_17 : decode cX5_entriesOf 17 = .ok (.ifCond .eq 19, 3) := by decide +kernel
theorem dX5_entriesOf_20 : decode cX5_entriesOf 20 = .ok (.aload_n 0, 1) := by decide +kernel
theorem dX5_entriesOf_21 : decode cX5_entriesOf 21 = .ok (.iload_n 3, 1) := by decide +kernel
theorem dX5_entriesOf_22 : decode cX5_entriesOf 22 = .ok (.invokevirtual 105, 3) := by decide +kernel
theorem dX5_entriesOf_25 : decode cX5_entriesOf 25 = .ok (.invokestatic 76, 3) := by decide +kernel
theorem dX5_entriesOf_28 : decode cX5_entriesOf 28 = .ok (.iconst 4, 1) := by decide +kernel
theorem dX5_entriesOf_29 : decode cX5_entriesOf 29 = .ok (.if_icmp .ne 7, 3) := by decide +kernel
theorem dX5_entriesOf_32 : decode cX5_entriesOf 32 = .ok (.iconst 1, 1) := by decide +kernel
theorem dX5_entriesOf_33 : decode cX5_entriesOf 33 = .ok (.goto 4, 3) := by decide +kernel
theorem dX5_entriesOf_36 : decode cX5_entriesOf 36 = .ok (.iconst 0, 1) := by decide +kernel
theorem dX5_entriesOf_37 : decode cX5_entriesOf 37 = .ok (.iadd, 1) := by decide +kernel
theorem dX5_entriesOf_38 : decode cX5_entriesOf 38 = .ok (.istore_n 2, 1) := by decide +kernel
theorem dX5_entriesOf_39 : decode cX5_entriesOf 39 = .ok (.iinc 3 1, 3) := by decide +kernel
theorem dX5_entriesOf_42 : decode cX5_entriesOf 42 = .ok (.goto (-38), 3) := by decide +kernel
theorem dX5_entriesOf_45 : decode cX5_entriesOf 45 = .ok (.iload_n 2, 1) := by decide +kernel
theorem dX5_entriesOf_46 : decode cX5_entriesOf 46 = .ok (.ireturn, 1) := by decide +kernel
theorem dX5_rowsOf_0 : decode cX5_rowsOf 0 = .ok (.iconst 0, 1) := by decide +kernel
theorem dX5_rowsOf_1 : decode cX5_rowsOf 1 = .ok (.istore_n 2, 1) := by decide +kernel
theorem dX5_rowsOf_2 : decode cX5_rowsOf 2 = .ok (.iconst 0, 1) := by decide +kernel
theorem dX5_rowsOf_3 : decode cX5_rowsOf 3 = .ok (.istore_n 3, 1) := by decide +kernel
theorem dX5_rowsOf_4 : decode cX5_rowsOf 4 = .ok (.iload_n 3, 1) := by decide +kernel
theorem dX5_rowsOf_5 : decode cX5_rowsOf 5 = .ok (.bipush 20, 2) := by decide +kernel
theorem dX5_rowsOf_7 : decode cX5_rowsOf 7 = .ok (.if_icmp .ge 26, 3) := by decide +kernel
theorem dX5_rowsOf_10 : decode cX5_rowsOf 10 = .ok (.iload_n 2, 1) := by decide +kernel
theorem dX5_rowsOf_11 : decode cX5_rowsOf 11 = .ok (.aload_n 0, 1) := by decide +kernel
theorem dX5_rowsOf_12 : decode cX5_rowsOf 12 = .ok (.iload_n 1, 1) := by decide +kernel
theorem dX5_rowsOf_13 : decode cX5_rowsOf 13 = .ok (.iload_n 3, 1) := by decide +kernel
theorem dX5_rowsOf_14 : decode cX5_rowsOf 14 = .ok (.invokevirtual 202, 3) := by decide +kernel
theorem dX5_rowsOf_17 : decode cX5_rowsOf 17 = .ok (.ifCond .eq 7, 3) := by decide +kernel
theorem dX5_rowsOf_20 : decode cX5_rowsOf 20 = .ok (.iconst 1, 1) := by decide +kernel
theorem dX5_rowsOf_21 : decode cX5_rowsOf 21 = .ok (.goto 4, 3) := by decide +kernel
theorem dX5_rowsOf_24 : decode cX5_rowsOf 24 = .ok (.iconst 0, 1) := by decide +kernel
theorem dX5_rowsOf_25 : decode cX5_rowsOf 25 = .ok (.iadd, 1) := by decide +kernel
theorem dX5_rowsOf_26 : decode cX5_rowsOf 26 = .ok (.istore_n 2, 1) := by decide +kernel
theorem dX5_rowsOf_27 : decode cX5_rowsOf 27 = .ok (.iinc 3 1, 3) := by decide +kernel
theorem dX5_rowsOf_30 : decode cX5_rowsOf 30 = .ok (.goto (-26), 3) := by decide +kernel
theorem dX5_rowsOf_33 : decode cX5_rowsOf 33 = .ok (.iload_n 2, 1) := by decide +kernel
theorem dX5_rowsOf_34 : decode cX5_rowsOf 34 = .ok (.ireturn, 1) := by decide +kernel
theorem dX5_greatestOf_0 : decode cX5_greatestOf 0 = .ok (.iconst (-1), 1) := by decide +kernel
theorem dX5_greatestOf_1 : decode cX5_greatestOf 1 = .ok (.istore_n 2, 1) := by decide +kernel
theorem dX5_greatestOf_2 : decode cX5_greatestOf 2 = .ok (.iconst 0, 1) := by decide +kernel
theorem dX5_greatestOf_3 : decode cX5_greatestOf 3 = .ok (.istore_n 3, 1) := by decide +kernel
theorem dX5_greatestOf_4 : decode cX5_greatestOf 4 = .ok (.iload_n 3, 1) := by decide +kernel
theorem dX5_greatestOf_5 : decode cX5_greatestOf 5 = .ok (.bipush 20, 2) := by decide +kernel
theorem dX5_greatestOf_7 : decode cX5_greatestOf 7 = .ok (.if_icmp .ge 41, 3) := by decide +kernel
theorem dX5_greatestOf_10 : decode cX5_greatestOf 10 = .ok (.aload_n 0, 1) := by decide +kernel
theorem dX5_greatestOf_11 : decode cX5_greatestOf 11 = .ok (.iload_n 3, 1) := by decide +kernel
theorem dX5_greatestOf_12 : decode cX5_greatestOf 12 = .ok (.invokevirtual 105, 3) := by decide +kernel
theorem dX5_greatestOf_15 : decode cX5_greatestOf 15 = .ok (.invokestatic 85, 3) := by decide +kernel
theorem dX5_greatestOf_18 : decode cX5_greatestOf 18 = .ok (.istore 4, 2) := by decide +kernel
theorem dX5_greatestOf_20 : decode cX5_greatestOf 20 = .ok (.aload_n 0, 1) := by decide +kernel
theorem dX5_greatestOf_21 : decode cX5_greatestOf 21 = .ok (.iload_n 1, 1) := by decide +kernel
theorem dX5_greatestOf_22 : decode cX5_greatestOf 22 = .ok (.iload_n 3, 1) := by decide +kernel
theorem dX5_greatestOf_23 : decode cX5_greatestOf 23 = .ok (.invokevirtual 202, 3) := by decide +kernel
theorem dX5_greatestOf_26 : decode cX5_greatestOf 26 = .ok (.ifCond .eq 14, 3) := by decide +kernel
theorem dX5_greatestOf_29 : decode cX5_greatestOf 29 = .ok (.iload 4, 2) := by decide +kernel
theorem dX5_greatestOf_31 : decode cX5_greatestOf 31 = .ok (.iload_n 2, 1) := by decide +kernel
theorem dX5_greatestOf_32 : decode cX5_greatestOf 32 = .ok (.if_icmp .le 8, 3) := by decide +kernel
theorem dX5_greatestOf_35 : decode cX5_greatestOf 35 = .ok (.iload 4, 2) := by decide +kernel
theorem dX5_greatestOf_37 : decode cX5_greatestOf 37 = .ok (.goto 4, 3) := by decide +kernel
theorem dX5_greatestOf_40 : decode cX5_greatestOf 40 = .ok (.iload_n 2, 1) := by decide +kernel
theorem dX5_greatestOf_41 : decode cX5_greatestOf 41 = .ok (.istore_n 2, 1) := by decide +kernel
theorem dX5_greatestOf_42 : decode cX5_greatestOf 42 = .ok (.iinc 3 1, 3) := by decide +kernel
theorem dX5_greatestOf_45 : decode cX5_greatestOf 45 = .ok (.goto (-41), 3) := by decide +kernel
theorem dX5_greatestOf_48 : decode cX5_greatestOf 48 = .ok (.iload_n 2, 1) := by decide +kernel
theorem dX5_greatestOf_49 : decode cX5_greatestOf 49 = .ok (.ireturn, 1) := by decide +kernel
theorem dX5_agreeing_0 : decode cX5_agreeing 0 = .ok (.aload_n 0, 1) := by decide +kernel
theorem dX5_agreeing_1 : decode cX5_agreeing 1 = .ok (.iload_n 1, 1) := by decide +kernel
theorem dX5_agreeing_2 : decode cX5_agreeing 2 = .ok (.aload_n 0, 1) := by decide +kernel
theorem dX5_agreeing_3 : decode cX5_agreeing 3 = .ok (.getfield 7, 3) := by decide +kernel
theorem dX5_agreeing_6 : decode cX5_agreeing 6 = .ok (.iconst 0, 1) := by decide +kernel
theorem dX5_agreeing_7 : decode cX5_agreeing 7 = .ok (.iaload, 1) := by decide +kernel
theorem dX5_agreeing_8 : decode cX5_agreeing 8 = .ok (.iconst 1, 1) := by decide +kernel
theorem dX5_agreeing_9 : decode cX5_agreeing 9 = .ok (.invokevirtual 88, 3) := by decide +kernel
theorem dX5_agreeing_12 : decode cX5_agreeing 12 = .ok (.istore_n 2, 1) := by decide +kernel
theorem dX5_agreeing_13 : decode cX5_agreeing 13 = .ok (.iconst 0, 1) := by decide +kernel
theorem dX5_agreeing_14 : decode cX5_agreeing 14 = .ok (.istore_n 3, 1) := by decide +kernel
theorem dX5_agreeing_15 : decode cX5_agreeing 15 = .ok (.iconst 0, 1) := by decide +kernel
theorem dX5_agreeing_16 : decode cX5_agreeing 16 = .ok (.istore 4, 2) := by decide +kernel
theorem dX5_agreeing_18 : decode cX5_agreeing 18 = .ok (.iload 4, 2) := by decide +kernel
theorem dX5_agreeing_20 : decode cX5_agreeing 20 = .ok (.iconst 3, 1) := by decide +kernel
theorem dX5_agreeing_21 : decode cX5_agreeing 21 = .ok (.if_icmp .ge 36, 3) := by decide +kernel
theorem dX5_agreeing_24 : decode cX5_agreeing 24 = .ok (.iload_n 3, 1) := by decide +kernel
theorem dX5_agreeing_25 : decode cX5_agreeing 25 = .ok (.aload_n 0, 1) := by decide +kernel
theorem dX5_agreeing_26 : decode cX5_agreeing 26 = .ok (.iload_n 1, 1) := by decide +kernel
theorem dX5_agreeing_27 : decode cX5_agreeing 27 = .ok (.aload_n 0, 1) := by decide +kernel
theorem dX5_agreeing_28 : decode cX5_agreeing 28 = .ok (.getfield 7, 3) := by decide +kernel
theorem dX5_agreeing_31 : decode cX5_agreeing 31 = .ok (.iconst 0, 1) := by decide +kernel
theorem dX5_agreeing_32 : decode cX5_agreeing 32 = .ok (.iaload, 1) := by decide +kernel
theorem dX5_agreeing_33 : decode cX5_agreeing 33 = .ok (.iload 4, 2) := by decide +kernel
theorem dX5_agreeing_35 : decode cX5_agreeing 35 = .ok (.iadd, 1) := by decide +kernel
theorem dX5_agreeing_36 : decode cX5_agreeing 36 = .ok (.iconst 0, 1) := by decide +kernel
theorem dX5_agreeing_37 : decode cX5_agreeing 37 = .ok (.invokevirtual 88, 3) := by decide +kernel
theorem dX5_agreeing_40 : decode cX5_agreeing 40 = .ok (.iload_n 2, 1) := by decide +kernel
theorem dX5_agreeing_41 : decode cX5_agreeing 41 = .ok (.if_icmp .ne 7, 3) := by decide +kernel
theorem dX5_agreeing_44 : decode cX5_agreeing 44 = .ok (.iconst 1, 1) := by decide +kernel
theorem dX5_agreeing_45 : decode cX5_agreeing 45 = .ok (.goto 4, 3) := by decide +kernel
theorem dX5_agreeing_48 : decode cX5_agreeing 48 = .ok (.iconst 0, 1) := by decide +kernel
theorem dX5_agreeing_49 : decode cX5_agreeing 49 = .ok (.iadd, 1) := by decide +kernel
theorem dX5_agreeing_50 : decode cX5_agreeing 50 = .ok (.istore_n 3, 1) := by decide +kernel
theorem dX5_agreeing_51 : decode cX5_agreeing 51 = .ok (.iinc 4 1, 3) := by decide +kernel
theorem dX5_agreeing_54 : decode cX5_agreeing 54 = .ok (.goto (-36), 3) := by decide +kernel
theorem dX5_agreeing_57 : decode cX5_agreeing 57 = .ok (.iload_n 3, 1) := by decide +kernel
theorem dX5_agreeing_58 : decode cX5_agreeing 58 = .ok (.ireturn, 1) := by decide +kernel
theorem dX5_toldKey_0 : decode cX5_toldKey 0 = .ok (.iload_n 2, 1) := by decide +kernel
theorem dX5_toldKey_1 : decode cX5_toldKey 1 = .ok (.tableswitch 75 0 4 #[35, 41, 57, 63, 69], 35) := by decide +kernel
theorem dX5_toldKey_36 : decode cX5_toldKey 36 = .ok (.aload_n 0, 1) := by decide +kernel
theorem dX5_toldKey_37 : decode cX5_toldKey 37 = .ok (.iload_n 1, 1) := by decide +kernel
theorem dX5_toldKey_38 : decode cX5_toldKey 38 = .ok (.invokevirtual 206, 3) := by decide +kernel
theorem dX5_toldKey_41 : decode cX5_toldKey 41 = .ok (.ireturn, 1) := by decide +kernel
theorem dX5_toldKey_42 : decode cX5_toldKey 42 = .ok (.aload_n 0, 1) := by decide +kernel
theorem dX5_toldKey_43 : decode cX5_toldKey 43 = .ok (.iload_n 1, 1) := by decide +kernel
theorem dX5_toldKey_44 : decode cX5_toldKey 44 = .ok (.aload_n 0, 1) := by decide +kernel
theorem dX5_toldKey_45 : decode cX5_toldKey 45 = .ok (.getfield 7, 3) := by decide +kernel
theorem dX5_toldKey_48 : decode cX5_toldKey 48 = .ok (.iconst 0, 1) := by decide +kernel
theorem dX5_toldKey_49 : decode cX5_toldKey 49 = .ok (.iaload, 1) := by decide +kernel
theorem dX5_toldKey_50 : decode cX5_toldKey 50 = .ok (.aload_n 0, 1) := by decide +kernel
theorem dX5_toldKey_51 : decode cX5_toldKey 51 = .ok (.invokevirtual 61, 3) := by decide +kernel
theorem dX5_toldKey_54 : decode cX5_toldKey 54 = .ok (.invokevirtual 82, 3) := by decide +kernel
theorem dX5_toldKey_57 : decode cX5_toldKey 57 = .ok (.ireturn, 1) := by decide +kernel
theorem dX5_toldKey_58 : decode cX5_toldKey 58 = .ok (.aload_n 0, 1) := by decide +kernel
theorem dX5_toldKey_59 : decode cX5_toldKey 59 = .ok (.iload_n 1, 1) := by decide +kernel
theorem dX5_toldKey_60 : decode cX5_toldKey 60 = .ok (.invokevirtual 209, 3) := by decide +kernel
theorem dX5_toldKey_63 : decode cX5_toldKey 63 = .ok (.ireturn, 1) := by decide +kernel
theorem dX5_toldKey_64 : decode cX5_toldKey 64 = .ok (.aload_n 0, 1) := by decide +kernel
theorem dX5_toldKey_65 : decode cX5_toldKey 65 = .ok (.iload_n 1, 1) := by decide +kernel
theorem dX5_toldKey_66 : decode cX5_toldKey 66 = .ok (.invokevirtual 212, 3) := by decide +kernel
theorem dX5_toldKey_69 : decode cX5_toldKey 69 = .ok (.ireturn, 1) := by decide +kernel
theorem dX5_toldKey_70 : decode cX5_toldKey 70 = .ok (.aload_n 0, 1) := by decide +kernel
theorem dX5_toldKey_71 : decode cX5_toldKey 71 = .ok (.iload_n 1, 1) := by decide +kernel
theorem dX5_toldKey_72 : decode cX5_toldKey 72 = .ok (.invokevirtual 215, 3) := by decide +kernel
theorem dX5_toldKey_75 : decode cX5_toldKey 75 = .ok (.ireturn, 1) := by decide +kernel
theorem dX5_toldKey_76 : decode cX5_toldKey 76 = .ok (.aload_n 0, 1) := by decide +kernel
theorem dX5_toldKey_77 : decode cX5_toldKey 77 = .ok (.iload_n 1, 1) := by decide +kernel
theorem dX5_toldKey_78 : decode cX5_toldKey 78 = .ok (.invokevirtual 218, 3) := by decide +kernel
theorem dX5_toldKey_81 : decode cX5_toldKey 81 = .ok (.ireturn, 1) := by decide +kernel
theorem dX5_key_0 : decode cX5_key 0 = .ok (.aload_n 0, 1) := by decide +kernel
theorem dX5_key_1 : decode cX5_key 1 = .ok (.iload_n 1, 1) := by decide +kernel
theorem dX5_key_2 : decode cX5_key 2 = .ok (.invokestatic 117, 3) := by decide +kernel
theorem dX5_key_5 : decode cX5_key 5 = .ok (.ifCond .eq 16, 3) := by decide +kernel
theorem dX5_key_8 : decode cX5_key 8 = .ok (.iload_n 2, 1) := by decide +kernel
theorem dX5_key_9 : decode cX5_key 9 = .ok (.iconst 0, 1) := by decide +kernel
theorem dX5_key_10 : decode cX5_key 10 = .ok (.iconst 5, 1) := by decide +kernel
theorem dX5_key_11 : decode cX5_key 11 = .ok (.invokestatic 39, 3) := by decide +kernel
theorem dX5_key_14 : decode cX5_key 14 = .ok (.ifCond .eq 7, 3) := by decide +kernel
theorem dX5_key_17 : decode cX5_key 17 = .ok (.iconst 0, 1) := by decide +kernel
theorem dX5_key_18 : decode cX5_key 18 = .ok (.goto 4, 3) := by decide +kernel
theorem dX5_key_21 : decode cX5_key 21 = .ok (.iconst 1, 1) := by decide +kernel
theorem dX5_key_22 : decode cX5_key 22 = .ok (.putfield 35, 3) := by decide +kernel
theorem dX5_key_25 : decode cX5_key 25 = .ok (.aload_n 0, 1) := by decide +kernel
theorem dX5_key_26 : decode cX5_key 26 = .ok (.getfield 35, 3) := by decide +kernel
theorem dX5_key_29 : decode cX5_key 29 = .ok (.ifCond .le 7, 3) := by decide +kernel
theorem dX5_key_32 : decode cX5_key 32 = .ok (.iconst 0, 1) := by decide +kernel
theorem dX5_key_33 : decode cX5_key 33 = .ok (.goto 9, 3) := by decide +kernel
theorem dX5_key_36 : decode cX5_key 36 = .ok (.aload_n 0, 1) := by decide +kernel
theorem dX5_key_37 : decode cX5_key 37 = .ok (.iload_n 1, 1) := by decide +kernel
theorem dX5_key_38 : decode cX5_key 38 = .ok (.iload_n 2, 1) := by decide +kernel
theorem dX5_key_39 : decode cX5_key 39 = .ok (.invokevirtual 221, 3) := by decide +kernel
theorem dX5_key_42 : decode cX5_key 42 = .ok (.ireturn, 1) := by decide +kernel
theorem dX5_earlier_0 : decode cX5_earlier 0 = .ok (.iload_n 2, 1) := by decide +kernel
theorem dX5_earlier_1 : decode cX5_earlier 1 = .ok (.istore_n 3, 1) := by decide +kernel
theorem dX5_earlier_2 : decode cX5_earlier 2 = .ok (.bipush 19, 2) := by decide +kernel
theorem dX5_earlier_4 : decode cX5_earlier 4 = .ok (.istore 4, 2) := by decide +kernel
theorem dX5_earlier_6 : decode cX5_earlier 6 = .ok (.iload 4, 2) := by decide +kernel
theorem dX5_earlier_8 : decode cX5_earlier 8 = .ok (.ifCond .lt 36, 3) := by decide +kernel
theorem dX5_earlier_11 : decode cX5_earlier 11 = .ok (.aload_n 0, 1) := by decide +kernel
theorem dX5_earlier_12 : decode cX5_earlier 12 = .ok (.iload_n 1, 1) := by decide +kernel
theorem dX5_earlier_13 : decode cX5_earlier 13 = .ok (.iload 4, 2) := by decide +kernel
theorem dX5_earlier_15 : decode cX5_earlier 15 = .ok (.invokevirtual 202, 3) := by decide +kernel
theorem dX5_earlier_18 : decode cX5_earlier 18 = .ok (.ifCond .eq 20, 3) := by decide +kernel
theorem dX5_earlier_21 : decode cX5_earlier 21 = .ok (.iload_n 3, 1) := by decide +kernel
theorem dX5_earlier_22 : decode cX5_earlier 22 = .ok (.ifCond .ne 13, 3) := by decide +kernel
theorem dX5_earlier_25 : decode cX5_earlier 25 = .ok (.aload_n 0, 1) := by decide +kernel
theorem dX5_earlier_26 : decode cX5_earlier 26 = .ok (.iload 4, 2) := by decide +kernel
theorem dX5_earlier_28 : decode cX5_earlier 28 = .ok (.invokevirtual 105, 3) := by decide +kernel
theorem dX5_earlier_31 : decode cX5_earlier 31 = .ok (.invokestatic 85, 3) := by decide +kernel
theorem dX5_earlier_34 : decode cX5_earlier 34 = .ok (.ireturn, 1) := by decide +kernel
theorem dX5_earlier_35 : decode cX5_earlier 35 = .ok (.iinc 3 (-1), 3) := by decide +kernel
theorem dX5_earlier_38 : decode cX5_earlier 38 = .ok (.iinc 4 (-1), 3) := by decide +kernel
theorem dX5_earlier_41 : decode cX5_earlier 41 = .ok (.goto (-35), 3) := by decide +kernel
theorem dX5_earlier_44 : decode cX5_earlier 44 = .ok (.iconst (-1), 1) := by decide +kernel
theorem dX5_earlier_45 : decode cX5_earlier 45 = .ok (.ireturn, 1) := by decide +kernel
theorem dX5_history_0 : decode cX5_history 0 = .ok (.aload_n 0, 1) := by decide +kernel
theorem dX5_history_1 : decode cX5_history 1 = .ok (.iload_n 1, 1) := by decide +kernel
theorem dX5_history_2 : decode cX5_history 2 = .ok (.invokestatic 117, 3) := by decide +kernel
theorem dX5_history_5 : decode cX5_history 5 = .ok (.ifCond .eq 11, 3) := by decide +kernel
theorem dX5_history_8 : decode cX5_history 8 = .ok (.iload_n 2, 1) := by decide +kernel
theorem dX5_history_9 : decode cX5_history 9 = .ok (.ifCond .lt 7, 3) := by decide +kernel
theorem dX5_history_12 : decode cX5_history 12 = .ok (.iconst 0, 1) := by decide +kernel
theorem dX5_history_13 : decode cX5_history 13 = .ok (.goto 4, 3) := by decide +kernel
theorem dX5_history_16 : decode cX5_history 16 = .ok (.iconst 1, 1) := by decide +kernel
theorem dX5_history_17 : decode cX5_history 17 = .ok (.putfield 35, 3) := by decide +kernel
theorem dX5_history_20 : decode cX5_history 20 = .ok (.aload_n 0, 1) := by decide +kernel
theorem dX5_history_21 : decode cX5_history 21 = .ok (.getfield 35, 3) := by decide +kernel
theorem dX5_history_24 : decode cX5_history 24 = .ok (.ifCond .le 7, 3) := by decide +kernel
theorem dX5_history_27 : decode cX5_history 27 = .ok (.iconst 0, 1) := by decide +kernel
theorem dX5_history_28 : decode cX5_history 28 = .ok (.goto 9, 3) := by decide +kernel
theorem dX5_history_31 : decode cX5_history 31 = .ok (.aload_n 0, 1) := by decide +kernel
theorem dX5_history_32 : decode cX5_history 32 = .ok (.iload_n 1, 1) := by decide +kernel
theorem dX5_history_33 : decode cX5_history 33 = .ok (.iload_n 2, 1) := by decide +kernel
theorem dX5_history_34 : decode cX5_history 34 = .ok (.invokevirtual 224, 3) := by decide +kernel
theorem dX5_history_37 : decode cX5_history 37 = .ok (.ireturn, 1) := by decide +kernel
theorem dX5_rowsOfKind_0 : decode cX5_rowsOfKind 0 = .ok (.iconst 0, 1) := by decide +kernel
theorem dX5_rowsOfKind_1 : decode cX5_rowsOfKind 1 = .ok (.istore_n 2, 1) := by decide +kernel
theorem dX5_rowsOfKind_2 : decode cX5_rowsOfKind 2 = .ok (.iconst 0, 1) := by decide +kernel
theorem dX5_rowsOfKind_3 : decode cX5_rowsOfKind 3 = .ok (.istore_n 3, 1) := by decide +kernel
theorem dX5_rowsOfKind_4 : decode cX5_rowsOfKind 4 = .ok (.iload_n 3, 1) := by decide +kernel
theorem dX5_rowsOfKind_5 : decode cX5_rowsOfKind 5 = .ok (.bipush 20, 2) := by decide +kernel
theorem dX5_rowsOfKind_7 : decode cX5_rowsOfKind 7 = .ok (.if_icmp .ge 29, 3) := by decide +kernel
theorem dX5_rowsOfKind_10 : decode cX5_rowsOfKind 10 = .ok (.iload_n 2, 1) := by decide +kernel
theorem dX5_rowsOfKind_11 : decode cX5_rowsOfKind 11 = .ok (.aload_n 0, 1) := by decide +kernel
theorem dX5_rowsOfKind_12 : decode cX5_rowsOfKind 12 = .ok (.iload_n 3, 1) := by decide +kernel
theorem dX5_rowsOfKind_13 : decode cX5_rowsOfKind 13 = .ok (.invokevirtual 105, 3) := by decide +kernel
theorem dX5_rowsOfKind_16 : decode cX5_rowsOfKind 16 = .ok (.invokestatic 76, 3) := by decide +kernel
theorem dX5_rowsOfKind_19 : decode cX5_rowsOfKind 19 = .ok (.iload_n 1, 1) := by decide +kernel
theorem dX5_rowsOfKind_20 : decode cX5_rowsOfKind 20 = .ok (.if_icmp .ne 7, 3) := by decide +kernel
theorem dX5_rowsOfKind_23 : decode cX5_rowsOfKind 23 = .ok (.iconst 1, 1) := by decide +kernel
theorem dX5_rowsOfKind_24 : decode cX5_rowsOfKind 24 = .ok (.goto 4, 3) := by decide +kernel
theorem dX5_rowsOfKind_27 : decode cX5_rowsOfKind 27 = .ok (.iconst 0, 1) := by decide +kernel
theorem dX5_rowsOfKind_28 : decode cX5_rowsOfKind 28 = .ok (.iadd, 1) := by decide +kernel
theorem dX5_rowsOfKind_29 : decode cX5_rowsOfKind 29 = .ok (.istore_n 2, 1) := by decide +kernel
theorem dX5_rowsOfKind_30 : decode cX5_rowsOfKind 30 = .ok (.iinc 3 1, 3) := by decide +kernel
theorem dX5_rowsOfKind_33 : decode cX5_rowsOfKind 33 = .ok (.goto (-29), 3) := by decide +kernel
theorem dX5_rowsOfKind_36 : decode cX5_rowsOfKind 36 = .ok (.iload_n 2, 1) := by decide +kernel
theorem dX5_rowsOfKind_37 : decode cX5_rowsOfKind 37 = .ok (.ireturn, 1) := by decide +kernel
theorem dX5_doubtfulAll_0 : decode cX5_doubtfulAll 0 = .ok (.iconst 0, 1) := by decide +kernel
theorem dX5_doubtfulAll_1 : decode cX5_doubtfulAll 1 = .ok (.istore_n 1, 1) := by decide +kernel
theorem dX5_doubtfulAll_2 : decode cX5_doubtfulAll 2 = .ok (.iconst 0, 1) := by decide +kernel
theorem dX5_doubtfulAll_3 : decode cX5_doubtfulAll 3 = .ok (.istore_n 2, 1) := by decide +kernel
theorem dX5_doubtfulAll_4 : decode cX5_doubtfulAll 4 = .ok (.iload_n 2, 1) := by decide +kernel
theorem dX5_doubtfulAll_5 : decode cX5_doubtfulAll 5 = .ok (.bipush 20, 2) := by decide +kernel
theorem dX5_doubtfulAll_7 : decode cX5_doubtfulAll 7 = .ok (.if_icmp .ge 17, 3) := by decide +kernel
theorem dX5_doubtfulAll_10 : decode cX5_doubtfulAll 10 = .ok (.iload_n 1, 1) := by decide +kernel
theorem dX5_doubtfulAll_11 : decode cX5_doubtfulAll 11 = .ok (.aload_n 0, 1) := by decide +kernel
theorem dX5_doubtfulAll_12 : decode cX5_doubtfulAll 12 = .ok (.iload_n 2, 1) := by decide +kernel
theorem dX5_doubtfulAll_13 : decode cX5_doubtfulAll 13 = .ok (.invokevirtual 193, 3) := by decide +kernel
theorem dX5_doubtfulAll_16 : decode cX5_doubtfulAll 16 = .ok (.iadd, 1) := by decide +kernel
theorem dX5_doubtfulAll_17 : decode cX5_doubtfulAll 17 = .ok (.istore_n 1, 1) := by decide +kernel
theorem dX5_doubtfulAll_18 : decode cX5_doubtfulAll 18 = .ok (.iinc 2 1, 3) := by decide +kernel
theorem dX5_doubtfulAll_21 : decode cX5_doubtfulAll 21 = .ok (.goto (-17), 3) := by decide +kernel
theorem dX5_doubtfulAll_24 : decode cX5_doubtfulAll 24 = .ok (.iload_n 1, 1) := by decide +kernel
theorem dX5_doubtfulAll_25 : decode cX5_doubtfulAll 25 = .ok (.ireturn, 1) := by decide +kernel
theorem dX5_keysWithValue_0 : decode cX5_keysWithValue 0 = .ok (.iconst 0, 1) := by decide +kernel
theorem dX5_keysWithValue_1 : decode cX5_keysWithValue 1 = .ok (.istore_n 1, 1) := by decide +kernel
theorem dX5_keysWithValue_2 : decode cX5_keysWithValue 2 = .ok (.iconst 0, 1) := by decide +kernel
theorem dX5_keysWithValue_3 : decode cX5_keysWithValue 3 = .ok (.istore_n 2, 1) := by decide +kernel
theorem dX5_keysWithValue_4 : decode cX5_keysWithValue 4 = .ok (.iload_n 2, 1) := by decide +kernel
theorem dX5_keysWithValue_5 : decode cX5_keysWithValue 5 = .ok (.bipush 16, 2) := by decide +kernel
theorem dX5_keysWithValue_7 : decode cX5_keysWithValue 7 = .ok (.if_icmp .ge 26, 3) := by decide +kernel
theorem dX5_keysWithValue_10 : decode cX5_keysWithValue 10 = .ok (.iload_n 1, 1) := by decide +kernel
theorem dX5_keysWithValue_11 : decode cX5_keysWithValue 11 = .ok (.aload_n 0, 1) := by decide +kernel
theorem dX5_keysWithValue_12 : decode cX5_keysWithValue 12 = .ok (.iload_n 2, 1) := by decide +kernel
theorem dX5_keysWithValue_13 : decode cX5_keysWithValue 13 = .ok (.invokevirtual 206, 3) := by decide +kernel
theorem dX5_keysWithValue_16 : decode cX5_keysWithValue 16 = .ok (.iconst (-1), 1) := by decide +kernel
theorem dX5_keysWithValue_17 : decode cX5_keysWithValue 17 = .ok (.if_icmp .ne 7, 3) := by decide +kernel
theorem dX5_keysWithValue_20 : decode cX5_keysWithValue 20 = .ok (.iconst 0, 1) := by decide +kernel
theorem dX5_keysWithValue_21 : decode cX5_keysWithValue 21 = .ok (.goto 4, 3) := by decide +kernel
theorem dX5_keysWithValue_24 : decode cX5_keysWithValue 24 = .ok (.iconst 1, 1) := by decide +kernel
theorem dX5_keysWithValue_25 : decode cX5_keysWithValue 25 = .ok (.iadd, 1) := by decide +kernel
theorem dX5_keysWithValue_26 : decode cX5_keysWithValue 26 = .ok (.istore_n 1, 1) := by decide +kernel
theorem dX5_keysWithValue_27 : decode cX5_keysWithValue 27 = .ok (.iinc 2 1, 3) := by decide +kernel
theorem dX5_keysWithValue_30 : decode cX5_keysWithValue 30 = .ok (.goto (-26), 3) := by decide +kernel
theorem dX5_keysWithValue_33 : decode cX5_keysWithValue 33 = .ok (.iload_n 1, 1) := by decide +kernel
theorem dX5_keysWithValue_34 : decode cX5_keysWithValue 34 = .ok (.ireturn, 1) := by decide +kernel
theorem dX5_counted_0 : decode cX5_counted 0 = .ok (.iload_n 1, 1) := by decide +kernel
theorem dX5_counted_1 : decode cX5_counted 1 = .ok (.tableswitch 113 0 12 #[67, 113, 113, 113, 113, 113, 74, 79, 84, 91, 96, 101, 108], 67) := by decide +kernel
theorem dX5_counted_68 : decode cX5_counted 68 = .ok (.aload_n 0, 1) := by decide +kernel
theorem dX5_counted_69 : decode cX5_counted 69 = .ok (.getfield 7, 3) := by decide +kernel
theorem dX5_counted_72 : decode cX5_counted 72 = .ok (.iconst 0, 1) := by decide +kernel
theorem dX5_counted_73 : decode cX5_counted 73 = .ok (.iaload, 1) := by decide +kernel
theorem dX5_counted_74 : decode cX5_counted 74 = .ok (.ireturn, 1) := by decide +kernel
theorem dX5_counted_75 : decode cX5_counted 75 = .ok (.aload_n 0, 1) := by decide +kernel
theorem dX5_counted_76 : decode cX5_counted 76 = .ok (.invokevirtual 133, 3) := by decide +kernel
theorem dX5_counted_79 : decode cX5_counted 79 = .ok (.ireturn, 1) := by decide +kernel
theorem dX5_counted_80 : decode cX5_counted 80 = .ok (.aload_n 0, 1) := by decide +kernel
theorem dX5_counted_81 : decode cX5_counted 81 = .ok (.invokevirtual 227, 3) := by decide +kernel
theorem dX5_counted_84 : decode cX5_counted 84 = .ok (.ireturn, 1) := by decide +kernel
theorem dX5_counted_85 : decode cX5_counted 85 = .ok (.aload_n 0, 1) := by decide +kernel
theorem dX5_counted_86 : decode cX5_counted 86 = .ok (.getfield 7, 3) := by decide +kernel
theorem dX5_counted_89 : decode cX5_counted 89 = .ok (.iconst 1, 1) := by decide +kernel
theorem dX5_counted_90 : decode cX5_counted 90 = .ok (.iaload, 1) := by decide +kernel
theorem dX5_counted_91 : decode cX5_counted 91 = .ok (.ireturn, 1) := by decide +kernel
theorem dX5_counted_92 : decode cX5_counted 92 = .ok (.aload_n 0, 1) := by decide +kernel
theorem dX5_counted_93 : decode cX5_counted 93 = .ok (.invokevirtual 230, 3) := by decide +kernel
theorem dX5_counted_96 : decode cX5_counted 96 = .ok (.ireturn, 1) := by decide +kernel
theorem dX5_counted_97 : decode cX5_counted 97 = .ok (.aload_n 0, 1) := by decide +kernel
theorem dX5_counted_98 : decode cX5_counted 98 = .ok (.invokevirtual 120, 3) := by decide +kernel
theorem dX5_counted_101 : decode cX5_counted 101 = .ok (.ireturn, 1) := by decide +kernel
theorem dX5_counted_102 : decode cX5_counted 102 = .ok (.aload_n 0, 1) := by decide +kernel
theorem dX5_counted_103 : decode cX5_counted 103 = .ok (.getfield 7, 3) := by decide +kernel
theorem dX5_counted_106 : decode cX5_counted 106 = .ok (.iconst 2, 1) := by decide +kernel
theorem dX5_counted_107 : decode cX5_counted 107 = .ok (.iaload, 1) := by decide +kernel
theorem dX5_counted_108 : decode cX5_counted 108 = .ok (.ireturn, 1) := by decide +kernel
theorem dX5_counted_109 : decode cX5_counted 109 = .ok (.aload_n 0, 1) := by decide +kernel
theorem dX5_counted_110 : decode cX5_counted 110 = .ok (.getfield 43, 3) := by decide +kernel
theorem dX5_counted_113 : decode cX5_counted 113 = .ok (.ireturn, 1) := by decide +kernel
theorem dX5_counted_114 : decode cX5_counted 114 = .ok (.aload_n 0, 1) := by decide +kernel
theorem dX5_counted_115 : decode cX5_counted 115 = .ok (.iload_n 1, 1) := by decide +kernel
theorem dX5_counted_116 : decode cX5_counted 116 = .ok (.iconst 1, 1) := by decide +kernel
theorem dX5_counted_117 : decode cX5_counted 117 = .ok (.isub, 1) := by decide +kernel
theorem dX5_counted_118 : decode cX5_counted 118 = .ok (.invokevirtual 233, 3) := by decide +kernel
theorem dX5_counted_121 : decode cX5_counted 121 = .ok (.ireturn, 1) := by decide +kernel
theorem dX5_count_0 : decode cX5_count 0 = .ok (.aload_n 0, 1) := by decide +kernel
theorem dX5_count_1 : decode cX5_count 1 = .ok (.iload_n 1, 1) := by decide +kernel
theorem dX5_count_2 : decode cX5_count 2 = .ok (.iconst 0, 1) := by decide +kernel
theorem dX5_count_3 : decode cX5_count 3 = .ok (.bipush 12, 2) := by decide +kernel
theorem dX5_count_5 : decode cX5_count 5 = .ok (.invokestatic 39, 3) := by decide +kernel
theorem dX5_count_8 : decode cX5_count 8 = .ok (.ifCond .eq 7, 3) := by decide +kernel
theorem dX5_count_11 : decode cX5_count 11 = .ok (.iconst 0, 1) := by decide +kernel
theorem dX5_count_12 : decode cX5_count 12 = .ok (.goto 4, 3) := by decide +kernel
theorem dX5_count_15 : decode cX5_count 15 = .ok (.iconst 1, 1) := by decide +kernel
theorem dX5_count_16 : decode cX5_count 16 = .ok (.putfield 35, 3) := by decide +kernel
theorem dX5_count_19 : decode cX5_count 19 = .ok (.aload_n 0, 1) := by decide +kernel
theorem dX5_count_20 : decode cX5_count 20 = .ok (.getfield 35, 3) := by decide +kernel
theorem dX5_count_23 : decode cX5_count 23 = .ok (.ifCond .le 7, 3) := by decide +kernel
theorem dX5_count_26 : decode cX5_count 26 = .ok (.iconst 0, 1) := by decide +kernel
theorem dX5_count_27 : decode cX5_count 27 = .ok (.goto 8, 3) := by decide +kernel
theorem dX5_count_30 : decode cX5_count 30 = .ok (.aload_n 0, 1) := by decide +kernel
theorem dX5_count_31 : decode cX5_count 31 = .ok (.iload_n 1, 1) := by decide +kernel
theorem dX5_count_32 : decode cX5_count 32 = .ok (.invokevirtual 236, 3) := by decide +kernel
theorem dX5_count_35 : decode cX5_count 35 = .ok (.ireturn, 1) := by decide +kernel
theorem dX5_setting_0 : decode cX5_setting 0 = .ok (.aload_n 0, 1) := by decide +kernel
theorem dX5_setting_1 : decode cX5_setting 1 = .ok (.iload_n 1, 1) := by decide +kernel
theorem dX5_setting_2 : decode cX5_setting 2 = .ok (.iconst 0, 1) := by decide +kernel
theorem dX5_setting_3 : decode cX5_setting 3 = .ok (.iconst 3, 1) := by decide +kernel
theorem dX5_setting_4 : decode cX5_setting 4 = .ok (.invokestatic 39, 3) := by decide +kernel
theorem dX5_setting_7 : decode cX5_setting 7 = .ok (.ifCond .eq 7, 3) := by decide +kernel
theorem dX5_setting_10 : decode cX5_setting 10 = .ok (.iconst 0, 1) := by decide +kernel
theorem dX5_setting_11 : decode cX5_setting 11 = .ok (.goto 4, 3) := by decide +kernel
theorem dX5_setting_14 : decode cX5_setting 14 = .ok (.iconst 1, 1) := by decide +kernel
theorem dX5_setting_15 : decode cX5_setting 15 = .ok (.putfield 35, 3) := by decide +kernel
theorem dX5_setting_18 : decode cX5_setting 18 = .ok (.aload_n 0, 1) := by decide +kernel
theorem dX5_setting_19 : decode cX5_setting 19 = .ok (.getfield 35, 3) := by decide +kernel
theorem dX5_setting_22 : decode cX5_setting 22 = .ok (.ifCond .le 7, 3) := by decide +kernel
theorem dX5_setting_25 : decode cX5_setting 25 = .ok (.iconst 0, 1) := by decide +kernel
theorem dX5_setting_26 : decode cX5_setting 26 = .ok (.goto 11, 3) := by decide +kernel
theorem dX5_setting_29 : decode cX5_setting 29 = .ok (.aload_n 0, 1) := by decide +kernel
theorem dX5_setting_30 : decode cX5_setting 30 = .ok (.getfield 7, 3) := by decide +kernel
theorem dX5_setting_33 : decode cX5_setting 33 = .ok (.iconst 3, 1) := by decide +kernel
theorem dX5_setting_34 : decode cX5_setting 34 = .ok (.iload_n 1, 1) := by decide +kernel
theorem dX5_setting_35 : decode cX5_setting 35 = .ok (.iadd, 1) := by decide +kernel
theorem dX5_setting_36 : decode cX5_setting 36 = .ok (.iaload, 1) := by decide +kernel
theorem dX5_setting_37 : decode cX5_setting 37 = .ok (.ireturn, 1) := by decide +kernel
theorem dX5_wouldPut_0 : decode cX5_wouldPut 0 = .ok (.aload_n 0, 1) := by decide +kernel
theorem dX5_wouldPut_1 : decode cX5_wouldPut 1 = .ok (.invokevirtual 120, 3) := by decide +kernel
theorem dX5_wouldPut_4 : decode cX5_wouldPut 4 = .ok (.istore 4, 2) := by decide +kernel
theorem dX5_wouldPut_6 : decode cX5_wouldPut 6 = .ok (.iload 4, 2) := by decide +kernel
theorem dX5_wouldPut_8 : decode cX5_wouldPut 8 = .ok (.iconst (-1), 1) := by decide +kernel
theorem dX5_wouldPut_9 : decode cX5_wouldPut 9 = .ok (.if_icmp .ne 5, 3) := by decide +kernel
theorem dX5_wouldPut_12 : decode cX5_wouldPut 12 = .ok (.iconst (-1), 1) := by decide +kernel
theorem dX5_wouldPut_13 : decode cX5_wouldPut 13 = .ok (.ireturn, 1) := by decide +kernel
theorem dX5_wouldPut_14 : decode cX5_wouldPut 14 = .ok (.aload_n 0, 1) := by decide +kernel
theorem dX5_wouldPut_15 : decode cX5_wouldPut 15 = .ok (.invokevirtual 239, 3) := by decide +kernel
theorem dX5_wouldPut_18 : decode cX5_wouldPut 18 = .ok (.aload_n 0, 1) := by decide +kernel
theorem dX5_wouldPut_19 : decode cX5_wouldPut 19 = .ok (.getfield 7, 3) := by decide +kernel
theorem dX5_wouldPut_22 : decode cX5_wouldPut 22 = .ok (.iconst 1, 1) := by decide +kernel
theorem dX5_wouldPut_23 : decode cX5_wouldPut 23 = .ok (.iaload, 1) := by decide +kernel
theorem dX5_wouldPut_24 : decode cX5_wouldPut 24 = .ok (.istore 5, 2) := by decide +kernel
theorem dX5_wouldPut_26 : decode cX5_wouldPut 26 = .ok (.aload_n 0, 1) := by decide +kernel
theorem dX5_wouldPut_27 : decode cX5_wouldPut 27 = .ok (.iload 4, 2) := by decide +kernel
theorem dX5_wouldPut_29 : decode cX5_wouldPut 29 = .ok (.iload_n 1, 1) := by decide +kernel
theorem dX5_wouldPut_30 : decode cX5_wouldPut 30 = .ok (.iload_n 2, 1) := by decide +kernel
theorem dX5_wouldPut_31 : decode cX5_wouldPut 31 = .ok (.invokevirtual 127, 3) := by decide +kernel
theorem dX5_wouldPut_34 : decode cX5_wouldPut 34 = .ok (.istore 6, 2) := by decide +kernel
theorem dX5_wouldPut_36 : decode cX5_wouldPut 36 = .ok (.iload_n 3, 1) := by decide +kernel
theorem dX5_wouldPut_37 : decode cX5_wouldPut 37 = .ok (.ifCond .ne 8, 3) := by decide +kernel
theorem dX5_wouldPut_40 : decode cX5_wouldPut 40 = .ok (.iload 6, 2) := by decide +kernel
theorem dX5_wouldPut_42 : decode cX5_wouldPut 42 = .ok (.goto 54, 3) := by decide +kernel
theorem dX5_wouldPut_45 : decode cX5_wouldPut 45 = .ok (.iload_n 3, 1) := by decide +kernel
theorem dX5_wouldPut_46 : decode cX5_wouldPut 46 = .ok (.iconst 1, 1) := by decide +kernel
theorem dX5_wouldPut_47 : decode cX5_wouldPut 47 = .ok (.if_icmp .ne 15, 3) := by decide +kernel
theorem dX5_wouldPut_50 : decode cX5_wouldPut 50 = .ok (.aload_n 0, 1) := by decide +kernel
theorem dX5_wouldPut_51 : decode cX5_wouldPut 51 = .ok (.iload 4, 2) := by decide +kernel
theorem dX5_wouldPut_53 : decode cX5_wouldPut 53 = .ok (.invokevirtual 105, 3) := by decide +kernel
theorem dX5_wouldPut_56 : decode cX5_wouldPut 56 = .ok (.invokestatic 76, 3) := by decide +kernel
theorem dX5_wouldPut_59 : decode cX5_wouldPut 59 = .ok (.goto 37, 3) := by decide +kernel
theorem dX5_wouldPut_62 : decode cX5_wouldPut 62 = .ok (.iload_n 3, 1) := by decide +kernel
theorem dX5_wouldPut_63 : decode cX5_wouldPut 63 = .ok (.iconst 2, 1) := by decide +kernel
theorem dX5_wouldPut_64 : decode cX5_wouldPut 64 = .ok (.if_icmp .ne 15, 3) := by decide +kernel
theorem dX5_wouldPut_67 : decode cX5_wouldPut 67 = .ok (.aload_n 0, 1) := by decide +kernel
theorem dX5_wouldPut_68 : decode cX5_wouldPut 68 = .ok (.getfield 7, 3) := by decide +kernel
theorem dX5_wouldPut_71 : decode cX5_wouldPut 71 = .ok (.iconst 1, 1) := by decide +kernel
theorem dX5_wouldPut_72 : decode cX5_wouldPut 72 = .ok (.iaload, 1) := by decide +kernel
theorem dX5_wouldPut_73 : decode cX5_wouldPut 73 = .ok (.iload 5, 2) := by decide +kernel
theorem dX5_wouldPut_75 : decode cX5_wouldPut 75 = .ok (.isub, 1) := by decide +kernel
theorem dX5_wouldPut_76 : decode cX5_wouldPut 76 = .ok (.goto 20, 3) := by decide +kernel
theorem dX5_wouldPut_79 : decode cX5_wouldPut 79 = .ok (.iload_n 3, 1) := by decide +kernel
theorem dX5_wouldPut_80 : decode cX5_wouldPut 80 = .ok (.iconst 3, 1) := by decide +kernel
theorem dX5_wouldPut_81 : decode cX5_wouldPut 81 = .ok (.if_icmp .ne 11, 3) := by decide +kernel
theorem dX5_wouldPut_84 : decode cX5_wouldPut 84 = .ok (.aload_n 0, 1) := by decide +kernel
theorem dX5_wouldPut_85 : decode cX5_wouldPut 85 = .ok (.iload_n 1, 1) := by decide +kernel
theorem dX5_wouldPut_86 : decode cX5_wouldPut 86 = .ok (.invokevirtual 206, 3) := by decide +kernel
theorem dX5_wouldPut_89 : decode cX5_wouldPut 89 = .ok (.goto 7, 3) := by decide +kernel
theorem dX5_wouldPut_92 : decode cX5_wouldPut 92 = .ok (.aload_n 0, 1) := by decide +kernel
theorem dX5_wouldPut_93 : decode cX5_wouldPut 93 = .ok (.getfield 114, 3) := by decide +kernel
theorem dX5_wouldPut_96 : decode cX5_wouldPut 96 = .ok (.istore 7, 2) := by decide +kernel
theorem dX5_wouldPut_98 : decode cX5_wouldPut 98 = .ok (.aload_n 0, 1) := by decide +kernel
theorem dX5_wouldPut_99 : decode cX5_wouldPut 99 = .ok (.invokevirtual 242, 3) := by decide +kernel
theorem dX5_wouldPut_102 : decode cX5_wouldPut 102 = .ok (.iload 7, 2) := by decide +kernel
theorem dX5_wouldPut_104 : decode cX5_wouldPut 104 = .ok (.ireturn, 1) := by decide +kernel
theorem dX5_ifPut_0 : decode cX5_ifPut 0 = .ok (.aload_n 0, 1) := by decide +kernel
theorem dX5_ifPut_1 : decode cX5_ifPut 1 = .ok (.iload_n 1, 1) := by decide +kernel
theorem dX5_ifPut_2 : decode cX5_ifPut 2 = .ok (.invokestatic 117, 3) := by decide +kernel
theorem dX5_ifPut_5 : decode cX5_ifPut 5 = .ok (.ifCond .eq 26, 3) := by decide +kernel
theorem dX5_ifPut_8 : decode cX5_ifPut 8 = .ok (.iload_n 2, 1) := by decide +kernel
theorem dX5_ifPut_9 : decode cX5_ifPut 9 = .ok (.iconst 0, 1) := by decide +kernel
theorem dX5_ifPut_10 : decode cX5_ifPut 10 = .ok (.bipush 63, 2) := by decide +kernel
theorem dX5_ifPut_12 : decode cX5_ifPut 12 = .ok (.invokestatic 39, 3) := by decide +kernel
theorem dX5_ifPut_15 : decode cX5_ifPut 15 = .ok (.ifCond .eq 16, 3) := by decide +kernel
theorem dX5_ifPut_18 : decode cX5_ifPut 18 = .ok (.iload_n 3, 1) := by decide +kernel
theorem dX5_ifPut_19 : decode cX5_ifPut 19 = .ok (.iconst 0, 1) := by decide +kernel
theorem dX5_ifPut_20 : decode cX5_ifPut 20 = .ok (.iconst 4, 1) := by decide +kernel
theorem dX5_ifPut_21 : decode cX5_ifPut 21 = .ok (.invokestatic 39, 3) := by decide +kernel
theorem dX5_ifPut_24 : decode cX5_ifPut 24 = .ok (.ifCond .eq 7, 3) := by decide +kernel
theorem dX5_ifPut_27 : decode cX5_ifPut 27 = .ok (.iconst 0, 1) := by decide +kernel
theorem dX5_ifPut_28 : decode cX5_ifPut 28 = .ok (.goto 4, 3) := by decide +kernel
theorem dX5_ifPut_31 : decode cX5_ifPut 31 = .ok (.iconst 1, 1) := by decide +kernel
theorem dX5_ifPut_32 : decode cX5_ifPut 32 = .ok (.putfield 35, 3) := by decide +kernel
theorem dX5_ifPut_35 : decode cX5_ifPut 35 = .ok (.aload_n 0, 1) := by decide +kernel
theorem dX5_ifPut_36 : decode cX5_ifPut 36 = .ok (.getfield 35, 3) := by decide +kernel
theorem dX5_ifPut_39 : decode cX5_ifPut 39 = .ok (.ifCond .le 7, 3) := by decide +kernel
theorem dX5_ifPut_42 : decode cX5_ifPut 42 = .ok (.iconst 0, 1) := by decide +kernel
theorem dX5_ifPut_43 : decode cX5_ifPut 43 = .ok (.goto 10, 3) := by decide +kernel
theorem dX5_ifPut_46 : decode cX5_ifPut 46 = .ok (.aload_n 0, 1) := by decide +kernel
theorem dX5_ifPut_47 : decode cX5_ifPut 47 = .ok (.iload_n 1, 1) := by decide +kernel
theorem dX5_ifPut_48 : decode cX5_ifPut 48 = .ok (.iload_n 2, 1) := by decide +kernel
theorem dX5_ifPut_49 : decode cX5_ifPut 49 = .ok (.iload_n 3, 1) := by decide +kernel
theorem dX5_ifPut_50 : decode cX5_ifPut 50 = .ok (.invokevirtual 245, 3) := by decide +kernel
theorem dX5_ifPut_53 : decode cX5_ifPut 53 = .ok (.ireturn, 1) := by decide +kernel
theorem dX5_layBefore_0 : decode cX5_layBefore 0 = .ok (.iconst 0, 1) := by decide +kernel
theorem dX5_layBefore_1 : decode cX5_layBefore 1 = .ok (.istore_n 1, 1) := by decide +kernel
theorem dX5_layBefore_2 : decode cX5_layBefore 2 = .ok (.iload_n 1, 1) := by decide +kernel
theorem dX5_layBefore_3 : decode cX5_layBefore 3 = .ok (.bipush 20, 2) := by decide +kernel
theorem dX5_layBefore_5 : decode cX5_layBefore 5 = .ok (.if_icmp .ge 23, 3) := by decide +kernel
theorem dX5_layBefore_8 : decode cX5_layBefore 8 = .ok (.aload_n 0, 1) := by decide +kernel
theorem dX5_layBefore_9 : decode cX5_layBefore 9 = .ok (.getfield 32, 3) := by decide +kernel
theorem dX5_layBefore_12 : decode cX5_layBefore 12 = .ok (.iload_n 1, 1) := by decide +kernel
theorem dX5_layBefore_13 : decode cX5_layBefore 13 = .ok (.aload_n 0, 1) := by decide +kernel
theorem dX5_layBefore_14 : decode cX5_layBefore 14 = .ok (.iload_n 1, 1) := by decide +kernel
theorem dX5_layBefore_15 : decode cX5_layBefore 15 = .ok (.invokevirtual 105, 3) := by decide +kernel
theorem dX5_layBefore_18 : decode cX5_layBefore 18 = .ok (.invokestatic 76, 3) := by decide +kernel
theorem dX5_layBefore_21 : decode cX5_layBefore 21 = .ok (.iastore, 1) := by decide +kernel
theorem dX5_layBefore_22 : decode cX5_layBefore 22 = .ok (.iinc 1 1, 3) := by decide +kernel
theorem dX5_layBefore_25 : decode cX5_layBefore 25 = .ok (.goto (-23), 3) := by decide +kernel
theorem dX5_layBefore_28 : decode cX5_layBefore 28 = .ok (.iconst 0, 1) := by decide +kernel
theorem dX5_layBefore_29 : decode cX5_layBefore 29 = .ok (.istore_n 1, 1) := by decide +kernel
theorem dX5_layBefore_30 : decode cX5_layBefore 30 = .ok (.iload_n 1, 1) := by decide +kernel
theorem dX5_layBefore_31 : decode cX5_layBefore 31 = .ok (.bipush 16, 2) := by decide +kernel
theorem dX5_layBefore_33 : decode cX5_layBefore 33 = .ok (.if_icmp .ge 23, 3) := by decide +kernel
theorem dX5_layBefore_36 : decode cX5_layBefore 36 = .ok (.aload_n 0, 1) := by decide +kernel
theorem dX5_layBefore_37 : decode cX5_layBefore 37 = .ok (.getfield 32, 3) := by decide +kernel
theorem dX5_layBefore_40 : decode cX5_layBefore 40 = .ok (.bipush 20, 2) := by decide +kernel
theorem dX5_layBefore_42 : decode cX5_layBefore 42 = .ok (.iload_n 1, 1) := by decide +kernel
theorem dX5_layBefore_43 : decode cX5_layBefore 43 = .ok (.iadd, 1) := by decide +kernel
theorem dX5_layBefore_44 : decode cX5_layBefore 44 = .ok (.aload_n 0, 1) := by decide +kernel
theorem dX5_layBefore_45 : decode cX5_layBefore 45 = .ok (.iload_n 1, 1) := by decide +kernel
theorem dX5_layBefore_46 : decode cX5_layBefore 46 = .ok (.invokevirtual 206, 3) := by decide +kernel
theorem dX5_layBefore_49 : decode cX5_layBefore 49 = .ok (.iastore, 1) := by decide +kernel
theorem dX5_layBefore_50 : decode cX5_layBefore 50 = .ok (.iinc 1 1, 3) := by decide +kernel
theorem dX5_layBefore_53 : decode cX5_layBefore 53 = .ok (.goto (-23), 3) := by decide +kernel
theorem dX5_layBefore_56 : decode cX5_layBefore 56 = .ok (.return_, 1) := by decide +kernel
theorem dX5_wouldHeat_0 : decode cX5_wouldHeat 0 = .ok (.aload_n 0, 1) := by decide +kernel
theorem dX5_wouldHeat_1 : decode cX5_wouldHeat 1 = .ok (.invokevirtual 248, 3) := by decide +kernel
theorem dX5_wouldHeat_4 : decode cX5_wouldHeat 4 = .ok (.aload_n 0, 1) := by decide +kernel
theorem dX5_wouldHeat_5 : decode cX5_wouldHeat 5 = .ok (.invokevirtual 239, 3) := by decide +kernel
theorem dX5_wouldHeat_8 : decode cX5_wouldHeat 8 = .ok (.aload_n 0, 1) := by decide +kernel
theorem dX5_wouldHeat_9 : decode cX5_wouldHeat 9 = .ok (.iload_n 1, 1) := by decide +kernel
theorem dX5_wouldHeat_10 : decode cX5_wouldHeat 10 = .ok (.invokevirtual 139, 3) := by decide +kernel
theorem dX5_wouldHeat_13 : decode cX5_wouldHeat 13 = .ok (.istore_n 3, 1) := by decide +kernel
theorem dX5_wouldHeat_14 : decode cX5_wouldHeat 14 = .ok (.iconst 0, 1) := by decide +kernel
theorem dX5_wouldHeat_15 : decode cX5_wouldHeat 15 = .ok (.istore 4, 2) := by decide +kernel
theorem dX5_wouldHeat_17 : decode cX5_wouldHeat 17 = .ok (.iconst 0, 1) := by decide +kernel
theorem dX5_wouldHeat_18 : decode cX5_wouldHeat 18 = .ok (.istore 5, 2) := by decide +kernel
theorem dX5_wouldHeat_20 : decode cX5_wouldHeat 20 = .ok (.iload 5, 2) := by decide +kernel
theorem dX5_wouldHeat_22 : decode cX5_wouldHeat 22 = .ok (.bipush 20, 2) := by decide +kernel
theorem dX5_wouldHeat_24 : decode cX5_wouldHeat 24 = .ok (.if_icmp .ge 38, 3) := by decide +kernel
theorem dX5_wouldHeat_27 : decode cX5_wouldHeat 27 = .ok (.iload 4, 2) := by decide +kernel
theorem dX5_wouldHeat_29 : decode cX5_wouldHeat 29 = .ok (.aload_n 0, 1) := by decide +kernel
theorem dX5_wouldHeat_30 : decode cX5_wouldHeat 30 = .ok (.getfield 32, 3) := by decide +kernel
theorem dX5_wouldHeat_33 : decode cX5_wouldHeat 33 = .ok (.iload 5, 2) := by decide +kernel
theorem dX5_wouldHeat_35 : decode cX5_wouldHeat 35 = .ok (.iaload, 1) := by decide +kernel
theorem dX5_wouldHeat_36 : decode cX5_wouldHeat 36 = .ok (.aload_n 0, 1) := by decide +kernel
theorem dX5_wouldHeat_37 : decode cX5_wouldHeat 37 = .ok (.iload 5, 2) := by decide +kernel
theorem dX5_wouldHeat_39 : decode cX5_wouldHeat 39 = .ok (.invokevirtual 105, 3) := by decide +kernel
theorem dX5_wouldHeat_42 : decode cX5_wouldHeat 42 = .ok (.invokestatic 76, 3) := by decide +kernel
theorem dX5_wouldHeat_45 : decode cX5_wouldHeat 45 = .ok (.if_icmp .ne 7, 3) := by decide +kernel
theorem dX5_wouldHeat_48 : decode cX5_wouldHeat 48 = .ok (.iconst 0, 1) := by decide +kernel
theorem dX5_wouldHeat_49 : decode cX5_wouldHeat 49 = .ok (.goto 4, 3) := by decide +kernel
theorem dX5_wouldHeat_52 : decode cX5_wouldHeat 52 = .ok (.iconst 1, 1) := by decide +kernel
theorem dX5_wouldHeat_53 : decode cX5_wouldHeat 53 = .ok (.iadd, 1) := by decide +kernel
theorem dX5_wouldHeat_54 : decode cX5_wouldHeat 54 = .ok (.istore 4, 2) := by decide +kernel
theorem dX5_wouldHeat_56 : decode cX5_wouldHeat 56 = .ok (.iinc 5 1, 3) := by decide +kernel
theorem dX5_wouldHeat_59 : decode cX5_wouldHeat 59 = .ok (.goto (-39), 3) := by decide +kernel
theorem dX5_wouldHeat_62 : decode cX5_wouldHeat 62 = .ok (.iconst 0, 1) := by decide +kernel
theorem dX5_wouldHeat_63 : decode cX5_wouldHeat 63 = .ok (.istore 5, 2) := by decide +kernel
theorem dX5_wouldHeat_65 : decode cX5_wouldHeat 65 = .ok (.iconst 0, 1) := by decide +kernel
theorem dX5_wouldHeat_66 : decode cX5_wouldHeat 66 = .ok (.istore 6, 2) := by decide +kernel
theorem dX5_wouldHeat_68 : decode cX5_wouldHeat 68 = .ok (.iload 6, 2) := by decide +kernel
theorem dX5_wouldHeat_70 : decode cX5_wouldHeat 70 = .ok (.bipush 16, 2) := by decide +kernel
theorem dX5_wouldHeat_72 : decode cX5_wouldHeat 72 = .ok (.if_icmp .ge 38, 3) := by decide +kernel
theorem dX5_wouldHeat_75 : decode cX5_wouldHeat 75 = .ok (.iload 5, 2) := by decide +kernel
theorem dX5_wouldHeat_77 : decode cX5_wouldHeat 77 = .ok (.aload_n 0, 1) := by decide +kernel
theorem dX5_wouldHeat_78 : decode cX5_wouldHeat 78 = .ok (.getfield 32, 3) := by decide +kernel
theorem dX5_wouldHeat_81 : decode cX5_wouldHeat 81 = .ok (.bipush 20, 2) := by decide +kernel
theorem dX5_wouldHeat_83 : decode cX5_wouldHeat 83 = .ok (.iload 6, 2) := by decide +kernel
theorem dX5_wouldHeat_85 : decode cX5_wouldHeat 85 = .ok (.iadd, 1) := by decide +kernel
theorem dX5_wouldHeat_86 : decode cX5_wouldHeat 86 = .ok (.iaload, 1) := by decide +kernel
theorem dX5_wouldHeat_87 : decode cX5_wouldHeat 87 = .ok (.aload_n 0, 1) := by decide +kernel
theorem dX5_wouldHeat_88 : decode cX5_wouldHeat 88 = .ok (.iload 6, 2) := by decide +kernel
theorem dX5_wouldHeat_90 : decode cX5_wouldHeat 90 = .ok (.invokevirtual 206, 3) := by decide +kernel
theorem dX5_wouldHeat_93 : decode cX5_wouldHeat 93 = .ok (.if_icmp .ne 7, 3) := by decide +kernel
theorem dX5_wouldHeat_96 : decode cX5_wouldHeat 96 = .ok (.iconst 0, 1) := by decide +kernel
theorem dX5_wouldHeat_97 : decode cX5_wouldHeat 97 = .ok (.goto 4, 3) := by decide +kernel
theorem dX5_wouldHeat_100 : decode cX5_wouldHeat 100 = .ok (.iconst 1, 1) := by decide +kernel
theorem dX5_wouldHeat_101 : decode cX5_wouldHeat 101 = .ok (.iadd, 1) := by decide +kernel
theorem dX5_wouldHeat_102 : decode cX5_wouldHeat 102 = .ok (.istore 5, 2) := by decide +kernel
theorem dX5_wouldHeat_104 : decode cX5_wouldHeat 104 = .ok (.iinc 6 1, 3) := by decide +kernel
theorem dX5_wouldHeat_107 : decode cX5_wouldHeat 107 = .ok (.goto (-39), 3) := by decide +kernel
theorem dX5_wouldHeat_110 : decode cX5_wouldHeat 110 = .ok (.aload_n 0, 1) := by decide +kernel
theorem dX5_wouldHeat_111 : decode cX5_wouldHeat 111 = .ok (.invokevirtual 242, 3) := by decide +kernel
theorem dX5_wouldHeat_114 : decode cX5_wouldHeat 114 = .ok (.iload_n 2, 1) := by decide +kernel
theorem dX5_wouldHeat_115 : decode cX5_wouldHeat 115 = .ok (.ifCond .ne 7, 3) := by decide +kernel
theorem dX5_wouldHeat_118 : decode cX5_wouldHeat 118 = .ok (.iload_n 3, 1) := by decide +kernel
theorem dX5_wouldHeat_119 : decode cX5_wouldHeat 119 = .ok (.goto 15, 3) := by decide +kernel
theorem dX5_wouldHeat_122 : decode cX5_wouldHeat 122 = .ok (.iload_n 2, 1) := by decide +kernel
theorem dX5_wouldHeat_123 : decode cX5_wouldHeat 123 = .ok (.iconst 1, 1) := by decide +kernel
theorem dX5_wouldHeat_124 : decode cX5_wouldHeat 124 = .ok (.if_icmp .ne 8, 3) := by decide +kernel
theorem dX5_wouldHeat_127 : decode cX5_wouldHeat 127 = .ok (.iload 4, 2) := by decide +kernel
theorem dX5_wouldHeat_129 : decode cX5_wouldHeat 129 = .ok (.goto 5, 3) := by decide +kernel
theorem dX5_wouldHeat_132 : decode cX5_wouldHeat 132 = .ok (.iload 5, 2) := by decide +kernel
theorem dX5_wouldHeat_134 : decode cX5_wouldHeat 134 = .ok (.ireturn, 1) := by decide +kernel
theorem dX5_ifHeated_0 : decode cX5_ifHeated 0 = .ok (.aload_n 0, 1) := by decide +kernel
theorem dX5_ifHeated_1 : decode cX5_ifHeated 1 = .ok (.iload_n 1, 1) := by decide +kernel
theorem dX5_ifHeated_2 : decode cX5_ifHeated 2 = .ok (.iconst 1, 1) := by decide +kernel
theorem dX5_ifHeated_3 : decode cX5_ifHeated 3 = .ok (.bipush 9, 2) := by decide +kernel
theorem dX5_ifHeated_5 : decode cX5_ifHeated 5 = .ok (.invokestatic 39, 3) := by decide +kernel
theorem dX5_ifHeated_8 : decode cX5_ifHeated 8 = .ok (.ifCond .eq 16, 3) := by decide +kernel
theorem dX5_ifHeated_11 : decode cX5_ifHeated 11 = .ok (.iload_n 2, 1) := by decide +kernel
theorem dX5_ifHeated_12 : decode cX5_ifHeated 12 = .ok (.iconst 0, 1) := by decide +kernel
theorem dX5_ifHeated_13 : decode cX5_ifHeated 13 = .ok (.iconst 2, 1) := by decide +kernel
theorem dX5_ifHeated_14 : decode cX5_ifHeated 14 = .ok (.invokestatic 39, 3) := by decide +kernel
theorem dX5_ifHeated_17 : decode cX5_ifHeated 17 = .ok (.ifCond .eq 7, 3) := by decide +kernel
theorem dX5_ifHeated_20 : decode cX5_ifHeated 20 = .ok (.iconst 0, 1) := by decide +kernel
theorem dX5_ifHeated_21 : decode cX5_ifHeated 21 = .ok (.goto 4, 3) := by decide +kernel
theorem dX5_ifHeated_24 : decode cX5_ifHeated 24 = .ok (.iconst 1, 1) := by decide +kernel
theorem dX5_ifHeated_25 : decode cX5_ifHeated 25 = .ok (.putfield 35, 3) := by decide +kernel
theorem dX5_ifHeated_28 : decode cX5_ifHeated 28 = .ok (.aload_n 0, 1) := by decide +kernel
theorem dX5_ifHeated_29 : decode cX5_ifHeated 29 = .ok (.getfield 35, 3) := by decide +kernel
theorem dX5_ifHeated_32 : decode cX5_ifHeated 32 = .ok (.ifCond .le 7, 3) := by decide +kernel
theorem dX5_ifHeated_35 : decode cX5_ifHeated 35 = .ok (.iconst 0, 1) := by decide +kernel
theorem dX5_ifHeated_36 : decode cX5_ifHeated 36 = .ok (.goto 9, 3) := by decide +kernel
theorem dX5_ifHeated_39 : decode cX5_ifHeated 39 = .ok (.aload_n 0, 1) := by decide +kernel
theorem dX5_ifHeated_40 : decode cX5_ifHeated 40 = .ok (.iload_n 1, 1) := by decide +kernel
theorem dX5_ifHeated_41 : decode cX5_ifHeated 41 = .ok (.iload_n 2, 1) := by decide +kernel
theorem dX5_ifHeated_42 : decode cX5_ifHeated 42 = .ok (.invokevirtual 251, 3) := by decide +kernel
theorem dX5_ifHeated_45 : decode cX5_ifHeated 45 = .ok (.ireturn, 1) := by decide +kernel
theorem dX5_wouldRead_0 : decode cX5_wouldRead 0 = .ok (.iconst 0, 1) := by decide +kernel
theorem dX5_wouldRead_1 : decode cX5_wouldRead 1 = .ok (.istore_n 3, 1) := by decide +kernel
theorem dX5_wouldRead_2 : decode cX5_wouldRead 2 = .ok (.iconst 0, 1) := by decide +kernel
theorem dX5_wouldRead_3 : decode cX5_wouldRead 3 = .ok (.istore 4, 2) := by decide +kernel
theorem dX5_wouldRead_5 : decode cX5_wouldRead 5 = .ok (.iload 4, 2) := by decide +kernel
theorem dX5_wouldRead_7 : decode cX5_wouldRead 7 = .ok (.bipush 16, 2) := by decide +kernel
theorem dX5_wouldRead_9 : decode cX5_wouldRead 9 = .ok (.if_icmp .ge 41, 3) := by decide +kernel
theorem dX5_wouldRead_12 : decode cX5_wouldRead 12 = .ok (.iload_n 3, 1) := by decide +kernel
theorem dX5_wouldRead_13 : decode cX5_wouldRead 13 = .ok (.aload_n 0, 1) := by decide +kernel
theorem dX5_wouldRead_14 : decode cX5_wouldRead 14 = .ok (.iload 4, 2) := by decide +kernel
theorem dX5_wouldRead_16 : decode cX5_wouldRead 16 = .ok (.invokevirtual 206, 3) := by decide +kernel
theorem dX5_wouldRead_19 : decode cX5_wouldRead 19 = .ok (.aload_n 0, 1) := by decide +kernel
theorem dX5_wouldRead_20 : decode cX5_wouldRead 20 = .ok (.iload 4, 2) := by decide +kernel
theorem dX5_wouldRead_22 : decode cX5_wouldRead 22 = .ok (.aload_n 0, 1) := by decide +kernel
theorem dX5_wouldRead_23 : decode cX5_wouldRead 23 = .ok (.getfield 7, 3) := by decide +kernel
theorem dX5_wouldRead_26 : decode cX5_wouldRead 26 = .ok (.iconst 0, 1) := by decide +kernel
theorem dX5_wouldRead_27 : decode cX5_wouldRead 27 = .ok (.iaload, 1) := by decide +kernel
theorem dX5_wouldRead_28 : decode cX5_wouldRead 28 = .ok (.iload_n 1, 1) := by decide +kernel
theorem dX5_wouldRead_29 : decode cX5_wouldRead 29 = .ok (.iadd, 1) := by decide +kernel
theorem dX5_wouldRead_30 : decode cX5_wouldRead 30 = .ok (.iload_n 2, 1) := by decide +kernel
theorem dX5_wouldRead_31 : decode cX5_wouldRead 31 = .ok (.invokevirtual 88, 3) := by decide +kernel
theorem dX5_wouldRead_34 : decode cX5_wouldRead 34 = .ok (.if_icmp .ne 7, 3) := by decide +kernel
theorem dX5_wouldRead_37 : decode cX5_wouldRead 37 = .ok (.iconst 0, 1) := by decide +kernel
theorem dX5_wouldRead_38 : decode cX5_wouldRead 38 = .ok (.goto 4, 3) := by decide +kernel
theorem dX5_wouldRead_41 : decode cX5_wouldRead 41 = .ok (.iconst 1, 1) := by decide +kernel
theorem dX5_wouldRead_42 : decode cX5_wouldRead 42 = .ok (.iadd, 1) := by decide +kernel
theorem dX5_wouldRead_43 : decode cX5_wouldRead 43 = .ok (.istore_n 3, 1) := by decide +kernel
theorem dX5_wouldRead_44 : decode cX5_wouldRead 44 = .ok (.iinc 4 1, 3) := by decide +kernel
theorem dX5_wouldRead_47 : decode cX5_wouldRead 47 = .ok (.goto (-42), 3) := by decide +kernel
theorem dX5_wouldRead_50 : decode cX5_wouldRead 50 = .ok (.iload_n 3, 1) := by decide +kernel
theorem dX5_wouldRead_51 : decode cX5_wouldRead 51 = .ok (.ireturn, 1) := by decide +kernel
theorem dX5_ifRead_0 : decode cX5_ifRead 0 = .ok (.aload_n 0, 1) := by decide +kernel
theorem dX5_ifRead_1 : decode cX5_ifRead 1 = .ok (.iload_n 1, 1) := by decide +kernel
theorem dX5_ifRead_2 : decode cX5_ifRead 2 = .ok (.iconst 0, 1) := by decide +kernel
theorem dX5_ifRead_3 : decode cX5_ifRead 3 = .ok (.bipush 99, 2) := by decide +kernel
theorem dX5_ifRead_5 : decode cX5_ifRead 5 = .ok (.invokestatic 39, 3) := by decide +kernel
theorem dX5_ifRead_8 : decode cX5_ifRead 8 = .ok (.ifCond .eq 7, 3) := by decide +kernel
theorem dX5_ifRead_11 : decode cX5_ifRead 11 = .ok (.iconst 0, 1) := by decide +kernel
theorem dX5_ifRead_12 : decode cX5_ifRead 12 = .ok (.goto 4, 3) := by decide +kernel
theorem dX5_ifRead_15 : decode cX5_ifRead 15 = .ok (.iconst 1, 1) := by decide +kernel
theorem dX5_ifRead_16 : decode cX5_ifRead 16 = .ok (.putfield 35, 3) := by decide +kernel
theorem dX5_ifRead_19 : decode cX5_ifRead 19 = .ok (.aload_n 0, 1) := by decide +kernel
theorem dX5_ifRead_20 : decode cX5_ifRead 20 = .ok (.getfield 35, 3) := by decide +kernel
theorem dX5_ifRead_23 : decode cX5_ifRead 23 = .ok (.ifCond .le 7, 3) := by decide +kernel
theorem dX5_ifRead_26 : decode cX5_ifRead 26 = .ok (.iconst 0, 1) := by decide +kernel
theorem dX5_ifRead_27 : decode cX5_ifRead 27 = .ok (.goto 9, 3) := by decide +kernel
theorem dX5_ifRead_30 : decode cX5_ifRead 30 = .ok (.aload_n 0, 1) := by decide +kernel
theorem dX5_ifRead_31 : decode cX5_ifRead 31 = .ok (.iload_n 1, 1) := by decide +kernel
theorem dX5_ifRead_32 : decode cX5_ifRead 32 = .ok (.iload_n 2, 1) := by decide +kernel
theorem dX5_ifRead_33 : decode cX5_ifRead 33 = .ok (.invokevirtual 254, 3) := by decide +kernel
theorem dX5_ifRead_36 : decode cX5_ifRead 36 = .ok (.ireturn, 1) := by decide +kernel
theorem dX5_worstNow_0 : decode cX5_worstNow 0 = .ok (.iconst (-1), 1) := by decide +kernel
theorem dX5_worstNow_1 : decode cX5_worstNow 1 = .ok (.istore_n 1, 1) := by decide +kernel
theorem dX5_worstNow_2 : decode cX5_worstNow 2 = .ok (.iconst 0, 1) := by decide +kernel
theorem dX5_worstNow_3 : decode cX5_worstNow 3 = .ok (.istore_n 2, 1) := by decide +kernel
theorem dX5_worstNow_4 : decode cX5_worstNow 4 = .ok (.iconst 0, 1) := by decide +kernel
theorem dX5_worstNow_5 : decode cX5_worstNow 5 = .ok (.istore_n 3, 1) := by decide +kernel
theorem dX5_worstNow_6 : decode cX5_worstNow 6 = .ok (.iload_n 3, 1) := by decide +kernel
theorem dX5_worstNow_7 : decode cX5_worstNow 7 = .ok (.bipush 20, 2) := by decide +kernel
theorem dX5_worstNow_9 : decode cX5_worstNow 9 = .ok (.if_icmp .ge 65, 3) := by decide +kernel
theorem dX5_worstNow_12 : decode cX5_worstNow 12 = .ok (.aload_n 0, 1) := by decide +kernel
theorem dX5_worstNow_13 : decode cX5_worstNow 13 = .ok (.iload_n 3, 1) := by decide +kernel
theorem dX5_worstNow_14 : decode cX5_worstNow 14 = .ok (.invokevirtual 105, 3) := by decide +kernel
theorem dX5_worstNow_17 : decode cX5_worstNow 17 = .ok (.invokestatic 76, 3) := by decide +kernel
theorem dX5_worstNow_20 : decode cX5_worstNow 20 = .ok (.iconst 4, 1) := by decide +kernel
theorem dX5_worstNow_21 : decode cX5_worstNow 21 = .ok (.if_icmp .ne 19, 3) := by decide +kernel
theorem dX5_worstNow_24 : decode cX5_worstNow 24 = .ok (.aload_n 0, 1) := by decide +kernel
theorem dX5_worstNow_25 : decode cX5_worstNow 25 = .ok (.iload_n 3, 1) := by decide +kernel
theorem dX5_worstNow_26 : decode cX5_worstNow 26 = .ok (.invokevirtual 95, 3) := by decide +kernel
theorem dX5_worstNow_29 : decode cX5_worstNow 29 = .ok (.ifCond .ne 11, 3) := by decide +kernel
theorem dX5_worstNow_32 : decode cX5_worstNow 32 = .ok (.aload_n 0, 1) := by decide +kernel
theorem dX5_worstNow_33 : decode cX5_worstNow 33 = .ok (.iload_n 3, 1) := by decide +kernel
theorem dX5_worstNow_34 : decode cX5_worstNow 34 = .ok (.invokevirtual 193, 3) := by decide +kernel
theorem dX5_worstNow_37 : decode cX5_worstNow 37 = .ok (.goto 4, 3) := by decide +kernel
theorem dX5_worstNow_40 : decode cX5_worstNow 40 = .ok (.iconst 0, 1) := by decide +kernel
theorem dX5_worstNow_41 : decode cX5_worstNow 41 = .ok (.istore 4, 2) := by decide +kernel
theorem dX5_worstNow_43 : decode cX5_worstNow 43 = .ok (.iload 4, 2) := by decide +kernel
theorem dX5_worstNow_45 : decode cX5_worstNow 45 = .ok (.iload_n 2, 1) := by decide +kernel
theorem dX5_worstNow_46 : decode cX5_worstNow 46 = .ok (.if_icmp .le 7, 3) := by decide +kernel
theorem dX5_worstNow_49 : decode cX5_worstNow 49 = .ok (.iload_n 3, 1) := by decide +kernel
theorem dX5_worstNow_50 : decode cX5_worstNow 50 = .ok (.goto 4, 3) := by decide +kernel
theorem dX5_worstNow_53 : decode cX5_worstNow 53 = .ok (.iload_n 1, 1) := by decide +kernel
theorem dX5_worstNow_54 : decode cX5_worstNow 54 = .ok (.istore_n 1, 1) := by decide +kernel
theorem dX5_worstNow_55 : decode cX5_worstNow 55 = .ok (.iload 4, 2) := by decide +kernel
theorem dX5_worstNow_57 : decode cX5_worstNow 57 = .ok (.iload_n 2, 1) := by decide +kernel
theorem dX5_worstNow_58 : decode cX5_worstNow 58 = .ok (.if_icmp .le 8, 3) := by decide +kernel
theorem dX5_worstNow_61 : decode cX5_worstNow 61 = .ok (.iload 4, 2) := by decide +kernel
theorem dX5_worstNow_63 : decode cX5_worstNow 63 = .ok (.goto 4, 3) := by decide +kernel
theorem dX5_worstNow_66 : decode cX5_worstNow 66 = .ok (.iload_n 2, 1) := by decide +kernel
theorem dX5_worstNow_67 : decode cX5_worstNow 67 = .ok (.istore_n 2, 1) := by decide +kernel
theorem dX5_worstNow_68 : decode cX5_worstNow 68 = .ok (.iinc 3 1, 3) := by decide +kernel
theorem dX5_worstNow_71 : decode cX5_worstNow 71 = .ok (.goto (-65), 3) := by decide +kernel
theorem dX5_worstNow_74 : decode cX5_worstNow 74 = .ok (.iload_n 1, 1) := by decide +kernel
theorem dX5_worstNow_75 : decode cX5_worstNow 75 = .ok (.ireturn, 1) := by decide +kernel
theorem dX5_worst_0 : decode cX5_worst 0 = .ok (.aload_n 0, 1) := by decide +kernel
theorem dX5_worst_1 : decode cX5_worst 1 = .ok (.iconst 0, 1) := by decide +kernel
theorem dX5_worst_2 : decode cX5_worst 2 = .ok (.putfield 35, 3) := by decide +kernel
theorem dX5_worst_5 : decode cX5_worst 5 = .ok (.aload_n 0, 1) := by decide +kernel
theorem dX5_worst_6 : decode cX5_worst 6 = .ok (.invokevirtual 258, 3) := by decide +kernel
theorem dX5_worst_9 : decode cX5_worst 9 = .ok (.ireturn, 1) := by decide +kernel
theorem dX5_share_0 : decode cX5_share 0 = .ok (.iconst 0, 1) := by decide +kernel
theorem dX5_share_1 : decode cX5_share 1 = .ok (.istore_n 1, 1) := by decide +kernel
theorem dX5_share_2 : decode cX5_share 2 = .ok (.iconst 0, 1) := by decide +kernel
theorem dX5_share_3 : decode cX5_share 3 = .ok (.istore_n 2, 1) := by decide +kernel
theorem dX5_share_4 : decode cX5_share 4 = .ok (.bipush 7, 2) := by decide +kernel
theorem dX5_share_6 : decode cX5_share 6 = .ok (.istore_n 3, 1) := by decide +kernel
theorem dX5_share_7 : decode cX5_share 7 = .ok (.iload_n 3, 1) := by decide +kernel
theorem dX5_share_8 : decode cX5_share 8 = .ok (.sipush 327, 3) := by decide +kernel
theorem dX5_share_11 : decode cX5_share 11 = .ok (.if_icmp .ge 44, 3) := by decide +kernel
theorem dX5_share_14 : decode cX5_share 14 = .ok (.iload_n 1, 1) := by decide +kernel
theorem dX5_share_15 : decode cX5_share 15 = .ok (.aload_n 0, 1) := by decide +kernel
theorem dX5_share_16 : decode cX5_share 16 = .ok (.getfield 7, 3) := by decide +kernel
theorem dX5_share_19 : decode cX5_share 19 = .ok (.iload_n 3, 1) := by decide +kernel
theorem dX5_share_20 : decode cX5_share 20 = .ok (.iaload, 1) := by decide +kernel
theorem dX5_share_21 : decode cX5_share 21 = .ok (.iconst 3, 1) := by decide +kernel
theorem dX5_share_22 : decode cX5_share 22 = .ok (.if_icmp .ne 7, 3) := by decide +kernel
theorem dX5_share_25 : decode cX5_share 25 = .ok (.iconst 1, 1) := by decide +kernel
theorem dX5_share_26 : decode cX5_share 26 = .ok (.goto 4, 3) := by decide +kernel
theorem dX5_share_29 : decode cX5_share 29 = .ok (.iconst 0, 1) := by decide +kernel
theorem dX5_share_30 : decode cX5_share 30 = .ok (.iadd, 1) := by decide +kernel
theorem dX5_share_31 : decode cX5_share 31 = .ok (.istore_n 1, 1) := by decide +kernel
theorem dX5_share_32 : decode cX5_share 32 = .ok (.iload_n 2, 1) := by decide +kernel
theorem dX5_share_33 : decode cX5_share 33 = .ok (.aload_n 0, 1) := by decide +kernel
theorem dX5_share_34 : decode cX5_share 34 = .ok (.getfield 7, 3) := by decide +kernel
theorem dX5_share_37 : decode cX5_share 37 = .ok (.iload_n 3, 1) := by decide +kernel
theorem dX5_share_38 : decode cX5_share 38 = .ok (.iaload, 1) := by decide +kernel
theorem dX5_share_39 : decode cX5_share 39 = .ok (.ifCond .le 7, 3) := by decide +kernel
theorem dX5_share_42 : decode cX5_share 42 = .ok (.iconst 1, 1) := by decide +kernel
theorem dX5_share_43 : decode cX5_share 43 = .ok (.goto 4, 3) := by decide +kernel
theorem dX5_share_46 : decode cX5_share 46 = .ok (.iconst 0, 1) := by decide +kernel
theorem dX5_share_47 : decode cX5_share 47 = .ok (.iadd, 1) := by decide +kernel
theorem dX5_share_48 : decode cX5_share 48 = .ok (.istore_n 2, 1) := by decide +kernel
theorem dX5_share_49 : decode cX5_share 49 = .ok (.iinc 3 1, 3) := by decide +kernel
theorem dX5_share_52 : decode cX5_share 52 = .ok (.goto (-45), 3) := by decide +kernel
theorem dX5_share_55 : decode cX5_share 55 = .ok (.iload_n 2, 1) := by decide +kernel
theorem dX5_share_56 : decode cX5_share 56 = .ok (.ifCond .ne 7, 3) := by decide +kernel
theorem dX5_share_59 : decode cX5_share 59 = .ok (.dconst 1, 1) := by decide +kernel
theorem dX5_share_60 : decode cX5_share 60 = .ok (.goto 8, 3) := by decide +kernel
theorem dX5_share_63 : decode cX5_share 63 = .ok (.iload_n 1, 1) := by decide +kernel
theorem dX5_share_64 : decode cX5_share 64 = .ok (.i2d, 1) := by decide +kernel
theorem dX5_share_65 : decode cX5_share 65 = .ok (.iload_n 2, 1) := by decide +kernel
theorem dX5_share_66 : decode cX5_share 66 = .ok (.i2d, 1) := by decide +kernel
theorem dX5_share_67 : decode cX5_share 67 = .ok (.ddiv, 1) := by decide +kernel
theorem dX5_share_68 : decode cX5_share 68 = .ok (.dreturn, 1) := by decide +kernel
theorem dX5_sureShare_0 : decode cX5_sureShare 0 = .ok (.aload_n 0, 1) := by decide +kernel
theorem dX5_sureShare_1 : decode cX5_sureShare 1 = .ok (.iconst 0, 1) := by decide +kernel
theorem dX5_sureShare_2 : decode cX5_sureShare 2 = .ok (.putfield 35, 3) := by decide +kernel
theorem dX5_sureShare_5 : decode cX5_sureShare 5 = .ok (.aload_n 0, 1) := by decide +kernel
theorem dX5_sureShare_6 : decode cX5_sureShare 6 = .ok (.invokevirtual 261, 3) := by decide +kernel
theorem dX5_sureShare_9 : decode cX5_sureShare 9 = .ok (.dreturn, 1) := by decide +kernel
theorem dX5_bitsOf_0 : decode cX5_bitsOf 0 = .ok (.dload_n 0, 1) := by decide +kernel
theorem dX5_bitsOf_1 : decode cX5_bitsOf 1 = .ok (.dconst 0, 1) := by decide +kernel
theorem dX5_bitsOf_2 : decode cX5_bitsOf 2 = .ok (.dcmp .l, 1) := by decide +kernel
theorem dX5_bitsOf_3 : decode cX5_bitsOf 3 = .ok (.ifCond .ne 5, 3) := by decide +kernel
theorem dX5_bitsOf_6 : decode cX5_bitsOf 6 = .ok (.lconst 0, 1) := by decide +kernel
theorem dX5_bitsOf_7 : decode cX5_bitsOf 7 = .ok (.lreturn, 1) := by decide +kernel
theorem dX5_bitsOf_8 : decode cX5_bitsOf 8 = .ok (.dload_n 0, 1) := by decide +kernel
theorem dX5_bitsOf_9 : decode cX5_bitsOf 9 = .ok (.dstore_n 2, 1) := by decide +kernel
theorem dX5_bitsOf_10 : decode cX5_bitsOf 10 = .ok (.ldc2_w 265, 3) := by decide +kernel
theorem dX5_bitsOf_13 : decode cX5_bitsOf 13 = .ok (.lstore 4, 2) := by decide +kernel
theorem dX5_bitsOf_15 : decode cX5_bitsOf 15 = .ok (.dload_n 2, 1) := by decide +kernel
theorem dX5_bitsOf_16 : decode cX5_bitsOf 16 = .ok (.ldc2_w 267, 3) := by decide +kernel
theorem dX5_bitsOf_19 : decode cX5_bitsOf 19 = .ok (.dcmp .l, 1) := by decide +kernel
theorem dX5_bitsOf_20 : decode cX5_bitsOf 20 = .ok (.ifCond .lt 18, 3) := by decide +kernel
theorem dX5_bitsOf_23 : decode cX5_bitsOf 23 = .ok (.dload_n 2, 1) := by decide +kernel
theorem dX5_bitsOf_24 : decode cX5_bitsOf 24 = .ok (.ldc2_w 267, 3) := by decide +kernel
theorem dX5_bitsOf_27 : decode cX5_bitsOf 27 = .ok (.ddiv, 1) := by decide +kernel
theorem dX5_bitsOf_28 : decode cX5_bitsOf 28 = .ok (.dstore_n 2, 1) := by decide +kernel
theorem dX5_bitsOf_29 : decode cX5_bitsOf 29 = .ok (.lload 4, 2) := by decide +kernel
theorem dX5_bitsOf_31 : decode cX5_bitsOf 31 = .ok (.lconst 1, 1) := by decide +kernel
theorem dX5_bitsOf_32 : decode cX5_bitsOf 32 = .ok (.ladd, 1) := by decide +kernel
theorem dX5_bitsOf_33 : decode cX5_bitsOf 33 = .ok (.lstore 4, 2) := by decide +kernel
theorem dX5_bitsOf_35 : decode cX5_bitsOf 35 = .ok (.goto (-20), 3) := by decide +kernel
theorem dX5_bitsOf_38 : decode cX5_bitsOf 38 = .ok (.dload_n 2, 1) := by decide +kernel
theorem dX5_bitsOf_39 : decode cX5_bitsOf 39 = .ok (.dconst 1, 1) := by decide +kernel
theorem dX5_bitsOf_40 : decode cX5_bitsOf 40 = .ok (.dcmp .g, 1) := by decide +kernel
theorem dX5_bitsOf_41 : decode cX5_bitsOf 41 = .ok (.ifCond .ge 18, 3) := by decide +kernel
theorem dX5_bitsOf_44 : decode cX5_bitsOf 44 = .ok (.dload_n 2, 1) := by decide +kernel
theorem dX5_bitsOf_45 : decode cX5_bitsOf 45 = .ok (.ldc2_w 267, 3) := by decide +kernel
theorem dX5_bitsOf_48 : decode cX5_bitsOf 48 = .ok (.dmul, 1) := by decide +kernel
theorem dX5_bitsOf_49 : decode cX5_bitsOf 49 = .ok (.dstore_n 2, 1) := by decide +kernel
theorem dX5_bitsOf_50 : decode cX5_bitsOf 50 = .ok (.lload 4, 2) := by decide +kernel
theorem dX5_bitsOf_52 : decode cX5_bitsOf 52 = .ok (.lconst 1, 1) := by decide +kernel
theorem dX5_bitsOf_53 : decode cX5_bitsOf 53 = .ok (.lsub, 1) := by decide +kernel
theorem dX5_bitsOf_54 : decode cX5_bitsOf 54 = .ok (.lstore 4, 2) := by decide +kernel
theorem dX5_bitsOf_56 : decode cX5_bitsOf 56 = .ok (.goto (-18), 3) := by decide +kernel
theorem dX5_bitsOf_59 : decode cX5_bitsOf 59 = .ok (.lload 4, 2) := by decide +kernel
theorem dX5_bitsOf_61 : decode cX5_bitsOf 61 = .ok (.bipush 52, 2) := by decide +kernel
theorem dX5_bitsOf_63 : decode cX5_bitsOf 63 = .ok (.lshl, 1) := by decide +kernel
theorem dX5_bitsOf_64 : decode cX5_bitsOf 64 = .ok (.dload_n 2, 1) := by decide +kernel
theorem dX5_bitsOf_65 : decode cX5_bitsOf 65 = .ok (.ldc2_w 269, 3) := by decide +kernel
theorem dX5_bitsOf_68 : decode cX5_bitsOf 68 = .ok (.dmul, 1) := by decide +kernel
theorem dX5_bitsOf_69 : decode cX5_bitsOf 69 = .ok (.d2l, 1) := by decide +kernel
theorem dX5_bitsOf_70 : decode cX5_bitsOf 70 = .ok (.ladd, 1) := by decide +kernel
theorem dX5_bitsOf_71 : decode cX5_bitsOf 71 = .ok (.ldc2_w 271, 3) := by decide +kernel
theorem dX5_bitsOf_74 : decode cX5_bitsOf 74 = .ok (.lsub, 1) := by decide +kernel
theorem dX5_bitsOf_75 : decode cX5_bitsOf 75 = .ok (.lreturn, 1) := by decide +kernel
theorem dX5_mix_0 : decode cX5_mix 0 = .ok (.aload_n 0, 1) := by decide +kernel
theorem dX5_mix_1 : decode cX5_mix 1 = .ok (.ldc2_w 273, 3) := by decide +kernel
theorem dX5_mix_4 : decode cX5_mix 4 = .ok (.aload_n 0, 1) := by decide +kernel
theorem dX5_mix_5 : decode cX5_mix 5 = .ok (.getfield 275, 3) := by decide +kernel
theorem dX5_mix_8 : decode cX5_mix 8 = .ok (.lmul, 1) := by decide +kernel
theorem dX5_mix_9 : decode cX5_mix 9 = .ok (.lload_n 1, 1) := by decide +kernel
theorem dX5_mix_10 : decode cX5_mix 10 = .ok (.ladd, 1) := by decide +kernel
theorem dX5_mix_11 : decode cX5_mix 11 = .ok (.putfield 275, 3) := by decide +kernel
theorem dX5_mix_14 : decode cX5_mix 14 = .ok (.return_, 1) := by decide +kernel
theorem dX5_mixRow_0 : decode cX5_mixRow 0 = .ok (.iconst 0, 1) := by decide +kernel
theorem dX5_mixRow_1 : decode cX5_mixRow 1 = .ok (.istore_n 2, 1) := by decide +kernel
theorem dX5_mixRow_2 : decode cX5_mixRow 2 = .ok (.iload_n 2, 1) := by decide +kernel
theorem dX5_mixRow_3 : decode cX5_mixRow 3 = .ok (.bipush 8, 2) := by decide +kernel
theorem dX5_mixRow_5 : decode cX5_mixRow 5 = .ok (.if_icmp .gt 20, 3) := by decide +kernel
theorem dX5_mixRow_8 : decode cX5_mixRow 8 = .ok (.aload_n 0, 1) := by decide +kernel
theorem dX5_mixRow_9 : decode cX5_mixRow 9 = .ok (.aload_n 0, 1) := by decide +kernel
theorem dX5_mixRow_10 : decode cX5_mixRow 10 = .ok (.iload_n 1, 1) := by decide +kernel
theorem dX5_mixRow_11 : decode cX5_mixRow 11 = .ok (.iload_n 2, 1) := by decide +kernel
theorem dX5_mixRow_12 : decode cX5_mixRow 12 = .ok (.invokevirtual 199, 3) := by decide +kernel
theorem dX5_mixRow_15 : decode cX5_mixRow 15 = .ok (.i2l, 1) := by decide +kernel
theorem dX5_mixRow_16 : decode cX5_mixRow 16 = .ok (.invokevirtual 279, 3) := by decide +kernel
theorem dX5_mixRow_19 : decode cX5_mixRow 19 = .ok (.iinc 2 1, 3) := by decide +kernel
theorem dX5_mixRow_22 : decode cX5_mixRow 22 = .ok (.goto (-20), 3) := by decide +kernel
theorem dX5_mixRow_25 : decode cX5_mixRow 25 = .ok (.iconst 0, 1) := by decide +kernel
theorem dX5_mixRow_26 : decode cX5_mixRow 26 = .ok (.istore_n 2, 1) := by decide +kernel
theorem dX5_mixRow_27 : decode cX5_mixRow 27 = .ok (.iload_n 2, 1) := by decide +kernel
theorem dX5_mixRow_28 : decode cX5_mixRow 28 = .ok (.bipush 16, 2) := by decide +kernel
theorem dX5_mixRow_30 : decode cX5_mixRow 30 = .ok (.if_icmp .ge 20, 3) := by decide +kernel
theorem dX5_mixRow_33 : decode cX5_mixRow 33 = .ok (.aload_n 0, 1) := by decide +kernel
theorem dX5_mixRow_34 : decode cX5_mixRow 34 = .ok (.aload_n 0, 1) := by decide +kernel
theorem dX5_mixRow_35 : decode cX5_mixRow 35 = .ok (.iload_n 1, 1) := by decide +kernel
theorem dX5_mixRow_36 : decode cX5_mixRow 36 = .ok (.iload_n 2, 1) := by decide +kernel
theorem dX5_mixRow_37 : decode cX5_mixRow 37 = .ok (.invokevirtual 46, 3) := by decide +kernel
theorem dX5_mixRow_40 : decode cX5_mixRow 40 = .ok (.i2l, 1) := by decide +kernel
theorem dX5_mixRow_41 : decode cX5_mixRow 41 = .ok (.invokevirtual 279, 3) := by decide +kernel
theorem dX5_mixRow_44 : decode cX5_mixRow 44 = .ok (.iinc 2 1, 3) := by decide +kernel
theorem dX5_mixRow_47 : decode cX5_mixRow 47 = .ok (.goto (-20), 3) := by decide +kernel
theorem dX5_mixRow_50 : decode cX5_mixRow 50 = .ok (.return_, 1) := by decide +kernel
theorem dX5_mixKey_0 : decode cX5_mixKey 0 = .ok (.iconst 0, 1) := by decide +kernel
theorem dX5_mixKey_1 : decode cX5_mixKey 1 = .ok (.istore_n 2, 1) := by decide +kernel
theorem dX5_mixKey_2 : decode cX5_mixKey 2 = .ok (.iload_n 2, 1) := by decide +kernel
theorem dX5_mixKey_3 : decode cX5_mixKey 3 = .ok (.iconst 5, 1) := by decide +kernel
theorem dX5_mixKey_4 : decode cX5_mixKey 4 = .ok (.if_icmp .gt 20, 3) := by decide +kernel
theorem dX5_mixKey_7 : decode cX5_mixKey 7 = .ok (.aload_n 0, 1) := by decide +kernel
theorem dX5_mixKey_8 : decode cX5_mixKey 8 = .ok (.aload_n 0, 1) := by decide +kernel
theorem dX5_mixKey_9 : decode cX5_mixKey 9 = .ok (.iload_n 1, 1) := by decide +kernel
theorem dX5_mixKey_10 : decode cX5_mixKey 10 = .ok (.iload_n 2, 1) := by decide +kernel
theorem dX5_mixKey_11 : decode cX5_mixKey 11 = .ok (.invokevirtual 221, 3) := by decide +kernel
theorem dX5_mixKey_14 : decode cX5_mixKey 14 = .ok (.i2l, 1) := by decide +kernel
theorem dX5_mixKey_15 : decode cX5_mixKey 15 = .ok (.invokevirtual 279, 3) := by decide +kernel
theorem dX5_mixKey_18 : decode cX5_mixKey 18 = .ok (.iinc 2 1, 3) := by decide +kernel
theorem dX5_mixKey_21 : decode cX5_mixKey 21 = .ok (.goto (-19), 3) := by decide +kernel
theorem dX5_mixKey_24 : decode cX5_mixKey 24 = .ok (.aload_n 0, 1) := by decide +kernel
theorem dX5_mixKey_25 : decode cX5_mixKey 25 = .ok (.aload_n 0, 1) := by decide +kernel
theorem dX5_mixKey_26 : decode cX5_mixKey 26 = .ok (.iload_n 1, 1) := by decide +kernel
theorem dX5_mixKey_27 : decode cX5_mixKey 27 = .ok (.iconst 0, 1) := by decide +kernel
theorem dX5_mixKey_28 : decode cX5_mixKey 28 = .ok (.invokevirtual 224, 3) := by decide +kernel
theorem dX5_mixKey_31 : decode cX5_mixKey 31 = .ok (.i2l, 1) := by decide +kernel
theorem dX5_mixKey_32 : decode cX5_mixKey 32 = .ok (.invokevirtual 279, 3) := by decide +kernel
theorem dX5_mixKey_35 : decode cX5_mixKey 35 = .ok (.aload_n 0, 1) := by decide +kernel
theorem dX5_mixKey_36 : decode cX5_mixKey 36 = .ok (.aload_n 0, 1) := by decide +kernel
theorem dX5_mixKey_37 : decode cX5_mixKey 37 = .ok (.iload_n 1, 1) := by decide +kernel
theorem dX5_mixKey_38 : decode cX5_mixKey 38 = .ok (.iconst 1, 1) := by decide +kernel
theorem dX5_mixKey_39 : decode cX5_mixKey 39 = .ok (.invokevirtual 224, 3) := by decide +kernel
theorem dX5_mixKey_42 : decode cX5_mixKey 42 = .ok (.i2l, 1) := by decide +kernel
theorem dX5_mixKey_43 : decode cX5_mixKey 43 = .ok (.invokevirtual 279, 3) := by decide +kernel
theorem dX5_mixKey_46 : decode cX5_mixKey 46 = .ok (.return_, 1) := by decide +kernel
theorem dX5_digest_0 : decode cX5_digest 0 = .ok (.aload_n 0, 1) := by decide +kernel
theorem dX5_digest_1 : decode cX5_digest 1 = .ok (.iconst 0, 1) := by decide +kernel
theorem dX5_digest_2 : decode cX5_digest 2 = .ok (.putfield 35, 3) := by decide +kernel
theorem dX5_digest_5 : decode cX5_digest 5 = .ok (.aload_n 0, 1) := by decide +kernel
theorem dX5_digest_6 : decode cX5_digest 6 = .ok (.ldc2_w 283, 3) := by decide +kernel
theorem dX5_digest_9 : decode cX5_digest 9 = .ok (.putfield 275, 3) := by decide +kernel
theorem dX5_digest_12 : decode cX5_digest 12 = .ok (.iconst 0, 1) := by decide +kernel
theorem dX5_digest_13 : decode cX5_digest 13 = .ok (.istore_n 1, 1) := by decide +kernel
theorem dX5_digest_14 : decode cX5_digest 14 = .ok (.iload_n 1, 1) := by decide +kernel
theorem dX5_digest_15 : decode cX5_digest 15 = .ok (.bipush 12, 2) := by decide +kernel
theorem dX5_digest_17 : decode cX5_digest 17 = .ok (.if_icmp .gt 19, 3) := by decide +kernel
theorem dX5_digest_20 : decode cX5_digest 20 = .ok (.aload_n 0, 1) := by decide +kernel
theorem dX5_digest_21 : decode cX5_digest 21 = .ok (.aload_n 0, 1) := by decide +kernel
theorem dX5_digest_22 : decode cX5_digest 22 = .ok (.iload_n 1, 1) := by decide +kernel
theorem dX5_digest_23 : decode cX5_digest 23 = .ok (.invokevirtual 236, 3) := by decide +kernel
theorem dX5_digest_26 : decode cX5_digest 26 = .ok (.i2l, 1) := by decide +kernel
theorem dX5_digest_27 : decode cX5_digest 27 = .ok (.invokevirtual 279, 3) := by decide +kernel
theorem dX5_digest_30 : decode cX5_digest 30 = .ok (.iinc 1 1, 3) := by decide +kernel
theorem dX5_digest_33 : decode cX5_digest 33 = .ok (.goto (-19), 3) := by decide +kernel
theorem dX5_digest_36 : decode cX5_digest 36 = .ok (.iconst 0, 1) := by decide +kernel
theorem dX5_digest_37 : decode cX5_digest 37 = .ok (.istore_n 1, 1) := by decide +kernel
theorem dX5_digest_38 : decode cX5_digest 38 = .ok (.iload_n 1, 1) := by decide +kernel
theorem dX5_digest_39 : decode cX5_digest 39 = .ok (.iconst 4, 1) := by decide +kernel
theorem dX5_digest_40 : decode cX5_digest 40 = .ok (.if_icmp .ge 22, 3) := by decide +kernel
theorem dX5_digest_43 : decode cX5_digest 43 = .ok (.aload_n 0, 1) := by decide +kernel
theorem dX5_digest_44 : decode cX5_digest 44 = .ok (.aload_n 0, 1) := by decide +kernel
theorem dX5_digest_45 : decode cX5_digest 45 = .ok (.getfield 7, 3) := by decide +kernel
theorem dX5_digest_48 : decode cX5_digest 48 = .ok (.iconst 3, 1) := by decide +kernel
theorem dX5_digest_49 : decode cX5_digest 49 = .ok (.iload_n 1, 1) := by decide +kernel
theorem dX5_digest_50 : decode cX5_digest 50 = .ok (.iadd, 1) := by decide +kernel
theorem dX5_digest_51 : decode cX5_digest 51 = .ok (.iaload, 1) := by decide +kernel
theorem dX5_digest_52 : decode cX5_digest 52 = .ok (.i2l, 1) := by decide +kernel
theorem dX5_digest_53 : decode cX5_digest 53 = .ok (.invokevirtual 279, 3) := by decide +kernel
theorem dX5_digest_56 : decode cX5_digest 56 = .ok (.iinc 1 1, 3) := by decide +kernel
theorem dX5_digest_59 : decode cX5_digest 59 = .ok (.goto (-21), 3) := by decide +kernel
theorem dX5_digest_62 : decode cX5_digest 62 = .ok (.iconst 0, 1) := by decide +kernel
theorem dX5_digest_63 : decode cX5_digest 63 = .ok (.istore_n 1, 1) := by decide +kernel
theorem dX5_digest_64 : decode cX5_digest 64 = .ok (.iload_n 1, 1) := by decide +kernel
theorem dX5_digest_65 : decode cX5_digest 65 = .ok (.bipush 20, 2) := by decide +kernel
theorem dX5_digest_67 : decode cX5_digest 67 = .ok (.if_icmp .ge 14, 3) := by decide +kernel
theorem dX5_digest_70 : decode cX5_digest 70 = .ok (.aload_n 0, 1) := by decide +kernel
theorem dX5_digest_71 : decode cX5_digest 71 = .ok (.iload_n 1, 1) := by decide +kernel
theorem dX5_digest_72 : decode cX5_digest 72 = .ok (.invokevirtual 285, 3) := by decide +kernel
theorem dX5_digest_75 : decode cX5_digest 75 = .ok (.iinc 1 1, 3) := by decide +kernel
theorem dX5_digest_78 : decode cX5_digest 78 = .ok (.goto (-14), 3) := by decide +kernel
theorem dX5_digest_81 : decode cX5_digest 81 = .ok (.iconst 0, 1) := by decide +kernel
theorem dX5_digest_82 : decode cX5_digest 82 = .ok (.istore_n 1, 1) := by decide +kernel
theorem dX5_digest_83 : decode cX5_digest 83 = .ok (.iload_n 1, 1) := by decide +kernel
theorem dX5_digest_84 : decode cX5_digest 84 = .ok (.bipush 16, 2) := by decide +kernel
theorem dX5_digest_86 : decode cX5_digest 86 = .ok (.if_icmp .ge 14, 3) := by decide +kernel
theorem dX5_digest_89 : decode cX5_digest 89 = .ok (.aload_n 0, 1) := by decide +kernel
theorem dX5_digest_90 : decode cX5_digest 90 = .ok (.iload_n 1, 1) := by decide +kernel
theorem dX5_digest_91 : decode cX5_digest 91 = .ok (.invokevirtual 288, 3) := by decide +kernel
theorem dX5_digest_94 : decode cX5_digest 94 = .ok (.iinc 1 1, 3) := by decide +kernel
theorem dX5_digest_97 : decode cX5_digest 97 = .ok (.goto (-14), 3) := by decide +kernel
theorem dX5_digest_100 : decode cX5_digest 100 = .ok (.iconst 0, 1) := by decide +kernel
theorem dX5_digest_101 : decode cX5_digest 101 = .ok (.istore_n 1, 1) := by decide +kernel
theorem dX5_digest_102 : decode cX5_digest 102 = .ok (.iload_n 1, 1) := by decide +kernel
theorem dX5_digest_103 : decode cX5_digest 103 = .ok (.iconst 4, 1) := by decide +kernel
theorem dX5_digest_104 : decode cX5_digest 104 = .ok (.if_icmp .gt 21, 3) := by decide +kernel
theorem dX5_digest_107 : decode cX5_digest 107 = .ok (.aload_n 0, 1) := by decide +kernel
theorem dX5_digest_108 : decode cX5_digest 108 = .ok (.aload_n 0, 1) := by decide +kernel
theorem dX5_digest_109 : decode cX5_digest 109 = .ok (.iconst 3, 1) := by decide +kernel
theorem dX5_digest_110 : decode cX5_digest 110 = .ok (.iconst 5, 1) := by decide +kernel
theorem dX5_digest_111 : decode cX5_digest 111 = .ok (.iload_n 1, 1) := by decide +kernel
theorem dX5_digest_112 : decode cX5_digest 112 = .ok (.invokevirtual 245, 3) := by decide +kernel
theorem dX5_digest_115 : decode cX5_digest 115 = .ok (.i2l, 1) := by decide +kernel
theorem dX5_digest_116 : decode cX5_digest 116 = .ok (.invokevirtual 279, 3) := by decide +kernel
theorem dX5_digest_119 : decode cX5_digest 119 = .ok (.iinc 1 1, 3) := by decide +kernel
theorem dX5_digest_122 : decode cX5_digest 122 = .ok (.goto (-20), 3) := by decide +kernel
theorem dX5_digest_125 : decode cX5_digest 125 = .ok (.iconst 0, 1) := by decide +kernel
theorem dX5_digest_126 : decode cX5_digest 126 = .ok (.istore_n 1, 1) := by decide +kernel
theorem dX5_digest_127 : decode cX5_digest 127 = .ok (.iload_n 1, 1) := by decide +kernel
theorem dX5_digest_128 : decode cX5_digest 128 = .ok (.iconst 2, 1) := by decide +kernel
theorem dX5_digest_129 : decode cX5_digest 129 = .ok (.if_icmp .gt 21, 3) := by decide +kernel
theorem dX5_digest_132 : decode cX5_digest 132 = .ok (.aload_n 0, 1) := by decide +kernel
theorem dX5_digest_133 : decode cX5_digest 133 = .ok (.aload_n 0, 1) := by decide +kernel
theorem dX5_digest_134 : decode cX5_digest 134 = .ok (.bipush 6, 2) := by decide +kernel
theorem dX5_digest_136 : decode cX5_digest 136 = .ok (.iload_n 1, 1) := by decide +kernel
theorem dX5_digest_137 : decode cX5_digest 137 = .ok (.invokevirtual 251, 3) := by decide +kernel
theorem dX5_digest_140 : decode cX5_digest 140 = .ok (.i2l, 1) := by decide +kernel
theorem dX5_digest_141 : decode cX5_digest 141 = .ok (.invokevirtual 279, 3) := by decide +kernel
theorem dX5_digest_144 : decode cX5_digest 144 = .ok (.iinc 1 1, 3) := by decide +kernel
theorem dX5_digest_147 : decode cX5_digest 147 = .ok (.goto (-20), 3) := by decide +kernel
theorem dX5_digest_150 : decode cX5_digest 150 = .ok (.aload_n 0, 1) := by decide +kernel
theorem dX5_digest_151 : decode cX5_digest 151 = .ok (.aload_n 0, 1) := by decide +kernel
theorem dX5_digest_152 : decode cX5_digest 152 = .ok (.iconst 1, 1) := by decide +kernel
theorem dX5_digest_153 : decode cX5_digest 153 = .ok (.iconst 0, 1) := by decide +kernel
theorem dX5_digest_154 : decode cX5_digest 154 = .ok (.invokevirtual 254, 3) := by decide +kernel
theorem dX5_digest_157 : decode cX5_digest 157 = .ok (.i2l, 1) := by decide +kernel
theorem dX5_digest_158 : decode cX5_digest 158 = .ok (.invokevirtual 279, 3) := by decide +kernel
theorem dX5_digest_161 : decode cX5_digest 161 = .ok (.aload_n 0, 1) := by decide +kernel
theorem dX5_digest_162 : decode cX5_digest 162 = .ok (.aload_n 0, 1) := by decide +kernel
theorem dX5_digest_163 : decode cX5_digest 163 = .ok (.iconst 1, 1) := by decide +kernel
theorem dX5_digest_164 : decode cX5_digest 164 = .ok (.iconst 1, 1) := by decide +kernel
theorem dX5_digest_165 : decode cX5_digest 165 = .ok (.invokevirtual 254, 3) := by decide +kernel
theorem dX5_digest_168 : decode cX5_digest 168 = .ok (.i2l, 1) := by decide +kernel
theorem dX5_digest_169 : decode cX5_digest 169 = .ok (.invokevirtual 279, 3) := by decide +kernel
theorem dX5_digest_172 : decode cX5_digest 172 = .ok (.aload_n 0, 1) := by decide +kernel
theorem dX5_digest_173 : decode cX5_digest 173 = .ok (.aload_n 0, 1) := by decide +kernel
theorem dX5_digest_174 : decode cX5_digest 174 = .ok (.invokevirtual 258, 3) := by decide +kernel
theorem dX5_digest_177 : decode cX5_digest 177 = .ok (.i2l, 1) := by decide +kernel
theorem dX5_digest_178 : decode cX5_digest 178 = .ok (.invokevirtual 279, 3) := by decide +kernel
theorem dX5_digest_181 : decode cX5_digest 181 = .ok (.aload_n 0, 1) := by decide +kernel
theorem dX5_digest_182 : decode cX5_digest 182 = .ok (.aload_n 0, 1) := by decide +kernel
theorem dX5_digest_183 : decode cX5_digest 183 = .ok (.invokevirtual 261, 3) := by decide +kernel
theorem dX5_digest_186 : decode cX5_digest 186 = .ok (.invokestatic 291, 3) := by decide +kernel
theorem dX5_digest_189 : decode cX5_digest 189 = .ok (.invokevirtual 279, 3) := by decide +kernel
theorem dX5_digest_192 : decode cX5_digest 192 = .ok (.aload_n 0, 1) := by decide +kernel
theorem dX5_digest_193 : decode cX5_digest 193 = .ok (.aload_n 0, 1) := by decide +kernel
theorem dX5_digest_194 : decode cX5_digest 194 = .ok (.getfield 148, 3) := by decide +kernel
theorem dX5_digest_197 : decode cX5_digest 197 = .ok (.i2l, 1) := by decide +kernel
theorem dX5_digest_198 : decode cX5_digest 198 = .ok (.invokevirtual 279, 3) := by decide +kernel
theorem dX5_digest_201 : decode cX5_digest 201 = .ok (.iconst 0, 1) := by decide +kernel
theorem dX5_digest_202 : decode cX5_digest 202 = .ok (.istore_n 1, 1) := by decide +kernel
theorem dX5_digest_203 : decode cX5_digest 203 = .ok (.iload_n 1, 1) := by decide +kernel
theorem dX5_digest_204 : decode cX5_digest 204 = .ok (.aload_n 0, 1) := by decide +kernel
theorem dX5_digest_205 : decode cX5_digest 205 = .ok (.getfield 148, 3) := by decide +kernel
theorem dX5_digest_208 : decode cX5_digest 208 = .ok (.if_icmp .ge 20, 3) := by decide +kernel
theorem dX5_digest_211 : decode cX5_digest 211 = .ok (.aload_n 0, 1) := by decide +kernel
theorem dX5_digest_212 : decode cX5_digest 212 = .ok (.aload_n 0, 1) := by decide +kernel
theorem dX5_digest_213 : decode cX5_digest 213 = .ok (.getfield 19, 3) := by decide +kernel
theorem dX5_digest_216 : decode cX5_digest 216 = .ok (.iload_n 1, 1) := by decide +kernel
theorem dX5_digest_217 : decode cX5_digest 217 = .ok (.iaload, 1) := by decide +kernel
theorem dX5_digest_218 : decode cX5_digest 218 = .ok (.i2l, 1) := by decide +kernel
theorem dX5_digest_219 : decode cX5_digest 219 = .ok (.invokevirtual 279, 3) := by decide +kernel
theorem dX5_digest_222 : decode cX5_digest 222 = .ok (.iinc 1 1, 3) := by decide +kernel
theorem dX5_digest_225 : decode cX5_digest 225 = .ok (.goto (-22), 3) := by decide +kernel
theorem dX5_digest_228 : decode cX5_digest 228 = .ok (.aload_n 0, 1) := by decide +kernel
theorem dX5_digest_229 : decode cX5_digest 229 = .ok (.getfield 275, 3) := by decide +kernel
theorem dX5_digest_232 : decode cX5_digest 232 = .ok (.lreturn, 1) := by decide +kernel
theorem dJ6_bitCount_0f7a4_0 : decode cJ6_bitCount_0f7a4 0 = .ok (.iload_n 0, 1) := by decide +kernel
theorem dJ6_bitCount_0f7a4_1 : decode cJ6_bitCount_0f7a4 1 = .ok (.iload_n 0, 1) := by decide +kernel
theorem dJ6_bitCount_0f7a4_2 : decode cJ6_bitCount_0f7a4 2 = .ok (.iconst 1, 1) := by decide +kernel
theorem dJ6_bitCount_0f7a4_3 : decode cJ6_bitCount_0f7a4 3 = .ok (.iushr, 1) := by decide +kernel
theorem dJ6_bitCount_0f7a4_4 : decode cJ6_bitCount_0f7a4 4 = .ok (.ldc_w 265, 3) := by decide +kernel
theorem dJ6_bitCount_0f7a4_7 : decode cJ6_bitCount_0f7a4 7 = .ok (.iand, 1) := by decide +kernel
theorem dJ6_bitCount_0f7a4_8 : decode cJ6_bitCount_0f7a4 8 = .ok (.isub, 1) := by decide +kernel
theorem dJ6_bitCount_0f7a4_9 : decode cJ6_bitCount_0f7a4 9 = .ok (.istore_n 0, 1) := by decide +kernel
theorem dJ6_bitCount_0f7a4_10 : decode cJ6_bitCount_0f7a4 10 = .ok (.iload_n 0, 1) := by decide +kernel
theorem dJ6_bitCount_0f7a4_11 : decode cJ6_bitCount_0f7a4 11 = .ok (.ldc_w 266, 3) := by decide +kernel
theorem dJ6_bitCount_0f7a4_14 : decode cJ6_bitCount_0f7a4 14 = .ok (.iand, 1) := by decide +kernel
theorem dJ6_bitCount_0f7a4_15 : decode cJ6_bitCount_0f7a4 15 = .ok (.iload_n 0, 1) := by decide +kernel
theorem dJ6_bitCount_0f7a4_16 : decode cJ6_bitCount_0f7a4 16 = .ok (.iconst 2, 1) := by decide +kernel
theorem dJ6_bitCount_0f7a4_17 : decode cJ6_bitCount_0f7a4 17 = .ok (.iushr, 1) := by decide +kernel
theorem dJ6_bitCount_0f7a4_18 : decode cJ6_bitCount_0f7a4 18 = .ok (.ldc_w 266, 3) := by decide +kernel
theorem dJ6_bitCount_0f7a4_21 : decode cJ6_bitCount_0f7a4 21 = .ok (.iand, 1) := by decide +kernel
theorem dJ6_bitCount_0f7a4_22 : decode cJ6_bitCount_0f7a4 22 = .ok (.iadd, 1) := by decide +kernel
theorem dJ6_bitCount_0f7a4_23 : decode cJ6_bitCount_0f7a4 23 = .ok (.istore_n 0, 1) := by decide +kernel
theorem dJ6_bitCount_0f7a4_24 : decode cJ6_bitCount_0f7a4 24 = .ok (.iload_n 0, 1) := by decide +kernel
theorem dJ6_bitCount_0f7a4_25 : decode cJ6_bitCount_0f7a4 25 = .ok (.iload_n 0, 1) := by decide +kernel
theorem dJ6_bitCount_0f7a4_26 : decode cJ6_bitCount_0f7a4 26 = .ok (.iconst 4, 1) := by decide +kernel
theorem dJ6_bitCount_0f7a4_27 : decode cJ6_bitCount_0f7a4 27 = .ok (.iushr, 1) := by decide +kernel
theorem dJ6_bitCount_0f7a4_28 : decode cJ6_bitCount_0f7a4 28 = .ok (.iadd, 1) := by decide +kernel
theorem dJ6_bitCount_0f7a4_29 : decode cJ6_bitCount_0f7a4 29 = .ok (.ldc_w 267, 3) := by decide +kernel
theorem dJ6_bitCount_0f7a4_32 : decode cJ6_bitCount_0f7a4 32 = .ok (.iand, 1) := by decide +kernel
theorem dJ6_bitCount_0f7a4_33 : decode cJ6_bitCount_0f7a4 33 = .ok (.istore_n 0, 1) := by decide +kernel
theorem dJ6_bitCount_0f7a4_34 : decode cJ6_bitCount_0f7a4 34 = .ok (.iload_n 0, 1) := by decide +kernel
theorem dJ6_bitCount_0f7a4_35 : decode cJ6_bitCount_0f7a4 35 = .ok (.iload_n 0, 1) := by decide +kernel
theorem dJ6_bitCount_0f7a4_36 : decode cJ6_bitCount_0f7a4 36 = .ok (.bipush 8, 2) := by decide +kernel
theorem dJ6_bitCount_0f7a4_38 : decode cJ6_bitCount_0f7a4 38 = .ok (.iushr, 1) := by decide +kernel
theorem dJ6_bitCount_0f7a4_39 : decode cJ6_bitCount_0f7a4 39 = .ok (.iadd, 1) := by decide +kernel
theorem dJ6_bitCount_0f7a4_40 : decode cJ6_bitCount_0f7a4 40 = .ok (.istore_n 0, 1) := by decide +kernel
theorem dJ6_bitCount_0f7a4_41 : decode cJ6_bitCount_0f7a4 41 = .ok (.iload_n 0, 1) := by decide +kernel
theorem dJ6_bitCount_0f7a4_42 : decode cJ6_bitCount_0f7a4 42 = .ok (.iload_n 0, 1) := by decide +kernel
theorem dJ6_bitCount_0f7a4_43 : decode cJ6_bitCount_0f7a4 43 = .ok (.bipush 16, 2) := by decide +kernel
theorem dJ6_bitCount_0f7a4_45 : decode cJ6_bitCount_0f7a4 45 = .ok (.iushr, 1) := by decide +kernel
theorem dJ6_bitCount_0f7a4_46 : decode cJ6_bitCount_0f7a4 46 = .ok (.iadd, 1) := by decide +kernel
theorem dJ6_bitCount_0f7a4_47 : decode cJ6_bitCount_0f7a4 47 = .ok (.istore_n 0, 1) := by decide +kernel
theorem dJ6_bitCount_0f7a4_48 : decode cJ6_bitCount_0f7a4 48 = .ok (.iload_n 0, 1) := by decide +kernel
theorem dJ6_bitCount_0f7a4_49 : decode cJ6_bitCount_0f7a4 49 = .ok (.bipush 63, 2) := by decide +kernel
theorem dJ6_bitCount_0f7a4_51 : decode cJ6_bitCount_0f7a4 51 = .ok (.iand, 1) := by decide +kernel
theorem dJ6_bitCount_0f7a4_52 : decode cJ6_bitCount_0f7a4 52 = .ok (.ireturn, 1) := by decide +kernel
theorem dJ9_max_7cf53_0 : decode cJ9_max_7cf53 0 = .ok (.iload_n 0, 1) := by decide +kernel
theorem dJ9_max_7cf53_1 : decode cJ9_max_7cf53 1 = .ok (.iload_n 1, 1) := by decide +kernel
theorem dJ9_max_7cf53_2 : decode cJ9_max_7cf53 2 = .ok (.if_icmp .lt 7, 3) := by decide +kernel
theorem dJ9_max_7cf53_5 : decode cJ9_max_7cf53 5 = .ok (.iload_n 0, 1) := by decide +kernel
theorem dJ9_max_7cf53_6 : decode cJ9_max_7cf53 6 = .ok (.goto 4, 3) := by decide +kernel
theorem dJ9_max_7cf53_9 : decode cJ9_max_7cf53 9 = .ok (.iload_n 1, 1) := by decide +kernel
theorem dJ9_max_7cf53_10 : decode cJ9_max_7cf53 10 = .ok (.ireturn, 1) := by decide +kernel
theorem dJ0_length_8abf5_0 : decode cJ0_length_8abf5 0 = .ok (.aload_n 0, 1) := by decide +kernel
theorem dJ0_length_8abf5_1 : decode cJ0_length_8abf5 1 = .ok (.getfield 9, 3) := by decide +kernel
theorem dJ0_length_8abf5_4 : decode cJ0_length_8abf5 4 = .ok (.arraylength, 1) := by decide +kernel
theorem dJ0_length_8abf5_5 : decode cJ0_length_8abf5 5 = .ok (.aload_n 0, 1) := by decide +kernel
theorem dJ0_length_8abf5_6 : decode cJ0_length_8abf5 6 = .ok (.invokevirtual 335, 3) := by decide +kernel
theorem dJ0_length_8abf5_9 : decode cJ0_length_8abf5 9 = .ok (.ishr, 1) := by decide +kernel
theorem dJ0_length_8abf5_10 : decode cJ0_length_8abf5 10 = .ok (.ireturn, 1) := by decide +kernel
theorem dJ0_charAt_5068e_0 : decode cJ0_charAt_5068e 0 = .ok (.aload_n 0, 1) := by decide +kernel
theorem dJ0_charAt_5068e_1 : decode cJ0_charAt_5068e 1 = .ok (.invokevirtual 492, 3) := by decide +kernel
theorem dJ0_charAt_5068e_4 : decode cJ0_charAt_5068e 4 = .ok (.ifCond .eq 12, 3) := by decide +kernel
theorem dJ0_charAt_5068e_7 : decode cJ0_charAt_5068e 7 = .ok (.aload_n 0, 1) := by decide +kernel
theorem dJ0_charAt_5068e_8 : decode cJ0_charAt_5068e 8 = .ok (.getfield 9, 3) := by decide +kernel
theorem dJ0_charAt_5068e_11 : decode cJ0_charAt_5068e 11 = .ok (.iload_n 1, 1) := by decide +kernel
theorem dJ0_charAt_5068e_12 : decode cJ0_charAt_5068e 12 = .ok (.invokestatic 495, 3) := by decide +kernel
theorem dJ0_charAt_5068e_15 : decode cJ0_charAt_5068e 15 = .ok (.ireturn, 1) := by decide +kernel
theorem dJ0_charAt_5068e_16 : decode cJ0_charAt_5068e 16 = .ok (.aload_n 0, 1) := by decide +kernel
theorem dJ0_charAt_5068e_17 : decode cJ0_charAt_5068e 17 = .ok (.getfield 9, 3) := by decide +kernel
theorem dJ0_charAt_5068e_20 : decode cJ0_charAt_5068e 20 = .ok (.iload_n 1, 1) := by decide +kernel
theorem dJ0_charAt_5068e_21 : decode cJ0_charAt_5068e 21 = .ok (.invokestatic 498, 3) := by decide +kernel
theorem dJ0_charAt_5068e_24 : decode cJ0_charAt_5068e 24 = .ok (.ireturn, 1) := by decide +kernel
theorem dJ0_coder_7d493_0 : decode cJ0_coder_7d493 0 = .ok (.getstatic 38, 3) := by decide +kernel
theorem dJ0_coder_7d493_3 : decode cJ0_coder_7d493 3 = .ok (.ifCond .eq 10, 3) := by decide +kernel
theorem dJ0_coder_7d493_6 : decode cJ0_coder_7d493 6 = .ok (.aload_n 0, 1) := by decide +kernel
theorem dJ0_coder_7d493_7 : decode cJ0_coder_7d493 7 = .ok (.getfield 15, 3) := by decide +kernel
theorem dJ0_coder_7d493_10 : decode cJ0_coder_7d493 10 = .ok (.goto 4, 3) := by decide +kernel
theorem dJ0_coder_7d493_13 : decode cJ0_coder_7d493 13 = .ok (.iconst 1, 1) := by decide +kernel
theorem dJ0_coder_7d493_14 : decode cJ0_coder_7d493 14 = .ok (.ireturn, 1) := by decide +kernel
theorem dJ0_isLatin1_aae02_0 : decode cJ0_isLatin1_aae02 0 = .ok (.getstatic 38, 3) := by decide +kernel
theorem dJ0_isLatin1_aae02_3 : decode cJ0_isLatin1_aae02 3 = .ok (.ifCond .eq 14, 3) := by decide +kernel
theorem dJ0_isLatin1_aae02_6 : decode cJ0_isLatin1_aae02 6 = .ok (.aload_n 0, 1) := by decide +kernel
theorem dJ0_isLatin1_aae02_7 : decode cJ0_isLatin1_aae02 7 = .ok (.getfield 15, 3) := by decide +kernel
theorem dJ0_isLatin1_aae02_10 : decode cJ0_isLatin1_aae02 10 = .ok (.ifCond .ne 7, 3) := by decide +kernel
theorem dJ0_isLatin1_aae02_13 : decode cJ0_isLatin1_aae02 13 = .ok (.iconst 1, 1) := by decide +kernel
theorem dJ0_isLatin1_aae02_14 : decode cJ0_isLatin1_aae02 14 = .ok (.goto 4, 3) := by decide +kernel
theorem dJ0_isLatin1_aae02_17 : decode cJ0_isLatin1_aae02 17 = .ok (.iconst 0, 1) := by decide +kernel
theorem dJ0_isLatin1_aae02_18 : decode cJ0_isLatin1_aae02 18 = .ok (.ireturn, 1) := by decide +kernel
theorem dJ0_checkIndex_df160_0 : decode cJ0_checkIndex_df160 0 = .ok (.iload_n 0, 1) := by decide +kernel
theorem dJ0_checkIndex_df160_1 : decode cJ0_checkIndex_df160 1 = .ok (.iload_n 1, 1) := by decide +kernel
theorem dJ0_checkIndex_df160_2 : decode cJ0_checkIndex_df160 2 = .ok (.getstatic 1053, 3) := by decide +kernel
theorem dJ0_checkIndex_df160_5 : decode cJ0_checkIndex_df160 5 = .ok (.invokestatic 1059, 3) := by decide +kernel
theorem dJ0_checkIndex_df160_8 : decode cJ0_checkIndex_df160 8 = .ok (.pop, 1) := by decide +kernel
theorem dJ0_checkIndex_df160_9 : decode cJ0_checkIndex_df160 9 = .ok (.return_, 1) := by decide +kernel
theorem dJ1_charAt_3b067_0 : decode cJ1_charAt_3b067 0 = .ok (.iload_n 1, 1) := by decide +kernel
theorem dJ1_charAt_3b067_1 : decode cJ1_charAt_3b067 1 = .ok (.aload_n 0, 1) := by decide +kernel
theorem dJ1_charAt_3b067_2 : decode cJ1_charAt_3b067 2 = .ok (.arraylength, 1) := by decide +kernel
theorem dJ1_charAt_3b067_3 : decode cJ1_charAt_3b067 3 = .ok (.invokestatic 9, 3) := by decide +kernel
theorem dJ1_charAt_3b067_6 : decode cJ1_charAt_3b067 6 = .ok (.aload_n 0, 1) := by decide +kernel
theorem dJ1_charAt_3b067_7 : decode cJ1_charAt_3b067 7 = .ok (.iload_n 1, 1) := by decide +kernel
theorem dJ1_charAt_3b067_8 : decode cJ1_charAt_3b067 8 = .ok (.baload, 1) := by decide +kernel
theorem dJ1_charAt_3b067_9 : decode cJ1_charAt_3b067 9 = .ok (.sipush 255, 3) := by decide +kernel
theorem dJ1_charAt_3b067_12 : decode cJ1_charAt_3b067 12 = .ok (.iand, 1) := by decide +kernel
theorem dJ1_charAt_3b067_13 : decode cJ1_charAt_3b067 13 = .ok (.i2c, 1) := by decide +kernel
theorem dJ1_charAt_3b067_14 : decode cJ1_charAt_3b067 14 = .ok (.ireturn, 1) := by decide +kernel
theorem dJ2_getChar_3b067_0 : decode cJ2_getChar_3b067 0 = .ok (.getstatic 44, 3) := by decide +kernel
theorem dJ2_getChar_3b067_3 : decode cJ2_getChar_3b067 3 = .ok (.ifCond .ne 25, 3) := by decide +kernel
theorem dJ2_getChar_3b067_6 : decode cJ2_getChar_3b067 6 = .ok (.iload_n 1, 1) := by decide +kernel
theorem dJ2_getChar_3b067_7 : decode cJ2_getChar_3b067 7 = .ok (.ifCond .lt 11, 3) := by decide +kernel
theorem dJ2_getChar_3b067_10 : decode cJ2_getChar_3b067 10 = .ok (.iload_n 1, 1) := by decide +kernel
theorem dJ2_getChar_3b067_11 : decode cJ2_getChar_3b067 11 = .ok (.aload_n 0, 1) := by decide +kernel
theorem dJ2_getChar_3b067_12 : decode cJ2_getChar_3b067 12 = .ok (.invokestatic 48, 3) := by decide +kernel
theorem dJ2_getChar_3b067_15 : decode cJ2_getChar_3b067 15 = .ok (.if_icmp .lt 13, 3) := by decide +kernel
theorem dJ2_getChar_3b067_18 : decode cJ2_getChar_3b067 18 = .ok (.new 52, 3) := by decide +kernel
theorem dJ2_getChar_3b067_21 : decode cJ2_getChar_3b067 21 = .ok (.dup, 1) := by decide +kernel
theorem dJ2_getChar_3b067_22 : decode cJ2_getChar_3b067 22 = .ok (.ldc 54, 2) := by decide +kernel
theorem dJ2_getChar_3b067_24 : decode cJ2_getChar_3b067 24 = .ok (.invokespecial 56, 3) := by decide +kernel
theorem dJ2_getChar_3b067_27 : decode cJ2_getChar_3b067 27 = .ok (.athrow, 1) := by decide +kernel
theorem dJ2_getChar_3b067_28 : decode cJ2_getChar_3b067 28 = .ok (.iload_n 1, 1) := by decide +kernel
theorem dJ2_getChar_3b067_29 : decode cJ2_getChar_3b067 29 = .ok (.iconst 1, 1) := by decide +kernel
theorem dJ2_getChar_3b067_30 : decode cJ2_getChar_3b067 30 = .ok (.ishl, 1) := by decide +kernel
theorem dJ2_getChar_3b067_31 : decode cJ2_getChar_3b067 31 = .ok (.istore_n 1, 1) := by decide +kernel
theorem dJ2_getChar_3b067_32 : decode cJ2_getChar_3b067 32 = .ok (.aload_n 0, 1) := by decide +kernel
theorem dJ2_getChar_3b067_33 : decode cJ2_getChar_3b067 33 = .ok (.iload_n 1, 1) := by decide +kernel
theorem dJ2_getChar_3b067_34 : decode cJ2_getChar_3b067 34 = .ok (.iinc 1 1, 3) := by decide +kernel
theorem dJ2_getChar_3b067_37 : decode cJ2_getChar_3b067 37 = .ok (.baload, 1) := by decide +kernel
theorem dJ2_getChar_3b067_38 : decode cJ2_getChar_3b067 38 = .ok (.sipush 255, 3) := by decide +kernel
theorem dJ2_getChar_3b067_41 : decode cJ2_getChar_3b067 41 = .ok (.iand, 1) := by decide +kernel
theorem dJ2_getChar_3b067_42 : decode cJ2_getChar_3b067 42 = .ok (.getstatic 59, 3) := by decide +kernel
theorem dJ2_getChar_3b067_45 : decode cJ2_getChar_3b067 45 = .ok (.ishl, 1) := by decide +kernel
theorem dJ2_getChar_3b067_46 : decode cJ2_getChar_3b067 46 = .ok (.aload_n 0, 1) := by decide +kernel
theorem dJ2_getChar_3b067_47 : decode cJ2_getChar_3b067 47 = .ok (.iload_n 1, 1) := by decide +kernel
theorem dJ2_getChar_3b067_48 : decode cJ2_getChar_3b067 48 = .ok (.baload, 1) := by decide +kernel
theorem dJ2_getChar_3b067_49 : decode cJ2_getChar_3b067 49 = .ok (.sipush 255, 3) := by decide +kernel
theorem dJ2_getChar_3b067_52 : decode cJ2_getChar_3b067 52 = .ok (.iand, 1) := by decide +kernel
theorem dJ2_getChar_3b067_53 : decode cJ2_getChar_3b067 53 = .ok (.getstatic 63, 3) := by decide +kernel
theorem dJ2_getChar_3b067_56 : decode cJ2_getChar_3b067 56 = .ok (.ishl, 1) := by decide +kernel
theorem dJ2_getChar_3b067_57 : decode cJ2_getChar_3b067 57 = .ok (.ior, 1) := by decide +kernel
theorem dJ2_getChar_3b067_58 : decode cJ2_getChar_3b067 58 = .ok (.i2c, 1) := by decide +kernel
theorem dJ2_getChar_3b067_59 : decode cJ2_getChar_3b067 59 = .ok (.ireturn, 1) := by decide +kernel
theorem dJ2_length_9d52b_0 : decode cJ2_length_9d52b 0 = .ok (.aload_n 0, 1) := by decide +kernel
theorem dJ2_length_9d52b_1 : decode cJ2_length_9d52b 1 = .ok (.arraylength, 1) := by decide +kernel
theorem dJ2_length_9d52b_2 : decode cJ2_length_9d52b 2 = .ok (.iconst 1, 1) := by decide +kernel
theorem dJ2_length_9d52b_3 : decode cJ2_length_9d52b 3 = .ok (.ishr, 1) := by decide +kernel
theorem dJ2_length_9d52b_4 : decode cJ2_length_9d52b 4 = .ok (.ireturn, 1) := by decide +kernel
theorem dJ2_charAt_3b067_0 : decode cJ2_charAt_3b067 0 = .ok (.iload_n 1, 1) := by decide +kernel
theorem dJ2_charAt_3b067_1 : decode cJ2_charAt_3b067 1 = .ok (.aload_n 0, 1) := by decide +kernel
theorem dJ2_charAt_3b067_2 : decode cJ2_charAt_3b067 2 = .ok (.invokestatic 67, 3) := by decide +kernel
theorem dJ2_charAt_3b067_5 : decode cJ2_charAt_3b067 5 = .ok (.aload_n 0, 1) := by decide +kernel
theorem dJ2_charAt_3b067_6 : decode cJ2_charAt_3b067 6 = .ok (.iload_n 1, 1) := by decide +kernel
theorem dJ2_charAt_3b067_7 : decode cJ2_charAt_3b067 7 = .ok (.invokestatic 71, 3) := by decide +kernel
theorem dJ2_charAt_3b067_10 : decode cJ2_charAt_3b067 10 = .ok (.ireturn, 1) := by decide +kernel
theorem dJ2_checkIndex_2214a_0 : decode cJ2_checkIndex_2214a 0 = .ok (.iload_n 0, 1) := by decide +kernel
theorem dJ2_checkIndex_2214a_1 : decode cJ2_checkIndex_2214a 1 = .ok (.aload_n 1, 1) := by decide +kernel
theorem dJ2_checkIndex_2214a_2 : decode cJ2_checkIndex_2214a 2 = .ok (.invokestatic 48, 3) := by decide +kernel
theorem dJ2_checkIndex_2214a_5 : decode cJ2_checkIndex_2214a 5 = .ok (.invokestatic 414, 3) := by decide +kernel
theorem dJ2_checkIndex_2214a_8 : decode cJ2_checkIndex_2214a 8 = .ok (.return_, 1) := by decide +kernel
theorem dJ3_checkIndex_8e157_0 : decode cJ3_checkIndex_8e157 0 = .ok (.iload_n 0, 1) := by decide +kernel
theorem dJ3_checkIndex_8e157_1 : decode cJ3_checkIndex_8e157 1 = .ok (.ifCond .lt 8, 3) := by decide +kernel
theorem dJ3_checkIndex_8e157_4 : decode cJ3_checkIndex_8e157 4 = .ok (.iload_n 0, 1) := by decide +kernel
theorem dJ3_checkIndex_8e157_5 : decode cJ3_checkIndex_8e157 5 = .ok (.iload_n 1, 1) := by decide +kernel
theorem dJ3_checkIndex_8e157_6 : decode cJ3_checkIndex_8e157 6 = .ok (.if_icmp .lt 10, 3) := by decide +kernel
theorem dJ3_checkIndex_8e157_9 : decode cJ3_checkIndex_8e157 9 = .ok (.aload_n 2, 1) := by decide +kernel
theorem dJ3_checkIndex_8e157_10 : decode cJ3_checkIndex_8e157 10 = .ok (.iload_n 0, 1) := by decide +kernel
theorem dJ3_checkIndex_8e157_11 : decode cJ3_checkIndex_8e157 11 = .ok (.iload_n 1, 1) := by decide +kernel
theorem dJ3_checkIndex_8e157_12 : decode cJ3_checkIndex_8e157 12 = .ok (.invokestatic 95, 3) := by decide +kernel
theorem dJ3_checkIndex_8e157_15 : decode cJ3_checkIndex_8e157 15 = .ok (.athrow, 1) := by decide +kernel
theorem dJ3_checkIndex_8e157_16 : decode cJ3_checkIndex_8e157 16 = .ok (.iload_n 0, 1) := by decide +kernel
theorem dJ3_checkIndex_8e157_17 : decode cJ3_checkIndex_8e157 17 = .ok (.ireturn, 1) := by decide +kernel
theorem dL_blow_0 : decode cL_blow 0 = .ok (.aload 4, 2) := by decide +kernel
theorem dL_blow_2 : decode cL_blow 2 = .ok (.iconst 0, 1) := by decide +kernel
theorem dL_blow_3 : decode cL_blow 3 = .ok (.aload_n 0, 1) := by decide +kernel
theorem dL_blow_4 : decode cL_blow 4 = .ok (.iload_n 1, 1) := by decide +kernel
theorem dL_blow_5 : decode cL_blow 5 = .ok (.iload_n 2, 1) := by decide +kernel
theorem dL_blow_6 : decode cL_blow 6 = .ok (.iload_n 3, 1) := by decide +kernel
theorem dL_blow_7 : decode cL_blow 7 = .ok (.invokevirtual 7, 3) := by decide +kernel
theorem dL_blow_10 : decode cL_blow 10 = .ok (.i2l, 1) := by decide +kernel
theorem dL_blow_11 : decode cL_blow 11 = .ok (.lastore, 1) := by decide +kernel
theorem dL_blow_12 : decode cL_blow 12 = .ok (.goto 15, 3) := by decide +kernel
theorem dL_blow_15 : decode cL_blow 15 = .ok (.astore 5, 2) := by decide +kernel
theorem dL_blow_17 : decode cL_blow 17 = .ok (.iconst 1, 1) := by decide +kernel
theorem dL_blow_18 : decode cL_blow 18 = .ok (.ireturn, 1) := by decide +kernel
theorem dL_blow_19 : decode cL_blow 19 = .ok (.astore 5, 2) := by decide +kernel
theorem dL_blow_21 : decode cL_blow 21 = .ok (.iconst 2, 1) := by decide +kernel
theorem dL_blow_22 : decode cL_blow 22 = .ok (.ireturn, 1) := by decide +kernel
theorem dL_blow_23 : decode cL_blow 23 = .ok (.astore 5, 2) := by decide +kernel
theorem dL_blow_25 : decode cL_blow 25 = .ok (.iconst 3, 1) := by decide +kernel
theorem dL_blow_26 : decode cL_blow 26 = .ok (.ireturn, 1) := by decide +kernel
theorem dL_blow_27 : decode cL_blow 27 = .ok (.iconst 0, 1) := by decide +kernel
theorem dL_blow_28 : decode cL_blow 28 = .ok (.ireturn, 1) := by decide +kernel
theorem dL_put_0 : decode cL_put 0 = .ok (.aload_n 3, 1) := by decide +kernel
theorem dL_put_1 : decode cL_put 1 = .ok (.iconst 0, 1) := by decide +kernel
theorem dL_put_2 : decode cL_put 2 = .ok (.aload_n 0, 1) := by decide +kernel
theorem dL_put_3 : decode cL_put 3 = .ok (.iload_n 1, 1) := by decide +kernel
theorem dL_put_4 : decode cL_put 4 = .ok (.iload_n 2, 1) := by decide +kernel
theorem dL_put_5 : decode cL_put 5 = .ok (.invokevirtual 19, 3) := by decide +kernel
theorem dL_put_8 : decode cL_put 8 = .ok (.i2l, 1) := by decide +kernel
theorem dL_put_9 : decode cL_put 9 = .ok (.lastore, 1) := by decide +kernel
theorem dL_put_10 : decode cL_put 10 = .ok (.goto 11, 3) := by decide +kernel
theorem dL_put_13 : decode cL_put 13 = .ok (.astore 4, 2) := by decide +kernel
theorem dL_put_15 : decode cL_put 15 = .ok (.iconst 1, 1) := by decide +kernel
theorem dL_put_16 : decode cL_put 16 = .ok (.ireturn, 1) := by decide +kernel
theorem dL_put_17 : decode cL_put 17 = .ok (.astore 4, 2) := by decide +kernel
theorem dL_put_19 : decode cL_put 19 = .ok (.iconst 2, 1) := by decide +kernel
theorem dL_put_20 : decode cL_put 20 = .ok (.ireturn, 1) := by decide +kernel
theorem dL_put_21 : decode cL_put 21 = .ok (.iconst 0, 1) := by decide +kernel
theorem dL_put_22 : decode cL_put 22 = .ok (.ireturn, 1) := by decide +kernel
theorem dL_drop_0 : decode cL_drop 0 = .ok (.aload_n 2, 1) := by decide +kernel
theorem dL_drop_1 : decode cL_drop 1 = .ok (.iconst 0, 1) := by decide +kernel
theorem dL_drop_2 : decode cL_drop 2 = .ok (.aload_n 0, 1) := by decide +kernel
theorem dL_drop_3 : decode cL_drop 3 = .ok (.iload_n 1, 1) := by decide +kernel
theorem dL_drop_4 : decode cL_drop 4 = .ok (.invokevirtual 23, 3) := by decide +kernel
theorem dL_drop_7 : decode cL_drop 7 = .ok (.i2l, 1) := by decide +kernel
theorem dL_drop_8 : decode cL_drop 8 = .ok (.lastore, 1) := by decide +kernel
theorem dL_drop_9 : decode cL_drop 9 = .ok (.goto 6, 3) := by decide +kernel
theorem dL_drop_12 : decode cL_drop 12 = .ok (.astore_n 3, 1) := by decide +kernel
theorem dL_drop_13 : decode cL_drop 13 = .ok (.iconst 1, 1) := by decide +kernel
theorem dL_drop_14 : decode cL_drop 14 = .ok (.ireturn, 1) := by decide +kernel
theorem dL_drop_15 : decode cL_drop 15 = .ok (.iconst 0, 1) := by decide +kernel
theorem dL_drop_16 : decode cL_drop 16 = .ok (.ireturn, 1) := by decide +kernel
theorem dL_lock_0 : decode cL_lock 0 = .ok (.aload_n 2, 1) := by decide +kernel
theorem dL_lock_1 : decode cL_lock 1 = .ok (.iconst 0, 1) := by decide +kernel
theorem dL_lock_2 : decode cL_lock 2 = .ok (.aload_n 0, 1) := by decide +kernel
theorem dL_lock_3 : decode cL_lock 3 = .ok (.iload_n 1, 1) := by decide +kernel
theorem dL_lock_4 : decode cL_lock 4 = .ok (.invokevirtual 27, 3) := by decide +kernel
theorem dL_lock_7 : decode cL_lock 7 = .ok (.i2l, 1) := by decide +kernel
theorem dL_lock_8 : decode cL_lock 8 = .ok (.lastore, 1) := by decide +kernel
theorem dL_lock_9 : decode cL_lock 9 = .ok (.goto 9, 3) := by decide +kernel
theorem dL_lock_12 : decode cL_lock 12 = .ok (.astore_n 3, 1) := by decide +kernel
theorem dL_lock_13 : decode cL_lock 13 = .ok (.iconst 1, 1) := by decide +kernel
theorem dL_lock_14 : decode cL_lock 14 = .ok (.ireturn, 1) := by decide +kernel
theorem dL_lock_15 : decode cL_lock 15 = .ok (.astore_n 3, 1) := by decide +kernel
theorem dL_lock_16 : decode cL_lock 16 = .ok (.iconst 2, 1) := by decide +kernel
theorem dL_lock_17 : decode cL_lock 17 = .ok (.ireturn, 1) := by decide +kernel
theorem dL_lock_18 : decode cL_lock 18 = .ok (.iconst 0, 1) := by decide +kernel
theorem dL_lock_19 : decode cL_lock 19 = .ok (.ireturn, 1) := by decide +kernel
theorem dL_refresh_0 : decode cL_refresh 0 = .ok (.aload_n 2, 1) := by decide +kernel
theorem dL_refresh_1 : decode cL_refresh 1 = .ok (.iconst 0, 1) := by decide +kernel
theorem dL_refresh_2 : decode cL_refresh 2 = .ok (.aload_n 0, 1) := by decide +kernel
theorem dL_refresh_3 : decode cL_refresh 3 = .ok (.iload_n 1, 1) := by decide +kernel
theorem dL_refresh_4 : decode cL_refresh 4 = .ok (.invokevirtual 30, 3) := by decide +kernel
theorem dL_refresh_7 : decode cL_refresh 7 = .ok (.i2l, 1) := by decide +kernel
theorem dL_refresh_8 : decode cL_refresh 8 = .ok (.lastore, 1) := by decide +kernel
theorem dL_refresh_9 : decode cL_refresh 9 = .ok (.goto 9, 3) := by decide +kernel
theorem dL_refresh_12 : decode cL_refresh 12 = .ok (.astore_n 3, 1) := by decide +kernel
theorem dL_refresh_13 : decode cL_refresh 13 = .ok (.iconst 1, 1) := by decide +kernel
theorem dL_refresh_14 : decode cL_refresh 14 = .ok (.ireturn, 1) := by decide +kernel
theorem dL_refresh_15 : decode cL_refresh 15 = .ok (.astore_n 3, 1) := by decide +kernel
theorem dL_refresh_16 : decode cL_refresh 16 = .ok (.iconst 2, 1) := by decide +kernel
theorem dL_refresh_17 : decode cL_refresh 17 = .ok (.ireturn, 1) := by decide +kernel
theorem dL_refresh_18 : decode cL_refresh 18 = .ok (.iconst 0, 1) := by decide +kernel
theorem dL_refresh_19 : decode cL_refresh 19 = .ok (.ireturn, 1) := by decide +kernel
theorem dL_heat_0 : decode cL_heat 0 = .ok (.aload_n 2, 1) := by decide +kernel
theorem dL_heat_1 : decode cL_heat 1 = .ok (.iconst 0, 1) := by decide +kernel
theorem dL_heat_2 : decode cL_heat 2 = .ok (.aload_n 0, 1) := by decide +kernel
theorem dL_heat_3 : decode cL_heat 3 = .ok (.iload_n 1, 1) := by decide +kernel
theorem dL_heat_4 : decode cL_heat 4 = .ok (.invokevirtual 33, 3) := by decide +kernel
theorem dL_heat_7 : decode cL_heat 7 = .ok (.i2l, 1) := by decide +kernel
theorem dL_heat_8 : decode cL_heat 8 = .ok (.lastore, 1) := by decide +kernel
theorem dL_heat_9 : decode cL_heat 9 = .ok (.goto 6, 3) := by decide +kernel
theorem dL_heat_12 : decode cL_heat 12 = .ok (.astore_n 3, 1) := by decide +kernel
theorem dL_heat_13 : decode cL_heat 13 = .ok (.iconst 1, 1) := by decide +kernel
theorem dL_heat_14 : decode cL_heat 14 = .ok (.ireturn, 1) := by decide +kernel
theorem dL_heat_15 : decode cL_heat 15 = .ok (.iconst 0, 1) := by decide +kernel
theorem dL_heat_16 : decode cL_heat 16 = .ok (.ireturn, 1) := by decide +kernel
theorem dL_pass_0 : decode cL_pass 0 = .ok (.aload_n 2, 1) := by decide +kernel
theorem dL_pass_1 : decode cL_pass 1 = .ok (.iconst 0, 1) := by decide +kernel
theorem dL_pass_2 : decode cL_pass 2 = .ok (.aload_n 0, 1) := by decide +kernel
theorem dL_pass_3 : decode cL_pass 3 = .ok (.iload_n 1, 1) := by decide +kernel
theorem dL_pass_4 : decode cL_pass 4 = .ok (.invokevirtual 36, 3) := by decide +kernel
theorem dL_pass_7 : decode cL_pass 7 = .ok (.i2l, 1) := by decide +kernel
theorem dL_pass_8 : decode cL_pass 8 = .ok (.lastore, 1) := by decide +kernel
theorem dL_pass_9 : decode cL_pass 9 = .ok (.goto 9, 3) := by decide +kernel
theorem dL_pass_12 : decode cL_pass 12 = .ok (.astore_n 3, 1) := by decide +kernel
theorem dL_pass_13 : decode cL_pass 13 = .ok (.iconst 1, 1) := by decide +kernel
theorem dL_pass_14 : decode cL_pass 14 = .ok (.ireturn, 1) := by decide +kernel
theorem dL_pass_15 : decode cL_pass 15 = .ok (.astore_n 3, 1) := by decide +kernel
theorem dL_pass_16 : decode cL_pass 16 = .ok (.iconst 2, 1) := by decide +kernel
theorem dL_pass_17 : decode cL_pass 17 = .ok (.ireturn, 1) := by decide +kernel
theorem dL_pass_18 : decode cL_pass 18 = .ok (.iconst 0, 1) := by decide +kernel
theorem dL_pass_19 : decode cL_pass 19 = .ok (.ireturn, 1) := by decide +kernel
theorem dL_set_0 : decode cL_set 0 = .ok (.aload_n 3, 1) := by decide +kernel
theorem dL_set_1 : decode cL_set 1 = .ok (.iconst 0, 1) := by decide +kernel
theorem dL_set_2 : decode cL_set 2 = .ok (.aload_n 0, 1) := by decide +kernel
theorem dL_set_3 : decode cL_set 3 = .ok (.iload_n 1, 1) := by decide +kernel
theorem dL_set_4 : decode cL_set 4 = .ok (.iload_n 2, 1) := by decide +kernel
theorem dL_set_5 : decode cL_set 5 = .ok (.invokevirtual 39, 3) := by decide +kernel
theorem dL_set_8 : decode cL_set 8 = .ok (.i2l, 1) := by decide +kernel
theorem dL_set_9 : decode cL_set 9 = .ok (.lastore, 1) := by decide +kernel
theorem dL_set_10 : decode cL_set 10 = .ok (.goto 11, 3) := by decide +kernel
theorem dL_set_13 : decode cL_set 13 = .ok (.astore 4, 2) := by decide +kernel
theorem dL_set_15 : decode cL_set 15 = .ok (.iconst 1, 1) := by decide +kernel
theorem dL_set_16 : decode cL_set 16 = .ok (.ireturn, 1) := by decide +kernel
theorem dL_set_17 : decode cL_set 17 = .ok (.astore 4, 2) := by decide +kernel
theorem dL_set_19 : decode cL_set 19 = .ok (.iconst 2, 1) := by decide +kernel
theorem dL_set_20 : decode cL_set 20 = .ok (.ireturn, 1) := by decide +kernel
theorem dL_set_21 : decode cL_set 21 = .ok (.iconst 0, 1) := by decide +kernel
theorem dL_set_22 : decode cL_set 22 = .ok (.ireturn, 1) := by decide +kernel
theorem dL_append_0 : decode cL_append 0 = .ok (.aload_n 2, 1) := by decide +kernel
theorem dL_append_1 : decode cL_append 1 = .ok (.iconst 0, 1) := by decide +kernel
theorem dL_append_2 : decode cL_append 2 = .ok (.aload_n 0, 1) := by decide +kernel
theorem dL_append_3 : decode cL_append 3 = .ok (.iload_n 1, 1) := by decide +kernel
theorem dL_append_4 : decode cL_append 4 = .ok (.invokevirtual 42, 3) := by decide +kernel
theorem dL_append_7 : decode cL_append 7 = .ok (.i2l, 1) := by decide +kernel
theorem dL_append_8 : decode cL_append 8 = .ok (.lastore, 1) := by decide +kernel
theorem dL_append_9 : decode cL_append 9 = .ok (.goto 9, 3) := by decide +kernel
theorem dL_append_12 : decode cL_append 12 = .ok (.astore_n 3, 1) := by decide +kernel
theorem dL_append_13 : decode cL_append 13 = .ok (.iconst 1, 1) := by decide +kernel
theorem dL_append_14 : decode cL_append 14 = .ok (.ireturn, 1) := by decide +kernel
theorem dL_append_15 : decode cL_append 15 = .ok (.astore_n 3, 1) := by decide +kernel
theorem dL_append_16 : decode cL_append 16 = .ok (.iconst 2, 1) := by decide +kernel
theorem dL_append_17 : decode cL_append 17 = .ok (.ireturn, 1) := by decide +kernel
theorem dL_append_18 : decode cL_append 18 = .ok (.iconst 0, 1) := by decide +kernel
theorem dL_append_19 : decode cL_append 19 = .ok (.ireturn, 1) := by decide +kernel
theorem dL_run_0 : decode cL_run 0 = .ok (.aload_n 1, 1) := by decide +kernel
theorem dL_run_1 : decode cL_run 1 = .ok (.iconst 0, 1) := by decide +kernel
theorem dL_run_2 : decode cL_run 2 = .ok (.aload_n 0, 1) := by decide +kernel
theorem dL_run_3 : decode cL_run 3 = .ok (.invokevirtual 45, 3) := by decide +kernel
theorem dL_run_6 : decode cL_run 6 = .ok (.i2l, 1) := by decide +kernel
theorem dL_run_7 : decode cL_run 7 = .ok (.lastore, 1) := by decide +kernel
theorem dL_run_8 : decode cL_run 8 = .ok (.goto 6, 3) := by decide +kernel
theorem dL_run_11 : decode cL_run 11 = .ok (.astore_n 2, 1) := by decide +kernel
theorem dL_run_12 : decode cL_run 12 = .ok (.iconst 1, 1) := by decide +kernel
theorem dL_run_13 : decode cL_run 13 = .ok (.ireturn, 1) := by decide +kernel
theorem dL_run_14 : decode cL_run 14 = .ok (.iconst 0, 1) := by decide +kernel
theorem dL_run_15 : decode cL_run 15 = .ok (.ireturn, 1) := by decide +kernel
theorem dL_undo_0 : decode cL_undo 0 = .ok (.aload_n 1, 1) := by decide +kernel
theorem dL_undo_1 : decode cL_undo 1 = .ok (.iconst 0, 1) := by decide +kernel
theorem dL_undo_2 : decode cL_undo 2 = .ok (.aload_n 0, 1) := by decide +kernel
theorem dL_undo_3 : decode cL_undo 3 = .ok (.invokevirtual 49, 3) := by decide +kernel
theorem dL_undo_6 : decode cL_undo 6 = .ok (.i2l, 1) := by decide +kernel
theorem dL_undo_7 : decode cL_undo 7 = .ok (.lastore, 1) := by decide +kernel
theorem dL_undo_8 : decode cL_undo 8 = .ok (.goto 6, 3) := by decide +kernel
theorem dL_undo_11 : decode cL_undo 11 = .ok (.astore_n 2, 1) := by decide +kernel
theorem dL_undo_12 : decode cL_undo 12 = .ok (.iconst 1, 1) := by decide +kernel
theorem dL_undo_13 : decode cL_undo 13 = .ok (.ireturn, 1) := by decide +kernel
theorem dL_undo_14 : decode cL_undo 14 = .ok (.iconst 0, 1) := by decide +kernel
theorem dL_undo_15 : decode cL_undo 15 = .ok (.ireturn, 1) := by decide +kernel
theorem dL_fuse_0 : decode cL_fuse 0 = .ok (.aload 4, 2) := by decide +kernel
theorem dL_fuse_2 : decode cL_fuse 2 = .ok (.iconst 0, 1) := by decide +kernel
theorem dL_fuse_3 : decode cL_fuse 3 = .ok (.aload_n 0, 1) := by decide +kernel
theorem dL_fuse_4 : decode cL_fuse 4 = .ok (.iload_n 1, 1) := by decide +kernel
theorem dL_fuse_5 : decode cL_fuse 5 = .ok (.iload_n 2, 1) := by decide +kernel
theorem dL_fuse_6 : decode cL_fuse 6 = .ok (.iload_n 3, 1) := by decide +kernel
theorem dL_fuse_7 : decode cL_fuse 7 = .ok (.invokevirtual 52, 3) := by decide +kernel
theorem dL_fuse_10 : decode cL_fuse 10 = .ok (.i2l, 1) := by decide +kernel
theorem dL_fuse_11 : decode cL_fuse 11 = .ok (.lastore, 1) := by decide +kernel
theorem dL_fuse_12 : decode cL_fuse 12 = .ok (.goto 11, 3) := by decide +kernel
theorem dL_fuse_15 : decode cL_fuse 15 = .ok (.astore 5, 2) := by decide +kernel
theorem dL_fuse_17 : decode cL_fuse 17 = .ok (.iconst 1, 1) := by decide +kernel
theorem dL_fuse_18 : decode cL_fuse 18 = .ok (.ireturn, 1) := by decide +kernel
theorem dL_fuse_19 : decode cL_fuse 19 = .ok (.astore 5, 2) := by decide +kernel
theorem dL_fuse_21 : decode cL_fuse 21 = .ok (.iconst 2, 1) := by decide +kernel
theorem dL_fuse_22 : decode cL_fuse 22 = .ok (.ireturn, 1) := by decide +kernel
theorem dL_fuse_23 : decode cL_fuse 23 = .ok (.iconst 0, 1) := by decide +kernel
theorem dL_fuse_24 : decode cL_fuse 24 = .ok (.ireturn, 1) := by decide +kernel
theorem dL_row_0 : decode cL_row 0 = .ok (.aload_n 3, 1) := by decide +kernel
theorem dL_row_1 : decode cL_row 1 = .ok (.iconst 0, 1) := by decide +kernel
theorem dL_row_2 : decode cL_row 2 = .ok (.aload_n 0, 1) := by decide +kernel
theorem dL_row_3 : decode cL_row 3 = .ok (.iload_n 1, 1) := by decide +kernel
theorem dL_row_4 : decode cL_row 4 = .ok (.iload_n 2, 1) := by decide +kernel
theorem dL_row_5 : decode cL_row 5 = .ok (.invokevirtual 55, 3) := by decide +kernel
theorem dL_row_8 : decode cL_row 8 = .ok (.i2l, 1) := by decide +kernel
theorem dL_row_9 : decode cL_row 9 = .ok (.lastore, 1) := by decide +kernel
theorem dL_row_10 : decode cL_row 10 = .ok (.goto 11, 3) := by decide +kernel
theorem dL_row_13 : decode cL_row 13 = .ok (.astore 4, 2) := by decide +kernel
theorem dL_row_15 : decode cL_row 15 = .ok (.iconst 1, 1) := by decide +kernel
theorem dL_row_16 : decode cL_row 16 = .ok (.ireturn, 1) := by decide +kernel
theorem dL_row_17 : decode cL_row 17 = .ok (.astore 4, 2) := by decide +kernel
theorem dL_row_19 : decode cL_row 19 = .ok (.iconst 2, 1) := by decide +kernel
theorem dL_row_20 : decode cL_row 20 = .ok (.ireturn, 1) := by decide +kernel
theorem dL_row_21 : decode cL_row 21 = .ok (.iconst 0, 1) := by decide +kernel
theorem dL_row_22 : decode cL_row 22 = .ok (.ireturn, 1) := by decide +kernel
theorem dL_key_0 : decode cL_key 0 = .ok (.aload_n 3, 1) := by decide +kernel
theorem dL_key_1 : decode cL_key 1 = .ok (.iconst 0, 1) := by decide +kernel
theorem dL_key_2 : decode cL_key 2 = .ok (.aload_n 0, 1) := by decide +kernel
theorem dL_key_3 : decode cL_key 3 = .ok (.iload_n 1, 1) := by decide +kernel
theorem dL_key_4 : decode cL_key 4 = .ok (.iload_n 2, 1) := by decide +kernel
theorem dL_key_5 : decode cL_key 5 = .ok (.invokevirtual 58, 3) := by decide +kernel
theorem dL_key_8 : decode cL_key 8 = .ok (.i2l, 1) := by decide +kernel
theorem dL_key_9 : decode cL_key 9 = .ok (.lastore, 1) := by decide +kernel
theorem dL_key_10 : decode cL_key 10 = .ok (.goto 7, 3) := by decide +kernel
theorem dL_key_13 : decode cL_key 13 = .ok (.astore 4, 2) := by decide +kernel
theorem dL_key_15 : decode cL_key 15 = .ok (.iconst 1, 1) := by decide +kernel
theorem dL_key_16 : decode cL_key 16 = .ok (.ireturn, 1) := by decide +kernel
theorem dL_key_17 : decode cL_key 17 = .ok (.iconst 0, 1) := by decide +kernel
theorem dL_key_18 : decode cL_key 18 = .ok (.ireturn, 1) := by decide +kernel
theorem dL_history_0 : decode cL_history 0 = .ok (.aload_n 3, 1) := by decide +kernel
theorem dL_history_1 : decode cL_history 1 = .ok (.iconst 0, 1) := by decide +kernel
theorem dL_history_2 : decode cL_history 2 = .ok (.aload_n 0, 1) := by decide +kernel
theorem dL_history_3 : decode cL_history 3 = .ok (.iload_n 1, 1) := by decide +kernel
theorem dL_history_4 : decode cL_history 4 = .ok (.iload_n 2, 1) := by decide +kernel
theorem dL_history_5 : decode cL_history 5 = .ok (.invokevirtual 61, 3) := by decide +kernel
theorem dL_history_8 : decode cL_history 8 = .ok (.i2l, 1) := by decide +kernel
theorem dL_history_9 : decode cL_history 9 = .ok (.lastore, 1) := by decide +kernel
theorem dL_history_10 : decode cL_history 10 = .ok (.goto 7, 3) := by decide +kernel
theorem dL_history_13 : decode cL_history 13 = .ok (.astore 4, 2) := by decide +kernel
theorem dL_history_15 : decode cL_history 15 = .ok (.iconst 1, 1) := by decide +kernel
theorem dL_history_16 : decode cL_history 16 = .ok (.ireturn, 1) := by decide +kernel
theorem dL_history_17 : decode cL_history 17 = .ok (.iconst 0, 1) := by decide +kernel
theorem dL_history_18 : decode cL_history 18 = .ok (.ireturn, 1) := by decide +kernel
theorem dL_count_0 : decode cL_count 0 = .ok (.aload_n 2, 1) := by decide +kernel
theorem dL_count_1 : decode cL_count 1 = .ok (.iconst 0, 1) := by decide +kernel
theorem dL_count_2 : decode cL_count 2 = .ok (.aload_n 0, 1) := by decide +kernel
theorem dL_count_3 : decode cL_count 3 = .ok (.iload_n 1, 1) := by decide +kernel
theorem dL_count_4 : decode cL_count 4 = .ok (.invokevirtual 64, 3) := by decide +kernel
theorem dL_count_7 : decode cL_count 7 = .ok (.i2l, 1) := by decide +kernel
theorem dL_count_8 : decode cL_count 8 = .ok (.lastore, 1) := by decide +kernel
theorem dL_count_9 : decode cL_count 9 = .ok (.goto 6, 3) := by decide +kernel
theorem dL_count_12 : decode cL_count 12 = .ok (.astore_n 3, 1) := by decide +kernel
theorem dL_count_13 : decode cL_count 13 = .ok (.iconst 1, 1) := by decide +kernel
theorem dL_count_14 : decode cL_count 14 = .ok (.ireturn, 1) := by decide +kernel
theorem dL_count_15 : decode cL_count 15 = .ok (.iconst 0, 1) := by decide +kernel
theorem dL_count_16 : decode cL_count 16 = .ok (.ireturn, 1) := by decide +kernel
theorem dL_setting_0 : decode cL_setting 0 = .ok (.aload_n 2, 1) := by decide +kernel
theorem dL_setting_1 : decode cL_setting 1 = .ok (.iconst 0, 1) := by decide +kernel
theorem dL_setting_2 : decode cL_setting 2 = .ok (.aload_n 0, 1) := by decide +kernel
theorem dL_setting_3 : decode cL_setting 3 = .ok (.iload_n 1, 1) := by decide +kernel
theorem dL_setting_4 : decode cL_setting 4 = .ok (.invokevirtual 67, 3) := by decide +kernel
theorem dL_setting_7 : decode cL_setting 7 = .ok (.i2l, 1) := by decide +kernel
theorem dL_setting_8 : decode cL_setting 8 = .ok (.lastore, 1) := by decide +kernel
theorem dL_setting_9 : decode cL_setting 9 = .ok (.goto 6, 3) := by decide +kernel
theorem dL_setting_12 : decode cL_setting 12 = .ok (.astore_n 3, 1) := by decide +kernel
theorem dL_setting_13 : decode cL_setting 13 = .ok (.iconst 1, 1) := by decide +kernel
theorem dL_setting_14 : decode cL_setting 14 = .ok (.ireturn, 1) := by decide +kernel
theorem dL_setting_15 : decode cL_setting 15 = .ok (.iconst 0, 1) := by decide +kernel
theorem dL_setting_16 : decode cL_setting 16 = .ok (.ireturn, 1) := by decide +kernel
theorem dL_ifPut_0 : decode cL_ifPut 0 = .ok (.aload 4, 2) := by decide +kernel
theorem dL_ifPut_2 : decode cL_ifPut 2 = .ok (.iconst 0, 1) := by decide +kernel
theorem dL_ifPut_3 : decode cL_ifPut 3 = .ok (.aload_n 0, 1) := by decide +kernel
theorem dL_ifPut_4 : decode cL_ifPut 4 = .ok (.iload_n 1, 1) := by decide +kernel
theorem dL_ifPut_5 : decode cL_ifPut 5 = .ok (.iload_n 2, 1) := by decide +kernel
theorem dL_ifPut_6 : decode cL_ifPut 6 = .ok (.iload_n 3, 1) := by decide +kernel
theorem dL_ifPut_7 : decode cL_ifPut 7 = .ok (.invokevirtual 70, 3) := by decide +kernel
theorem dL_ifPut_10 : decode cL_ifPut 10 = .ok (.i2l, 1) := by decide +kernel
theorem dL_ifPut_11 : decode cL_ifPut 11 = .ok (.lastore, 1) := by decide +kernel
theorem dL_ifPut_12 : decode cL_ifPut 12 = .ok (.goto 7, 3) := by decide +kernel
theorem dL_ifPut_15 : decode cL_ifPut 15 = .ok (.astore 5, 2) := by decide +kernel
theorem dL_ifPut_17 : decode cL_ifPut 17 = .ok (.iconst 1, 1) := by decide +kernel
theorem dL_ifPut_18 : decode cL_ifPut 18 = .ok (.ireturn, 1) := by decide +kernel
theorem dL_ifPut_19 : decode cL_ifPut 19 = .ok (.iconst 0, 1) := by decide +kernel
theorem dL_ifPut_20 : decode cL_ifPut 20 = .ok (.ireturn, 1) := by decide +kernel
theorem dL_ifHeated_0 : decode cL_ifHeated 0 = .ok (.aload_n 3, 1) := by decide +kernel
theorem dL_ifHeated_1 : decode cL_ifHeated 1 = .ok (.iconst 0, 1) := by decide +kernel
theorem dL_ifHeated_2 : decode cL_ifHeated 2 = .ok (.aload_n 0, 1) := by decide +kernel
theorem dL_ifHeated_3 : decode cL_ifHeated 3 = .ok (.iload_n 1, 1) := by decide +kernel
theorem dL_ifHeated_4 : decode cL_ifHeated 4 = .ok (.iload_n 2, 1) := by decide +kernel
theorem dL_ifHeated_5 : decode cL_ifHeated 5 = .ok (.invokevirtual 73, 3) := by decide +kernel
theorem dL_ifHeated_8 : decode cL_ifHeated 8 = .ok (.i2l, 1) := by decide +kernel
theorem dL_ifHeated_9 : decode cL_ifHeated 9 = .ok (.lastore, 1) := by decide +kernel
theorem dL_ifHeated_10 : decode cL_ifHeated 10 = .ok (.goto 7, 3) := by decide +kernel
theorem dL_ifHeated_13 : decode cL_ifHeated 13 = .ok (.astore 4, 2) := by decide +kernel
theorem dL_ifHeated_15 : decode cL_ifHeated 15 = .ok (.iconst 1, 1) := by decide +kernel
theorem dL_ifHeated_16 : decode cL_ifHeated 16 = .ok (.ireturn, 1) := by decide +kernel
theorem dL_ifHeated_17 : decode cL_ifHeated 17 = .ok (.iconst 0, 1) := by decide +kernel
theorem dL_ifHeated_18 : decode cL_ifHeated 18 = .ok (.ireturn, 1) := by decide +kernel
theorem dL_ifRead_0 : decode cL_ifRead 0 = .ok (.aload_n 3, 1) := by decide +kernel
theorem dL_ifRead_1 : decode cL_ifRead 1 = .ok (.iconst 0, 1) := by decide +kernel
theorem dL_ifRead_2 : decode cL_ifRead 2 = .ok (.aload_n 0, 1) := by decide +kernel
theorem dL_ifRead_3 : decode cL_ifRead 3 = .ok (.iload_n 1, 1) := by decide +kernel
theorem dL_ifRead_4 : decode cL_ifRead 4 = .ok (.iload_n 2, 1) := by decide +kernel
theorem dL_ifRead_5 : decode cL_ifRead 5 = .ok (.invokevirtual 76, 3) := by decide +kernel
theorem dL_ifRead_8 : decode cL_ifRead 8 = .ok (.i2l, 1) := by decide +kernel
theorem dL_ifRead_9 : decode cL_ifRead 9 = .ok (.lastore, 1) := by decide +kernel
theorem dL_ifRead_10 : decode cL_ifRead 10 = .ok (.goto 7, 3) := by decide +kernel
theorem dL_ifRead_13 : decode cL_ifRead 13 = .ok (.astore 4, 2) := by decide +kernel
theorem dL_ifRead_15 : decode cL_ifRead 15 = .ok (.iconst 1, 1) := by decide +kernel
theorem dL_ifRead_16 : decode cL_ifRead 16 = .ok (.ireturn, 1) := by decide +kernel
theorem dL_ifRead_17 : decode cL_ifRead 17 = .ok (.iconst 0, 1) := by decide +kernel
theorem dL_ifRead_18 : decode cL_ifRead 18 = .ok (.ireturn, 1) := by decide +kernel
theorem dL_law_0 : decode cL_law 0 = .ok (.new 8, 3) := by decide +kernel
theorem dL_law_3 : decode cL_law 3 = .ok (.dup, 1) := by decide +kernel
theorem dL_law_4 : decode cL_law 4 = .ok (.invokespecial 80, 3) := by decide +kernel
theorem dL_law_7 : decode cL_law 7 = .ok (.astore_n 1, 1) := by decide +kernel
theorem dL_law_8 : decode cL_law 8 = .ok (.new 81, 3) := by decide +kernel
theorem dL_law_11 : decode cL_law 11 = .ok (.dup, 1) := by decide +kernel
theorem dL_law_12 : decode cL_law 12 = .ok (.invokespecial 83, 3) := by decide +kernel
theorem dL_law_15 : decode cL_law 15 = .ok (.astore_n 2, 1) := by decide +kernel
theorem dL_law_16 : decode cL_law 16 = .ok (.iconst 1, 1) := by decide +kernel
theorem dL_law_17 : decode cL_law 17 = .ok (.newarray .long, 2) := by decide +kernel
theorem dL_law_19 : decode cL_law 19 = .ok (.astore_n 3, 1) := by decide +kernel
theorem dL_law_20 : decode cL_law 20 = .ok (.iconst 0, 1) := by decide +kernel
theorem dL_law_21 : decode cL_law 21 = .ok (.istore 4, 2) := by decide +kernel
theorem dL_law_23 : decode cL_law 23 = .ok (.iload 4, 2) := by decide +kernel
theorem dL_law_25 : decode cL_law 25 = .ok (.aload_n 0, 1) := by decide +kernel
theorem dL_law_26 : decode cL_law 26 = .ok (.arraylength, 1) := by decide +kernel
theorem dL_law_27 : decode cL_law 27 = .ok (.iconst 4, 1) := by decide +kernel
theorem dL_law_28 : decode cL_law 28 = .ok (.isub, 1) := by decide +kernel
theorem dL_law_29 : decode cL_law 29 = .ok (.if_icmp .gt 1491, 3) := by decide +kernel
theorem dL_law_32 : decode cL_law 32 = .ok (.aload_n 0, 1) := by decide +kernel
theorem dL_law_33 : decode cL_law 33 = .ok (.iload 4, 2) := by decide +kernel
theorem dL_law_35 : decode cL_law 35 = .ok (.iaload, 1) := by decide +kernel
theorem dL_law_36 : decode cL_law 36 = .ok (.bipush 31, 2) := by decide +kernel
theorem dL_law_38 : decode cL_law 38 = .ok (.iand, 1) := by decide +kernel
theorem dL_law_39 : decode cL_law 39 = .ok (.tableswitch 1475 0 24 #[113, 193, 261, 317, 373, 429, 485, 541, 609, 665, 678, 691, 735, 779, 859, 927, 995, 1063, 1119, 1175, 1255, 1323, 1407, 1420, 1461], 113) := by decide +kernel
theorem dL_law_152 : decode cL_law 152 = .ok (.aload_n 1, 1) := by decide +kernel
theorem dL_law_153 : decode cL_law 153 = .ok (.aload_n 0, 1) := by decide +kernel
theorem dL_law_154 : decode cL_law 154 = .ok (.iload 4, 2) := by decide +kernel
theorem dL_law_156 : decode cL_law 156 = .ok (.iconst 1, 1) := by decide +kernel
theorem dL_law_157 : decode cL_law 157 = .ok (.iadd, 1) := by decide +kernel
theorem dL_law_158 : decode cL_law 158 = .ok (.iaload, 1) := by decide +kernel
theorem dL_law_159 : decode cL_law 159 = .ok (.aload_n 0, 1) := by decide +kernel
theorem dL_law_160 : decode cL_law 160 = .ok (.iload 4, 2) := by decide +kernel
theorem dL_law_162 : decode cL_law 162 = .ok (.iconst 2, 1) := by decide +kernel
theorem dL_law_163 : decode cL_law 163 = .ok (.iadd, 1) := by decide +kernel
theorem dL_law_164 : decode cL_law 164 = .ok (.iaload, 1) := by decide +kernel
theorem dL_law_165 : decode cL_law 165 = .ok (.aload_n 0, 1) := by decide +kernel
theorem dL_law_166 : decode cL_law 166 = .ok (.iload 4, 2) := by decide +kernel
theorem dL_law_168 : decode cL_law 168 = .ok (.iconst 3, 1) := by decide +kernel
theorem dL_law_169 : decode cL_law 169 = .ok (.iadd, 1) := by decide +kernel
theorem dL_law_170 : decode cL_law 170 = .ok (.iaload, 1) := by decide +kernel
theorem dL_law_171 : decode cL_law 171 = .ok (.aload_n 3, 1) := by decide +kernel
theorem dL_law_172 : decode cL_law 172 = .ok (.invokestatic 84, 3) := by decide +kernel
theorem dL_law_175 : decode cL_law 175 = .ok (.istore 5, 2) := by decide +kernel
theorem dL_law_177 : decode cL_law 177 = .ok (.aload_n 2, 1) := by decide +kernel
theorem dL_law_178 : decode cL_law 178 = .ok (.aload_n 0, 1) := by decide +kernel
theorem dL_law_179 : decode cL_law 179 = .ok (.iload 4, 2) := by decide +kernel
theorem dL_law_181 : decode cL_law 181 = .ok (.iconst 1, 1) := by decide +kernel
theorem dL_law_182 : decode cL_law 182 = .ok (.iadd, 1) := by decide +kernel
theorem dL_law_183 : decode cL_law 183 = .ok (.iaload, 1) := by decide +kernel
theorem dL_law_184 : decode cL_law 184 = .ok (.aload_n 0, 1) := by decide +kernel
theorem dL_law_185 : decode cL_law 185 = .ok (.iload 4, 2) := by decide +kernel
theorem dL_law_187 : decode cL_law 187 = .ok (.iconst 2, 1) := by decide +kernel
theorem dL_law_188 : decode cL_law 188 = .ok (.iadd, 1) := by decide +kernel
theorem dL_law_189 : decode cL_law 189 = .ok (.iaload, 1) := by decide +kernel
theorem dL_law_190 : decode cL_law 190 = .ok (.aload_n 0, 1) := by decide +kernel
theorem dL_law_191 : decode cL_law 191 = .ok (.iload 4, 2) := by decide +kernel
theorem dL_law_193 : decode cL_law 193 = .ok (.iconst 3, 1) := by decide +kernel
theorem dL_law_194 : decode cL_law 194 = .ok (.iadd, 1) := by decide +kernel
theorem dL_law_195 : decode cL_law 195 = .ok (.iaload, 1) := by decide +kernel
theorem dL_law_196 : decode cL_law 196 = .ok (.invokevirtual 89, 3) := by decide +kernel
theorem dL_law_199 : decode cL_law 199 = .ok (.istore 6, 2) := by decide +kernel
theorem dL_law_201 : decode cL_law 201 = .ok (.aload_n 2, 1) := by decide +kernel
theorem dL_law_202 : decode cL_law 202 = .ok (.invokevirtual 90, 3) := by decide +kernel
theorem dL_law_205 : decode cL_law 205 = .ok (.iload 5, 2) := by decide +kernel
theorem dL_law_207 : decode cL_law 207 = .ok (.if_icmp .eq 5, 3) := by decide +kernel
theorem dL_law_210 : decode cL_law 210 = .ok (.iconst 0, 1) := by decide +kernel
theorem dL_law_211 : decode cL_law 211 = .ok (.ireturn, 1) := by decide +kernel
theorem dL_law_212 : decode cL_law 212 = .ok (.iload 5, 2) := by decide +kernel
theorem dL_law_214 : decode cL_law 214 = .ok (.ifCond .ne 15, 3) := by decide +kernel
theorem dL_law_217 : decode cL_law 217 = .ok (.aload_n 3, 1) := by decide +kernel
theorem dL_law_218 : decode cL_law 218 = .ok (.iconst 0, 1) := by decide +kernel
theorem dL_law_219 : decode cL_law 219 = .ok (.laload, 1) := by decide +kernel
theorem dL_law_220 : decode cL_law 220 = .ok (.iload 6, 2) := by decide +kernel
theorem dL_law_222 : decode cL_law 222 = .ok (.i2l, 1) := by decide +kernel
theorem dL_law_223 : decode cL_law 223 = .ok (.lcmp, 1) := by decide +kernel
theorem dL_law_224 : decode cL_law 224 = .ok (.ifCond .eq 5, 3) := by decide +kernel
theorem dL_law_227 : decode cL_law 227 = .ok (.iconst 0, 1) := by decide +kernel
theorem dL_law_228 : decode cL_law 228 = .ok (.ireturn, 1) := by decide +kernel
theorem dL_law_229 : decode cL_law 229 = .ok (.goto 1285, 3) := by decide +kernel
theorem dL_law_232 : decode cL_law 232 = .ok (.aload_n 1, 1) := by decide +kernel
theorem dL_law_233 : decode cL_law 233 = .ok (.aload_n 0, 1) := by decide +kernel
theorem dL_law_234 : decode cL_law 234 = .ok (.iload 4, 2) := by decide +kernel
theorem dL_law_236 : decode cL_law 236 = .ok (.iconst 1, 1) := by decide +kernel
theorem dL_law_237 : decode cL_law 237 = .ok (.iadd, 1) := by decide +kernel
theorem dL_law_238 : decode cL_law 238 = .ok (.iaload, 1) := by decide +kernel
theorem dL_law_239 : decode cL_law 239 = .ok (.aload_n 0, 1) := by decide +kernel
theorem dL_law_240 : decode cL_law 240 = .ok (.iload 4, 2) := by decide +kernel
theorem dL_law_242 : decode cL_law 242 = .ok (.iconst 2, 1) := by decide +kernel
theorem dL_law_243 : decode cL_law 243 = .ok (.iadd, 1) := by decide +kernel
theorem dL_law_244 : decode cL_law 244 = .ok (.iaload, 1) := by decide +kernel
theorem dL_law_245 : decode cL_law 245 = .ok (.aload_n 3, 1) := by decide +kernel
theorem dL_law_246 : decode cL_law 246 = .ok (.invokestatic 93, 3) := by decide +kernel
theorem dL_law_249 : decode cL_law 249 = .ok (.istore 5, 2) := by decide +kernel
theorem dL_law_251 : decode cL_law 251 = .ok (.aload_n 2, 1) := by decide +kernel
theorem dL_law_252 : decode cL_law 252 = .ok (.aload_n 0, 1) := by decide +kernel
theorem dL_law_253 : decode cL_law 253 = .ok (.iload 4, 2) := by decide +kernel
theorem dL_law_255 : decode cL_law 255 = .ok (.iconst 1, 1) := by decide +kernel
theorem dL_law_256 : decode cL_law 256 = .ok (.iadd, 1) := by decide +kernel
theorem dL_law_257 : decode cL_law 257 = .ok (.iaload, 1) := by decide +kernel
theorem dL_law_258 : decode cL_law 258 = .ok (.aload_n 0, 1) := by decide +kernel
theorem dL_law_259 : decode cL_law 259 = .ok (.iload 4, 2) := by decide +kernel
theorem dL_law_261 : decode cL_law 261 = .ok (.iconst 2, 1) := by decide +kernel
theorem dL_law_262 : decode cL_law 262 = .ok (.iadd, 1) := by decide +kernel
theorem dL_law_263 : decode cL_law 263 = .ok (.iaload, 1) := by decide +kernel
theorem dL_law_264 : decode cL_law 264 = .ok (.invokevirtual 96, 3) := by decide +kernel
theorem dL_law_267 : decode cL_law 267 = .ok (.istore 6, 2) := by decide +kernel
theorem dL_law_269 : decode cL_law 269 = .ok (.aload_n 2, 1) := by decide +kernel
theorem dL_law_270 : decode cL_law 270 = .ok (.invokevirtual 90, 3) := by decide +kernel
theorem dL_law_273 : decode cL_law 273 = .ok (.iload 5, 2) := by decide +kernel
theorem dL_law_275 : decode cL_law 275 = .ok (.if_icmp .eq 5, 3) := by decide +kernel
theorem dL_law_278 : decode cL_law 278 = .ok (.iconst 0, 1) := by decide +kernel
theorem dL_law_279 : decode cL_law 279 = .ok (.ireturn, 1) := by decide +kernel
theorem dL_law_280 : decode cL_law 280 = .ok (.iload 5, 2) := by decide +kernel
theorem dL_law_282 : decode cL_law 282 = .ok (.ifCond .ne 15, 3) := by decide +kernel
theorem dL_law_285 : decode cL_law 285 = .ok (.aload_n 3, 1) := by decide +kernel
theorem dL_law_286 : decode cL_law 286 = .ok (.iconst 0, 1) := by decide +kernel
theorem dL_law_287 : decode cL_law 287 = .ok (.laload, 1) := by decide +kernel
theorem dL_law_288 : decode cL_law 288 = .ok (.iload 6, 2) := by decide +kernel
theorem dL_law_290 : decode cL_law 290 = .ok (.i2l, 1) := by decide +kernel
theorem dL_law_291 : decode cL_law 291 = .ok (.lcmp, 1) := by decide +kernel
theorem dL_law_292 : decode cL_law 292 = .ok (.ifCond .eq 5, 3) := by decide +kernel
theorem dL_law_295 : decode cL_law 295 = .ok (.iconst 0, 1) := by decide +kernel
theorem dL_law_296 : decode cL_law 296 = .ok (.ireturn, 1) := by decide +kernel
theorem dL_law_297 : decode cL_law 297 = .ok (.goto 1217, 3) := by decide +kernel
theorem dL_law_300 : decode cL_law 300 = .ok (.aload_n 1, 1) := by decide +kernel
theorem dL_law_301 : decode cL_law 301 = .ok (.aload_n 0, 1) := by decide +kernel
theorem dL_law_302 : decode cL_law 302 = .ok (.iload 4, 2) := by decide +kernel
theorem dL_law_304 : decode cL_law 304 = .ok (.iconst 1, 1) := by decide +kernel
theorem dL_law_305 : decode cL_law 305 = .ok (.iadd, 1) := by decide +kernel
theorem dL_law_306 : decode cL_law 306 = .ok (.iaload, 1) := by decide +kernel
theorem dL_law_307 : decode cL_law 307 = .ok (.aload_n 3, 1) := by decide +kernel
theorem dL_law_308 : decode cL_law 308 = .ok (.invokestatic 97, 3) := by decide +kernel
theorem dL_law_311 : decode cL_law 311 = .ok (.istore 5, 2) := by decide +kernel
theorem dL_law_313 : decode cL_law 313 = .ok (.aload_n 2, 1) := by decide +kernel
theorem dL_law_314 : decode cL_law 314 = .ok (.aload_n 0, 1) := by decide +kernel
theorem dL_law_315 : decode cL_law 315 = .ok (.iload 4, 2) := by decide +kernel
theorem dL_law_317 : decode cL_law 317 = .ok (.iconst 1, 1) := by decide +kernel
theorem dL_law_318 : decode cL_law 318 = .ok (.iadd, 1) := by decide +kernel
theorem dL_law_319 : decode cL_law 319 = .ok (.iaload, 1) := by decide +kernel
theorem dL_law_320 : decode cL_law 320 = .ok (.invokevirtual 100, 3) := by decide +kernel
theorem dL_law_323 : decode cL_law 323 = .ok (.istore 6, 2) := by decide +kernel
theorem dL_law_325 : decode cL_law 325 = .ok (.aload_n 2, 1) := by decide +kernel
theorem dL_law_326 : decode cL_law 326 = .ok (.invokevirtual 90, 3) := by decide +kernel
theorem dL_law_329 : decode cL_law 329 = .ok (.iload 5, 2) := by decide +kernel
theorem dL_law_331 : decode cL_law 331 = .ok (.if_icmp .eq 5, 3) := by decide +kernel
theorem dL_law_334 : decode cL_law 334 = .ok (.iconst 0, 1) := by decide +kernel
theorem dL_law_335 : decode cL_law 335 = .ok (.ireturn, 1) := by decide +kernel
theorem dL_law_336 : decode cL_law 336 = .ok (.iload 5, 2) := by decide +kernel
theorem dL_law_338 : decode cL_law 338 = .ok (.ifCond .ne 15, 3) := by decide +kernel
theorem dL_law_341 : decode cL_law 341 = .ok (.aload_n 3, 1) := by decide +kernel
theorem dL_law_342 : decode cL_law 342 = .ok (.iconst 0, 1) := by decide +kernel
theorem dL_law_343 : decode cL_law 343 = .ok (.laload, 1) := by decide +kernel
theorem dL_law_344 : decode cL_law 344 = .ok (.iload 6, 2) := by decide +kernel
theorem dL_law_346 : decode cL_law 346 = .ok (.i2l, 1) := by decide +kernel
theorem dL_law_347 : decode cL_law 347 = .ok (.lcmp, 1) := by decide +kernel
theorem dL_law_348 : decode cL_law 348 = .ok (.ifCond .eq 5, 3) := by decide +kernel
theorem dL_law_351 : decode cL_law 351 = .ok (.iconst 0, 1) := by decide +kernel
theorem dL_law_352 : decode cL_law 352 = .ok (.ireturn, 1) := by decide +kernel
theorem dL_law_353 : decode cL_law 353 = .ok (.goto 1161, 3) := by decide +kernel
theorem dL_law_356 : decode cL_law 356 = .ok (.aload_n 1, 1) := by decide +kernel
theorem dL_law_357 : decode cL_law 357 = .ok (.aload_n 0, 1) := by decide +kernel
theorem dL_law_358 : decode cL_law 358 = .ok (.iload 4, 2) := by decide +kernel
theorem dL_law_360 : decode cL_law 360 = .ok (.iconst 1, 1) := by decide +kernel
theorem dL_law_361 : decode cL_law 361 = .ok (.iadd, 1) := by decide +kernel
theorem dL_law_362 : decode cL_law 362 = .ok (.iaload, 1) := by decide +kernel
theorem dL_law_363 : decode cL_law 363 = .ok (.aload_n 3, 1) := by decide +kernel
theorem dL_law_364 : decode cL_law 364 = .ok (.invokestatic 101, 3) := by decide +kernel
theorem dL_law_367 : decode cL_law 367 = .ok (.istore 5, 2) := by decide +kernel
theorem dL_law_369 : decode cL_law 369 = .ok (.aload_n 2, 1) := by decide +kernel
theorem dL_law_370 : decode cL_law 370 = .ok (.aload_n 0, 1) := by decide +kernel
theorem dL_law_371 : decode cL_law 371 = .ok (.iload 4, 2) := by decide +kernel
theorem dL_law_373 : decode cL_law 373 = .ok (.iconst 1, 1) := by decide +kernel
theorem dL_law_374 : decode cL_law 374 = .ok (.iadd, 1) := by decide +kernel
theorem dL_law_375 : decode cL_law 375 = .ok (.iaload, 1) := by decide +kernel
theorem dL_law_376 : decode cL_law 376 = .ok (.invokevirtual 103, 3) := by decide +kernel
theorem dL_law_379 : decode cL_law 379 = .ok (.istore 6, 2) := by decide +kernel
theorem dL_law_381 : decode cL_law 381 = .ok (.aload_n 2, 1) := by decide +kernel
theorem dL_law_382 : decode cL_law 382 = .ok (.invokevirtual 90, 3) := by decide +kernel
theorem dL_law_385 : decode cL_law 385 = .ok (.iload 5, 2) := by decide +kernel
theorem dL_law_387 : decode cL_law 387 = .ok (.if_icmp .eq 5, 3) := by decide +kernel
theorem dL_law_390 : decode cL_law 390 = .ok (.iconst 0, 1) := by decide +kernel
theorem dL_law_391 : decode cL_law 391 = .ok (.ireturn, 1) := by decide +kernel
theorem dL_law_392 : decode cL_law 392 = .ok (.iload 5, 2) := by decide +kernel
theorem dL_law_394 : decode cL_law 394 = .ok (.ifCond .ne 15, 3) := by decide +kernel
theorem dL_law_397 : decode cL_law 397 = .ok (.aload_n 3, 1) := by decide +kernel
theorem dL_law_398 : decode cL_law 398 = .ok (.iconst 0, 1) := by decide +kernel
theorem dL_law_399 : decode cL_law 399 = .ok (.laload, 1) := by decide +kernel
theorem dL_law_400 : decode cL_law 400 = .ok (.iload 6, 2) := by decide +kernel
theorem dL_law_402 : decode cL_law 402 = .ok (.i2l, 1) := by decide +kernel
theorem dL_law_403 : decode cL_law 403 = .ok (.lcmp, 1) := by decide +kernel
theorem dL_law_404 : decode cL_law 404 = .ok (.ifCond .eq 5, 3) := by decide +kernel
theorem dL_law_407 : decode cL_law 407 = .ok (.iconst 0, 1) := by decide +kernel
theorem dL_law_408 : decode cL_law 408 = .ok (.ireturn, 1) := by decide +kernel
theorem dL_law_409 : decode cL_law 409 = .ok (.goto 1105, 3) := by decide +kernel
theorem dL_law_412 : decode cL_law 412 = .ok (.aload_n 1, 1) := by decide +kernel
theorem dL_law_413 : decode cL_law 413 = .ok (.aload_n 0, 1) := by decide +kernel
theorem dL_law_414 : decode cL_law 414 = .ok (.iload 4, 2) := by decide +kernel
theorem dL_law_416 : decode cL_law 416 = .ok (.iconst 1, 1) := by decide +kernel
theorem dL_law_417 : decode cL_law 417 = .ok (.iadd, 1) := by decide +kernel
theorem dL_law_418 : decode cL_law 418 = .ok (.iaload, 1) := by decide +kernel
theorem dL_law_419 : decode cL_law 419 = .ok (.aload_n 3, 1) := by decide +kernel
theorem dL_law_420 : decode cL_law 420 = .ok (.invokestatic 104, 3) := by decide +kernel
theorem dL_law_423 : decode cL_law 423 = .ok (.istore 5, 2) := by decide +kernel
theorem dL_law_425 : decode cL_law 425 = .ok (.aload_n 2, 1) := by decide +kernel
theorem dL_law_426 : decode cL_law 426 = .ok (.aload_n 0, 1) := by decide +kernel
theorem dL_law_427 : decode cL_law 427 = .ok (.iload 4, 2) := by decide +kernel
theorem dL_law_429 : decode cL_law 429 = .ok (.iconst 1, 1) := by decide +kernel
theorem dL_law_430 : decode cL_law 430 = .ok (.iadd, 1) := by decide +kernel
theorem dL_law_431 : decode cL_law 431 = .ok (.iaload, 1) := by decide +kernel
theorem dL_law_432 : decode cL_law 432 = .ok (.invokevirtual 106, 3) := by decide +kernel
theorem dL_law_435 : decode cL_law 435 = .ok (.istore 6, 2) := by decide +kernel
theorem dL_law_437 : decode cL_law 437 = .ok (.aload_n 2, 1) := by decide +kernel
theorem dL_law_438 : decode cL_law 438 = .ok (.invokevirtual 90, 3) := by decide +kernel
theorem dL_law_441 : decode cL_law 441 = .ok (.iload 5, 2) := by decide +kernel
theorem dL_law_443 : decode cL_law 443 = .ok (.if_icmp .eq 5, 3) := by decide +kernel
theorem dL_law_446 : decode cL_law 446 = .ok (.iconst 0, 1) := by decide +kernel
theorem dL_law_447 : decode cL_law 447 = .ok (.ireturn, 1) := by decide +kernel
theorem dL_law_448 : decode cL_law 448 = .ok (.iload 5, 2) := by decide +kernel
theorem dL_law_450 : decode cL_law 450 = .ok (.ifCond .ne 15, 3) := by decide +kernel
theorem dL_law_453 : decode cL_law 453 = .ok (.aload_n 3, 1) := by decide +kernel
theorem dL_law_454 : decode cL_law 454 = .ok (.iconst 0, 1) := by decide +kernel
theorem dL_law_455 : decode cL_law 455 = .ok (.laload, 1) := by decide +kernel
theorem dL_law_456 : decode cL_law 456 = .ok (.iload 6, 2) := by decide +kernel
theorem dL_law_458 : decode cL_law 458 = .ok (.i2l, 1) := by decide +kernel
theorem dL_law_459 : decode cL_law 459 = .ok (.lcmp, 1) := by decide +kernel
theorem dL_law_460 : decode cL_law 460 = .ok (.ifCond .eq 5, 3) := by decide +kernel
theorem dL_law_463 : decode cL_law 463 = .ok (.iconst 0, 1) := by decide +kernel
theorem dL_law_464 : decode cL_law 464 = .ok (.ireturn, 1) := by decide +kernel
theorem dL_law_465 : decode cL_law 465 = .ok (.goto 1049, 3) := by decide +kernel
theorem dL_law_468 : decode cL_law 468 = .ok (.aload_n 1, 1) := by decide +kernel
theorem dL_law_469 : decode cL_law 469 = .ok (.aload_n 0, 1) := by decide +kernel
theorem dL_law_470 : decode cL_law 470 = .ok (.iload 4, 2) := by decide +kernel
theorem dL_law_472 : decode cL_law 472 = .ok (.iconst 1, 1) := by decide +kernel
theorem dL_law_473 : decode cL_law 473 = .ok (.iadd, 1) := by decide +kernel
theorem dL_law_474 : decode cL_law 474 = .ok (.iaload, 1) := by decide +kernel
theorem dL_law_475 : decode cL_law 475 = .ok (.aload_n 3, 1) := by decide +kernel
theorem dL_law_476 : decode cL_law 476 = .ok (.invokestatic 107, 3) := by decide +kernel
theorem dL_law_479 : decode cL_law 479 = .ok (.istore 5, 2) := by decide +kernel
theorem dL_law_481 : decode cL_law 481 = .ok (.aload_n 2, 1) := by decide +kernel
theorem dL_law_482 : decode cL_law 482 = .ok (.aload_n 0, 1) := by decide +kernel
theorem dL_law_483 : decode cL_law 483 = .ok (.iload 4, 2) := by decide +kernel
theorem dL_law_485 : decode cL_law 485 = .ok (.iconst 1, 1) := by decide +kernel
theorem dL_law_486 : decode cL_law 486 = .ok (.iadd, 1) := by decide +kernel
theorem dL_law_487 : decode cL_law 487 = .ok (.iaload, 1) := by decide +kernel
theorem dL_law_488 : decode cL_law 488 = .ok (.invokevirtual 109, 3) := by decide +kernel
theorem dL_law_491 : decode cL_law 491 = .ok (.istore 6, 2) := by decide +kernel
theorem dL_law_493 : decode cL_law 493 = .ok (.aload_n 2, 1) := by decide +kernel
theorem dL_law_494 : decode cL_law 494 = .ok (.invokevirtual 90, 3) := by decide +kernel
theorem dL_law_497 : decode cL_law 497 = .ok (.iload 5, 2) := by decide +kernel
theorem dL_law_499 : decode cL_law 499 = .ok (.if_icmp .eq 5, 3) := by decide +kernel
theorem dL_law_502 : decode cL_law 502 = .ok (.iconst 0, 1) := by decide +kernel
theorem dL_law_503 : decode cL_law 503 = .ok (.ireturn, 1) := by decide +kernel
theorem dL_law_504 : decode cL_law 504 = .ok (.iload 5, 2) := by decide +kernel
theorem dL_law_506 : decode cL_law 506 = .ok (.ifCond .ne 15, 3) := by decide +kernel
theorem dL_law_509 : decode cL_law 509 = .ok (.aload_n 3, 1) := by decide +kernel
theorem dL_law_510 : decode cL_law 510 = .ok (.iconst 0, 1) := by decide +kernel
theorem dL_law_511 : decode cL_law 511 = .ok (.laload, 1) := by decide +kernel
theorem dL_law_512 : decode cL_law 512 = .ok (.iload 6, 2) := by decide +kernel
theorem dL_law_514 : decode cL_law 514 = .ok (.i2l, 1) := by decide +kernel
theorem dL_law_515 : decode cL_law 515 = .ok (.lcmp, 1) := by decide +kernel
theorem dL_law_516 : decode cL_law 516 = .ok (.ifCond .eq 5, 3) := by decide +kernel
theorem dL_law_519 : decode cL_law 519 = .ok (.iconst 0, 1) := by decide +kernel
theorem dL_law_520 : decode cL_law 520 = .ok (.ireturn, 1) := by decide +kernel
theorem dL_law_521 : decode cL_law 521 = .ok (.goto 993, 3) := by decide +kernel
theorem dL_law_524 : decode cL_law 524 = .ok (.aload_n 1, 1) := by decide +kernel
theorem dL_law_525 : decode cL_law 525 = .ok (.aload_n 0, 1) := by decide +kernel
theorem dL_law_526 : decode cL_law 526 = .ok (.iload 4, 2) := by decide +kernel
theorem dL_law_528 : decode cL_law 528 = .ok (.iconst 1, 1) := by decide +kernel
theorem dL_law_529 : decode cL_law 529 = .ok (.iadd, 1) := by decide +kernel
theorem dL_law_530 : decode cL_law 530 = .ok (.iaload, 1) := by decide +kernel
theorem dL_law_531 : decode cL_law 531 = .ok (.aload_n 3, 1) := by decide +kernel
theorem dL_law_532 : decode cL_law 532 = .ok (.invokestatic 110, 3) := by decide +kernel
theorem dL_law_535 : decode cL_law 535 = .ok (.istore 5, 2) := by decide +kernel
theorem dL_law_537 : decode cL_law 537 = .ok (.aload_n 2, 1) := by decide +kernel
theorem dL_law_538 : decode cL_law 538 = .ok (.aload_n 0, 1) := by decide +kernel
theorem dL_law_539 : decode cL_law 539 = .ok (.iload 4, 2) := by decide +kernel
theorem dL_law_541 : decode cL_law 541 = .ok (.iconst 1, 1) := by decide +kernel
theorem dL_law_542 : decode cL_law 542 = .ok (.iadd, 1) := by decide +kernel
theorem dL_law_543 : decode cL_law 543 = .ok (.iaload, 1) := by decide +kernel
theorem dL_law_544 : decode cL_law 544 = .ok (.invokevirtual 112, 3) := by decide +kernel
theorem dL_law_547 : decode cL_law 547 = .ok (.istore 6, 2) := by decide +kernel
theorem dL_law_549 : decode cL_law 549 = .ok (.aload_n 2, 1) := by decide +kernel
theorem dL_law_550 : decode cL_law 550 = .ok (.invokevirtual 90, 3) := by decide +kernel
theorem dL_law_553 : decode cL_law 553 = .ok (.iload 5, 2) := by decide +kernel
theorem dL_law_555 : decode cL_law 555 = .ok (.if_icmp .eq 5, 3) := by decide +kernel
theorem dL_law_558 : decode cL_law 558 = .ok (.iconst 0, 1) := by decide +kernel
theorem dL_law_559 : decode cL_law 559 = .ok (.ireturn, 1) := by decide +kernel
theorem dL_law_560 : decode cL_law 560 = .ok (.iload 5, 2) := by decide +kernel
theorem dL_law_562 : decode cL_law 562 = .ok (.ifCond .ne 15, 3) := by decide +kernel
theorem dL_law_565 : decode cL_law 565 = .ok (.aload_n 3, 1) := by decide +kernel
theorem dL_law_566 : decode cL_law 566 = .ok (.iconst 0, 1) := by decide +kernel
theorem dL_law_567 : decode cL_law 567 = .ok (.laload, 1) := by decide +kernel
theorem dL_law_568 : decode cL_law 568 = .ok (.iload 6, 2) := by decide +kernel
theorem dL_law_570 : decode cL_law 570 = .ok (.i2l, 1) := by decide +kernel
theorem dL_law_571 : decode cL_law 571 = .ok (.lcmp, 1) := by decide +kernel
theorem dL_law_572 : decode cL_law 572 = .ok (.ifCond .eq 5, 3) := by decide +kernel
theorem dL_law_575 : decode cL_law 575 = .ok (.iconst 0, 1) := by decide +kernel
theorem dL_law_576 : decode cL_law 576 = .ok (.ireturn, 1) := by decide +kernel
theorem dL_law_577 : decode cL_law 577 = .ok (.goto 937, 3) := by decide +kernel
theorem dL_law_580 : decode cL_law 580 = .ok (.aload_n 1, 1) := by decide +kernel
theorem dL_law_581 : decode cL_law 581 = .ok (.aload_n 0, 1) := by decide +kernel
theorem dL_law_582 : decode cL_law 582 = .ok (.iload 4, 2) := by decide +kernel
theorem dL_law_584 : decode cL_law 584 = .ok (.iconst 1, 1) := by decide +kernel
theorem dL_law_585 : decode cL_law 585 = .ok (.iadd, 1) := by decide +kernel
theorem dL_law_586 : decode cL_law 586 = .ok (.iaload, 1) := by decide +kernel
theorem dL_law_587 : decode cL_law 587 = .ok (.aload_n 0, 1) := by decide +kernel
theorem dL_law_588 : decode cL_law 588 = .ok (.iload 4, 2) := by decide +kernel
theorem dL_law_590 : decode cL_law 590 = .ok (.iconst 2, 1) := by decide +kernel
theorem dL_law_591 : decode cL_law 591 = .ok (.iadd, 1) := by decide +kernel
theorem dL_law_592 : decode cL_law 592 = .ok (.iaload, 1) := by decide +kernel
theorem dL_law_593 : decode cL_law 593 = .ok (.aload_n 3, 1) := by decide +kernel
theorem dL_law_594 : decode cL_law 594 = .ok (.invokestatic 113, 3) := by decide +kernel
theorem dL_law_597 : decode cL_law 597 = .ok (.istore 5, 2) := by decide +kernel
theorem dL_law_599 : decode cL_law 599 = .ok (.aload_n 2, 1) := by decide +kernel
theorem dL_law_600 : decode cL_law 600 = .ok (.aload_n 0, 1) := by decide +kernel
theorem dL_law_601 : decode cL_law 601 = .ok (.iload 4, 2) := by decide +kernel
theorem dL_law_603 : decode cL_law 603 = .ok (.iconst 1, 1) := by decide +kernel
theorem dL_law_604 : decode cL_law 604 = .ok (.iadd, 1) := by decide +kernel
theorem dL_law_605 : decode cL_law 605 = .ok (.iaload, 1) := by decide +kernel
theorem dL_law_606 : decode cL_law 606 = .ok (.aload_n 0, 1) := by decide +kernel
theorem dL_law_607 : decode cL_law 607 = .ok (.iload 4, 2) := by decide +kernel
theorem dL_law_609 : decode cL_law 609 = .ok (.iconst 2, 1) := by decide +kernel
theorem dL_law_610 : decode cL_law 610 = .ok (.iadd, 1) := by decide +kernel
theorem dL_law_611 : decode cL_law 611 = .ok (.iaload, 1) := by decide +kernel
theorem dL_law_612 : decode cL_law 612 = .ok (.invokevirtual 115, 3) := by decide +kernel
theorem dL_law_615 : decode cL_law 615 = .ok (.istore 6, 2) := by decide +kernel
theorem dL_law_617 : decode cL_law 617 = .ok (.aload_n 2, 1) := by decide +kernel
theorem dL_law_618 : decode cL_law 618 = .ok (.invokevirtual 90, 3) := by decide +kernel
theorem dL_law_621 : decode cL_law 621 = .ok (.iload 5, 2) := by decide +kernel
theorem dL_law_623 : decode cL_law 623 = .ok (.if_icmp .eq 5, 3) := by decide +kernel
theorem dL_law_626 : decode cL_law 626 = .ok (.iconst 0, 1) := by decide +kernel
theorem dL_law_627 : decode cL_law 627 = .ok (.ireturn, 1) := by decide +kernel
theorem dL_law_628 : decode cL_law 628 = .ok (.iload 5, 2) := by decide +kernel
theorem dL_law_630 : decode cL_law 630 = .ok (.ifCond .ne 15, 3) := by decide +kernel
theorem dL_law_633 : decode cL_law 633 = .ok (.aload_n 3, 1) := by decide +kernel
theorem dL_law_634 : decode cL_law 634 = .ok (.iconst 0, 1) := by decide +kernel
theorem dL_law_635 : decode cL_law 635 = .ok (.laload, 1) := by decide +kernel
theorem dL_law_636 : decode cL_law 636 = .ok (.iload 6, 2) := by decide +kernel
theorem dL_law_638 : decode cL_law 638 = .ok (.i2l, 1) := by decide +kernel
theorem dL_law_639 : decode cL_law 639 = .ok (.lcmp, 1) := by decide +kernel
theorem dL_law_640 : decode cL_law 640 = .ok (.ifCond .eq 5, 3) := by decide +kernel
theorem dL_law_643 : decode cL_law 643 = .ok (.iconst 0, 1) := by decide +kernel
theorem dL_law_644 : decode cL_law 644 = .ok (.ireturn, 1) := by decide +kernel
theorem dL_law_645 : decode cL_law 645 = .ok (.goto 869, 3) := by decide +kernel
theorem dL_law_648 : decode cL_law 648 = .ok (.aload_n 1, 1) := by decide +kernel
theorem dL_law_649 : decode cL_law 649 = .ok (.aload_n 0, 1) := by decide +kernel
theorem dL_law_650 : decode cL_law 650 = .ok (.iload 4, 2) := by decide +kernel
theorem dL_law_652 : decode cL_law 652 = .ok (.iconst 1, 1) := by decide +kernel
theorem dL_law_653 : decode cL_law 653 = .ok (.iadd, 1) := by decide +kernel
theorem dL_law_654 : decode cL_law 654 = .ok (.iaload, 1) := by decide +kernel
theorem dL_law_655 : decode cL_law 655 = .ok (.aload_n 3, 1) := by decide +kernel
theorem dL_law_656 : decode cL_law 656 = .ok (.invokestatic 116, 3) := by decide +kernel
theorem dL_law_659 : decode cL_law 659 = .ok (.istore 5, 2) := by decide +kernel
theorem dL_law_661 : decode cL_law 661 = .ok (.aload_n 2, 1) := by decide +kernel
theorem dL_law_662 : decode cL_law 662 = .ok (.aload_n 0, 1) := by decide +kernel
theorem dL_law_663 : decode cL_law 663 = .ok (.iload 4, 2) := by decide +kernel
theorem dL_law_665 : decode cL_law 665 = .ok (.iconst 1, 1) := by decide +kernel
theorem dL_law_666 : decode cL_law 666 = .ok (.iadd, 1) := by decide +kernel
theorem dL_law_667 : decode cL_law 667 = .ok (.iaload, 1) := by decide +kernel
theorem dL_law_668 : decode cL_law 668 = .ok (.invokevirtual 118, 3) := by decide +kernel
theorem dL_law_671 : decode cL_law 671 = .ok (.istore 6, 2) := by decide +kernel
theorem dL_law_673 : decode cL_law 673 = .ok (.aload_n 2, 1) := by decide +kernel
theorem dL_law_674 : decode cL_law 674 = .ok (.invokevirtual 90, 3) := by decide +kernel
theorem dL_law_677 : decode cL_law 677 = .ok (.iload 5, 2) := by decide +kernel
theorem dL_law_679 : decode cL_law 679 = .ok (.if_icmp .eq 5, 3) := by decide +kernel
theorem dL_law_682 : decode cL_law 682 = .ok (.iconst 0, 1) := by decide +kernel
theorem dL_law_683 : decode cL_law 683 = .ok (.ireturn, 1) := by decide +kernel
theorem dL_law_684 : decode cL_law 684 = .ok (.iload 5, 2) := by decide +kernel
theorem dL_law_686 : decode cL_law 686 = .ok (.ifCond .ne 15, 3) := by decide +kernel
theorem dL_law_689 : decode cL_law 689 = .ok (.aload_n 3, 1) := by decide +kernel
theorem dL_law_690 : decode cL_law 690 = .ok (.iconst 0, 1) := by decide +kernel
theorem dL_law_691 : decode cL_law 691 = .ok (.laload, 1) := by decide +kernel
theorem dL_law_692 : decode cL_law 692 = .ok (.iload 6, 2) := by decide +kernel
theorem dL_law_694 : decode cL_law 694 = .ok (.i2l, 1) := by decide +kernel
theorem dL_law_695 : decode cL_law 695 = .ok (.lcmp, 1) := by decide +kernel
theorem dL_law_696 : decode cL_law 696 = .ok (.ifCond .eq 5, 3) := by decide +kernel
theorem dL_law_699 : decode cL_law 699 = .ok (.iconst 0, 1) := by decide +kernel
theorem dL_law_700 : decode cL_law 700 = .ok (.ireturn, 1) := by decide +kernel
theorem dL_law_701 : decode cL_law 701 = .ok (.goto 813, 3) := by decide +kernel
theorem dL_law_704 : decode cL_law 704 = .ok (.aload_n 1, 1) := by decide +kernel
theorem dL_law_705 : decode cL_law 705 = .ok (.invokevirtual 119, 3) := by decide +kernel
theorem dL_law_708 : decode cL_law 708 = .ok (.aload_n 2, 1) := by decide +kernel
theorem dL_law_709 : decode cL_law 709 = .ok (.invokevirtual 122, 3) := by decide +kernel
theorem dL_law_712 : decode cL_law 712 = .ok (.if_icmp .eq 802, 3) := by decide +kernel
theorem dL_law_715 : decode cL_law 715 = .ok (.iconst 0, 1) := by decide +kernel
theorem dL_law_716 : decode cL_law 716 = .ok (.ireturn, 1) := by decide +kernel
theorem dL_law_717 : decode cL_law 717 = .ok (.aload_n 1, 1) := by decide +kernel
theorem dL_law_718 : decode cL_law 718 = .ok (.invokevirtual 123, 3) := by decide +kernel
theorem dL_law_721 : decode cL_law 721 = .ok (.aload_n 2, 1) := by decide +kernel
theorem dL_law_722 : decode cL_law 722 = .ok (.invokevirtual 126, 3) := by decide +kernel
theorem dL_law_725 : decode cL_law 725 = .ok (.if_icmp .eq 789, 3) := by decide +kernel
theorem dL_law_728 : decode cL_law 728 = .ok (.iconst 0, 1) := by decide +kernel
theorem dL_law_729 : decode cL_law 729 = .ok (.ireturn, 1) := by decide +kernel
theorem dL_law_730 : decode cL_law 730 = .ok (.aload_n 1, 1) := by decide +kernel
theorem dL_law_731 : decode cL_law 731 = .ok (.aload_n 3, 1) := by decide +kernel
theorem dL_law_732 : decode cL_law 732 = .ok (.invokestatic 127, 3) := by decide +kernel
theorem dL_law_735 : decode cL_law 735 = .ok (.istore 5, 2) := by decide +kernel
theorem dL_law_737 : decode cL_law 737 = .ok (.aload_n 2, 1) := by decide +kernel
theorem dL_law_738 : decode cL_law 738 = .ok (.invokevirtual 130, 3) := by decide +kernel
theorem dL_law_741 : decode cL_law 741 = .ok (.istore 6, 2) := by decide +kernel
theorem dL_law_743 : decode cL_law 743 = .ok (.aload_n 2, 1) := by decide +kernel
theorem dL_law_744 : decode cL_law 744 = .ok (.invokevirtual 90, 3) := by decide +kernel
theorem dL_law_747 : decode cL_law 747 = .ok (.iload 5, 2) := by decide +kernel
theorem dL_law_749 : decode cL_law 749 = .ok (.if_icmp .eq 5, 3) := by decide +kernel
theorem dL_law_752 : decode cL_law 752 = .ok (.iconst 0, 1) := by decide +kernel
theorem dL_law_753 : decode cL_law 753 = .ok (.ireturn, 1) := by decide +kernel
theorem dL_law_754 : decode cL_law 754 = .ok (.iload 5, 2) := by decide +kernel
theorem dL_law_756 : decode cL_law 756 = .ok (.ifCond .ne 15, 3) := by decide +kernel
theorem dL_law_759 : decode cL_law 759 = .ok (.aload_n 3, 1) := by decide +kernel
theorem dL_law_760 : decode cL_law 760 = .ok (.iconst 0, 1) := by decide +kernel
theorem dL_law_761 : decode cL_law 761 = .ok (.laload, 1) := by decide +kernel
theorem dL_law_762 : decode cL_law 762 = .ok (.iload 6, 2) := by decide +kernel
theorem dL_law_764 : decode cL_law 764 = .ok (.i2l, 1) := by decide +kernel
theorem dL_law_765 : decode cL_law 765 = .ok (.lcmp, 1) := by decide +kernel
theorem dL_law_766 : decode cL_law 766 = .ok (.ifCond .eq 5, 3) := by decide +kernel
theorem dL_law_769 : decode cL_law 769 = .ok (.iconst 0, 1) := by decide +kernel
theorem dL_law_770 : decode cL_law 770 = .ok (.ireturn, 1) := by decide +kernel
theorem dL_law_771 : decode cL_law 771 = .ok (.goto 743, 3) := by decide +kernel
theorem dL_law_774 : decode cL_law 774 = .ok (.aload_n 1, 1) := by decide +kernel
theorem dL_law_775 : decode cL_law 775 = .ok (.aload_n 3, 1) := by decide +kernel
theorem dL_law_776 : decode cL_law 776 = .ok (.invokestatic 131, 3) := by decide +kernel
theorem dL_law_779 : decode cL_law 779 = .ok (.istore 5, 2) := by decide +kernel
theorem dL_law_781 : decode cL_law 781 = .ok (.aload_n 2, 1) := by decide +kernel
theorem dL_law_782 : decode cL_law 782 = .ok (.invokevirtual 133, 3) := by decide +kernel
theorem dL_law_785 : decode cL_law 785 = .ok (.istore 6, 2) := by decide +kernel
theorem dL_law_787 : decode cL_law 787 = .ok (.aload_n 2, 1) := by decide +kernel
theorem dL_law_788 : decode cL_law 788 = .ok (.invokevirtual 90, 3) := by decide +kernel
theorem dL_law_791 : decode cL_law 791 = .ok (.iload 5, 2) := by decide +kernel
theorem dL_law_793 : decode cL_law 793 = .ok (.if_icmp .eq 5, 3) := by decide +kernel
theorem dL_law_796 : decode cL_law 796 = .ok (.iconst 0, 1) := by decide +kernel
theorem dL_law_797 : decode cL_law 797 = .ok (.ireturn, 1) := by decide +kernel
theorem dL_law_798 : decode cL_law 798 = .ok (.iload 5, 2) := by decide +kernel
theorem dL_law_800 : decode cL_law 800 = .ok (.ifCond .ne 15, 3) := by decide +kernel
theorem dL_law_803 : decode cL_law 803 = .ok (.aload_n 3, 1) := by decide +kernel
theorem dL_law_804 : decode cL_law 804 = .ok (.iconst 0, 1) := by decide +kernel
theorem dL_law_805 : decode cL_law 805 = .ok (.laload, 1) := by decide +kernel
theorem dL_law_806 : decode cL_law 806 = .ok (.iload 6, 2) := by decide +kernel
theorem dL_law_808 : decode cL_law 808 = .ok (.i2l, 1) := by decide +kernel
theorem dL_law_809 : decode cL_law 809 = .ok (.lcmp, 1) := by decide +kernel
theorem dL_law_810 : decode cL_law 810 = .ok (.ifCond .eq 5, 3) := by decide +kernel
theorem dL_law_813 : decode cL_law 813 = .ok (.iconst 0, 1) := by decide +kernel
theorem dL_law_814 : decode cL_law 814 = .ok (.ireturn, 1) := by decide +kernel
theorem dL_law_815 : decode cL_law 815 = .ok (.goto 699, 3) := by decide +kernel
theorem dL_law_818 : decode cL_law 818 = .ok (.aload_n 1, 1) := by decide +kernel
theorem dL_law_819 : decode cL_law 819 = .ok (.aload_n 0, 1) := by decide +kernel
theorem dL_law_820 : decode cL_law 820 = .ok (.iload 4, 2) := by decide +kernel
theorem dL_law_822 : decode cL_law 822 = .ok (.iconst 1, 1) := by decide +kernel
theorem dL_law_823 : decode cL_law 823 = .ok (.iadd, 1) := by decide +kernel
theorem dL_law_824 : decode cL_law 824 = .ok (.iaload, 1) := by decide +kernel
theorem dL_law_825 : decode cL_law 825 = .ok (.aload_n 0, 1) := by decide +kernel
theorem dL_law_826 : decode cL_law 826 = .ok (.iload 4, 2) := by decide +kernel
theorem dL_law_828 : decode cL_law 828 = .ok (.iconst 2, 1) := by decide +kernel
theorem dL_law_829 : decode cL_law 829 = .ok (.iadd, 1) := by decide +kernel
theorem dL_law_830 : decode cL_law 830 = .ok (.iaload, 1) := by decide +kernel
theorem dL_law_831 : decode cL_law 831 = .ok (.aload_n 0, 1) := by decide +kernel
theorem dL_law_832 : decode cL_law 832 = .ok (.iload 4, 2) := by decide +kernel
theorem dL_law_834 : decode cL_law 834 = .ok (.iconst 3, 1) := by decide +kernel
theorem dL_law_835 : decode cL_law 835 = .ok (.iadd, 1) := by decide +kernel
theorem dL_law_836 : decode cL_law 836 = .ok (.iaload, 1) := by decide +kernel
theorem dL_law_837 : decode cL_law 837 = .ok (.aload_n 3, 1) := by decide +kernel
theorem dL_law_838 : decode cL_law 838 = .ok (.invokestatic 134, 3) := by decide +kernel
theorem dL_law_841 : decode cL_law 841 = .ok (.istore 5, 2) := by decide +kernel
theorem dL_law_843 : decode cL_law 843 = .ok (.aload_n 2, 1) := by decide +kernel
theorem dL_law_844 : decode cL_law 844 = .ok (.aload_n 0, 1) := by decide +kernel
theorem dL_law_845 : decode cL_law 845 = .ok (.iload 4, 2) := by decide +kernel
theorem dL_law_847 : decode cL_law 847 = .ok (.iconst 1, 1) := by decide +kernel
theorem dL_law_848 : decode cL_law 848 = .ok (.iadd, 1) := by decide +kernel
theorem dL_law_849 : decode cL_law 849 = .ok (.iaload, 1) := by decide +kernel
theorem dL_law_850 : decode cL_law 850 = .ok (.aload_n 0, 1) := by decide +kernel
theorem dL_law_851 : decode cL_law 851 = .ok (.iload 4, 2) := by decide +kernel
theorem dL_law_853 : decode cL_law 853 = .ok (.iconst 2, 1) := by decide +kernel
theorem dL_law_854 : decode cL_law 854 = .ok (.iadd, 1) := by decide +kernel
theorem dL_law_855 : decode cL_law 855 = .ok (.iaload, 1) := by decide +kernel
theorem dL_law_856 : decode cL_law 856 = .ok (.aload_n 0, 1) := by decide +kernel
theorem dL_law_857 : decode cL_law 857 = .ok (.iload 4, 2) := by decide +kernel
theorem dL_law_859 : decode cL_law 859 = .ok (.iconst 3, 1) := by decide +kernel
theorem dL_law_860 : decode cL_law 860 = .ok (.iadd, 1) := by decide +kernel
theorem dL_law_861 : decode cL_law 861 = .ok (.iaload, 1) := by decide +kernel
theorem dL_law_862 : decode cL_law 862 = .ok (.invokevirtual 136, 3) := by decide +kernel
theorem dL_law_865 : decode cL_law 865 = .ok (.istore 6, 2) := by decide +kernel
theorem dL_law_867 : decode cL_law 867 = .ok (.aload_n 2, 1) := by decide +kernel
theorem dL_law_868 : decode cL_law 868 = .ok (.invokevirtual 90, 3) := by decide +kernel
theorem dL_law_871 : decode cL_law 871 = .ok (.iload 5, 2) := by decide +kernel
theorem dL_law_873 : decode cL_law 873 = .ok (.if_icmp .eq 5, 3) := by decide +kernel
theorem dL_law_876 : decode cL_law 876 = .ok (.iconst 0, 1) := by decide +kernel
theorem dL_law_877 : decode cL_law 877 = .ok (.ireturn, 1) := by decide +kernel
theorem dL_law_878 : decode cL_law 878 = .ok (.iload 5, 2) := by decide +kernel
theorem dL_law_880 : decode cL_law 880 = .ok (.ifCond .ne 15, 3) := by decide +kernel
theorem dL_law_883 : decode cL_law 883 = .ok (.aload_n 3, 1) := by decide +kernel
theorem dL_law_884 : decode cL_law 884 = .ok (.iconst 0, 1) := by decide +kernel
theorem dL_law_885 : decode cL_law 885 = .ok (.laload, 1) := by decide +kernel
theorem dL_law_886 : decode cL_law 886 = .ok (.iload 6, 2) := by decide +kernel
theorem dL_law_888 : decode cL_law 888 = .ok (.i2l, 1) := by decide +kernel
theorem dL_law_889 : decode cL_law 889 = .ok (.lcmp, 1) := by decide +kernel
theorem dL_law_890 : decode cL_law 890 = .ok (.ifCond .eq 5, 3) := by decide +kernel
theorem dL_law_893 : decode cL_law 893 = .ok (.iconst 0, 1) := by decide +kernel
theorem dL_law_894 : decode cL_law 894 = .ok (.ireturn, 1) := by decide +kernel
theorem dL_law_895 : decode cL_law 895 = .ok (.goto 619, 3) := by decide +kernel
theorem dL_law_898 : decode cL_law 898 = .ok (.aload_n 1, 1) := by decide +kernel
theorem dL_law_899 : decode cL_law 899 = .ok (.aload_n 0, 1) := by decide +kernel
theorem dL_law_900 : decode cL_law 900 = .ok (.iload 4, 2) := by decide +kernel
theorem dL_law_902 : decode cL_law 902 = .ok (.iconst 1, 1) := by decide +kernel
theorem dL_law_903 : decode cL_law 903 = .ok (.iadd, 1) := by decide +kernel
theorem dL_law_904 : decode cL_law 904 = .ok (.iaload, 1) := by decide +kernel
theorem dL_law_905 : decode cL_law 905 = .ok (.aload_n 0, 1) := by decide +kernel
theorem dL_law_906 : decode cL_law 906 = .ok (.iload 4, 2) := by decide +kernel
theorem dL_law_908 : decode cL_law 908 = .ok (.iconst 2, 1) := by decide +kernel
theorem dL_law_909 : decode cL_law 909 = .ok (.iadd, 1) := by decide +kernel
theorem dL_law_910 : decode cL_law 910 = .ok (.iaload, 1) := by decide +kernel
theorem dL_law_911 : decode cL_law 911 = .ok (.aload_n 3, 1) := by decide +kernel
theorem dL_law_912 : decode cL_law 912 = .ok (.invokestatic 137, 3) := by decide +kernel
theorem dL_law_915 : decode cL_law 915 = .ok (.istore 5, 2) := by decide +kernel
theorem dL_law_917 : decode cL_law 917 = .ok (.aload_n 2, 1) := by decide +kernel
theorem dL_law_918 : decode cL_law 918 = .ok (.aload_n 0, 1) := by decide +kernel
theorem dL_law_919 : decode cL_law 919 = .ok (.iload 4, 2) := by decide +kernel
theorem dL_law_921 : decode cL_law 921 = .ok (.iconst 1, 1) := by decide +kernel
theorem dL_law_922 : decode cL_law 922 = .ok (.iadd, 1) := by decide +kernel
theorem dL_law_923 : decode cL_law 923 = .ok (.iaload, 1) := by decide +kernel
theorem dL_law_924 : decode cL_law 924 = .ok (.aload_n 0, 1) := by decide +kernel
theorem dL_law_925 : decode cL_law 925 = .ok (.iload 4, 2) := by decide +kernel
theorem dL_law_927 : decode cL_law 927 = .ok (.iconst 2, 1) := by decide +kernel
theorem dL_law_928 : decode cL_law 928 = .ok (.iadd, 1) := by decide +kernel
theorem dL_law_929 : decode cL_law 929 = .ok (.iaload, 1) := by decide +kernel
theorem dL_law_930 : decode cL_law 930 = .ok (.invokevirtual 139, 3) := by decide +kernel
theorem dL_law_933 : decode cL_law 933 = .ok (.istore 6, 2) := by decide +kernel
theorem dL_law_935 : decode cL_law 935 = .ok (.aload_n 2, 1) := by decide +kernel
theorem dL_law_936 : decode cL_law 936 = .ok (.invokevirtual 90, 3) := by decide +kernel
theorem dL_law_939 : decode cL_law 939 = .ok (.iload 5, 2) := by decide +kernel
theorem dL_law_941 : decode cL_law 941 = .ok (.if_icmp .eq 5, 3) := by decide +kernel
theorem dL_law_944 : decode cL_law 944 = .ok (.iconst 0, 1) := by decide +kernel
theorem dL_law_945 : decode cL_law 945 = .ok (.ireturn, 1) := by decide +kernel
theorem dL_law_946 : decode cL_law 946 = .ok (.iload 5, 2) := by decide +kernel
theorem dL_law_948 : decode cL_law 948 = .ok (.ifCond .ne 15, 3) := by decide +kernel
theorem dL_law_951 : decode cL_law 951 = .ok (.aload_n 3, 1) := by decide +kernel
theorem dL_law_952 : decode cL_law 952 = .ok (.iconst 0, 1) := by decide +kernel
theorem dL_law_953 : decode cL_law 953 = .ok (.laload, 1) := by decide +kernel
theorem dL_law_954 : decode cL_law 954 = .ok (.iload 6, 2) := by decide +kernel
theorem dL_law_956 : decode cL_law 956 = .ok (.i2l, 1) := by decide +kernel
theorem dL_law_957 : decode cL_law 957 = .ok (.lcmp, 1) := by decide +kernel
theorem dL_law_958 : decode cL_law 958 = .ok (.ifCond .eq 5, 3) := by decide +kernel
theorem dL_law_961 : decode cL_law 961 = .ok (.iconst 0, 1) := by decide +kernel
theorem dL_law_962 : decode cL_law 962 = .ok (.ireturn, 1) := by decide +kernel
theorem dL_law_963 : decode cL_law 963 = .ok (.goto 551, 3) := by decide +kernel
theorem dL_law_966 : decode cL_law 966 = .ok (.aload_n 1, 1) := by decide +kernel
theorem dL_law_967 : decode cL_law 967 = .ok (.aload_n 0, 1) := by decide +kernel
theorem dL_law_968 : decode cL_law 968 = .ok (.iload 4, 2) := by decide +kernel
theorem dL_law_970 : decode cL_law 970 = .ok (.iconst 1, 1) := by decide +kernel
theorem dL_law_971 : decode cL_law 971 = .ok (.iadd, 1) := by decide +kernel
theorem dL_law_972 : decode cL_law 972 = .ok (.iaload, 1) := by decide +kernel
theorem dL_law_973 : decode cL_law 973 = .ok (.aload_n 0, 1) := by decide +kernel
theorem dL_law_974 : decode cL_law 974 = .ok (.iload 4, 2) := by decide +kernel
theorem dL_law_976 : decode cL_law 976 = .ok (.iconst 2, 1) := by decide +kernel
theorem dL_law_977 : decode cL_law 977 = .ok (.iadd, 1) := by decide +kernel
theorem dL_law_978 : decode cL_law 978 = .ok (.iaload, 1) := by decide +kernel
theorem dL_law_979 : decode cL_law 979 = .ok (.aload_n 3, 1) := by decide +kernel
theorem dL_law_980 : decode cL_law 980 = .ok (.invokestatic 140, 3) := by decide +kernel
theorem dL_law_983 : decode cL_law 983 = .ok (.istore 5, 2) := by decide +kernel
theorem dL_law_985 : decode cL_law 985 = .ok (.aload_n 2, 1) := by decide +kernel
theorem dL_law_986 : decode cL_law 986 = .ok (.aload_n 0, 1) := by decide +kernel
theorem dL_law_987 : decode cL_law 987 = .ok (.iload 4, 2) := by decide +kernel
theorem dL_law_989 : decode cL_law 989 = .ok (.iconst 1, 1) := by decide +kernel
theorem dL_law_990 : decode cL_law 990 = .ok (.iadd, 1) := by decide +kernel
theorem dL_law_991 : decode cL_law 991 = .ok (.iaload, 1) := by decide +kernel
theorem dL_law_992 : decode cL_law 992 = .ok (.aload_n 0, 1) := by decide +kernel
theorem dL_law_993 : decode cL_law 993 = .ok (.iload 4, 2) := by decide +kernel
theorem dL_law_995 : decode cL_law 995 = .ok (.iconst 2, 1) := by decide +kernel
theorem dL_law_996 : decode cL_law 996 = .ok (.iadd, 1) := by decide +kernel
theorem dL_law_997 : decode cL_law 997 = .ok (.iaload, 1) := by decide +kernel
theorem dL_law_998 : decode cL_law 998 = .ok (.invokevirtual 142, 3) := by decide +kernel
theorem dL_law_1001 : decode cL_law 1001 = .ok (.istore 6, 2) := by decide +kernel
theorem dL_law_1003 : decode cL_law 1003 = .ok (.aload_n 2, 1) := by decide +kernel
theorem dL_law_1004 : decode cL_law 1004 = .ok (.invokevirtual 90, 3) := by decide +kernel
theorem dL_law_1007 : decode cL_law 1007 = .ok (.iload 5, 2) := by decide +kernel
theorem dL_law_1009 : decode cL_law 1009 = .ok (.if_icmp .eq 5, 3) := by decide +kernel
theorem dL_law_1012 : decode cL_law 1012 = .ok (.iconst 0, 1) := by decide +kernel
theorem dL_law_1013 : decode cL_law 1013 = .ok (.ireturn, 1) := by decide +kernel
theorem dL_law_1014 : decode cL_law 1014 = .ok (.iload 5, 2) := by decide +kernel
theorem dL_law_1016 : decode cL_law 1016 = .ok (.ifCond .ne 15, 3) := by decide +kernel
theorem dL_law_1019 : decode cL_law 1019 = .ok (.aload_n 3, 1) := by decide +kernel
theorem dL_law_1020 : decode cL_law 1020 = .ok (.iconst 0, 1) := by decide +kernel
theorem dL_law_1021 : decode cL_law 1021 = .ok (.laload, 1) := by decide +kernel
theorem dL_law_1022 : decode cL_law 1022 = .ok (.iload 6, 2) := by decide +kernel
theorem dL_law_1024 : decode cL_law 1024 = .ok (.i2l, 1) := by decide +kernel
theorem dL_law_1025 : decode cL_law 1025 = .ok (.lcmp, 1) := by decide +kernel
theorem dL_law_1026 : decode cL_law 1026 = .ok (.ifCond .eq 5, 3) := by decide +kernel
theorem dL_law_1029 : decode cL_law 1029 = .ok (.iconst 0, 1) := by decide +kernel
theorem dL_law_1030 : decode cL_law 1030 = .ok (.ireturn, 1) := by decide +kernel
theorem dL_law_1031 : decode cL_law 1031 = .ok (.goto 483, 3) := by decide +kernel
theorem dL_law_1034 : decode cL_law 1034 = .ok (.aload_n 1, 1) := by decide +kernel
theorem dL_law_1035 : decode cL_law 1035 = .ok (.aload_n 0, 1) := by decide +kernel
theorem dL_law_1036 : decode cL_law 1036 = .ok (.iload 4, 2) := by decide +kernel
theorem dL_law_1038 : decode cL_law 1038 = .ok (.iconst 1, 1) := by decide +kernel
theorem dL_law_1039 : decode cL_law 1039 = .ok (.iadd, 1) := by decide +kernel
theorem dL_law_1040 : decode cL_law 1040 = .ok (.iaload, 1) := by decide +kernel
theorem dL_law_1041 : decode cL_law 1041 = .ok (.aload_n 0, 1) := by decide +kernel
theorem dL_law_1042 : decode cL_law 1042 = .ok (.iload 4, 2) := by decide +kernel
theorem dL_law_1044 : decode cL_law 1044 = .ok (.iconst 2, 1) := by decide +kernel
theorem dL_law_1045 : decode cL_law 1045 = .ok (.iadd, 1) := by decide +kernel
theorem dL_law_1046 : decode cL_law 1046 = .ok (.iaload, 1) := by decide +kernel
theorem dL_law_1047 : decode cL_law 1047 = .ok (.aload_n 3, 1) := by decide +kernel
theorem dL_law_1048 : decode cL_law 1048 = .ok (.invokestatic 143, 3) := by decide +kernel
theorem dL_law_1051 : decode cL_law 1051 = .ok (.istore 5, 2) := by decide +kernel
theorem dL_law_1053 : decode cL_law 1053 = .ok (.aload_n 2, 1) := by decide +kernel
theorem dL_law_1054 : decode cL_law 1054 = .ok (.aload_n 0, 1) := by decide +kernel
theorem dL_law_1055 : decode cL_law 1055 = .ok (.iload 4, 2) := by decide +kernel
theorem dL_law_1057 : decode cL_law 1057 = .ok (.iconst 1, 1) := by decide +kernel
theorem dL_law_1058 : decode cL_law 1058 = .ok (.iadd, 1) := by decide +kernel
theorem dL_law_1059 : decode cL_law 1059 = .ok (.iaload, 1) := by decide +kernel
theorem dL_law_1060 : decode cL_law 1060 = .ok (.aload_n 0, 1) := by decide +kernel
theorem dL_law_1061 : decode cL_law 1061 = .ok (.iload 4, 2) := by decide +kernel
theorem dL_law_1063 : decode cL_law 1063 = .ok (.iconst 2, 1) := by decide +kernel
theorem dL_law_1064 : decode cL_law 1064 = .ok (.iadd, 1) := by decide +kernel
theorem dL_law_1065 : decode cL_law 1065 = .ok (.iaload, 1) := by decide +kernel
theorem dL_law_1066 : decode cL_law 1066 = .ok (.invokevirtual 145, 3) := by decide +kernel
theorem dL_law_1069 : decode cL_law 1069 = .ok (.istore 6, 2) := by decide +kernel
theorem dL_law_1071 : decode cL_law 1071 = .ok (.aload_n 2, 1) := by decide +kernel
theorem dL_law_1072 : decode cL_law 1072 = .ok (.invokevirtual 90, 3) := by decide +kernel
theorem dL_law_1075 : decode cL_law 1075 = .ok (.iload 5, 2) := by decide +kernel
theorem dL_law_1077 : decode cL_law 1077 = .ok (.if_icmp .eq 5, 3) := by decide +kernel
theorem dL_law_1080 : decode cL_law 1080 = .ok (.iconst 0, 1) := by decide +kernel
theorem dL_law_1081 : decode cL_law 1081 = .ok (.ireturn, 1) := by decide +kernel
theorem dL_law_1082 : decode cL_law 1082 = .ok (.iload 5, 2) := by decide +kernel
theorem dL_law_1084 : decode cL_law 1084 = .ok (.ifCond .ne 15, 3) := by decide +kernel
theorem dL_law_1087 : decode cL_law 1087 = .ok (.aload_n 3, 1) := by decide +kernel
theorem dL_law_1088 : decode cL_law 1088 = .ok (.iconst 0, 1) := by decide +kernel
theorem dL_law_1089 : decode cL_law 1089 = .ok (.laload, 1) := by decide +kernel
theorem dL_law_1090 : decode cL_law 1090 = .ok (.iload 6, 2) := by decide +kernel
theorem dL_law_1092 : decode cL_law 1092 = .ok (.i2l, 1) := by decide +kernel
theorem dL_law_1093 : decode cL_law 1093 = .ok (.lcmp, 1) := by decide +kernel
theorem dL_law_1094 : decode cL_law 1094 = .ok (.ifCond .eq 5, 3) := by decide +kernel
theorem dL_law_1097 : decode cL_law 1097 = .ok (.iconst 0, 1) := by decide +kernel
theorem dL_law_1098 : decode cL_law 1098 = .ok (.ireturn, 1) := by decide +kernel
theorem dL_law_1099 : decode cL_law 1099 = .ok (.goto 415, 3) := by decide +kernel
theorem dL_law_1102 : decode cL_law 1102 = .ok (.aload_n 1, 1) := by decide +kernel
theorem dL_law_1103 : decode cL_law 1103 = .ok (.aload_n 0, 1) := by decide +kernel
theorem dL_law_1104 : decode cL_law 1104 = .ok (.iload 4, 2) := by decide +kernel
theorem dL_law_1106 : decode cL_law 1106 = .ok (.iconst 1, 1) := by decide +kernel
theorem dL_law_1107 : decode cL_law 1107 = .ok (.iadd, 1) := by decide +kernel
theorem dL_law_1108 : decode cL_law 1108 = .ok (.iaload, 1) := by decide +kernel
theorem dL_law_1109 : decode cL_law 1109 = .ok (.aload_n 3, 1) := by decide +kernel
theorem dL_law_1110 : decode cL_law 1110 = .ok (.invokestatic 146, 3) := by decide +kernel
theorem dL_law_1113 : decode cL_law 1113 = .ok (.istore 5, 2) := by decide +kernel
theorem dL_law_1115 : decode cL_law 1115 = .ok (.aload_n 2, 1) := by decide +kernel
theorem dL_law_1116 : decode cL_law 1116 = .ok (.aload_n 0, 1) := by decide +kernel
theorem dL_law_1117 : decode cL_law 1117 = .ok (.iload 4, 2) := by decide +kernel
theorem dL_law_1119 : decode cL_law 1119 = .ok (.iconst 1, 1) := by decide +kernel
theorem dL_law_1120 : decode cL_law 1120 = .ok (.iadd, 1) := by decide +kernel
theorem dL_law_1121 : decode cL_law 1121 = .ok (.iaload, 1) := by decide +kernel
theorem dL_law_1122 : decode cL_law 1122 = .ok (.invokevirtual 148, 3) := by decide +kernel
theorem dL_law_1125 : decode cL_law 1125 = .ok (.istore 6, 2) := by decide +kernel
theorem dL_law_1127 : decode cL_law 1127 = .ok (.aload_n 2, 1) := by decide +kernel
theorem dL_law_1128 : decode cL_law 1128 = .ok (.invokevirtual 90, 3) := by decide +kernel
theorem dL_law_1131 : decode cL_law 1131 = .ok (.iload 5, 2) := by decide +kernel
theorem dL_law_1133 : decode cL_law 1133 = .ok (.if_icmp .eq 5, 3) := by decide +kernel
theorem dL_law_1136 : decode cL_law 1136 = .ok (.iconst 0, 1) := by decide +kernel
theorem dL_law_1137 : decode cL_law 1137 = .ok (.ireturn, 1) := by decide +kernel
theorem dL_law_1138 : decode cL_law 1138 = .ok (.iload 5, 2) := by decide +kernel
theorem dL_law_1140 : decode cL_law 1140 = .ok (.ifCond .ne 15, 3) := by decide +kernel
theorem dL_law_1143 : decode cL_law 1143 = .ok (.aload_n 3, 1) := by decide +kernel
theorem dL_law_1144 : decode cL_law 1144 = .ok (.iconst 0, 1) := by decide +kernel
theorem dL_law_1145 : decode cL_law 1145 = .ok (.laload, 1) := by decide +kernel
theorem dL_law_1146 : decode cL_law 1146 = .ok (.iload 6, 2) := by decide +kernel
theorem dL_law_1148 : decode cL_law 1148 = .ok (.i2l, 1) := by decide +kernel
theorem dL_law_1149 : decode cL_law 1149 = .ok (.lcmp, 1) := by decide +kernel
theorem dL_law_1150 : decode cL_law 1150 = .ok (.ifCond .eq 5, 3) := by decide +kernel
theorem dL_law_1153 : decode cL_law 1153 = .ok (.iconst 0, 1) := by decide +kernel
theorem dL_law_1154 : decode cL_law 1154 = .ok (.ireturn, 1) := by decide +kernel
theorem dL_law_1155 : decode cL_law 1155 = .ok (.goto 359, 3) := by decide +kernel
theorem dL_law_1158 : decode cL_law 1158 = .ok (.aload_n 1, 1) := by decide +kernel
theorem dL_law_1159 : decode cL_law 1159 = .ok (.aload_n 0, 1) := by decide +kernel
theorem dL_law_1160 : decode cL_law 1160 = .ok (.iload 4, 2) := by decide +kernel
theorem dL_law_1162 : decode cL_law 1162 = .ok (.iconst 1, 1) := by decide +kernel
theorem dL_law_1163 : decode cL_law 1163 = .ok (.iadd, 1) := by decide +kernel
theorem dL_law_1164 : decode cL_law 1164 = .ok (.iaload, 1) := by decide +kernel
theorem dL_law_1165 : decode cL_law 1165 = .ok (.aload_n 3, 1) := by decide +kernel
theorem dL_law_1166 : decode cL_law 1166 = .ok (.invokestatic 149, 3) := by decide +kernel
theorem dL_law_1169 : decode cL_law 1169 = .ok (.istore 5, 2) := by decide +kernel
theorem dL_law_1171 : decode cL_law 1171 = .ok (.aload_n 2, 1) := by decide +kernel
theorem dL_law_1172 : decode cL_law 1172 = .ok (.aload_n 0, 1) := by decide +kernel
theorem dL_law_1173 : decode cL_law 1173 = .ok (.iload 4, 2) := by decide +kernel
theorem dL_law_1175 : decode cL_law 1175 = .ok (.iconst 1, 1) := by decide +kernel
theorem dL_law_1176 : decode cL_law 1176 = .ok (.iadd, 1) := by decide +kernel
theorem dL_law_1177 : decode cL_law 1177 = .ok (.iaload, 1) := by decide +kernel
theorem dL_law_1178 : decode cL_law 1178 = .ok (.invokevirtual 151, 3) := by decide +kernel
theorem dL_law_1181 : decode cL_law 1181 = .ok (.istore 6, 2) := by decide +kernel
theorem dL_law_1183 : decode cL_law 1183 = .ok (.aload_n 2, 1) := by decide +kernel
theorem dL_law_1184 : decode cL_law 1184 = .ok (.invokevirtual 90, 3) := by decide +kernel
theorem dL_law_1187 : decode cL_law 1187 = .ok (.iload 5, 2) := by decide +kernel
theorem dL_law_1189 : decode cL_law 1189 = .ok (.if_icmp .eq 5, 3) := by decide +kernel
theorem dL_law_1192 : decode cL_law 1192 = .ok (.iconst 0, 1) := by decide +kernel
theorem dL_law_1193 : decode cL_law 1193 = .ok (.ireturn, 1) := by decide +kernel
theorem dL_law_1194 : decode cL_law 1194 = .ok (.iload 5, 2) := by decide +kernel
theorem dL_law_1196 : decode cL_law 1196 = .ok (.ifCond .ne 15, 3) := by decide +kernel
theorem dL_law_1199 : decode cL_law 1199 = .ok (.aload_n 3, 1) := by decide +kernel
theorem dL_law_1200 : decode cL_law 1200 = .ok (.iconst 0, 1) := by decide +kernel
theorem dL_law_1201 : decode cL_law 1201 = .ok (.laload, 1) := by decide +kernel
theorem dL_law_1202 : decode cL_law 1202 = .ok (.iload 6, 2) := by decide +kernel
theorem dL_law_1204 : decode cL_law 1204 = .ok (.i2l, 1) := by decide +kernel
theorem dL_law_1205 : decode cL_law 1205 = .ok (.lcmp, 1) := by decide +kernel
theorem dL_law_1206 : decode cL_law 1206 = .ok (.ifCond .eq 5, 3) := by decide +kernel
theorem dL_law_1209 : decode cL_law 1209 = .ok (.iconst 0, 1) := by decide +kernel
theorem dL_law_1210 : decode cL_law 1210 = .ok (.ireturn, 1) := by decide +kernel
theorem dL_law_1211 : decode cL_law 1211 = .ok (.goto 303, 3) := by decide +kernel
theorem dL_law_1214 : decode cL_law 1214 = .ok (.aload_n 1, 1) := by decide +kernel
theorem dL_law_1215 : decode cL_law 1215 = .ok (.aload_n 0, 1) := by decide +kernel
theorem dL_law_1216 : decode cL_law 1216 = .ok (.iload 4, 2) := by decide +kernel
theorem dL_law_1218 : decode cL_law 1218 = .ok (.iconst 1, 1) := by decide +kernel
theorem dL_law_1219 : decode cL_law 1219 = .ok (.iadd, 1) := by decide +kernel
theorem dL_law_1220 : decode cL_law 1220 = .ok (.iaload, 1) := by decide +kernel
theorem dL_law_1221 : decode cL_law 1221 = .ok (.aload_n 0, 1) := by decide +kernel
theorem dL_law_1222 : decode cL_law 1222 = .ok (.iload 4, 2) := by decide +kernel
theorem dL_law_1224 : decode cL_law 1224 = .ok (.iconst 2, 1) := by decide +kernel
theorem dL_law_1225 : decode cL_law 1225 = .ok (.iadd, 1) := by decide +kernel
theorem dL_law_1226 : decode cL_law 1226 = .ok (.iaload, 1) := by decide +kernel
theorem dL_law_1227 : decode cL_law 1227 = .ok (.aload_n 0, 1) := by decide +kernel
theorem dL_law_1228 : decode cL_law 1228 = .ok (.iload 4, 2) := by decide +kernel
theorem dL_law_1230 : decode cL_law 1230 = .ok (.iconst 3, 1) := by decide +kernel
theorem dL_law_1231 : decode cL_law 1231 = .ok (.iadd, 1) := by decide +kernel
theorem dL_law_1232 : decode cL_law 1232 = .ok (.iaload, 1) := by decide +kernel
theorem dL_law_1233 : decode cL_law 1233 = .ok (.aload_n 3, 1) := by decide +kernel
theorem dL_law_1234 : decode cL_law 1234 = .ok (.invokestatic 152, 3) := by decide +kernel
theorem dL_law_1237 : decode cL_law 1237 = .ok (.istore 5, 2) := by decide +kernel
theorem dL_law_1239 : decode cL_law 1239 = .ok (.aload_n 2, 1) := by decide +kernel
theorem dL_law_1240 : decode cL_law 1240 = .ok (.aload_n 0, 1) := by decide +kernel
theorem dL_law_1241 : decode cL_law 1241 = .ok (.iload 4, 2) := by decide +kernel
theorem dL_law_1243 : decode cL_law 1243 = .ok (.iconst 1, 1) := by decide +kernel
theorem dL_law_1244 : decode cL_law 1244 = .ok (.iadd, 1) := by decide +kernel
theorem dL_law_1245 : decode cL_law 1245 = .ok (.iaload, 1) := by decide +kernel
theorem dL_law_1246 : decode cL_law 1246 = .ok (.aload_n 0, 1) := by decide +kernel
theorem dL_law_1247 : decode cL_law 1247 = .ok (.iload 4, 2) := by decide +kernel
theorem dL_law_1249 : decode cL_law 1249 = .ok (.iconst 2, 1) := by decide +kernel
theorem dL_law_1250 : decode cL_law 1250 = .ok (.iadd, 1) := by decide +kernel
theorem dL_law_1251 : decode cL_law 1251 = .ok (.iaload, 1) := by decide +kernel
theorem dL_law_1252 : decode cL_law 1252 = .ok (.aload_n 0, 1) := by decide +kernel
theorem dL_law_1253 : decode cL_law 1253 = .ok (.iload 4, 2) := by decide +kernel
theorem dL_law_1255 : decode cL_law 1255 = .ok (.iconst 3, 1) := by decide +kernel
theorem dL_law_1256 : decode cL_law 1256 = .ok (.iadd, 1) := by decide +kernel
theorem dL_law_1257 : decode cL_law 1257 = .ok (.iaload, 1) := by decide +kernel
theorem dL_law_1258 : decode cL_law 1258 = .ok (.invokevirtual 154, 3) := by decide +kernel
theorem dL_law_1261 : decode cL_law 1261 = .ok (.istore 6, 2) := by decide +kernel
theorem dL_law_1263 : decode cL_law 1263 = .ok (.aload_n 2, 1) := by decide +kernel
theorem dL_law_1264 : decode cL_law 1264 = .ok (.invokevirtual 90, 3) := by decide +kernel
theorem dL_law_1267 : decode cL_law 1267 = .ok (.iload 5, 2) := by decide +kernel
theorem dL_law_1269 : decode cL_law 1269 = .ok (.if_icmp .eq 5, 3) := by decide +kernel
theorem dL_law_1272 : decode cL_law 1272 = .ok (.iconst 0, 1) := by decide +kernel
theorem dL_law_1273 : decode cL_law 1273 = .ok (.ireturn, 1) := by decide +kernel
theorem dL_law_1274 : decode cL_law 1274 = .ok (.iload 5, 2) := by decide +kernel
theorem dL_law_1276 : decode cL_law 1276 = .ok (.ifCond .ne 15, 3) := by decide +kernel
theorem dL_law_1279 : decode cL_law 1279 = .ok (.aload_n 3, 1) := by decide +kernel
theorem dL_law_1280 : decode cL_law 1280 = .ok (.iconst 0, 1) := by decide +kernel
theorem dL_law_1281 : decode cL_law 1281 = .ok (.laload, 1) := by decide +kernel
theorem dL_law_1282 : decode cL_law 1282 = .ok (.iload 6, 2) := by decide +kernel
theorem dL_law_1284 : decode cL_law 1284 = .ok (.i2l, 1) := by decide +kernel
theorem dL_law_1285 : decode cL_law 1285 = .ok (.lcmp, 1) := by decide +kernel
theorem dL_law_1286 : decode cL_law 1286 = .ok (.ifCond .eq 5, 3) := by decide +kernel
theorem dL_law_1289 : decode cL_law 1289 = .ok (.iconst 0, 1) := by decide +kernel
theorem dL_law_1290 : decode cL_law 1290 = .ok (.ireturn, 1) := by decide +kernel
theorem dL_law_1291 : decode cL_law 1291 = .ok (.goto 223, 3) := by decide +kernel
theorem dL_law_1294 : decode cL_law 1294 = .ok (.aload_n 1, 1) := by decide +kernel
theorem dL_law_1295 : decode cL_law 1295 = .ok (.aload_n 0, 1) := by decide +kernel
theorem dL_law_1296 : decode cL_law 1296 = .ok (.iload 4, 2) := by decide +kernel
theorem dL_law_1298 : decode cL_law 1298 = .ok (.iconst 1, 1) := by decide +kernel
theorem dL_law_1299 : decode cL_law 1299 = .ok (.iadd, 1) := by decide +kernel
theorem dL_law_1300 : decode cL_law 1300 = .ok (.iaload, 1) := by decide +kernel
theorem dL_law_1301 : decode cL_law 1301 = .ok (.aload_n 0, 1) := by decide +kernel
theorem dL_law_1302 : decode cL_law 1302 = .ok (.iload 4, 2) := by decide +kernel
theorem dL_law_1304 : decode cL_law 1304 = .ok (.iconst 2, 1) := by decide +kernel
theorem dL_law_1305 : decode cL_law 1305 = .ok (.iadd, 1) := by decide +kernel
theorem dL_law_1306 : decode cL_law 1306 = .ok (.iaload, 1) := by decide +kernel
theorem dL_law_1307 : decode cL_law 1307 = .ok (.aload_n 3, 1) := by decide +kernel
theorem dL_law_1308 : decode cL_law 1308 = .ok (.invokestatic 155, 3) := by decide +kernel
theorem dL_law_1311 : decode cL_law 1311 = .ok (.istore 5, 2) := by decide +kernel
theorem dL_law_1313 : decode cL_law 1313 = .ok (.aload_n 2, 1) := by decide +kernel
theorem dL_law_1314 : decode cL_law 1314 = .ok (.aload_n 0, 1) := by decide +kernel
theorem dL_law_1315 : decode cL_law 1315 = .ok (.iload 4, 2) := by decide +kernel
theorem dL_law_1317 : decode cL_law 1317 = .ok (.iconst 1, 1) := by decide +kernel
theorem dL_law_1318 : decode cL_law 1318 = .ok (.iadd, 1) := by decide +kernel
theorem dL_law_1319 : decode cL_law 1319 = .ok (.iaload, 1) := by decide +kernel
theorem dL_law_1320 : decode cL_law 1320 = .ok (.aload_n 0, 1) := by decide +kernel
theorem dL_law_1321 : decode cL_law 1321 = .ok (.iload 4, 2) := by decide +kernel
theorem dL_law_1323 : decode cL_law 1323 = .ok (.iconst 2, 1) := by decide +kernel
theorem dL_law_1324 : decode cL_law 1324 = .ok (.iadd, 1) := by decide +kernel
theorem dL_law_1325 : decode cL_law 1325 = .ok (.iaload, 1) := by decide +kernel
theorem dL_law_1326 : decode cL_law 1326 = .ok (.invokevirtual 157, 3) := by decide +kernel
theorem dL_law_1329 : decode cL_law 1329 = .ok (.istore 6, 2) := by decide +kernel
theorem dL_law_1331 : decode cL_law 1331 = .ok (.aload_n 2, 1) := by decide +kernel
theorem dL_law_1332 : decode cL_law 1332 = .ok (.invokevirtual 90, 3) := by decide +kernel
theorem dL_law_1335 : decode cL_law 1335 = .ok (.iload 5, 2) := by decide +kernel
theorem dL_law_1337 : decode cL_law 1337 = .ok (.if_icmp .eq 5, 3) := by decide +kernel
theorem dL_law_1340 : decode cL_law 1340 = .ok (.iconst 0, 1) := by decide +kernel
theorem dL_law_1341 : decode cL_law 1341 = .ok (.ireturn, 1) := by decide +kernel
theorem dL_law_1342 : decode cL_law 1342 = .ok (.iload 5, 2) := by decide +kernel
theorem dL_law_1344 : decode cL_law 1344 = .ok (.ifCond .ne 15, 3) := by decide +kernel
theorem dL_law_1347 : decode cL_law 1347 = .ok (.aload_n 3, 1) := by decide +kernel
theorem dL_law_1348 : decode cL_law 1348 = .ok (.iconst 0, 1) := by decide +kernel
theorem dL_law_1349 : decode cL_law 1349 = .ok (.laload, 1) := by decide +kernel
theorem dL_law_1350 : decode cL_law 1350 = .ok (.iload 6, 2) := by decide +kernel
theorem dL_law_1352 : decode cL_law 1352 = .ok (.i2l, 1) := by decide +kernel
theorem dL_law_1353 : decode cL_law 1353 = .ok (.lcmp, 1) := by decide +kernel
theorem dL_law_1354 : decode cL_law 1354 = .ok (.ifCond .eq 5, 3) := by decide +kernel
theorem dL_law_1357 : decode cL_law 1357 = .ok (.iconst 0, 1) := by decide +kernel
theorem dL_law_1358 : decode cL_law 1358 = .ok (.ireturn, 1) := by decide +kernel
theorem dL_law_1359 : decode cL_law 1359 = .ok (.goto 155, 3) := by decide +kernel
theorem dL_law_1362 : decode cL_law 1362 = .ok (.aload_n 1, 1) := by decide +kernel
theorem dL_law_1363 : decode cL_law 1363 = .ok (.aload_n 0, 1) := by decide +kernel
theorem dL_law_1364 : decode cL_law 1364 = .ok (.iload 4, 2) := by decide +kernel
theorem dL_law_1366 : decode cL_law 1366 = .ok (.iconst 1, 1) := by decide +kernel
theorem dL_law_1367 : decode cL_law 1367 = .ok (.iadd, 1) := by decide +kernel
theorem dL_law_1368 : decode cL_law 1368 = .ok (.iaload, 1) := by decide +kernel
theorem dL_law_1369 : decode cL_law 1369 = .ok (.aload_n 0, 1) := by decide +kernel
theorem dL_law_1370 : decode cL_law 1370 = .ok (.iload 4, 2) := by decide +kernel
theorem dL_law_1372 : decode cL_law 1372 = .ok (.iconst 2, 1) := by decide +kernel
theorem dL_law_1373 : decode cL_law 1373 = .ok (.iadd, 1) := by decide +kernel
theorem dL_law_1374 : decode cL_law 1374 = .ok (.iaload, 1) := by decide +kernel
theorem dL_law_1375 : decode cL_law 1375 = .ok (.ifCond .eq 7, 3) := by decide +kernel
theorem dL_law_1378 : decode cL_law 1378 = .ok (.iconst 1, 1) := by decide +kernel
theorem dL_law_1379 : decode cL_law 1379 = .ok (.goto 4, 3) := by decide +kernel
theorem dL_law_1382 : decode cL_law 1382 = .ok (.iconst 0, 1) := by decide +kernel
theorem dL_law_1383 : decode cL_law 1383 = .ok (.aload_n 3, 1) := by decide +kernel
theorem dL_law_1384 : decode cL_law 1384 = .ok (.invokestatic 158, 3) := by decide +kernel
theorem dL_law_1387 : decode cL_law 1387 = .ok (.istore 5, 2) := by decide +kernel
theorem dL_law_1389 : decode cL_law 1389 = .ok (.aload_n 2, 1) := by decide +kernel
theorem dL_law_1390 : decode cL_law 1390 = .ok (.aload_n 0, 1) := by decide +kernel
theorem dL_law_1391 : decode cL_law 1391 = .ok (.iload 4, 2) := by decide +kernel
theorem dL_law_1393 : decode cL_law 1393 = .ok (.iconst 1, 1) := by decide +kernel
theorem dL_law_1394 : decode cL_law 1394 = .ok (.iadd, 1) := by decide +kernel
theorem dL_law_1395 : decode cL_law 1395 = .ok (.iaload, 1) := by decide +kernel
theorem dL_law_1396 : decode cL_law 1396 = .ok (.aload_n 0, 1) := by decide +kernel
theorem dL_law_1397 : decode cL_law 1397 = .ok (.iload 4, 2) := by decide +kernel
theorem dL_law_1399 : decode cL_law 1399 = .ok (.iconst 2, 1) := by decide +kernel
theorem dL_law_1400 : decode cL_law 1400 = .ok (.iadd, 1) := by decide +kernel
theorem dL_law_1401 : decode cL_law 1401 = .ok (.iaload, 1) := by decide +kernel
theorem dL_law_1402 : decode cL_law 1402 = .ok (.ifCond .eq 7, 3) := by decide +kernel
theorem dL_law_1405 : decode cL_law 1405 = .ok (.iconst 1, 1) := by decide +kernel
theorem dL_law_1406 : decode cL_law 1406 = .ok (.goto 4, 3) := by decide +kernel
theorem dL_law_1409 : decode cL_law 1409 = .ok (.iconst 0, 1) := by decide +kernel
theorem dL_law_1410 : decode cL_law 1410 = .ok (.invokevirtual 161, 3) := by decide +kernel
theorem dL_law_1413 : decode cL_law 1413 = .ok (.istore 6, 2) := by decide +kernel
theorem dL_law_1415 : decode cL_law 1415 = .ok (.aload_n 2, 1) := by decide +kernel
theorem dL_law_1416 : decode cL_law 1416 = .ok (.invokevirtual 90, 3) := by decide +kernel
theorem dL_law_1419 : decode cL_law 1419 = .ok (.iload 5, 2) := by decide +kernel
theorem dL_law_1421 : decode cL_law 1421 = .ok (.if_icmp .eq 5, 3) := by decide +kernel
theorem dL_law_1424 : decode cL_law 1424 = .ok (.iconst 0, 1) := by decide +kernel
theorem dL_law_1425 : decode cL_law 1425 = .ok (.ireturn, 1) := by decide +kernel
theorem dL_law_1426 : decode cL_law 1426 = .ok (.iload 5, 2) := by decide +kernel
theorem dL_law_1428 : decode cL_law 1428 = .ok (.ifCond .ne 15, 3) := by decide +kernel
theorem dL_law_1431 : decode cL_law 1431 = .ok (.aload_n 3, 1) := by decide +kernel
theorem dL_law_1432 : decode cL_law 1432 = .ok (.iconst 0, 1) := by decide +kernel
theorem dL_law_1433 : decode cL_law 1433 = .ok (.laload, 1) := by decide +kernel
theorem dL_law_1434 : decode cL_law 1434 = .ok (.iload 6, 2) := by decide +kernel
theorem dL_law_1436 : decode cL_law 1436 = .ok (.i2l, 1) := by decide +kernel
theorem dL_law_1437 : decode cL_law 1437 = .ok (.lcmp, 1) := by decide +kernel
theorem dL_law_1438 : decode cL_law 1438 = .ok (.ifCond .eq 5, 3) := by decide +kernel
theorem dL_law_1441 : decode cL_law 1441 = .ok (.iconst 0, 1) := by decide +kernel
theorem dL_law_1442 : decode cL_law 1442 = .ok (.ireturn, 1) := by decide +kernel
theorem dL_law_1443 : decode cL_law 1443 = .ok (.goto 71, 3) := by decide +kernel
theorem dL_law_1446 : decode cL_law 1446 = .ok (.aload_n 1, 1) := by decide +kernel
theorem dL_law_1447 : decode cL_law 1447 = .ok (.invokevirtual 162, 3) := by decide +kernel
theorem dL_law_1450 : decode cL_law 1450 = .ok (.aload_n 2, 1) := by decide +kernel
theorem dL_law_1451 : decode cL_law 1451 = .ok (.invokevirtual 165, 3) := by decide +kernel
theorem dL_law_1454 : decode cL_law 1454 = .ok (.if_icmp .eq 60, 3) := by decide +kernel
theorem dL_law_1457 : decode cL_law 1457 = .ok (.iconst 0, 1) := by decide +kernel
theorem dL_law_1458 : decode cL_law 1458 = .ok (.ireturn, 1) := by decide +kernel
theorem dL_law_1459 : decode cL_law 1459 = .ok (.aload_n 1, 1) := by decide +kernel
theorem dL_law_1460 : decode cL_law 1460 = .ok (.invokevirtual 166, 3) := by decide +kernel
theorem dL_law_1463 : decode cL_law 1463 = .ok (.dstore 5, 2) := by decide +kernel
theorem dL_law_1465 : decode cL_law 1465 = .ok (.aload_n 2, 1) := by decide +kernel
theorem dL_law_1466 : decode cL_law 1466 = .ok (.invokevirtual 170, 3) := by decide +kernel
theorem dL_law_1469 : decode cL_law 1469 = .ok (.dstore 7, 2) := by decide +kernel
theorem dL_law_1471 : decode cL_law 1471 = .ok (.dload 5, 2) := by decide +kernel
theorem dL_law_1473 : decode cL_law 1473 = .ok (.dload 7, 2) := by decide +kernel
theorem dL_law_1475 : decode cL_law 1475 = .ok (.dcmp .l, 1) := by decide +kernel
theorem dL_law_1476 : decode cL_law 1476 = .ok (.ifCond .eq 21, 3) := by decide +kernel
theorem dL_law_1479 : decode cL_law 1479 = .ok (.dload 5, 2) := by decide +kernel
theorem dL_law_1481 : decode cL_law 1481 = .ok (.dload 5, 2) := by decide +kernel
theorem dL_law_1483 : decode cL_law 1483 = .ok (.dcmp .l, 1) := by decide +kernel
theorem dL_law_1484 : decode cL_law 1484 = .ok (.ifCond .eq 11, 3) := by decide +kernel
theorem dL_law_1487 : decode cL_law 1487 = .ok (.dload 7, 2) := by decide +kernel
theorem dL_law_1489 : decode cL_law 1489 = .ok (.dload 7, 2) := by decide +kernel
theorem dL_law_1491 : decode cL_law 1491 = .ok (.dcmp .l, 1) := by decide +kernel
theorem dL_law_1492 : decode cL_law 1492 = .ok (.ifCond .ne 5, 3) := by decide +kernel
theorem dL_law_1495 : decode cL_law 1495 = .ok (.iconst 0, 1) := by decide +kernel
theorem dL_law_1496 : decode cL_law 1496 = .ok (.ireturn, 1) := by decide +kernel
theorem dL_law_1497 : decode cL_law 1497 = .ok (.goto 17, 3) := by decide +kernel
theorem dL_law_1500 : decode cL_law 1500 = .ok (.aload_n 1, 1) := by decide +kernel
theorem dL_law_1501 : decode cL_law 1501 = .ok (.invokevirtual 171, 3) := by decide +kernel
theorem dL_law_1504 : decode cL_law 1504 = .ok (.aload_n 2, 1) := by decide +kernel
theorem dL_law_1505 : decode cL_law 1505 = .ok (.invokevirtual 175, 3) := by decide +kernel
theorem dL_law_1508 : decode cL_law 1508 = .ok (.lcmp, 1) := by decide +kernel
theorem dL_law_1509 : decode cL_law 1509 = .ok (.ifCond .eq 5, 3) := by decide +kernel
theorem dL_law_1512 : decode cL_law 1512 = .ok (.iconst 0, 1) := by decide +kernel
theorem dL_law_1513 : decode cL_law 1513 = .ok (.ireturn, 1) := by decide +kernel
theorem dL_law_1514 : decode cL_law 1514 = .ok (.iinc 4 4, 3) := by decide +kernel
theorem dL_law_1517 : decode cL_law 1517 = .ok (.goto (-1494), 3) := by decide +kernel
theorem dL_law_1520 : decode cL_law 1520 = .ok (.iconst 1, 1) := by decide +kernel
theorem dL_law_1521 : decode cL_law 1521 = .ok (.ireturn, 1) := by decide +kernel
