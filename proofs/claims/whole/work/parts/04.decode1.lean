/-! Decode rows. -/
theorem d_C_maskOf_8 : decode b_C_maskOf 8 = .ok (.isub, 1) := by decide +kernel
theorem d_C_maskOf_9 : decode b_C_maskOf 9 = .ok (.ireturn, 1) := by decide +kernel
theorem d_C_keysOfBucket_0 : decode b_C_keysOfBucket 0 = .ok (.aload_n 0, 1) := by decide +kernel
theorem d_C_keysOfBucket_1 : decode b_C_keysOfBucket 1 = .ok (.getfield 9, 3) := by decide +kernel
theorem d_C_keysOfBucket_4 : decode b_C_keysOfBucket 4 = .ok (.aload_n 0, 1) := by decide +kernel
theorem d_C_keysOfBucket_5 : decode b_C_keysOfBucket 5 = .ok (.iload_n 1, 1) := by decide +kernel
theorem d_C_keysOfBucket_6 : decode b_C_keysOfBucket 6 = .ok (.invokevirtual 26, 3) := by decide +kernel
theorem d_C_keysOfBucket_9 : decode b_C_keysOfBucket 9 = .ok (.iload_n 1, 1) := by decide +kernel
theorem d_C_keysOfBucket_10 : decode b_C_keysOfBucket 10 = .ok (.invokestatic 18, 3) := by decide +kernel
theorem d_C_keysOfBucket_13 : decode b_C_keysOfBucket 13 = .ok (.iaload, 1) := by decide +kernel
theorem d_C_keysOfBucket_14 : decode b_C_keysOfBucket 14 = .ok (.ireturn, 1) := by decide +kernel
theorem d_C_countPlaces_0 : decode b_C_countPlaces 0 = .ok (.iconst 0, 1) := by decide +kernel
theorem d_C_countPlaces_1 : decode b_C_countPlaces 1 = .ok (.istore_n 1, 1) := by decide +kernel
theorem d_C_countPlaces_2 : decode b_C_countPlaces 2 = .ok (.iconst 0, 1) := by decide +kernel
theorem d_C_countPlaces_3 : decode b_C_countPlaces 3 = .ok (.istore_n 2, 1) := by decide +kernel
theorem d_C_countPlaces_4 : decode b_C_countPlaces 4 = .ok (.iload_n 2, 1) := by decide +kernel
theorem d_C_countPlaces_5 : decode b_C_countPlaces 5 = .ok (.bipush 64, 2) := by decide +kernel
theorem d_C_countPlaces_7 : decode b_C_countPlaces 7 = .ok (.if_icmp .ge 20, 3) := by decide +kernel
theorem d_C_countPlaces_10 : decode b_C_countPlaces 10 = .ok (.aload_n 0, 1) := by decide +kernel
theorem d_C_countPlaces_11 : decode b_C_countPlaces 11 = .ok (.iload_n 2, 1) := by decide +kernel
theorem d_C_countPlaces_12 : decode b_C_countPlaces 12 = .ok (.invokevirtual 38, 3) := by decide +kernel
theorem d_C_countPlaces_15 : decode b_C_countPlaces 15 = .ok (.ifCond .eq 6, 3) := by decide +kernel
theorem d_C_countPlaces_18 : decode b_C_countPlaces 18 = .ok (.iinc 1 1, 3) := by decide +kernel
theorem d_C_countPlaces_21 : decode b_C_countPlaces 21 = .ok (.iinc 2 1, 3) := by decide +kernel
theorem d_C_countPlaces_24 : decode b_C_countPlaces 24 = .ok (.goto (-20), 3) := by decide +kernel
theorem d_C_countPlaces_27 : decode b_C_countPlaces 27 = .ok (.iload_n 1, 1) := by decide +kernel
theorem d_C_countPlaces_28 : decode b_C_countPlaces 28 = .ok (.ireturn, 1) := by decide +kernel
theorem d_K_init_0 : decode b_K_init 0 = .ok (.aload_n 0, 1) := by decide +kernel
theorem d_K_init_1 : decode b_K_init 1 = .ok (.invokespecial 3, 3) := by decide +kernel
theorem d_K_init_4 : decode b_K_init 4 = .ok (.aload_n 0, 1) := by decide +kernel
theorem d_K_init_5 : decode b_K_init 5 = .ok (.bipush 65, 2) := by decide +kernel
theorem d_K_init_7 : decode b_K_init 7 = .ok (.newarray .int, 2) := by decide +kernel
theorem d_K_init_9 : decode b_K_init 9 = .ok (.putfield 11, 3) := by decide +kernel
theorem d_K_init_12 : decode b_K_init 12 = .ok (.aload_n 0, 1) := by decide +kernel
theorem d_K_init_13 : decode b_K_init 13 = .ok (.bipush 65, 2) := by decide +kernel
theorem d_K_init_15 : decode b_K_init 15 = .ok (.newarray .long, 2) := by decide +kernel
theorem d_K_init_17 : decode b_K_init 17 = .ok (.putfield 15, 3) := by decide +kernel
theorem d_K_init_20 : decode b_K_init 20 = .ok (.aload_n 0, 1) := by decide +kernel
theorem d_K_init_21 : decode b_K_init 21 = .ok (.new 19, 3) := by decide +kernel
theorem d_K_init_24 : decode b_K_init 24 = .ok (.dup, 1) := by decide +kernel
theorem d_K_init_25 : decode b_K_init 25 = .ok (.invokespecial 21, 3) := by decide +kernel
theorem d_K_init_28 : decode b_K_init 28 = .ok (.putfield 22, 3) := by decide +kernel
theorem d_K_init_31 : decode b_K_init 31 = .ok (.return_, 1) := by decide +kernel
theorem d_K_holds_0 : decode b_K_holds 0 = .ok (.aload_n 0, 1) := by decide +kernel
theorem d_K_holds_1 : decode b_K_holds 1 = .ok (.aload_n 0, 1) := by decide +kernel
theorem d_K_holds_2 : decode b_K_holds 2 = .ok (.iload_n 1, 1) := by decide +kernel
theorem d_K_holds_3 : decode b_K_holds 3 = .ok (.invokevirtual 26, 3) := by decide +kernel
theorem d_K_holds_6 : decode b_K_holds 6 = .ok (.iload_n 1, 1) := by decide +kernel
theorem d_K_holds_7 : decode b_K_holds 7 = .ok (.invokevirtual 30, 3) := by decide +kernel
theorem d_K_holds_10 : decode b_K_holds 10 = .ok (.ireturn, 1) := by decide +kernel
theorem d_K_keysBelow_0 : decode b_K_keysBelow 0 = .ok (.iconst 0, 1) := by decide +kernel
theorem d_K_keysBelow_1 : decode b_K_keysBelow 1 = .ok (.istore_n 2, 1) := by decide +kernel
theorem d_K_keysBelow_2 : decode b_K_keysBelow 2 = .ok (.iload_n 2, 1) := by decide +kernel
theorem d_K_keysBelow_3 : decode b_K_keysBelow 3 = .ok (.aload_n 0, 1) := by decide +kernel
theorem d_K_keysBelow_4 : decode b_K_keysBelow 4 = .ok (.getfield 34, 3) := by decide +kernel
theorem d_K_keysBelow_7 : decode b_K_keysBelow 7 = .ok (.if_icmp .ge 19, 3) := by decide +kernel
theorem d_K_keysBelow_10 : decode b_K_keysBelow 10 = .ok (.aload_n 0, 1) := by decide +kernel
theorem d_K_keysBelow_11 : decode b_K_keysBelow 11 = .ok (.getfield 11, 3) := by decide +kernel
theorem d_K_keysBelow_14 : decode b_K_keysBelow 14 = .ok (.iload_n 2, 1) := by decide +kernel
theorem d_K_keysBelow_15 : decode b_K_keysBelow 15 = .ok (.iaload, 1) := by decide +kernel
theorem d_K_keysBelow_16 : decode b_K_keysBelow 16 = .ok (.iload_n 1, 1) := by decide +kernel
theorem d_K_keysBelow_17 : decode b_K_keysBelow 17 = .ok (.if_icmp .ge 9, 3) := by decide +kernel
theorem d_K_keysBelow_20 : decode b_K_keysBelow 20 = .ok (.iinc 2 1, 3) := by decide +kernel
theorem d_K_keysBelow_23 : decode b_K_keysBelow 23 = .ok (.goto (-21), 3) := by decide +kernel
theorem d_K_keysBelow_26 : decode b_K_keysBelow 26 = .ok (.iload_n 2, 1) := by decide +kernel
theorem d_K_keysBelow_27 : decode b_K_keysBelow 27 = .ok (.ireturn, 1) := by decide +kernel
theorem d_K_isAt_0 : decode b_K_isAt 0 = .ok (.iload_n 1, 1) := by decide +kernel
theorem d_K_isAt_1 : decode b_K_isAt 1 = .ok (.aload_n 0, 1) := by decide +kernel
theorem d_K_isAt_2 : decode b_K_isAt 2 = .ok (.getfield 34, 3) := by decide +kernel
theorem d_K_isAt_5 : decode b_K_isAt 5 = .ok (.if_icmp .ge 17, 3) := by decide +kernel
theorem d_K_isAt_8 : decode b_K_isAt 8 = .ok (.aload_n 0, 1) := by decide +kernel
theorem d_K_isAt_9 : decode b_K_isAt 9 = .ok (.getfield 11, 3) := by decide +kernel
theorem d_K_isAt_12 : decode b_K_isAt 12 = .ok (.iload_n 1, 1) := by decide +kernel
theorem d_K_isAt_13 : decode b_K_isAt 13 = .ok (.iaload, 1) := by decide +kernel
theorem d_K_isAt_14 : decode b_K_isAt 14 = .ok (.iload_n 2, 1) := by decide +kernel
theorem d_K_isAt_15 : decode b_K_isAt 15 = .ok (.if_icmp .ne 7, 3) := by decide +kernel
theorem d_K_isAt_18 : decode b_K_isAt 18 = .ok (.iconst 1, 1) := by decide +kernel
theorem d_K_isAt_19 : decode b_K_isAt 19 = .ok (.goto 4, 3) := by decide +kernel
theorem d_K_isAt_22 : decode b_K_isAt 22 = .ok (.iconst 0, 1) := by decide +kernel
theorem d_K_isAt_23 : decode b_K_isAt 23 = .ok (.ireturn, 1) := by decide +kernel
theorem d_K_valueOf_0 : decode b_K_valueOf 0 = .ok (.aload_n 0, 1) := by decide +kernel
theorem d_K_valueOf_1 : decode b_K_valueOf 1 = .ok (.iload_n 1, 1) := by decide +kernel
theorem d_K_valueOf_2 : decode b_K_valueOf 2 = .ok (.invokevirtual 26, 3) := by decide +kernel
theorem d_K_valueOf_5 : decode b_K_valueOf 5 = .ok (.istore_n 2, 1) := by decide +kernel
theorem d_K_valueOf_6 : decode b_K_valueOf 6 = .ok (.aload_n 0, 1) := by decide +kernel
theorem d_K_valueOf_7 : decode b_K_valueOf 7 = .ok (.iload_n 2, 1) := by decide +kernel
theorem d_K_valueOf_8 : decode b_K_valueOf 8 = .ok (.iload_n 1, 1) := by decide +kernel
theorem d_K_valueOf_9 : decode b_K_valueOf 9 = .ok (.invokevirtual 30, 3) := by decide +kernel
theorem d_K_valueOf_12 : decode b_K_valueOf 12 = .ok (.ifCond .eq 12, 3) := by decide +kernel
theorem d_K_valueOf_15 : decode b_K_valueOf 15 = .ok (.aload_n 0, 1) := by decide +kernel
theorem d_K_valueOf_16 : decode b_K_valueOf 16 = .ok (.getfield 15, 3) := by decide +kernel
theorem d_K_valueOf_19 : decode b_K_valueOf 19 = .ok (.iload_n 2, 1) := by decide +kernel
theorem d_K_valueOf_20 : decode b_K_valueOf 20 = .ok (.laload, 1) := by decide +kernel
theorem d_K_valueOf_21 : decode b_K_valueOf 21 = .ok (.goto 4, 3) := by decide +kernel
theorem d_K_valueOf_24 : decode b_K_valueOf 24 = .ok (.lconst 0, 1) := by decide +kernel
theorem d_K_valueOf_25 : decode b_K_valueOf 25 = .ok (.lreturn, 1) := by decide +kernel
theorem d_K_set_0 : decode b_K_set 0 = .ok (.aload_n 0, 1) := by decide +kernel
theorem d_K_set_1 : decode b_K_set 1 = .ok (.iload_n 1, 1) := by decide +kernel
theorem d_K_set_2 : decode b_K_set 2 = .ok (.invokevirtual 26, 3) := by decide +kernel
theorem d_K_set_5 : decode b_K_set 5 = .ok (.istore 4, 2) := by decide +kernel
theorem d_K_set_7 : decode b_K_set 7 = .ok (.aload_n 0, 1) := by decide +kernel
theorem d_K_set_8 : decode b_K_set 8 = .ok (.iload 4, 2) := by decide +kernel
theorem d_K_set_10 : decode b_K_set 10 = .ok (.iload_n 1, 1) := by decide +kernel
theorem d_K_set_11 : decode b_K_set 11 = .ok (.invokevirtual 30, 3) := by decide +kernel
theorem d_K_set_14 : decode b_K_set 14 = .ok (.ifCond .eq 14, 3) := by decide +kernel
theorem d_K_set_17 : decode b_K_set 17 = .ok (.aload_n 0, 1) := by decide +kernel
theorem d_K_set_18 : decode b_K_set 18 = .ok (.getfield 15, 3) := by decide +kernel
theorem d_K_set_21 : decode b_K_set 21 = .ok (.iload 4, 2) := by decide +kernel
theorem d_K_set_23 : decode b_K_set 23 = .ok (.lload_n 2, 1) := by decide +kernel
theorem d_K_set_24 : decode b_K_set 24 = .ok (.lastore, 1) := by decide +kernel
theorem d_K_set_25 : decode b_K_set 25 = .ok (.goto 20, 3) := by decide +kernel
theorem d_K_set_28 : decode b_K_set 28 = .ok (.aload_n 0, 1) := by decide +kernel
theorem d_K_set_29 : decode b_K_set 29 = .ok (.getfield 34, 3) := by decide +kernel
theorem d_K_set_32 : decode b_K_set 32 = .ok (.bipush 65, 2) := by decide +kernel
theorem d_K_set_34 : decode b_K_set 34 = .ok (.if_icmp .ge 11, 3) := by decide +kernel
theorem d_K_set_37 : decode b_K_set 37 = .ok (.aload_n 0, 1) := by decide +kernel
theorem d_K_set_38 : decode b_K_set 38 = .ok (.iload 4, 2) := by decide +kernel
theorem d_K_set_40 : decode b_K_set 40 = .ok (.iload_n 1, 1) := by decide +kernel
theorem d_K_set_41 : decode b_K_set 41 = .ok (.lload_n 2, 1) := by decide +kernel
theorem d_K_set_42 : decode b_K_set 42 = .ok (.invokevirtual 38, 3) := by decide +kernel
theorem d_K_set_45 : decode b_K_set 45 = .ok (.return_, 1) := by decide +kernel
theorem d_K_insert_0 : decode b_K_insert 0 = .ok (.aload_n 0, 1) := by decide +kernel
theorem d_K_insert_1 : decode b_K_insert 1 = .ok (.getfield 11, 3) := by decide +kernel
theorem d_K_insert_4 : decode b_K_insert 4 = .ok (.iload_n 1, 1) := by decide +kernel
theorem d_K_insert_5 : decode b_K_insert 5 = .ok (.aload_n 0, 1) := by decide +kernel
theorem d_K_insert_6 : decode b_K_insert 6 = .ok (.getfield 11, 3) := by decide +kernel
theorem d_K_insert_9 : decode b_K_insert 9 = .ok (.iload_n 1, 1) := by decide +kernel
theorem d_K_insert_10 : decode b_K_insert 10 = .ok (.iconst 1, 1) := by decide +kernel
theorem d_K_insert_11 : decode b_K_insert 11 = .ok (.iadd, 1) := by decide +kernel
theorem d_K_insert_12 : decode b_K_insert 12 = .ok (.aload_n 0, 1) := by decide +kernel
theorem d_K_insert_13 : decode b_K_insert 13 = .ok (.getfield 34, 3) := by decide +kernel
theorem d_K_insert_16 : decode b_K_insert 16 = .ok (.iload_n 1, 1) := by decide +kernel
theorem d_K_insert_17 : decode b_K_insert 17 = .ok (.isub, 1) := by decide +kernel
theorem d_K_insert_18 : decode b_K_insert 18 = .ok (.invokestatic 42, 3) := by decide +kernel
theorem d_K_insert_21 : decode b_K_insert 21 = .ok (.aload_n 0, 1) := by decide +kernel
theorem d_K_insert_22 : decode b_K_insert 22 = .ok (.getfield 15, 3) := by decide +kernel
theorem d_K_insert_25 : decode b_K_insert 25 = .ok (.iload_n 1, 1) := by decide +kernel
theorem d_K_insert_26 : decode b_K_insert 26 = .ok (.aload_n 0, 1) := by decide +kernel
theorem d_K_insert_27 : decode b_K_insert 27 = .ok (.getfield 15, 3) := by decide +kernel
theorem d_K_insert_30 : decode b_K_insert 30 = .ok (.iload_n 1, 1) := by decide +kernel
theorem d_K_insert_31 : decode b_K_insert 31 = .ok (.iconst 1, 1) := by decide +kernel
theorem d_K_insert_32 : decode b_K_insert 32 = .ok (.iadd, 1) := by decide +kernel
theorem d_K_insert_33 : decode b_K_insert 33 = .ok (.aload_n 0, 1) := by decide +kernel
theorem d_K_insert_34 : decode b_K_insert 34 = .ok (.getfield 34, 3) := by decide +kernel
theorem d_K_insert_37 : decode b_K_insert 37 = .ok (.iload_n 1, 1) := by decide +kernel
theorem d_K_insert_38 : decode b_K_insert 38 = .ok (.isub, 1) := by decide +kernel
theorem d_K_insert_39 : decode b_K_insert 39 = .ok (.invokestatic 42, 3) := by decide +kernel
theorem d_K_insert_42 : decode b_K_insert 42 = .ok (.aload_n 0, 1) := by decide +kernel
theorem d_K_insert_43 : decode b_K_insert 43 = .ok (.getfield 11, 3) := by decide +kernel
theorem d_K_insert_46 : decode b_K_insert 46 = .ok (.iload_n 1, 1) := by decide +kernel
theorem d_K_insert_47 : decode b_K_insert 47 = .ok (.iload_n 2, 1) := by decide +kernel
theorem d_K_insert_48 : decode b_K_insert 48 = .ok (.iastore, 1) := by decide +kernel
theorem d_K_insert_49 : decode b_K_insert 49 = .ok (.aload_n 0, 1) := by decide +kernel
theorem d_K_insert_50 : decode b_K_insert 50 = .ok (.getfield 15, 3) := by decide +kernel
theorem d_K_insert_53 : decode b_K_insert 53 = .ok (.iload_n 1, 1) := by decide +kernel
theorem d_K_insert_54 : decode b_K_insert 54 = .ok (.lload_n 3, 1) := by decide +kernel
theorem d_K_insert_55 : decode b_K_insert 55 = .ok (.lastore, 1) := by decide +kernel
theorem d_K_insert_56 : decode b_K_insert 56 = .ok (.aload_n 0, 1) := by decide +kernel
theorem d_K_insert_57 : decode b_K_insert 57 = .ok (.dup, 1) := by decide +kernel
theorem d_K_insert_58 : decode b_K_insert 58 = .ok (.getfield 34, 3) := by decide +kernel
theorem d_K_insert_61 : decode b_K_insert 61 = .ok (.iconst 1, 1) := by decide +kernel
theorem d_K_insert_62 : decode b_K_insert 62 = .ok (.iadd, 1) := by decide +kernel
theorem d_K_insert_63 : decode b_K_insert 63 = .ok (.putfield 34, 3) := by decide +kernel
theorem d_K_insert_66 : decode b_K_insert 66 = .ok (.aload_n 0, 1) := by decide +kernel
theorem d_K_insert_67 : decode b_K_insert 67 = .ok (.getfield 22, 3) := by decide +kernel
theorem d_K_insert_70 : decode b_K_insert 70 = .ok (.iload_n 2, 1) := by decide +kernel
theorem d_K_insert_71 : decode b_K_insert 71 = .ok (.invokestatic 48, 3) := by decide +kernel
theorem d_K_insert_74 : decode b_K_insert 74 = .ok (.iconst 1, 1) := by decide +kernel
theorem d_K_insert_75 : decode b_K_insert 75 = .ok (.invokevirtual 51, 3) := by decide +kernel
theorem d_K_insert_78 : decode b_K_insert 78 = .ok (.return_, 1) := by decide +kernel
theorem d_K_pagesInUse_0 : decode b_K_pagesInUse 0 = .ok (.iconst 1, 1) := by decide +kernel
theorem d_K_pagesInUse_1 : decode b_K_pagesInUse 1 = .ok (.iconst 1, 1) := by decide +kernel
theorem d_K_pagesInUse_2 : decode b_K_pagesInUse 2 = .ok (.aload_n 0, 1) := by decide +kernel
theorem d_K_pagesInUse_3 : decode b_K_pagesInUse 3 = .ok (.getfield 22, 3) := by decide +kernel
theorem d_K_pagesInUse_6 : decode b_K_pagesInUse 6 = .ok (.invokevirtual 55, 3) := by decide +kernel
theorem d_K_pagesInUse_9 : decode b_K_pagesInUse 9 = .ok (.ishl, 1) := by decide +kernel
theorem d_K_pagesInUse_10 : decode b_K_pagesInUse 10 = .ok (.invokestatic 59, 3) := by decide +kernel
theorem d_K_pagesInUse_13 : decode b_K_pagesInUse 13 = .ok (.iadd, 1) := by decide +kernel
theorem d_K_pagesInUse_14 : decode b_K_pagesInUse 14 = .ok (.istore_n 1, 1) := by decide +kernel
theorem d_K_pagesInUse_15 : decode b_K_pagesInUse 15 = .ok (.iconst 0, 1) := by decide +kernel
theorem d_K_pagesInUse_16 : decode b_K_pagesInUse 16 = .ok (.istore_n 2, 1) := by decide +kernel
theorem d_K_pagesInUse_17 : decode b_K_pagesInUse 17 = .ok (.iload_n 2, 1) := by decide +kernel
theorem d_K_pagesInUse_18 : decode b_K_pagesInUse 18 = .ok (.bipush 64, 2) := by decide +kernel
theorem d_K_pagesInUse_20 : decode b_K_pagesInUse 20 = .ok (.if_icmp .ge 34, 3) := by decide +kernel
theorem d_K_pagesInUse_23 : decode b_K_pagesInUse 23 = .ok (.aload_n 0, 1) := by decide +kernel
theorem d_K_pagesInUse_24 : decode b_K_pagesInUse 24 = .ok (.getfield 22, 3) := by decide +kernel
theorem d_K_pagesInUse_27 : decode b_K_pagesInUse 27 = .ok (.iload_n 2, 1) := by decide +kernel
theorem d_K_pagesInUse_28 : decode b_K_pagesInUse 28 = .ok (.invokevirtual 62, 3) := by decide +kernel
theorem d_K_pagesInUse_31 : decode b_K_pagesInUse 31 = .ok (.ifCond .eq 17, 3) := by decide +kernel
theorem d_K_pagesInUse_34 : decode b_K_pagesInUse 34 = .ok (.iload_n 1, 1) := by decide +kernel
theorem d_K_pagesInUse_35 : decode b_K_pagesInUse 35 = .ok (.aload_n 0, 1) := by decide +kernel
theorem d_K_pagesInUse_36 : decode b_K_pagesInUse 36 = .ok (.getfield 22, 3) := by decide +kernel
theorem d_K_pagesInUse_39 : decode b_K_pagesInUse 39 = .ok (.iload_n 2, 1) := by decide +kernel
theorem d_K_pagesInUse_40 : decode b_K_pagesInUse 40 = .ok (.invokevirtual 66, 3) := by decide +kernel
theorem d_K_pagesInUse_43 : decode b_K_pagesInUse 43 = .ok (.invokestatic 69, 3) := by decide +kernel
theorem d_K_pagesInUse_46 : decode b_K_pagesInUse 46 = .ok (.iadd, 1) := by decide +kernel
theorem d_K_pagesInUse_47 : decode b_K_pagesInUse 47 = .ok (.istore_n 1, 1) := by decide +kernel
theorem d_K_pagesInUse_48 : decode b_K_pagesInUse 48 = .ok (.iinc 2 1, 3) := by decide +kernel
theorem d_K_pagesInUse_51 : decode b_K_pagesInUse 51 = .ok (.goto (-34), 3) := by decide +kernel
theorem d_K_pagesInUse_54 : decode b_K_pagesInUse 54 = .ok (.iconst 0, 1) := by decide +kernel
theorem d_K_pagesInUse_55 : decode b_K_pagesInUse 55 = .ok (.istore_n 2, 1) := by decide +kernel
theorem d_K_pagesInUse_56 : decode b_K_pagesInUse 56 = .ok (.iload_n 2, 1) := by decide +kernel
theorem d_K_pagesInUse_57 : decode b_K_pagesInUse 57 = .ok (.aload_n 0, 1) := by decide +kernel
theorem d_K_pagesInUse_58 : decode b_K_pagesInUse 58 = .ok (.getfield 34, 3) := by decide +kernel
theorem d_K_pagesInUse_61 : decode b_K_pagesInUse 61 = .ok (.if_icmp .ge 21, 3) := by decide +kernel
theorem d_K_pagesInUse_64 : decode b_K_pagesInUse 64 = .ok (.iload_n 1, 1) := by decide +kernel
theorem d_K_pagesInUse_65 : decode b_K_pagesInUse 65 = .ok (.aload_n 0, 1) := by decide +kernel
theorem d_K_pagesInUse_66 : decode b_K_pagesInUse 66 = .ok (.getfield 15, 3) := by decide +kernel
theorem d_K_pagesInUse_69 : decode b_K_pagesInUse 69 = .ok (.iload_n 2, 1) := by decide +kernel
theorem d_K_pagesInUse_70 : decode b_K_pagesInUse 70 = .ok (.laload, 1) := by decide +kernel
theorem d_K_pagesInUse_71 : decode b_K_pagesInUse 71 = .ok (.invokestatic 72, 3) := by decide +kernel
theorem d_K_pagesInUse_74 : decode b_K_pagesInUse 74 = .ok (.iadd, 1) := by decide +kernel
theorem d_K_pagesInUse_75 : decode b_K_pagesInUse 75 = .ok (.istore_n 1, 1) := by decide +kernel
theorem d_K_pagesInUse_76 : decode b_K_pagesInUse 76 = .ok (.iinc 2 1, 3) := by decide +kernel
theorem d_K_pagesInUse_79 : decode b_K_pagesInUse 79 = .ok (.goto (-23), 3) := by decide +kernel
theorem d_K_pagesInUse_82 : decode b_K_pagesInUse 82 = .ok (.iload_n 1, 1) := by decide +kernel
theorem d_K_pagesInUse_83 : decode b_K_pagesInUse 83 = .ok (.ireturn, 1) := by decide +kernel
theorem d_K_remove_0 : decode b_K_remove 0 = .ok (.aload_n 0, 1) := by decide +kernel
theorem d_K_remove_1 : decode b_K_remove 1 = .ok (.iload_n 1, 1) := by decide +kernel
theorem d_K_remove_2 : decode b_K_remove 2 = .ok (.invokevirtual 26, 3) := by decide +kernel
theorem d_K_remove_5 : decode b_K_remove 5 = .ok (.istore_n 2, 1) := by decide +kernel
theorem d_K_remove_6 : decode b_K_remove 6 = .ok (.aload_n 0, 1) := by decide +kernel
theorem d_K_remove_7 : decode b_K_remove 7 = .ok (.iload_n 2, 1) := by decide +kernel
theorem d_K_remove_8 : decode b_K_remove 8 = .ok (.iload_n 1, 1) := by decide +kernel
theorem d_K_remove_9 : decode b_K_remove 9 = .ok (.invokevirtual 30, 3) := by decide +kernel
theorem d_K_remove_12 : decode b_K_remove 12 = .ok (.ifCond .eq 67, 3) := by decide +kernel
theorem d_K_remove_15 : decode b_K_remove 15 = .ok (.aload_n 0, 1) := by decide +kernel
theorem d_K_remove_16 : decode b_K_remove 16 = .ok (.dup, 1) := by decide +kernel
theorem d_K_remove_17 : decode b_K_remove 17 = .ok (.getfield 34, 3) := by decide +kernel
theorem d_K_remove_20 : decode b_K_remove 20 = .ok (.iconst 1, 1) := by decide +kernel
theorem d_K_remove_21 : decode b_K_remove 21 = .ok (.isub, 1) := by decide +kernel
theorem d_K_remove_22 : decode b_K_remove 22 = .ok (.putfield 34, 3) := by decide +kernel
theorem d_K_remove_25 : decode b_K_remove 25 = .ok (.aload_n 0, 1) := by decide +kernel
theorem d_K_remove_26 : decode b_K_remove 26 = .ok (.getfield 11, 3) := by decide +kernel
theorem d_K_remove_29 : decode b_K_remove 29 = .ok (.iload_n 2, 1) := by decide +kernel
theorem d_K_remove_30 : decode b_K_remove 30 = .ok (.iconst 1, 1) := by decide +kernel
theorem d_K_remove_31 : decode b_K_remove 31 = .ok (.iadd, 1) := by decide +kernel
theorem d_K_remove_32 : decode b_K_remove 32 = .ok (.aload_n 0, 1) := by decide +kernel
theorem d_K_remove_33 : decode b_K_remove 33 = .ok (.getfield 11, 3) := by decide +kernel
theorem d_K_remove_36 : decode b_K_remove 36 = .ok (.iload_n 2, 1) := by decide +kernel
theorem d_K_remove_37 : decode b_K_remove 37 = .ok (.aload_n 0, 1) := by decide +kernel
theorem d_K_remove_38 : decode b_K_remove 38 = .ok (.getfield 34, 3) := by decide +kernel
theorem d_K_remove_41 : decode b_K_remove 41 = .ok (.iload_n 2, 1) := by decide +kernel
theorem d_K_remove_42 : decode b_K_remove 42 = .ok (.isub, 1) := by decide +kernel
theorem d_K_remove_43 : decode b_K_remove 43 = .ok (.invokestatic 42, 3) := by decide +kernel
theorem d_K_remove_46 : decode b_K_remove 46 = .ok (.aload_n 0, 1) := by decide +kernel
theorem d_K_remove_47 : decode b_K_remove 47 = .ok (.getfield 15, 3) := by decide +kernel
theorem d_K_remove_50 : decode b_K_remove 50 = .ok (.iload_n 2, 1) := by decide +kernel
theorem d_K_remove_51 : decode b_K_remove 51 = .ok (.iconst 1, 1) := by decide +kernel
theorem d_K_remove_52 : decode b_K_remove 52 = .ok (.iadd, 1) := by decide +kernel
theorem d_K_remove_53 : decode b_K_remove 53 = .ok (.aload_n 0, 1) := by decide +kernel
theorem d_K_remove_54 : decode b_K_remove 54 = .ok (.getfield 15, 3) := by decide +kernel
theorem d_K_remove_57 : decode b_K_remove 57 = .ok (.iload_n 2, 1) := by decide +kernel
theorem d_K_remove_58 : decode b_K_remove 58 = .ok (.aload_n 0, 1) := by decide +kernel
theorem d_K_remove_59 : decode b_K_remove 59 = .ok (.getfield 34, 3) := by decide +kernel
theorem d_K_remove_62 : decode b_K_remove 62 = .ok (.iload_n 2, 1) := by decide +kernel
theorem d_K_remove_63 : decode b_K_remove 63 = .ok (.isub, 1) := by decide +kernel
theorem d_K_remove_64 : decode b_K_remove 64 = .ok (.invokestatic 42, 3) := by decide +kernel
theorem d_K_remove_67 : decode b_K_remove 67 = .ok (.aload_n 0, 1) := by decide +kernel
theorem d_K_remove_68 : decode b_K_remove 68 = .ok (.getfield 22, 3) := by decide +kernel
theorem d_K_remove_71 : decode b_K_remove 71 = .ok (.iload_n 1, 1) := by decide +kernel
theorem d_K_remove_72 : decode b_K_remove 72 = .ok (.invokestatic 48, 3) := by decide +kernel
theorem d_K_remove_75 : decode b_K_remove 75 = .ok (.iconst (-1), 1) := by decide +kernel
theorem d_K_remove_76 : decode b_K_remove 76 = .ok (.invokevirtual 51, 3) := by decide +kernel
theorem d_K_remove_79 : decode b_K_remove 79 = .ok (.return_, 1) := by decide +kernel
theorem d_K_bucketPagesUpTo_0 : decode b_K_bucketPagesUpTo 0 = .ok (.aload_n 0, 1) := by decide +kernel
theorem d_K_bucketPagesUpTo_1 : decode b_K_bucketPagesUpTo 1 = .ok (.getfield 22, 3) := by decide +kernel
theorem d_K_bucketPagesUpTo_4 : decode b_K_bucketPagesUpTo 4 = .ok (.iload_n 1, 1) := by decide +kernel
theorem d_K_bucketPagesUpTo_5 : decode b_K_bucketPagesUpTo 5 = .ok (.invokestatic 48, 3) := by decide +kernel
theorem d_K_bucketPagesUpTo_8 : decode b_K_bucketPagesUpTo 8 = .ok (.invokevirtual 76, 3) := by decide +kernel
theorem d_K_bucketPagesUpTo_11 : decode b_K_bucketPagesUpTo 11 = .ok (.istore_n 2, 1) := by decide +kernel
theorem d_K_bucketPagesUpTo_12 : decode b_K_bucketPagesUpTo 12 = .ok (.iload_n 1, 1) := by decide +kernel
theorem d_K_bucketPagesUpTo_13 : decode b_K_bucketPagesUpTo 13 = .ok (.invokestatic 48, 3) := by decide +kernel
theorem d_K_bucketPagesUpTo_16 : decode b_K_bucketPagesUpTo 16 = .ok (.iload_n 2, 1) := by decide +kernel
theorem d_K_bucketPagesUpTo_17 : decode b_K_bucketPagesUpTo 17 = .ok (.iand, 1) := by decide +kernel
theorem d_K_bucketPagesUpTo_18 : decode b_K_bucketPagesUpTo 18 = .ok (.istore_n 3, 1) := by decide +kernel
theorem d_K_bucketPagesUpTo_19 : decode b_K_bucketPagesUpTo 19 = .ok (.iconst 0, 1) := by decide +kernel
theorem d_K_bucketPagesUpTo_20 : decode b_K_bucketPagesUpTo 20 = .ok (.istore 4, 2) := by decide +kernel
theorem d_K_bucketPagesUpTo_22 : decode b_K_bucketPagesUpTo 22 = .ok (.iconst 0, 1) := by decide +kernel
theorem d_K_bucketPagesUpTo_23 : decode b_K_bucketPagesUpTo 23 = .ok (.istore 5, 2) := by decide +kernel
theorem d_K_bucketPagesUpTo_25 : decode b_K_bucketPagesUpTo 25 = .ok (.iload 5, 2) := by decide +kernel
theorem d_K_bucketPagesUpTo_27 : decode b_K_bucketPagesUpTo 27 = .ok (.aload_n 0, 1) := by decide +kernel
theorem d_K_bucketPagesUpTo_28 : decode b_K_bucketPagesUpTo 28 = .ok (.getfield 34, 3) := by decide +kernel
theorem d_K_bucketPagesUpTo_31 : decode b_K_bucketPagesUpTo 31 = .ok (.if_icmp .ge 39, 3) := by decide +kernel
theorem d_K_bucketPagesUpTo_34 : decode b_K_bucketPagesUpTo 34 = .ok (.aload_n 0, 1) := by decide +kernel
theorem d_K_bucketPagesUpTo_35 : decode b_K_bucketPagesUpTo 35 = .ok (.getfield 11, 3) := by decide +kernel
theorem d_K_bucketPagesUpTo_38 : decode b_K_bucketPagesUpTo 38 = .ok (.iload 5, 2) := by decide +kernel
theorem d_K_bucketPagesUpTo_40 : decode b_K_bucketPagesUpTo 40 = .ok (.iaload, 1) := by decide +kernel
theorem d_K_bucketPagesUpTo_41 : decode b_K_bucketPagesUpTo 41 = .ok (.iload_n 1, 1) := by decide +kernel
theorem d_K_bucketPagesUpTo_42 : decode b_K_bucketPagesUpTo 42 = .ok (.if_icmp .ge 28, 3) := by decide +kernel
theorem d_K_bucketPagesUpTo_45 : decode b_K_bucketPagesUpTo 45 = .ok (.aload_n 0, 1) := by decide +kernel
theorem d_K_bucketPagesUpTo_46 : decode b_K_bucketPagesUpTo 46 = .ok (.getfield 11, 3) := by decide +kernel
theorem d_K_bucketPagesUpTo_49 : decode b_K_bucketPagesUpTo 49 = .ok (.iload 5, 2) := by decide +kernel
theorem d_K_bucketPagesUpTo_51 : decode b_K_bucketPagesUpTo 51 = .ok (.iaload, 1) := by decide +kernel
theorem d_K_bucketPagesUpTo_52 : decode b_K_bucketPagesUpTo 52 = .ok (.invokestatic 48, 3) := by decide +kernel
theorem d_K_bucketPagesUpTo_55 : decode b_K_bucketPagesUpTo 55 = .ok (.iload_n 2, 1) := by decide +kernel
theorem d_K_bucketPagesUpTo_56 : decode b_K_bucketPagesUpTo 56 = .ok (.iand, 1) := by decide +kernel
theorem d_K_bucketPagesUpTo_57 : decode b_K_bucketPagesUpTo 57 = .ok (.iload_n 3, 1) := by decide +kernel
theorem d_K_bucketPagesUpTo_58 : decode b_K_bucketPagesUpTo 58 = .ok (.if_icmp .ne 6, 3) := by decide +kernel
theorem d_K_bucketPagesUpTo_61 : decode b_K_bucketPagesUpTo 61 = .ok (.iinc 4 1, 3) := by decide +kernel
theorem d_K_bucketPagesUpTo_64 : decode b_K_bucketPagesUpTo 64 = .ok (.iinc 5 1, 3) := by decide +kernel
theorem d_K_bucketPagesUpTo_67 : decode b_K_bucketPagesUpTo 67 = .ok (.goto (-42), 3) := by decide +kernel
theorem d_K_bucketPagesUpTo_70 : decode b_K_bucketPagesUpTo 70 = .ok (.iconst 0, 1) := by decide +kernel
theorem d_K_bucketPagesUpTo_71 : decode b_K_bucketPagesUpTo 71 = .ok (.aload_n 0, 1) := by decide +kernel
theorem d_K_bucketPagesUpTo_72 : decode b_K_bucketPagesUpTo 72 = .ok (.getfield 22, 3) := by decide +kernel
theorem d_K_bucketPagesUpTo_75 : decode b_K_bucketPagesUpTo 75 = .ok (.iload_n 3, 1) := by decide +kernel
theorem d_K_bucketPagesUpTo_76 : decode b_K_bucketPagesUpTo 76 = .ok (.invokevirtual 66, 3) := by decide +kernel
theorem d_K_bucketPagesUpTo_79 : decode b_K_bucketPagesUpTo 79 = .ok (.iconst 1, 1) := by decide +kernel
theorem d_K_bucketPagesUpTo_80 : decode b_K_bucketPagesUpTo 80 = .ok (.isub, 1) := by decide +kernel
theorem d_K_bucketPagesUpTo_81 : decode b_K_bucketPagesUpTo 81 = .ok (.invokestatic 79, 3) := by decide +kernel
theorem d_K_bucketPagesUpTo_84 : decode b_K_bucketPagesUpTo 84 = .ok (.istore 5, 2) := by decide +kernel
theorem d_K_bucketPagesUpTo_86 : decode b_K_bucketPagesUpTo 86 = .ok (.iload 4, 2) := by decide +kernel
theorem d_K_bucketPagesUpTo_88 : decode b_K_bucketPagesUpTo 88 = .ok (.iload 5, 2) := by decide +kernel
theorem d_K_bucketPagesUpTo_90 : decode b_K_bucketPagesUpTo 90 = .ok (.invokestatic 85, 3) := by decide +kernel
theorem d_K_bucketPagesUpTo_93 : decode b_K_bucketPagesUpTo 93 = .ok (.iconst 4, 1) := by decide +kernel
theorem d_K_bucketPagesUpTo_94 : decode b_K_bucketPagesUpTo 94 = .ok (.idiv, 1) := by decide +kernel
theorem d_K_bucketPagesUpTo_95 : decode b_K_bucketPagesUpTo 95 = .ok (.iconst 1, 1) := by decide +kernel
theorem d_K_bucketPagesUpTo_96 : decode b_K_bucketPagesUpTo 96 = .ok (.iadd, 1) := by decide +kernel
theorem d_K_bucketPagesUpTo_97 : decode b_K_bucketPagesUpTo 97 = .ok (.ireturn, 1) := by decide +kernel
theorem d_K_keyInPlaceOrder_0 : decode b_K_keyInPlaceOrder 0 = .ok (.iload_n 1, 1) := by decide +kernel
theorem d_K_keyInPlaceOrder_1 : decode b_K_keyInPlaceOrder 1 = .ok (.ifCond .lt 11, 3) := by decide +kernel
theorem d_K_keyInPlaceOrder_4 : decode b_K_keyInPlaceOrder 4 = .ok (.iload_n 1, 1) := by decide +kernel
theorem d_K_keyInPlaceOrder_5 : decode b_K_keyInPlaceOrder 5 = .ok (.aload_n 0, 1) := by decide +kernel
theorem d_K_keyInPlaceOrder_6 : decode b_K_keyInPlaceOrder 6 = .ok (.getfield 34, 3) := by decide +kernel
theorem d_K_keyInPlaceOrder_9 : decode b_K_keyInPlaceOrder 9 = .ok (.if_icmp .lt 5, 3) := by decide +kernel
theorem d_K_keyInPlaceOrder_12 : decode b_K_keyInPlaceOrder 12 = .ok (.iconst 0, 1) := by decide +kernel
theorem d_K_keyInPlaceOrder_13 : decode b_K_keyInPlaceOrder 13 = .ok (.ireturn, 1) := by decide +kernel
theorem d_K_keyInPlaceOrder_14 : decode b_K_keyInPlaceOrder 14 = .ok (.iload_n 1, 1) := by decide +kernel
theorem d_K_keyInPlaceOrder_15 : decode b_K_keyInPlaceOrder 15 = .ok (.istore_n 2, 1) := by decide +kernel
theorem d_K_keyInPlaceOrder_16 : decode b_K_keyInPlaceOrder 16 = .ok (.iconst 0, 1) := by decide +kernel
theorem d_K_keyInPlaceOrder_17 : decode b_K_keyInPlaceOrder 17 = .ok (.istore_n 3, 1) := by decide +kernel
theorem d_K_keyInPlaceOrder_18 : decode b_K_keyInPlaceOrder 18 = .ok (.iload_n 3, 1) := by decide +kernel
theorem d_K_keyInPlaceOrder_19 : decode b_K_keyInPlaceOrder 19 = .ok (.bipush 64, 2) := by decide +kernel
theorem d_K_keyInPlaceOrder_21 : decode b_K_keyInPlaceOrder 21 = .ok (.if_icmp .ge 48, 3) := by decide +kernel
theorem d_K_keyInPlaceOrder_24 : decode b_K_keyInPlaceOrder 24 = .ok (.aload_n 0, 1) := by decide +kernel
theorem d_K_keyInPlaceOrder_25 : decode b_K_keyInPlaceOrder 25 = .ok (.getfield 22, 3) := by decide +kernel
theorem d_K_keyInPlaceOrder_28 : decode b_K_keyInPlaceOrder 28 = .ok (.iload_n 3, 1) := by decide +kernel
theorem d_K_keyInPlaceOrder_29 : decode b_K_keyInPlaceOrder 29 = .ok (.invokevirtual 62, 3) := by decide +kernel
theorem d_K_keyInPlaceOrder_32 : decode b_K_keyInPlaceOrder 32 = .ok (.ifCond .eq 31, 3) := by decide +kernel
theorem d_K_keyInPlaceOrder_35 : decode b_K_keyInPlaceOrder 35 = .ok (.aload_n 0, 1) := by decide +kernel
theorem d_K_keyInPlaceOrder_36 : decode b_K_keyInPlaceOrder 36 = .ok (.getfield 22, 3) := by decide +kernel
theorem d_K_keyInPlaceOrder_39 : decode b_K_keyInPlaceOrder 39 = .ok (.iload_n 3, 1) := by decide +kernel
theorem d_K_keyInPlaceOrder_40 : decode b_K_keyInPlaceOrder 40 = .ok (.invokevirtual 66, 3) := by decide +kernel
theorem d_K_keyInPlaceOrder_43 : decode b_K_keyInPlaceOrder 43 = .ok (.istore 4, 2) := by decide +kernel
theorem d_K_keyInPlaceOrder_45 : decode b_K_keyInPlaceOrder 45 = .ok (.iload_n 2, 1) := by decide +kernel
theorem d_K_keyInPlaceOrder_46 : decode b_K_keyInPlaceOrder 46 = .ok (.iload 4, 2) := by decide +kernel
theorem d_K_keyInPlaceOrder_48 : decode b_K_keyInPlaceOrder 48 = .ok (.if_icmp .ge 10, 3) := by decide +kernel
theorem d_K_keyInPlaceOrder_51 : decode b_K_keyInPlaceOrder 51 = .ok (.aload_n 0, 1) := by decide +kernel
theorem d_K_keyInPlaceOrder_52 : decode b_K_keyInPlaceOrder 52 = .ok (.iload_n 3, 1) := by decide +kernel
theorem d_K_keyInPlaceOrder_53 : decode b_K_keyInPlaceOrder 53 = .ok (.iload_n 2, 1) := by decide +kernel
theorem d_K_keyInPlaceOrder_54 : decode b_K_keyInPlaceOrder 54 = .ok (.invokevirtual 88, 3) := by decide +kernel
theorem d_K_keyInPlaceOrder_57 : decode b_K_keyInPlaceOrder 57 = .ok (.ireturn, 1) := by decide +kernel
theorem d_K_keyInPlaceOrder_58 : decode b_K_keyInPlaceOrder 58 = .ok (.iload_n 2, 1) := by decide +kernel
theorem d_K_keyInPlaceOrder_59 : decode b_K_keyInPlaceOrder 59 = .ok (.iload 4, 2) := by decide +kernel
theorem d_K_keyInPlaceOrder_61 : decode b_K_keyInPlaceOrder 61 = .ok (.isub, 1) := by decide +kernel
theorem d_K_keyInPlaceOrder_62 : decode b_K_keyInPlaceOrder 62 = .ok (.istore_n 2, 1) := by decide +kernel
theorem d_K_keyInPlaceOrder_63 : decode b_K_keyInPlaceOrder 63 = .ok (.iinc 3 1, 3) := by decide +kernel
theorem d_K_keyInPlaceOrder_66 : decode b_K_keyInPlaceOrder 66 = .ok (.goto (-48), 3) := by decide +kernel
theorem d_K_keyInPlaceOrder_69 : decode b_K_keyInPlaceOrder 69 = .ok (.iconst 0, 1) := by decide +kernel
theorem d_K_keyInPlaceOrder_70 : decode b_K_keyInPlaceOrder 70 = .ok (.ireturn, 1) := by decide +kernel
theorem d_K_keyInBucket_0 : decode b_K_keyInBucket 0 = .ok (.aload_n 0, 1) := by decide +kernel
theorem d_K_keyInBucket_1 : decode b_K_keyInBucket 1 = .ok (.getfield 22, 3) := by decide +kernel
theorem d_K_keyInBucket_4 : decode b_K_keyInBucket 4 = .ok (.iload_n 1, 1) := by decide +kernel
theorem d_K_keyInBucket_5 : decode b_K_keyInBucket 5 = .ok (.invokevirtual 76, 3) := by decide +kernel
theorem d_K_keyInBucket_8 : decode b_K_keyInBucket 8 = .ok (.istore_n 3, 1) := by decide +kernel
theorem d_K_keyInBucket_9 : decode b_K_keyInBucket 9 = .ok (.iload_n 2, 1) := by decide +kernel
theorem d_K_keyInBucket_10 : decode b_K_keyInBucket 10 = .ok (.istore 4, 2) := by decide +kernel
theorem d_K_keyInBucket_12 : decode b_K_keyInBucket 12 = .ok (.iconst 0, 1) := by decide +kernel
theorem d_K_keyInBucket_13 : decode b_K_keyInBucket 13 = .ok (.istore 5, 2) := by decide +kernel
theorem d_K_keyInBucket_15 : decode b_K_keyInBucket 15 = .ok (.iload 5, 2) := by decide +kernel
theorem d_K_keyInBucket_17 : decode b_K_keyInBucket 17 = .ok (.aload_n 0, 1) := by decide +kernel
theorem d_K_keyInBucket_18 : decode b_K_keyInBucket 18 = .ok (.getfield 34, 3) := by decide +kernel
theorem d_K_keyInBucket_21 : decode b_K_keyInBucket 21 = .ok (.if_icmp .ge 41, 3) := by decide +kernel
theorem d_K_keyInBucket_24 : decode b_K_keyInBucket 24 = .ok (.aload_n 0, 1) := by decide +kernel
theorem d_K_keyInBucket_25 : decode b_K_keyInBucket 25 = .ok (.getfield 11, 3) := by decide +kernel
theorem d_K_keyInBucket_28 : decode b_K_keyInBucket 28 = .ok (.iload 5, 2) := by decide +kernel
theorem d_K_keyInBucket_30 : decode b_K_keyInBucket 30 = .ok (.iaload, 1) := by decide +kernel
theorem d_K_keyInBucket_31 : decode b_K_keyInBucket 31 = .ok (.invokestatic 48, 3) := by decide +kernel
theorem d_K_keyInBucket_34 : decode b_K_keyInBucket 34 = .ok (.iload_n 3, 1) := by decide +kernel
theorem d_K_keyInBucket_35 : decode b_K_keyInBucket 35 = .ok (.iand, 1) := by decide +kernel
theorem d_K_keyInBucket_36 : decode b_K_keyInBucket 36 = .ok (.iload_n 1, 1) := by decide +kernel
theorem d_K_keyInBucket_37 : decode b_K_keyInBucket 37 = .ok (.if_icmp .ne 19, 3) := by decide +kernel
theorem d_K_keyInBucket_40 : decode b_K_keyInBucket 40 = .ok (.iload 4, 2) := by decide +kernel
theorem d_K_keyInBucket_42 : decode b_K_keyInBucket 42 = .ok (.ifCond .ne 11, 3) := by decide +kernel
theorem d_K_keyInBucket_45 : decode b_K_keyInBucket 45 = .ok (.aload_n 0, 1) := by decide +kernel
theorem d_K_keyInBucket_46 : decode b_K_keyInBucket 46 = .ok (.getfield 11, 3) := by decide +kernel
theorem d_K_keyInBucket_49 : decode b_K_keyInBucket 49 = .ok (.iload 5, 2) := by decide +kernel
theorem d_K_keyInBucket_51 : decode b_K_keyInBucket 51 = .ok (.iaload, 1) := by decide +kernel
theorem d_K_keyInBucket_52 : decode b_K_keyInBucket 52 = .ok (.ireturn, 1) := by decide +kernel
theorem d_K_keyInBucket_53 : decode b_K_keyInBucket 53 = .ok (.iinc 4 (-1), 3) := by decide +kernel
theorem d_K_keyInBucket_56 : decode b_K_keyInBucket 56 = .ok (.iinc 5 1, 3) := by decide +kernel
theorem d_K_keyInBucket_59 : decode b_K_keyInBucket 59 = .ok (.goto (-44), 3) := by decide +kernel
theorem d_K_keyInBucket_62 : decode b_K_keyInBucket 62 = .ok (.iconst 0, 1) := by decide +kernel
theorem d_K_keyInBucket_63 : decode b_K_keyInBucket 63 = .ok (.ireturn, 1) := by decide +kernel
theorem d_R_init_0 : decode b_R_init 0 = .ok (.aload_n 0, 1) := by decide +kernel
theorem d_R_init_1 : decode b_R_init 1 = .ok (.invokespecial 3, 3) := by decide +kernel
theorem d_R_init_4 : decode b_R_init 4 = .ok (.aload_n 0, 1) := by decide +kernel
theorem d_R_init_5 : decode b_R_init 5 = .ok (.bipush 70, 2) := by decide +kernel
theorem d_R_init_7 : decode b_R_init 7 = .ok (.newarray .int, 2) := by decide +kernel
theorem d_R_init_9 : decode b_R_init 9 = .ok (.putfield 11, 3) := by decide +kernel
theorem d_R_init_12 : decode b_R_init 12 = .ok (.aload_n 0, 1) := by decide +kernel
theorem d_R_init_13 : decode b_R_init 13 = .ok (.bipush 70, 2) := by decide +kernel
theorem d_R_init_15 : decode b_R_init 15 = .ok (.newarray .long, 2) := by decide +kernel
theorem d_R_init_17 : decode b_R_init 17 = .ok (.putfield 15, 3) := by decide +kernel
theorem d_R_init_20 : decode b_R_init 20 = .ok (.aload_n 0, 1) := by decide +kernel
theorem d_R_init_21 : decode b_R_init 21 = .ok (.bipush 70, 2) := by decide +kernel
theorem d_R_init_23 : decode b_R_init 23 = .ok (.newarray .int, 2) := by decide +kernel
theorem d_R_init_25 : decode b_R_init 25 = .ok (.putfield 19, 3) := by decide +kernel
theorem d_R_init_28 : decode b_R_init 28 = .ok (.aload_n 0, 1) := by decide +kernel
theorem d_R_init_29 : decode b_R_init 29 = .ok (.bipush 70, 2) := by decide +kernel
theorem d_R_init_31 : decode b_R_init 31 = .ok (.newarray .int, 2) := by decide +kernel
theorem d_R_init_33 : decode b_R_init 33 = .ok (.putfield 22, 3) := by decide +kernel
theorem d_R_init_36 : decode b_R_init 36 = .ok (.return_, 1) := by decide +kernel
theorem d_R_write_0 : decode b_R_write 0 = .ok (.aload_n 0, 1) := by decide +kernel
theorem d_R_write_1 : decode b_R_write 1 = .ok (.iload_n 1, 1) := by decide +kernel
theorem d_R_write_2 : decode b_R_write 2 = .ok (.lload_n 3, 1) := by decide +kernel
theorem d_R_write_3 : decode b_R_write 3 = .ok (.iload_n 2, 1) := by decide +kernel
theorem d_R_write_4 : decode b_R_write 4 = .ok (.ifCond .eq 7, 3) := by decide +kernel
theorem d_R_write_7 : decode b_R_write 7 = .ok (.iconst 2, 1) := by decide +kernel
theorem d_R_write_8 : decode b_R_write 8 = .ok (.goto 4, 3) := by decide +kernel
theorem d_R_write_11 : decode b_R_write 11 = .ok (.iconst 1, 1) := by decide +kernel
theorem d_R_write_12 : decode b_R_write 12 = .ok (.invokevirtual 25, 3) := by decide +kernel
theorem d_R_write_15 : decode b_R_write 15 = .ok (.return_, 1) := by decide +kernel
theorem d_R_append_0 : decode b_R_append 0 = .ok (.aload_n 0, 1) := by decide +kernel
theorem d_R_append_1 : decode b_R_append 1 = .ok (.getfield 29, 3) := by decide +kernel
theorem d_R_append_4 : decode b_R_append 4 = .ok (.bipush 70, 2) := by decide +kernel
theorem d_R_append_6 : decode b_R_append 6 = .ok (.if_icmp .ge 57, 3) := by decide +kernel
theorem d_R_append_9 : decode b_R_append 9 = .ok (.aload_n 0, 1) := by decide +kernel
theorem d_R_append_10 : decode b_R_append 10 = .ok (.getfield 11, 3) := by decide +kernel
theorem d_R_append_13 : decode b_R_append 13 = .ok (.aload_n 0, 1) := by decide +kernel
theorem d_R_append_14 : decode b_R_append 14 = .ok (.getfield 29, 3) := by decide +kernel
theorem d_R_append_17 : decode b_R_append 17 = .ok (.iload_n 1, 1) := by decide +kernel
theorem d_R_append_18 : decode b_R_append 18 = .ok (.iastore, 1) := by decide +kernel
theorem d_R_append_19 : decode b_R_append 19 = .ok (.aload_n 0, 1) := by decide +kernel
theorem d_R_append_20 : decode b_R_append 20 = .ok (.getfield 15, 3) := by decide +kernel
theorem d_R_append_23 : decode b_R_append 23 = .ok (.aload_n 0, 1) := by decide +kernel
theorem d_R_append_24 : decode b_R_append 24 = .ok (.getfield 29, 3) := by decide +kernel
theorem d_R_append_27 : decode b_R_append 27 = .ok (.lload_n 2, 1) := by decide +kernel
theorem d_R_append_28 : decode b_R_append 28 = .ok (.lastore, 1) := by decide +kernel
theorem d_R_append_29 : decode b_R_append 29 = .ok (.aload_n 0, 1) := by decide +kernel
theorem d_R_append_30 : decode b_R_append 30 = .ok (.getfield 19, 3) := by decide +kernel
theorem d_R_append_33 : decode b_R_append 33 = .ok (.aload_n 0, 1) := by decide +kernel
theorem d_R_append_34 : decode b_R_append 34 = .ok (.getfield 29, 3) := by decide +kernel
theorem d_R_append_37 : decode b_R_append 37 = .ok (.iload 4, 2) := by decide +kernel
theorem d_R_append_39 : decode b_R_append 39 = .ok (.iastore, 1) := by decide +kernel
theorem d_R_append_40 : decode b_R_append 40 = .ok (.aload_n 0, 1) := by decide +kernel
theorem d_R_append_41 : decode b_R_append 41 = .ok (.getfield 22, 3) := by decide +kernel
theorem d_R_append_44 : decode b_R_append 44 = .ok (.aload_n 0, 1) := by decide +kernel
theorem d_R_append_45 : decode b_R_append 45 = .ok (.getfield 29, 3) := by decide +kernel
theorem d_R_append_48 : decode b_R_append 48 = .ok (.aload_n 0, 1) := by decide +kernel
theorem d_R_append_49 : decode b_R_append 49 = .ok (.getfield 29, 3) := by decide +kernel
theorem d_R_append_52 : decode b_R_append 52 = .ok (.iastore, 1) := by decide +kernel
theorem d_R_append_53 : decode b_R_append 53 = .ok (.aload_n 0, 1) := by decide +kernel
theorem d_R_append_54 : decode b_R_append 54 = .ok (.dup, 1) := by decide +kernel
theorem d_R_append_55 : decode b_R_append 55 = .ok (.getfield 29, 3) := by decide +kernel
theorem d_R_append_58 : decode b_R_append 58 = .ok (.iconst 1, 1) := by decide +kernel
theorem d_R_append_59 : decode b_R_append 59 = .ok (.iadd, 1) := by decide +kernel
theorem d_R_append_60 : decode b_R_append 60 = .ok (.putfield 29, 3) := by decide +kernel
theorem d_R_append_63 : decode b_R_append 63 = .ok (.return_, 1) := by decide +kernel
theorem d_R_forgetFrom_0 : decode b_R_forgetFrom 0 = .ok (.aload_n 0, 1) := by decide +kernel
theorem d_R_forgetFrom_1 : decode b_R_forgetFrom 1 = .ok (.aload_n 0, 1) := by decide +kernel
theorem d_R_forgetFrom_2 : decode b_R_forgetFrom 2 = .ok (.getfield 29, 3) := by decide +kernel
theorem d_R_forgetFrom_5 : decode b_R_forgetFrom 5 = .ok (.iload_n 1, 1) := by decide +kernel
theorem d_R_forgetFrom_6 : decode b_R_forgetFrom 6 = .ok (.invokestatic 33, 3) := by decide +kernel
theorem d_R_forgetFrom_9 : decode b_R_forgetFrom 9 = .ok (.putfield 29, 3) := by decide +kernel
theorem d_R_forgetFrom_12 : decode b_R_forgetFrom 12 = .ok (.return_, 1) := by decide +kernel
theorem d_R_settle_0 : decode b_R_settle 0 = .ok (.aload_n 0, 1) := by decide +kernel
theorem d_R_settle_1 : decode b_R_settle 1 = .ok (.getfield 29, 3) := by decide +kernel
theorem d_R_settle_4 : decode b_R_settle 4 = .ok (.bipush 64, 2) := by decide +kernel
theorem d_R_settle_6 : decode b_R_settle 6 = .ok (.if_icmp .gt 4, 3) := by decide +kernel
theorem d_R_settle_9 : decode b_R_settle 9 = .ok (.return_, 1) := by decide +kernel
theorem d_R_settle_10 : decode b_R_settle 10 = .ok (.aload_n 0, 1) := by decide +kernel
theorem d_R_settle_11 : decode b_R_settle 11 = .ok (.getfield 29, 3) := by decide +kernel
theorem d_R_settle_14 : decode b_R_settle 14 = .ok (.iload_n 1, 1) := by decide +kernel
theorem d_R_settle_15 : decode b_R_settle 15 = .ok (.isub, 1) := by decide +kernel
theorem d_R_settle_16 : decode b_R_settle 16 = .ok (.istore_n 2, 1) := by decide +kernel
theorem d_R_settle_17 : decode b_R_settle 17 = .ok (.iconst 0, 1) := by decide +kernel
theorem d_R_settle_18 : decode b_R_settle 18 = .ok (.istore_n 3, 1) := by decide +kernel
theorem d_R_settle_19 : decode b_R_settle 19 = .ok (.iload_n 3, 1) := by decide +kernel
theorem d_R_settle_20 : decode b_R_settle 20 = .ok (.iload_n 2, 1) := by decide +kernel
theorem d_R_settle_21 : decode b_R_settle 21 = .ok (.if_icmp .ge 67, 3) := by decide +kernel
theorem d_R_settle_24 : decode b_R_settle 24 = .ok (.aload_n 0, 1) := by decide +kernel
theorem d_R_settle_25 : decode b_R_settle 25 = .ok (.getfield 11, 3) := by decide +kernel
theorem d_R_settle_28 : decode b_R_settle 28 = .ok (.iload_n 3, 1) := by decide +kernel
theorem d_R_settle_29 : decode b_R_settle 29 = .ok (.aload_n 0, 1) := by decide +kernel
theorem d_R_settle_30 : decode b_R_settle 30 = .ok (.getfield 11, 3) := by decide +kernel
theorem d_R_settle_33 : decode b_R_settle 33 = .ok (.iload_n 1, 1) := by decide +kernel
theorem d_R_settle_34 : decode b_R_settle 34 = .ok (.iload_n 3, 1) := by decide +kernel
theorem d_R_settle_35 : decode b_R_settle 35 = .ok (.iadd, 1) := by decide +kernel
theorem d_R_settle_36 : decode b_R_settle 36 = .ok (.iaload, 1) := by decide +kernel
theorem d_R_settle_37 : decode b_R_settle 37 = .ok (.iastore, 1) := by decide +kernel
theorem d_R_settle_38 : decode b_R_settle 38 = .ok (.aload_n 0, 1) := by decide +kernel
theorem d_R_settle_39 : decode b_R_settle 39 = .ok (.getfield 15, 3) := by decide +kernel
theorem d_R_settle_42 : decode b_R_settle 42 = .ok (.iload_n 3, 1) := by decide +kernel
theorem d_R_settle_43 : decode b_R_settle 43 = .ok (.aload_n 0, 1) := by decide +kernel
theorem d_R_settle_44 : decode b_R_settle 44 = .ok (.getfield 15, 3) := by decide +kernel
theorem d_R_settle_47 : decode b_R_settle 47 = .ok (.iload_n 1, 1) := by decide +kernel
theorem d_R_settle_48 : decode b_R_settle 48 = .ok (.iload_n 3, 1) := by decide +kernel
theorem d_R_settle_49 : decode b_R_settle 49 = .ok (.iadd, 1) := by decide +kernel
theorem d_R_settle_50 : decode b_R_settle 50 = .ok (.laload, 1) := by decide +kernel
theorem d_R_settle_51 : decode b_R_settle 51 = .ok (.lastore, 1) := by decide +kernel
theorem d_R_settle_52 : decode b_R_settle 52 = .ok (.aload_n 0, 1) := by decide +kernel
theorem d_R_settle_53 : decode b_R_settle 53 = .ok (.getfield 19, 3) := by decide +kernel
theorem d_R_settle_56 : decode b_R_settle 56 = .ok (.iload_n 3, 1) := by decide +kernel
theorem d_R_settle_57 : decode b_R_settle 57 = .ok (.aload_n 0, 1) := by decide +kernel
theorem d_R_settle_58 : decode b_R_settle 58 = .ok (.getfield 19, 3) := by decide +kernel
theorem d_R_settle_61 : decode b_R_settle 61 = .ok (.iload_n 1, 1) := by decide +kernel
theorem d_R_settle_62 : decode b_R_settle 62 = .ok (.iload_n 3, 1) := by decide +kernel
theorem d_R_settle_63 : decode b_R_settle 63 = .ok (.iadd, 1) := by decide +kernel
theorem d_R_settle_64 : decode b_R_settle 64 = .ok (.iaload, 1) := by decide +kernel
theorem d_R_settle_65 : decode b_R_settle 65 = .ok (.iastore, 1) := by decide +kernel
theorem d_R_settle_66 : decode b_R_settle 66 = .ok (.aload_n 0, 1) := by decide +kernel
theorem d_R_settle_67 : decode b_R_settle 67 = .ok (.getfield 22, 3) := by decide +kernel
theorem d_R_settle_70 : decode b_R_settle 70 = .ok (.iload_n 3, 1) := by decide +kernel
theorem d_R_settle_71 : decode b_R_settle 71 = .ok (.aload_n 0, 1) := by decide +kernel
theorem d_R_settle_72 : decode b_R_settle 72 = .ok (.getfield 22, 3) := by decide +kernel
theorem d_R_settle_75 : decode b_R_settle 75 = .ok (.iload_n 1, 1) := by decide +kernel
theorem d_R_settle_76 : decode b_R_settle 76 = .ok (.iload_n 3, 1) := by decide +kernel
theorem d_R_settle_77 : decode b_R_settle 77 = .ok (.iadd, 1) := by decide +kernel
theorem d_R_settle_78 : decode b_R_settle 78 = .ok (.iaload, 1) := by decide +kernel
theorem d_R_settle_79 : decode b_R_settle 79 = .ok (.iload_n 1, 1) := by decide +kernel
theorem d_R_settle_80 : decode b_R_settle 80 = .ok (.isub, 1) := by decide +kernel
theorem d_R_settle_81 : decode b_R_settle 81 = .ok (.iastore, 1) := by decide +kernel
theorem d_R_settle_82 : decode b_R_settle 82 = .ok (.iinc 3 1, 3) := by decide +kernel
theorem d_R_settle_85 : decode b_R_settle 85 = .ok (.goto (-66), 3) := by decide +kernel
theorem d_R_settle_88 : decode b_R_settle 88 = .ok (.aload_n 0, 1) := by decide +kernel
theorem d_R_settle_89 : decode b_R_settle 89 = .ok (.iload_n 2, 1) := by decide +kernel
theorem d_R_settle_90 : decode b_R_settle 90 = .ok (.putfield 29, 3) := by decide +kernel
theorem d_R_settle_93 : decode b_R_settle 93 = .ok (.return_, 1) := by decide +kernel
theorem d_R_closeBatch_0 : decode b_R_closeBatch 0 = .ok (.aload_n 0, 1) := by decide +kernel
theorem d_R_closeBatch_1 : decode b_R_closeBatch 1 = .ok (.iconst 0, 1) := by decide +kernel
theorem d_R_closeBatch_2 : decode b_R_closeBatch 2 = .ok (.lconst 0, 1) := by decide +kernel
theorem d_R_closeBatch_3 : decode b_R_closeBatch 3 = .ok (.iconst 0, 1) := by decide +kernel
theorem d_R_closeBatch_4 : decode b_R_closeBatch 4 = .ok (.invokevirtual 25, 3) := by decide +kernel
theorem d_R_closeBatch_7 : decode b_R_closeBatch 7 = .ok (.iload_n 1, 1) := by decide +kernel
theorem d_R_closeBatch_8 : decode b_R_closeBatch 8 = .ok (.istore_n 2, 1) := by decide +kernel
theorem d_R_closeBatch_9 : decode b_R_closeBatch 9 = .ok (.iload_n 2, 1) := by decide +kernel
theorem d_R_closeBatch_10 : decode b_R_closeBatch 10 = .ok (.aload_n 0, 1) := by decide +kernel
theorem d_R_closeBatch_11 : decode b_R_closeBatch 11 = .ok (.getfield 29, 3) := by decide +kernel
theorem d_R_closeBatch_14 : decode b_R_closeBatch 14 = .ok (.if_icmp .ge 16, 3) := by decide +kernel
theorem d_R_closeBatch_17 : decode b_R_closeBatch 17 = .ok (.aload_n 0, 1) := by decide +kernel
theorem d_R_closeBatch_18 : decode b_R_closeBatch 18 = .ok (.getfield 22, 3) := by decide +kernel
theorem d_R_closeBatch_21 : decode b_R_closeBatch 21 = .ok (.iload_n 2, 1) := by decide +kernel
theorem d_R_closeBatch_22 : decode b_R_closeBatch 22 = .ok (.iload_n 1, 1) := by decide +kernel
theorem d_R_closeBatch_23 : decode b_R_closeBatch 23 = .ok (.iastore, 1) := by decide +kernel
theorem d_R_closeBatch_24 : decode b_R_closeBatch 24 = .ok (.iinc 2 1, 3) := by decide +kernel
theorem d_R_closeBatch_27 : decode b_R_closeBatch 27 = .ok (.goto (-18), 3) := by decide +kernel
theorem d_R_closeBatch_30 : decode b_R_closeBatch 30 = .ok (.return_, 1) := by decide +kernel
theorem d_R_survivorsAmongFirst_0 : decode b_R_survivorsAmongFirst 0 = .ok (.iconst 0, 1) := by decide +kernel
theorem d_R_survivorsAmongFirst_1 : decode b_R_survivorsAmongFirst 1 = .ok (.aload_n 0, 1) := by decide +kernel
theorem d_R_survivorsAmongFirst_2 : decode b_R_survivorsAmongFirst 2 = .ok (.getfield 29, 3) := by decide +kernel
theorem d_R_survivorsAmongFirst_5 : decode b_R_survivorsAmongFirst 5 = .ok (.iload_n 1, 1) := by decide +kernel
theorem d_R_survivorsAmongFirst_6 : decode b_R_survivorsAmongFirst 6 = .ok (.invokestatic 33, 3) := by decide +kernel
theorem d_R_survivorsAmongFirst_9 : decode b_R_survivorsAmongFirst 9 = .ok (.invokestatic 39, 3) := by decide +kernel
theorem d_R_survivorsAmongFirst_12 : decode b_R_survivorsAmongFirst 12 = .ok (.istore_n 2, 1) := by decide +kernel
theorem d_R_survivorsAmongFirst_13 : decode b_R_survivorsAmongFirst 13 = .ok (.iload_n 2, 1) := by decide +kernel
theorem d_R_survivorsAmongFirst_14 : decode b_R_survivorsAmongFirst 14 = .ok (.aload_n 0, 1) := by decide +kernel
theorem d_R_survivorsAmongFirst_15 : decode b_R_survivorsAmongFirst 15 = .ok (.getfield 29, 3) := by decide +kernel
theorem d_R_survivorsAmongFirst_18 : decode b_R_survivorsAmongFirst 18 = .ok (.if_icmp .ge 12, 3) := by decide +kernel
theorem d_R_survivorsAmongFirst_21 : decode b_R_survivorsAmongFirst 21 = .ok (.aload_n 0, 1) := by decide +kernel
theorem d_R_survivorsAmongFirst_22 : decode b_R_survivorsAmongFirst 22 = .ok (.getfield 22, 3) := by decide +kernel
theorem d_R_survivorsAmongFirst_25 : decode b_R_survivorsAmongFirst 25 = .ok (.iload_n 2, 1) := by decide +kernel
theorem d_R_survivorsAmongFirst_26 : decode b_R_survivorsAmongFirst 26 = .ok (.iaload, 1) := by decide +kernel
theorem d_R_survivorsAmongFirst_27 : decode b_R_survivorsAmongFirst 27 = .ok (.goto 7, 3) := by decide +kernel
theorem d_R_survivorsAmongFirst_30 : decode b_R_survivorsAmongFirst 30 = .ok (.aload_n 0, 1) := by decide +kernel
theorem d_R_survivorsAmongFirst_31 : decode b_R_survivorsAmongFirst 31 = .ok (.getfield 29, 3) := by decide +kernel
theorem d_R_survivorsAmongFirst_34 : decode b_R_survivorsAmongFirst 34 = .ok (.ireturn, 1) := by decide +kernel
theorem d_B_init_0 : decode b_B_init 0 = .ok (.aload_n 0, 1) := by decide +kernel
theorem d_B_init_1 : decode b_B_init 1 = .ok (.invokespecial 3, 3) := by decide +kernel
theorem d_B_init_4 : decode b_B_init 4 = .ok (.aload_n 0, 1) := by decide +kernel
theorem d_B_init_5 : decode b_B_init 5 = .ok (.iconst 5, 1) := by decide +kernel
theorem d_B_init_6 : decode b_B_init 6 = .ok (.newarray .boolean, 2) := by decide +kernel
theorem d_B_init_8 : decode b_B_init 8 = .ok (.putfield 9, 3) := by decide +kernel
theorem d_B_init_11 : decode b_B_init 11 = .ok (.aload_n 0, 1) := by decide +kernel
theorem d_B_init_12 : decode b_B_init 12 = .ok (.iconst 5, 1) := by decide +kernel
theorem d_B_init_13 : decode b_B_init 13 = .ok (.newarray .int, 2) := by decide +kernel
theorem d_B_init_15 : decode b_B_init 15 = .ok (.putfield 15, 3) := by decide +kernel
theorem d_B_init_18 : decode b_B_init 18 = .ok (.aload_n 0, 1) := by decide +kernel
theorem d_B_init_19 : decode b_B_init 19 = .ok (.iconst 5, 1) := by decide +kernel
theorem d_B_init_20 : decode b_B_init 20 = .ok (.newarray .long, 2) := by decide +kernel
theorem d_B_init_22 : decode b_B_init 22 = .ok (.putfield 19, 3) := by decide +kernel
theorem d_B_init_25 : decode b_B_init 25 = .ok (.return_, 1) := by decide +kernel
theorem d_B_take_0 : decode b_B_take 0 = .ok (.aload_n 0, 1) := by decide +kernel
theorem d_B_take_1 : decode b_B_take 1 = .ok (.getfield 27, 3) := by decide +kernel
theorem d_B_take_4 : decode b_B_take 4 = .ok (.iconst 5, 1) := by decide +kernel
theorem d_B_take_5 : decode b_B_take 5 = .ok (.if_icmp .lt 5, 3) := by decide +kernel
theorem d_B_take_8 : decode b_B_take 8 = .ok (.iconst 0, 1) := by decide +kernel
theorem d_B_take_9 : decode b_B_take 9 = .ok (.ireturn, 1) := by decide +kernel
theorem d_B_take_10 : decode b_B_take 10 = .ok (.aload_n 0, 1) := by decide +kernel
theorem d_B_take_11 : decode b_B_take 11 = .ok (.getfield 9, 3) := by decide +kernel
theorem d_B_take_14 : decode b_B_take 14 = .ok (.aload_n 0, 1) := by decide +kernel
theorem d_B_take_15 : decode b_B_take 15 = .ok (.getfield 27, 3) := by decide +kernel
theorem d_B_take_18 : decode b_B_take 18 = .ok (.iload_n 1, 1) := by decide +kernel
theorem d_B_take_19 : decode b_B_take 19 = .ok (.bastore, 1) := by decide +kernel
theorem d_B_take_20 : decode b_B_take 20 = .ok (.aload_n 0, 1) := by decide +kernel
theorem d_B_take_21 : decode b_B_take 21 = .ok (.getfield 15, 3) := by decide +kernel
theorem d_B_take_24 : decode b_B_take 24 = .ok (.aload_n 0, 1) := by decide +kernel
theorem d_B_take_25 : decode b_B_take 25 = .ok (.getfield 27, 3) := by decide +kernel
theorem d_B_take_28 : decode b_B_take 28 = .ok (.iload_n 2, 1) := by decide +kernel
theorem d_B_take_29 : decode b_B_take 29 = .ok (.iastore, 1) := by decide +kernel
theorem d_B_take_30 : decode b_B_take 30 = .ok (.aload_n 0, 1) := by decide +kernel
theorem d_B_take_31 : decode b_B_take 31 = .ok (.getfield 19, 3) := by decide +kernel
theorem d_B_take_34 : decode b_B_take 34 = .ok (.aload_n 0, 1) := by decide +kernel
theorem d_B_take_35 : decode b_B_take 35 = .ok (.getfield 27, 3) := by decide +kernel
theorem d_B_take_38 : decode b_B_take 38 = .ok (.lload_n 3, 1) := by decide +kernel
theorem d_B_take_39 : decode b_B_take 39 = .ok (.lastore, 1) := by decide +kernel
theorem d_B_take_40 : decode b_B_take 40 = .ok (.aload_n 0, 1) := by decide +kernel
theorem d_B_take_41 : decode b_B_take 41 = .ok (.dup, 1) := by decide +kernel
theorem d_B_take_42 : decode b_B_take 42 = .ok (.getfield 27, 3) := by decide +kernel
theorem d_B_take_45 : decode b_B_take 45 = .ok (.iconst 1, 1) := by decide +kernel
theorem d_B_take_46 : decode b_B_take 46 = .ok (.iadd, 1) := by decide +kernel
theorem d_B_take_47 : decode b_B_take 47 = .ok (.putfield 27, 3) := by decide +kernel
theorem d_B_take_50 : decode b_B_take 50 = .ok (.iconst 3, 1) := by decide +kernel
theorem d_B_take_51 : decode b_B_take 51 = .ok (.ireturn, 1) := by decide +kernel
theorem d_B_begin_0 : decode b_B_begin 0 = .ok (.aload_n 0, 1) := by decide +kernel
theorem d_B_begin_1 : decode b_B_begin 1 = .ok (.iconst 1, 1) := by decide +kernel
theorem d_B_begin_2 : decode b_B_begin 2 = .ok (.putfield 23, 3) := by decide +kernel
theorem d_B_begin_5 : decode b_B_begin 5 = .ok (.aload_n 0, 1) := by decide +kernel
theorem d_B_begin_6 : decode b_B_begin 6 = .ok (.iconst 0, 1) := by decide +kernel
theorem d_B_begin_7 : decode b_B_begin 7 = .ok (.putfield 27, 3) := by decide +kernel
theorem d_B_begin_10 : decode b_B_begin 10 = .ok (.return_, 1) := by decide +kernel
theorem d_B_end_0 : decode b_B_end 0 = .ok (.aload_n 0, 1) := by decide +kernel
theorem d_B_end_1 : decode b_B_end 1 = .ok (.iconst 0, 1) := by decide +kernel
theorem d_B_end_2 : decode b_B_end 2 = .ok (.putfield 23, 3) := by decide +kernel
theorem d_B_end_5 : decode b_B_end 5 = .ok (.aload_n 0, 1) := by decide +kernel
theorem d_B_end_6 : decode b_B_end 6 = .ok (.iconst 0, 1) := by decide +kernel
theorem d_B_end_7 : decode b_B_end 7 = .ok (.putfield 27, 3) := by decide +kernel
theorem d_B_end_10 : decode b_B_end 10 = .ok (.return_, 1) := by decide +kernel
theorem d_M_init_0 : decode b_M_init 0 = .ok (.aload_n 0, 1) := by decide +kernel
theorem d_M_init_1 : decode b_M_init 1 = .ok (.invokespecial 1, 3) := by decide +kernel
theorem d_M_init_4 : decode b_M_init 4 = .ok (.aload_n 0, 1) := by decide +kernel
theorem d_M_init_5 : decode b_M_init 5 = .ok (.bipush 60, 2) := by decide +kernel
theorem d_M_init_7 : decode b_M_init 7 = .ok (.newarray .int, 2) := by decide +kernel
theorem d_M_init_9 : decode b_M_init 9 = .ok (.putfield 7, 3) := by decide +kernel
theorem d_M_init_12 : decode b_M_init 12 = .ok (.aload_n 0, 1) := by decide +kernel
theorem d_M_init_13 : decode b_M_init 13 = .ok (.bipush 60, 2) := by decide +kernel
theorem d_M_init_15 : decode b_M_init 15 = .ok (.newarray .long, 2) := by decide +kernel
theorem d_M_init_17 : decode b_M_init 17 = .ok (.putfield 13, 3) := by decide +kernel
theorem d_M_init_20 : decode b_M_init 20 = .ok (.aload_n 0, 1) := by decide +kernel
theorem d_M_init_21 : decode b_M_init 21 = .ok (.bipush 70, 2) := by decide +kernel
theorem d_M_init_23 : decode b_M_init 23 = .ok (.newarray .int, 2) := by decide +kernel
theorem d_M_init_25 : decode b_M_init 25 = .ok (.putfield 17, 3) := by decide +kernel
theorem d_M_init_28 : decode b_M_init 28 = .ok (.aload_n 0, 1) := by decide +kernel
theorem d_M_init_29 : decode b_M_init 29 = .ok (.bipush 70, 2) := by decide +kernel
theorem d_M_init_31 : decode b_M_init 31 = .ok (.newarray .int, 2) := by decide +kernel
theorem d_M_init_33 : decode b_M_init 33 = .ok (.putfield 20, 3) := by decide +kernel
theorem d_M_init_36 : decode b_M_init 36 = .ok (.aload_n 0, 1) := by decide +kernel
theorem d_M_init_37 : decode b_M_init 37 = .ok (.bipush 70, 2) := by decide +kernel
theorem d_M_init_39 : decode b_M_init 39 = .ok (.newarray .long, 2) := by decide +kernel
theorem d_M_init_41 : decode b_M_init 41 = .ok (.putfield 23, 3) := by decide +kernel
