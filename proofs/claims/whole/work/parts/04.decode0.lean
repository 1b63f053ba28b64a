/-! Decode rows. -/
theorem d_E_init_0 : decode b_E_init 0 = .ok (.aload_n 0, 1) := by decide +kernel
theorem d_E_init_1 : decode b_E_init 1 = .ok (.invokespecial 3, 3) := by decide +kernel
theorem d_E_init_4 : decode b_E_init 4 = .ok (.aload_n 0, 1) := by decide +kernel
theorem d_E_init_5 : decode b_E_init 5 = .ok (.bipush 8, 2) := by decide +kernel
theorem d_E_init_7 : decode b_E_init 7 = .ok (.sipush 200, 3) := by decide +kernel
theorem d_E_init_10 : decode b_E_init 10 = .ok (.iload_n 1, 1) := by decide +kernel
theorem d_E_init_11 : decode b_E_init 11 = .ok (.invokestatic 9, 3) := by decide +kernel
theorem d_E_init_14 : decode b_E_init 14 = .ok (.invokestatic 15, 3) := by decide +kernel
theorem d_E_init_17 : decode b_E_init 17 = .ok (.putfield 18, 3) := by decide +kernel
theorem d_E_init_20 : decode b_E_init 20 = .ok (.aload_n 0, 1) := by decide +kernel
theorem d_E_init_21 : decode b_E_init 21 = .ok (.new 22, 3) := by decide +kernel
theorem d_E_init_24 : decode b_E_init 24 = .ok (.dup, 1) := by decide +kernel
theorem d_E_init_25 : decode b_E_init 25 = .ok (.invokespecial 24, 3) := by decide +kernel
theorem d_E_init_28 : decode b_E_init 28 = .ok (.putfield 25, 3) := by decide +kernel
theorem d_E_init_31 : decode b_E_init 31 = .ok (.aload_n 0, 1) := by decide +kernel
theorem d_E_init_32 : decode b_E_init 32 = .ok (.new 29, 3) := by decide +kernel
theorem d_E_init_35 : decode b_E_init 35 = .ok (.dup, 1) := by decide +kernel
theorem d_E_init_36 : decode b_E_init 36 = .ok (.invokespecial 31, 3) := by decide +kernel
theorem d_E_init_39 : decode b_E_init 39 = .ok (.putfield 32, 3) := by decide +kernel
theorem d_E_init_42 : decode b_E_init 42 = .ok (.aload_n 0, 1) := by decide +kernel
theorem d_E_init_43 : decode b_E_init 43 = .ok (.new 36, 3) := by decide +kernel
theorem d_E_init_46 : decode b_E_init 46 = .ok (.dup, 1) := by decide +kernel
theorem d_E_init_47 : decode b_E_init 47 = .ok (.invokespecial 38, 3) := by decide +kernel
theorem d_E_init_50 : decode b_E_init 50 = .ok (.putfield 39, 3) := by decide +kernel
theorem d_E_init_53 : decode b_E_init 53 = .ok (.return_, 1) := by decide +kernel
theorem d_E_put_0 : decode b_E_put 0 = .ok (.aload_n 0, 1) := by decide +kernel
theorem d_E_put_1 : decode b_E_put 1 = .ok (.getfield 39, 3) := by decide +kernel
theorem d_E_put_4 : decode b_E_put 4 = .ok (.getfield 43, 3) := by decide +kernel
theorem d_E_put_7 : decode b_E_put 7 = .ok (.ifCond .eq 14, 3) := by decide +kernel
theorem d_E_put_10 : decode b_E_put 10 = .ok (.aload_n 0, 1) := by decide +kernel
theorem d_E_put_11 : decode b_E_put 11 = .ok (.getfield 39, 3) := by decide +kernel
theorem d_E_put_14 : decode b_E_put 14 = .ok (.iconst 1, 1) := by decide +kernel
theorem d_E_put_15 : decode b_E_put 15 = .ok (.iload_n 1, 1) := by decide +kernel
theorem d_E_put_16 : decode b_E_put 16 = .ok (.lload_n 2, 1) := by decide +kernel
theorem d_E_put_17 : decode b_E_put 17 = .ok (.invokevirtual 47, 3) := by decide +kernel
theorem d_E_put_20 : decode b_E_put 20 = .ok (.ireturn, 1) := by decide +kernel
theorem d_E_put_21 : decode b_E_put 21 = .ok (.aload_n 0, 1) := by decide +kernel
theorem d_E_put_22 : decode b_E_put 22 = .ok (.getfield 32, 3) := by decide +kernel
theorem d_E_put_25 : decode b_E_put 25 = .ok (.getfield 51, 3) := by decide +kernel
theorem d_E_put_28 : decode b_E_put 28 = .ok (.istore 4, 2) := by decide +kernel
theorem d_E_put_30 : decode b_E_put 30 = .ok (.aload_n 0, 1) := by decide +kernel
theorem d_E_put_31 : decode b_E_put 31 = .ok (.getfield 25, 3) := by decide +kernel
theorem d_E_put_34 : decode b_E_put 34 = .ok (.iload_n 1, 1) := by decide +kernel
theorem d_E_put_35 : decode b_E_put 35 = .ok (.invokevirtual 54, 3) := by decide +kernel
theorem d_E_put_38 : decode b_E_put 38 = .ok (.istore 5, 2) := by decide +kernel
theorem d_E_put_40 : decode b_E_put 40 = .ok (.aload_n 0, 1) := by decide +kernel
theorem d_E_put_41 : decode b_E_put 41 = .ok (.iload_n 1, 1) := by decide +kernel
theorem d_E_put_42 : decode b_E_put 42 = .ok (.lload_n 2, 1) := by decide +kernel
theorem d_E_put_43 : decode b_E_put 43 = .ok (.invokevirtual 58, 3) := by decide +kernel
theorem d_E_put_46 : decode b_E_put 46 = .ok (.aload_n 0, 1) := by decide +kernel
theorem d_E_put_47 : decode b_E_put 47 = .ok (.invokevirtual 62, 3) := by decide +kernel
theorem d_E_put_50 : decode b_E_put 50 = .ok (.ifCond .eq 11, 3) := by decide +kernel
theorem d_E_put_53 : decode b_E_put 53 = .ok (.aload_n 0, 1) := by decide +kernel
theorem d_E_put_54 : decode b_E_put 54 = .ok (.iload 4, 2) := by decide +kernel
theorem d_E_put_56 : decode b_E_put 56 = .ok (.invokevirtual 66, 3) := by decide +kernel
theorem d_E_put_59 : decode b_E_put 59 = .ok (.iconst 0, 1) := by decide +kernel
theorem d_E_put_60 : decode b_E_put 60 = .ok (.ireturn, 1) := by decide +kernel
theorem d_E_put_61 : decode b_E_put 61 = .ok (.aload_n 0, 1) := by decide +kernel
theorem d_E_put_62 : decode b_E_put 62 = .ok (.getfield 32, 3) := by decide +kernel
theorem d_E_put_65 : decode b_E_put 65 = .ok (.iload 4, 2) := by decide +kernel
theorem d_E_put_67 : decode b_E_put 67 = .ok (.invokevirtual 70, 3) := by decide +kernel
theorem d_E_put_70 : decode b_E_put 70 = .ok (.iload 5, 2) := by decide +kernel
theorem d_E_put_72 : decode b_E_put 72 = .ok (.ifCond .eq 7, 3) := by decide +kernel
theorem d_E_put_75 : decode b_E_put 75 = .ok (.iconst 2, 1) := by decide +kernel
theorem d_E_put_76 : decode b_E_put 76 = .ok (.goto 4, 3) := by decide +kernel
theorem d_E_put_79 : decode b_E_put 79 = .ok (.iconst 1, 1) := by decide +kernel
theorem d_E_put_80 : decode b_E_put 80 = .ok (.ireturn, 1) := by decide +kernel
theorem d_E_recordAndSet_0 : decode b_E_recordAndSet 0 = .ok (.aload_n 0, 1) := by decide +kernel
theorem d_E_recordAndSet_1 : decode b_E_recordAndSet 1 = .ok (.getfield 32, 3) := by decide +kernel
theorem d_E_recordAndSet_4 : decode b_E_recordAndSet 4 = .ok (.iload_n 1, 1) := by decide +kernel
theorem d_E_recordAndSet_5 : decode b_E_recordAndSet 5 = .ok (.aload_n 0, 1) := by decide +kernel
theorem d_E_recordAndSet_6 : decode b_E_recordAndSet 6 = .ok (.getfield 25, 3) := by decide +kernel
theorem d_E_recordAndSet_9 : decode b_E_recordAndSet 9 = .ok (.iload_n 1, 1) := by decide +kernel
theorem d_E_recordAndSet_10 : decode b_E_recordAndSet 10 = .ok (.invokevirtual 54, 3) := by decide +kernel
theorem d_E_recordAndSet_13 : decode b_E_recordAndSet 13 = .ok (.aload_n 0, 1) := by decide +kernel
theorem d_E_recordAndSet_14 : decode b_E_recordAndSet 14 = .ok (.getfield 25, 3) := by decide +kernel
theorem d_E_recordAndSet_17 : decode b_E_recordAndSet 17 = .ok (.iload_n 1, 1) := by decide +kernel
theorem d_E_recordAndSet_18 : decode b_E_recordAndSet 18 = .ok (.invokevirtual 76, 3) := by decide +kernel
theorem d_E_recordAndSet_21 : decode b_E_recordAndSet 21 = .ok (.invokevirtual 136, 3) := by decide +kernel
theorem d_E_recordAndSet_24 : decode b_E_recordAndSet 24 = .ok (.aload_n 0, 1) := by decide +kernel
theorem d_E_recordAndSet_25 : decode b_E_recordAndSet 25 = .ok (.getfield 25, 3) := by decide +kernel
theorem d_E_recordAndSet_28 : decode b_E_recordAndSet 28 = .ok (.iload_n 1, 1) := by decide +kernel
theorem d_E_recordAndSet_29 : decode b_E_recordAndSet 29 = .ok (.lload_n 2, 1) := by decide +kernel
theorem d_E_recordAndSet_30 : decode b_E_recordAndSet 30 = .ok (.invokevirtual 140, 3) := by decide +kernel
theorem d_E_recordAndSet_33 : decode b_E_recordAndSet 33 = .ok (.return_, 1) := by decide +kernel
theorem d_E_hash_0 : decode b_E_hash 0 = .ok (.iload_n 0, 1) := by decide +kernel
theorem d_E_hash_1 : decode b_E_hash 1 = .ok (.iload_n 0, 1) := by decide +kernel
theorem d_E_hash_2 : decode b_E_hash 2 = .ok (.bipush 6, 2) := by decide +kernel
theorem d_E_hash_4 : decode b_E_hash 4 = .ok (.iushr, 1) := by decide +kernel
theorem d_E_hash_5 : decode b_E_hash 5 = .ok (.ixor, 1) := by decide +kernel
theorem d_E_hash_6 : decode b_E_hash 6 = .ok (.iload_n 0, 1) := by decide +kernel
theorem d_E_hash_7 : decode b_E_hash 7 = .ok (.bipush 12, 2) := by decide +kernel
theorem d_E_hash_9 : decode b_E_hash 9 = .ok (.iushr, 1) := by decide +kernel
theorem d_E_hash_10 : decode b_E_hash 10 = .ok (.ixor, 1) := by decide +kernel
theorem d_E_hash_11 : decode b_E_hash 11 = .ok (.iload_n 0, 1) := by decide +kernel
theorem d_E_hash_12 : decode b_E_hash 12 = .ok (.bipush 18, 2) := by decide +kernel
theorem d_E_hash_14 : decode b_E_hash 14 = .ok (.iushr, 1) := by decide +kernel
theorem d_E_hash_15 : decode b_E_hash 15 = .ok (.ixor, 1) := by decide +kernel
theorem d_E_hash_16 : decode b_E_hash 16 = .ok (.iload_n 0, 1) := by decide +kernel
theorem d_E_hash_17 : decode b_E_hash 17 = .ok (.bipush 24, 2) := by decide +kernel
theorem d_E_hash_19 : decode b_E_hash 19 = .ok (.iushr, 1) := by decide +kernel
theorem d_E_hash_20 : decode b_E_hash 20 = .ok (.ixor, 1) := by decide +kernel
theorem d_E_hash_21 : decode b_E_hash 21 = .ok (.iload_n 0, 1) := by decide +kernel
theorem d_E_hash_22 : decode b_E_hash 22 = .ok (.bipush 30, 2) := by decide +kernel
theorem d_E_hash_24 : decode b_E_hash 24 = .ok (.iushr, 1) := by decide +kernel
theorem d_E_hash_25 : decode b_E_hash 25 = .ok (.ixor, 1) := by decide +kernel
theorem d_E_hash_26 : decode b_E_hash 26 = .ok (.bipush 63, 2) := by decide +kernel
theorem d_E_hash_28 : decode b_E_hash 28 = .ok (.iand, 1) := by decide +kernel
theorem d_E_hash_29 : decode b_E_hash 29 = .ok (.ireturn, 1) := by decide +kernel
theorem d_E_isOverfull_0 : decode b_E_isOverfull 0 = .ok (.aload_n 0, 1) := by decide +kernel
theorem d_E_isOverfull_1 : decode b_E_isOverfull 1 = .ok (.getfield 25, 3) := by decide +kernel
theorem d_E_isOverfull_4 : decode b_E_isOverfull 4 = .ok (.getfield 107, 3) := by decide +kernel
theorem d_E_isOverfull_7 : decode b_E_isOverfull 7 = .ok (.bipush 60, 2) := by decide +kernel
theorem d_E_isOverfull_9 : decode b_E_isOverfull 9 = .ok (.if_icmp .gt 17, 3) := by decide +kernel
theorem d_E_isOverfull_12 : decode b_E_isOverfull 12 = .ok (.aload_n 0, 1) := by decide +kernel
theorem d_E_isOverfull_13 : decode b_E_isOverfull 13 = .ok (.getfield 25, 3) := by decide +kernel
theorem d_E_isOverfull_16 : decode b_E_isOverfull 16 = .ok (.invokevirtual 108, 3) := by decide +kernel
theorem d_E_isOverfull_19 : decode b_E_isOverfull 19 = .ok (.aload_n 0, 1) := by decide +kernel
theorem d_E_isOverfull_20 : decode b_E_isOverfull 20 = .ok (.getfield 18, 3) := by decide +kernel
theorem d_E_isOverfull_23 : decode b_E_isOverfull 23 = .ok (.if_icmp .le 7, 3) := by decide +kernel
theorem d_E_isOverfull_26 : decode b_E_isOverfull 26 = .ok (.iconst 1, 1) := by decide +kernel
theorem d_E_isOverfull_27 : decode b_E_isOverfull 27 = .ok (.goto 4, 3) := by decide +kernel
theorem d_E_isOverfull_30 : decode b_E_isOverfull 30 = .ok (.iconst 0, 1) := by decide +kernel
theorem d_E_isOverfull_31 : decode b_E_isOverfull 31 = .ok (.ireturn, 1) := by decide +kernel
theorem d_E_directoryPages_0 : decode b_E_directoryPages 0 = .ok (.iload_n 0, 1) := by decide +kernel
theorem d_E_directoryPages_1 : decode b_E_directoryPages 1 = .ok (.bipush 16, 2) := by decide +kernel
theorem d_E_directoryPages_3 : decode b_E_directoryPages 3 = .ok (.iadd, 1) := by decide +kernel
theorem d_E_directoryPages_4 : decode b_E_directoryPages 4 = .ok (.iconst 1, 1) := by decide +kernel
theorem d_E_directoryPages_5 : decode b_E_directoryPages 5 = .ok (.isub, 1) := by decide +kernel
theorem d_E_directoryPages_6 : decode b_E_directoryPages 6 = .ok (.bipush 16, 2) := by decide +kernel
theorem d_E_directoryPages_8 : decode b_E_directoryPages 8 = .ok (.idiv, 1) := by decide +kernel
theorem d_E_directoryPages_9 : decode b_E_directoryPages 9 = .ok (.ireturn, 1) := by decide +kernel
theorem d_E_bucketPages_0 : decode b_E_bucketPages 0 = .ok (.iconst 1, 1) := by decide +kernel
theorem d_E_bucketPages_1 : decode b_E_bucketPages 1 = .ok (.iload_n 0, 1) := by decide +kernel
theorem d_E_bucketPages_2 : decode b_E_bucketPages 2 = .ok (.iconst 4, 1) := by decide +kernel
theorem d_E_bucketPages_3 : decode b_E_bucketPages 3 = .ok (.iadd, 1) := by decide +kernel
theorem d_E_bucketPages_4 : decode b_E_bucketPages 4 = .ok (.iconst 1, 1) := by decide +kernel
theorem d_E_bucketPages_5 : decode b_E_bucketPages 5 = .ok (.isub, 1) := by decide +kernel
theorem d_E_bucketPages_6 : decode b_E_bucketPages 6 = .ok (.iconst 4, 1) := by decide +kernel
theorem d_E_bucketPages_7 : decode b_E_bucketPages 7 = .ok (.idiv, 1) := by decide +kernel
theorem d_E_bucketPages_8 : decode b_E_bucketPages 8 = .ok (.invokestatic 15, 3) := by decide +kernel
theorem d_E_bucketPages_11 : decode b_E_bucketPages 11 = .ok (.ireturn, 1) := by decide +kernel
theorem d_E_valuePages_0 : decode b_E_valuePages 0 = .ok (.lload_n 0, 1) := by decide +kernel
theorem d_E_valuePages_1 : decode b_E_valuePages 1 = .ok (.invokestatic 163, 3) := by decide +kernel
theorem d_E_valuePages_4 : decode b_E_valuePages 4 = .ok (.istore_n 2, 1) := by decide +kernel
theorem d_E_valuePages_5 : decode b_E_valuePages 5 = .ok (.iload_n 2, 1) := by decide +kernel
theorem d_E_valuePages_6 : decode b_E_valuePages 6 = .ok (.iconst 2, 1) := by decide +kernel
theorem d_E_valuePages_7 : decode b_E_valuePages 7 = .ok (.if_icmp .le 13, 3) := by decide +kernel
theorem d_E_valuePages_10 : decode b_E_valuePages 10 = .ok (.iload_n 2, 1) := by decide +kernel
theorem d_E_valuePages_11 : decode b_E_valuePages 11 = .ok (.iconst 2, 1) := by decide +kernel
theorem d_E_valuePages_12 : decode b_E_valuePages 12 = .ok (.iadd, 1) := by decide +kernel
theorem d_E_valuePages_13 : decode b_E_valuePages 13 = .ok (.iconst 1, 1) := by decide +kernel
theorem d_E_valuePages_14 : decode b_E_valuePages 14 = .ok (.isub, 1) := by decide +kernel
theorem d_E_valuePages_15 : decode b_E_valuePages 15 = .ok (.iconst 2, 1) := by decide +kernel
theorem d_E_valuePages_16 : decode b_E_valuePages 16 = .ok (.idiv, 1) := by decide +kernel
theorem d_E_valuePages_17 : decode b_E_valuePages 17 = .ok (.goto 4, 3) := by decide +kernel
theorem d_E_valuePages_20 : decode b_E_valuePages 20 = .ok (.iconst 0, 1) := by decide +kernel
theorem d_E_valuePages_21 : decode b_E_valuePages 21 = .ok (.ireturn, 1) := by decide +kernel
theorem d_E_bytesOf_0 : decode b_E_bytesOf 0 = .ok (.iconst 1, 1) := by decide +kernel
theorem d_E_bytesOf_1 : decode b_E_bytesOf 1 = .ok (.istore_n 2, 1) := by decide +kernel
theorem d_E_bytesOf_2 : decode b_E_bytesOf 2 = .ok (.iload_n 2, 1) := by decide +kernel
theorem d_E_bytesOf_3 : decode b_E_bytesOf 3 = .ok (.bipush 8, 2) := by decide +kernel
theorem d_E_bytesOf_5 : decode b_E_bytesOf 5 = .ok (.if_icmp .ge 22, 3) := by decide +kernel
theorem d_E_bytesOf_8 : decode b_E_bytesOf 8 = .ok (.lload_n 0, 1) := by decide +kernel
theorem d_E_bytesOf_9 : decode b_E_bytesOf 9 = .ok (.bipush 8, 2) := by decide +kernel
theorem d_E_bytesOf_11 : decode b_E_bytesOf 11 = .ok (.iload_n 2, 1) := by decide +kernel
theorem d_E_bytesOf_12 : decode b_E_bytesOf 12 = .ok (.imul, 1) := by decide +kernel
theorem d_E_bytesOf_13 : decode b_E_bytesOf 13 = .ok (.lushr, 1) := by decide +kernel
theorem d_E_bytesOf_14 : decode b_E_bytesOf 14 = .ok (.lconst 0, 1) := by decide +kernel
theorem d_E_bytesOf_15 : decode b_E_bytesOf 15 = .ok (.lcmp, 1) := by decide +kernel
theorem d_E_bytesOf_16 : decode b_E_bytesOf 16 = .ok (.ifCond .ne 5, 3) := by decide +kernel
theorem d_E_bytesOf_19 : decode b_E_bytesOf 19 = .ok (.iload_n 2, 1) := by decide +kernel
theorem d_E_bytesOf_20 : decode b_E_bytesOf 20 = .ok (.ireturn, 1) := by decide +kernel
theorem d_E_bytesOf_21 : decode b_E_bytesOf 21 = .ok (.iinc 2 1, 3) := by decide +kernel
theorem d_E_bytesOf_24 : decode b_E_bytesOf 24 = .ok (.goto (-22), 3) := by decide +kernel
theorem d_E_bytesOf_27 : decode b_E_bytesOf 27 = .ok (.bipush 8, 2) := by decide +kernel
theorem d_E_bytesOf_29 : decode b_E_bytesOf 29 = .ok (.ireturn, 1) := by decide +kernel
theorem d_E_takeBackFrom_0 : decode b_E_takeBackFrom 0 = .ok (.aload_n 0, 1) := by decide +kernel
theorem d_E_takeBackFrom_1 : decode b_E_takeBackFrom 1 = .ok (.getfield 32, 3) := by decide +kernel
theorem d_E_takeBackFrom_4 : decode b_E_takeBackFrom 4 = .ok (.getfield 51, 3) := by decide +kernel
theorem d_E_takeBackFrom_7 : decode b_E_takeBackFrom 7 = .ok (.iconst 1, 1) := by decide +kernel
theorem d_E_takeBackFrom_8 : decode b_E_takeBackFrom 8 = .ok (.isub, 1) := by decide +kernel
theorem d_E_takeBackFrom_9 : decode b_E_takeBackFrom 9 = .ok (.istore_n 2, 1) := by decide +kernel
theorem d_E_takeBackFrom_10 : decode b_E_takeBackFrom 10 = .ok (.iload_n 2, 1) := by decide +kernel
theorem d_E_takeBackFrom_11 : decode b_E_takeBackFrom 11 = .ok (.iload_n 1, 1) := by decide +kernel
theorem d_E_takeBackFrom_12 : decode b_E_takeBackFrom 12 = .ok (.if_icmp .lt 79, 3) := by decide +kernel
theorem d_E_takeBackFrom_15 : decode b_E_takeBackFrom 15 = .ok (.aload_n 0, 1) := by decide +kernel
theorem d_E_takeBackFrom_16 : decode b_E_takeBackFrom 16 = .ok (.getfield 32, 3) := by decide +kernel
theorem d_E_takeBackFrom_19 : decode b_E_takeBackFrom 19 = .ok (.getfield 158, 3) := by decide +kernel
theorem d_E_takeBackFrom_22 : decode b_E_takeBackFrom 22 = .ok (.iload_n 2, 1) := by decide +kernel
theorem d_E_takeBackFrom_23 : decode b_E_takeBackFrom 23 = .ok (.iaload, 1) := by decide +kernel
theorem d_E_takeBackFrom_24 : decode b_E_takeBackFrom 24 = .ok (.iconst 2, 1) := by decide +kernel
theorem d_E_takeBackFrom_25 : decode b_E_takeBackFrom 25 = .ok (.if_icmp .ne 31, 3) := by decide +kernel
theorem d_E_takeBackFrom_28 : decode b_E_takeBackFrom 28 = .ok (.aload_n 0, 1) := by decide +kernel
theorem d_E_takeBackFrom_29 : decode b_E_takeBackFrom 29 = .ok (.getfield 25, 3) := by decide +kernel
theorem d_E_takeBackFrom_32 : decode b_E_takeBackFrom 32 = .ok (.aload_n 0, 1) := by decide +kernel
theorem d_E_takeBackFrom_33 : decode b_E_takeBackFrom 33 = .ok (.getfield 32, 3) := by decide +kernel
theorem d_E_takeBackFrom_36 : decode b_E_takeBackFrom 36 = .ok (.getfield 161, 3) := by decide +kernel
theorem d_E_takeBackFrom_39 : decode b_E_takeBackFrom 39 = .ok (.iload_n 2, 1) := by decide +kernel
theorem d_E_takeBackFrom_40 : decode b_E_takeBackFrom 40 = .ok (.iaload, 1) := by decide +kernel
theorem d_E_takeBackFrom_41 : decode b_E_takeBackFrom 41 = .ok (.aload_n 0, 1) := by decide +kernel
theorem d_E_takeBackFrom_42 : decode b_E_takeBackFrom 42 = .ok (.getfield 32, 3) := by decide +kernel
theorem d_E_takeBackFrom_45 : decode b_E_takeBackFrom 45 = .ok (.getfield 162, 3) := by decide +kernel
theorem d_E_takeBackFrom_48 : decode b_E_takeBackFrom 48 = .ok (.iload_n 2, 1) := by decide +kernel
theorem d_E_takeBackFrom_49 : decode b_E_takeBackFrom 49 = .ok (.laload, 1) := by decide +kernel
theorem d_E_takeBackFrom_50 : decode b_E_takeBackFrom 50 = .ok (.invokevirtual 140, 3) := by decide +kernel
theorem d_E_takeBackFrom_53 : decode b_E_takeBackFrom 53 = .ok (.goto 32, 3) := by decide +kernel
theorem d_E_takeBackFrom_56 : decode b_E_takeBackFrom 56 = .ok (.aload_n 0, 1) := by decide +kernel
theorem d_E_takeBackFrom_57 : decode b_E_takeBackFrom 57 = .ok (.getfield 32, 3) := by decide +kernel
theorem d_E_takeBackFrom_60 : decode b_E_takeBackFrom 60 = .ok (.getfield 158, 3) := by decide +kernel
theorem d_E_takeBackFrom_63 : decode b_E_takeBackFrom 63 = .ok (.iload_n 2, 1) := by decide +kernel
theorem d_E_takeBackFrom_64 : decode b_E_takeBackFrom 64 = .ok (.iaload, 1) := by decide +kernel
theorem d_E_takeBackFrom_65 : decode b_E_takeBackFrom 65 = .ok (.iconst 1, 1) := by decide +kernel
theorem d_E_takeBackFrom_66 : decode b_E_takeBackFrom 66 = .ok (.if_icmp .ne 19, 3) := by decide +kernel
theorem d_E_takeBackFrom_69 : decode b_E_takeBackFrom 69 = .ok (.aload_n 0, 1) := by decide +kernel
theorem d_E_takeBackFrom_70 : decode b_E_takeBackFrom 70 = .ok (.getfield 25, 3) := by decide +kernel
theorem d_E_takeBackFrom_73 : decode b_E_takeBackFrom 73 = .ok (.aload_n 0, 1) := by decide +kernel
theorem d_E_takeBackFrom_74 : decode b_E_takeBackFrom 74 = .ok (.getfield 32, 3) := by decide +kernel
theorem d_E_takeBackFrom_77 : decode b_E_takeBackFrom 77 = .ok (.getfield 161, 3) := by decide +kernel
theorem d_E_takeBackFrom_80 : decode b_E_takeBackFrom 80 = .ok (.iload_n 2, 1) := by decide +kernel
theorem d_E_takeBackFrom_81 : decode b_E_takeBackFrom 81 = .ok (.iaload, 1) := by decide +kernel
theorem d_E_takeBackFrom_82 : decode b_E_takeBackFrom 82 = .ok (.invokevirtual 143, 3) := by decide +kernel
theorem d_E_takeBackFrom_85 : decode b_E_takeBackFrom 85 = .ok (.iinc 2 (-1), 3) := by decide +kernel
theorem d_E_takeBackFrom_88 : decode b_E_takeBackFrom 88 = .ok (.goto (-78), 3) := by decide +kernel
theorem d_E_takeBackFrom_91 : decode b_E_takeBackFrom 91 = .ok (.aload_n 0, 1) := by decide +kernel
theorem d_E_takeBackFrom_92 : decode b_E_takeBackFrom 92 = .ok (.getfield 32, 3) := by decide +kernel
theorem d_E_takeBackFrom_95 : decode b_E_takeBackFrom 95 = .ok (.iload_n 1, 1) := by decide +kernel
theorem d_E_takeBackFrom_96 : decode b_E_takeBackFrom 96 = .ok (.invokevirtual 101, 3) := by decide +kernel
theorem d_E_takeBackFrom_99 : decode b_E_takeBackFrom 99 = .ok (.return_, 1) := by decide +kernel
theorem d_E_delete_0 : decode b_E_delete 0 = .ok (.aload_n 0, 1) := by decide +kernel
theorem d_E_delete_1 : decode b_E_delete 1 = .ok (.getfield 39, 3) := by decide +kernel
theorem d_E_delete_4 : decode b_E_delete 4 = .ok (.getfield 43, 3) := by decide +kernel
theorem d_E_delete_7 : decode b_E_delete 7 = .ok (.ifCond .eq 14, 3) := by decide +kernel
theorem d_E_delete_10 : decode b_E_delete 10 = .ok (.aload_n 0, 1) := by decide +kernel
theorem d_E_delete_11 : decode b_E_delete 11 = .ok (.getfield 39, 3) := by decide +kernel
theorem d_E_delete_14 : decode b_E_delete 14 = .ok (.iconst 0, 1) := by decide +kernel
theorem d_E_delete_15 : decode b_E_delete 15 = .ok (.iload_n 1, 1) := by decide +kernel
theorem d_E_delete_16 : decode b_E_delete 16 = .ok (.lconst 0, 1) := by decide +kernel
theorem d_E_delete_17 : decode b_E_delete 17 = .ok (.invokevirtual 47, 3) := by decide +kernel
theorem d_E_delete_20 : decode b_E_delete 20 = .ok (.ireturn, 1) := by decide +kernel
theorem d_E_delete_21 : decode b_E_delete 21 = .ok (.aload_n 0, 1) := by decide +kernel
theorem d_E_delete_22 : decode b_E_delete 22 = .ok (.getfield 25, 3) := by decide +kernel
theorem d_E_delete_25 : decode b_E_delete 25 = .ok (.iload_n 1, 1) := by decide +kernel
theorem d_E_delete_26 : decode b_E_delete 26 = .ok (.invokevirtual 54, 3) := by decide +kernel
theorem d_E_delete_29 : decode b_E_delete 29 = .ok (.ifCond .ne 5, 3) := by decide +kernel
theorem d_E_delete_32 : decode b_E_delete 32 = .ok (.iconst 0, 1) := by decide +kernel
theorem d_E_delete_33 : decode b_E_delete 33 = .ok (.ireturn, 1) := by decide +kernel
theorem d_E_delete_34 : decode b_E_delete 34 = .ok (.aload_n 0, 1) := by decide +kernel
theorem d_E_delete_35 : decode b_E_delete 35 = .ok (.getfield 32, 3) := by decide +kernel
theorem d_E_delete_38 : decode b_E_delete 38 = .ok (.getfield 51, 3) := by decide +kernel
theorem d_E_delete_41 : decode b_E_delete 41 = .ok (.istore_n 2, 1) := by decide +kernel
theorem d_E_delete_42 : decode b_E_delete 42 = .ok (.aload_n 0, 1) := by decide +kernel
theorem d_E_delete_43 : decode b_E_delete 43 = .ok (.iload_n 1, 1) := by decide +kernel
theorem d_E_delete_44 : decode b_E_delete 44 = .ok (.invokevirtual 73, 3) := by decide +kernel
theorem d_E_delete_47 : decode b_E_delete 47 = .ok (.aload_n 0, 1) := by decide +kernel
theorem d_E_delete_48 : decode b_E_delete 48 = .ok (.getfield 32, 3) := by decide +kernel
theorem d_E_delete_51 : decode b_E_delete 51 = .ok (.iload_n 2, 1) := by decide +kernel
theorem d_E_delete_52 : decode b_E_delete 52 = .ok (.invokevirtual 70, 3) := by decide +kernel
theorem d_E_delete_55 : decode b_E_delete 55 = .ok (.iconst 1, 1) := by decide +kernel
theorem d_E_delete_56 : decode b_E_delete 56 = .ok (.ireturn, 1) := by decide +kernel
theorem d_E_recordAndRemove_0 : decode b_E_recordAndRemove 0 = .ok (.aload_n 0, 1) := by decide +kernel
theorem d_E_recordAndRemove_1 : decode b_E_recordAndRemove 1 = .ok (.getfield 32, 3) := by decide +kernel
theorem d_E_recordAndRemove_4 : decode b_E_recordAndRemove 4 = .ok (.iload_n 1, 1) := by decide +kernel
theorem d_E_recordAndRemove_5 : decode b_E_recordAndRemove 5 = .ok (.aload_n 0, 1) := by decide +kernel
theorem d_E_recordAndRemove_6 : decode b_E_recordAndRemove 6 = .ok (.getfield 25, 3) := by decide +kernel
theorem d_E_recordAndRemove_9 : decode b_E_recordAndRemove 9 = .ok (.iload_n 1, 1) := by decide +kernel
theorem d_E_recordAndRemove_10 : decode b_E_recordAndRemove 10 = .ok (.invokevirtual 54, 3) := by decide +kernel
theorem d_E_recordAndRemove_13 : decode b_E_recordAndRemove 13 = .ok (.aload_n 0, 1) := by decide +kernel
theorem d_E_recordAndRemove_14 : decode b_E_recordAndRemove 14 = .ok (.getfield 25, 3) := by decide +kernel
theorem d_E_recordAndRemove_17 : decode b_E_recordAndRemove 17 = .ok (.iload_n 1, 1) := by decide +kernel
theorem d_E_recordAndRemove_18 : decode b_E_recordAndRemove 18 = .ok (.invokevirtual 76, 3) := by decide +kernel
theorem d_E_recordAndRemove_21 : decode b_E_recordAndRemove 21 = .ok (.invokevirtual 136, 3) := by decide +kernel
theorem d_E_recordAndRemove_24 : decode b_E_recordAndRemove 24 = .ok (.aload_n 0, 1) := by decide +kernel
theorem d_E_recordAndRemove_25 : decode b_E_recordAndRemove 25 = .ok (.getfield 25, 3) := by decide +kernel
theorem d_E_recordAndRemove_28 : decode b_E_recordAndRemove 28 = .ok (.iload_n 1, 1) := by decide +kernel
theorem d_E_recordAndRemove_29 : decode b_E_recordAndRemove 29 = .ok (.invokevirtual 143, 3) := by decide +kernel
theorem d_E_recordAndRemove_32 : decode b_E_recordAndRemove 32 = .ok (.return_, 1) := by decide +kernel
theorem d_E_has_0 : decode b_E_has 0 = .ok (.aload_n 0, 1) := by decide +kernel
theorem d_E_has_1 : decode b_E_has 1 = .ok (.getfield 25, 3) := by decide +kernel
theorem d_E_has_4 : decode b_E_has 4 = .ok (.iload_n 1, 1) := by decide +kernel
theorem d_E_has_5 : decode b_E_has 5 = .ok (.invokevirtual 54, 3) := by decide +kernel
theorem d_E_has_8 : decode b_E_has 8 = .ok (.ireturn, 1) := by decide +kernel
theorem d_E_get_0 : decode b_E_get 0 = .ok (.aload_n 0, 1) := by decide +kernel
theorem d_E_get_1 : decode b_E_get 1 = .ok (.getfield 25, 3) := by decide +kernel
theorem d_E_get_4 : decode b_E_get 4 = .ok (.iload_n 1, 1) := by decide +kernel
theorem d_E_get_5 : decode b_E_get 5 = .ok (.invokevirtual 76, 3) := by decide +kernel
theorem d_E_get_8 : decode b_E_get 8 = .ok (.lreturn, 1) := by decide +kernel
theorem d_E_reads_0 : decode b_E_reads 0 = .ok (.aload_n 0, 1) := by decide +kernel
theorem d_E_reads_1 : decode b_E_reads 1 = .ok (.getfield 25, 3) := by decide +kernel
theorem d_E_reads_4 : decode b_E_reads 4 = .ok (.iload_n 1, 1) := by decide +kernel
theorem d_E_reads_5 : decode b_E_reads 5 = .ok (.invokevirtual 54, 3) := by decide +kernel
theorem d_E_reads_8 : decode b_E_reads 8 = .ok (.ifCond .eq 17, 3) := by decide +kernel
theorem d_E_reads_11 : decode b_E_reads 11 = .ok (.aload_n 0, 1) := by decide +kernel
theorem d_E_reads_12 : decode b_E_reads 12 = .ok (.getfield 25, 3) := by decide +kernel
theorem d_E_reads_15 : decode b_E_reads 15 = .ok (.iload_n 1, 1) := by decide +kernel
theorem d_E_reads_16 : decode b_E_reads 16 = .ok (.invokevirtual 76, 3) := by decide +kernel
theorem d_E_reads_19 : decode b_E_reads 19 = .ok (.invokestatic 80, 3) := by decide +kernel
theorem d_E_reads_22 : decode b_E_reads 22 = .ok (.goto 4, 3) := by decide +kernel
theorem d_E_reads_25 : decode b_E_reads 25 = .ok (.iconst 0, 1) := by decide +kernel
theorem d_E_reads_26 : decode b_E_reads 26 = .ok (.istore_n 2, 1) := by decide +kernel
theorem d_E_reads_27 : decode b_E_reads 27 = .ok (.iconst 1, 1) := by decide +kernel
theorem d_E_reads_28 : decode b_E_reads 28 = .ok (.aload_n 0, 1) := by decide +kernel
theorem d_E_reads_29 : decode b_E_reads 29 = .ok (.getfield 25, 3) := by decide +kernel
theorem d_E_reads_32 : decode b_E_reads 32 = .ok (.iload_n 1, 1) := by decide +kernel
theorem d_E_reads_33 : decode b_E_reads 33 = .ok (.invokevirtual 84, 3) := by decide +kernel
theorem d_E_reads_36 : decode b_E_reads 36 = .ok (.iadd, 1) := by decide +kernel
theorem d_E_reads_37 : decode b_E_reads 37 = .ok (.iload_n 2, 1) := by decide +kernel
theorem d_E_reads_38 : decode b_E_reads 38 = .ok (.iadd, 1) := by decide +kernel
theorem d_E_reads_39 : decode b_E_reads 39 = .ok (.ireturn, 1) := by decide +kernel
theorem d_E_open_0 : decode b_E_open 0 = .ok (.aload_n 0, 1) := by decide +kernel
theorem d_E_open_1 : decode b_E_open 1 = .ok (.getfield 39, 3) := by decide +kernel
theorem d_E_open_4 : decode b_E_open 4 = .ok (.getfield 43, 3) := by decide +kernel
theorem d_E_open_7 : decode b_E_open 7 = .ok (.ifCond .eq 5, 3) := by decide +kernel
theorem d_E_open_10 : decode b_E_open 10 = .ok (.iconst 0, 1) := by decide +kernel
theorem d_E_open_11 : decode b_E_open 11 = .ok (.ireturn, 1) := by decide +kernel
theorem d_E_open_12 : decode b_E_open 12 = .ok (.aload_n 0, 1) := by decide +kernel
theorem d_E_open_13 : decode b_E_open 13 = .ok (.getfield 39, 3) := by decide +kernel
theorem d_E_open_16 : decode b_E_open 16 = .ok (.invokevirtual 88, 3) := by decide +kernel
theorem d_E_open_19 : decode b_E_open 19 = .ok (.iconst 1, 1) := by decide +kernel
theorem d_E_open_20 : decode b_E_open 20 = .ok (.ireturn, 1) := by decide +kernel
theorem d_E_commit_0 : decode b_E_commit 0 = .ok (.aload_n 0, 1) := by decide +kernel
theorem d_E_commit_1 : decode b_E_commit 1 = .ok (.getfield 39, 3) := by decide +kernel
theorem d_E_commit_4 : decode b_E_commit 4 = .ok (.getfield 43, 3) := by decide +kernel
theorem d_E_commit_7 : decode b_E_commit 7 = .ok (.ifCond .ne 5, 3) := by decide +kernel
theorem d_E_commit_10 : decode b_E_commit 10 = .ok (.iconst (-1), 1) := by decide +kernel
theorem d_E_commit_11 : decode b_E_commit 11 = .ok (.ireturn, 1) := by decide +kernel
theorem d_E_commit_12 : decode b_E_commit 12 = .ok (.aload_n 0, 1) := by decide +kernel
theorem d_E_commit_13 : decode b_E_commit 13 = .ok (.getfield 32, 3) := by decide +kernel
theorem d_E_commit_16 : decode b_E_commit 16 = .ok (.getfield 51, 3) := by decide +kernel
theorem d_E_commit_19 : decode b_E_commit 19 = .ok (.istore_n 1, 1) := by decide +kernel
theorem d_E_commit_20 : decode b_E_commit 20 = .ok (.aload_n 0, 1) := by decide +kernel
theorem d_E_commit_21 : decode b_E_commit 21 = .ok (.invokevirtual 91, 3) := by decide +kernel
theorem d_E_commit_24 : decode b_E_commit 24 = .ok (.aload_n 0, 1) := by decide +kernel
theorem d_E_commit_25 : decode b_E_commit 25 = .ok (.getfield 39, 3) := by decide +kernel
theorem d_E_commit_28 : decode b_E_commit 28 = .ok (.invokevirtual 94, 3) := by decide +kernel
theorem d_E_commit_31 : decode b_E_commit 31 = .ok (.aload_n 0, 1) := by decide +kernel
theorem d_E_commit_32 : decode b_E_commit 32 = .ok (.invokevirtual 62, 3) := by decide +kernel
theorem d_E_commit_35 : decode b_E_commit 35 = .ok (.ifCond .eq 10, 3) := by decide +kernel
theorem d_E_commit_38 : decode b_E_commit 38 = .ok (.aload_n 0, 1) := by decide +kernel
theorem d_E_commit_39 : decode b_E_commit 39 = .ok (.iload_n 1, 1) := by decide +kernel
theorem d_E_commit_40 : decode b_E_commit 40 = .ok (.invokevirtual 66, 3) := by decide +kernel
theorem d_E_commit_43 : decode b_E_commit 43 = .ok (.iconst 0, 1) := by decide +kernel
theorem d_E_commit_44 : decode b_E_commit 44 = .ok (.ireturn, 1) := by decide +kernel
theorem d_E_commit_45 : decode b_E_commit 45 = .ok (.aload_n 0, 1) := by decide +kernel
theorem d_E_commit_46 : decode b_E_commit 46 = .ok (.getfield 32, 3) := by decide +kernel
theorem d_E_commit_49 : decode b_E_commit 49 = .ok (.iload_n 1, 1) := by decide +kernel
theorem d_E_commit_50 : decode b_E_commit 50 = .ok (.invokevirtual 97, 3) := by decide +kernel
theorem d_E_commit_53 : decode b_E_commit 53 = .ok (.aload_n 0, 1) := by decide +kernel
theorem d_E_commit_54 : decode b_E_commit 54 = .ok (.getfield 32, 3) := by decide +kernel
theorem d_E_commit_57 : decode b_E_commit 57 = .ok (.getfield 51, 3) := by decide +kernel
theorem d_E_commit_60 : decode b_E_commit 60 = .ok (.iload_n 1, 1) := by decide +kernel
theorem d_E_commit_61 : decode b_E_commit 61 = .ok (.isub, 1) := by decide +kernel
theorem d_E_commit_62 : decode b_E_commit 62 = .ok (.istore_n 2, 1) := by decide +kernel
theorem d_E_commit_63 : decode b_E_commit 63 = .ok (.aload_n 0, 1) := by decide +kernel
theorem d_E_commit_64 : decode b_E_commit 64 = .ok (.getfield 32, 3) := by decide +kernel
theorem d_E_commit_67 : decode b_E_commit 67 = .ok (.iload_n 1, 1) := by decide +kernel
theorem d_E_commit_68 : decode b_E_commit 68 = .ok (.invokevirtual 70, 3) := by decide +kernel
theorem d_E_commit_71 : decode b_E_commit 71 = .ok (.iload_n 2, 1) := by decide +kernel
theorem d_E_commit_72 : decode b_E_commit 72 = .ok (.ireturn, 1) := by decide +kernel
theorem d_E_doStepsOfBatch_0 : decode b_E_doStepsOfBatch 0 = .ok (.iconst 0, 1) := by decide +kernel
theorem d_E_doStepsOfBatch_1 : decode b_E_doStepsOfBatch 1 = .ok (.istore_n 1, 1) := by decide +kernel
theorem d_E_doStepsOfBatch_2 : decode b_E_doStepsOfBatch 2 = .ok (.iload_n 1, 1) := by decide +kernel
theorem d_E_doStepsOfBatch_3 : decode b_E_doStepsOfBatch 3 = .ok (.aload_n 0, 1) := by decide +kernel
theorem d_E_doStepsOfBatch_4 : decode b_E_doStepsOfBatch 4 = .ok (.getfield 39, 3) := by decide +kernel
theorem d_E_doStepsOfBatch_7 : decode b_E_doStepsOfBatch 7 = .ok (.getfield 100, 3) := by decide +kernel
theorem d_E_doStepsOfBatch_10 : decode b_E_doStepsOfBatch 10 = .ok (.if_icmp .ge 59, 3) := by decide +kernel
theorem d_E_doStepsOfBatch_13 : decode b_E_doStepsOfBatch 13 = .ok (.aload_n 0, 1) := by decide +kernel
theorem d_E_doStepsOfBatch_14 : decode b_E_doStepsOfBatch 14 = .ok (.getfield 39, 3) := by decide +kernel
theorem d_E_doStepsOfBatch_17 : decode b_E_doStepsOfBatch 17 = .ok (.getfield 146, 3) := by decide +kernel
theorem d_E_doStepsOfBatch_20 : decode b_E_doStepsOfBatch 20 = .ok (.iload_n 1, 1) := by decide +kernel
theorem d_E_doStepsOfBatch_21 : decode b_E_doStepsOfBatch 21 = .ok (.baload, 1) := by decide +kernel
theorem d_E_doStepsOfBatch_22 : decode b_E_doStepsOfBatch 22 = .ok (.ifCond .eq 28, 3) := by decide +kernel
theorem d_E_doStepsOfBatch_25 : decode b_E_doStepsOfBatch 25 = .ok (.aload_n 0, 1) := by decide +kernel
theorem d_E_doStepsOfBatch_26 : decode b_E_doStepsOfBatch 26 = .ok (.aload_n 0, 1) := by decide +kernel
theorem d_E_doStepsOfBatch_27 : decode b_E_doStepsOfBatch 27 = .ok (.getfield 39, 3) := by decide +kernel
theorem d_E_doStepsOfBatch_30 : decode b_E_doStepsOfBatch 30 = .ok (.getfield 150, 3) := by decide +kernel
theorem d_E_doStepsOfBatch_33 : decode b_E_doStepsOfBatch 33 = .ok (.iload_n 1, 1) := by decide +kernel
theorem d_E_doStepsOfBatch_34 : decode b_E_doStepsOfBatch 34 = .ok (.iaload, 1) := by decide +kernel
theorem d_E_doStepsOfBatch_35 : decode b_E_doStepsOfBatch 35 = .ok (.aload_n 0, 1) := by decide +kernel
theorem d_E_doStepsOfBatch_36 : decode b_E_doStepsOfBatch 36 = .ok (.getfield 39, 3) := by decide +kernel
theorem d_E_doStepsOfBatch_39 : decode b_E_doStepsOfBatch 39 = .ok (.getfield 154, 3) := by decide +kernel
theorem d_E_doStepsOfBatch_42 : decode b_E_doStepsOfBatch 42 = .ok (.iload_n 1, 1) := by decide +kernel
theorem d_E_doStepsOfBatch_43 : decode b_E_doStepsOfBatch 43 = .ok (.laload, 1) := by decide +kernel
theorem d_E_doStepsOfBatch_44 : decode b_E_doStepsOfBatch 44 = .ok (.invokevirtual 58, 3) := by decide +kernel
theorem d_E_doStepsOfBatch_47 : decode b_E_doStepsOfBatch 47 = .ok (.goto 16, 3) := by decide +kernel
theorem d_E_doStepsOfBatch_50 : decode b_E_doStepsOfBatch 50 = .ok (.aload_n 0, 1) := by decide +kernel
theorem d_E_doStepsOfBatch_51 : decode b_E_doStepsOfBatch 51 = .ok (.aload_n 0, 1) := by decide +kernel
theorem d_E_doStepsOfBatch_52 : decode b_E_doStepsOfBatch 52 = .ok (.getfield 39, 3) := by decide +kernel
theorem d_E_doStepsOfBatch_55 : decode b_E_doStepsOfBatch 55 = .ok (.getfield 150, 3) := by decide +kernel
theorem d_E_doStepsOfBatch_58 : decode b_E_doStepsOfBatch 58 = .ok (.iload_n 1, 1) := by decide +kernel
theorem d_E_doStepsOfBatch_59 : decode b_E_doStepsOfBatch 59 = .ok (.iaload, 1) := by decide +kernel
theorem d_E_doStepsOfBatch_60 : decode b_E_doStepsOfBatch 60 = .ok (.invokevirtual 73, 3) := by decide +kernel
theorem d_E_doStepsOfBatch_63 : decode b_E_doStepsOfBatch 63 = .ok (.iinc 1 1, 3) := by decide +kernel
theorem d_E_doStepsOfBatch_66 : decode b_E_doStepsOfBatch 66 = .ok (.goto (-64), 3) := by decide +kernel
theorem d_E_doStepsOfBatch_69 : decode b_E_doStepsOfBatch 69 = .ok (.return_, 1) := by decide +kernel
theorem d_E_abandon_0 : decode b_E_abandon 0 = .ok (.aload_n 0, 1) := by decide +kernel
theorem d_E_abandon_1 : decode b_E_abandon 1 = .ok (.getfield 39, 3) := by decide +kernel
theorem d_E_abandon_4 : decode b_E_abandon 4 = .ok (.getfield 43, 3) := by decide +kernel
theorem d_E_abandon_7 : decode b_E_abandon 7 = .ok (.ifCond .ne 5, 3) := by decide +kernel
theorem d_E_abandon_10 : decode b_E_abandon 10 = .ok (.iconst (-1), 1) := by decide +kernel
theorem d_E_abandon_11 : decode b_E_abandon 11 = .ok (.ireturn, 1) := by decide +kernel
theorem d_E_abandon_12 : decode b_E_abandon 12 = .ok (.aload_n 0, 1) := by decide +kernel
theorem d_E_abandon_13 : decode b_E_abandon 13 = .ok (.getfield 39, 3) := by decide +kernel
theorem d_E_abandon_16 : decode b_E_abandon 16 = .ok (.getfield 100, 3) := by decide +kernel
theorem d_E_abandon_19 : decode b_E_abandon 19 = .ok (.istore_n 1, 1) := by decide +kernel
theorem d_E_abandon_20 : decode b_E_abandon 20 = .ok (.aload_n 0, 1) := by decide +kernel
theorem d_E_abandon_21 : decode b_E_abandon 21 = .ok (.getfield 39, 3) := by decide +kernel
theorem d_E_abandon_24 : decode b_E_abandon 24 = .ok (.invokevirtual 94, 3) := by decide +kernel
theorem d_E_abandon_27 : decode b_E_abandon 27 = .ok (.iload_n 1, 1) := by decide +kernel
theorem d_E_abandon_28 : decode b_E_abandon 28 = .ok (.ireturn, 1) := by decide +kernel
theorem d_E_flush_0 : decode b_E_flush 0 = .ok (.aload_n 0, 1) := by decide +kernel
theorem d_E_flush_1 : decode b_E_flush 1 = .ok (.getfield 32, 3) := by decide +kernel
theorem d_E_flush_4 : decode b_E_flush 4 = .ok (.getfield 51, 3) := by decide +kernel
theorem d_E_flush_7 : decode b_E_flush 7 = .ok (.istore_n 1, 1) := by decide +kernel
theorem d_E_flush_8 : decode b_E_flush 8 = .ok (.aload_n 0, 1) := by decide +kernel
theorem d_E_flush_9 : decode b_E_flush 9 = .ok (.getfield 32, 3) := by decide +kernel
theorem d_E_flush_12 : decode b_E_flush 12 = .ok (.iconst 0, 1) := by decide +kernel
theorem d_E_flush_13 : decode b_E_flush 13 = .ok (.invokevirtual 101, 3) := by decide +kernel
theorem d_E_flush_16 : decode b_E_flush 16 = .ok (.iload_n 1, 1) := by decide +kernel
theorem d_E_flush_17 : decode b_E_flush 17 = .ok (.ireturn, 1) := by decide +kernel
theorem d_E_crash_0 : decode b_E_crash 0 = .ok (.aload_n 0, 1) := by decide +kernel
theorem d_E_crash_1 : decode b_E_crash 1 = .ok (.getfield 32, 3) := by decide +kernel
theorem d_E_crash_4 : decode b_E_crash 4 = .ok (.iload_n 1, 1) := by decide +kernel
theorem d_E_crash_5 : decode b_E_crash 5 = .ok (.invokevirtual 104, 3) := by decide +kernel
theorem d_E_crash_8 : decode b_E_crash 8 = .ok (.istore_n 2, 1) := by decide +kernel
theorem d_E_crash_9 : decode b_E_crash 9 = .ok (.aload_n 0, 1) := by decide +kernel
theorem d_E_crash_10 : decode b_E_crash 10 = .ok (.getfield 32, 3) := by decide +kernel
theorem d_E_crash_13 : decode b_E_crash 13 = .ok (.getfield 51, 3) := by decide +kernel
theorem d_E_crash_16 : decode b_E_crash 16 = .ok (.iload_n 2, 1) := by decide +kernel
theorem d_E_crash_17 : decode b_E_crash 17 = .ok (.isub, 1) := by decide +kernel
theorem d_E_crash_18 : decode b_E_crash 18 = .ok (.istore_n 3, 1) := by decide +kernel
theorem d_E_crash_19 : decode b_E_crash 19 = .ok (.aload_n 0, 1) := by decide +kernel
theorem d_E_crash_20 : decode b_E_crash 20 = .ok (.iload_n 2, 1) := by decide +kernel
theorem d_E_crash_21 : decode b_E_crash 21 = .ok (.invokevirtual 66, 3) := by decide +kernel
theorem d_E_crash_24 : decode b_E_crash 24 = .ok (.aload_n 0, 1) := by decide +kernel
theorem d_E_crash_25 : decode b_E_crash 25 = .ok (.getfield 32, 3) := by decide +kernel
theorem d_E_crash_28 : decode b_E_crash 28 = .ok (.iconst 0, 1) := by decide +kernel
theorem d_E_crash_29 : decode b_E_crash 29 = .ok (.invokevirtual 101, 3) := by decide +kernel
theorem d_E_crash_32 : decode b_E_crash 32 = .ok (.aload_n 0, 1) := by decide +kernel
theorem d_E_crash_33 : decode b_E_crash 33 = .ok (.getfield 39, 3) := by decide +kernel
theorem d_E_crash_36 : decode b_E_crash 36 = .ok (.invokevirtual 94, 3) := by decide +kernel
theorem d_E_crash_39 : decode b_E_crash 39 = .ok (.iload_n 3, 1) := by decide +kernel
theorem d_E_crash_40 : decode b_E_crash 40 = .ok (.ireturn, 1) := by decide +kernel
theorem d_E_unflushed_0 : decode b_E_unflushed 0 = .ok (.aload_n 0, 1) := by decide +kernel
theorem d_E_unflushed_1 : decode b_E_unflushed 1 = .ok (.getfield 32, 3) := by decide +kernel
theorem d_E_unflushed_4 : decode b_E_unflushed 4 = .ok (.getfield 51, 3) := by decide +kernel
theorem d_E_unflushed_7 : decode b_E_unflushed 7 = .ok (.ireturn, 1) := by decide +kernel
theorem d_E_steps_0 : decode b_E_steps 0 = .ok (.aload_n 0, 1) := by decide +kernel
theorem d_E_steps_1 : decode b_E_steps 1 = .ok (.getfield 39, 3) := by decide +kernel
theorem d_E_steps_4 : decode b_E_steps 4 = .ok (.getfield 43, 3) := by decide +kernel
theorem d_E_steps_7 : decode b_E_steps 7 = .ok (.ifCond .eq 13, 3) := by decide +kernel
theorem d_E_steps_10 : decode b_E_steps 10 = .ok (.aload_n 0, 1) := by decide +kernel
theorem d_E_steps_11 : decode b_E_steps 11 = .ok (.getfield 39, 3) := by decide +kernel
theorem d_E_steps_14 : decode b_E_steps 14 = .ok (.getfield 100, 3) := by decide +kernel
theorem d_E_steps_17 : decode b_E_steps 17 = .ok (.goto 4, 3) := by decide +kernel
theorem d_E_steps_20 : decode b_E_steps 20 = .ok (.iconst (-1), 1) := by decide +kernel
theorem d_E_steps_21 : decode b_E_steps 21 = .ok (.ireturn, 1) := by decide +kernel
theorem d_E_size_0 : decode b_E_size 0 = .ok (.aload_n 0, 1) := by decide +kernel
theorem d_E_size_1 : decode b_E_size 1 = .ok (.getfield 25, 3) := by decide +kernel
theorem d_E_size_4 : decode b_E_size 4 = .ok (.getfield 107, 3) := by decide +kernel
theorem d_E_size_7 : decode b_E_size 7 = .ok (.ireturn, 1) := by decide +kernel
theorem d_E_pages_0 : decode b_E_pages 0 = .ok (.aload_n 0, 1) := by decide +kernel
theorem d_E_pages_1 : decode b_E_pages 1 = .ok (.getfield 25, 3) := by decide +kernel
theorem d_E_pages_4 : decode b_E_pages 4 = .ok (.invokevirtual 108, 3) := by decide +kernel
theorem d_E_pages_7 : decode b_E_pages 7 = .ok (.ireturn, 1) := by decide +kernel
theorem d_E_globalDepth_0 : decode b_E_globalDepth 0 = .ok (.aload_n 0, 1) := by decide +kernel
theorem d_E_globalDepth_1 : decode b_E_globalDepth 1 = .ok (.getfield 25, 3) := by decide +kernel
theorem d_E_globalDepth_4 : decode b_E_globalDepth 4 = .ok (.getfield 112, 3) := by decide +kernel
theorem d_E_globalDepth_7 : decode b_E_globalDepth 7 = .ok (.invokevirtual 116, 3) := by decide +kernel
theorem d_E_globalDepth_10 : decode b_E_globalDepth 10 = .ok (.ireturn, 1) := by decide +kernel
theorem d_E_localDepth_0 : decode b_E_localDepth 0 = .ok (.aload_n 0, 1) := by decide +kernel
theorem d_E_localDepth_1 : decode b_E_localDepth 1 = .ok (.getfield 25, 3) := by decide +kernel
theorem d_E_localDepth_4 : decode b_E_localDepth 4 = .ok (.getfield 112, 3) := by decide +kernel
theorem d_E_localDepth_7 : decode b_E_localDepth 7 = .ok (.iload_n 1, 1) := by decide +kernel
theorem d_E_localDepth_8 : decode b_E_localDepth 8 = .ok (.invokestatic 121, 3) := by decide +kernel
theorem d_E_localDepth_11 : decode b_E_localDepth 11 = .ok (.invokevirtual 124, 3) := by decide +kernel
theorem d_E_localDepth_14 : decode b_E_localDepth 14 = .ok (.ireturn, 1) := by decide +kernel
theorem d_E_buckets_0 : decode b_E_buckets 0 = .ok (.aload_n 0, 1) := by decide +kernel
theorem d_E_buckets_1 : decode b_E_buckets 1 = .ok (.getfield 25, 3) := by decide +kernel
theorem d_E_buckets_4 : decode b_E_buckets 4 = .ok (.getfield 112, 3) := by decide +kernel
theorem d_E_buckets_7 : decode b_E_buckets 7 = .ok (.invokevirtual 127, 3) := by decide +kernel
theorem d_E_buckets_10 : decode b_E_buckets 10 = .ok (.ireturn, 1) := by decide +kernel
theorem d_E_bucketAt_0 : decode b_E_bucketAt 0 = .ok (.iload_n 1, 1) := by decide +kernel
theorem d_E_bucketAt_1 : decode b_E_bucketAt 1 = .ok (.ifCond .ge 5, 3) := by decide +kernel
theorem d_E_bucketAt_4 : decode b_E_bucketAt 4 = .ok (.iconst (-1), 1) := by decide +kernel
theorem d_E_bucketAt_5 : decode b_E_bucketAt 5 = .ok (.ireturn, 1) := by decide +kernel
theorem d_E_bucketAt_6 : decode b_E_bucketAt 6 = .ok (.iload_n 1, 1) := by decide +kernel
theorem d_E_bucketAt_7 : decode b_E_bucketAt 7 = .ok (.istore_n 2, 1) := by decide +kernel
theorem d_E_bucketAt_8 : decode b_E_bucketAt 8 = .ok (.iconst 0, 1) := by decide +kernel
theorem d_E_bucketAt_9 : decode b_E_bucketAt 9 = .ok (.istore_n 3, 1) := by decide +kernel
theorem d_E_bucketAt_10 : decode b_E_bucketAt 10 = .ok (.iload_n 3, 1) := by decide +kernel
theorem d_E_bucketAt_11 : decode b_E_bucketAt 11 = .ok (.bipush 64, 2) := by decide +kernel
theorem d_E_bucketAt_13 : decode b_E_bucketAt 13 = .ok (.if_icmp .ge 32, 3) := by decide +kernel
theorem d_E_bucketAt_16 : decode b_E_bucketAt 16 = .ok (.aload_n 0, 1) := by decide +kernel
theorem d_E_bucketAt_17 : decode b_E_bucketAt 17 = .ok (.getfield 25, 3) := by decide +kernel
theorem d_E_bucketAt_20 : decode b_E_bucketAt 20 = .ok (.getfield 112, 3) := by decide +kernel
theorem d_E_bucketAt_23 : decode b_E_bucketAt 23 = .ok (.iload_n 3, 1) := by decide +kernel
theorem d_E_bucketAt_24 : decode b_E_bucketAt 24 = .ok (.invokevirtual 130, 3) := by decide +kernel
theorem d_E_bucketAt_27 : decode b_E_bucketAt 27 = .ok (.ifCond .eq 12, 3) := by decide +kernel
theorem d_E_bucketAt_30 : decode b_E_bucketAt 30 = .ok (.iload_n 2, 1) := by decide +kernel
theorem d_E_bucketAt_31 : decode b_E_bucketAt 31 = .ok (.ifCond .ne 5, 3) := by decide +kernel
theorem d_E_bucketAt_34 : decode b_E_bucketAt 34 = .ok (.iload_n 3, 1) := by decide +kernel
theorem d_E_bucketAt_35 : decode b_E_bucketAt 35 = .ok (.ireturn, 1) := by decide +kernel
theorem d_E_bucketAt_36 : decode b_E_bucketAt 36 = .ok (.iinc 2 (-1), 3) := by decide +kernel
theorem d_E_bucketAt_39 : decode b_E_bucketAt 39 = .ok (.iinc 3 1, 3) := by decide +kernel
theorem d_E_bucketAt_42 : decode b_E_bucketAt 42 = .ok (.goto (-32), 3) := by decide +kernel
theorem d_E_bucketAt_45 : decode b_E_bucketAt 45 = .ok (.iconst (-1), 1) := by decide +kernel
theorem d_E_bucketAt_46 : decode b_E_bucketAt 46 = .ok (.ireturn, 1) := by decide +kernel
theorem d_E_keyAt_0 : decode b_E_keyAt 0 = .ok (.aload_n 0, 1) := by decide +kernel
theorem d_E_keyAt_1 : decode b_E_keyAt 1 = .ok (.getfield 25, 3) := by decide +kernel
theorem d_E_keyAt_4 : decode b_E_keyAt 4 = .ok (.iload_n 1, 1) := by decide +kernel
theorem d_E_keyAt_5 : decode b_E_keyAt 5 = .ok (.invokevirtual 133, 3) := by decide +kernel
theorem d_E_keyAt_8 : decode b_E_keyAt 8 = .ok (.ireturn, 1) := by decide +kernel
theorem d_C_init_0 : decode b_C_init 0 = .ok (.aload_n 0, 1) := by decide +kernel
theorem d_C_init_1 : decode b_C_init 1 = .ok (.invokespecial 3, 3) := by decide +kernel
theorem d_C_init_4 : decode b_C_init 4 = .ok (.aload_n 0, 1) := by decide +kernel
theorem d_C_init_5 : decode b_C_init 5 = .ok (.sipush 128, 3) := by decide +kernel
theorem d_C_init_8 : decode b_C_init 8 = .ok (.newarray .int, 2) := by decide +kernel
theorem d_C_init_10 : decode b_C_init 10 = .ok (.putfield 9, 3) := by decide +kernel
theorem d_C_init_13 : decode b_C_init 13 = .ok (.aload_n 0, 1) := by decide +kernel
theorem d_C_init_14 : decode b_C_init 14 = .ok (.sipush 128, 3) := by decide +kernel
theorem d_C_init_17 : decode b_C_init 17 = .ok (.newarray .int, 2) := by decide +kernel
theorem d_C_init_19 : decode b_C_init 19 = .ok (.putfield 15, 3) := by decide +kernel
theorem d_C_init_22 : decode b_C_init 22 = .ok (.return_, 1) := by decide +kernel
theorem d_C_countKey_0 : decode b_C_countKey 0 = .ok (.aload_n 0, 1) := by decide +kernel
theorem d_C_countKey_1 : decode b_C_countKey 1 = .ok (.getfield 9, 3) := by decide +kernel
theorem d_C_countKey_4 : decode b_C_countKey 4 = .ok (.bipush 6, 2) := by decide +kernel
theorem d_C_countKey_6 : decode b_C_countKey 6 = .ok (.iload_n 1, 1) := by decide +kernel
theorem d_C_countKey_7 : decode b_C_countKey 7 = .ok (.invokestatic 18, 3) := by decide +kernel
theorem d_C_countKey_10 : decode b_C_countKey 10 = .ok (.iaload, 1) := by decide +kernel
theorem d_C_countKey_11 : decode b_C_countKey 11 = .ok (.istore_n 3, 1) := by decide +kernel
theorem d_C_countKey_12 : decode b_C_countKey 12 = .ok (.iload_n 3, 1) := by decide +kernel
theorem d_C_countKey_13 : decode b_C_countKey 13 = .ok (.ifCond .eq 9, 3) := by decide +kernel
theorem d_C_countKey_16 : decode b_C_countKey 16 = .ok (.iload_n 3, 1) := by decide +kernel
theorem d_C_countKey_17 : decode b_C_countKey 17 = .ok (.iload_n 2, 1) := by decide +kernel
theorem d_C_countKey_18 : decode b_C_countKey 18 = .ok (.iadd, 1) := by decide +kernel
theorem d_C_countKey_19 : decode b_C_countKey 19 = .ok (.ifCond .ne 7, 3) := by decide +kernel
theorem d_C_countKey_22 : decode b_C_countKey 22 = .ok (.iconst 1, 1) := by decide +kernel
theorem d_C_countKey_23 : decode b_C_countKey 23 = .ok (.goto 4, 3) := by decide +kernel
theorem d_C_countKey_26 : decode b_C_countKey 26 = .ok (.iconst 0, 1) := by decide +kernel
theorem d_C_countKey_27 : decode b_C_countKey 27 = .ok (.istore 4, 2) := by decide +kernel
theorem d_C_countKey_29 : decode b_C_countKey 29 = .ok (.iconst 0, 1) := by decide +kernel
theorem d_C_countKey_30 : decode b_C_countKey 30 = .ok (.istore 5, 2) := by decide +kernel
theorem d_C_countKey_32 : decode b_C_countKey 32 = .ok (.iload 5, 2) := by decide +kernel
theorem d_C_countKey_34 : decode b_C_countKey 34 = .ok (.bipush 6, 2) := by decide +kernel
theorem d_C_countKey_36 : decode b_C_countKey 36 = .ok (.if_icmp .gt 44, 3) := by decide +kernel
theorem d_C_countKey_39 : decode b_C_countKey 39 = .ok (.iload 5, 2) := by decide +kernel
theorem d_C_countKey_41 : decode b_C_countKey 41 = .ok (.iload_n 1, 1) := by decide +kernel
theorem d_C_countKey_42 : decode b_C_countKey 42 = .ok (.invokestatic 18, 3) := by decide +kernel
theorem d_C_countKey_45 : decode b_C_countKey 45 = .ok (.istore 6, 2) := by decide +kernel
theorem d_C_countKey_47 : decode b_C_countKey 47 = .ok (.aload_n 0, 1) := by decide +kernel
theorem d_C_countKey_48 : decode b_C_countKey 48 = .ok (.getfield 9, 3) := by decide +kernel
theorem d_C_countKey_51 : decode b_C_countKey 51 = .ok (.iload 6, 2) := by decide +kernel
theorem d_C_countKey_53 : decode b_C_countKey 53 = .ok (.dup2, 1) := by decide +kernel
theorem d_C_countKey_54 : decode b_C_countKey 54 = .ok (.iaload, 1) := by decide +kernel
theorem d_C_countKey_55 : decode b_C_countKey 55 = .ok (.iload_n 2, 1) := by decide +kernel
theorem d_C_countKey_56 : decode b_C_countKey 56 = .ok (.iadd, 1) := by decide +kernel
theorem d_C_countKey_57 : decode b_C_countKey 57 = .ok (.iastore, 1) := by decide +kernel
theorem d_C_countKey_58 : decode b_C_countKey 58 = .ok (.iload 4, 2) := by decide +kernel
theorem d_C_countKey_60 : decode b_C_countKey 60 = .ok (.ifCond .eq 14, 3) := by decide +kernel
theorem d_C_countKey_63 : decode b_C_countKey 63 = .ok (.aload_n 0, 1) := by decide +kernel
theorem d_C_countKey_64 : decode b_C_countKey 64 = .ok (.getfield 15, 3) := by decide +kernel
theorem d_C_countKey_67 : decode b_C_countKey 67 = .ok (.iload 6, 2) := by decide +kernel
theorem d_C_countKey_69 : decode b_C_countKey 69 = .ok (.dup2, 1) := by decide +kernel
theorem d_C_countKey_70 : decode b_C_countKey 70 = .ok (.iaload, 1) := by decide +kernel
theorem d_C_countKey_71 : decode b_C_countKey 71 = .ok (.iload_n 2, 1) := by decide +kernel
theorem d_C_countKey_72 : decode b_C_countKey 72 = .ok (.iadd, 1) := by decide +kernel
theorem d_C_countKey_73 : decode b_C_countKey 73 = .ok (.iastore, 1) := by decide +kernel
theorem d_C_countKey_74 : decode b_C_countKey 74 = .ok (.iinc 5 1, 3) := by decide +kernel
theorem d_C_countKey_77 : decode b_C_countKey 77 = .ok (.goto (-45), 3) := by decide +kernel
theorem d_C_countKey_80 : decode b_C_countKey 80 = .ok (.return_, 1) := by decide +kernel
theorem d_C_cell_0 : decode b_C_cell 0 = .ok (.iconst 1, 1) := by decide +kernel
theorem d_C_cell_1 : decode b_C_cell 1 = .ok (.iload_n 0, 1) := by decide +kernel
theorem d_C_cell_2 : decode b_C_cell 2 = .ok (.ishl, 1) := by decide +kernel
theorem d_C_cell_3 : decode b_C_cell 3 = .ok (.istore_n 2, 1) := by decide +kernel
theorem d_C_cell_4 : decode b_C_cell 4 = .ok (.iload_n 2, 1) := by decide +kernel
theorem d_C_cell_5 : decode b_C_cell 5 = .ok (.iload_n 1, 1) := by decide +kernel
theorem d_C_cell_6 : decode b_C_cell 6 = .ok (.iload_n 2, 1) := by decide +kernel
theorem d_C_cell_7 : decode b_C_cell 7 = .ok (.iconst 1, 1) := by decide +kernel
theorem d_C_cell_8 : decode b_C_cell 8 = .ok (.isub, 1) := by decide +kernel
theorem d_C_cell_9 : decode b_C_cell 9 = .ok (.iand, 1) := by decide +kernel
theorem d_C_cell_10 : decode b_C_cell 10 = .ok (.iadd, 1) := by decide +kernel
theorem d_C_cell_11 : decode b_C_cell 11 = .ok (.ireturn, 1) := by decide +kernel
theorem d_C_deepest_0 : decode b_C_deepest 0 = .ok (.iconst 0, 1) := by decide +kernel
theorem d_C_deepest_1 : decode b_C_deepest 1 = .ok (.istore_n 1, 1) := by decide +kernel
theorem d_C_deepest_2 : decode b_C_deepest 2 = .ok (.iconst 0, 1) := by decide +kernel
theorem d_C_deepest_3 : decode b_C_deepest 3 = .ok (.istore_n 2, 1) := by decide +kernel
theorem d_C_deepest_4 : decode b_C_deepest 4 = .ok (.iload_n 2, 1) := by decide +kernel
theorem d_C_deepest_5 : decode b_C_deepest 5 = .ok (.bipush 64, 2) := by decide +kernel
theorem d_C_deepest_7 : decode b_C_deepest 7 = .ok (.if_icmp .ge 19, 3) := by decide +kernel
theorem d_C_deepest_10 : decode b_C_deepest 10 = .ok (.iload_n 1, 1) := by decide +kernel
theorem d_C_deepest_11 : decode b_C_deepest 11 = .ok (.aload_n 0, 1) := by decide +kernel
theorem d_C_deepest_12 : decode b_C_deepest 12 = .ok (.iload_n 2, 1) := by decide +kernel
theorem d_C_deepest_13 : decode b_C_deepest 13 = .ok (.invokevirtual 26, 3) := by decide +kernel
theorem d_C_deepest_16 : decode b_C_deepest 16 = .ok (.invokestatic 30, 3) := by decide +kernel
theorem d_C_deepest_19 : decode b_C_deepest 19 = .ok (.istore_n 1, 1) := by decide +kernel
theorem d_C_deepest_20 : decode b_C_deepest 20 = .ok (.iinc 2 1, 3) := by decide +kernel
theorem d_C_deepest_23 : decode b_C_deepest 23 = .ok (.goto (-19), 3) := by decide +kernel
theorem d_C_deepest_26 : decode b_C_deepest 26 = .ok (.iload_n 1, 1) := by decide +kernel
theorem d_C_deepest_27 : decode b_C_deepest 27 = .ok (.ireturn, 1) := by decide +kernel
theorem d_C_depthOf_0 : decode b_C_depthOf 0 = .ok (.iconst 0, 1) := by decide +kernel
theorem d_C_depthOf_1 : decode b_C_depthOf 1 = .ok (.istore_n 2, 1) := by decide +kernel
theorem d_C_depthOf_2 : decode b_C_depthOf 2 = .ok (.iload_n 2, 1) := by decide +kernel
theorem d_C_depthOf_3 : decode b_C_depthOf 3 = .ok (.bipush 6, 2) := by decide +kernel
theorem d_C_depthOf_5 : decode b_C_depthOf 5 = .ok (.if_icmp .ge 23, 3) := by decide +kernel
theorem d_C_depthOf_8 : decode b_C_depthOf 8 = .ok (.aload_n 0, 1) := by decide +kernel
theorem d_C_depthOf_9 : decode b_C_depthOf 9 = .ok (.iload_n 2, 1) := by decide +kernel
theorem d_C_depthOf_10 : decode b_C_depthOf 10 = .ok (.iload_n 1, 1) := by decide +kernel
theorem d_C_depthOf_11 : decode b_C_depthOf 11 = .ok (.invokestatic 18, 3) := by decide +kernel
theorem d_C_depthOf_14 : decode b_C_depthOf 14 = .ok (.invokevirtual 22, 3) := by decide +kernel
theorem d_C_depthOf_17 : decode b_C_depthOf 17 = .ok (.ifCond .eq 5, 3) := by decide +kernel
theorem d_C_depthOf_20 : decode b_C_depthOf 20 = .ok (.iload_n 2, 1) := by decide +kernel
theorem d_C_depthOf_21 : decode b_C_depthOf 21 = .ok (.ireturn, 1) := by decide +kernel
theorem d_C_depthOf_22 : decode b_C_depthOf 22 = .ok (.iinc 2 1, 3) := by decide +kernel
theorem d_C_depthOf_25 : decode b_C_depthOf 25 = .ok (.goto (-23), 3) := by decide +kernel
theorem d_C_depthOf_28 : decode b_C_depthOf 28 = .ok (.bipush 6, 2) := by decide +kernel
theorem d_C_depthOf_30 : decode b_C_depthOf 30 = .ok (.ireturn, 1) := by decide +kernel
theorem d_C_isGood_0 : decode b_C_isGood 0 = .ok (.aload_n 0, 1) := by decide +kernel
theorem d_C_isGood_1 : decode b_C_isGood 1 = .ok (.getfield 9, 3) := by decide +kernel
theorem d_C_isGood_4 : decode b_C_isGood 4 = .ok (.iload_n 1, 1) := by decide +kernel
theorem d_C_isGood_5 : decode b_C_isGood 5 = .ok (.iaload, 1) := by decide +kernel
theorem d_C_isGood_6 : decode b_C_isGood 6 = .ok (.iconst 4, 1) := by decide +kernel
theorem d_C_isGood_7 : decode b_C_isGood 7 = .ok (.if_icmp .le 13, 3) := by decide +kernel
theorem d_C_isGood_10 : decode b_C_isGood 10 = .ok (.aload_n 0, 1) := by decide +kernel
theorem d_C_isGood_11 : decode b_C_isGood 11 = .ok (.getfield 15, 3) := by decide +kernel
theorem d_C_isGood_14 : decode b_C_isGood 14 = .ok (.iload_n 1, 1) := by decide +kernel
theorem d_C_isGood_15 : decode b_C_isGood 15 = .ok (.iaload, 1) := by decide +kernel
theorem d_C_isGood_16 : decode b_C_isGood 16 = .ok (.iconst 1, 1) := by decide +kernel
theorem d_C_isGood_17 : decode b_C_isGood 17 = .ok (.if_icmp .ne 7, 3) := by decide +kernel
theorem d_C_isGood_20 : decode b_C_isGood 20 = .ok (.iconst 1, 1) := by decide +kernel
theorem d_C_isGood_21 : decode b_C_isGood 21 = .ok (.goto 4, 3) := by decide +kernel
theorem d_C_isGood_24 : decode b_C_isGood 24 = .ok (.iconst 0, 1) := by decide +kernel
theorem d_C_isGood_25 : decode b_C_isGood 25 = .ok (.ireturn, 1) := by decide +kernel
theorem d_C_isPlace_0 : decode b_C_isPlace 0 = .ok (.iload_n 1, 1) := by decide +kernel
theorem d_C_isPlace_1 : decode b_C_isPlace 1 = .ok (.aload_n 0, 1) := by decide +kernel
theorem d_C_isPlace_2 : decode b_C_isPlace 2 = .ok (.iload_n 1, 1) := by decide +kernel
theorem d_C_isPlace_3 : decode b_C_isPlace 3 = .ok (.invokevirtual 35, 3) := by decide +kernel
theorem d_C_isPlace_6 : decode b_C_isPlace 6 = .ok (.iand, 1) := by decide +kernel
theorem d_C_isPlace_7 : decode b_C_isPlace 7 = .ok (.iload_n 1, 1) := by decide +kernel
theorem d_C_isPlace_8 : decode b_C_isPlace 8 = .ok (.if_icmp .ne 7, 3) := by decide +kernel
theorem d_C_isPlace_11 : decode b_C_isPlace 11 = .ok (.iconst 1, 1) := by decide +kernel
theorem d_C_isPlace_12 : decode b_C_isPlace 12 = .ok (.goto 4, 3) := by decide +kernel
theorem d_C_isPlace_15 : decode b_C_isPlace 15 = .ok (.iconst 0, 1) := by decide +kernel
theorem d_C_isPlace_16 : decode b_C_isPlace 16 = .ok (.ireturn, 1) := by decide +kernel
theorem d_C_maskOf_0 : decode b_C_maskOf 0 = .ok (.iconst 1, 1) := by decide +kernel
theorem d_C_maskOf_1 : decode b_C_maskOf 1 = .ok (.aload_n 0, 1) := by decide +kernel
theorem d_C_maskOf_2 : decode b_C_maskOf 2 = .ok (.iload_n 1, 1) := by decide +kernel
theorem d_C_maskOf_3 : decode b_C_maskOf 3 = .ok (.invokevirtual 26, 3) := by decide +kernel
theorem d_C_maskOf_6 : decode b_C_maskOf 6 = .ok (.ishl, 1) := by decide +kernel
theorem d_C_maskOf_7 : decode b_C_maskOf 7 = .ok (.iconst 1, 1) := by decide +kernel
