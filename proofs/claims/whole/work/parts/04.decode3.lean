/-! Decode rows. -/
theorem d_M_bytes_1 : decode b_M_bytes 1 = .ok (.istore_n 3, 1) := by decide +kernel
theorem d_M_bytes_2 : decode b_M_bytes 2 = .ok (.lload_n 1, 1) := by decide +kernel
theorem d_M_bytes_3 : decode b_M_bytes 3 = .ok (.bipush 8, 2) := by decide +kernel
theorem d_M_bytes_5 : decode b_M_bytes 5 = .ok (.lshr, 1) := by decide +kernel
theorem d_M_bytes_6 : decode b_M_bytes 6 = .ok (.lstore 4, 2) := by decide +kernel
theorem d_M_bytes_8 : decode b_M_bytes 8 = .ok (.iconst 0, 1) := by decide +kernel
theorem d_M_bytes_9 : decode b_M_bytes 9 = .ok (.istore 6, 2) := by decide +kernel
theorem d_M_bytes_11 : decode b_M_bytes 11 = .ok (.iload 6, 2) := by decide +kernel
theorem d_M_bytes_13 : decode b_M_bytes 13 = .ok (.bipush 7, 2) := by decide +kernel
theorem d_M_bytes_15 : decode b_M_bytes 15 = .ok (.if_icmp .ge 37, 3) := by decide +kernel
theorem d_M_bytes_18 : decode b_M_bytes 18 = .ok (.lload_n 1, 1) := by decide +kernel
theorem d_M_bytes_19 : decode b_M_bytes 19 = .ok (.lconst 0, 1) := by decide +kernel
theorem d_M_bytes_20 : decode b_M_bytes 20 = .ok (.lcmp, 1) := by decide +kernel
theorem d_M_bytes_21 : decode b_M_bytes 21 = .ok (.ifCond .lt 31, 3) := by decide +kernel
theorem d_M_bytes_24 : decode b_M_bytes 24 = .ok (.lload 4, 2) := by decide +kernel
theorem d_M_bytes_26 : decode b_M_bytes 26 = .ok (.lconst 0, 1) := by decide +kernel
theorem d_M_bytes_27 : decode b_M_bytes 27 = .ok (.lcmp, 1) := by decide +kernel
theorem d_M_bytes_28 : decode b_M_bytes 28 = .ok (.ifCond .le 9, 3) := by decide +kernel
theorem d_M_bytes_31 : decode b_M_bytes 31 = .ok (.iload_n 3, 1) := by decide +kernel
theorem d_M_bytes_32 : decode b_M_bytes 32 = .ok (.iconst 1, 1) := by decide +kernel
theorem d_M_bytes_33 : decode b_M_bytes 33 = .ok (.iadd, 1) := by decide +kernel
theorem d_M_bytes_34 : decode b_M_bytes 34 = .ok (.goto 4, 3) := by decide +kernel
theorem d_M_bytes_37 : decode b_M_bytes 37 = .ok (.iload_n 3, 1) := by decide +kernel
theorem d_M_bytes_38 : decode b_M_bytes 38 = .ok (.istore_n 3, 1) := by decide +kernel
theorem d_M_bytes_39 : decode b_M_bytes 39 = .ok (.lload 4, 2) := by decide +kernel
theorem d_M_bytes_41 : decode b_M_bytes 41 = .ok (.bipush 8, 2) := by decide +kernel
theorem d_M_bytes_43 : decode b_M_bytes 43 = .ok (.lshr, 1) := by decide +kernel
theorem d_M_bytes_44 : decode b_M_bytes 44 = .ok (.lstore 4, 2) := by decide +kernel
theorem d_M_bytes_46 : decode b_M_bytes 46 = .ok (.iinc 6 1, 3) := by decide +kernel
theorem d_M_bytes_49 : decode b_M_bytes 49 = .ok (.goto (-38), 3) := by decide +kernel
theorem d_M_bytes_52 : decode b_M_bytes 52 = .ok (.lload_n 1, 1) := by decide +kernel
theorem d_M_bytes_53 : decode b_M_bytes 53 = .ok (.lconst 0, 1) := by decide +kernel
theorem d_M_bytes_54 : decode b_M_bytes 54 = .ok (.lcmp, 1) := by decide +kernel
theorem d_M_bytes_55 : decode b_M_bytes 55 = .ok (.ifCond .ge 8, 3) := by decide +kernel
theorem d_M_bytes_58 : decode b_M_bytes 58 = .ok (.bipush 8, 2) := by decide +kernel
theorem d_M_bytes_60 : decode b_M_bytes 60 = .ok (.goto 4, 3) := by decide +kernel
theorem d_M_bytes_63 : decode b_M_bytes 63 = .ok (.iload_n 3, 1) := by decide +kernel
theorem d_M_bytes_64 : decode b_M_bytes 64 = .ok (.ireturn, 1) := by decide +kernel
theorem d_M_settle_0 : decode b_M_settle 0 = .ok (.aload_n 0, 1) := by decide +kernel
theorem d_M_settle_1 : decode b_M_settle 1 = .ok (.iload_n 1, 1) := by decide +kernel
theorem d_M_settle_2 : decode b_M_settle 2 = .ok (.invokevirtual 69, 3) := by decide +kernel
theorem d_M_settle_5 : decode b_M_settle 5 = .ok (.aload_n 0, 1) := by decide +kernel
theorem d_M_settle_6 : decode b_M_settle 6 = .ok (.aload_n 0, 1) := by decide +kernel
theorem d_M_settle_7 : decode b_M_settle 7 = .ok (.getfield 48, 3) := by decide +kernel
theorem d_M_settle_10 : decode b_M_settle 10 = .ok (.putfield 55, 3) := by decide +kernel
theorem d_M_settle_13 : decode b_M_settle 13 = .ok (.iconst 0, 1) := by decide +kernel
theorem d_M_settle_14 : decode b_M_settle 14 = .ok (.istore_n 2, 1) := by decide +kernel
theorem d_M_settle_15 : decode b_M_settle 15 = .ok (.iload_n 2, 1) := by decide +kernel
theorem d_M_settle_16 : decode b_M_settle 16 = .ok (.aload_n 0, 1) := by decide +kernel
theorem d_M_settle_17 : decode b_M_settle 17 = .ok (.getfield 48, 3) := by decide +kernel
theorem d_M_settle_20 : decode b_M_settle 20 = .ok (.if_icmp .ge 33, 3) := by decide +kernel
theorem d_M_settle_23 : decode b_M_settle 23 = .ok (.aload_n 0, 1) := by decide +kernel
theorem d_M_settle_24 : decode b_M_settle 24 = .ok (.getfield 7, 3) := by decide +kernel
theorem d_M_settle_27 : decode b_M_settle 27 = .ok (.iload_n 2, 1) := by decide +kernel
theorem d_M_settle_28 : decode b_M_settle 28 = .ok (.aload_n 0, 1) := by decide +kernel
theorem d_M_settle_29 : decode b_M_settle 29 = .ok (.getfield 38, 3) := by decide +kernel
theorem d_M_settle_32 : decode b_M_settle 32 = .ok (.iload_n 2, 1) := by decide +kernel
theorem d_M_settle_33 : decode b_M_settle 33 = .ok (.iaload, 1) := by decide +kernel
theorem d_M_settle_34 : decode b_M_settle 34 = .ok (.iastore, 1) := by decide +kernel
theorem d_M_settle_35 : decode b_M_settle 35 = .ok (.aload_n 0, 1) := by decide +kernel
theorem d_M_settle_36 : decode b_M_settle 36 = .ok (.getfield 13, 3) := by decide +kernel
theorem d_M_settle_39 : decode b_M_settle 39 = .ok (.iload_n 2, 1) := by decide +kernel
theorem d_M_settle_40 : decode b_M_settle 40 = .ok (.aload_n 0, 1) := by decide +kernel
theorem d_M_settle_41 : decode b_M_settle 41 = .ok (.getfield 41, 3) := by decide +kernel
theorem d_M_settle_44 : decode b_M_settle 44 = .ok (.iload_n 2, 1) := by decide +kernel
theorem d_M_settle_45 : decode b_M_settle 45 = .ok (.laload, 1) := by decide +kernel
theorem d_M_settle_46 : decode b_M_settle 46 = .ok (.lastore, 1) := by decide +kernel
theorem d_M_settle_47 : decode b_M_settle 47 = .ok (.iinc 2 1, 3) := by decide +kernel
theorem d_M_settle_50 : decode b_M_settle 50 = .ok (.goto (-35), 3) := by decide +kernel
theorem d_M_settle_53 : decode b_M_settle 53 = .ok (.iload_n 1, 1) := by decide +kernel
theorem d_M_settle_54 : decode b_M_settle 54 = .ok (.istore_n 2, 1) := by decide +kernel
theorem d_M_settle_55 : decode b_M_settle 55 = .ok (.iload_n 2, 1) := by decide +kernel
theorem d_M_settle_56 : decode b_M_settle 56 = .ok (.aload_n 0, 1) := by decide +kernel
theorem d_M_settle_57 : decode b_M_settle 57 = .ok (.getfield 66, 3) := by decide +kernel
theorem d_M_settle_60 : decode b_M_settle 60 = .ok (.if_icmp .ge 67, 3) := by decide +kernel
theorem d_M_settle_63 : decode b_M_settle 63 = .ok (.aload_n 0, 1) := by decide +kernel
theorem d_M_settle_64 : decode b_M_settle 64 = .ok (.getfield 17, 3) := by decide +kernel
theorem d_M_settle_67 : decode b_M_settle 67 = .ok (.iload_n 2, 1) := by decide +kernel
theorem d_M_settle_68 : decode b_M_settle 68 = .ok (.iload_n 1, 1) := by decide +kernel
theorem d_M_settle_69 : decode b_M_settle 69 = .ok (.isub, 1) := by decide +kernel
theorem d_M_settle_70 : decode b_M_settle 70 = .ok (.aload_n 0, 1) := by decide +kernel
theorem d_M_settle_71 : decode b_M_settle 71 = .ok (.getfield 17, 3) := by decide +kernel
theorem d_M_settle_74 : decode b_M_settle 74 = .ok (.iload_n 2, 1) := by decide +kernel
theorem d_M_settle_75 : decode b_M_settle 75 = .ok (.iaload, 1) := by decide +kernel
theorem d_M_settle_76 : decode b_M_settle 76 = .ok (.iastore, 1) := by decide +kernel
theorem d_M_settle_77 : decode b_M_settle 77 = .ok (.aload_n 0, 1) := by decide +kernel
theorem d_M_settle_78 : decode b_M_settle 78 = .ok (.getfield 20, 3) := by decide +kernel
theorem d_M_settle_81 : decode b_M_settle 81 = .ok (.iload_n 2, 1) := by decide +kernel
theorem d_M_settle_82 : decode b_M_settle 82 = .ok (.iload_n 1, 1) := by decide +kernel
theorem d_M_settle_83 : decode b_M_settle 83 = .ok (.isub, 1) := by decide +kernel
theorem d_M_settle_84 : decode b_M_settle 84 = .ok (.aload_n 0, 1) := by decide +kernel
theorem d_M_settle_85 : decode b_M_settle 85 = .ok (.getfield 20, 3) := by decide +kernel
theorem d_M_settle_88 : decode b_M_settle 88 = .ok (.iload_n 2, 1) := by decide +kernel
theorem d_M_settle_89 : decode b_M_settle 89 = .ok (.iaload, 1) := by decide +kernel
theorem d_M_settle_90 : decode b_M_settle 90 = .ok (.iastore, 1) := by decide +kernel
theorem d_M_settle_91 : decode b_M_settle 91 = .ok (.aload_n 0, 1) := by decide +kernel
theorem d_M_settle_92 : decode b_M_settle 92 = .ok (.getfield 23, 3) := by decide +kernel
theorem d_M_settle_95 : decode b_M_settle 95 = .ok (.iload_n 2, 1) := by decide +kernel
theorem d_M_settle_96 : decode b_M_settle 96 = .ok (.iload_n 1, 1) := by decide +kernel
theorem d_M_settle_97 : decode b_M_settle 97 = .ok (.isub, 1) := by decide +kernel
theorem d_M_settle_98 : decode b_M_settle 98 = .ok (.aload_n 0, 1) := by decide +kernel
theorem d_M_settle_99 : decode b_M_settle 99 = .ok (.getfield 23, 3) := by decide +kernel
theorem d_M_settle_102 : decode b_M_settle 102 = .ok (.iload_n 2, 1) := by decide +kernel
theorem d_M_settle_103 : decode b_M_settle 103 = .ok (.laload, 1) := by decide +kernel
theorem d_M_settle_104 : decode b_M_settle 104 = .ok (.lastore, 1) := by decide +kernel
theorem d_M_settle_105 : decode b_M_settle 105 = .ok (.aload_n 0, 1) := by decide +kernel
theorem d_M_settle_106 : decode b_M_settle 106 = .ok (.getfield 26, 3) := by decide +kernel
theorem d_M_settle_109 : decode b_M_settle 109 = .ok (.iload_n 2, 1) := by decide +kernel
theorem d_M_settle_110 : decode b_M_settle 110 = .ok (.iload_n 1, 1) := by decide +kernel
theorem d_M_settle_111 : decode b_M_settle 111 = .ok (.isub, 1) := by decide +kernel
theorem d_M_settle_112 : decode b_M_settle 112 = .ok (.aload_n 0, 1) := by decide +kernel
theorem d_M_settle_113 : decode b_M_settle 113 = .ok (.getfield 26, 3) := by decide +kernel
theorem d_M_settle_116 : decode b_M_settle 116 = .ok (.iload_n 2, 1) := by decide +kernel
theorem d_M_settle_117 : decode b_M_settle 117 = .ok (.iaload, 1) := by decide +kernel
theorem d_M_settle_118 : decode b_M_settle 118 = .ok (.iload_n 1, 1) := by decide +kernel
theorem d_M_settle_119 : decode b_M_settle 119 = .ok (.isub, 1) := by decide +kernel
theorem d_M_settle_120 : decode b_M_settle 120 = .ok (.iastore, 1) := by decide +kernel
theorem d_M_settle_121 : decode b_M_settle 121 = .ok (.iinc 2 1, 3) := by decide +kernel
theorem d_M_settle_124 : decode b_M_settle 124 = .ok (.goto (-69), 3) := by decide +kernel
theorem d_M_settle_127 : decode b_M_settle 127 = .ok (.aload_n 0, 1) := by decide +kernel
theorem d_M_settle_128 : decode b_M_settle 128 = .ok (.aload_n 0, 1) := by decide +kernel
theorem d_M_settle_129 : decode b_M_settle 129 = .ok (.getfield 66, 3) := by decide +kernel
theorem d_M_settle_132 : decode b_M_settle 132 = .ok (.iload_n 1, 1) := by decide +kernel
theorem d_M_settle_133 : decode b_M_settle 133 = .ok (.isub, 1) := by decide +kernel
theorem d_M_settle_134 : decode b_M_settle 134 = .ok (.putfield 66, 3) := by decide +kernel
theorem d_M_settle_137 : decode b_M_settle 137 = .ok (.return_, 1) := by decide +kernel
theorem d_M_delete_0 : decode b_M_delete 0 = .ok (.aload_n 0, 1) := by decide +kernel
theorem d_M_delete_1 : decode b_M_delete 1 = .ok (.getfield 113, 3) := by decide +kernel
theorem d_M_delete_4 : decode b_M_delete 4 = .ok (.ifCond .eq 11, 3) := by decide +kernel
theorem d_M_delete_7 : decode b_M_delete 7 = .ok (.aload_n 0, 1) := by decide +kernel
theorem d_M_delete_8 : decode b_M_delete 8 = .ok (.iconst 1, 1) := by decide +kernel
theorem d_M_delete_9 : decode b_M_delete 9 = .ok (.iload_n 1, 1) := by decide +kernel
theorem d_M_delete_10 : decode b_M_delete 10 = .ok (.lconst 0, 1) := by decide +kernel
theorem d_M_delete_11 : decode b_M_delete 11 = .ok (.invokevirtual 117, 3) := by decide +kernel
theorem d_M_delete_14 : decode b_M_delete 14 = .ok (.ireturn, 1) := by decide +kernel
theorem d_M_delete_15 : decode b_M_delete 15 = .ok (.aload_n 0, 1) := by decide +kernel
theorem d_M_delete_16 : decode b_M_delete 16 = .ok (.iload_n 1, 1) := by decide +kernel
theorem d_M_delete_17 : decode b_M_delete 17 = .ok (.invokevirtual 121, 3) := by decide +kernel
theorem d_M_delete_20 : decode b_M_delete 20 = .ok (.ifCond .ne 5, 3) := by decide +kernel
theorem d_M_delete_23 : decode b_M_delete 23 = .ok (.iconst 0, 1) := by decide +kernel
theorem d_M_delete_24 : decode b_M_delete 24 = .ok (.ireturn, 1) := by decide +kernel
theorem d_M_delete_25 : decode b_M_delete 25 = .ok (.aload_n 0, 1) := by decide +kernel
theorem d_M_delete_26 : decode b_M_delete 26 = .ok (.iconst 1, 1) := by decide +kernel
theorem d_M_delete_27 : decode b_M_delete 27 = .ok (.iload_n 1, 1) := by decide +kernel
theorem d_M_delete_28 : decode b_M_delete 28 = .ok (.lconst 0, 1) := by decide +kernel
theorem d_M_delete_29 : decode b_M_delete 29 = .ok (.aload_n 0, 1) := by decide +kernel
theorem d_M_delete_30 : decode b_M_delete 30 = .ok (.getfield 66, 3) := by decide +kernel
theorem d_M_delete_33 : decode b_M_delete 33 = .ok (.invokevirtual 125, 3) := by decide +kernel
theorem d_M_delete_36 : decode b_M_delete 36 = .ok (.aload_n 0, 1) := by decide +kernel
theorem d_M_delete_37 : decode b_M_delete 37 = .ok (.aload_n 0, 1) := by decide +kernel
theorem d_M_delete_38 : decode b_M_delete 38 = .ok (.getfield 66, 3) := by decide +kernel
theorem d_M_delete_41 : decode b_M_delete 41 = .ok (.iconst 1, 1) := by decide +kernel
theorem d_M_delete_42 : decode b_M_delete 42 = .ok (.isub, 1) := by decide +kernel
theorem d_M_delete_43 : decode b_M_delete 43 = .ok (.invokevirtual 129, 3) := by decide +kernel
theorem d_M_delete_46 : decode b_M_delete 46 = .ok (.ifCond .eq 7, 3) := by decide +kernel
theorem d_M_delete_49 : decode b_M_delete 49 = .ok (.iconst 1, 1) := by decide +kernel
theorem d_M_delete_50 : decode b_M_delete 50 = .ok (.goto 4, 3) := by decide +kernel
theorem d_M_delete_53 : decode b_M_delete 53 = .ok (.iconst 0, 1) := by decide +kernel
theorem d_M_delete_54 : decode b_M_delete 54 = .ok (.ireturn, 1) := by decide +kernel
theorem d_M_open_0 : decode b_M_open 0 = .ok (.aload_n 0, 1) := by decide +kernel
theorem d_M_open_1 : decode b_M_open 1 = .ok (.getfield 113, 3) := by decide +kernel
theorem d_M_open_4 : decode b_M_open 4 = .ok (.ifCond .eq 5, 3) := by decide +kernel
theorem d_M_open_7 : decode b_M_open 7 = .ok (.iconst 0, 1) := by decide +kernel
theorem d_M_open_8 : decode b_M_open 8 = .ok (.ireturn, 1) := by decide +kernel
theorem d_M_open_9 : decode b_M_open 9 = .ok (.aload_n 0, 1) := by decide +kernel
theorem d_M_open_10 : decode b_M_open 10 = .ok (.iconst 1, 1) := by decide +kernel
theorem d_M_open_11 : decode b_M_open 11 = .ok (.putfield 113, 3) := by decide +kernel
theorem d_M_open_14 : decode b_M_open 14 = .ok (.aload_n 0, 1) := by decide +kernel
theorem d_M_open_15 : decode b_M_open 15 = .ok (.iconst 0, 1) := by decide +kernel
theorem d_M_open_16 : decode b_M_open 16 = .ok (.putfield 110, 3) := by decide +kernel
theorem d_M_open_19 : decode b_M_open 19 = .ok (.iconst 1, 1) := by decide +kernel
theorem d_M_open_20 : decode b_M_open 20 = .ok (.ireturn, 1) := by decide +kernel
theorem d_M_commit_0 : decode b_M_commit 0 = .ok (.aload_n 0, 1) := by decide +kernel
theorem d_M_commit_1 : decode b_M_commit 1 = .ok (.getfield 113, 3) := by decide +kernel
theorem d_M_commit_4 : decode b_M_commit 4 = .ok (.ifCond .ne 5, 3) := by decide +kernel
theorem d_M_commit_7 : decode b_M_commit 7 = .ok (.iconst (-1), 1) := by decide +kernel
theorem d_M_commit_8 : decode b_M_commit 8 = .ok (.ireturn, 1) := by decide +kernel
theorem d_M_commit_9 : decode b_M_commit 9 = .ok (.aload_n 0, 1) := by decide +kernel
theorem d_M_commit_10 : decode b_M_commit 10 = .ok (.iconst 0, 1) := by decide +kernel
theorem d_M_commit_11 : decode b_M_commit 11 = .ok (.putfield 113, 3) := by decide +kernel
theorem d_M_commit_14 : decode b_M_commit 14 = .ok (.aload_n 0, 1) := by decide +kernel
theorem d_M_commit_15 : decode b_M_commit 15 = .ok (.getfield 66, 3) := by decide +kernel
theorem d_M_commit_18 : decode b_M_commit 18 = .ok (.istore_n 1, 1) := by decide +kernel
theorem d_M_commit_19 : decode b_M_commit 19 = .ok (.iconst 0, 1) := by decide +kernel
theorem d_M_commit_20 : decode b_M_commit 20 = .ok (.istore_n 2, 1) := by decide +kernel
theorem d_M_commit_21 : decode b_M_commit 21 = .ok (.iload_n 2, 1) := by decide +kernel
theorem d_M_commit_22 : decode b_M_commit 22 = .ok (.aload_n 0, 1) := by decide +kernel
theorem d_M_commit_23 : decode b_M_commit 23 = .ok (.getfield 110, 3) := by decide +kernel
theorem d_M_commit_26 : decode b_M_commit 26 = .ok (.if_icmp .ge 32, 3) := by decide +kernel
theorem d_M_commit_29 : decode b_M_commit 29 = .ok (.aload_n 0, 1) := by decide +kernel
theorem d_M_commit_30 : decode b_M_commit 30 = .ok (.aload_n 0, 1) := by decide +kernel
theorem d_M_commit_31 : decode b_M_commit 31 = .ok (.getfield 29, 3) := by decide +kernel
theorem d_M_commit_34 : decode b_M_commit 34 = .ok (.iload_n 2, 1) := by decide +kernel
theorem d_M_commit_35 : decode b_M_commit 35 = .ok (.iaload, 1) := by decide +kernel
theorem d_M_commit_36 : decode b_M_commit 36 = .ok (.aload_n 0, 1) := by decide +kernel
theorem d_M_commit_37 : decode b_M_commit 37 = .ok (.getfield 32, 3) := by decide +kernel
theorem d_M_commit_40 : decode b_M_commit 40 = .ok (.iload_n 2, 1) := by decide +kernel
theorem d_M_commit_41 : decode b_M_commit 41 = .ok (.iaload, 1) := by decide +kernel
theorem d_M_commit_42 : decode b_M_commit 42 = .ok (.aload_n 0, 1) := by decide +kernel
theorem d_M_commit_43 : decode b_M_commit 43 = .ok (.getfield 35, 3) := by decide +kernel
theorem d_M_commit_46 : decode b_M_commit 46 = .ok (.iload_n 2, 1) := by decide +kernel
theorem d_M_commit_47 : decode b_M_commit 47 = .ok (.laload, 1) := by decide +kernel
theorem d_M_commit_48 : decode b_M_commit 48 = .ok (.iload_n 1, 1) := by decide +kernel
theorem d_M_commit_49 : decode b_M_commit 49 = .ok (.invokevirtual 125, 3) := by decide +kernel
theorem d_M_commit_52 : decode b_M_commit 52 = .ok (.iinc 2 1, 3) := by decide +kernel
theorem d_M_commit_55 : decode b_M_commit 55 = .ok (.goto (-34), 3) := by decide +kernel
theorem d_M_commit_58 : decode b_M_commit 58 = .ok (.aload_n 0, 1) := by decide +kernel
theorem d_M_commit_59 : decode b_M_commit 59 = .ok (.iconst 2, 1) := by decide +kernel
theorem d_M_commit_60 : decode b_M_commit 60 = .ok (.iconst 0, 1) := by decide +kernel
theorem d_M_commit_61 : decode b_M_commit 61 = .ok (.lconst 0, 1) := by decide +kernel
theorem d_M_commit_62 : decode b_M_commit 62 = .ok (.iload_n 1, 1) := by decide +kernel
theorem d_M_commit_63 : decode b_M_commit 63 = .ok (.invokevirtual 125, 3) := by decide +kernel
theorem d_M_commit_66 : decode b_M_commit 66 = .ok (.aload_n 0, 1) := by decide +kernel
theorem d_M_commit_67 : decode b_M_commit 67 = .ok (.iload_n 1, 1) := by decide +kernel
theorem d_M_commit_68 : decode b_M_commit 68 = .ok (.invokevirtual 129, 3) := by decide +kernel
theorem d_M_commit_71 : decode b_M_commit 71 = .ok (.ifCond .eq 12, 3) := by decide +kernel
theorem d_M_commit_74 : decode b_M_commit 74 = .ok (.aload_n 0, 1) := by decide +kernel
theorem d_M_commit_75 : decode b_M_commit 75 = .ok (.getfield 110, 3) := by decide +kernel
theorem d_M_commit_78 : decode b_M_commit 78 = .ok (.iconst 1, 1) := by decide +kernel
theorem d_M_commit_79 : decode b_M_commit 79 = .ok (.iadd, 1) := by decide +kernel
theorem d_M_commit_80 : decode b_M_commit 80 = .ok (.goto 4, 3) := by decide +kernel
theorem d_M_commit_83 : decode b_M_commit 83 = .ok (.iconst 0, 1) := by decide +kernel
theorem d_M_commit_84 : decode b_M_commit 84 = .ok (.ireturn, 1) := by decide +kernel
theorem d_M_abandon_0 : decode b_M_abandon 0 = .ok (.aload_n 0, 1) := by decide +kernel
theorem d_M_abandon_1 : decode b_M_abandon 1 = .ok (.getfield 113, 3) := by decide +kernel
theorem d_M_abandon_4 : decode b_M_abandon 4 = .ok (.ifCond .ne 5, 3) := by decide +kernel
theorem d_M_abandon_7 : decode b_M_abandon 7 = .ok (.iconst (-1), 1) := by decide +kernel
theorem d_M_abandon_8 : decode b_M_abandon 8 = .ok (.ireturn, 1) := by decide +kernel
theorem d_M_abandon_9 : decode b_M_abandon 9 = .ok (.aload_n 0, 1) := by decide +kernel
theorem d_M_abandon_10 : decode b_M_abandon 10 = .ok (.iconst 0, 1) := by decide +kernel
theorem d_M_abandon_11 : decode b_M_abandon 11 = .ok (.putfield 113, 3) := by decide +kernel
theorem d_M_abandon_14 : decode b_M_abandon 14 = .ok (.aload_n 0, 1) := by decide +kernel
theorem d_M_abandon_15 : decode b_M_abandon 15 = .ok (.getfield 110, 3) := by decide +kernel
theorem d_M_abandon_18 : decode b_M_abandon 18 = .ok (.ireturn, 1) := by decide +kernel
theorem d_M_flush_0 : decode b_M_flush 0 = .ok (.aload_n 0, 1) := by decide +kernel
theorem d_M_flush_1 : decode b_M_flush 1 = .ok (.getfield 66, 3) := by decide +kernel
theorem d_M_flush_4 : decode b_M_flush 4 = .ok (.istore_n 1, 1) := by decide +kernel
theorem d_M_flush_5 : decode b_M_flush 5 = .ok (.aload_n 0, 1) := by decide +kernel
theorem d_M_flush_6 : decode b_M_flush 6 = .ok (.iload_n 1, 1) := by decide +kernel
theorem d_M_flush_7 : decode b_M_flush 7 = .ok (.invokevirtual 79, 3) := by decide +kernel
theorem d_M_flush_10 : decode b_M_flush 10 = .ok (.iload_n 1, 1) := by decide +kernel
theorem d_M_flush_11 : decode b_M_flush 11 = .ok (.ireturn, 1) := by decide +kernel
theorem d_M_crash_0 : decode b_M_crash 0 = .ok (.aload_n 0, 1) := by decide +kernel
theorem d_M_crash_1 : decode b_M_crash 1 = .ok (.iconst 0, 1) := by decide +kernel
theorem d_M_crash_2 : decode b_M_crash 2 = .ok (.putfield 113, 3) := by decide +kernel
theorem d_M_crash_5 : decode b_M_crash 5 = .ok (.iload_n 1, 1) := by decide +kernel
theorem d_M_crash_6 : decode b_M_crash 6 = .ok (.ifCond .ge 7, 3) := by decide +kernel
theorem d_M_crash_9 : decode b_M_crash 9 = .ok (.iconst 0, 1) := by decide +kernel
theorem d_M_crash_10 : decode b_M_crash 10 = .ok (.goto 19, 3) := by decide +kernel
theorem d_M_crash_13 : decode b_M_crash 13 = .ok (.iload_n 1, 1) := by decide +kernel
theorem d_M_crash_14 : decode b_M_crash 14 = .ok (.aload_n 0, 1) := by decide +kernel
theorem d_M_crash_15 : decode b_M_crash 15 = .ok (.getfield 66, 3) := by decide +kernel
theorem d_M_crash_18 : decode b_M_crash 18 = .ok (.if_icmp .le 10, 3) := by decide +kernel
theorem d_M_crash_21 : decode b_M_crash 21 = .ok (.aload_n 0, 1) := by decide +kernel
theorem d_M_crash_22 : decode b_M_crash 22 = .ok (.getfield 66, 3) := by decide +kernel
theorem d_M_crash_25 : decode b_M_crash 25 = .ok (.goto 4, 3) := by decide +kernel
theorem d_M_crash_28 : decode b_M_crash 28 = .ok (.iload_n 1, 1) := by decide +kernel
theorem d_M_crash_29 : decode b_M_crash 29 = .ok (.istore_n 2, 1) := by decide +kernel
theorem d_M_crash_30 : decode b_M_crash 30 = .ok (.iload_n 2, 1) := by decide +kernel
theorem d_M_crash_31 : decode b_M_crash 31 = .ok (.aload_n 0, 1) := by decide +kernel
theorem d_M_crash_32 : decode b_M_crash 32 = .ok (.getfield 66, 3) := by decide +kernel
theorem d_M_crash_35 : decode b_M_crash 35 = .ok (.if_icmp .ge 12, 3) := by decide +kernel
theorem d_M_crash_38 : decode b_M_crash 38 = .ok (.aload_n 0, 1) := by decide +kernel
theorem d_M_crash_39 : decode b_M_crash 39 = .ok (.getfield 26, 3) := by decide +kernel
theorem d_M_crash_42 : decode b_M_crash 42 = .ok (.iload_n 2, 1) := by decide +kernel
theorem d_M_crash_43 : decode b_M_crash 43 = .ok (.iaload, 1) := by decide +kernel
theorem d_M_crash_44 : decode b_M_crash 44 = .ok (.goto 7, 3) := by decide +kernel
theorem d_M_crash_47 : decode b_M_crash 47 = .ok (.aload_n 0, 1) := by decide +kernel
theorem d_M_crash_48 : decode b_M_crash 48 = .ok (.getfield 66, 3) := by decide +kernel
theorem d_M_crash_51 : decode b_M_crash 51 = .ok (.istore_n 3, 1) := by decide +kernel
theorem d_M_crash_52 : decode b_M_crash 52 = .ok (.aload_n 0, 1) := by decide +kernel
theorem d_M_crash_53 : decode b_M_crash 53 = .ok (.getfield 66, 3) := by decide +kernel
theorem d_M_crash_56 : decode b_M_crash 56 = .ok (.iload_n 3, 1) := by decide +kernel
theorem d_M_crash_57 : decode b_M_crash 57 = .ok (.isub, 1) := by decide +kernel
theorem d_M_crash_58 : decode b_M_crash 58 = .ok (.istore 4, 2) := by decide +kernel
theorem d_M_crash_60 : decode b_M_crash 60 = .ok (.aload_n 0, 1) := by decide +kernel
theorem d_M_crash_61 : decode b_M_crash 61 = .ok (.iload_n 3, 1) := by decide +kernel
theorem d_M_crash_62 : decode b_M_crash 62 = .ok (.putfield 66, 3) := by decide +kernel
theorem d_M_crash_65 : decode b_M_crash 65 = .ok (.aload_n 0, 1) := by decide +kernel
theorem d_M_crash_66 : decode b_M_crash 66 = .ok (.iload_n 3, 1) := by decide +kernel
theorem d_M_crash_67 : decode b_M_crash 67 = .ok (.invokevirtual 79, 3) := by decide +kernel
theorem d_M_crash_70 : decode b_M_crash 70 = .ok (.iload 4, 2) := by decide +kernel
theorem d_M_crash_72 : decode b_M_crash 72 = .ok (.ireturn, 1) := by decide +kernel
theorem d_M_get_0 : decode b_M_get 0 = .ok (.aload_n 0, 1) := by decide +kernel
theorem d_M_get_1 : decode b_M_get 1 = .ok (.invokevirtual 72, 3) := by decide +kernel
theorem d_M_get_4 : decode b_M_get 4 = .ok (.aload_n 0, 1) := by decide +kernel
theorem d_M_get_5 : decode b_M_get 5 = .ok (.iload_n 1, 1) := by decide +kernel
theorem d_M_get_6 : decode b_M_get 6 = .ok (.invokevirtual 51, 3) := by decide +kernel
theorem d_M_get_9 : decode b_M_get 9 = .ok (.istore_n 2, 1) := by decide +kernel
theorem d_M_get_10 : decode b_M_get 10 = .ok (.iload_n 2, 1) := by decide +kernel
theorem d_M_get_11 : decode b_M_get 11 = .ok (.ifCond .ge 7, 3) := by decide +kernel
theorem d_M_get_14 : decode b_M_get 14 = .ok (.lconst 0, 1) := by decide +kernel
theorem d_M_get_15 : decode b_M_get 15 = .ok (.goto 9, 3) := by decide +kernel
theorem d_M_get_18 : decode b_M_get 18 = .ok (.aload_n 0, 1) := by decide +kernel
theorem d_M_get_19 : decode b_M_get 19 = .ok (.getfield 41, 3) := by decide +kernel
theorem d_M_get_22 : decode b_M_get 22 = .ok (.iload_n 2, 1) := by decide +kernel
theorem d_M_get_23 : decode b_M_get 23 = .ok (.laload, 1) := by decide +kernel
theorem d_M_get_24 : decode b_M_get 24 = .ok (.lreturn, 1) := by decide +kernel
theorem d_M_reads_0 : decode b_M_reads 0 = .ok (.aload_n 0, 1) := by decide +kernel
theorem d_M_reads_1 : decode b_M_reads 1 = .ok (.invokevirtual 72, 3) := by decide +kernel
theorem d_M_reads_4 : decode b_M_reads 4 = .ok (.aload_n 0, 1) := by decide +kernel
theorem d_M_reads_5 : decode b_M_reads 5 = .ok (.iload_n 1, 1) := by decide +kernel
theorem d_M_reads_6 : decode b_M_reads 6 = .ok (.invokevirtual 132, 3) := by decide +kernel
theorem d_M_reads_9 : decode b_M_reads 9 = .ok (.istore_n 2, 1) := by decide +kernel
theorem d_M_reads_10 : decode b_M_reads 10 = .ok (.aload_n 0, 1) := by decide +kernel
theorem d_M_reads_11 : decode b_M_reads 11 = .ok (.iload_n 2, 1) := by decide +kernel
theorem d_M_reads_12 : decode b_M_reads 12 = .ok (.invokevirtual 97, 3) := by decide +kernel
theorem d_M_reads_15 : decode b_M_reads 15 = .ok (.istore_n 3, 1) := by decide +kernel
theorem d_M_reads_16 : decode b_M_reads 16 = .ok (.aload_n 0, 1) := by decide +kernel
theorem d_M_reads_17 : decode b_M_reads 17 = .ok (.iload_n 3, 1) := by decide +kernel
theorem d_M_reads_18 : decode b_M_reads 18 = .ok (.iload_n 2, 1) := by decide +kernel
theorem d_M_reads_19 : decode b_M_reads 19 = .ok (.invokevirtual 103, 3) := by decide +kernel
theorem d_M_reads_22 : decode b_M_reads 22 = .ok (.istore 4, 2) := by decide +kernel
theorem d_M_reads_24 : decode b_M_reads 24 = .ok (.iconst 0, 1) := by decide +kernel
theorem d_M_reads_25 : decode b_M_reads 25 = .ok (.istore 5, 2) := by decide +kernel
theorem d_M_reads_27 : decode b_M_reads 27 = .ok (.iconst 0, 1) := by decide +kernel
theorem d_M_reads_28 : decode b_M_reads 28 = .ok (.istore 6, 2) := by decide +kernel
theorem d_M_reads_30 : decode b_M_reads 30 = .ok (.iconst 1, 1) := by decide +kernel
theorem d_M_reads_31 : decode b_M_reads 31 = .ok (.istore 7, 2) := by decide +kernel
theorem d_M_reads_33 : decode b_M_reads 33 = .ok (.iconst 0, 1) := by decide +kernel
theorem d_M_reads_34 : decode b_M_reads 34 = .ok (.istore 8, 2) := by decide +kernel
theorem d_M_reads_36 : decode b_M_reads 36 = .ok (.iload 8, 2) := by decide +kernel
theorem d_M_reads_38 : decode b_M_reads 38 = .ok (.aload_n 0, 1) := by decide +kernel
theorem d_M_reads_39 : decode b_M_reads 39 = .ok (.getfield 48, 3) := by decide +kernel
theorem d_M_reads_42 : decode b_M_reads 42 = .ok (.if_icmp .ge 113, 3) := by decide +kernel
theorem d_M_reads_45 : decode b_M_reads 45 = .ok (.iload 7, 2) := by decide +kernel
theorem d_M_reads_47 : decode b_M_reads 47 = .ok (.ifCond .eq 108, 3) := by decide +kernel
theorem d_M_reads_50 : decode b_M_reads 50 = .ok (.aload_n 0, 1) := by decide +kernel
theorem d_M_reads_51 : decode b_M_reads 51 = .ok (.aload_n 0, 1) := by decide +kernel
theorem d_M_reads_52 : decode b_M_reads 52 = .ok (.aload_n 0, 1) := by decide +kernel
theorem d_M_reads_53 : decode b_M_reads 53 = .ok (.getfield 38, 3) := by decide +kernel
theorem d_M_reads_56 : decode b_M_reads 56 = .ok (.iload 8, 2) := by decide +kernel
theorem d_M_reads_58 : decode b_M_reads 58 = .ok (.iaload, 1) := by decide +kernel
theorem d_M_reads_59 : decode b_M_reads 59 = .ok (.invokevirtual 82, 3) := by decide +kernel
theorem d_M_reads_62 : decode b_M_reads 62 = .ok (.iload_n 3, 1) := by decide +kernel
theorem d_M_reads_63 : decode b_M_reads 63 = .ok (.iload_n 2, 1) := by decide +kernel
theorem d_M_reads_64 : decode b_M_reads 64 = .ok (.invokevirtual 85, 3) := by decide +kernel
theorem d_M_reads_67 : decode b_M_reads 67 = .ok (.ifCond .eq 82, 3) := by decide +kernel
theorem d_M_reads_70 : decode b_M_reads 70 = .ok (.iload 5, 2) := by decide +kernel
theorem d_M_reads_72 : decode b_M_reads 72 = .ok (.iconst 4, 1) := by decide +kernel
theorem d_M_reads_73 : decode b_M_reads 73 = .ok (.irem, 1) := by decide +kernel
theorem d_M_reads_74 : decode b_M_reads 74 = .ok (.ifCond .ne 10, 3) := by decide +kernel
theorem d_M_reads_77 : decode b_M_reads 77 = .ok (.iload 6, 2) := by decide +kernel
theorem d_M_reads_79 : decode b_M_reads 79 = .ok (.iconst 1, 1) := by decide +kernel
theorem d_M_reads_80 : decode b_M_reads 80 = .ok (.iadd, 1) := by decide +kernel
theorem d_M_reads_81 : decode b_M_reads 81 = .ok (.goto 5, 3) := by decide +kernel
theorem d_M_reads_84 : decode b_M_reads 84 = .ok (.iload 6, 2) := by decide +kernel
theorem d_M_reads_86 : decode b_M_reads 86 = .ok (.istore 6, 2) := by decide +kernel
theorem d_M_reads_88 : decode b_M_reads 88 = .ok (.iload 5, 2) := by decide +kernel
theorem d_M_reads_90 : decode b_M_reads 90 = .ok (.iconst 1, 1) := by decide +kernel
theorem d_M_reads_91 : decode b_M_reads 91 = .ok (.iadd, 1) := by decide +kernel
theorem d_M_reads_92 : decode b_M_reads 92 = .ok (.istore 5, 2) := by decide +kernel
theorem d_M_reads_94 : decode b_M_reads 94 = .ok (.iload 5, 2) := by decide +kernel
theorem d_M_reads_96 : decode b_M_reads 96 = .ok (.iconst 4, 1) := by decide +kernel
theorem d_M_reads_97 : decode b_M_reads 97 = .ok (.irem, 1) := by decide +kernel
theorem d_M_reads_98 : decode b_M_reads 98 = .ok (.ifCond .eq 10, 3) := by decide +kernel
theorem d_M_reads_101 : decode b_M_reads 101 = .ok (.iload 5, 2) := by decide +kernel
theorem d_M_reads_103 : decode b_M_reads 103 = .ok (.iload 4, 2) := by decide +kernel
theorem d_M_reads_105 : decode b_M_reads 105 = .ok (.if_icmp .ne 7, 3) := by decide +kernel
theorem d_M_reads_108 : decode b_M_reads 108 = .ok (.iconst 1, 1) := by decide +kernel
theorem d_M_reads_109 : decode b_M_reads 109 = .ok (.goto 4, 3) := by decide +kernel
theorem d_M_reads_112 : decode b_M_reads 112 = .ok (.iconst 0, 1) := by decide +kernel
theorem d_M_reads_113 : decode b_M_reads 113 = .ok (.istore 9, 2) := by decide +kernel
theorem d_M_reads_115 : decode b_M_reads 115 = .ok (.aload_n 0, 1) := by decide +kernel
theorem d_M_reads_116 : decode b_M_reads 116 = .ok (.getfield 38, 3) := by decide +kernel
theorem d_M_reads_119 : decode b_M_reads 119 = .ok (.iload 8, 2) := by decide +kernel
theorem d_M_reads_121 : decode b_M_reads 121 = .ok (.iaload, 1) := by decide +kernel
theorem d_M_reads_122 : decode b_M_reads 122 = .ok (.iload_n 1, 1) := by decide +kernel
theorem d_M_reads_123 : decode b_M_reads 123 = .ok (.if_icmp .eq 23, 3) := by decide +kernel
theorem d_M_reads_126 : decode b_M_reads 126 = .ok (.iload 9, 2) := by decide +kernel
theorem d_M_reads_128 : decode b_M_reads 128 = .ok (.ifCond .eq 14, 3) := by decide +kernel
theorem d_M_reads_131 : decode b_M_reads 131 = .ok (.aload_n 0, 1) := by decide +kernel
theorem d_M_reads_132 : decode b_M_reads 132 = .ok (.getfield 38, 3) := by decide +kernel
theorem d_M_reads_135 : decode b_M_reads 135 = .ok (.iload 8, 2) := by decide +kernel
theorem d_M_reads_137 : decode b_M_reads 137 = .ok (.iaload, 1) := by decide +kernel
theorem d_M_reads_138 : decode b_M_reads 138 = .ok (.iload_n 1, 1) := by decide +kernel
theorem d_M_reads_139 : decode b_M_reads 139 = .ok (.if_icmp .gt 7, 3) := by decide +kernel
theorem d_M_reads_142 : decode b_M_reads 142 = .ok (.iconst 1, 1) := by decide +kernel
theorem d_M_reads_143 : decode b_M_reads 143 = .ok (.goto 4, 3) := by decide +kernel
theorem d_M_reads_146 : decode b_M_reads 146 = .ok (.iconst 0, 1) := by decide +kernel
theorem d_M_reads_147 : decode b_M_reads 147 = .ok (.istore 7, 2) := by decide +kernel
theorem d_M_reads_149 : decode b_M_reads 149 = .ok (.iinc 8 1, 3) := by decide +kernel
theorem d_M_reads_152 : decode b_M_reads 152 = .ok (.goto (-116), 3) := by decide +kernel
theorem d_M_reads_155 : decode b_M_reads 155 = .ok (.aload_n 0, 1) := by decide +kernel
theorem d_M_reads_156 : decode b_M_reads 156 = .ok (.iload_n 1, 1) := by decide +kernel
theorem d_M_reads_157 : decode b_M_reads 157 = .ok (.invokevirtual 51, 3) := by decide +kernel
theorem d_M_reads_160 : decode b_M_reads 160 = .ok (.istore 8, 2) := by decide +kernel
theorem d_M_reads_162 : decode b_M_reads 162 = .ok (.iconst 1, 1) := by decide +kernel
theorem d_M_reads_163 : decode b_M_reads 163 = .ok (.iload 4, 2) := by decide +kernel
theorem d_M_reads_165 : decode b_M_reads 165 = .ok (.ifCond .ne 7, 3) := by decide +kernel
theorem d_M_reads_168 : decode b_M_reads 168 = .ok (.iconst 1, 1) := by decide +kernel
theorem d_M_reads_169 : decode b_M_reads 169 = .ok (.goto 5, 3) := by decide +kernel
theorem d_M_reads_172 : decode b_M_reads 172 = .ok (.iload 6, 2) := by decide +kernel
theorem d_M_reads_174 : decode b_M_reads 174 = .ok (.iadd, 1) := by decide +kernel
theorem d_M_reads_175 : decode b_M_reads 175 = .ok (.iload 8, 2) := by decide +kernel
theorem d_M_reads_177 : decode b_M_reads 177 = .ok (.ifCond .ge 7, 3) := by decide +kernel
theorem d_M_reads_180 : decode b_M_reads 180 = .ok (.iconst 0, 1) := by decide +kernel
theorem d_M_reads_181 : decode b_M_reads 181 = .ok (.goto 14, 3) := by decide +kernel
theorem d_M_reads_184 : decode b_M_reads 184 = .ok (.aload_n 0, 1) := by decide +kernel
theorem d_M_reads_185 : decode b_M_reads 185 = .ok (.aload_n 0, 1) := by decide +kernel
theorem d_M_reads_186 : decode b_M_reads 186 = .ok (.getfield 41, 3) := by decide +kernel
theorem d_M_reads_189 : decode b_M_reads 189 = .ok (.iload 8, 2) := by decide +kernel
theorem d_M_reads_191 : decode b_M_reads 191 = .ok (.laload, 1) := by decide +kernel
theorem d_M_reads_192 : decode b_M_reads 192 = .ok (.invokevirtual 107, 3) := by decide +kernel
theorem d_M_reads_195 : decode b_M_reads 195 = .ok (.iadd, 1) := by decide +kernel
theorem d_M_reads_196 : decode b_M_reads 196 = .ok (.ireturn, 1) := by decide +kernel
theorem d_M_bucketOf_0 : decode b_M_bucketOf 0 = .ok (.aload_n 0, 1) := by decide +kernel
theorem d_M_bucketOf_1 : decode b_M_bucketOf 1 = .ok (.iload_n 1, 1) := by decide +kernel
theorem d_M_bucketOf_2 : decode b_M_bucketOf 2 = .ok (.invokevirtual 82, 3) := by decide +kernel
theorem d_M_bucketOf_5 : decode b_M_bucketOf 5 = .ok (.istore_n 2, 1) := by decide +kernel
theorem d_M_bucketOf_6 : decode b_M_bucketOf 6 = .ok (.iconst 0, 1) := by decide +kernel
theorem d_M_bucketOf_7 : decode b_M_bucketOf 7 = .ok (.istore_n 3, 1) := by decide +kernel
theorem d_M_bucketOf_8 : decode b_M_bucketOf 8 = .ok (.iconst 0, 1) := by decide +kernel
theorem d_M_bucketOf_9 : decode b_M_bucketOf 9 = .ok (.istore 4, 2) := by decide +kernel
theorem d_M_bucketOf_11 : decode b_M_bucketOf 11 = .ok (.iload 4, 2) := by decide +kernel
theorem d_M_bucketOf_13 : decode b_M_bucketOf 13 = .ok (.bipush 64, 2) := by decide +kernel
theorem d_M_bucketOf_15 : decode b_M_bucketOf 15 = .ok (.if_icmp .ge 41, 3) := by decide +kernel
theorem d_M_bucketOf_18 : decode b_M_bucketOf 18 = .ok (.aload_n 0, 1) := by decide +kernel
theorem d_M_bucketOf_19 : decode b_M_bucketOf 19 = .ok (.iload 4, 2) := by decide +kernel
theorem d_M_bucketOf_21 : decode b_M_bucketOf 21 = .ok (.invokevirtual 97, 3) := by decide +kernel
theorem d_M_bucketOf_24 : decode b_M_bucketOf 24 = .ok (.istore 5, 2) := by decide +kernel
theorem d_M_bucketOf_26 : decode b_M_bucketOf 26 = .ok (.iload 5, 2) := by decide +kernel
theorem d_M_bucketOf_28 : decode b_M_bucketOf 28 = .ok (.ifCond .lt 20, 3) := by decide +kernel
theorem d_M_bucketOf_31 : decode b_M_bucketOf 31 = .ok (.aload_n 0, 1) := by decide +kernel
theorem d_M_bucketOf_32 : decode b_M_bucketOf 32 = .ok (.iload_n 2, 1) := by decide +kernel
theorem d_M_bucketOf_33 : decode b_M_bucketOf 33 = .ok (.iload 5, 2) := by decide +kernel
theorem d_M_bucketOf_35 : decode b_M_bucketOf 35 = .ok (.iload 4, 2) := by decide +kernel
theorem d_M_bucketOf_37 : decode b_M_bucketOf 37 = .ok (.invokevirtual 85, 3) := by decide +kernel
theorem d_M_bucketOf_40 : decode b_M_bucketOf 40 = .ok (.ifCond .eq 8, 3) := by decide +kernel
theorem d_M_bucketOf_43 : decode b_M_bucketOf 43 = .ok (.iload 4, 2) := by decide +kernel
theorem d_M_bucketOf_45 : decode b_M_bucketOf 45 = .ok (.goto 4, 3) := by decide +kernel
theorem d_M_bucketOf_48 : decode b_M_bucketOf 48 = .ok (.iload_n 3, 1) := by decide +kernel
theorem d_M_bucketOf_49 : decode b_M_bucketOf 49 = .ok (.istore_n 3, 1) := by decide +kernel
theorem d_M_bucketOf_50 : decode b_M_bucketOf 50 = .ok (.iinc 4 1, 3) := by decide +kernel
theorem d_M_bucketOf_53 : decode b_M_bucketOf 53 = .ok (.goto (-42), 3) := by decide +kernel
theorem d_M_bucketOf_56 : decode b_M_bucketOf 56 = .ok (.iload_n 3, 1) := by decide +kernel
theorem d_M_bucketOf_57 : decode b_M_bucketOf 57 = .ok (.ireturn, 1) := by decide +kernel
theorem d_M_unflushed_0 : decode b_M_unflushed 0 = .ok (.aload_n 0, 1) := by decide +kernel
theorem d_M_unflushed_1 : decode b_M_unflushed 1 = .ok (.getfield 66, 3) := by decide +kernel
theorem d_M_unflushed_4 : decode b_M_unflushed 4 = .ok (.ireturn, 1) := by decide +kernel
theorem d_M_steps_0 : decode b_M_steps 0 = .ok (.aload_n 0, 1) := by decide +kernel
theorem d_M_steps_1 : decode b_M_steps 1 = .ok (.getfield 113, 3) := by decide +kernel
theorem d_M_steps_4 : decode b_M_steps 4 = .ok (.ifCond .eq 10, 3) := by decide +kernel
theorem d_M_steps_7 : decode b_M_steps 7 = .ok (.aload_n 0, 1) := by decide +kernel
theorem d_M_steps_8 : decode b_M_steps 8 = .ok (.getfield 110, 3) := by decide +kernel
theorem d_M_steps_11 : decode b_M_steps 11 = .ok (.goto 4, 3) := by decide +kernel
theorem d_M_steps_14 : decode b_M_steps 14 = .ok (.iconst (-1), 1) := by decide +kernel
theorem d_M_steps_15 : decode b_M_steps 15 = .ok (.ireturn, 1) := by decide +kernel
theorem d_M_size_0 : decode b_M_size 0 = .ok (.aload_n 0, 1) := by decide +kernel
theorem d_M_size_1 : decode b_M_size 1 = .ok (.invokevirtual 72, 3) := by decide +kernel
theorem d_M_size_4 : decode b_M_size 4 = .ok (.aload_n 0, 1) := by decide +kernel
theorem d_M_size_5 : decode b_M_size 5 = .ok (.getfield 48, 3) := by decide +kernel
theorem d_M_size_8 : decode b_M_size 8 = .ok (.ireturn, 1) := by decide +kernel
theorem d_M_pages_0 : decode b_M_pages 0 = .ok (.aload_n 0, 1) := by decide +kernel
theorem d_M_pages_1 : decode b_M_pages 1 = .ok (.invokevirtual 72, 3) := by decide +kernel
theorem d_M_pages_4 : decode b_M_pages 4 = .ok (.aload_n 0, 1) := by decide +kernel
theorem d_M_pages_5 : decode b_M_pages 5 = .ok (.invokevirtual 75, 3) := by decide +kernel
theorem d_M_pages_8 : decode b_M_pages 8 = .ok (.ireturn, 1) := by decide +kernel
theorem d_M_globalDepth_0 : decode b_M_globalDepth 0 = .ok (.aload_n 0, 1) := by decide +kernel
theorem d_M_globalDepth_1 : decode b_M_globalDepth 1 = .ok (.invokevirtual 72, 3) := by decide +kernel
theorem d_M_globalDepth_4 : decode b_M_globalDepth 4 = .ok (.aload_n 0, 1) := by decide +kernel
theorem d_M_globalDepth_5 : decode b_M_globalDepth 5 = .ok (.invokevirtual 100, 3) := by decide +kernel
theorem d_M_globalDepth_8 : decode b_M_globalDepth 8 = .ok (.ireturn, 1) := by decide +kernel
theorem d_M_localDepth_0 : decode b_M_localDepth 0 = .ok (.aload_n 0, 1) := by decide +kernel
theorem d_M_localDepth_1 : decode b_M_localDepth 1 = .ok (.invokevirtual 72, 3) := by decide +kernel
theorem d_M_localDepth_4 : decode b_M_localDepth 4 = .ok (.aload_n 0, 1) := by decide +kernel
theorem d_M_localDepth_5 : decode b_M_localDepth 5 = .ok (.aload_n 0, 1) := by decide +kernel
theorem d_M_localDepth_6 : decode b_M_localDepth 6 = .ok (.iload_n 1, 1) := by decide +kernel
theorem d_M_localDepth_7 : decode b_M_localDepth 7 = .ok (.invokevirtual 132, 3) := by decide +kernel
theorem d_M_localDepth_10 : decode b_M_localDepth 10 = .ok (.invokevirtual 97, 3) := by decide +kernel
theorem d_M_localDepth_13 : decode b_M_localDepth 13 = .ok (.ireturn, 1) := by decide +kernel
theorem d_M_buckets_0 : decode b_M_buckets 0 = .ok (.aload_n 0, 1) := by decide +kernel
theorem d_M_buckets_1 : decode b_M_buckets 1 = .ok (.invokevirtual 72, 3) := by decide +kernel
theorem d_M_buckets_4 : decode b_M_buckets 4 = .ok (.iconst 0, 1) := by decide +kernel
theorem d_M_buckets_5 : decode b_M_buckets 5 = .ok (.istore_n 1, 1) := by decide +kernel
theorem d_M_buckets_6 : decode b_M_buckets 6 = .ok (.iconst 0, 1) := by decide +kernel
theorem d_M_buckets_7 : decode b_M_buckets 7 = .ok (.istore_n 2, 1) := by decide +kernel
theorem d_M_buckets_8 : decode b_M_buckets 8 = .ok (.iload_n 2, 1) := by decide +kernel
theorem d_M_buckets_9 : decode b_M_buckets 9 = .ok (.bipush 64, 2) := by decide +kernel
theorem d_M_buckets_11 : decode b_M_buckets 11 = .ok (.if_icmp .ge 25, 3) := by decide +kernel
theorem d_M_buckets_14 : decode b_M_buckets 14 = .ok (.aload_n 0, 1) := by decide +kernel
theorem d_M_buckets_15 : decode b_M_buckets 15 = .ok (.iload_n 2, 1) := by decide +kernel
theorem d_M_buckets_16 : decode b_M_buckets 16 = .ok (.invokevirtual 97, 3) := by decide +kernel
theorem d_M_buckets_19 : decode b_M_buckets 19 = .ok (.ifCond .lt 9, 3) := by decide +kernel
theorem d_M_buckets_22 : decode b_M_buckets 22 = .ok (.iload_n 1, 1) := by decide +kernel
theorem d_M_buckets_23 : decode b_M_buckets 23 = .ok (.iconst 1, 1) := by decide +kernel
theorem d_M_buckets_24 : decode b_M_buckets 24 = .ok (.iadd, 1) := by decide +kernel
theorem d_M_buckets_25 : decode b_M_buckets 25 = .ok (.goto 4, 3) := by decide +kernel
theorem d_M_buckets_28 : decode b_M_buckets 28 = .ok (.iload_n 1, 1) := by decide +kernel
theorem d_M_buckets_29 : decode b_M_buckets 29 = .ok (.istore_n 1, 1) := by decide +kernel
theorem d_M_buckets_30 : decode b_M_buckets 30 = .ok (.iinc 2 1, 3) := by decide +kernel
theorem d_M_buckets_33 : decode b_M_buckets 33 = .ok (.goto (-25), 3) := by decide +kernel
theorem d_M_buckets_36 : decode b_M_buckets 36 = .ok (.iload_n 1, 1) := by decide +kernel
theorem d_M_buckets_37 : decode b_M_buckets 37 = .ok (.ireturn, 1) := by decide +kernel
theorem d_M_bucketAt_0 : decode b_M_bucketAt 0 = .ok (.aload_n 0, 1) := by decide +kernel
theorem d_M_bucketAt_1 : decode b_M_bucketAt 1 = .ok (.invokevirtual 72, 3) := by decide +kernel
theorem d_M_bucketAt_4 : decode b_M_bucketAt 4 = .ok (.iconst 0, 1) := by decide +kernel
theorem d_M_bucketAt_5 : decode b_M_bucketAt 5 = .ok (.istore_n 2, 1) := by decide +kernel
theorem d_M_bucketAt_6 : decode b_M_bucketAt 6 = .ok (.iconst 0, 1) := by decide +kernel
theorem d_M_bucketAt_7 : decode b_M_bucketAt 7 = .ok (.istore_n 3, 1) := by decide +kernel
theorem d_M_bucketAt_8 : decode b_M_bucketAt 8 = .ok (.iload_n 3, 1) := by decide +kernel
theorem d_M_bucketAt_9 : decode b_M_bucketAt 9 = .ok (.bipush 64, 2) := by decide +kernel
theorem d_M_bucketAt_11 : decode b_M_bucketAt 11 = .ok (.if_icmp .ge 28, 3) := by decide +kernel
theorem d_M_bucketAt_14 : decode b_M_bucketAt 14 = .ok (.aload_n 0, 1) := by decide +kernel
theorem d_M_bucketAt_15 : decode b_M_bucketAt 15 = .ok (.iload_n 3, 1) := by decide +kernel
theorem d_M_bucketAt_16 : decode b_M_bucketAt 16 = .ok (.invokevirtual 97, 3) := by decide +kernel
theorem d_M_bucketAt_19 : decode b_M_bucketAt 19 = .ok (.ifCond .lt 14, 3) := by decide +kernel
theorem d_M_bucketAt_22 : decode b_M_bucketAt 22 = .ok (.iload_n 2, 1) := by decide +kernel
theorem d_M_bucketAt_23 : decode b_M_bucketAt 23 = .ok (.iload_n 1, 1) := by decide +kernel
theorem d_M_bucketAt_24 : decode b_M_bucketAt 24 = .ok (.if_icmp .ne 5, 3) := by decide +kernel
theorem d_M_bucketAt_27 : decode b_M_bucketAt 27 = .ok (.iload_n 3, 1) := by decide +kernel
theorem d_M_bucketAt_28 : decode b_M_bucketAt 28 = .ok (.ireturn, 1) := by decide +kernel
theorem d_M_bucketAt_29 : decode b_M_bucketAt 29 = .ok (.iload_n 2, 1) := by decide +kernel
theorem d_M_bucketAt_30 : decode b_M_bucketAt 30 = .ok (.iconst 1, 1) := by decide +kernel
theorem d_M_bucketAt_31 : decode b_M_bucketAt 31 = .ok (.iadd, 1) := by decide +kernel
theorem d_M_bucketAt_32 : decode b_M_bucketAt 32 = .ok (.istore_n 2, 1) := by decide +kernel
theorem d_M_bucketAt_33 : decode b_M_bucketAt 33 = .ok (.iinc 3 1, 3) := by decide +kernel
theorem d_M_bucketAt_36 : decode b_M_bucketAt 36 = .ok (.goto (-28), 3) := by decide +kernel
theorem d_M_bucketAt_39 : decode b_M_bucketAt 39 = .ok (.iconst (-1), 1) := by decide +kernel
theorem d_M_bucketAt_40 : decode b_M_bucketAt 40 = .ok (.ireturn, 1) := by decide +kernel
theorem d_M_keyAt_0 : decode b_M_keyAt 0 = .ok (.aload_n 0, 1) := by decide +kernel
theorem d_M_keyAt_1 : decode b_M_keyAt 1 = .ok (.invokevirtual 72, 3) := by decide +kernel
theorem d_M_keyAt_4 : decode b_M_keyAt 4 = .ok (.iconst 0, 1) := by decide +kernel
theorem d_M_keyAt_5 : decode b_M_keyAt 5 = .ok (.istore_n 2, 1) := by decide +kernel
theorem d_M_keyAt_6 : decode b_M_keyAt 6 = .ok (.iconst 0, 1) := by decide +kernel
theorem d_M_keyAt_7 : decode b_M_keyAt 7 = .ok (.istore_n 3, 1) := by decide +kernel
theorem d_M_keyAt_8 : decode b_M_keyAt 8 = .ok (.iload_n 3, 1) := by decide +kernel
theorem d_M_keyAt_9 : decode b_M_keyAt 9 = .ok (.bipush 64, 2) := by decide +kernel
theorem d_M_keyAt_11 : decode b_M_keyAt 11 = .ok (.if_icmp .ge 77, 3) := by decide +kernel
theorem d_M_keyAt_14 : decode b_M_keyAt 14 = .ok (.aload_n 0, 1) := by decide +kernel
theorem d_M_keyAt_15 : decode b_M_keyAt 15 = .ok (.iload_n 3, 1) := by decide +kernel
theorem d_M_keyAt_16 : decode b_M_keyAt 16 = .ok (.invokevirtual 97, 3) := by decide +kernel
theorem d_M_keyAt_19 : decode b_M_keyAt 19 = .ok (.istore 4, 2) := by decide +kernel
theorem d_M_keyAt_21 : decode b_M_keyAt 21 = .ok (.iconst 0, 1) := by decide +kernel
theorem d_M_keyAt_22 : decode b_M_keyAt 22 = .ok (.istore 5, 2) := by decide +kernel
theorem d_M_keyAt_24 : decode b_M_keyAt 24 = .ok (.iload 5, 2) := by decide +kernel
theorem d_M_keyAt_26 : decode b_M_keyAt 26 = .ok (.aload_n 0, 1) := by decide +kernel
theorem d_M_keyAt_27 : decode b_M_keyAt 27 = .ok (.getfield 48, 3) := by decide +kernel
theorem d_M_keyAt_30 : decode b_M_keyAt 30 = .ok (.if_icmp .ge 52, 3) := by decide +kernel
theorem d_M_keyAt_33 : decode b_M_keyAt 33 = .ok (.iload 4, 2) := by decide +kernel
theorem d_M_keyAt_35 : decode b_M_keyAt 35 = .ok (.ifCond .lt 47, 3) := by decide +kernel
theorem d_M_keyAt_38 : decode b_M_keyAt 38 = .ok (.aload_n 0, 1) := by decide +kernel
theorem d_M_keyAt_39 : decode b_M_keyAt 39 = .ok (.aload_n 0, 1) := by decide +kernel
theorem d_M_keyAt_40 : decode b_M_keyAt 40 = .ok (.aload_n 0, 1) := by decide +kernel
theorem d_M_keyAt_41 : decode b_M_keyAt 41 = .ok (.getfield 38, 3) := by decide +kernel
theorem d_M_keyAt_44 : decode b_M_keyAt 44 = .ok (.iload 5, 2) := by decide +kernel
theorem d_M_keyAt_46 : decode b_M_keyAt 46 = .ok (.iaload, 1) := by decide +kernel
theorem d_M_keyAt_47 : decode b_M_keyAt 47 = .ok (.invokevirtual 82, 3) := by decide +kernel
theorem d_M_keyAt_50 : decode b_M_keyAt 50 = .ok (.iload 4, 2) := by decide +kernel
theorem d_M_keyAt_52 : decode b_M_keyAt 52 = .ok (.iload_n 3, 1) := by decide +kernel
theorem d_M_keyAt_53 : decode b_M_keyAt 53 = .ok (.invokevirtual 85, 3) := by decide +kernel
theorem d_M_keyAt_56 : decode b_M_keyAt 56 = .ok (.ifCond .eq 20, 3) := by decide +kernel
theorem d_M_keyAt_59 : decode b_M_keyAt 59 = .ok (.iload_n 2, 1) := by decide +kernel
theorem d_M_keyAt_60 : decode b_M_keyAt 60 = .ok (.iload_n 1, 1) := by decide +kernel
theorem d_M_keyAt_61 : decode b_M_keyAt 61 = .ok (.if_icmp .ne 11, 3) := by decide +kernel
theorem d_M_keyAt_64 : decode b_M_keyAt 64 = .ok (.aload_n 0, 1) := by decide +kernel
theorem d_M_keyAt_65 : decode b_M_keyAt 65 = .ok (.getfield 38, 3) := by decide +kernel
theorem d_M_keyAt_68 : decode b_M_keyAt 68 = .ok (.iload 5, 2) := by decide +kernel
theorem d_M_keyAt_70 : decode b_M_keyAt 70 = .ok (.iaload, 1) := by decide +kernel
theorem d_M_keyAt_71 : decode b_M_keyAt 71 = .ok (.ireturn, 1) := by decide +kernel
theorem d_M_keyAt_72 : decode b_M_keyAt 72 = .ok (.iload_n 2, 1) := by decide +kernel
theorem d_M_keyAt_73 : decode b_M_keyAt 73 = .ok (.iconst 1, 1) := by decide +kernel
theorem d_M_keyAt_74 : decode b_M_keyAt 74 = .ok (.iadd, 1) := by decide +kernel
theorem d_M_keyAt_75 : decode b_M_keyAt 75 = .ok (.istore_n 2, 1) := by decide +kernel
theorem d_M_keyAt_76 : decode b_M_keyAt 76 = .ok (.iinc 5 1, 3) := by decide +kernel
theorem d_M_keyAt_79 : decode b_M_keyAt 79 = .ok (.goto (-55), 3) := by decide +kernel
theorem d_M_keyAt_82 : decode b_M_keyAt 82 = .ok (.iinc 3 1, 3) := by decide +kernel
theorem d_M_keyAt_85 : decode b_M_keyAt 85 = .ok (.goto (-77), 3) := by decide +kernel
theorem d_M_keyAt_88 : decode b_M_keyAt 88 = .ok (.iconst 0, 1) := by decide +kernel
theorem d_M_keyAt_89 : decode b_M_keyAt 89 = .ok (.ireturn, 1) := by decide +kernel
