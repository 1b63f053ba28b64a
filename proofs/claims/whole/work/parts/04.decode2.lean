/-! Decode rows. -/
theorem d_M_init_44 : decode b_M_init 44 = .ok (.aload_n 0, 1) := by decide +kernel
theorem d_M_init_45 : decode b_M_init 45 = .ok (.bipush 70, 2) := by decide +kernel
theorem d_M_init_47 : decode b_M_init 47 = .ok (.newarray .int, 2) := by decide +kernel
theorem d_M_init_49 : decode b_M_init 49 = .ok (.putfield 26, 3) := by decide +kernel
theorem d_M_init_52 : decode b_M_init 52 = .ok (.aload_n 0, 1) := by decide +kernel
theorem d_M_init_53 : decode b_M_init 53 = .ok (.iconst 5, 1) := by decide +kernel
theorem d_M_init_54 : decode b_M_init 54 = .ok (.newarray .int, 2) := by decide +kernel
theorem d_M_init_56 : decode b_M_init 56 = .ok (.putfield 29, 3) := by decide +kernel
theorem d_M_init_59 : decode b_M_init 59 = .ok (.aload_n 0, 1) := by decide +kernel
theorem d_M_init_60 : decode b_M_init 60 = .ok (.iconst 5, 1) := by decide +kernel
theorem d_M_init_61 : decode b_M_init 61 = .ok (.newarray .int, 2) := by decide +kernel
theorem d_M_init_63 : decode b_M_init 63 = .ok (.putfield 32, 3) := by decide +kernel
theorem d_M_init_66 : decode b_M_init 66 = .ok (.aload_n 0, 1) := by decide +kernel
theorem d_M_init_67 : decode b_M_init 67 = .ok (.iconst 5, 1) := by decide +kernel
theorem d_M_init_68 : decode b_M_init 68 = .ok (.newarray .long, 2) := by decide +kernel
theorem d_M_init_70 : decode b_M_init 70 = .ok (.putfield 35, 3) := by decide +kernel
theorem d_M_init_73 : decode b_M_init 73 = .ok (.aload_n 0, 1) := by decide +kernel
theorem d_M_init_74 : decode b_M_init 74 = .ok (.bipush 66, 2) := by decide +kernel
theorem d_M_init_76 : decode b_M_init 76 = .ok (.newarray .int, 2) := by decide +kernel
theorem d_M_init_78 : decode b_M_init 78 = .ok (.putfield 38, 3) := by decide +kernel
theorem d_M_init_81 : decode b_M_init 81 = .ok (.aload_n 0, 1) := by decide +kernel
theorem d_M_init_82 : decode b_M_init 82 = .ok (.bipush 66, 2) := by decide +kernel
theorem d_M_init_84 : decode b_M_init 84 = .ok (.newarray .long, 2) := by decide +kernel
theorem d_M_init_86 : decode b_M_init 86 = .ok (.putfield 41, 3) := by decide +kernel
theorem d_M_init_89 : decode b_M_init 89 = .ok (.aload_n 0, 1) := by decide +kernel
theorem d_M_init_90 : decode b_M_init 90 = .ok (.iload_n 1, 1) := by decide +kernel
theorem d_M_init_91 : decode b_M_init 91 = .ok (.bipush 8, 2) := by decide +kernel
theorem d_M_init_93 : decode b_M_init 93 = .ok (.if_icmp .ge 8, 3) := by decide +kernel
theorem d_M_init_96 : decode b_M_init 96 = .ok (.bipush 8, 2) := by decide +kernel
theorem d_M_init_98 : decode b_M_init 98 = .ok (.goto 17, 3) := by decide +kernel
theorem d_M_init_101 : decode b_M_init 101 = .ok (.iload_n 1, 1) := by decide +kernel
theorem d_M_init_102 : decode b_M_init 102 = .ok (.sipush 200, 3) := by decide +kernel
theorem d_M_init_105 : decode b_M_init 105 = .ok (.if_icmp .le 9, 3) := by decide +kernel
theorem d_M_init_108 : decode b_M_init 108 = .ok (.sipush 200, 3) := by decide +kernel
theorem d_M_init_111 : decode b_M_init 111 = .ok (.goto 4, 3) := by decide +kernel
theorem d_M_init_114 : decode b_M_init 114 = .ok (.iload_n 1, 1) := by decide +kernel
theorem d_M_init_115 : decode b_M_init 115 = .ok (.putfield 44, 3) := by decide +kernel
theorem d_M_init_118 : decode b_M_init 118 = .ok (.return_, 1) := by decide +kernel
theorem d_M_put_0 : decode b_M_put 0 = .ok (.aload_n 0, 1) := by decide +kernel
theorem d_M_put_1 : decode b_M_put 1 = .ok (.getfield 113, 3) := by decide +kernel
theorem d_M_put_4 : decode b_M_put 4 = .ok (.ifCond .eq 11, 3) := by decide +kernel
theorem d_M_put_7 : decode b_M_put 7 = .ok (.aload_n 0, 1) := by decide +kernel
theorem d_M_put_8 : decode b_M_put 8 = .ok (.iconst 0, 1) := by decide +kernel
theorem d_M_put_9 : decode b_M_put 9 = .ok (.iload_n 1, 1) := by decide +kernel
theorem d_M_put_10 : decode b_M_put 10 = .ok (.lload_n 2, 1) := by decide +kernel
theorem d_M_put_11 : decode b_M_put 11 = .ok (.invokevirtual 117, 3) := by decide +kernel
theorem d_M_put_14 : decode b_M_put 14 = .ok (.ireturn, 1) := by decide +kernel
theorem d_M_put_15 : decode b_M_put 15 = .ok (.aload_n 0, 1) := by decide +kernel
theorem d_M_put_16 : decode b_M_put 16 = .ok (.iload_n 1, 1) := by decide +kernel
theorem d_M_put_17 : decode b_M_put 17 = .ok (.invokevirtual 121, 3) := by decide +kernel
theorem d_M_put_20 : decode b_M_put 20 = .ok (.istore 4, 2) := by decide +kernel
theorem d_M_put_22 : decode b_M_put 22 = .ok (.aload_n 0, 1) := by decide +kernel
theorem d_M_put_23 : decode b_M_put 23 = .ok (.iconst 0, 1) := by decide +kernel
theorem d_M_put_24 : decode b_M_put 24 = .ok (.iload_n 1, 1) := by decide +kernel
theorem d_M_put_25 : decode b_M_put 25 = .ok (.lload_n 2, 1) := by decide +kernel
theorem d_M_put_26 : decode b_M_put 26 = .ok (.aload_n 0, 1) := by decide +kernel
theorem d_M_put_27 : decode b_M_put 27 = .ok (.getfield 66, 3) := by decide +kernel
theorem d_M_put_30 : decode b_M_put 30 = .ok (.invokevirtual 125, 3) := by decide +kernel
theorem d_M_put_33 : decode b_M_put 33 = .ok (.aload_n 0, 1) := by decide +kernel
theorem d_M_put_34 : decode b_M_put 34 = .ok (.aload_n 0, 1) := by decide +kernel
theorem d_M_put_35 : decode b_M_put 35 = .ok (.getfield 66, 3) := by decide +kernel
theorem d_M_put_38 : decode b_M_put 38 = .ok (.iconst 1, 1) := by decide +kernel
theorem d_M_put_39 : decode b_M_put 39 = .ok (.isub, 1) := by decide +kernel
theorem d_M_put_40 : decode b_M_put 40 = .ok (.invokevirtual 129, 3) := by decide +kernel
theorem d_M_put_43 : decode b_M_put 43 = .ok (.ifCond .ne 5, 3) := by decide +kernel
theorem d_M_put_46 : decode b_M_put 46 = .ok (.iconst 0, 1) := by decide +kernel
theorem d_M_put_47 : decode b_M_put 47 = .ok (.ireturn, 1) := by decide +kernel
theorem d_M_put_48 : decode b_M_put 48 = .ok (.iload 4, 2) := by decide +kernel
theorem d_M_put_50 : decode b_M_put 50 = .ok (.ifCond .eq 7, 3) := by decide +kernel
theorem d_M_put_53 : decode b_M_put 53 = .ok (.iconst 2, 1) := by decide +kernel
theorem d_M_put_54 : decode b_M_put 54 = .ok (.goto 4, 3) := by decide +kernel
theorem d_M_put_57 : decode b_M_put 57 = .ok (.iconst 1, 1) := by decide +kernel
theorem d_M_put_58 : decode b_M_put 58 = .ok (.ireturn, 1) := by decide +kernel
theorem d_M_step_0 : decode b_M_step 0 = .ok (.aload_n 0, 1) := by decide +kernel
theorem d_M_step_1 : decode b_M_step 1 = .ok (.getfield 110, 3) := by decide +kernel
theorem d_M_step_4 : decode b_M_step 4 = .ok (.iconst 5, 1) := by decide +kernel
theorem d_M_step_5 : decode b_M_step 5 = .ok (.if_icmp .lt 5, 3) := by decide +kernel
theorem d_M_step_8 : decode b_M_step 8 = .ok (.iconst 0, 1) := by decide +kernel
theorem d_M_step_9 : decode b_M_step 9 = .ok (.ireturn, 1) := by decide +kernel
theorem d_M_step_10 : decode b_M_step 10 = .ok (.aload_n 0, 1) := by decide +kernel
theorem d_M_step_11 : decode b_M_step 11 = .ok (.getfield 29, 3) := by decide +kernel
theorem d_M_step_14 : decode b_M_step 14 = .ok (.aload_n 0, 1) := by decide +kernel
theorem d_M_step_15 : decode b_M_step 15 = .ok (.getfield 110, 3) := by decide +kernel
theorem d_M_step_18 : decode b_M_step 18 = .ok (.iload_n 1, 1) := by decide +kernel
theorem d_M_step_19 : decode b_M_step 19 = .ok (.iastore, 1) := by decide +kernel
theorem d_M_step_20 : decode b_M_step 20 = .ok (.aload_n 0, 1) := by decide +kernel
theorem d_M_step_21 : decode b_M_step 21 = .ok (.getfield 32, 3) := by decide +kernel
theorem d_M_step_24 : decode b_M_step 24 = .ok (.aload_n 0, 1) := by decide +kernel
theorem d_M_step_25 : decode b_M_step 25 = .ok (.getfield 110, 3) := by decide +kernel
theorem d_M_step_28 : decode b_M_step 28 = .ok (.iload_n 2, 1) := by decide +kernel
theorem d_M_step_29 : decode b_M_step 29 = .ok (.iastore, 1) := by decide +kernel
theorem d_M_step_30 : decode b_M_step 30 = .ok (.aload_n 0, 1) := by decide +kernel
theorem d_M_step_31 : decode b_M_step 31 = .ok (.getfield 35, 3) := by decide +kernel
theorem d_M_step_34 : decode b_M_step 34 = .ok (.aload_n 0, 1) := by decide +kernel
theorem d_M_step_35 : decode b_M_step 35 = .ok (.getfield 110, 3) := by decide +kernel
theorem d_M_step_38 : decode b_M_step 38 = .ok (.lload_n 3, 1) := by decide +kernel
theorem d_M_step_39 : decode b_M_step 39 = .ok (.lastore, 1) := by decide +kernel
theorem d_M_step_40 : decode b_M_step 40 = .ok (.aload_n 0, 1) := by decide +kernel
theorem d_M_step_41 : decode b_M_step 41 = .ok (.aload_n 0, 1) := by decide +kernel
theorem d_M_step_42 : decode b_M_step 42 = .ok (.getfield 110, 3) := by decide +kernel
theorem d_M_step_45 : decode b_M_step 45 = .ok (.iconst 1, 1) := by decide +kernel
theorem d_M_step_46 : decode b_M_step 46 = .ok (.iadd, 1) := by decide +kernel
theorem d_M_step_47 : decode b_M_step 47 = .ok (.putfield 110, 3) := by decide +kernel
theorem d_M_step_50 : decode b_M_step 50 = .ok (.iconst 3, 1) := by decide +kernel
theorem d_M_step_51 : decode b_M_step 51 = .ok (.ireturn, 1) := by decide +kernel
theorem d_M_has_0 : decode b_M_has 0 = .ok (.aload_n 0, 1) := by decide +kernel
theorem d_M_has_1 : decode b_M_has 1 = .ok (.invokevirtual 72, 3) := by decide +kernel
theorem d_M_has_4 : decode b_M_has 4 = .ok (.aload_n 0, 1) := by decide +kernel
theorem d_M_has_5 : decode b_M_has 5 = .ok (.iload_n 1, 1) := by decide +kernel
theorem d_M_has_6 : decode b_M_has 6 = .ok (.invokevirtual 51, 3) := by decide +kernel
theorem d_M_has_9 : decode b_M_has 9 = .ok (.ifCond .lt 7, 3) := by decide +kernel
theorem d_M_has_12 : decode b_M_has 12 = .ok (.iconst 1, 1) := by decide +kernel
theorem d_M_has_13 : decode b_M_has 13 = .ok (.goto 4, 3) := by decide +kernel
theorem d_M_has_16 : decode b_M_has 16 = .ok (.iconst 0, 1) := by decide +kernel
theorem d_M_has_17 : decode b_M_has 17 = .ok (.ireturn, 1) := by decide +kernel
theorem d_M_now_0 : decode b_M_now 0 = .ok (.aload_n 0, 1) := by decide +kernel
theorem d_M_now_1 : decode b_M_now 1 = .ok (.aload_n 0, 1) := by decide +kernel
theorem d_M_now_2 : decode b_M_now 2 = .ok (.getfield 66, 3) := by decide +kernel
theorem d_M_now_5 : decode b_M_now 5 = .ok (.invokevirtual 69, 3) := by decide +kernel
theorem d_M_now_8 : decode b_M_now 8 = .ok (.return_, 1) := by decide +kernel
theorem d_M_replay_0 : decode b_M_replay 0 = .ok (.aload_n 0, 1) := by decide +kernel
theorem d_M_replay_1 : decode b_M_replay 1 = .ok (.aload_n 0, 1) := by decide +kernel
theorem d_M_replay_2 : decode b_M_replay 2 = .ok (.getfield 55, 3) := by decide +kernel
theorem d_M_replay_5 : decode b_M_replay 5 = .ok (.putfield 48, 3) := by decide +kernel
theorem d_M_replay_8 : decode b_M_replay 8 = .ok (.iconst 0, 1) := by decide +kernel
theorem d_M_replay_9 : decode b_M_replay 9 = .ok (.istore_n 2, 1) := by decide +kernel
theorem d_M_replay_10 : decode b_M_replay 10 = .ok (.iload_n 2, 1) := by decide +kernel
theorem d_M_replay_11 : decode b_M_replay 11 = .ok (.aload_n 0, 1) := by decide +kernel
theorem d_M_replay_12 : decode b_M_replay 12 = .ok (.getfield 55, 3) := by decide +kernel
theorem d_M_replay_15 : decode b_M_replay 15 = .ok (.if_icmp .ge 33, 3) := by decide +kernel
theorem d_M_replay_18 : decode b_M_replay 18 = .ok (.aload_n 0, 1) := by decide +kernel
theorem d_M_replay_19 : decode b_M_replay 19 = .ok (.getfield 38, 3) := by decide +kernel
theorem d_M_replay_22 : decode b_M_replay 22 = .ok (.iload_n 2, 1) := by decide +kernel
theorem d_M_replay_23 : decode b_M_replay 23 = .ok (.aload_n 0, 1) := by decide +kernel
theorem d_M_replay_24 : decode b_M_replay 24 = .ok (.getfield 7, 3) := by decide +kernel
theorem d_M_replay_27 : decode b_M_replay 27 = .ok (.iload_n 2, 1) := by decide +kernel
theorem d_M_replay_28 : decode b_M_replay 28 = .ok (.iaload, 1) := by decide +kernel
theorem d_M_replay_29 : decode b_M_replay 29 = .ok (.iastore, 1) := by decide +kernel
theorem d_M_replay_30 : decode b_M_replay 30 = .ok (.aload_n 0, 1) := by decide +kernel
theorem d_M_replay_31 : decode b_M_replay 31 = .ok (.getfield 41, 3) := by decide +kernel
theorem d_M_replay_34 : decode b_M_replay 34 = .ok (.iload_n 2, 1) := by decide +kernel
theorem d_M_replay_35 : decode b_M_replay 35 = .ok (.aload_n 0, 1) := by decide +kernel
theorem d_M_replay_36 : decode b_M_replay 36 = .ok (.getfield 13, 3) := by decide +kernel
theorem d_M_replay_39 : decode b_M_replay 39 = .ok (.iload_n 2, 1) := by decide +kernel
theorem d_M_replay_40 : decode b_M_replay 40 = .ok (.laload, 1) := by decide +kernel
theorem d_M_replay_41 : decode b_M_replay 41 = .ok (.lastore, 1) := by decide +kernel
theorem d_M_replay_42 : decode b_M_replay 42 = .ok (.iinc 2 1, 3) := by decide +kernel
theorem d_M_replay_45 : decode b_M_replay 45 = .ok (.goto (-35), 3) := by decide +kernel
theorem d_M_replay_48 : decode b_M_replay 48 = .ok (.iconst 0, 1) := by decide +kernel
theorem d_M_replay_49 : decode b_M_replay 49 = .ok (.istore_n 2, 1) := by decide +kernel
theorem d_M_replay_50 : decode b_M_replay 50 = .ok (.iload_n 2, 1) := by decide +kernel
theorem d_M_replay_51 : decode b_M_replay 51 = .ok (.iload_n 1, 1) := by decide +kernel
theorem d_M_replay_52 : decode b_M_replay 52 = .ok (.if_icmp .ge 57, 3) := by decide +kernel
theorem d_M_replay_55 : decode b_M_replay 55 = .ok (.aload_n 0, 1) := by decide +kernel
theorem d_M_replay_56 : decode b_M_replay 56 = .ok (.getfield 17, 3) := by decide +kernel
theorem d_M_replay_59 : decode b_M_replay 59 = .ok (.iload_n 2, 1) := by decide +kernel
theorem d_M_replay_60 : decode b_M_replay 60 = .ok (.iaload, 1) := by decide +kernel
theorem d_M_replay_61 : decode b_M_replay 61 = .ok (.ifCond .ne 22, 3) := by decide +kernel
theorem d_M_replay_64 : decode b_M_replay 64 = .ok (.aload_n 0, 1) := by decide +kernel
theorem d_M_replay_65 : decode b_M_replay 65 = .ok (.aload_n 0, 1) := by decide +kernel
theorem d_M_replay_66 : decode b_M_replay 66 = .ok (.getfield 20, 3) := by decide +kernel
theorem d_M_replay_69 : decode b_M_replay 69 = .ok (.iload_n 2, 1) := by decide +kernel
theorem d_M_replay_70 : decode b_M_replay 70 = .ok (.iaload, 1) := by decide +kernel
theorem d_M_replay_71 : decode b_M_replay 71 = .ok (.aload_n 0, 1) := by decide +kernel
theorem d_M_replay_72 : decode b_M_replay 72 = .ok (.getfield 23, 3) := by decide +kernel
theorem d_M_replay_75 : decode b_M_replay 75 = .ok (.iload_n 2, 1) := by decide +kernel
theorem d_M_replay_76 : decode b_M_replay 76 = .ok (.laload, 1) := by decide +kernel
theorem d_M_replay_77 : decode b_M_replay 77 = .ok (.invokevirtual 58, 3) := by decide +kernel
theorem d_M_replay_80 : decode b_M_replay 80 = .ok (.goto 23, 3) := by decide +kernel
theorem d_M_replay_83 : decode b_M_replay 83 = .ok (.aload_n 0, 1) := by decide +kernel
theorem d_M_replay_84 : decode b_M_replay 84 = .ok (.getfield 17, 3) := by decide +kernel
theorem d_M_replay_87 : decode b_M_replay 87 = .ok (.iload_n 2, 1) := by decide +kernel
theorem d_M_replay_88 : decode b_M_replay 88 = .ok (.iaload, 1) := by decide +kernel
theorem d_M_replay_89 : decode b_M_replay 89 = .ok (.iconst 1, 1) := by decide +kernel
theorem d_M_replay_90 : decode b_M_replay 90 = .ok (.if_icmp .ne 13, 3) := by decide +kernel
theorem d_M_replay_93 : decode b_M_replay 93 = .ok (.aload_n 0, 1) := by decide +kernel
theorem d_M_replay_94 : decode b_M_replay 94 = .ok (.aload_n 0, 1) := by decide +kernel
theorem d_M_replay_95 : decode b_M_replay 95 = .ok (.getfield 20, 3) := by decide +kernel
theorem d_M_replay_98 : decode b_M_replay 98 = .ok (.iload_n 2, 1) := by decide +kernel
theorem d_M_replay_99 : decode b_M_replay 99 = .ok (.iaload, 1) := by decide +kernel
theorem d_M_replay_100 : decode b_M_replay 100 = .ok (.invokevirtual 62, 3) := by decide +kernel
theorem d_M_replay_103 : decode b_M_replay 103 = .ok (.iinc 2 1, 3) := by decide +kernel
theorem d_M_replay_106 : decode b_M_replay 106 = .ok (.goto (-56), 3) := by decide +kernel
theorem d_M_replay_109 : decode b_M_replay 109 = .ok (.return_, 1) := by decide +kernel
theorem d_M_set_0 : decode b_M_set 0 = .ok (.aload_n 0, 1) := by decide +kernel
theorem d_M_set_1 : decode b_M_set 1 = .ok (.iload_n 1, 1) := by decide +kernel
theorem d_M_set_2 : decode b_M_set 2 = .ok (.invokevirtual 51, 3) := by decide +kernel
theorem d_M_set_5 : decode b_M_set 5 = .ok (.istore 4, 2) := by decide +kernel
theorem d_M_set_7 : decode b_M_set 7 = .ok (.iload 4, 2) := by decide +kernel
theorem d_M_set_9 : decode b_M_set 9 = .ok (.ifCond .lt 12, 3) := by decide +kernel
theorem d_M_set_12 : decode b_M_set 12 = .ok (.aload_n 0, 1) := by decide +kernel
theorem d_M_set_13 : decode b_M_set 13 = .ok (.getfield 41, 3) := by decide +kernel
theorem d_M_set_16 : decode b_M_set 16 = .ok (.iload 4, 2) := by decide +kernel
theorem d_M_set_18 : decode b_M_set 18 = .ok (.lload_n 2, 1) := by decide +kernel
theorem d_M_set_19 : decode b_M_set 19 = .ok (.lastore, 1) := by decide +kernel
theorem d_M_set_20 : decode b_M_set 20 = .ok (.return_, 1) := by decide +kernel
theorem d_M_set_21 : decode b_M_set 21 = .ok (.iconst 0, 1) := by decide +kernel
theorem d_M_set_22 : decode b_M_set 22 = .ok (.istore 5, 2) := by decide +kernel
theorem d_M_set_24 : decode b_M_set 24 = .ok (.iconst 0, 1) := by decide +kernel
theorem d_M_set_25 : decode b_M_set 25 = .ok (.istore 6, 2) := by decide +kernel
theorem d_M_set_27 : decode b_M_set 27 = .ok (.iload 6, 2) := by decide +kernel
theorem d_M_set_29 : decode b_M_set 29 = .ok (.aload_n 0, 1) := by decide +kernel
theorem d_M_set_30 : decode b_M_set 30 = .ok (.getfield 48, 3) := by decide +kernel
theorem d_M_set_33 : decode b_M_set 33 = .ok (.if_icmp .ge 31, 3) := by decide +kernel
theorem d_M_set_36 : decode b_M_set 36 = .ok (.aload_n 0, 1) := by decide +kernel
theorem d_M_set_37 : decode b_M_set 37 = .ok (.getfield 38, 3) := by decide +kernel
theorem d_M_set_40 : decode b_M_set 40 = .ok (.iload 6, 2) := by decide +kernel
theorem d_M_set_42 : decode b_M_set 42 = .ok (.iaload, 1) := by decide +kernel
theorem d_M_set_43 : decode b_M_set 43 = .ok (.iload_n 1, 1) := by decide +kernel
theorem d_M_set_44 : decode b_M_set 44 = .ok (.if_icmp .ge 10, 3) := by decide +kernel
theorem d_M_set_47 : decode b_M_set 47 = .ok (.iload 6, 2) := by decide +kernel
theorem d_M_set_49 : decode b_M_set 49 = .ok (.iconst 1, 1) := by decide +kernel
theorem d_M_set_50 : decode b_M_set 50 = .ok (.iadd, 1) := by decide +kernel
theorem d_M_set_51 : decode b_M_set 51 = .ok (.goto 5, 3) := by decide +kernel
theorem d_M_set_54 : decode b_M_set 54 = .ok (.iload 5, 2) := by decide +kernel
theorem d_M_set_56 : decode b_M_set 56 = .ok (.istore 5, 2) := by decide +kernel
theorem d_M_set_58 : decode b_M_set 58 = .ok (.iinc 6 1, 3) := by decide +kernel
theorem d_M_set_61 : decode b_M_set 61 = .ok (.goto (-34), 3) := by decide +kernel
theorem d_M_set_64 : decode b_M_set 64 = .ok (.aload_n 0, 1) := by decide +kernel
theorem d_M_set_65 : decode b_M_set 65 = .ok (.getfield 48, 3) := by decide +kernel
theorem d_M_set_68 : decode b_M_set 68 = .ok (.istore 6, 2) := by decide +kernel
theorem d_M_set_70 : decode b_M_set 70 = .ok (.iload 6, 2) := by decide +kernel
theorem d_M_set_72 : decode b_M_set 72 = .ok (.iload 5, 2) := by decide +kernel
theorem d_M_set_74 : decode b_M_set 74 = .ok (.if_icmp .le 41, 3) := by decide +kernel
theorem d_M_set_77 : decode b_M_set 77 = .ok (.aload_n 0, 1) := by decide +kernel
theorem d_M_set_78 : decode b_M_set 78 = .ok (.getfield 38, 3) := by decide +kernel
theorem d_M_set_81 : decode b_M_set 81 = .ok (.iload 6, 2) := by decide +kernel
theorem d_M_set_83 : decode b_M_set 83 = .ok (.aload_n 0, 1) := by decide +kernel
theorem d_M_set_84 : decode b_M_set 84 = .ok (.getfield 38, 3) := by decide +kernel
theorem d_M_set_87 : decode b_M_set 87 = .ok (.iload 6, 2) := by decide +kernel
theorem d_M_set_89 : decode b_M_set 89 = .ok (.iconst 1, 1) := by decide +kernel
theorem d_M_set_90 : decode b_M_set 90 = .ok (.isub, 1) := by decide +kernel
theorem d_M_set_91 : decode b_M_set 91 = .ok (.iaload, 1) := by decide +kernel
theorem d_M_set_92 : decode b_M_set 92 = .ok (.iastore, 1) := by decide +kernel
theorem d_M_set_93 : decode b_M_set 93 = .ok (.aload_n 0, 1) := by decide +kernel
theorem d_M_set_94 : decode b_M_set 94 = .ok (.getfield 41, 3) := by decide +kernel
theorem d_M_set_97 : decode b_M_set 97 = .ok (.iload 6, 2) := by decide +kernel
theorem d_M_set_99 : decode b_M_set 99 = .ok (.aload_n 0, 1) := by decide +kernel
theorem d_M_set_100 : decode b_M_set 100 = .ok (.getfield 41, 3) := by decide +kernel
theorem d_M_set_103 : decode b_M_set 103 = .ok (.iload 6, 2) := by decide +kernel
theorem d_M_set_105 : decode b_M_set 105 = .ok (.iconst 1, 1) := by decide +kernel
theorem d_M_set_106 : decode b_M_set 106 = .ok (.isub, 1) := by decide +kernel
theorem d_M_set_107 : decode b_M_set 107 = .ok (.laload, 1) := by decide +kernel
theorem d_M_set_108 : decode b_M_set 108 = .ok (.lastore, 1) := by decide +kernel
theorem d_M_set_109 : decode b_M_set 109 = .ok (.iinc 6 (-1), 3) := by decide +kernel
theorem d_M_set_112 : decode b_M_set 112 = .ok (.goto (-42), 3) := by decide +kernel
theorem d_M_set_115 : decode b_M_set 115 = .ok (.aload_n 0, 1) := by decide +kernel
theorem d_M_set_116 : decode b_M_set 116 = .ok (.getfield 38, 3) := by decide +kernel
theorem d_M_set_119 : decode b_M_set 119 = .ok (.iload 5, 2) := by decide +kernel
theorem d_M_set_121 : decode b_M_set 121 = .ok (.iload_n 1, 1) := by decide +kernel
theorem d_M_set_122 : decode b_M_set 122 = .ok (.iastore, 1) := by decide +kernel
theorem d_M_set_123 : decode b_M_set 123 = .ok (.aload_n 0, 1) := by decide +kernel
theorem d_M_set_124 : decode b_M_set 124 = .ok (.getfield 41, 3) := by decide +kernel
theorem d_M_set_127 : decode b_M_set 127 = .ok (.iload 5, 2) := by decide +kernel
theorem d_M_set_129 : decode b_M_set 129 = .ok (.lload_n 2, 1) := by decide +kernel
theorem d_M_set_130 : decode b_M_set 130 = .ok (.lastore, 1) := by decide +kernel
theorem d_M_set_131 : decode b_M_set 131 = .ok (.aload_n 0, 1) := by decide +kernel
theorem d_M_set_132 : decode b_M_set 132 = .ok (.aload_n 0, 1) := by decide +kernel
theorem d_M_set_133 : decode b_M_set 133 = .ok (.getfield 48, 3) := by decide +kernel
theorem d_M_set_136 : decode b_M_set 136 = .ok (.iconst 1, 1) := by decide +kernel
theorem d_M_set_137 : decode b_M_set 137 = .ok (.iadd, 1) := by decide +kernel
theorem d_M_set_138 : decode b_M_set 138 = .ok (.putfield 48, 3) := by decide +kernel
theorem d_M_set_141 : decode b_M_set 141 = .ok (.return_, 1) := by decide +kernel
theorem d_M_find_0 : decode b_M_find 0 = .ok (.iconst (-1), 1) := by decide +kernel
theorem d_M_find_1 : decode b_M_find 1 = .ok (.istore_n 2, 1) := by decide +kernel
theorem d_M_find_2 : decode b_M_find 2 = .ok (.iconst 0, 1) := by decide +kernel
theorem d_M_find_3 : decode b_M_find 3 = .ok (.istore_n 3, 1) := by decide +kernel
theorem d_M_find_4 : decode b_M_find 4 = .ok (.iload_n 3, 1) := by decide +kernel
theorem d_M_find_5 : decode b_M_find 5 = .ok (.aload_n 0, 1) := by decide +kernel
theorem d_M_find_6 : decode b_M_find 6 = .ok (.getfield 48, 3) := by decide +kernel
theorem d_M_find_9 : decode b_M_find 9 = .ok (.if_icmp .ge 25, 3) := by decide +kernel
theorem d_M_find_12 : decode b_M_find 12 = .ok (.aload_n 0, 1) := by decide +kernel
theorem d_M_find_13 : decode b_M_find 13 = .ok (.getfield 38, 3) := by decide +kernel
theorem d_M_find_16 : decode b_M_find 16 = .ok (.iload_n 3, 1) := by decide +kernel
theorem d_M_find_17 : decode b_M_find 17 = .ok (.iaload, 1) := by decide +kernel
theorem d_M_find_18 : decode b_M_find 18 = .ok (.iload_n 1, 1) := by decide +kernel
theorem d_M_find_19 : decode b_M_find 19 = .ok (.if_icmp .ne 7, 3) := by decide +kernel
theorem d_M_find_22 : decode b_M_find 22 = .ok (.iload_n 3, 1) := by decide +kernel
theorem d_M_find_23 : decode b_M_find 23 = .ok (.goto 4, 3) := by decide +kernel
theorem d_M_find_26 : decode b_M_find 26 = .ok (.iload_n 2, 1) := by decide +kernel
theorem d_M_find_27 : decode b_M_find 27 = .ok (.istore_n 2, 1) := by decide +kernel
theorem d_M_find_28 : decode b_M_find 28 = .ok (.iinc 3 1, 3) := by decide +kernel
theorem d_M_find_31 : decode b_M_find 31 = .ok (.goto (-27), 3) := by decide +kernel
theorem d_M_find_34 : decode b_M_find 34 = .ok (.iload_n 2, 1) := by decide +kernel
theorem d_M_find_35 : decode b_M_find 35 = .ok (.ireturn, 1) := by decide +kernel
theorem d_M_remove_0 : decode b_M_remove 0 = .ok (.aload_n 0, 1) := by decide +kernel
theorem d_M_remove_1 : decode b_M_remove 1 = .ok (.iload_n 1, 1) := by decide +kernel
theorem d_M_remove_2 : decode b_M_remove 2 = .ok (.invokevirtual 51, 3) := by decide +kernel
theorem d_M_remove_5 : decode b_M_remove 5 = .ok (.istore_n 2, 1) := by decide +kernel
theorem d_M_remove_6 : decode b_M_remove 6 = .ok (.iload_n 2, 1) := by decide +kernel
theorem d_M_remove_7 : decode b_M_remove 7 = .ok (.ifCond .ge 4, 3) := by decide +kernel
theorem d_M_remove_10 : decode b_M_remove 10 = .ok (.return_, 1) := by decide +kernel
theorem d_M_remove_11 : decode b_M_remove 11 = .ok (.aload_n 0, 1) := by decide +kernel
theorem d_M_remove_12 : decode b_M_remove 12 = .ok (.aload_n 0, 1) := by decide +kernel
theorem d_M_remove_13 : decode b_M_remove 13 = .ok (.getfield 48, 3) := by decide +kernel
theorem d_M_remove_16 : decode b_M_remove 16 = .ok (.iconst 1, 1) := by decide +kernel
theorem d_M_remove_17 : decode b_M_remove 17 = .ok (.isub, 1) := by decide +kernel
theorem d_M_remove_18 : decode b_M_remove 18 = .ok (.putfield 48, 3) := by decide +kernel
theorem d_M_remove_21 : decode b_M_remove 21 = .ok (.iload_n 2, 1) := by decide +kernel
theorem d_M_remove_22 : decode b_M_remove 22 = .ok (.istore_n 3, 1) := by decide +kernel
theorem d_M_remove_23 : decode b_M_remove 23 = .ok (.iload_n 3, 1) := by decide +kernel
theorem d_M_remove_24 : decode b_M_remove 24 = .ok (.aload_n 0, 1) := by decide +kernel
theorem d_M_remove_25 : decode b_M_remove 25 = .ok (.getfield 48, 3) := by decide +kernel
theorem d_M_remove_28 : decode b_M_remove 28 = .ok (.if_icmp .ge 37, 3) := by decide +kernel
theorem d_M_remove_31 : decode b_M_remove 31 = .ok (.aload_n 0, 1) := by decide +kernel
theorem d_M_remove_32 : decode b_M_remove 32 = .ok (.getfield 38, 3) := by decide +kernel
theorem d_M_remove_35 : decode b_M_remove 35 = .ok (.iload_n 3, 1) := by decide +kernel
theorem d_M_remove_36 : decode b_M_remove 36 = .ok (.aload_n 0, 1) := by decide +kernel
theorem d_M_remove_37 : decode b_M_remove 37 = .ok (.getfield 38, 3) := by decide +kernel
theorem d_M_remove_40 : decode b_M_remove 40 = .ok (.iload_n 3, 1) := by decide +kernel
theorem d_M_remove_41 : decode b_M_remove 41 = .ok (.iconst 1, 1) := by decide +kernel
theorem d_M_remove_42 : decode b_M_remove 42 = .ok (.iadd, 1) := by decide +kernel
theorem d_M_remove_43 : decode b_M_remove 43 = .ok (.iaload, 1) := by decide +kernel
theorem d_M_remove_44 : decode b_M_remove 44 = .ok (.iastore, 1) := by decide +kernel
theorem d_M_remove_45 : decode b_M_remove 45 = .ok (.aload_n 0, 1) := by decide +kernel
theorem d_M_remove_46 : decode b_M_remove 46 = .ok (.getfield 41, 3) := by decide +kernel
theorem d_M_remove_49 : decode b_M_remove 49 = .ok (.iload_n 3, 1) := by decide +kernel
theorem d_M_remove_50 : decode b_M_remove 50 = .ok (.aload_n 0, 1) := by decide +kernel
theorem d_M_remove_51 : decode b_M_remove 51 = .ok (.getfield 41, 3) := by decide +kernel
theorem d_M_remove_54 : decode b_M_remove 54 = .ok (.iload_n 3, 1) := by decide +kernel
theorem d_M_remove_55 : decode b_M_remove 55 = .ok (.iconst 1, 1) := by decide +kernel
theorem d_M_remove_56 : decode b_M_remove 56 = .ok (.iadd, 1) := by decide +kernel
theorem d_M_remove_57 : decode b_M_remove 57 = .ok (.laload, 1) := by decide +kernel
theorem d_M_remove_58 : decode b_M_remove 58 = .ok (.lastore, 1) := by decide +kernel
theorem d_M_remove_59 : decode b_M_remove 59 = .ok (.iinc 3 1, 3) := by decide +kernel
theorem d_M_remove_62 : decode b_M_remove 62 = .ok (.goto (-39), 3) := by decide +kernel
theorem d_M_remove_65 : decode b_M_remove 65 = .ok (.return_, 1) := by decide +kernel
theorem d_M_write_0 : decode b_M_write 0 = .ok (.aload_n 0, 1) := by decide +kernel
theorem d_M_write_1 : decode b_M_write 1 = .ok (.getfield 17, 3) := by decide +kernel
theorem d_M_write_4 : decode b_M_write 4 = .ok (.aload_n 0, 1) := by decide +kernel
theorem d_M_write_5 : decode b_M_write 5 = .ok (.getfield 66, 3) := by decide +kernel
theorem d_M_write_8 : decode b_M_write 8 = .ok (.iload_n 1, 1) := by decide +kernel
theorem d_M_write_9 : decode b_M_write 9 = .ok (.iastore, 1) := by decide +kernel
theorem d_M_write_10 : decode b_M_write 10 = .ok (.aload_n 0, 1) := by decide +kernel
theorem d_M_write_11 : decode b_M_write 11 = .ok (.getfield 20, 3) := by decide +kernel
theorem d_M_write_14 : decode b_M_write 14 = .ok (.aload_n 0, 1) := by decide +kernel
theorem d_M_write_15 : decode b_M_write 15 = .ok (.getfield 66, 3) := by decide +kernel
theorem d_M_write_18 : decode b_M_write 18 = .ok (.iload_n 2, 1) := by decide +kernel
theorem d_M_write_19 : decode b_M_write 19 = .ok (.iastore, 1) := by decide +kernel
theorem d_M_write_20 : decode b_M_write 20 = .ok (.aload_n 0, 1) := by decide +kernel
theorem d_M_write_21 : decode b_M_write 21 = .ok (.getfield 23, 3) := by decide +kernel
theorem d_M_write_24 : decode b_M_write 24 = .ok (.aload_n 0, 1) := by decide +kernel
theorem d_M_write_25 : decode b_M_write 25 = .ok (.getfield 66, 3) := by decide +kernel
theorem d_M_write_28 : decode b_M_write 28 = .ok (.lload_n 3, 1) := by decide +kernel
theorem d_M_write_29 : decode b_M_write 29 = .ok (.lastore, 1) := by decide +kernel
theorem d_M_write_30 : decode b_M_write 30 = .ok (.aload_n 0, 1) := by decide +kernel
theorem d_M_write_31 : decode b_M_write 31 = .ok (.getfield 26, 3) := by decide +kernel
theorem d_M_write_34 : decode b_M_write 34 = .ok (.aload_n 0, 1) := by decide +kernel
theorem d_M_write_35 : decode b_M_write 35 = .ok (.getfield 66, 3) := by decide +kernel
theorem d_M_write_38 : decode b_M_write 38 = .ok (.iload 5, 2) := by decide +kernel
theorem d_M_write_40 : decode b_M_write 40 = .ok (.iastore, 1) := by decide +kernel
theorem d_M_write_41 : decode b_M_write 41 = .ok (.aload_n 0, 1) := by decide +kernel
theorem d_M_write_42 : decode b_M_write 42 = .ok (.aload_n 0, 1) := by decide +kernel
theorem d_M_write_43 : decode b_M_write 43 = .ok (.getfield 66, 3) := by decide +kernel
theorem d_M_write_46 : decode b_M_write 46 = .ok (.iconst 1, 1) := by decide +kernel
theorem d_M_write_47 : decode b_M_write 47 = .ok (.iadd, 1) := by decide +kernel
theorem d_M_write_48 : decode b_M_write 48 = .ok (.putfield 66, 3) := by decide +kernel
theorem d_M_write_51 : decode b_M_write 51 = .ok (.return_, 1) := by decide +kernel
theorem d_M_stays_0 : decode b_M_stays 0 = .ok (.aload_n 0, 1) := by decide +kernel
theorem d_M_stays_1 : decode b_M_stays 1 = .ok (.invokevirtual 72, 3) := by decide +kernel
theorem d_M_stays_4 : decode b_M_stays 4 = .ok (.aload_n 0, 1) := by decide +kernel
theorem d_M_stays_5 : decode b_M_stays 5 = .ok (.getfield 48, 3) := by decide +kernel
theorem d_M_stays_8 : decode b_M_stays 8 = .ok (.bipush 60, 2) := by decide +kernel
theorem d_M_stays_10 : decode b_M_stays 10 = .ok (.if_icmp .gt 14, 3) := by decide +kernel
theorem d_M_stays_13 : decode b_M_stays 13 = .ok (.aload_n 0, 1) := by decide +kernel
theorem d_M_stays_14 : decode b_M_stays 14 = .ok (.invokevirtual 75, 3) := by decide +kernel
theorem d_M_stays_17 : decode b_M_stays 17 = .ok (.aload_n 0, 1) := by decide +kernel
theorem d_M_stays_18 : decode b_M_stays 18 = .ok (.getfield 44, 3) := by decide +kernel
theorem d_M_stays_21 : decode b_M_stays 21 = .ok (.if_icmp .le 10, 3) := by decide +kernel
theorem d_M_stays_24 : decode b_M_stays 24 = .ok (.aload_n 0, 1) := by decide +kernel
theorem d_M_stays_25 : decode b_M_stays 25 = .ok (.iload_n 1, 1) := by decide +kernel
theorem d_M_stays_26 : decode b_M_stays 26 = .ok (.putfield 66, 3) := by decide +kernel
theorem d_M_stays_29 : decode b_M_stays 29 = .ok (.iconst 0, 1) := by decide +kernel
theorem d_M_stays_30 : decode b_M_stays 30 = .ok (.ireturn, 1) := by decide +kernel
theorem d_M_stays_31 : decode b_M_stays 31 = .ok (.aload_n 0, 1) := by decide +kernel
theorem d_M_stays_32 : decode b_M_stays 32 = .ok (.getfield 66, 3) := by decide +kernel
theorem d_M_stays_35 : decode b_M_stays 35 = .ok (.bipush 64, 2) := by decide +kernel
theorem d_M_stays_37 : decode b_M_stays 37 = .ok (.if_icmp .le 8, 3) := by decide +kernel
theorem d_M_stays_40 : decode b_M_stays 40 = .ok (.aload_n 0, 1) := by decide +kernel
theorem d_M_stays_41 : decode b_M_stays 41 = .ok (.iload_n 1, 1) := by decide +kernel
theorem d_M_stays_42 : decode b_M_stays 42 = .ok (.invokevirtual 79, 3) := by decide +kernel
theorem d_M_stays_45 : decode b_M_stays 45 = .ok (.iconst 1, 1) := by decide +kernel
theorem d_M_stays_46 : decode b_M_stays 46 = .ok (.ireturn, 1) := by decide +kernel
theorem d_M_inUse_0 : decode b_M_inUse 0 = .ok (.iconst 1, 1) := by decide +kernel
theorem d_M_inUse_1 : decode b_M_inUse 1 = .ok (.aload_n 0, 1) := by decide +kernel
theorem d_M_inUse_2 : decode b_M_inUse 2 = .ok (.invokevirtual 100, 3) := by decide +kernel
theorem d_M_inUse_5 : decode b_M_inUse 5 = .ok (.ishl, 1) := by decide +kernel
theorem d_M_inUse_6 : decode b_M_inUse 6 = .ok (.istore_n 1, 1) := by decide +kernel
theorem d_M_inUse_7 : decode b_M_inUse 7 = .ok (.iconst 1, 1) := by decide +kernel
theorem d_M_inUse_8 : decode b_M_inUse 8 = .ok (.iload_n 1, 1) := by decide +kernel
theorem d_M_inUse_9 : decode b_M_inUse 9 = .ok (.bipush 15, 2) := by decide +kernel
theorem d_M_inUse_11 : decode b_M_inUse 11 = .ok (.iadd, 1) := by decide +kernel
theorem d_M_inUse_12 : decode b_M_inUse 12 = .ok (.bipush 16, 2) := by decide +kernel
theorem d_M_inUse_14 : decode b_M_inUse 14 = .ok (.idiv, 1) := by decide +kernel
theorem d_M_inUse_15 : decode b_M_inUse 15 = .ok (.iadd, 1) := by decide +kernel
theorem d_M_inUse_16 : decode b_M_inUse 16 = .ok (.istore_n 2, 1) := by decide +kernel
theorem d_M_inUse_17 : decode b_M_inUse 17 = .ok (.iconst 0, 1) := by decide +kernel
theorem d_M_inUse_18 : decode b_M_inUse 18 = .ok (.istore_n 3, 1) := by decide +kernel
theorem d_M_inUse_19 : decode b_M_inUse 19 = .ok (.iload_n 3, 1) := by decide +kernel
theorem d_M_inUse_20 : decode b_M_inUse 20 = .ok (.bipush 64, 2) := by decide +kernel
theorem d_M_inUse_22 : decode b_M_inUse 22 = .ok (.if_icmp .ge 48, 3) := by decide +kernel
theorem d_M_inUse_25 : decode b_M_inUse 25 = .ok (.aload_n 0, 1) := by decide +kernel
theorem d_M_inUse_26 : decode b_M_inUse 26 = .ok (.iload_n 3, 1) := by decide +kernel
theorem d_M_inUse_27 : decode b_M_inUse 27 = .ok (.invokevirtual 97, 3) := by decide +kernel
theorem d_M_inUse_30 : decode b_M_inUse 30 = .ok (.istore 4, 2) := by decide +kernel
theorem d_M_inUse_32 : decode b_M_inUse 32 = .ok (.iload 4, 2) := by decide +kernel
theorem d_M_inUse_34 : decode b_M_inUse 34 = .ok (.ifCond .lt 30, 3) := by decide +kernel
theorem d_M_inUse_37 : decode b_M_inUse 37 = .ok (.aload_n 0, 1) := by decide +kernel
theorem d_M_inUse_38 : decode b_M_inUse 38 = .ok (.iload 4, 2) := by decide +kernel
theorem d_M_inUse_40 : decode b_M_inUse 40 = .ok (.iload_n 3, 1) := by decide +kernel
theorem d_M_inUse_41 : decode b_M_inUse 41 = .ok (.invokevirtual 103, 3) := by decide +kernel
theorem d_M_inUse_44 : decode b_M_inUse 44 = .ok (.istore 5, 2) := by decide +kernel
theorem d_M_inUse_46 : decode b_M_inUse 46 = .ok (.iload_n 2, 1) := by decide +kernel
theorem d_M_inUse_47 : decode b_M_inUse 47 = .ok (.iload 5, 2) := by decide +kernel
theorem d_M_inUse_49 : decode b_M_inUse 49 = .ok (.ifCond .ne 7, 3) := by decide +kernel
theorem d_M_inUse_52 : decode b_M_inUse 52 = .ok (.iconst 1, 1) := by decide +kernel
theorem d_M_inUse_53 : decode b_M_inUse 53 = .ok (.goto 9, 3) := by decide +kernel
theorem d_M_inUse_56 : decode b_M_inUse 56 = .ok (.iload 5, 2) := by decide +kernel
theorem d_M_inUse_58 : decode b_M_inUse 58 = .ok (.iconst 3, 1) := by decide +kernel
theorem d_M_inUse_59 : decode b_M_inUse 59 = .ok (.iadd, 1) := by decide +kernel
theorem d_M_inUse_60 : decode b_M_inUse 60 = .ok (.iconst 4, 1) := by decide +kernel
theorem d_M_inUse_61 : decode b_M_inUse 61 = .ok (.idiv, 1) := by decide +kernel
theorem d_M_inUse_62 : decode b_M_inUse 62 = .ok (.iadd, 1) := by decide +kernel
theorem d_M_inUse_63 : decode b_M_inUse 63 = .ok (.istore_n 2, 1) := by decide +kernel
theorem d_M_inUse_64 : decode b_M_inUse 64 = .ok (.iinc 3 1, 3) := by decide +kernel
theorem d_M_inUse_67 : decode b_M_inUse 67 = .ok (.goto (-48), 3) := by decide +kernel
theorem d_M_inUse_70 : decode b_M_inUse 70 = .ok (.iconst 0, 1) := by decide +kernel
theorem d_M_inUse_71 : decode b_M_inUse 71 = .ok (.istore_n 3, 1) := by decide +kernel
theorem d_M_inUse_72 : decode b_M_inUse 72 = .ok (.iload_n 3, 1) := by decide +kernel
theorem d_M_inUse_73 : decode b_M_inUse 73 = .ok (.aload_n 0, 1) := by decide +kernel
theorem d_M_inUse_74 : decode b_M_inUse 74 = .ok (.getfield 48, 3) := by decide +kernel
theorem d_M_inUse_77 : decode b_M_inUse 77 = .ok (.if_icmp .ge 22, 3) := by decide +kernel
theorem d_M_inUse_80 : decode b_M_inUse 80 = .ok (.iload_n 2, 1) := by decide +kernel
theorem d_M_inUse_81 : decode b_M_inUse 81 = .ok (.aload_n 0, 1) := by decide +kernel
theorem d_M_inUse_82 : decode b_M_inUse 82 = .ok (.aload_n 0, 1) := by decide +kernel
theorem d_M_inUse_83 : decode b_M_inUse 83 = .ok (.getfield 41, 3) := by decide +kernel
theorem d_M_inUse_86 : decode b_M_inUse 86 = .ok (.iload_n 3, 1) := by decide +kernel
theorem d_M_inUse_87 : decode b_M_inUse 87 = .ok (.laload, 1) := by decide +kernel
theorem d_M_inUse_88 : decode b_M_inUse 88 = .ok (.invokevirtual 107, 3) := by decide +kernel
theorem d_M_inUse_91 : decode b_M_inUse 91 = .ok (.iadd, 1) := by decide +kernel
theorem d_M_inUse_92 : decode b_M_inUse 92 = .ok (.istore_n 2, 1) := by decide +kernel
theorem d_M_inUse_93 : decode b_M_inUse 93 = .ok (.iinc 3 1, 3) := by decide +kernel
theorem d_M_inUse_96 : decode b_M_inUse 96 = .ok (.goto (-24), 3) := by decide +kernel
theorem d_M_inUse_99 : decode b_M_inUse 99 = .ok (.iload_n 2, 1) := by decide +kernel
theorem d_M_inUse_100 : decode b_M_inUse 100 = .ok (.ireturn, 1) := by decide +kernel
theorem d_M_greatest_0 : decode b_M_greatest 0 = .ok (.iconst 0, 1) := by decide +kernel
theorem d_M_greatest_1 : decode b_M_greatest 1 = .ok (.istore_n 1, 1) := by decide +kernel
theorem d_M_greatest_2 : decode b_M_greatest 2 = .ok (.iconst 0, 1) := by decide +kernel
theorem d_M_greatest_3 : decode b_M_greatest 3 = .ok (.istore_n 2, 1) := by decide +kernel
theorem d_M_greatest_4 : decode b_M_greatest 4 = .ok (.iload_n 2, 1) := by decide +kernel
theorem d_M_greatest_5 : decode b_M_greatest 5 = .ok (.bipush 64, 2) := by decide +kernel
theorem d_M_greatest_7 : decode b_M_greatest 7 = .ok (.if_icmp .ge 26, 3) := by decide +kernel
theorem d_M_greatest_10 : decode b_M_greatest 10 = .ok (.aload_n 0, 1) := by decide +kernel
theorem d_M_greatest_11 : decode b_M_greatest 11 = .ok (.iload_n 2, 1) := by decide +kernel
theorem d_M_greatest_12 : decode b_M_greatest 12 = .ok (.invokevirtual 97, 3) := by decide +kernel
theorem d_M_greatest_15 : decode b_M_greatest 15 = .ok (.istore_n 3, 1) := by decide +kernel
theorem d_M_greatest_16 : decode b_M_greatest 16 = .ok (.iload_n 3, 1) := by decide +kernel
theorem d_M_greatest_17 : decode b_M_greatest 17 = .ok (.iload_n 1, 1) := by decide +kernel
theorem d_M_greatest_18 : decode b_M_greatest 18 = .ok (.if_icmp .le 7, 3) := by decide +kernel
theorem d_M_greatest_21 : decode b_M_greatest 21 = .ok (.iload_n 3, 1) := by decide +kernel
theorem d_M_greatest_22 : decode b_M_greatest 22 = .ok (.goto 4, 3) := by decide +kernel
theorem d_M_greatest_25 : decode b_M_greatest 25 = .ok (.iload_n 1, 1) := by decide +kernel
theorem d_M_greatest_26 : decode b_M_greatest 26 = .ok (.istore_n 1, 1) := by decide +kernel
theorem d_M_greatest_27 : decode b_M_greatest 27 = .ok (.iinc 2 1, 3) := by decide +kernel
theorem d_M_greatest_30 : decode b_M_greatest 30 = .ok (.goto (-26), 3) := by decide +kernel
theorem d_M_greatest_33 : decode b_M_greatest 33 = .ok (.iload_n 1, 1) := by decide +kernel
theorem d_M_greatest_34 : decode b_M_greatest 34 = .ok (.ireturn, 1) := by decide +kernel
theorem d_M_depthOf_0 : decode b_M_depthOf 0 = .ok (.iconst (-1), 1) := by decide +kernel
theorem d_M_depthOf_1 : decode b_M_depthOf 1 = .ok (.istore_n 2, 1) := by decide +kernel
theorem d_M_depthOf_2 : decode b_M_depthOf 2 = .ok (.iconst 0, 1) := by decide +kernel
theorem d_M_depthOf_3 : decode b_M_depthOf 3 = .ok (.istore_n 3, 1) := by decide +kernel
theorem d_M_depthOf_4 : decode b_M_depthOf 4 = .ok (.iload_n 3, 1) := by decide +kernel
theorem d_M_depthOf_5 : decode b_M_depthOf 5 = .ok (.bipush 6, 2) := by decide +kernel
theorem d_M_depthOf_7 : decode b_M_depthOf 7 = .ok (.if_icmp .gt 66, 3) := by decide +kernel
theorem d_M_depthOf_10 : decode b_M_depthOf 10 = .ok (.iload_n 1, 1) := by decide +kernel
theorem d_M_depthOf_11 : decode b_M_depthOf 11 = .ok (.iconst 1, 1) := by decide +kernel
theorem d_M_depthOf_12 : decode b_M_depthOf 12 = .ok (.iload_n 3, 1) := by decide +kernel
theorem d_M_depthOf_13 : decode b_M_depthOf 13 = .ok (.ishl, 1) := by decide +kernel
theorem d_M_depthOf_14 : decode b_M_depthOf 14 = .ok (.if_icmp .ge 53, 3) := by decide +kernel
theorem d_M_depthOf_17 : decode b_M_depthOf 17 = .ok (.aload_n 0, 1) := by decide +kernel
theorem d_M_depthOf_18 : decode b_M_depthOf 18 = .ok (.iload_n 3, 1) := by decide +kernel
theorem d_M_depthOf_19 : decode b_M_depthOf 19 = .ok (.iload_n 1, 1) := by decide +kernel
theorem d_M_depthOf_20 : decode b_M_depthOf 20 = .ok (.invokevirtual 89, 3) := by decide +kernel
theorem d_M_depthOf_23 : decode b_M_depthOf 23 = .ok (.ifCond .eq 44, 3) := by decide +kernel
theorem d_M_depthOf_26 : decode b_M_depthOf 26 = .ok (.iload_n 3, 1) := by decide +kernel
theorem d_M_depthOf_27 : decode b_M_depthOf 27 = .ok (.ifCond .eq 22, 3) := by decide +kernel
theorem d_M_depthOf_30 : decode b_M_depthOf 30 = .ok (.aload_n 0, 1) := by decide +kernel
theorem d_M_depthOf_31 : decode b_M_depthOf 31 = .ok (.iload_n 3, 1) := by decide +kernel
theorem d_M_depthOf_32 : decode b_M_depthOf 32 = .ok (.iconst 1, 1) := by decide +kernel
theorem d_M_depthOf_33 : decode b_M_depthOf 33 = .ok (.isub, 1) := by decide +kernel
theorem d_M_depthOf_34 : decode b_M_depthOf 34 = .ok (.iload_n 1, 1) := by decide +kernel
theorem d_M_depthOf_35 : decode b_M_depthOf 35 = .ok (.iconst 1, 1) := by decide +kernel
theorem d_M_depthOf_36 : decode b_M_depthOf 36 = .ok (.iload_n 3, 1) := by decide +kernel
theorem d_M_depthOf_37 : decode b_M_depthOf 37 = .ok (.iconst 1, 1) := by decide +kernel
theorem d_M_depthOf_38 : decode b_M_depthOf 38 = .ok (.isub, 1) := by decide +kernel
theorem d_M_depthOf_39 : decode b_M_depthOf 39 = .ok (.ishl, 1) := by decide +kernel
theorem d_M_depthOf_40 : decode b_M_depthOf 40 = .ok (.iconst 1, 1) := by decide +kernel
theorem d_M_depthOf_41 : decode b_M_depthOf 41 = .ok (.isub, 1) := by decide +kernel
theorem d_M_depthOf_42 : decode b_M_depthOf 42 = .ok (.iand, 1) := by decide +kernel
theorem d_M_depthOf_43 : decode b_M_depthOf 43 = .ok (.invokevirtual 89, 3) := by decide +kernel
theorem d_M_depthOf_46 : decode b_M_depthOf 46 = .ok (.ifCond .ne 7, 3) := by decide +kernel
theorem d_M_depthOf_49 : decode b_M_depthOf 49 = .ok (.iconst 1, 1) := by decide +kernel
theorem d_M_depthOf_50 : decode b_M_depthOf 50 = .ok (.goto 4, 3) := by decide +kernel
theorem d_M_depthOf_53 : decode b_M_depthOf 53 = .ok (.iconst 0, 1) := by decide +kernel
theorem d_M_depthOf_54 : decode b_M_depthOf 54 = .ok (.istore 4, 2) := by decide +kernel
theorem d_M_depthOf_56 : decode b_M_depthOf 56 = .ok (.iload 4, 2) := by decide +kernel
theorem d_M_depthOf_58 : decode b_M_depthOf 58 = .ok (.ifCond .eq 7, 3) := by decide +kernel
theorem d_M_depthOf_61 : decode b_M_depthOf 61 = .ok (.iload_n 3, 1) := by decide +kernel
theorem d_M_depthOf_62 : decode b_M_depthOf 62 = .ok (.goto 4, 3) := by decide +kernel
theorem d_M_depthOf_65 : decode b_M_depthOf 65 = .ok (.iload_n 2, 1) := by decide +kernel
theorem d_M_depthOf_66 : decode b_M_depthOf 66 = .ok (.istore_n 2, 1) := by decide +kernel
theorem d_M_depthOf_67 : decode b_M_depthOf 67 = .ok (.iinc 3 1, 3) := by decide +kernel
theorem d_M_depthOf_70 : decode b_M_depthOf 70 = .ok (.goto (-66), 3) := by decide +kernel
theorem d_M_depthOf_73 : decode b_M_depthOf 73 = .ok (.iload_n 2, 1) := by decide +kernel
theorem d_M_depthOf_74 : decode b_M_depthOf 74 = .ok (.ireturn, 1) := by decide +kernel
theorem d_M_good_0 : decode b_M_good 0 = .ok (.iconst 0, 1) := by decide +kernel
theorem d_M_good_1 : decode b_M_good 1 = .ok (.istore_n 3, 1) := by decide +kernel
theorem d_M_good_2 : decode b_M_good 2 = .ok (.iconst (-1), 1) := by decide +kernel
theorem d_M_good_3 : decode b_M_good 3 = .ok (.istore 4, 2) := by decide +kernel
theorem d_M_good_5 : decode b_M_good 5 = .ok (.iconst 1, 1) := by decide +kernel
theorem d_M_good_6 : decode b_M_good 6 = .ok (.istore 5, 2) := by decide +kernel
theorem d_M_good_8 : decode b_M_good 8 = .ok (.iconst 0, 1) := by decide +kernel
theorem d_M_good_9 : decode b_M_good 9 = .ok (.istore 6, 2) := by decide +kernel
theorem d_M_good_11 : decode b_M_good 11 = .ok (.iload 6, 2) := by decide +kernel
theorem d_M_good_13 : decode b_M_good 13 = .ok (.aload_n 0, 1) := by decide +kernel
theorem d_M_good_14 : decode b_M_good 14 = .ok (.getfield 48, 3) := by decide +kernel
theorem d_M_good_17 : decode b_M_good 17 = .ok (.if_icmp .ge 65, 3) := by decide +kernel
theorem d_M_good_20 : decode b_M_good 20 = .ok (.aload_n 0, 1) := by decide +kernel
theorem d_M_good_21 : decode b_M_good 21 = .ok (.aload_n 0, 1) := by decide +kernel
theorem d_M_good_22 : decode b_M_good 22 = .ok (.getfield 38, 3) := by decide +kernel
theorem d_M_good_25 : decode b_M_good 25 = .ok (.iload 6, 2) := by decide +kernel
theorem d_M_good_27 : decode b_M_good 27 = .ok (.iaload, 1) := by decide +kernel
theorem d_M_good_28 : decode b_M_good 28 = .ok (.invokevirtual 82, 3) := by decide +kernel
theorem d_M_good_31 : decode b_M_good 31 = .ok (.istore 7, 2) := by decide +kernel
theorem d_M_good_33 : decode b_M_good 33 = .ok (.aload_n 0, 1) := by decide +kernel
theorem d_M_good_34 : decode b_M_good 34 = .ok (.iload 7, 2) := by decide +kernel
theorem d_M_good_36 : decode b_M_good 36 = .ok (.iload_n 1, 1) := by decide +kernel
theorem d_M_good_37 : decode b_M_good 37 = .ok (.iload_n 2, 1) := by decide +kernel
theorem d_M_good_38 : decode b_M_good 38 = .ok (.invokevirtual 85, 3) := by decide +kernel
theorem d_M_good_41 : decode b_M_good 41 = .ok (.ifCond .eq 35, 3) := by decide +kernel
theorem d_M_good_44 : decode b_M_good 44 = .ok (.iload_n 3, 1) := by decide +kernel
theorem d_M_good_45 : decode b_M_good 45 = .ok (.iconst 1, 1) := by decide +kernel
theorem d_M_good_46 : decode b_M_good 46 = .ok (.iadd, 1) := by decide +kernel
theorem d_M_good_47 : decode b_M_good 47 = .ok (.istore_n 3, 1) := by decide +kernel
theorem d_M_good_48 : decode b_M_good 48 = .ok (.iload 5, 2) := by decide +kernel
theorem d_M_good_50 : decode b_M_good 50 = .ok (.ifCond .eq 19, 3) := by decide +kernel
theorem d_M_good_53 : decode b_M_good 53 = .ok (.iload 4, 2) := by decide +kernel
theorem d_M_good_55 : decode b_M_good 55 = .ok (.ifCond .lt 10, 3) := by decide +kernel
theorem d_M_good_58 : decode b_M_good 58 = .ok (.iload 4, 2) := by decide +kernel
theorem d_M_good_60 : decode b_M_good 60 = .ok (.iload 7, 2) := by decide +kernel
theorem d_M_good_62 : decode b_M_good 62 = .ok (.if_icmp .ne 7, 3) := by decide +kernel
theorem d_M_good_65 : decode b_M_good 65 = .ok (.iconst 1, 1) := by decide +kernel
theorem d_M_good_66 : decode b_M_good 66 = .ok (.goto 4, 3) := by decide +kernel
theorem d_M_good_69 : decode b_M_good 69 = .ok (.iconst 0, 1) := by decide +kernel
theorem d_M_good_70 : decode b_M_good 70 = .ok (.istore 5, 2) := by decide +kernel
theorem d_M_good_72 : decode b_M_good 72 = .ok (.iload 7, 2) := by decide +kernel
theorem d_M_good_74 : decode b_M_good 74 = .ok (.istore 4, 2) := by decide +kernel
theorem d_M_good_76 : decode b_M_good 76 = .ok (.iinc 6 1, 3) := by decide +kernel
theorem d_M_good_79 : decode b_M_good 79 = .ok (.goto (-68), 3) := by decide +kernel
theorem d_M_good_82 : decode b_M_good 82 = .ok (.iload_n 3, 1) := by decide +kernel
theorem d_M_good_83 : decode b_M_good 83 = .ok (.iconst 4, 1) := by decide +kernel
theorem d_M_good_84 : decode b_M_good 84 = .ok (.if_icmp .le 8, 3) := by decide +kernel
theorem d_M_good_87 : decode b_M_good 87 = .ok (.iload 5, 2) := by decide +kernel
theorem d_M_good_89 : decode b_M_good 89 = .ok (.ifCond .eq 7, 3) := by decide +kernel
theorem d_M_good_92 : decode b_M_good 92 = .ok (.iconst 1, 1) := by decide +kernel
theorem d_M_good_93 : decode b_M_good 93 = .ok (.goto 4, 3) := by decide +kernel
theorem d_M_good_96 : decode b_M_good 96 = .ok (.iconst 0, 1) := by decide +kernel
theorem d_M_good_97 : decode b_M_good 97 = .ok (.ireturn, 1) := by decide +kernel
theorem d_M_hash_0 : decode b_M_hash 0 = .ok (.iload_n 1, 1) := by decide +kernel
theorem d_M_hash_1 : decode b_M_hash 1 = .ok (.iload_n 1, 1) := by decide +kernel
theorem d_M_hash_2 : decode b_M_hash 2 = .ok (.bipush 6, 2) := by decide +kernel
theorem d_M_hash_4 : decode b_M_hash 4 = .ok (.iushr, 1) := by decide +kernel
theorem d_M_hash_5 : decode b_M_hash 5 = .ok (.ixor, 1) := by decide +kernel
theorem d_M_hash_6 : decode b_M_hash 6 = .ok (.iload_n 1, 1) := by decide +kernel
theorem d_M_hash_7 : decode b_M_hash 7 = .ok (.bipush 12, 2) := by decide +kernel
theorem d_M_hash_9 : decode b_M_hash 9 = .ok (.iushr, 1) := by decide +kernel
theorem d_M_hash_10 : decode b_M_hash 10 = .ok (.ixor, 1) := by decide +kernel
theorem d_M_hash_11 : decode b_M_hash 11 = .ok (.iload_n 1, 1) := by decide +kernel
theorem d_M_hash_12 : decode b_M_hash 12 = .ok (.bipush 18, 2) := by decide +kernel
theorem d_M_hash_14 : decode b_M_hash 14 = .ok (.iushr, 1) := by decide +kernel
theorem d_M_hash_15 : decode b_M_hash 15 = .ok (.ixor, 1) := by decide +kernel
theorem d_M_hash_16 : decode b_M_hash 16 = .ok (.iload_n 1, 1) := by decide +kernel
theorem d_M_hash_17 : decode b_M_hash 17 = .ok (.bipush 24, 2) := by decide +kernel
theorem d_M_hash_19 : decode b_M_hash 19 = .ok (.iushr, 1) := by decide +kernel
theorem d_M_hash_20 : decode b_M_hash 20 = .ok (.ixor, 1) := by decide +kernel
theorem d_M_hash_21 : decode b_M_hash 21 = .ok (.iload_n 1, 1) := by decide +kernel
theorem d_M_hash_22 : decode b_M_hash 22 = .ok (.bipush 30, 2) := by decide +kernel
theorem d_M_hash_24 : decode b_M_hash 24 = .ok (.iushr, 1) := by decide +kernel
theorem d_M_hash_25 : decode b_M_hash 25 = .ok (.ixor, 1) := by decide +kernel
theorem d_M_hash_26 : decode b_M_hash 26 = .ok (.bipush 63, 2) := by decide +kernel
theorem d_M_hash_28 : decode b_M_hash 28 = .ok (.iand, 1) := by decide +kernel
theorem d_M_hash_29 : decode b_M_hash 29 = .ok (.ireturn, 1) := by decide +kernel
theorem d_M_inClass_0 : decode b_M_inClass 0 = .ok (.iload_n 1, 1) := by decide +kernel
theorem d_M_inClass_1 : decode b_M_inClass 1 = .ok (.iconst 1, 1) := by decide +kernel
theorem d_M_inClass_2 : decode b_M_inClass 2 = .ok (.iload_n 2, 1) := by decide +kernel
theorem d_M_inClass_3 : decode b_M_inClass 3 = .ok (.ishl, 1) := by decide +kernel
theorem d_M_inClass_4 : decode b_M_inClass 4 = .ok (.iconst 1, 1) := by decide +kernel
theorem d_M_inClass_5 : decode b_M_inClass 5 = .ok (.isub, 1) := by decide +kernel
theorem d_M_inClass_6 : decode b_M_inClass 6 = .ok (.iand, 1) := by decide +kernel
theorem d_M_inClass_7 : decode b_M_inClass 7 = .ok (.iload_n 3, 1) := by decide +kernel
theorem d_M_inClass_8 : decode b_M_inClass 8 = .ok (.if_icmp .ne 7, 3) := by decide +kernel
theorem d_M_inClass_11 : decode b_M_inClass 11 = .ok (.iconst 1, 1) := by decide +kernel
theorem d_M_inClass_12 : decode b_M_inClass 12 = .ok (.goto 4, 3) := by decide +kernel
theorem d_M_inClass_15 : decode b_M_inClass 15 = .ok (.iconst 0, 1) := by decide +kernel
theorem d_M_inClass_16 : decode b_M_inClass 16 = .ok (.ireturn, 1) := by decide +kernel
theorem d_M_count_0 : decode b_M_count 0 = .ok (.iconst 0, 1) := by decide +kernel
theorem d_M_count_1 : decode b_M_count 1 = .ok (.istore_n 3, 1) := by decide +kernel
theorem d_M_count_2 : decode b_M_count 2 = .ok (.iconst 0, 1) := by decide +kernel
theorem d_M_count_3 : decode b_M_count 3 = .ok (.istore 4, 2) := by decide +kernel
theorem d_M_count_5 : decode b_M_count 5 = .ok (.iload 4, 2) := by decide +kernel
theorem d_M_count_7 : decode b_M_count 7 = .ok (.aload_n 0, 1) := by decide +kernel
theorem d_M_count_8 : decode b_M_count 8 = .ok (.getfield 48, 3) := by decide +kernel
theorem d_M_count_11 : decode b_M_count 11 = .ok (.if_icmp .ge 37, 3) := by decide +kernel
theorem d_M_count_14 : decode b_M_count 14 = .ok (.aload_n 0, 1) := by decide +kernel
theorem d_M_count_15 : decode b_M_count 15 = .ok (.aload_n 0, 1) := by decide +kernel
theorem d_M_count_16 : decode b_M_count 16 = .ok (.aload_n 0, 1) := by decide +kernel
theorem d_M_count_17 : decode b_M_count 17 = .ok (.getfield 38, 3) := by decide +kernel
theorem d_M_count_20 : decode b_M_count 20 = .ok (.iload 4, 2) := by decide +kernel
theorem d_M_count_22 : decode b_M_count 22 = .ok (.iaload, 1) := by decide +kernel
theorem d_M_count_23 : decode b_M_count 23 = .ok (.invokevirtual 82, 3) := by decide +kernel
theorem d_M_count_26 : decode b_M_count 26 = .ok (.iload_n 1, 1) := by decide +kernel
theorem d_M_count_27 : decode b_M_count 27 = .ok (.iload_n 2, 1) := by decide +kernel
theorem d_M_count_28 : decode b_M_count 28 = .ok (.invokevirtual 85, 3) := by decide +kernel
theorem d_M_count_31 : decode b_M_count 31 = .ok (.ifCond .eq 9, 3) := by decide +kernel
theorem d_M_count_34 : decode b_M_count 34 = .ok (.iload_n 3, 1) := by decide +kernel
theorem d_M_count_35 : decode b_M_count 35 = .ok (.iconst 1, 1) := by decide +kernel
theorem d_M_count_36 : decode b_M_count 36 = .ok (.iadd, 1) := by decide +kernel
theorem d_M_count_37 : decode b_M_count 37 = .ok (.goto 4, 3) := by decide +kernel
theorem d_M_count_40 : decode b_M_count 40 = .ok (.iload_n 3, 1) := by decide +kernel
theorem d_M_count_41 : decode b_M_count 41 = .ok (.istore_n 3, 1) := by decide +kernel
theorem d_M_count_42 : decode b_M_count 42 = .ok (.iinc 4 1, 3) := by decide +kernel
theorem d_M_count_45 : decode b_M_count 45 = .ok (.goto (-40), 3) := by decide +kernel
theorem d_M_count_48 : decode b_M_count 48 = .ok (.iload_n 3, 1) := by decide +kernel
theorem d_M_count_49 : decode b_M_count 49 = .ok (.ireturn, 1) := by decide +kernel
theorem d_M_valuePages_0 : decode b_M_valuePages 0 = .ok (.aload_n 0, 1) := by decide +kernel
theorem d_M_valuePages_1 : decode b_M_valuePages 1 = .ok (.lload_n 1, 1) := by decide +kernel
theorem d_M_valuePages_2 : decode b_M_valuePages 2 = .ok (.invokevirtual 93, 3) := by decide +kernel
theorem d_M_valuePages_5 : decode b_M_valuePages 5 = .ok (.istore_n 3, 1) := by decide +kernel
theorem d_M_valuePages_6 : decode b_M_valuePages 6 = .ok (.iload_n 3, 1) := by decide +kernel
theorem d_M_valuePages_7 : decode b_M_valuePages 7 = .ok (.iconst 2, 1) := by decide +kernel
theorem d_M_valuePages_8 : decode b_M_valuePages 8 = .ok (.if_icmp .le 11, 3) := by decide +kernel
theorem d_M_valuePages_11 : decode b_M_valuePages 11 = .ok (.iload_n 3, 1) := by decide +kernel
theorem d_M_valuePages_12 : decode b_M_valuePages 12 = .ok (.iconst 1, 1) := by decide +kernel
theorem d_M_valuePages_13 : decode b_M_valuePages 13 = .ok (.iadd, 1) := by decide +kernel
theorem d_M_valuePages_14 : decode b_M_valuePages 14 = .ok (.iconst 2, 1) := by decide +kernel
theorem d_M_valuePages_15 : decode b_M_valuePages 15 = .ok (.idiv, 1) := by decide +kernel
theorem d_M_valuePages_16 : decode b_M_valuePages 16 = .ok (.goto 4, 3) := by decide +kernel
theorem d_M_valuePages_19 : decode b_M_valuePages 19 = .ok (.iconst 0, 1) := by decide +kernel
theorem d_M_valuePages_20 : decode b_M_valuePages 20 = .ok (.ireturn, 1) := by decide +kernel
theorem d_M_bytes_0 : decode b_M_bytes 0 = .ok (.iconst 1, 1) := by decide +kernel
