theorem dX6_init_0 : decode cX6_init 0 = .ok (.aload_n 0, 1) := by decide +kernel
theorem dX6_init_1 : decode cX6_init 1 = .ok (.invokespecial 1, 3) := by decide +kernel
theorem dX6_init_4 : decode cX6_init 4 = .ok (.aload_n 0, 1) := by decide +kernel
theorem dX6_init_5 : decode cX6_init 5 = .ok (.new 7, 3) := by decide +kernel
theorem dX6_init_8 : decode cX6_init 8 = .ok (.dup, 1) := by decide +kernel
theorem dX6_init_9 : decode cX6_init 9 = .ok (.invokespecial 9, 3) := by decide +kernel
theorem dX6_init_12 : decode cX6_init 12 = .ok (.putfield 10, 3) := by decide +kernel
theorem dX6_init_15 : decode cX6_init 15 = .ok (.aload_n 0, 1) := by decide +kernel
theorem dX6_init_16 : decode cX6_init 16 = .ok (.new 7, 3) := by decide +kernel
theorem dX6_init_19 : decode cX6_init 19 = .ok (.dup, 1) := by decide +kernel
theorem dX6_init_20 : decode cX6_init 20 = .ok (.invokespecial 9, 3) := by decide +kernel
theorem dX6_init_23 : decode cX6_init 23 = .ok (.putfield 16, 3) := by decide +kernel
theorem dX6_init_26 : decode cX6_init 26 = .ok (.aload_n 0, 1) := by decide +kernel
theorem dX6_init_27 : decode cX6_init 27 = .ok (.new 19, 3) := by decide +kernel
theorem dX6_init_30 : decode cX6_init 30 = .ok (.dup, 1) := by decide +kernel
theorem dX6_init_31 : decode cX6_init 31 = .ok (.invokespecial 21, 3) := by decide +kernel
theorem dX6_init_34 : decode cX6_init 34 = .ok (.putfield 22, 3) := by decide +kernel
theorem dX6_init_37 : decode cX6_init 37 = .ok (.aload_n 0, 1) := by decide +kernel
theorem dX6_init_38 : decode cX6_init 38 = .ok (.new 26, 3) := by decide +kernel
theorem dX6_init_41 : decode cX6_init 41 = .ok (.dup, 1) := by decide +kernel
theorem dX6_init_42 : decode cX6_init 42 = .ok (.invokespecial 28, 3) := by decide +kernel
theorem dX6_init_45 : decode cX6_init 45 = .ok (.putfield 29, 3) := by decide +kernel
theorem dX6_init_48 : decode cX6_init 48 = .ok (.aload_n 0, 1) := by decide +kernel
theorem dX6_init_49 : decode cX6_init 49 = .ok (.new 33, 3) := by decide +kernel
theorem dX6_init_52 : decode cX6_init 52 = .ok (.dup, 1) := by decide +kernel
theorem dX6_init_53 : decode cX6_init 53 = .ok (.invokespecial 35, 3) := by decide +kernel
theorem dX6_init_56 : decode cX6_init 56 = .ok (.putfield 36, 3) := by decide +kernel
theorem dX6_init_59 : decode cX6_init 59 = .ok (.aload_n 0, 1) := by decide +kernel
theorem dX6_init_60 : decode cX6_init 60 = .ok (.new 40, 3) := by decide +kernel
theorem dX6_init_63 : decode cX6_init 63 = .ok (.dup, 1) := by decide +kernel
theorem dX6_init_64 : decode cX6_init 64 = .ok (.bipush 61, 2) := by decide +kernel
theorem dX6_init_66 : decode cX6_init 66 = .ok (.invokespecial 42, 3) := by decide +kernel
theorem dX6_init_69 : decode cX6_init 69 = .ok (.putfield 45, 3) := by decide +kernel
theorem dX6_init_72 : decode cX6_init 72 = .ok (.aload_n 0, 1) := by decide +kernel
theorem dX6_init_73 : decode cX6_init 73 = .ok (.new 33, 3) := by decide +kernel
theorem dX6_init_76 : decode cX6_init 76 = .ok (.dup, 1) := by decide +kernel
theorem dX6_init_77 : decode cX6_init 77 = .ok (.invokespecial 35, 3) := by decide +kernel
theorem dX6_init_80 : decode cX6_init 80 = .ok (.putfield 49, 3) := by decide +kernel
theorem dX6_init_83 : decode cX6_init 83 = .ok (.aload_n 0, 1) := by decide +kernel
theorem dX6_init_84 : decode cX6_init 84 = .ok (.new 40, 3) := by decide +kernel
theorem dX6_init_87 : decode cX6_init 87 = .ok (.dup, 1) := by decide +kernel
theorem dX6_init_88 : decode cX6_init 88 = .ok (.bipush 60, 2) := by decide +kernel
theorem dX6_init_90 : decode cX6_init 90 = .ok (.invokespecial 42, 3) := by decide +kernel
theorem dX6_init_93 : decode cX6_init 93 = .ok (.putfield 52, 3) := by decide +kernel
theorem dX6_init_96 : decode cX6_init 96 = .ok (.aload_n 0, 1) := by decide +kernel
theorem dX6_init_97 : decode cX6_init 97 = .ok (.new 40, 3) := by decide +kernel
theorem dX6_init_100 : decode cX6_init 100 = .ok (.dup, 1) := by decide +kernel
theorem dX6_init_101 : decode cX6_init 101 = .ok (.bipush 61, 2) := by decide +kernel
theorem dX6_init_103 : decode cX6_init 103 = .ok (.invokespecial 42, 3) := by decide +kernel
theorem dX6_init_106 : decode cX6_init 106 = .ok (.putfield 55, 3) := by decide +kernel
theorem dX6_init_109 : decode cX6_init 109 = .ok (.return_, 1) := by decide +kernel
theorem dX6_strike_0 : decode cX6_strike 0 = .ok (.iload_n 1, 1) := by decide +kernel
theorem dX6_strike_1 : decode cX6_strike 1 = .ok (.ifCond .lt 10, 3) := by decide +kernel
theorem dX6_strike_4 : decode cX6_strike 4 = .ok (.iload_n 1, 1) := by decide +kernel
theorem dX6_strike_5 : decode cX6_strike 5 = .ok (.sipush 1023, 3) := by decide +kernel
theorem dX6_strike_8 : decode cX6_strike 8 = .ok (.if_icmp .le 13, 3) := by decide +kernel
theorem dX6_strike_11 : decode cX6_strike 11 = .ok (.new 58, 3) := by decide +kernel
theorem dX6_strike_14 : decode cX6_strike 14 = .ok (.dup, 1) := by decide +kernel
theorem dX6_strike_15 : decode cX6_strike 15 = .ok (.ldc 60, 2) := by decide +kernel
theorem dX6_strike_17 : decode cX6_strike 17 = .ok (.invokespecial 62, 3) := by decide +kernel
theorem dX6_strike_20 : decode cX6_strike 20 = .ok (.athrow, 1) := by decide +kernel
theorem dX6_strike_21 : decode cX6_strike 21 = .ok (.aload_n 0, 1) := by decide +kernel
theorem dX6_strike_22 : decode cX6_strike 22 = .ok (.iload_n 1, 1) := by decide +kernel
theorem dX6_strike_23 : decode cX6_strike 23 = .ok (.invokevirtual 65, 3) := by decide +kernel
theorem dX6_strike_26 : decode cX6_strike 26 = .ok (.ifCond .ne 13, 3) := by decide +kernel
theorem dX6_strike_29 : decode cX6_strike 29 = .ok (.new 69, 3) := by decide +kernel
theorem dX6_strike_32 : decode cX6_strike 32 = .ok (.dup, 1) := by decide +kernel
theorem dX6_strike_33 : decode cX6_strike 33 = .ok (.ldc 71, 2) := by decide +kernel
theorem dX6_strike_35 : decode cX6_strike 35 = .ok (.invokespecial 73, 3) := by decide +kernel
theorem dX6_strike_38 : decode cX6_strike 38 = .ok (.athrow, 1) := by decide +kernel
theorem dX6_strike_39 : decode cX6_strike 39 = .ok (.aload_n 0, 1) := by decide +kernel
theorem dX6_strike_40 : decode cX6_strike 40 = .ok (.getfield 22, 3) := by decide +kernel
theorem dX6_strike_43 : decode cX6_strike 43 = .ok (.aload_n 0, 1) := by decide +kernel
theorem dX6_strike_44 : decode cX6_strike 44 = .ok (.getfield 10, 3) := by decide +kernel
theorem dX6_strike_47 : decode cX6_strike 47 = .ok (.invokevirtual 74, 3) := by decide +kernel
theorem dX6_strike_50 : decode cX6_strike 50 = .ok (.aload_n 0, 1) := by decide +kernel
theorem dX6_strike_51 : decode cX6_strike 51 = .ok (.iload_n 1, 1) := by decide +kernel
theorem dX6_strike_52 : decode cX6_strike 52 = .ok (.invokevirtual 78, 3) := by decide +kernel
theorem dX6_strike_55 : decode cX6_strike 55 = .ok (.aload_n 0, 1) := by decide +kernel
theorem dX6_strike_56 : decode cX6_strike 56 = .ok (.invokevirtual 81, 3) := by decide +kernel
theorem dX6_strike_59 : decode cX6_strike 59 = .ok (.aload_n 0, 1) := by decide +kernel
theorem dX6_strike_60 : decode cX6_strike 60 = .ok (.getfield 36, 3) := by decide +kernel
theorem dX6_strike_63 : decode cX6_strike 63 = .ok (.invokevirtual 84, 3) := by decide +kernel
theorem dX6_strike_66 : decode cX6_strike 66 = .ok (.ireturn, 1) := by decide +kernel
theorem dX6_tear_0 : decode cX6_tear 0 = .ok (.aload_n 0, 1) := by decide +kernel
theorem dX6_tear_1 : decode cX6_tear 1 = .ok (.getfield 22, 3) := by decide +kernel
theorem dX6_tear_4 : decode cX6_tear 4 = .ok (.aload_n 0, 1) := by decide +kernel
theorem dX6_tear_5 : decode cX6_tear 5 = .ok (.getfield 10, 3) := by decide +kernel
theorem dX6_tear_8 : decode cX6_tear 8 = .ok (.invokevirtual 74, 3) := by decide +kernel
theorem dX6_tear_11 : decode cX6_tear 11 = .ok (.aload_n 0, 1) := by decide +kernel
theorem dX6_tear_12 : decode cX6_tear 12 = .ok (.getfield 10, 3) := by decide +kernel
theorem dX6_tear_15 : decode cX6_tear 15 = .ok (.getfield 104, 3) := by decide +kernel
theorem dX6_tear_18 : decode cX6_tear 18 = .ok (.invokevirtual 94, 3) := by decide +kernel
theorem dX6_tear_21 : decode cX6_tear 21 = .ok (.istore_n 1, 1) := by decide +kernel
theorem dX6_tear_22 : decode cX6_tear 22 = .ok (.aload_n 0, 1) := by decide +kernel
theorem dX6_tear_23 : decode cX6_tear 23 = .ok (.getfield 10, 3) := by decide +kernel
theorem dX6_tear_26 : decode cX6_tear 26 = .ok (.getfield 104, 3) := by decide +kernel
theorem dX6_tear_29 : decode cX6_tear 29 = .ok (.iconst 0, 1) := by decide +kernel
theorem dX6_tear_30 : decode cX6_tear 30 = .ok (.invokevirtual 107, 3) := by decide +kernel
theorem dX6_tear_33 : decode cX6_tear 33 = .ok (.iload_n 1, 1) := by decide +kernel
theorem dX6_tear_34 : decode cX6_tear 34 = .ok (.ireturn, 1) := by decide +kernel
theorem dX6_pick_0 : decode cX6_pick 0 = .ok (.aload_n 0, 1) := by decide +kernel
theorem dX6_pick_1 : decode cX6_pick 1 = .ok (.invokevirtual 81, 3) := by decide +kernel
theorem dX6_pick_4 : decode cX6_pick 4 = .ok (.aload_n 0, 1) := by decide +kernel
theorem dX6_pick_5 : decode cX6_pick 5 = .ok (.getfield 36, 3) := by decide +kernel
theorem dX6_pick_8 : decode cX6_pick 8 = .ok (.iload_n 1, 1) := by decide +kernel
theorem dX6_pick_9 : decode cX6_pick 9 = .ok (.invokevirtual 110, 3) := by decide +kernel
theorem dX6_pick_12 : decode cX6_pick 12 = .ok (.ifCond .eq 17, 3) := by decide +kernel
theorem dX6_pick_15 : decode cX6_pick 15 = .ok (.aload_n 0, 1) := by decide +kernel
theorem dX6_pick_16 : decode cX6_pick 16 = .ok (.getfield 10, 3) := by decide +kernel
theorem dX6_pick_19 : decode cX6_pick 19 = .ok (.getfield 113, 3) := by decide +kernel
theorem dX6_pick_22 : decode cX6_pick 22 = .ok (.iload_n 2, 1) := by decide +kernel
theorem dX6_pick_23 : decode cX6_pick 23 = .ok (.invokevirtual 117, 3) := by decide +kernel
theorem dX6_pick_26 : decode cX6_pick 26 = .ok (.ifCond .ne 13, 3) := by decide +kernel
theorem dX6_pick_29 : decode cX6_pick 29 = .ok (.new 120, 3) := by decide +kernel
theorem dX6_pick_32 : decode cX6_pick 32 = .ok (.dup, 1) := by decide +kernel
theorem dX6_pick_33 : decode cX6_pick 33 = .ok (.ldc 122, 2) := by decide +kernel
theorem dX6_pick_35 : decode cX6_pick 35 = .ok (.invokespecial 124, 3) := by decide +kernel
theorem dX6_pick_38 : decode cX6_pick 38 = .ok (.athrow, 1) := by decide +kernel
theorem dX6_pick_39 : decode cX6_pick 39 = .ok (.aload_n 0, 1) := by decide +kernel
theorem dX6_pick_40 : decode cX6_pick 40 = .ok (.iload_n 1, 1) := by decide +kernel
theorem dX6_pick_41 : decode cX6_pick 41 = .ok (.invokevirtual 125, 3) := by decide +kernel
theorem dX6_pick_44 : decode cX6_pick 44 = .ok (.aload_n 0, 1) := by decide +kernel
theorem dX6_pick_45 : decode cX6_pick 45 = .ok (.getfield 10, 3) := by decide +kernel
theorem dX6_pick_48 : decode cX6_pick 48 = .ok (.getfield 113, 3) := by decide +kernel
theorem dX6_pick_51 : decode cX6_pick 51 = .ok (.iload_n 2, 1) := by decide +kernel
theorem dX6_pick_52 : decode cX6_pick 52 = .ok (.invokevirtual 129, 3) := by decide +kernel
theorem dX6_pick_55 : decode cX6_pick 55 = .ok (.lcmp, 1) := by decide +kernel
theorem dX6_pick_56 : decode cX6_pick 56 = .ok (.ifCond .eq 13, 3) := by decide +kernel
theorem dX6_pick_59 : decode cX6_pick 59 = .ok (.new 69, 3) := by decide +kernel
theorem dX6_pick_62 : decode cX6_pick 62 = .ok (.dup, 1) := by decide +kernel
theorem dX6_pick_63 : decode cX6_pick 63 = .ok (.ldc 132, 2) := by decide +kernel
theorem dX6_pick_65 : decode cX6_pick 65 = .ok (.invokespecial 73, 3) := by decide +kernel
theorem dX6_pick_68 : decode cX6_pick 68 = .ok (.athrow, 1) := by decide +kernel
theorem dX6_pick_69 : decode cX6_pick 69 = .ok (.aload_n 0, 1) := by decide +kernel
theorem dX6_pick_70 : decode cX6_pick 70 = .ok (.getfield 22, 3) := by decide +kernel
theorem dX6_pick_73 : decode cX6_pick 73 = .ok (.aload_n 0, 1) := by decide +kernel
theorem dX6_pick_74 : decode cX6_pick 74 = .ok (.getfield 10, 3) := by decide +kernel
theorem dX6_pick_77 : decode cX6_pick 77 = .ok (.invokevirtual 74, 3) := by decide +kernel
theorem dX6_pick_80 : decode cX6_pick 80 = .ok (.aload_n 0, 1) := by decide +kernel
theorem dX6_pick_81 : decode cX6_pick 81 = .ok (.getfield 10, 3) := by decide +kernel
theorem dX6_pick_84 : decode cX6_pick 84 = .ok (.getfield 113, 3) := by decide +kernel
theorem dX6_pick_87 : decode cX6_pick 87 = .ok (.iload_n 2, 1) := by decide +kernel
theorem dX6_pick_88 : decode cX6_pick 88 = .ok (.invokevirtual 134, 3) := by decide +kernel
theorem dX6_pick_91 : decode cX6_pick 91 = .ok (.aload_n 0, 1) := by decide +kernel
theorem dX6_pick_92 : decode cX6_pick 92 = .ok (.getfield 10, 3) := by decide +kernel
theorem dX6_pick_95 : decode cX6_pick 95 = .ok (.getfield 113, 3) := by decide +kernel
theorem dX6_pick_98 : decode cX6_pick 98 = .ok (.iload_n 2, 1) := by decide +kernel
theorem dX6_pick_99 : decode cX6_pick 99 = .ok (.invokevirtual 137, 3) := by decide +kernel
theorem dX6_pick_102 : decode cX6_pick 102 = .ok (.ireturn, 1) := by decide +kernel
theorem dX6_define_0 : decode cX6_define 0 = .ok (.iload_n 1, 1) := by decide +kernel
theorem dX6_define_1 : decode cX6_define 1 = .ok (.ifCond .lt 9, 3) := by decide +kernel
theorem dX6_define_4 : decode cX6_define 4 = .ok (.iload_n 1, 1) := by decide +kernel
theorem dX6_define_5 : decode cX6_define 5 = .ok (.bipush 99, 2) := by decide +kernel
theorem dX6_define_7 : decode cX6_define 7 = .ok (.if_icmp .le 13, 3) := by decide +kernel
theorem dX6_define_10 : decode cX6_define 10 = .ok (.new 58, 3) := by decide +kernel
theorem dX6_define_13 : decode cX6_define 13 = .ok (.dup, 1) := by decide +kernel
theorem dX6_define_14 : decode cX6_define 14 = .ok (.ldc 140, 2) := by decide +kernel
theorem dX6_define_16 : decode cX6_define 16 = .ok (.invokespecial 62, 3) := by decide +kernel
theorem dX6_define_19 : decode cX6_define 19 = .ok (.athrow, 1) := by decide +kernel
theorem dX6_define_20 : decode cX6_define 20 = .ok (.aload_n 0, 1) := by decide +kernel
theorem dX6_define_21 : decode cX6_define 21 = .ok (.getfield 29, 3) := by decide +kernel
theorem dX6_define_24 : decode cX6_define 24 = .ok (.aload_n 0, 1) := by decide +kernel
theorem dX6_define_25 : decode cX6_define 25 = .ok (.getfield 52, 3) := by decide +kernel
theorem dX6_define_28 : decode cX6_define 28 = .ok (.invokevirtual 88, 3) := by decide +kernel
theorem dX6_define_31 : decode cX6_define 31 = .ok (.ifCond .eq 13, 3) := by decide +kernel
theorem dX6_define_34 : decode cX6_define 34 = .ok (.aload_n 0, 1) := by decide +kernel
theorem dX6_define_35 : decode cX6_define 35 = .ok (.getfield 52, 3) := by decide +kernel
theorem dX6_define_38 : decode cX6_define 38 = .ok (.invokestatic 142, 3) := by decide +kernel
theorem dX6_define_41 : decode cX6_define 41 = .ok (.ifCond .ne 13, 3) := by decide +kernel
theorem dX6_define_44 : decode cX6_define 44 = .ok (.new 58, 3) := by decide +kernel
theorem dX6_define_47 : decode cX6_define 47 = .ok (.dup, 1) := by decide +kernel
theorem dX6_define_48 : decode cX6_define 48 = .ok (.ldc 145, 2) := by decide +kernel
theorem dX6_define_50 : decode cX6_define 50 = .ok (.invokespecial 62, 3) := by decide +kernel
theorem dX6_define_53 : decode cX6_define 53 = .ok (.athrow, 1) := by decide +kernel
theorem dX6_define_54 : decode cX6_define 54 = .ok (.aload_n 0, 1) := by decide +kernel
theorem dX6_define_55 : decode cX6_define 55 = .ok (.getfield 52, 3) := by decide +kernel
theorem dX6_define_58 : decode cX6_define 58 = .ok (.iconst 0, 1) := by decide +kernel
theorem dX6_define_59 : decode cX6_define 59 = .ok (.aload_n 0, 1) := by decide +kernel
theorem dX6_define_60 : decode cX6_define 60 = .ok (.getfield 52, 3) := by decide +kernel
theorem dX6_define_63 : decode cX6_define 63 = .ok (.invokevirtual 94, 3) := by decide +kernel
theorem dX6_define_66 : decode cX6_define 66 = .ok (.invokevirtual 147, 3) := by decide +kernel
theorem dX6_define_69 : decode cX6_define 69 = .ok (.lstore_n 2, 1) := by decide +kernel
theorem dX6_define_70 : decode cX6_define 70 = .ok (.aload_n 0, 1) := by decide +kernel
theorem dX6_define_71 : decode cX6_define 71 = .ok (.getfield 10, 3) := by decide +kernel
theorem dX6_define_74 : decode cX6_define 74 = .ok (.getfield 113, 3) := by decide +kernel
theorem dX6_define_77 : decode cX6_define 77 = .ok (.invokevirtual 151, 3) := by decide +kernel
theorem dX6_define_80 : decode cX6_define 80 = .ok (.ifCond .ne 18, 3) := by decide +kernel
theorem dX6_define_83 : decode cX6_define 83 = .ok (.aload_n 0, 1) := by decide +kernel
theorem dX6_define_84 : decode cX6_define 84 = .ok (.getfield 10, 3) := by decide +kernel
theorem dX6_define_87 : decode cX6_define 87 = .ok (.getfield 113, 3) := by decide +kernel
theorem dX6_define_90 : decode cX6_define 90 = .ok (.lload_n 2, 1) := by decide +kernel
theorem dX6_define_91 : decode cX6_define 91 = .ok (.iload_n 1, 1) := by decide +kernel
theorem dX6_define_92 : decode cX6_define 92 = .ok (.invokevirtual 155, 3) := by decide +kernel
theorem dX6_define_95 : decode cX6_define 95 = .ok (.ifCond .eq 13, 3) := by decide +kernel
theorem dX6_define_98 : decode cX6_define 98 = .ok (.new 69, 3) := by decide +kernel
theorem dX6_define_101 : decode cX6_define 101 = .ok (.dup, 1) := by decide +kernel
theorem dX6_define_102 : decode cX6_define 102 = .ok (.ldc 159, 2) := by decide +kernel
theorem dX6_define_104 : decode cX6_define 104 = .ok (.invokespecial 73, 3) := by decide +kernel
theorem dX6_define_107 : decode cX6_define 107 = .ok (.athrow, 1) := by decide +kernel
theorem dX6_define_108 : decode cX6_define 108 = .ok (.aload_n 0, 1) := by decide +kernel
theorem dX6_define_109 : decode cX6_define 109 = .ok (.getfield 22, 3) := by decide +kernel
theorem dX6_define_112 : decode cX6_define 112 = .ok (.aload_n 0, 1) := by decide +kernel
theorem dX6_define_113 : decode cX6_define 113 = .ok (.getfield 10, 3) := by decide +kernel
theorem dX6_define_116 : decode cX6_define 116 = .ok (.invokevirtual 74, 3) := by decide +kernel
theorem dX6_define_119 : decode cX6_define 119 = .ok (.aload_n 0, 1) := by decide +kernel
theorem dX6_define_120 : decode cX6_define 120 = .ok (.getfield 10, 3) := by decide +kernel
theorem dX6_define_123 : decode cX6_define 123 = .ok (.getfield 113, 3) := by decide +kernel
theorem dX6_define_126 : decode cX6_define 126 = .ok (.lload_n 2, 1) := by decide +kernel
theorem dX6_define_127 : decode cX6_define 127 = .ok (.iload_n 1, 1) := by decide +kernel
theorem dX6_define_128 : decode cX6_define 128 = .ok (.invokevirtual 161, 3) := by decide +kernel
theorem dX6_define_131 : decode cX6_define 131 = .ok (.aload_n 0, 1) := by decide +kernel
theorem dX6_define_132 : decode cX6_define 132 = .ok (.getfield 29, 3) := by decide +kernel
theorem dX6_define_135 : decode cX6_define 135 = .ok (.invokevirtual 101, 3) := by decide +kernel
theorem dX6_define_138 : decode cX6_define 138 = .ok (.aload_n 0, 1) := by decide +kernel
theorem dX6_define_139 : decode cX6_define 139 = .ok (.getfield 10, 3) := by decide +kernel
theorem dX6_define_142 : decode cX6_define 142 = .ok (.getfield 113, 3) := by decide +kernel
theorem dX6_define_145 : decode cX6_define 145 = .ok (.invokevirtual 165, 3) := by decide +kernel
theorem dX6_define_148 : decode cX6_define 148 = .ok (.iconst 1, 1) := by decide +kernel
theorem dX6_define_149 : decode cX6_define 149 = .ok (.isub, 1) := by decide +kernel
theorem dX6_define_150 : decode cX6_define 150 = .ok (.ireturn, 1) := by decide +kernel
theorem dX6_remove_0 : decode cX6_remove 0 = .ok (.aload_n 0, 1) := by decide +kernel
theorem dX6_remove_1 : decode cX6_remove 1 = .ok (.getfield 10, 3) := by decide +kernel
theorem dX6_remove_4 : decode cX6_remove 4 = .ok (.getfield 113, 3) := by decide +kernel
theorem dX6_remove_7 : decode cX6_remove 7 = .ok (.iload_n 1, 1) := by decide +kernel
theorem dX6_remove_8 : decode cX6_remove 8 = .ok (.invokevirtual 117, 3) := by decide +kernel
theorem dX6_remove_11 : decode cX6_remove 11 = .ok (.ifCond .ne 13, 3) := by decide +kernel
theorem dX6_remove_14 : decode cX6_remove 14 = .ok (.new 120, 3) := by decide +kernel
theorem dX6_remove_17 : decode cX6_remove 17 = .ok (.dup, 1) := by decide +kernel
theorem dX6_remove_18 : decode cX6_remove 18 = .ok (.ldc 166, 2) := by decide +kernel
theorem dX6_remove_20 : decode cX6_remove 20 = .ok (.invokespecial 124, 3) := by decide +kernel
theorem dX6_remove_23 : decode cX6_remove 23 = .ok (.athrow, 1) := by decide +kernel
theorem dX6_remove_24 : decode cX6_remove 24 = .ok (.aload_n 0, 1) := by decide +kernel
theorem dX6_remove_25 : decode cX6_remove 25 = .ok (.getfield 22, 3) := by decide +kernel
theorem dX6_remove_28 : decode cX6_remove 28 = .ok (.aload_n 0, 1) := by decide +kernel
theorem dX6_remove_29 : decode cX6_remove 29 = .ok (.getfield 10, 3) := by decide +kernel
theorem dX6_remove_32 : decode cX6_remove 32 = .ok (.invokevirtual 74, 3) := by decide +kernel
theorem dX6_remove_35 : decode cX6_remove 35 = .ok (.aload_n 0, 1) := by decide +kernel
theorem dX6_remove_36 : decode cX6_remove 36 = .ok (.getfield 10, 3) := by decide +kernel
theorem dX6_remove_39 : decode cX6_remove 39 = .ok (.getfield 113, 3) := by decide +kernel
theorem dX6_remove_42 : decode cX6_remove 42 = .ok (.iload_n 1, 1) := by decide +kernel
theorem dX6_remove_43 : decode cX6_remove 43 = .ok (.invokevirtual 168, 3) := by decide +kernel
theorem dX6_remove_46 : decode cX6_remove 46 = .ok (.aload_n 0, 1) := by decide +kernel
theorem dX6_remove_47 : decode cX6_remove 47 = .ok (.getfield 10, 3) := by decide +kernel
theorem dX6_remove_50 : decode cX6_remove 50 = .ok (.getfield 113, 3) := by decide +kernel
theorem dX6_remove_53 : decode cX6_remove 53 = .ok (.invokevirtual 165, 3) := by decide +kernel
theorem dX6_remove_56 : decode cX6_remove 56 = .ok (.ireturn, 1) := by decide +kernel
theorem dX6_set_0 : decode cX6_set 0 = .ok (.iload_n 1, 1) := by decide +kernel
theorem dX6_set_1 : decode cX6_set 1 = .ok (.ifCond .lt 8, 3) := by decide +kernel
theorem dX6_set_4 : decode cX6_set 4 = .ok (.iload_n 1, 1) := by decide +kernel
theorem dX6_set_5 : decode cX6_set 5 = .ok (.iconst 2, 1) := by decide +kernel
theorem dX6_set_6 : decode cX6_set 6 = .ok (.if_icmp .lt 13, 3) := by decide +kernel
theorem dX6_set_9 : decode cX6_set 9 = .ok (.new 120, 3) := by decide +kernel
theorem dX6_set_12 : decode cX6_set 12 = .ok (.dup, 1) := by decide +kernel
theorem dX6_set_13 : decode cX6_set 13 = .ok (.ldc 171, 2) := by decide +kernel
theorem dX6_set_15 : decode cX6_set 15 = .ok (.invokespecial 124, 3) := by decide +kernel
theorem dX6_set_18 : decode cX6_set 18 = .ok (.athrow, 1) := by decide +kernel
theorem dX6_set_19 : decode cX6_set 19 = .ok (.iload_n 1, 1) := by decide +kernel
theorem dX6_set_20 : decode cX6_set 20 = .ok (.iload_n 2, 1) := by decide +kernel
theorem dX6_set_21 : decode cX6_set 21 = .ok (.invokestatic 173, 3) := by decide +kernel
theorem dX6_set_24 : decode cX6_set 24 = .ok (.ifCond .ne 13, 3) := by decide +kernel
theorem dX6_set_27 : decode cX6_set 27 = .ok (.new 58, 3) := by decide +kernel
theorem dX6_set_30 : decode cX6_set 30 = .ok (.dup, 1) := by decide +kernel
theorem dX6_set_31 : decode cX6_set 31 = .ok (.ldc 177, 2) := by decide +kernel
theorem dX6_set_33 : decode cX6_set 33 = .ok (.invokespecial 62, 3) := by decide +kernel
theorem dX6_set_36 : decode cX6_set 36 = .ok (.athrow, 1) := by decide +kernel
theorem dX6_set_37 : decode cX6_set 37 = .ok (.aload_n 0, 1) := by decide +kernel
theorem dX6_set_38 : decode cX6_set 38 = .ok (.getfield 22, 3) := by decide +kernel
theorem dX6_set_41 : decode cX6_set 41 = .ok (.aload_n 0, 1) := by decide +kernel
theorem dX6_set_42 : decode cX6_set 42 = .ok (.getfield 10, 3) := by decide +kernel
theorem dX6_set_45 : decode cX6_set 45 = .ok (.invokevirtual 74, 3) := by decide +kernel
theorem dX6_set_48 : decode cX6_set 48 = .ok (.aload_n 0, 1) := by decide +kernel
theorem dX6_set_49 : decode cX6_set 49 = .ok (.iload_n 1, 1) := by decide +kernel
theorem dX6_set_50 : decode cX6_set 50 = .ok (.invokevirtual 179, 3) := by decide +kernel
theorem dX6_set_53 : decode cX6_set 53 = .ok (.istore_n 3, 1) := by decide +kernel
theorem dX6_set_54 : decode cX6_set 54 = .ok (.iload_n 1, 1) := by decide +kernel
theorem dX6_set_55 : decode cX6_set 55 = .ok (.ifCond .ne 14, 3) := by decide +kernel
theorem dX6_set_58 : decode cX6_set 58 = .ok (.aload_n 0, 1) := by decide +kernel
theorem dX6_set_59 : decode cX6_set 59 = .ok (.getfield 10, 3) := by decide +kernel
theorem dX6_set_62 : decode cX6_set 62 = .ok (.iload_n 2, 1) := by decide +kernel
theorem dX6_set_63 : decode cX6_set 63 = .ok (.putfield 182, 3) := by decide +kernel
theorem dX6_set_66 : decode cX6_set 66 = .ok (.goto 11, 3) := by decide +kernel
theorem dX6_set_69 : decode cX6_set 69 = .ok (.aload_n 0, 1) := by decide +kernel
theorem dX6_set_70 : decode cX6_set 70 = .ok (.getfield 10, 3) := by decide +kernel
theorem dX6_set_73 : decode cX6_set 73 = .ok (.iload_n 2, 1) := by decide +kernel
theorem dX6_set_74 : decode cX6_set 74 = .ok (.putfield 186, 3) := by decide +kernel
theorem dX6_set_77 : decode cX6_set 77 = .ok (.iload_n 3, 1) := by decide +kernel
theorem dX6_set_78 : decode cX6_set 78 = .ok (.ireturn, 1) := by decide +kernel
theorem dX6_append_0 : decode cX6_append 0 = .ok (.iload_n 1, 1) := by decide +kernel
theorem dX6_append_1 : decode cX6_append 1 = .ok (.bipush 33, 2) := by decide +kernel
theorem dX6_append_3 : decode cX6_append 3 = .ok (.if_icmp .lt 9, 3) := by decide +kernel
theorem dX6_append_6 : decode cX6_append 6 = .ok (.iload_n 1, 1) := by decide +kernel
theorem dX6_append_7 : decode cX6_append 7 = .ok (.bipush 126, 2) := by decide +kernel
theorem dX6_append_9 : decode cX6_append 9 = .ok (.if_icmp .le 13, 3) := by decide +kernel
theorem dX6_append_12 : decode cX6_append 12 = .ok (.new 58, 3) := by decide +kernel
theorem dX6_append_15 : decode cX6_append 15 = .ok (.dup, 1) := by decide +kernel
theorem dX6_append_16 : decode cX6_append 16 = .ok (.ldc 189, 2) := by decide +kernel
theorem dX6_append_18 : decode cX6_append 18 = .ok (.invokespecial 62, 3) := by decide +kernel
theorem dX6_append_21 : decode cX6_append 21 = .ok (.athrow, 1) := by decide +kernel
theorem dX6_append_22 : decode cX6_append 22 = .ok (.aload_n 0, 1) := by decide +kernel
theorem dX6_append_23 : decode cX6_append 23 = .ok (.getfield 29, 3) := by decide +kernel
theorem dX6_append_26 : decode cX6_append 26 = .ok (.invokevirtual 191, 3) := by decide +kernel
theorem dX6_append_29 : decode cX6_append 29 = .ok (.ifCond .eq 13, 3) := by decide +kernel
theorem dX6_append_32 : decode cX6_append 32 = .ok (.new 69, 3) := by decide +kernel
theorem dX6_append_35 : decode cX6_append 35 = .ok (.dup, 1) := by decide +kernel
theorem dX6_append_36 : decode cX6_append 36 = .ok (.ldc 192, 2) := by decide +kernel
theorem dX6_append_38 : decode cX6_append 38 = .ok (.invokespecial 73, 3) := by decide +kernel
theorem dX6_append_41 : decode cX6_append 41 = .ok (.athrow, 1) := by decide +kernel
theorem dX6_append_42 : decode cX6_append 42 = .ok (.aload_n 0, 1) := by decide +kernel
theorem dX6_append_43 : decode cX6_append 43 = .ok (.getfield 29, 3) := by decide +kernel
theorem dX6_append_46 : decode cX6_append 46 = .ok (.iload_n 1, 1) := by decide +kernel
theorem dX6_append_47 : decode cX6_append 47 = .ok (.invokevirtual 194, 3) := by decide +kernel
theorem dX6_append_50 : decode cX6_append 50 = .ok (.aload_n 0, 1) := by decide +kernel
theorem dX6_append_51 : decode cX6_append 51 = .ok (.getfield 29, 3) := by decide +kernel
theorem dX6_append_54 : decode cX6_append 54 = .ok (.invokevirtual 196, 3) := by decide +kernel
theorem dX6_append_57 : decode cX6_append 57 = .ok (.ireturn, 1) := by decide +kernel
theorem dX6_clearBuffer_0 : decode cX6_clearBuffer 0 = .ok (.aload_n 0, 1) := by decide +kernel
theorem dX6_clearBuffer_1 : decode cX6_clearBuffer 1 = .ok (.getfield 29, 3) := by decide +kernel
theorem dX6_clearBuffer_4 : decode cX6_clearBuffer 4 = .ok (.invokevirtual 196, 3) := by decide +kernel
theorem dX6_clearBuffer_7 : decode cX6_clearBuffer 7 = .ok (.istore_n 1, 1) := by decide +kernel
theorem dX6_clearBuffer_8 : decode cX6_clearBuffer 8 = .ok (.aload_n 0, 1) := by decide +kernel
theorem dX6_clearBuffer_9 : decode cX6_clearBuffer 9 = .ok (.getfield 29, 3) := by decide +kernel
theorem dX6_clearBuffer_12 : decode cX6_clearBuffer 12 = .ok (.invokevirtual 101, 3) := by decide +kernel
theorem dX6_clearBuffer_15 : decode cX6_clearBuffer 15 = .ok (.iload_n 1, 1) := by decide +kernel
theorem dX6_clearBuffer_16 : decode cX6_clearBuffer 16 = .ok (.ireturn, 1) := by decide +kernel
theorem dX6_keep_0 : decode cX6_keep 0 = .ok (.aload_n 0, 1) := by decide +kernel
theorem dX6_keep_1 : decode cX6_keep 1 = .ok (.getfield 16, 3) := by decide +kernel
theorem dX6_keep_4 : decode cX6_keep 4 = .ok (.aload_n 0, 1) := by decide +kernel
theorem dX6_keep_5 : decode cX6_keep 5 = .ok (.getfield 10, 3) := by decide +kernel
theorem dX6_keep_8 : decode cX6_keep 8 = .ok (.invokevirtual 200, 3) := by decide +kernel
theorem dX6_keep_11 : decode cX6_keep 11 = .ok (.aload_n 0, 1) := by decide +kernel
theorem dX6_keep_12 : decode cX6_keep 12 = .ok (.iconst 1, 1) := by decide +kernel
theorem dX6_keep_13 : decode cX6_keep 13 = .ok (.putfield 203, 3) := by decide +kernel
theorem dX6_keep_16 : decode cX6_keep 16 = .ok (.aload_n 0, 1) := by decide +kernel
theorem dX6_keep_17 : decode cX6_keep 17 = .ok (.getfield 10, 3) := by decide +kernel
theorem dX6_keep_20 : decode cX6_keep 20 = .ok (.getfield 104, 3) := by decide +kernel
theorem dX6_keep_23 : decode cX6_keep 23 = .ok (.invokevirtual 94, 3) := by decide +kernel
theorem dX6_keep_26 : decode cX6_keep 26 = .ok (.ireturn, 1) := by decide +kernel
theorem dX6_goBack_0 : decode cX6_goBack 0 = .ok (.aload_n 0, 1) := by decide +kernel
theorem dX6_goBack_1 : decode cX6_goBack 1 = .ok (.getfield 203, 3) := by decide +kernel
theorem dX6_goBack_4 : decode cX6_goBack 4 = .ok (.ifCond .ne 13, 3) := by decide +kernel
theorem dX6_goBack_7 : decode cX6_goBack 7 = .ok (.new 69, 3) := by decide +kernel
theorem dX6_goBack_10 : decode cX6_goBack 10 = .ok (.dup, 1) := by decide +kernel
theorem dX6_goBack_11 : decode cX6_goBack 11 = .ok (.ldc 207, 2) := by decide +kernel
theorem dX6_goBack_13 : decode cX6_goBack 13 = .ok (.invokespecial 73, 3) := by decide +kernel
theorem dX6_goBack_16 : decode cX6_goBack 16 = .ok (.athrow, 1) := by decide +kernel
theorem dX6_goBack_17 : decode cX6_goBack 17 = .ok (.aload_n 0, 1) := by decide +kernel
theorem dX6_goBack_18 : decode cX6_goBack 18 = .ok (.getfield 22, 3) := by decide +kernel
theorem dX6_goBack_21 : decode cX6_goBack 21 = .ok (.aload_n 0, 1) := by decide +kernel
theorem dX6_goBack_22 : decode cX6_goBack 22 = .ok (.getfield 10, 3) := by decide +kernel
theorem dX6_goBack_25 : decode cX6_goBack 25 = .ok (.invokevirtual 74, 3) := by decide +kernel
theorem dX6_goBack_28 : decode cX6_goBack 28 = .ok (.aload_n 0, 1) := by decide +kernel
theorem dX6_goBack_29 : decode cX6_goBack 29 = .ok (.getfield 10, 3) := by decide +kernel
theorem dX6_goBack_32 : decode cX6_goBack 32 = .ok (.aload_n 0, 1) := by decide +kernel
theorem dX6_goBack_33 : decode cX6_goBack 33 = .ok (.getfield 16, 3) := by decide +kernel
theorem dX6_goBack_36 : decode cX6_goBack 36 = .ok (.invokevirtual 200, 3) := by decide +kernel
theorem dX6_goBack_39 : decode cX6_goBack 39 = .ok (.aload_n 0, 1) := by decide +kernel
theorem dX6_goBack_40 : decode cX6_goBack 40 = .ok (.getfield 10, 3) := by decide +kernel
theorem dX6_goBack_43 : decode cX6_goBack 43 = .ok (.getfield 104, 3) := by decide +kernel
theorem dX6_goBack_46 : decode cX6_goBack 46 = .ok (.invokevirtual 94, 3) := by decide +kernel
theorem dX6_goBack_49 : decode cX6_goBack 49 = .ok (.ireturn, 1) := by decide +kernel
theorem dX6_undo_0 : decode cX6_undo 0 = .ok (.aload_n 0, 1) := by decide +kernel
theorem dX6_undo_1 : decode cX6_undo 1 = .ok (.getfield 22, 3) := by decide +kernel
theorem dX6_undo_4 : decode cX6_undo 4 = .ok (.invokevirtual 209, 3) := by decide +kernel
theorem dX6_undo_7 : decode cX6_undo 7 = .ok (.ifCond .ne 13, 3) := by decide +kernel
theorem dX6_undo_10 : decode cX6_undo 10 = .ok (.new 69, 3) := by decide +kernel
theorem dX6_undo_13 : decode cX6_undo 13 = .ok (.dup, 1) := by decide +kernel
theorem dX6_undo_14 : decode cX6_undo 14 = .ok (.ldc 210, 2) := by decide +kernel
theorem dX6_undo_16 : decode cX6_undo 16 = .ok (.invokespecial 73, 3) := by decide +kernel
theorem dX6_undo_19 : decode cX6_undo 19 = .ok (.athrow, 1) := by decide +kernel
theorem dX6_undo_20 : decode cX6_undo 20 = .ok (.aload_n 0, 1) := by decide +kernel
theorem dX6_undo_21 : decode cX6_undo 21 = .ok (.getfield 22, 3) := by decide +kernel
theorem dX6_undo_24 : decode cX6_undo 24 = .ok (.aload_n 0, 1) := by decide +kernel
theorem dX6_undo_25 : decode cX6_undo 25 = .ok (.getfield 10, 3) := by decide +kernel
theorem dX6_undo_28 : decode cX6_undo 28 = .ok (.invokevirtual 212, 3) := by decide +kernel
theorem dX6_undo_31 : decode cX6_undo 31 = .ok (.aload_n 0, 1) := by decide +kernel
theorem dX6_undo_32 : decode cX6_undo 32 = .ok (.getfield 22, 3) := by decide +kernel
theorem dX6_undo_35 : decode cX6_undo 35 = .ok (.invokevirtual 209, 3) := by decide +kernel
theorem dX6_undo_38 : decode cX6_undo 38 = .ok (.ireturn, 1) := by decide +kernel
theorem dX6_stroke_0 : decode cX6_stroke 0 = .ok (.aload_n 0, 1) := by decide +kernel
theorem dX6_stroke_1 : decode cX6_stroke 1 = .ok (.getfield 10, 3) := by decide +kernel
theorem dX6_stroke_4 : decode cX6_stroke 4 = .ok (.getfield 104, 3) := by decide +kernel
theorem dX6_stroke_7 : decode cX6_stroke 7 = .ok (.iload_n 1, 1) := by decide +kernel
theorem dX6_stroke_8 : decode cX6_stroke 8 = .ok (.invokevirtual 215, 3) := by decide +kernel
theorem dX6_stroke_11 : decode cX6_stroke 11 = .ok (.ifCond .ne 13, 3) := by decide +kernel
theorem dX6_stroke_14 : decode cX6_stroke 14 = .ok (.new 120, 3) := by decide +kernel
theorem dX6_stroke_17 : decode cX6_stroke 17 = .ok (.dup, 1) := by decide +kernel
theorem dX6_stroke_18 : decode cX6_stroke 18 = .ok (.ldc 216, 2) := by decide +kernel
theorem dX6_stroke_20 : decode cX6_stroke 20 = .ok (.invokespecial 124, 3) := by decide +kernel
theorem dX6_stroke_23 : decode cX6_stroke 23 = .ok (.athrow, 1) := by decide +kernel
theorem dX6_stroke_24 : decode cX6_stroke 24 = .ok (.aload_n 0, 1) := by decide +kernel
theorem dX6_stroke_25 : decode cX6_stroke 25 = .ok (.getfield 10, 3) := by decide +kernel
theorem dX6_stroke_28 : decode cX6_stroke 28 = .ok (.getfield 104, 3) := by decide +kernel
theorem dX6_stroke_31 : decode cX6_stroke 31 = .ok (.iload_n 1, 1) := by decide +kernel
theorem dX6_stroke_32 : decode cX6_stroke 32 = .ok (.invokevirtual 97, 3) := by decide +kernel
theorem dX6_stroke_35 : decode cX6_stroke 35 = .ok (.ireturn, 1) := by decide +kernel
theorem dX6_item_0 : decode cX6_item 0 = .ok (.aload_n 0, 1) := by decide +kernel
theorem dX6_item_1 : decode cX6_item 1 = .ok (.invokevirtual 81, 3) := by decide +kernel
theorem dX6_item_4 : decode cX6_item 4 = .ok (.aload_n 0, 1) := by decide +kernel
theorem dX6_item_5 : decode cX6_item 5 = .ok (.getfield 36, 3) := by decide +kernel
theorem dX6_item_8 : decode cX6_item 8 = .ok (.iload_n 1, 1) := by decide +kernel
theorem dX6_item_9 : decode cX6_item 9 = .ok (.invokevirtual 110, 3) := by decide +kernel
theorem dX6_item_12 : decode cX6_item 12 = .ok (.ifCond .ne 13, 3) := by decide +kernel
theorem dX6_item_15 : decode cX6_item 15 = .ok (.new 120, 3) := by decide +kernel
theorem dX6_item_18 : decode cX6_item 18 = .ok (.dup, 1) := by decide +kernel
theorem dX6_item_19 : decode cX6_item 19 = .ok (.ldc 218, 2) := by decide +kernel
theorem dX6_item_21 : decode cX6_item 21 = .ok (.invokespecial 124, 3) := by decide +kernel
theorem dX6_item_24 : decode cX6_item 24 = .ok (.athrow, 1) := by decide +kernel
theorem dX6_item_25 : decode cX6_item 25 = .ok (.iload_n 2, 1) := by decide +kernel
theorem dX6_item_26 : decode cX6_item 26 = .ok (.ifCond .lt 8, 3) := by decide +kernel
theorem dX6_item_29 : decode cX6_item 29 = .ok (.iload_n 2, 1) := by decide +kernel
theorem dX6_item_30 : decode cX6_item 30 = .ok (.iconst 5, 1) := by decide +kernel
theorem dX6_item_31 : decode cX6_item 31 = .ok (.if_icmp .lt 13, 3) := by decide +kernel
theorem dX6_item_34 : decode cX6_item 34 = .ok (.new 58, 3) := by decide +kernel
theorem dX6_item_37 : decode cX6_item 37 = .ok (.dup, 1) := by decide +kernel
theorem dX6_item_38 : decode cX6_item 38 = .ok (.ldc 220, 2) := by decide +kernel
theorem dX6_item_40 : decode cX6_item 40 = .ok (.invokespecial 62, 3) := by decide +kernel
theorem dX6_item_43 : decode cX6_item 43 = .ok (.athrow, 1) := by decide +kernel
theorem dX6_item_44 : decode cX6_item 44 = .ok (.aload_n 0, 1) := by decide +kernel
theorem dX6_item_45 : decode cX6_item 45 = .ok (.iload_n 1, 1) := by decide +kernel
theorem dX6_item_46 : decode cX6_item 46 = .ok (.iload_n 2, 1) := by decide +kernel
theorem dX6_item_47 : decode cX6_item 47 = .ok (.invokevirtual 222, 3) := by decide +kernel
theorem dX6_item_50 : decode cX6_item 50 = .ok (.ireturn, 1) := by decide +kernel
theorem dX6_entry_0 : decode cX6_entry 0 = .ok (.aload_n 0, 1) := by decide +kernel
theorem dX6_entry_1 : decode cX6_entry 1 = .ok (.getfield 10, 3) := by decide +kernel
theorem dX6_entry_4 : decode cX6_entry 4 = .ok (.getfield 113, 3) := by decide +kernel
theorem dX6_entry_7 : decode cX6_entry 7 = .ok (.iload_n 1, 1) := by decide +kernel
theorem dX6_entry_8 : decode cX6_entry 8 = .ok (.invokevirtual 117, 3) := by decide +kernel
theorem dX6_entry_11 : decode cX6_entry 11 = .ok (.ifCond .ne 13, 3) := by decide +kernel
theorem dX6_entry_14 : decode cX6_entry 14 = .ok (.new 120, 3) := by decide +kernel
theorem dX6_entry_17 : decode cX6_entry 17 = .ok (.dup, 1) := by decide +kernel
theorem dX6_entry_18 : decode cX6_entry 18 = .ok (.ldc 166, 2) := by decide +kernel
theorem dX6_entry_20 : decode cX6_entry 20 = .ok (.invokespecial 124, 3) := by decide +kernel
theorem dX6_entry_23 : decode cX6_entry 23 = .ok (.athrow, 1) := by decide +kernel
theorem dX6_entry_24 : decode cX6_entry 24 = .ok (.iload_n 2, 1) := by decide +kernel
theorem dX6_entry_25 : decode cX6_entry 25 = .ok (.ifCond .lt 9, 3) := by decide +kernel
theorem dX6_entry_28 : decode cX6_entry 28 = .ok (.iload_n 2, 1) := by decide +kernel
theorem dX6_entry_29 : decode cX6_entry 29 = .ok (.bipush 10, 2) := by decide +kernel
theorem dX6_entry_31 : decode cX6_entry 31 = .ok (.if_icmp .lt 13, 3) := by decide +kernel
theorem dX6_entry_34 : decode cX6_entry 34 = .ok (.new 58, 3) := by decide +kernel
theorem dX6_entry_37 : decode cX6_entry 37 = .ok (.dup, 1) := by decide +kernel
theorem dX6_entry_38 : decode cX6_entry 38 = .ok (.ldc 226, 2) := by decide +kernel
theorem dX6_entry_40 : decode cX6_entry 40 = .ok (.invokespecial 62, 3) := by decide +kernel
theorem dX6_entry_43 : decode cX6_entry 43 = .ok (.athrow, 1) := by decide +kernel
theorem dX6_entry_44 : decode cX6_entry 44 = .ok (.aload_n 0, 1) := by decide +kernel
theorem dX6_entry_45 : decode cX6_entry 45 = .ok (.invokevirtual 81, 3) := by decide +kernel
theorem dX6_entry_48 : decode cX6_entry 48 = .ok (.aload_n 0, 1) := by decide +kernel
theorem dX6_entry_49 : decode cX6_entry 49 = .ok (.iload_n 1, 1) := by decide +kernel
theorem dX6_entry_50 : decode cX6_entry 50 = .ok (.iload_n 2, 1) := by decide +kernel
theorem dX6_entry_51 : decode cX6_entry 51 = .ok (.invokevirtual 228, 3) := by decide +kernel
theorem dX6_entry_54 : decode cX6_entry 54 = .ok (.ireturn, 1) := by decide +kernel
theorem dX6_count_0 : decode cX6_count 0 = .ok (.iload_n 1, 1) := by decide +kernel
theorem dX6_count_1 : decode cX6_count 1 = .ok (.ifCond .lt 9, 3) := by decide +kernel
theorem dX6_count_4 : decode cX6_count 4 = .ok (.iload_n 1, 1) := by decide +kernel
theorem dX6_count_5 : decode cX6_count 5 = .ok (.bipush 10, 2) := by decide +kernel
theorem dX6_count_7 : decode cX6_count 7 = .ok (.if_icmp .lt 13, 3) := by decide +kernel
theorem dX6_count_10 : decode cX6_count 10 = .ok (.new 58, 3) := by decide +kernel
theorem dX6_count_13 : decode cX6_count 13 = .ok (.dup, 1) := by decide +kernel
theorem dX6_count_14 : decode cX6_count 14 = .ok (.ldc 231, 2) := by decide +kernel
theorem dX6_count_16 : decode cX6_count 16 = .ok (.invokespecial 62, 3) := by decide +kernel
theorem dX6_count_19 : decode cX6_count 19 = .ok (.athrow, 1) := by decide +kernel
theorem dX6_count_20 : decode cX6_count 20 = .ok (.aload_n 0, 1) := by decide +kernel
theorem dX6_count_21 : decode cX6_count 21 = .ok (.invokevirtual 81, 3) := by decide +kernel
theorem dX6_count_24 : decode cX6_count 24 = .ok (.aload_n 0, 1) := by decide +kernel
theorem dX6_count_25 : decode cX6_count 25 = .ok (.iload_n 1, 1) := by decide +kernel
theorem dX6_count_26 : decode cX6_count 26 = .ok (.invokevirtual 233, 3) := by decide +kernel
theorem dX6_count_29 : decode cX6_count 29 = .ok (.ireturn, 1) := by decide +kernel
theorem dX6_setting_0 : decode cX6_setting 0 = .ok (.iload_n 1, 1) := by decide +kernel
theorem dX6_setting_1 : decode cX6_setting 1 = .ok (.ifCond .lt 8, 3) := by decide +kernel
theorem dX6_setting_4 : decode cX6_setting 4 = .ok (.iload_n 1, 1) := by decide +kernel
theorem dX6_setting_5 : decode cX6_setting 5 = .ok (.iconst 2, 1) := by decide +kernel
theorem dX6_setting_6 : decode cX6_setting 6 = .ok (.if_icmp .lt 13, 3) := by decide +kernel
theorem dX6_setting_9 : decode cX6_setting 9 = .ok (.new 120, 3) := by decide +kernel
theorem dX6_setting_12 : decode cX6_setting 12 = .ok (.dup, 1) := by decide +kernel
theorem dX6_setting_13 : decode cX6_setting 13 = .ok (.ldc 171, 2) := by decide +kernel
theorem dX6_setting_15 : decode cX6_setting 15 = .ok (.invokespecial 124, 3) := by decide +kernel
theorem dX6_setting_18 : decode cX6_setting 18 = .ok (.athrow, 1) := by decide +kernel
theorem dX6_setting_19 : decode cX6_setting 19 = .ok (.aload_n 0, 1) := by decide +kernel
theorem dX6_setting_20 : decode cX6_setting 20 = .ok (.iload_n 1, 1) := by decide +kernel
theorem dX6_setting_21 : decode cX6_setting 21 = .ok (.invokevirtual 179, 3) := by decide +kernel
theorem dX6_setting_24 : decode cX6_setting 24 = .ok (.ireturn, 1) := by decide +kernel
theorem dX6_ifStruck_0 : decode cX6_ifStruck 0 = .ok (.iload_n 1, 1) := by decide +kernel
theorem dX6_ifStruck_1 : decode cX6_ifStruck 1 = .ok (.ifCond .le 10, 3) := by decide +kernel
theorem dX6_ifStruck_4 : decode cX6_ifStruck 4 = .ok (.iload_n 1, 1) := by decide +kernel
theorem dX6_ifStruck_5 : decode cX6_ifStruck 5 = .ok (.sipush 1023, 3) := by decide +kernel
theorem dX6_ifStruck_8 : decode cX6_ifStruck 8 = .ok (.if_icmp .le 13, 3) := by decide +kernel
theorem dX6_ifStruck_11 : decode cX6_ifStruck 11 = .ok (.new 58, 3) := by decide +kernel
theorem dX6_ifStruck_14 : decode cX6_ifStruck 14 = .ok (.dup, 1) := by decide +kernel
theorem dX6_ifStruck_15 : decode cX6_ifStruck 15 = .ok (.ldc 60, 2) := by decide +kernel
theorem dX6_ifStruck_17 : decode cX6_ifStruck 17 = .ok (.invokespecial 62, 3) := by decide +kernel
theorem dX6_ifStruck_20 : decode cX6_ifStruck 20 = .ok (.athrow, 1) := by decide +kernel
theorem dX6_ifStruck_21 : decode cX6_ifStruck 21 = .ok (.iload_n 2, 1) := by decide +kernel
theorem dX6_ifStruck_22 : decode cX6_ifStruck 22 = .ok (.ifCond .lt 8, 3) := by decide +kernel
theorem dX6_ifStruck_25 : decode cX6_ifStruck 25 = .ok (.iload_n 2, 1) := by decide +kernel
theorem dX6_ifStruck_26 : decode cX6_ifStruck 26 = .ok (.iconst 3, 1) := by decide +kernel
theorem dX6_ifStruck_27 : decode cX6_ifStruck 27 = .ok (.if_icmp .lt 13, 3) := by decide +kernel
theorem dX6_ifStruck_30 : decode cX6_ifStruck 30 = .ok (.new 58, 3) := by decide +kernel
theorem dX6_ifStruck_33 : decode cX6_ifStruck 33 = .ok (.dup, 1) := by decide +kernel
theorem dX6_ifStruck_34 : decode cX6_ifStruck 34 = .ok (.ldc 231, 2) := by decide +kernel
theorem dX6_ifStruck_36 : decode cX6_ifStruck 36 = .ok (.invokespecial 62, 3) := by decide +kernel
theorem dX6_ifStruck_39 : decode cX6_ifStruck 39 = .ok (.athrow, 1) := by decide +kernel
theorem dX6_ifStruck_40 : decode cX6_ifStruck 40 = .ok (.aload_n 0, 1) := by decide +kernel
theorem dX6_ifStruck_41 : decode cX6_ifStruck 41 = .ok (.getfield 45, 3) := by decide +kernel
theorem dX6_ifStruck_44 : decode cX6_ifStruck 44 = .ok (.aload_n 0, 1) := by decide +kernel
theorem dX6_ifStruck_45 : decode cX6_ifStruck 45 = .ok (.getfield 10, 3) := by decide +kernel
theorem dX6_ifStruck_48 : decode cX6_ifStruck 48 = .ok (.getfield 104, 3) := by decide +kernel
theorem dX6_ifStruck_51 : decode cX6_ifStruck 51 = .ok (.invokevirtual 236, 3) := by decide +kernel
theorem dX6_ifStruck_54 : decode cX6_ifStruck 54 = .ok (.aload_n 0, 1) := by decide +kernel
theorem dX6_ifStruck_55 : decode cX6_ifStruck 55 = .ok (.getfield 45, 3) := by decide +kernel
theorem dX6_ifStruck_58 : decode cX6_ifStruck 58 = .ok (.iload_n 1, 1) := by decide +kernel
theorem dX6_ifStruck_59 : decode cX6_ifStruck 59 = .ok (.invokevirtual 239, 3) := by decide +kernel
theorem dX6_ifStruck_62 : decode cX6_ifStruck 62 = .ok (.aload_n 0, 1) := by decide +kernel
theorem dX6_ifStruck_63 : decode cX6_ifStruck 63 = .ok (.getfield 49, 3) := by decide +kernel
theorem dX6_ifStruck_66 : decode cX6_ifStruck 66 = .ok (.iconst 0, 1) := by decide +kernel
theorem dX6_ifStruck_67 : decode cX6_ifStruck 67 = .ok (.invokevirtual 240, 3) := by decide +kernel
theorem dX6_ifStruck_70 : decode cX6_ifStruck 70 = .ok (.aload_n 0, 1) := by decide +kernel
theorem dX6_ifStruck_71 : decode cX6_ifStruck 71 = .ok (.getfield 49, 3) := by decide +kernel
theorem dX6_ifStruck_74 : decode cX6_ifStruck 74 = .ok (.aload_n 0, 1) := by decide +kernel
theorem dX6_ifStruck_75 : decode cX6_ifStruck 75 = .ok (.getfield 45, 3) := by decide +kernel
theorem dX6_ifStruck_78 : decode cX6_ifStruck 78 = .ok (.aload_n 0, 1) := by decide +kernel
theorem dX6_ifStruck_79 : decode cX6_ifStruck 79 = .ok (.getfield 10, 3) := by decide +kernel
theorem dX6_ifStruck_82 : decode cX6_ifStruck 82 = .ok (.invokevirtual 243, 3) := by decide +kernel
theorem dX6_ifStruck_85 : decode cX6_ifStruck 85 = .ok (.aload_n 0, 1) := by decide +kernel
theorem dX6_ifStruck_86 : decode cX6_ifStruck 86 = .ok (.getfield 49, 3) := by decide +kernel
theorem dX6_ifStruck_89 : decode cX6_ifStruck 89 = .ok (.invokevirtual 84, 3) := by decide +kernel
theorem dX6_ifStruck_92 : decode cX6_ifStruck 92 = .ok (.iconst 1, 1) := by decide +kernel
theorem dX6_ifStruck_93 : decode cX6_ifStruck 93 = .ok (.isub, 1) := by decide +kernel
theorem dX6_ifStruck_94 : decode cX6_ifStruck 94 = .ok (.istore_n 3, 1) := by decide +kernel
theorem dX6_ifStruck_95 : decode cX6_ifStruck 95 = .ok (.iload_n 2, 1) := by decide +kernel
theorem dX6_ifStruck_96 : decode cX6_ifStruck 96 = .ok (.lookupswitch 56 #[(0, 28), (1, 47)], 28) := by decide +kernel
theorem dX6_ifStruck_124 : decode cX6_ifStruck 124 = .ok (.aload_n 0, 1) := by decide +kernel
theorem dX6_ifStruck_125 : decode cX6_ifStruck 125 = .ok (.getfield 10, 3) := by decide +kernel
theorem dX6_ifStruck_128 : decode cX6_ifStruck 128 = .ok (.getfield 113, 3) := by decide +kernel
theorem dX6_ifStruck_131 : decode cX6_ifStruck 131 = .ok (.aload_n 0, 1) := by decide +kernel
theorem dX6_ifStruck_132 : decode cX6_ifStruck 132 = .ok (.getfield 49, 3) := by decide +kernel
theorem dX6_ifStruck_135 : decode cX6_ifStruck 135 = .ok (.iload_n 3, 1) := by decide +kernel
theorem dX6_ifStruck_136 : decode cX6_ifStruck 136 = .ok (.invokevirtual 247, 3) := by decide +kernel
theorem dX6_ifStruck_139 : decode cX6_ifStruck 139 = .ok (.invokevirtual 250, 3) := by decide +kernel
theorem dX6_ifStruck_142 : decode cX6_ifStruck 142 = .ok (.ireturn, 1) := by decide +kernel
theorem dX6_ifStruck_143 : decode cX6_ifStruck 143 = .ok (.aload_n 0, 1) := by decide +kernel
theorem dX6_ifStruck_144 : decode cX6_ifStruck 144 = .ok (.getfield 49, 3) := by decide +kernel
theorem dX6_ifStruck_147 : decode cX6_ifStruck 147 = .ok (.iload_n 3, 1) := by decide +kernel
theorem dX6_ifStruck_148 : decode cX6_ifStruck 148 = .ok (.invokevirtual 253, 3) := by decide +kernel
theorem dX6_ifStruck_151 : decode cX6_ifStruck 151 = .ok (.ireturn, 1) := by decide +kernel
theorem dX6_ifStruck_152 : decode cX6_ifStruck 152 = .ok (.aload_n 0, 1) := by decide +kernel
theorem dX6_ifStruck_153 : decode cX6_ifStruck 153 = .ok (.getfield 49, 3) := by decide +kernel
theorem dX6_ifStruck_156 : decode cX6_ifStruck 156 = .ok (.invokevirtual 84, 3) := by decide +kernel
theorem dX6_ifStruck_159 : decode cX6_ifStruck 159 = .ok (.ireturn, 1) := by decide +kernel
theorem dX6_begun_0 : decode cX6_begun 0 = .ok (.iload_n 1, 1) := by decide +kernel
theorem dX6_begun_1 : decode cX6_begun 1 = .ok (.iconst 1, 1) := by decide +kernel
theorem dX6_begun_2 : decode cX6_begun 2 = .ok (.if_icmp .lt 8, 3) := by decide +kernel
theorem dX6_begun_5 : decode cX6_begun 5 = .ok (.iload_n 1, 1) := by decide +kernel
theorem dX6_begun_6 : decode cX6_begun 6 = .ok (.iconst 4, 1) := by decide +kernel
theorem dX6_begun_7 : decode cX6_begun 7 = .ok (.if_icmp .lt 14, 3) := by decide +kernel
theorem dX6_begun_10 : decode cX6_begun 10 = .ok (.new 58, 3) := by decide +kernel
theorem dX6_begun_13 : decode cX6_begun 13 = .ok (.dup, 1) := by decide +kernel
theorem dX6_begun_14 : decode cX6_begun 14 = .ok (.ldc_w 256, 3) := by decide +kernel
theorem dX6_begun_17 : decode cX6_begun 17 = .ok (.invokespecial 62, 3) := by decide +kernel
theorem dX6_begun_20 : decode cX6_begun 20 = .ok (.athrow, 1) := by decide +kernel
theorem dX6_begun_21 : decode cX6_begun 21 = .ok (.aload_n 0, 1) := by decide +kernel
theorem dX6_begun_22 : decode cX6_begun 22 = .ok (.getfield 10, 3) := by decide +kernel
theorem dX6_begun_25 : decode cX6_begun 25 = .ok (.getfield 104, 3) := by decide +kernel
theorem dX6_begun_28 : decode cX6_begun 28 = .ok (.invokevirtual 94, 3) := by decide +kernel
theorem dX6_begun_31 : decode cX6_begun 31 = .ok (.iload_n 1, 1) := by decide +kernel
theorem dX6_begun_32 : decode cX6_begun 32 = .ok (.isub, 1) := by decide +kernel
theorem dX6_begun_33 : decode cX6_begun 33 = .ok (.istore_n 2, 1) := by decide +kernel
theorem dX6_begun_34 : decode cX6_begun 34 = .ok (.iload_n 2, 1) := by decide +kernel
theorem dX6_begun_35 : decode cX6_begun 35 = .ok (.ifCond .ge 5, 3) := by decide +kernel
theorem dX6_begun_38 : decode cX6_begun 38 = .ok (.iconst 0, 1) := by decide +kernel
theorem dX6_begun_39 : decode cX6_begun 39 = .ok (.ireturn, 1) := by decide +kernel
theorem dX6_begun_40 : decode cX6_begun 40 = .ok (.aload_n 0, 1) := by decide +kernel
theorem dX6_begun_41 : decode cX6_begun 41 = .ok (.getfield 10, 3) := by decide +kernel
theorem dX6_begun_44 : decode cX6_begun 44 = .ok (.getfield 113, 3) := by decide +kernel
theorem dX6_begun_47 : decode cX6_begun 47 = .ok (.aload_n 0, 1) := by decide +kernel
theorem dX6_begun_48 : decode cX6_begun 48 = .ok (.getfield 10, 3) := by decide +kernel
theorem dX6_begun_51 : decode cX6_begun 51 = .ok (.getfield 104, 3) := by decide +kernel
theorem dX6_begun_54 : decode cX6_begun 54 = .ok (.iload_n 2, 1) := by decide +kernel
theorem dX6_begun_55 : decode cX6_begun 55 = .ok (.iload_n 1, 1) := by decide +kernel
theorem dX6_begun_56 : decode cX6_begun 56 = .ok (.invokevirtual 147, 3) := by decide +kernel
theorem dX6_begun_59 : decode cX6_begun 59 = .ok (.iload_n 1, 1) := by decide +kernel
theorem dX6_begun_60 : decode cX6_begun 60 = .ok (.invokevirtual 258, 3) := by decide +kernel
theorem dX6_begun_63 : decode cX6_begun 63 = .ok (.ireturn, 1) := by decide +kernel
theorem dX6_shortest_0 : decode cX6_shortest 0 = .ok (.iload_n 1, 1) := by decide +kernel
theorem dX6_shortest_1 : decode cX6_shortest 1 = .ok (.ifCond .lt 9, 3) := by decide +kernel
theorem dX6_shortest_4 : decode cX6_shortest 4 = .ok (.iload_n 1, 1) := by decide +kernel
theorem dX6_shortest_5 : decode cX6_shortest 5 = .ok (.bipush 99, 2) := by decide +kernel
theorem dX6_shortest_7 : decode cX6_shortest 7 = .ok (.if_icmp .le 13, 3) := by decide +kernel
theorem dX6_shortest_10 : decode cX6_shortest 10 = .ok (.new 58, 3) := by decide +kernel
theorem dX6_shortest_13 : decode cX6_shortest 13 = .ok (.dup, 1) := by decide +kernel
theorem dX6_shortest_14 : decode cX6_shortest 14 = .ok (.ldc 140, 2) := by decide +kernel
theorem dX6_shortest_16 : decode cX6_shortest 16 = .ok (.invokespecial 62, 3) := by decide +kernel
theorem dX6_shortest_19 : decode cX6_shortest 19 = .ok (.athrow, 1) := by decide +kernel
theorem dX6_shortest_20 : decode cX6_shortest 20 = .ok (.iconst (-1), 1) := by decide +kernel
theorem dX6_shortest_21 : decode cX6_shortest 21 = .ok (.istore_n 2, 1) := by decide +kernel
theorem dX6_shortest_22 : decode cX6_shortest 22 = .ok (.iconst 0, 1) := by decide +kernel
theorem dX6_shortest_23 : decode cX6_shortest 23 = .ok (.istore_n 3, 1) := by decide +kernel
theorem dX6_shortest_24 : decode cX6_shortest 24 = .ok (.iload_n 3, 1) := by decide +kernel
theorem dX6_shortest_25 : decode cX6_shortest 25 = .ok (.aload_n 0, 1) := by decide +kernel
theorem dX6_shortest_26 : decode cX6_shortest 26 = .ok (.getfield 10, 3) := by decide +kernel
theorem dX6_shortest_29 : decode cX6_shortest 29 = .ok (.getfield 113, 3) := by decide +kernel
theorem dX6_shortest_32 : decode cX6_shortest 32 = .ok (.invokevirtual 165, 3) := by decide +kernel
theorem dX6_shortest_35 : decode cX6_shortest 35 = .ok (.if_icmp .ge 34, 3) := by decide +kernel
theorem dX6_shortest_38 : decode cX6_shortest 38 = .ok (.aload_n 0, 1) := by decide +kernel
theorem dX6_shortest_39 : decode cX6_shortest 39 = .ok (.iload_n 3, 1) := by decide +kernel
theorem dX6_shortest_40 : decode cX6_shortest 40 = .ok (.iload_n 1, 1) := by decide +kernel
theorem dX6_shortest_41 : decode cX6_shortest 41 = .ok (.invokevirtual 262, 3) := by decide +kernel
theorem dX6_shortest_44 : decode cX6_shortest 44 = .ok (.ifCond .eq 19, 3) := by decide +kernel
theorem dX6_shortest_47 : decode cX6_shortest 47 = .ok (.iload_n 2, 1) := by decide +kernel
theorem dX6_shortest_48 : decode cX6_shortest 48 = .ok (.iconst (-1), 1) := by decide +kernel
theorem dX6_shortest_49 : decode cX6_shortest 49 = .ok (.if_icmp .eq 12, 3) := by decide +kernel
theorem dX6_shortest_52 : decode cX6_shortest 52 = .ok (.aload_n 0, 1) := by decide +kernel
theorem dX6_shortest_53 : decode cX6_shortest 53 = .ok (.iload_n 3, 1) := by decide +kernel
theorem dX6_shortest_54 : decode cX6_shortest 54 = .ok (.iload_n 2, 1) := by decide +kernel
theorem dX6_shortest_55 : decode cX6_shortest 55 = .ok (.invokevirtual 265, 3) := by decide +kernel
theorem dX6_shortest_58 : decode cX6_shortest 58 = .ok (.ifCond .eq 5, 3) := by decide +kernel
theorem dX6_shortest_61 : decode cX6_shortest 61 = .ok (.iload_n 3, 1) := by decide +kernel
theorem dX6_shortest_62 : decode cX6_shortest 62 = .ok (.istore_n 2, 1) := by decide +kernel
theorem dX6_shortest_63 : decode cX6_shortest 63 = .ok (.iinc 3 1, 3) := by decide +kernel
theorem dX6_shortest_66 : decode cX6_shortest 66 = .ok (.goto (-42), 3) := by decide +kernel
theorem dX6_shortest_69 : decode cX6_shortest 69 = .ok (.iload_n 2, 1) := by decide +kernel
theorem dX6_shortest_70 : decode cX6_shortest 70 = .ok (.ireturn, 1) := by decide +kernel
theorem dX6_behind_0 : decode cX6_behind 0 = .ok (.aload_n 0, 1) := by decide +kernel
theorem dX6_behind_1 : decode cX6_behind 1 = .ok (.getfield 10, 3) := by decide +kernel
theorem dX6_behind_4 : decode cX6_behind 4 = .ok (.getfield 113, 3) := by decide +kernel
theorem dX6_behind_7 : decode cX6_behind 7 = .ok (.iload_n 1, 1) := by decide +kernel
theorem dX6_behind_8 : decode cX6_behind 8 = .ok (.invokevirtual 117, 3) := by decide +kernel
theorem dX6_behind_11 : decode cX6_behind 11 = .ok (.ifCond .eq 17, 3) := by decide +kernel
theorem dX6_behind_14 : decode cX6_behind 14 = .ok (.aload_n 0, 1) := by decide +kernel
theorem dX6_behind_15 : decode cX6_behind 15 = .ok (.getfield 10, 3) := by decide +kernel
theorem dX6_behind_18 : decode cX6_behind 18 = .ok (.getfield 113, 3) := by decide +kernel
theorem dX6_behind_21 : decode cX6_behind 21 = .ok (.iload_n 2, 1) := by decide +kernel
theorem dX6_behind_22 : decode cX6_behind 22 = .ok (.invokevirtual 117, 3) := by decide +kernel
theorem dX6_behind_25 : decode cX6_behind 25 = .ok (.ifCond .ne 13, 3) := by decide +kernel
theorem dX6_behind_28 : decode cX6_behind 28 = .ok (.new 120, 3) := by decide +kernel
theorem dX6_behind_31 : decode cX6_behind 31 = .ok (.dup, 1) := by decide +kernel
theorem dX6_behind_32 : decode cX6_behind 32 = .ok (.ldc 166, 2) := by decide +kernel
theorem dX6_behind_34 : decode cX6_behind 34 = .ok (.invokespecial 124, 3) := by decide +kernel
theorem dX6_behind_37 : decode cX6_behind 37 = .ok (.athrow, 1) := by decide +kernel
theorem dX6_behind_38 : decode cX6_behind 38 = .ok (.aload_n 0, 1) := by decide +kernel
theorem dX6_behind_39 : decode cX6_behind 39 = .ok (.iload_n 1, 1) := by decide +kernel
theorem dX6_behind_40 : decode cX6_behind 40 = .ok (.iload_n 2, 1) := by decide +kernel
theorem dX6_behind_41 : decode cX6_behind 41 = .ok (.invokevirtual 268, 3) := by decide +kernel
theorem dX6_behind_44 : decode cX6_behind 44 = .ok (.ireturn, 1) := by decide +kernel
theorem dX6_clashes_0 : decode cX6_clashes 0 = .ok (.iconst 0, 1) := by decide +kernel
theorem dX6_clashes_1 : decode cX6_clashes 1 = .ok (.istore_n 1, 1) := by decide +kernel
theorem dX6_clashes_2 : decode cX6_clashes 2 = .ok (.iconst 0, 1) := by decide +kernel
theorem dX6_clashes_3 : decode cX6_clashes 3 = .ok (.istore_n 2, 1) := by decide +kernel
theorem dX6_clashes_4 : decode cX6_clashes 4 = .ok (.iload_n 2, 1) := by decide +kernel
theorem dX6_clashes_5 : decode cX6_clashes 5 = .ok (.aload_n 0, 1) := by decide +kernel
theorem dX6_clashes_6 : decode cX6_clashes 6 = .ok (.getfield 10, 3) := by decide +kernel
theorem dX6_clashes_9 : decode cX6_clashes 9 = .ok (.getfield 113, 3) := by decide +kernel
theorem dX6_clashes_12 : decode cX6_clashes 12 = .ok (.invokevirtual 165, 3) := by decide +kernel
theorem dX6_clashes_15 : decode cX6_clashes 15 = .ok (.if_icmp .ge 43, 3) := by decide +kernel
theorem dX6_clashes_18 : decode cX6_clashes 18 = .ok (.iconst 0, 1) := by decide +kernel
theorem dX6_clashes_19 : decode cX6_clashes 19 = .ok (.istore_n 3, 1) := by decide +kernel
theorem dX6_clashes_20 : decode cX6_clashes 20 = .ok (.iload_n 3, 1) := by decide +kernel
theorem dX6_clashes_21 : decode cX6_clashes 21 = .ok (.aload_n 0, 1) := by decide +kernel
theorem dX6_clashes_22 : decode cX6_clashes 22 = .ok (.getfield 10, 3) := by decide +kernel
theorem dX6_clashes_25 : decode cX6_clashes 25 = .ok (.getfield 113, 3) := by decide +kernel
theorem dX6_clashes_28 : decode cX6_clashes 28 = .ok (.invokevirtual 165, 3) := by decide +kernel
theorem dX6_clashes_31 : decode cX6_clashes 31 = .ok (.if_icmp .ge 21, 3) := by decide +kernel
theorem dX6_clashes_34 : decode cX6_clashes 34 = .ok (.aload_n 0, 1) := by decide +kernel
theorem dX6_clashes_35 : decode cX6_clashes 35 = .ok (.iload_n 2, 1) := by decide +kernel
theorem dX6_clashes_36 : decode cX6_clashes 36 = .ok (.iload_n 3, 1) := by decide +kernel
theorem dX6_clashes_37 : decode cX6_clashes 37 = .ok (.invokevirtual 268, 3) := by decide +kernel
theorem dX6_clashes_40 : decode cX6_clashes 40 = .ok (.ifCond .eq 6, 3) := by decide +kernel
theorem dX6_clashes_43 : decode cX6_clashes 43 = .ok (.iinc 1 1, 3) := by decide +kernel
theorem dX6_clashes_46 : decode cX6_clashes 46 = .ok (.iinc 3 1, 3) := by decide +kernel
theorem dX6_clashes_49 : decode cX6_clashes 49 = .ok (.goto (-29), 3) := by decide +kernel
theorem dX6_clashes_52 : decode cX6_clashes 52 = .ok (.iinc 2 1, 3) := by decide +kernel
theorem dX6_clashes_55 : decode cX6_clashes 55 = .ok (.goto (-51), 3) := by decide +kernel
theorem dX6_clashes_58 : decode cX6_clashes 58 = .ok (.iload_n 1, 1) := by decide +kernel
theorem dX6_clashes_59 : decode cX6_clashes 59 = .ok (.ireturn, 1) := by decide +kernel
theorem dX6_least_0 : decode cX6_least 0 = .ok (.aload_n 0, 1) := by decide +kernel
theorem dX6_least_1 : decode cX6_least 1 = .ok (.getfield 55, 3) := by decide +kernel
theorem dX6_least_4 : decode cX6_least 4 = .ok (.iconst 0, 1) := by decide +kernel
theorem dX6_least_5 : decode cX6_least 5 = .ok (.invokevirtual 107, 3) := by decide +kernel
theorem dX6_least_8 : decode cX6_least 8 = .ok (.aload_n 0, 1) := by decide +kernel
theorem dX6_least_9 : decode cX6_least 9 = .ok (.getfield 55, 3) := by decide +kernel
theorem dX6_least_12 : decode cX6_least 12 = .ok (.iconst 0, 1) := by decide +kernel
theorem dX6_least_13 : decode cX6_least 13 = .ok (.invokevirtual 239, 3) := by decide +kernel
theorem dX6_least_16 : decode cX6_least 16 = .ok (.iconst 1, 1) := by decide +kernel
theorem dX6_least_17 : decode cX6_least 17 = .ok (.istore_n 1, 1) := by decide +kernel
theorem dX6_least_18 : decode cX6_least 18 = .ok (.iload_n 1, 1) := by decide +kernel
theorem dX6_least_19 : decode cX6_least 19 = .ok (.aload_n 0, 1) := by decide +kernel
theorem dX6_least_20 : decode cX6_least 20 = .ok (.getfield 10, 3) := by decide +kernel
theorem dX6_least_23 : decode cX6_least 23 = .ok (.getfield 104, 3) := by decide +kernel
theorem dX6_least_26 : decode cX6_least 26 = .ok (.invokevirtual 94, 3) := by decide +kernel
theorem dX6_least_29 : decode cX6_least 29 = .ok (.if_icmp .gt 21, 3) := by decide +kernel
theorem dX6_least_32 : decode cX6_least 32 = .ok (.aload_n 0, 1) := by decide +kernel
theorem dX6_least_33 : decode cX6_least 33 = .ok (.getfield 55, 3) := by decide +kernel
theorem dX6_least_36 : decode cX6_least 36 = .ok (.aload_n 0, 1) := by decide +kernel
theorem dX6_least_37 : decode cX6_least 37 = .ok (.iload_n 1, 1) := by decide +kernel
theorem dX6_least_38 : decode cX6_least 38 = .ok (.invokevirtual 271, 3) := by decide +kernel
theorem dX6_least_41 : decode cX6_least 41 = .ok (.invokevirtual 239, 3) := by decide +kernel
theorem dX6_least_44 : decode cX6_least 44 = .ok (.iinc 1 1, 3) := by decide +kernel
theorem dX6_least_47 : decode cX6_least 47 = .ok (.goto (-29), 3) := by decide +kernel
theorem dX6_least_50 : decode cX6_least 50 = .ok (.aload_n 0, 1) := by decide +kernel
theorem dX6_least_51 : decode cX6_least 51 = .ok (.getfield 55, 3) := by decide +kernel
theorem dX6_least_54 : decode cX6_least 54 = .ok (.aload_n 0, 1) := by decide +kernel
theorem dX6_least_55 : decode cX6_least 55 = .ok (.getfield 10, 3) := by decide +kernel
theorem dX6_least_58 : decode cX6_least 58 = .ok (.getfield 104, 3) := by decide +kernel
theorem dX6_least_61 : decode cX6_least 61 = .ok (.invokevirtual 94, 3) := by decide +kernel
theorem dX6_least_64 : decode cX6_least 64 = .ok (.invokevirtual 97, 3) := by decide +kernel
theorem dX6_least_67 : decode cX6_least 67 = .ok (.ireturn, 1) := by decide +kernel
theorem dX6_readShare_0 : decode cX6_readShare 0 = .ok (.aload_n 0, 1) := by decide +kernel
theorem dX6_readShare_1 : decode cX6_readShare 1 = .ok (.getfield 10, 3) := by decide +kernel
theorem dX6_readShare_4 : decode cX6_readShare 4 = .ok (.getfield 104, 3) := by decide +kernel
theorem dX6_readShare_7 : decode cX6_readShare 7 = .ok (.invokevirtual 94, 3) := by decide +kernel
theorem dX6_readShare_10 : decode cX6_readShare 10 = .ok (.istore_n 1, 1) := by decide +kernel
theorem dX6_readShare_11 : decode cX6_readShare 11 = .ok (.iload_n 1, 1) := by decide +kernel
theorem dX6_readShare_12 : decode cX6_readShare 12 = .ok (.ifCond .ne 5, 3) := by decide +kernel
theorem dX6_readShare_15 : decode cX6_readShare 15 = .ok (.dconst 1, 1) := by decide +kernel
theorem dX6_readShare_16 : decode cX6_readShare 16 = .ok (.dreturn, 1) := by decide +kernel
theorem dX6_readShare_17 : decode cX6_readShare 17 = .ok (.aload_n 0, 1) := by decide +kernel
theorem dX6_readShare_18 : decode cX6_readShare 18 = .ok (.invokevirtual 81, 3) := by decide +kernel
theorem dX6_readShare_21 : decode cX6_readShare 21 = .ok (.iload_n 1, 1) := by decide +kernel
theorem dX6_readShare_22 : decode cX6_readShare 22 = .ok (.aload_n 0, 1) := by decide +kernel
theorem dX6_readShare_23 : decode cX6_readShare 23 = .ok (.invokevirtual 274, 3) := by decide +kernel
theorem dX6_readShare_26 : decode cX6_readShare 26 = .ok (.isub, 1) := by decide +kernel
theorem dX6_readShare_27 : decode cX6_readShare 27 = .ok (.i2d, 1) := by decide +kernel
theorem dX6_readShare_28 : decode cX6_readShare 28 = .ok (.iload_n 1, 1) := by decide +kernel
theorem dX6_readShare_29 : decode cX6_readShare 29 = .ok (.i2d, 1) := by decide +kernel
theorem dX6_readShare_30 : decode cX6_readShare 30 = .ok (.ddiv, 1) := by decide +kernel
theorem dX6_readShare_31 : decode cX6_readShare 31 = .ok (.dreturn, 1) := by decide +kernel
theorem dX6_meanKeys_0 : decode cX6_meanKeys 0 = .ok (.aload_n 0, 1) := by decide +kernel
theorem dX6_meanKeys_1 : decode cX6_meanKeys 1 = .ok (.getfield 10, 3) := by decide +kernel
theorem dX6_meanKeys_4 : decode cX6_meanKeys 4 = .ok (.getfield 277, 3) := by decide +kernel
theorem dX6_meanKeys_7 : decode cX6_meanKeys 7 = .ok (.ifCond .ne 5, 3) := by decide +kernel
theorem dX6_meanKeys_10 : decode cX6_meanKeys 10 = .ok (.fconst 0, 1) := by decide +kernel
theorem dX6_meanKeys_11 : decode cX6_meanKeys 11 = .ok (.freturn, 1) := by decide +kernel
theorem dX6_meanKeys_12 : decode cX6_meanKeys 12 = .ok (.aload_n 0, 1) := by decide +kernel
theorem dX6_meanKeys_13 : decode cX6_meanKeys 13 = .ok (.getfield 10, 3) := by decide +kernel
theorem dX6_meanKeys_16 : decode cX6_meanKeys 16 = .ok (.getfield 280, 3) := by decide +kernel
theorem dX6_meanKeys_19 : decode cX6_meanKeys 19 = .ok (.i2f, 1) := by decide +kernel
theorem dX6_meanKeys_20 : decode cX6_meanKeys 20 = .ok (.aload_n 0, 1) := by decide +kernel
theorem dX6_meanKeys_21 : decode cX6_meanKeys 21 = .ok (.getfield 10, 3) := by decide +kernel
theorem dX6_meanKeys_24 : decode cX6_meanKeys 24 = .ok (.getfield 277, 3) := by decide +kernel
theorem dX6_meanKeys_27 : decode cX6_meanKeys 27 = .ok (.i2f, 1) := by decide +kernel
theorem dX6_meanKeys_28 : decode cX6_meanKeys 28 = .ok (.fdiv, 1) := by decide +kernel
theorem dX6_meanKeys_29 : decode cX6_meanKeys 29 = .ok (.freturn, 1) := by decide +kernel
theorem dX6_canStrike_0 : decode cX6_canStrike 0 = .ok (.iload_n 1, 1) := by decide +kernel
theorem dX6_canStrike_1 : decode cX6_canStrike 1 = .ok (.ifCond .ne 24, 3) := by decide +kernel
theorem dX6_canStrike_4 : decode cX6_canStrike 4 = .ok (.aload_n 0, 1) := by decide +kernel
theorem dX6_canStrike_5 : decode cX6_canStrike 5 = .ok (.getfield 10, 3) := by decide +kernel
theorem dX6_canStrike_8 : decode cX6_canStrike 8 = .ok (.getfield 104, 3) := by decide +kernel
theorem dX6_canStrike_11 : decode cX6_canStrike 11 = .ok (.invokevirtual 94, 3) := by decide +kernel
theorem dX6_canStrike_14 : decode cX6_canStrike 14 = .ok (.ifCond .le 7, 3) := by decide +kernel
theorem dX6_canStrike_17 : decode cX6_canStrike 17 = .ok (.iconst 1, 1) := by decide +kernel
theorem dX6_canStrike_18 : decode cX6_canStrike 18 = .ok (.goto 25, 3) := by decide +kernel
theorem dX6_canStrike_21 : decode cX6_canStrike 21 = .ok (.iconst 0, 1) := by decide +kernel
theorem dX6_canStrike_22 : decode cX6_canStrike 22 = .ok (.goto 21, 3) := by decide +kernel
theorem dX6_canStrike_25 : decode cX6_canStrike 25 = .ok (.aload_n 0, 1) := by decide +kernel
theorem dX6_canStrike_26 : decode cX6_canStrike 26 = .ok (.getfield 10, 3) := by decide +kernel
theorem dX6_canStrike_29 : decode cX6_canStrike 29 = .ok (.getfield 104, 3) := by decide +kernel
theorem dX6_canStrike_32 : decode cX6_canStrike 32 = .ok (.invokevirtual 321, 3) := by decide +kernel
theorem dX6_canStrike_35 : decode cX6_canStrike 35 = .ok (.ifCond .ne 7, 3) := by decide +kernel
theorem dX6_canStrike_38 : decode cX6_canStrike 38 = .ok (.iconst 1, 1) := by decide +kernel
theorem dX6_canStrike_39 : decode cX6_canStrike 39 = .ok (.goto 4, 3) := by decide +kernel
theorem dX6_canStrike_42 : decode cX6_canStrike 42 = .ok (.iconst 0, 1) := by decide +kernel
theorem dX6_canStrike_43 : decode cX6_canStrike 43 = .ok (.ireturn, 1) := by decide +kernel
theorem dX6_putOrEat_0 : decode cX6_putOrEat 0 = .ok (.iload_n 1, 1) := by decide +kernel
theorem dX6_putOrEat_1 : decode cX6_putOrEat 1 = .ok (.ifCond .ne 10, 3) := by decide +kernel
theorem dX6_putOrEat_4 : decode cX6_putOrEat 4 = .ok (.aload_n 0, 1) := by decide +kernel
theorem dX6_putOrEat_5 : decode cX6_putOrEat 5 = .ok (.invokevirtual 322, 3) := by decide +kernel
theorem dX6_putOrEat_8 : decode cX6_putOrEat 8 = .ok (.goto 43, 3) := by decide +kernel
theorem dX6_putOrEat_11 : decode cX6_putOrEat 11 = .ok (.aload_n 0, 1) := by decide +kernel
theorem dX6_putOrEat_12 : decode cX6_putOrEat 12 = .ok (.getfield 10, 3) := by decide +kernel
theorem dX6_putOrEat_15 : decode cX6_putOrEat 15 = .ok (.getfield 104, 3) := by decide +kernel
theorem dX6_putOrEat_18 : decode cX6_putOrEat 18 = .ok (.iload_n 1, 1) := by decide +kernel
theorem dX6_putOrEat_19 : decode cX6_putOrEat 19 = .ok (.invokevirtual 239, 3) := by decide +kernel
theorem dX6_putOrEat_22 : decode cX6_putOrEat 22 = .ok (.aload_n 0, 1) := by decide +kernel
theorem dX6_putOrEat_23 : decode cX6_putOrEat 23 = .ok (.getfield 10, 3) := by decide +kernel
theorem dX6_putOrEat_26 : decode cX6_putOrEat 26 = .ok (.dup, 1) := by decide +kernel
theorem dX6_putOrEat_27 : decode cX6_putOrEat 27 = .ok (.getfield 277, 3) := by decide +kernel
theorem dX6_putOrEat_30 : decode cX6_putOrEat 30 = .ok (.iconst 1, 1) := by decide +kernel
theorem dX6_putOrEat_31 : decode cX6_putOrEat 31 = .ok (.iadd, 1) := by decide +kernel
theorem dX6_putOrEat_32 : decode cX6_putOrEat 32 = .ok (.putfield 277, 3) := by decide +kernel
theorem dX6_putOrEat_35 : decode cX6_putOrEat 35 = .ok (.aload_n 0, 1) := by decide +kernel
theorem dX6_putOrEat_36 : decode cX6_putOrEat 36 = .ok (.getfield 10, 3) := by decide +kernel
theorem dX6_putOrEat_39 : decode cX6_putOrEat 39 = .ok (.dup, 1) := by decide +kernel
theorem dX6_putOrEat_40 : decode cX6_putOrEat 40 = .ok (.getfield 280, 3) := by decide +kernel
theorem dX6_putOrEat_43 : decode cX6_putOrEat 43 = .ok (.iload_n 1, 1) := by decide +kernel
theorem dX6_putOrEat_44 : decode cX6_putOrEat 44 = .ok (.invokestatic 325, 3) := by decide +kernel
theorem dX6_putOrEat_47 : decode cX6_putOrEat 47 = .ok (.iadd, 1) := by decide +kernel
theorem dX6_putOrEat_48 : decode cX6_putOrEat 48 = .ok (.putfield 280, 3) := by decide +kernel
theorem dX6_putOrEat_51 : decode cX6_putOrEat 51 = .ok (.return_, 1) := by decide +kernel
theorem dX6_eat_0 : decode cX6_eat 0 = .ok (.aload_n 0, 1) := by decide +kernel
theorem dX6_eat_1 : decode cX6_eat 1 = .ok (.getfield 10, 3) := by decide +kernel
theorem dX6_eat_4 : decode cX6_eat 4 = .ok (.getfield 104, 3) := by decide +kernel
theorem dX6_eat_7 : decode cX6_eat 7 = .ok (.invokevirtual 94, 3) := by decide +kernel
theorem dX6_eat_10 : decode cX6_eat 10 = .ok (.iconst 1, 1) := by decide +kernel
theorem dX6_eat_11 : decode cX6_eat 11 = .ok (.isub, 1) := by decide +kernel
theorem dX6_eat_12 : decode cX6_eat 12 = .ok (.istore_n 1, 1) := by decide +kernel
theorem dX6_eat_13 : decode cX6_eat 13 = .ok (.aload_n 0, 1) := by decide +kernel
theorem dX6_eat_14 : decode cX6_eat 14 = .ok (.getfield 10, 3) := by decide +kernel
theorem dX6_eat_17 : decode cX6_eat 17 = .ok (.getfield 182, 3) := by decide +kernel
theorem dX6_eat_20 : decode cX6_eat 20 = .ok (.iconst 1, 1) := by decide +kernel
theorem dX6_eat_21 : decode cX6_eat 21 = .ok (.if_icmp .ne 24, 3) := by decide +kernel
theorem dX6_eat_24 : decode cX6_eat 24 = .ok (.aload_n 0, 1) := by decide +kernel
theorem dX6_eat_25 : decode cX6_eat 25 = .ok (.invokevirtual 81, 3) := by decide +kernel
theorem dX6_eat_28 : decode cX6_eat 28 = .ok (.aload_n 0, 1) := by decide +kernel
theorem dX6_eat_29 : decode cX6_eat 29 = .ok (.getfield 36, 3) := by decide +kernel
theorem dX6_eat_32 : decode cX6_eat 32 = .ok (.aload_n 0, 1) := by decide +kernel
theorem dX6_eat_33 : decode cX6_eat 33 = .ok (.getfield 36, 3) := by decide +kernel
theorem dX6_eat_36 : decode cX6_eat 36 = .ok (.invokevirtual 84, 3) := by decide +kernel
theorem dX6_eat_39 : decode cX6_eat 39 = .ok (.iconst 1, 1) := by decide +kernel
theorem dX6_eat_40 : decode cX6_eat 40 = .ok (.isub, 1) := by decide +kernel
theorem dX6_eat_41 : decode cX6_eat 41 = .ok (.invokevirtual 330, 3) := by decide +kernel
theorem dX6_eat_44 : decode cX6_eat 44 = .ok (.istore_n 1, 1) := by decide +kernel
theorem dX6_eat_45 : decode cX6_eat 45 = .ok (.aload_n 0, 1) := by decide +kernel
theorem dX6_eat_46 : decode cX6_eat 46 = .ok (.getfield 10, 3) := by decide +kernel
theorem dX6_eat_49 : decode cX6_eat 49 = .ok (.dup, 1) := by decide +kernel
theorem dX6_eat_50 : decode cX6_eat 50 = .ok (.getfield 333, 3) := by decide +kernel
theorem dX6_eat_53 : decode cX6_eat 53 = .ok (.aload_n 0, 1) := by decide +kernel
theorem dX6_eat_54 : decode cX6_eat 54 = .ok (.getfield 10, 3) := by decide +kernel
theorem dX6_eat_57 : decode cX6_eat 57 = .ok (.getfield 104, 3) := by decide +kernel
theorem dX6_eat_60 : decode cX6_eat 60 = .ok (.invokevirtual 94, 3) := by decide +kernel
theorem dX6_eat_63 : decode cX6_eat 63 = .ok (.iload_n 1, 1) := by decide +kernel
theorem dX6_eat_64 : decode cX6_eat 64 = .ok (.isub, 1) := by decide +kernel
theorem dX6_eat_65 : decode cX6_eat 65 = .ok (.iadd, 1) := by decide +kernel
theorem dX6_eat_66 : decode cX6_eat 66 = .ok (.putfield 333, 3) := by decide +kernel
theorem dX6_eat_69 : decode cX6_eat 69 = .ok (.aload_n 0, 1) := by decide +kernel
theorem dX6_eat_70 : decode cX6_eat 70 = .ok (.getfield 10, 3) := by decide +kernel
theorem dX6_eat_73 : decode cX6_eat 73 = .ok (.dup, 1) := by decide +kernel
theorem dX6_eat_74 : decode cX6_eat 74 = .ok (.getfield 336, 3) := by decide +kernel
theorem dX6_eat_77 : decode cX6_eat 77 = .ok (.iconst 1, 1) := by decide +kernel
theorem dX6_eat_78 : decode cX6_eat 78 = .ok (.iadd, 1) := by decide +kernel
theorem dX6_eat_79 : decode cX6_eat 79 = .ok (.putfield 336, 3) := by decide +kernel
theorem dX6_eat_82 : decode cX6_eat 82 = .ok (.aload_n 0, 1) := by decide +kernel
theorem dX6_eat_83 : decode cX6_eat 83 = .ok (.getfield 10, 3) := by decide +kernel
theorem dX6_eat_86 : decode cX6_eat 86 = .ok (.getfield 104, 3) := by decide +kernel
theorem dX6_eat_89 : decode cX6_eat 89 = .ok (.iload_n 1, 1) := by decide +kernel
theorem dX6_eat_90 : decode cX6_eat 90 = .ok (.invokevirtual 107, 3) := by decide +kernel
theorem dX6_eat_93 : decode cX6_eat 93 = .ok (.return_, 1) := by decide +kernel
theorem dX6_readPaper_0 : decode cX6_readPaper 0 = .ok (.aload_n 0, 1) := by decide +kernel
theorem dX6_readPaper_1 : decode cX6_readPaper 1 = .ok (.getfield 36, 3) := by decide +kernel
theorem dX6_readPaper_4 : decode cX6_readPaper 4 = .ok (.iconst 0, 1) := by decide +kernel
theorem dX6_readPaper_5 : decode cX6_readPaper 5 = .ok (.invokevirtual 240, 3) := by decide +kernel
theorem dX6_readPaper_8 : decode cX6_readPaper 8 = .ok (.aload_n 0, 1) := by decide +kernel
theorem dX6_readPaper_9 : decode cX6_readPaper 9 = .ok (.getfield 36, 3) := by decide +kernel
theorem dX6_readPaper_12 : decode cX6_readPaper 12 = .ok (.aload_n 0, 1) := by decide +kernel
theorem dX6_readPaper_13 : decode cX6_readPaper 13 = .ok (.getfield 10, 3) := by decide +kernel
theorem dX6_readPaper_16 : decode cX6_readPaper 16 = .ok (.getfield 104, 3) := by decide +kernel
theorem dX6_readPaper_19 : decode cX6_readPaper 19 = .ok (.aload_n 0, 1) := by decide +kernel
theorem dX6_readPaper_20 : decode cX6_readPaper 20 = .ok (.getfield 10, 3) := by decide +kernel
theorem dX6_readPaper_23 : decode cX6_readPaper 23 = .ok (.invokevirtual 243, 3) := by decide +kernel
theorem dX6_readPaper_26 : decode cX6_readPaper 26 = .ok (.return_, 1) := by decide +kernel
theorem dX6_strokeOf_0 : decode cX6_strokeOf 0 = .ok (.lload_n 0, 1) := by decide +kernel
theorem dX6_strokeOf_1 : decode cX6_strokeOf 1 = .ok (.bipush 10, 2) := by decide +kernel
theorem dX6_strokeOf_3 : decode cX6_strokeOf 3 = .ok (.iload_n 2, 1) := by decide +kernel
theorem dX6_strokeOf_4 : decode cX6_strokeOf 4 = .ok (.imul, 1) := by decide +kernel
theorem dX6_strokeOf_5 : decode cX6_strokeOf 5 = .ok (.lshr, 1) := by decide +kernel
theorem dX6_strokeOf_6 : decode cX6_strokeOf 6 = .ok (.l2i, 1) := by decide +kernel
theorem dX6_strokeOf_7 : decode cX6_strokeOf 7 = .ok (.sipush 1023, 3) := by decide +kernel
theorem dX6_strokeOf_10 : decode cX6_strokeOf 10 = .ok (.iand, 1) := by decide +kernel
theorem dX6_strokeOf_11 : decode cX6_strokeOf 11 = .ok (.ireturn, 1) := by decide +kernel
theorem dX6_strokesOf_0 : decode cX6_strokesOf 0 = .ok (.iconst 0, 1) := by decide +kernel
theorem dX6_strokesOf_1 : decode cX6_strokesOf 1 = .ok (.istore_n 2, 1) := by decide +kernel
theorem dX6_strokesOf_2 : decode cX6_strokesOf 2 = .ok (.iconst 0, 1) := by decide +kernel
theorem dX6_strokesOf_3 : decode cX6_strokesOf 3 = .ok (.istore_n 3, 1) := by decide +kernel
theorem dX6_strokesOf_4 : decode cX6_strokesOf 4 = .ok (.iload_n 3, 1) := by decide +kernel
theorem dX6_strokesOf_5 : decode cX6_strokesOf 5 = .ok (.iconst 4, 1) := by decide +kernel
theorem dX6_strokesOf_6 : decode cX6_strokesOf 6 = .ok (.if_icmp .ge 20, 3) := by decide +kernel
theorem dX6_strokesOf_9 : decode cX6_strokesOf 9 = .ok (.lload_n 0, 1) := by decide +kernel
theorem dX6_strokesOf_10 : decode cX6_strokesOf 10 = .ok (.iload_n 3, 1) := by decide +kernel
theorem dX6_strokesOf_11 : decode cX6_strokesOf 11 = .ok (.invokestatic 339, 3) := by decide +kernel
theorem dX6_strokesOf_14 : decode cX6_strokesOf 14 = .ok (.ifCond .eq 6, 3) := by decide +kernel
theorem dX6_strokesOf_17 : decode cX6_strokesOf 17 = .ok (.iinc 2 1, 3) := by decide +kernel
theorem dX6_strokesOf_20 : decode cX6_strokesOf 20 = .ok (.iinc 3 1, 3) := by decide +kernel
theorem dX6_strokesOf_23 : decode cX6_strokesOf 23 = .ok (.goto (-19), 3) := by decide +kernel
theorem dX6_strokesOf_26 : decode cX6_strokesOf 26 = .ok (.iload_n 2, 1) := by decide +kernel
theorem dX6_strokesOf_27 : decode cX6_strokesOf 27 = .ok (.ireturn, 1) := by decide +kernel
theorem dX6_canBeRow_0 : decode cX6_canBeRow 0 = .ok (.iconst 0, 1) := by decide +kernel
theorem dX6_canBeRow_1 : decode cX6_canBeRow 1 = .ok (.istore_n 1, 1) := by decide +kernel
theorem dX6_canBeRow_2 : decode cX6_canBeRow 2 = .ok (.iload_n 1, 1) := by decide +kernel
theorem dX6_canBeRow_3 : decode cX6_canBeRow 3 = .ok (.aload_n 0, 1) := by decide +kernel
theorem dX6_canBeRow_4 : decode cX6_canBeRow 4 = .ok (.invokevirtual 94, 3) := by decide +kernel
theorem dX6_canBeRow_7 : decode cX6_canBeRow 7 = .ok (.if_icmp .ge 19, 3) := by decide +kernel
theorem dX6_canBeRow_10 : decode cX6_canBeRow 10 = .ok (.aload_n 0, 1) := by decide +kernel
theorem dX6_canBeRow_11 : decode cX6_canBeRow 11 = .ok (.iload_n 1, 1) := by decide +kernel
theorem dX6_canBeRow_12 : decode cX6_canBeRow 12 = .ok (.invokevirtual 97, 3) := by decide +kernel
theorem dX6_canBeRow_15 : decode cX6_canBeRow 15 = .ok (.ifCond .ne 5, 3) := by decide +kernel
theorem dX6_canBeRow_18 : decode cX6_canBeRow 18 = .ok (.iconst 0, 1) := by decide +kernel
theorem dX6_canBeRow_19 : decode cX6_canBeRow 19 = .ok (.ireturn, 1) := by decide +kernel
theorem dX6_canBeRow_20 : decode cX6_canBeRow 20 = .ok (.iinc 1 1, 3) := by decide +kernel
theorem dX6_canBeRow_23 : decode cX6_canBeRow 23 = .ok (.goto (-21), 3) := by decide +kernel
theorem dX6_canBeRow_26 : decode cX6_canBeRow 26 = .ok (.aload_n 0, 1) := by decide +kernel
theorem dX6_canBeRow_27 : decode cX6_canBeRow 27 = .ok (.invokevirtual 94, 3) := by decide +kernel
theorem dX6_canBeRow_30 : decode cX6_canBeRow 30 = .ok (.iconst 1, 1) := by decide +kernel
theorem dX6_canBeRow_31 : decode cX6_canBeRow 31 = .ok (.if_icmp .lt 15, 3) := by decide +kernel
theorem dX6_canBeRow_34 : decode cX6_canBeRow 34 = .ok (.aload_n 0, 1) := by decide +kernel
theorem dX6_canBeRow_35 : decode cX6_canBeRow 35 = .ok (.invokevirtual 94, 3) := by decide +kernel
theorem dX6_canBeRow_38 : decode cX6_canBeRow 38 = .ok (.iconst 4, 1) := by decide +kernel
theorem dX6_canBeRow_39 : decode cX6_canBeRow 39 = .ok (.if_icmp .gt 7, 3) := by decide +kernel
theorem dX6_canBeRow_42 : decode cX6_canBeRow 42 = .ok (.iconst 1, 1) := by decide +kernel
theorem dX6_canBeRow_43 : decode cX6_canBeRow 43 = .ok (.goto 4, 3) := by decide +kernel
theorem dX6_canBeRow_46 : decode cX6_canBeRow 46 = .ok (.iconst 0, 1) := by decide +kernel
theorem dX6_canBeRow_47 : decode cX6_canBeRow 47 = .ok (.ireturn, 1) := by decide +kernel
theorem dX6_rowOfItem_0 : decode cX6_rowOfItem 0 = .ok (.aload_n 0, 1) := by decide +kernel
theorem dX6_rowOfItem_1 : decode cX6_rowOfItem 1 = .ok (.getfield 10, 3) := by decide +kernel
theorem dX6_rowOfItem_4 : decode cX6_rowOfItem 4 = .ok (.getfield 104, 3) := by decide +kernel
theorem dX6_rowOfItem_7 : decode cX6_rowOfItem 7 = .ok (.aload_n 0, 1) := by decide +kernel
theorem dX6_rowOfItem_8 : decode cX6_rowOfItem 8 = .ok (.getfield 36, 3) := by decide +kernel
theorem dX6_rowOfItem_11 : decode cX6_rowOfItem 11 = .ok (.iload_n 1, 1) := by decide +kernel
theorem dX6_rowOfItem_12 : decode cX6_rowOfItem 12 = .ok (.invokevirtual 330, 3) := by decide +kernel
theorem dX6_rowOfItem_15 : decode cX6_rowOfItem 15 = .ok (.aload_n 0, 1) := by decide +kernel
theorem dX6_rowOfItem_16 : decode cX6_rowOfItem 16 = .ok (.getfield 36, 3) := by decide +kernel
theorem dX6_rowOfItem_19 : decode cX6_rowOfItem 19 = .ok (.iload_n 1, 1) := by decide +kernel
theorem dX6_rowOfItem_20 : decode cX6_rowOfItem 20 = .ok (.invokevirtual 253, 3) := by decide +kernel
theorem dX6_rowOfItem_23 : decode cX6_rowOfItem 23 = .ok (.invokevirtual 147, 3) := by decide +kernel
theorem dX6_rowOfItem_26 : decode cX6_rowOfItem 26 = .ok (.lreturn, 1) := by decide +kernel
theorem dX6_canBeSet_0 : decode cX6_canBeSet 0 = .ok (.iload_n 0, 1) := by decide +kernel
theorem dX6_canBeSet_1 : decode cX6_canBeSet 1 = .ok (.ifCond .ne 18, 3) := by decide +kernel
theorem dX6_canBeSet_4 : decode cX6_canBeSet 4 = .ok (.iload_n 1, 1) := by decide +kernel
theorem dX6_canBeSet_5 : decode cX6_canBeSet 5 = .ok (.ifCond .eq 8, 3) := by decide +kernel
theorem dX6_canBeSet_8 : decode cX6_canBeSet 8 = .ok (.iload_n 1, 1) := by decide +kernel
theorem dX6_canBeSet_9 : decode cX6_canBeSet 9 = .ok (.iconst 1, 1) := by decide +kernel
theorem dX6_canBeSet_10 : decode cX6_canBeSet 10 = .ok (.if_icmp .ne 7, 3) := by decide +kernel
theorem dX6_canBeSet_13 : decode cX6_canBeSet 13 = .ok (.iconst 1, 1) := by decide +kernel
theorem dX6_canBeSet_14 : decode cX6_canBeSet 14 = .ok (.goto 4, 3) := by decide +kernel
theorem dX6_canBeSet_17 : decode cX6_canBeSet 17 = .ok (.iconst 0, 1) := by decide +kernel
theorem dX6_canBeSet_18 : decode cX6_canBeSet 18 = .ok (.ireturn, 1) := by decide +kernel
theorem dX6_canBeSet_19 : decode cX6_canBeSet 19 = .ok (.iload_n 1, 1) := by decide +kernel
theorem dX6_canBeSet_20 : decode cX6_canBeSet 20 = .ok (.iconst 1, 1) := by decide +kernel
theorem dX6_canBeSet_21 : decode cX6_canBeSet 21 = .ok (.if_icmp .lt 12, 3) := by decide +kernel
theorem dX6_canBeSet_24 : decode cX6_canBeSet 24 = .ok (.iload_n 1, 1) := by decide +kernel
theorem dX6_canBeSet_25 : decode cX6_canBeSet 25 = .ok (.iconst 4, 1) := by decide +kernel
theorem dX6_canBeSet_26 : decode cX6_canBeSet 26 = .ok (.if_icmp .gt 7, 3) := by decide +kernel
theorem dX6_canBeSet_29 : decode cX6_canBeSet 29 = .ok (.iconst 1, 1) := by decide +kernel
theorem dX6_canBeSet_30 : decode cX6_canBeSet 30 = .ok (.goto 4, 3) := by decide +kernel
theorem dX6_canBeSet_33 : decode cX6_canBeSet 33 = .ok (.iconst 0, 1) := by decide +kernel
theorem dX6_canBeSet_34 : decode cX6_canBeSet 34 = .ok (.ireturn, 1) := by decide +kernel
theorem dX6_settingNumber_0 : decode cX6_settingNumber 0 = .ok (.iload_n 1, 1) := by decide +kernel
theorem dX6_settingNumber_1 : decode cX6_settingNumber 1 = .ok (.ifCond .ne 13, 3) := by decide +kernel
theorem dX6_settingNumber_4 : decode cX6_settingNumber 4 = .ok (.aload_n 0, 1) := by decide +kernel
theorem dX6_settingNumber_5 : decode cX6_settingNumber 5 = .ok (.getfield 10, 3) := by decide +kernel
theorem dX6_settingNumber_8 : decode cX6_settingNumber 8 = .ok (.getfield 182, 3) := by decide +kernel
theorem dX6_settingNumber_11 : decode cX6_settingNumber 11 = .ok (.goto 10, 3) := by decide +kernel
theorem dX6_settingNumber_14 : decode cX6_settingNumber 14 = .ok (.aload_n 0, 1) := by decide +kernel
theorem dX6_settingNumber_15 : decode cX6_settingNumber 15 = .ok (.getfield 10, 3) := by decide +kernel
theorem dX6_settingNumber_18 : decode cX6_settingNumber 18 = .ok (.getfield 186, 3) := by decide +kernel
theorem dX6_settingNumber_21 : decode cX6_settingNumber 21 = .ok (.ireturn, 1) := by decide +kernel
theorem dX6_itemNumber_0 : decode cX6_itemNumber 0 = .ok (.iload_n 2, 1) := by decide +kernel
theorem dX6_itemNumber_1 : decode cX6_itemNumber 1 = .ok (.tableswitch 77 0 3 #[31, 50, 59, 68], 31) := by decide +kernel
theorem dX6_itemNumber_32 : decode cX6_itemNumber 32 = .ok (.aload_n 0, 1) := by decide +kernel
theorem dX6_itemNumber_33 : decode cX6_itemNumber 33 = .ok (.getfield 10, 3) := by decide +kernel
theorem dX6_itemNumber_36 : decode cX6_itemNumber 36 = .ok (.getfield 113, 3) := by decide +kernel
theorem dX6_itemNumber_39 : decode cX6_itemNumber 39 = .ok (.aload_n 0, 1) := by decide +kernel
theorem dX6_itemNumber_40 : decode cX6_itemNumber 40 = .ok (.getfield 36, 3) := by decide +kernel
theorem dX6_itemNumber_43 : decode cX6_itemNumber 43 = .ok (.iload_n 1, 1) := by decide +kernel
theorem dX6_itemNumber_44 : decode cX6_itemNumber 44 = .ok (.invokevirtual 247, 3) := by decide +kernel
theorem dX6_itemNumber_47 : decode cX6_itemNumber 47 = .ok (.invokevirtual 250, 3) := by decide +kernel
theorem dX6_itemNumber_50 : decode cX6_itemNumber 50 = .ok (.ireturn, 1) := by decide +kernel
theorem dX6_itemNumber_51 : decode cX6_itemNumber 51 = .ok (.aload_n 0, 1) := by decide +kernel
theorem dX6_itemNumber_52 : decode cX6_itemNumber 52 = .ok (.getfield 36, 3) := by decide +kernel
theorem dX6_itemNumber_55 : decode cX6_itemNumber 55 = .ok (.iload_n 1, 1) := by decide +kernel
theorem dX6_itemNumber_56 : decode cX6_itemNumber 56 = .ok (.invokevirtual 330, 3) := by decide +kernel
theorem dX6_itemNumber_59 : decode cX6_itemNumber 59 = .ok (.ireturn, 1) := by decide +kernel
theorem dX6_itemNumber_60 : decode cX6_itemNumber 60 = .ok (.aload_n 0, 1) := by decide +kernel
theorem dX6_itemNumber_61 : decode cX6_itemNumber 61 = .ok (.getfield 36, 3) := by decide +kernel
theorem dX6_itemNumber_64 : decode cX6_itemNumber 64 = .ok (.iload_n 1, 1) := by decide +kernel
theorem dX6_itemNumber_65 : decode cX6_itemNumber 65 = .ok (.invokevirtual 253, 3) := by decide +kernel
theorem dX6_itemNumber_68 : decode cX6_itemNumber 68 = .ok (.ireturn, 1) := by decide +kernel
theorem dX6_itemNumber_69 : decode cX6_itemNumber 69 = .ok (.aload_n 0, 1) := by decide +kernel
theorem dX6_itemNumber_70 : decode cX6_itemNumber 70 = .ok (.getfield 36, 3) := by decide +kernel
theorem dX6_itemNumber_73 : decode cX6_itemNumber 73 = .ok (.iload_n 1, 1) := by decide +kernel
theorem dX6_itemNumber_74 : decode cX6_itemNumber 74 = .ok (.invokevirtual 247, 3) := by decide +kernel
theorem dX6_itemNumber_77 : decode cX6_itemNumber 77 = .ok (.ireturn, 1) := by decide +kernel
theorem dX6_itemNumber_78 : decode cX6_itemNumber 78 = .ok (.aload_n 0, 1) := by decide +kernel
theorem dX6_itemNumber_79 : decode cX6_itemNumber 79 = .ok (.getfield 10, 3) := by decide +kernel
theorem dX6_itemNumber_82 : decode cX6_itemNumber 82 = .ok (.getfield 113, 3) := by decide +kernel
theorem dX6_itemNumber_85 : decode cX6_itemNumber 85 = .ok (.aload_n 0, 1) := by decide +kernel
theorem dX6_itemNumber_86 : decode cX6_itemNumber 86 = .ok (.iload_n 1, 1) := by decide +kernel
theorem dX6_itemNumber_87 : decode cX6_itemNumber 87 = .ok (.invokevirtual 125, 3) := by decide +kernel
theorem dX6_itemNumber_90 : decode cX6_itemNumber 90 = .ok (.invokevirtual 342, 3) := by decide +kernel
theorem dX6_itemNumber_93 : decode cX6_itemNumber 93 = .ok (.ireturn, 1) := by decide +kernel
theorem dX6_entryNumber_0 : decode cX6_entryNumber 0 = .ok (.aload_n 0, 1) := by decide +kernel
theorem dX6_entryNumber_1 : decode cX6_entryNumber 1 = .ok (.getfield 10, 3) := by decide +kernel
theorem dX6_entryNumber_4 : decode cX6_entryNumber 4 = .ok (.getfield 113, 3) := by decide +kernel
theorem dX6_entryNumber_7 : decode cX6_entryNumber 7 = .ok (.iload_n 1, 1) := by decide +kernel
theorem dX6_entryNumber_8 : decode cX6_entryNumber 8 = .ok (.invokevirtual 129, 3) := by decide +kernel
theorem dX6_entryNumber_11 : decode cX6_entryNumber 11 = .ok (.lstore_n 3, 1) := by decide +kernel
theorem dX6_entryNumber_12 : decode cX6_entryNumber 12 = .ok (.iload_n 2, 1) := by decide +kernel
theorem dX6_entryNumber_13 : decode cX6_entryNumber 13 = .ok (.tableswitch 119 0 9 #[55, 67, 119, 119, 119, 119, 72, 84, 105, 114], 55) := by decide +kernel
theorem dX6_entryNumber_68 : decode cX6_entryNumber 68 = .ok (.aload_n 0, 1) := by decide +kernel
theorem dX6_entryNumber_69 : decode cX6_entryNumber 69 = .ok (.getfield 10, 3) := by decide +kernel
theorem dX6_entryNumber_72 : decode cX6_entryNumber 72 = .ok (.getfield 113, 3) := by decide +kernel
theorem dX6_entryNumber_75 : decode cX6_entryNumber 75 = .ok (.iload_n 1, 1) := by decide +kernel
theorem dX6_entryNumber_76 : decode cX6_entryNumber 76 = .ok (.invokevirtual 250, 3) := by decide +kernel
theorem dX6_entryNumber_79 : decode cX6_entryNumber 79 = .ok (.ireturn, 1) := by decide +kernel
theorem dX6_entryNumber_80 : decode cX6_entryNumber 80 = .ok (.lload_n 3, 1) := by decide +kernel
theorem dX6_entryNumber_81 : decode cX6_entryNumber 81 = .ok (.invokestatic 346, 3) := by decide +kernel
theorem dX6_entryNumber_84 : decode cX6_entryNumber 84 = .ok (.ireturn, 1) := by decide +kernel
theorem dX6_entryNumber_85 : decode cX6_entryNumber 85 = .ok (.aload_n 0, 1) := by decide +kernel
theorem dX6_entryNumber_86 : decode cX6_entryNumber 86 = .ok (.getfield 10, 3) := by decide +kernel
theorem dX6_entryNumber_89 : decode cX6_entryNumber 89 = .ok (.getfield 113, 3) := by decide +kernel
theorem dX6_entryNumber_92 : decode cX6_entryNumber 92 = .ok (.iload_n 1, 1) := by decide +kernel
theorem dX6_entryNumber_93 : decode cX6_entryNumber 93 = .ok (.invokevirtual 137, 3) := by decide +kernel
theorem dX6_entryNumber_96 : decode cX6_entryNumber 96 = .ok (.ireturn, 1) := by decide +kernel
theorem dX6_entryNumber_97 : decode cX6_entryNumber 97 = .ok (.aload_n 0, 1) := by decide +kernel
theorem dX6_entryNumber_98 : decode cX6_entryNumber 98 = .ok (.getfield 10, 3) := by decide +kernel
theorem dX6_entryNumber_101 : decode cX6_entryNumber 101 = .ok (.getfield 113, 3) := by decide +kernel
theorem dX6_entryNumber_104 : decode cX6_entryNumber 104 = .ok (.lload_n 3, 1) := by decide +kernel
theorem dX6_entryNumber_105 : decode cX6_entryNumber 105 = .ok (.invokevirtual 349, 3) := by decide +kernel
theorem dX6_entryNumber_108 : decode cX6_entryNumber 108 = .ok (.iload_n 1, 1) := by decide +kernel
theorem dX6_entryNumber_109 : decode cX6_entryNumber 109 = .ok (.if_icmp .ne 7, 3) := by decide +kernel
theorem dX6_entryNumber_112 : decode cX6_entryNumber 112 = .ok (.iconst 1, 1) := by decide +kernel
theorem dX6_entryNumber_113 : decode cX6_entryNumber 113 = .ok (.goto 4, 3) := by decide +kernel
theorem dX6_entryNumber_116 : decode cX6_entryNumber 116 = .ok (.iconst 0, 1) := by decide +kernel
theorem dX6_entryNumber_117 : decode cX6_entryNumber 117 = .ok (.ireturn, 1) := by decide +kernel
theorem dX6_entryNumber_118 : decode cX6_entryNumber 118 = .ok (.aload_n 0, 1) := by decide +kernel
theorem dX6_entryNumber_119 : decode cX6_entryNumber 119 = .ok (.getfield 36, 3) := by decide +kernel
theorem dX6_entryNumber_122 : decode cX6_entryNumber 122 = .ok (.iload_n 1, 1) := by decide +kernel
theorem dX6_entryNumber_123 : decode cX6_entryNumber 123 = .ok (.invokevirtual 352, 3) := by decide +kernel
theorem dX6_entryNumber_126 : decode cX6_entryNumber 126 = .ok (.ireturn, 1) := by decide +kernel
theorem dX6_entryNumber_127 : decode cX6_entryNumber 127 = .ok (.lload_n 3, 1) := by decide +kernel
theorem dX6_entryNumber_128 : decode cX6_entryNumber 128 = .ok (.invokestatic 355, 3) := by decide +kernel
theorem dX6_entryNumber_131 : decode cX6_entryNumber 131 = .ok (.ireturn, 1) := by decide +kernel
theorem dX6_entryNumber_132 : decode cX6_entryNumber 132 = .ok (.lload_n 3, 1) := by decide +kernel
theorem dX6_entryNumber_133 : decode cX6_entryNumber 133 = .ok (.iload_n 2, 1) := by decide +kernel
theorem dX6_entryNumber_134 : decode cX6_entryNumber 134 = .ok (.iconst 2, 1) := by decide +kernel
theorem dX6_entryNumber_135 : decode cX6_entryNumber 135 = .ok (.isub, 1) := by decide +kernel
theorem dX6_entryNumber_136 : decode cX6_entryNumber 136 = .ok (.invokestatic 339, 3) := by decide +kernel
theorem dX6_entryNumber_139 : decode cX6_entryNumber 139 = .ok (.istore 5, 2) := by decide +kernel
theorem dX6_entryNumber_141 : decode cX6_entryNumber 141 = .ok (.iload 5, 2) := by decide +kernel
theorem dX6_entryNumber_143 : decode cX6_entryNumber 143 = .ok (.ifCond .ne 7, 3) := by decide +kernel
theorem dX6_entryNumber_146 : decode cX6_entryNumber 146 = .ok (.iconst (-1), 1) := by decide +kernel
theorem dX6_entryNumber_147 : decode cX6_entryNumber 147 = .ok (.goto 5, 3) := by decide +kernel
theorem dX6_entryNumber_150 : decode cX6_entryNumber 150 = .ok (.iload 5, 2) := by decide +kernel
theorem dX6_entryNumber_152 : decode cX6_entryNumber 152 = .ok (.ireturn, 1) := by decide +kernel
theorem dX6_countNumber_0 : decode cX6_countNumber 0 = .ok (.iload_n 1, 1) := by decide +kernel
theorem dX6_countNumber_1 : decode cX6_countNumber 1 = .ok (.tableswitch 123 0 8 #[51, 62, 67, 75, 80, 91, 99, 107, 115], 51) := by decide +kernel
theorem dX6_countNumber_52 : decode cX6_countNumber 52 = .ok (.aload_n 0, 1) := by decide +kernel
theorem dX6_countNumber_53 : decode cX6_countNumber 53 = .ok (.getfield 10, 3) := by decide +kernel
theorem dX6_countNumber_56 : decode cX6_countNumber 56 = .ok (.getfield 104, 3) := by decide +kernel
theorem dX6_countNumber_59 : decode cX6_countNumber 59 = .ok (.invokevirtual 94, 3) := by decide +kernel
theorem dX6_countNumber_62 : decode cX6_countNumber 62 = .ok (.ireturn, 1) := by decide +kernel
theorem dX6_countNumber_63 : decode cX6_countNumber 63 = .ok (.aload_n 0, 1) := by decide +kernel
theorem dX6_countNumber_64 : decode cX6_countNumber 64 = .ok (.invokevirtual 359, 3) := by decide +kernel
theorem dX6_countNumber_67 : decode cX6_countNumber 67 = .ok (.ireturn, 1) := by decide +kernel
theorem dX6_countNumber_68 : decode cX6_countNumber 68 = .ok (.aload_n 0, 1) := by decide +kernel
theorem dX6_countNumber_69 : decode cX6_countNumber 69 = .ok (.getfield 36, 3) := by decide +kernel
theorem dX6_countNumber_72 : decode cX6_countNumber 72 = .ok (.invokevirtual 84, 3) := by decide +kernel
theorem dX6_countNumber_75 : decode cX6_countNumber 75 = .ok (.ireturn, 1) := by decide +kernel
theorem dX6_countNumber_76 : decode cX6_countNumber 76 = .ok (.aload_n 0, 1) := by decide +kernel
theorem dX6_countNumber_77 : decode cX6_countNumber 77 = .ok (.invokevirtual 274, 3) := by decide +kernel
theorem dX6_countNumber_80 : decode cX6_countNumber 80 = .ok (.ireturn, 1) := by decide +kernel
theorem dX6_countNumber_81 : decode cX6_countNumber 81 = .ok (.aload_n 0, 1) := by decide +kernel
theorem dX6_countNumber_82 : decode cX6_countNumber 82 = .ok (.getfield 10, 3) := by decide +kernel
theorem dX6_countNumber_85 : decode cX6_countNumber 85 = .ok (.getfield 113, 3) := by decide +kernel
theorem dX6_countNumber_88 : decode cX6_countNumber 88 = .ok (.invokevirtual 165, 3) := by decide +kernel
theorem dX6_countNumber_91 : decode cX6_countNumber 91 = .ok (.ireturn, 1) := by decide +kernel
theorem dX6_countNumber_92 : decode cX6_countNumber 92 = .ok (.aload_n 0, 1) := by decide +kernel
theorem dX6_countNumber_93 : decode cX6_countNumber 93 = .ok (.getfield 10, 3) := by decide +kernel
theorem dX6_countNumber_96 : decode cX6_countNumber 96 = .ok (.getfield 277, 3) := by decide +kernel
theorem dX6_countNumber_99 : decode cX6_countNumber 99 = .ok (.ireturn, 1) := by decide +kernel
theorem dX6_countNumber_100 : decode cX6_countNumber 100 = .ok (.aload_n 0, 1) := by decide +kernel
theorem dX6_countNumber_101 : decode cX6_countNumber 101 = .ok (.getfield 10, 3) := by decide +kernel
theorem dX6_countNumber_104 : decode cX6_countNumber 104 = .ok (.getfield 333, 3) := by decide +kernel
theorem dX6_countNumber_107 : decode cX6_countNumber 107 = .ok (.ireturn, 1) := by decide +kernel
theorem dX6_countNumber_108 : decode cX6_countNumber 108 = .ok (.aload_n 0, 1) := by decide +kernel
theorem dX6_countNumber_109 : decode cX6_countNumber 109 = .ok (.getfield 10, 3) := by decide +kernel
theorem dX6_countNumber_112 : decode cX6_countNumber 112 = .ok (.getfield 336, 3) := by decide +kernel
theorem dX6_countNumber_115 : decode cX6_countNumber 115 = .ok (.ireturn, 1) := by decide +kernel
theorem dX6_countNumber_116 : decode cX6_countNumber 116 = .ok (.aload_n 0, 1) := by decide +kernel
theorem dX6_countNumber_117 : decode cX6_countNumber 117 = .ok (.getfield 10, 3) := by decide +kernel
theorem dX6_countNumber_120 : decode cX6_countNumber 120 = .ok (.getfield 280, 3) := by decide +kernel
theorem dX6_countNumber_123 : decode cX6_countNumber 123 = .ok (.ireturn, 1) := by decide +kernel
theorem dX6_countNumber_124 : decode cX6_countNumber 124 = .ok (.aload_n 0, 1) := by decide +kernel
theorem dX6_countNumber_125 : decode cX6_countNumber 125 = .ok (.getfield 22, 3) := by decide +kernel
theorem dX6_countNumber_128 : decode cX6_countNumber 128 = .ok (.invokevirtual 209, 3) := by decide +kernel
theorem dX6_countNumber_131 : decode cX6_countNumber 131 = .ok (.ireturn, 1) := by decide +kernel
theorem dX6_itemsStrokeByStroke_0 : decode cX6_itemsStrokeByStroke 0 = .ok (.aload_n 0, 1) := by decide +kernel
theorem dX6_itemsStrokeByStroke_1 : decode cX6_itemsStrokeByStroke 1 = .ok (.getfield 45, 3) := by decide +kernel
theorem dX6_itemsStrokeByStroke_4 : decode cX6_itemsStrokeByStroke 4 = .ok (.iconst 0, 1) := by decide +kernel
theorem dX6_itemsStrokeByStroke_5 : decode cX6_itemsStrokeByStroke 5 = .ok (.invokevirtual 107, 3) := by decide +kernel
theorem dX6_itemsStrokeByStroke_8 : decode cX6_itemsStrokeByStroke 8 = .ok (.aload_n 0, 1) := by decide +kernel
theorem dX6_itemsStrokeByStroke_9 : decode cX6_itemsStrokeByStroke 9 = .ok (.getfield 49, 3) := by decide +kernel
theorem dX6_itemsStrokeByStroke_12 : decode cX6_itemsStrokeByStroke 12 = .ok (.iconst 0, 1) := by decide +kernel
theorem dX6_itemsStrokeByStroke_13 : decode cX6_itemsStrokeByStroke 13 = .ok (.invokevirtual 240, 3) := by decide +kernel
theorem dX6_itemsStrokeByStroke_16 : decode cX6_itemsStrokeByStroke 16 = .ok (.iconst 0, 1) := by decide +kernel
theorem dX6_itemsStrokeByStroke_17 : decode cX6_itemsStrokeByStroke 17 = .ok (.istore_n 1, 1) := by decide +kernel
theorem dX6_itemsStrokeByStroke_18 : decode cX6_itemsStrokeByStroke 18 = .ok (.iload_n 1, 1) := by decide +kernel
theorem dX6_itemsStrokeByStroke_19 : decode cX6_itemsStrokeByStroke 19 = .ok (.aload_n 0, 1) := by decide +kernel
theorem dX6_itemsStrokeByStroke_20 : decode cX6_itemsStrokeByStroke 20 = .ok (.getfield 10, 3) := by decide +kernel
theorem dX6_itemsStrokeByStroke_23 : decode cX6_itemsStrokeByStroke 23 = .ok (.getfield 104, 3) := by decide +kernel
theorem dX6_itemsStrokeByStroke_26 : decode cX6_itemsStrokeByStroke 26 = .ok (.invokevirtual 94, 3) := by decide +kernel
theorem dX6_itemsStrokeByStroke_29 : decode cX6_itemsStrokeByStroke 29 = .ok (.if_icmp .ge 52, 3) := by decide +kernel
theorem dX6_itemsStrokeByStroke_32 : decode cX6_itemsStrokeByStroke 32 = .ok (.aload_n 0, 1) := by decide +kernel
theorem dX6_itemsStrokeByStroke_33 : decode cX6_itemsStrokeByStroke 33 = .ok (.getfield 45, 3) := by decide +kernel
theorem dX6_itemsStrokeByStroke_36 : decode cX6_itemsStrokeByStroke 36 = .ok (.aload_n 0, 1) := by decide +kernel
theorem dX6_itemsStrokeByStroke_37 : decode cX6_itemsStrokeByStroke 37 = .ok (.getfield 10, 3) := by decide +kernel
theorem dX6_itemsStrokeByStroke_40 : decode cX6_itemsStrokeByStroke 40 = .ok (.getfield 104, 3) := by decide +kernel
theorem dX6_itemsStrokeByStroke_43 : decode cX6_itemsStrokeByStroke 43 = .ok (.iload_n 1, 1) := by decide +kernel
theorem dX6_itemsStrokeByStroke_44 : decode cX6_itemsStrokeByStroke 44 = .ok (.invokevirtual 97, 3) := by decide +kernel
theorem dX6_itemsStrokeByStroke_47 : decode cX6_itemsStrokeByStroke 47 = .ok (.invokevirtual 239, 3) := by decide +kernel
theorem dX6_itemsStrokeByStroke_50 : decode cX6_itemsStrokeByStroke 50 = .ok (.aload_n 0, 1) := by decide +kernel
theorem dX6_itemsStrokeByStroke_51 : decode cX6_itemsStrokeByStroke 51 = .ok (.getfield 49, 3) := by decide +kernel
theorem dX6_itemsStrokeByStroke_54 : decode cX6_itemsStrokeByStroke 54 = .ok (.iload_n 1, 1) := by decide +kernel
theorem dX6_itemsStrokeByStroke_55 : decode cX6_itemsStrokeByStroke 55 = .ok (.iconst 3, 1) := by decide +kernel
theorem dX6_itemsStrokeByStroke_56 : decode cX6_itemsStrokeByStroke 56 = .ok (.isub, 1) := by decide +kernel
theorem dX6_itemsStrokeByStroke_57 : decode cX6_itemsStrokeByStroke 57 = .ok (.invokevirtual 240, 3) := by decide +kernel
theorem dX6_itemsStrokeByStroke_60 : decode cX6_itemsStrokeByStroke 60 = .ok (.aload_n 0, 1) := by decide +kernel
theorem dX6_itemsStrokeByStroke_61 : decode cX6_itemsStrokeByStroke 61 = .ok (.getfield 49, 3) := by decide +kernel
theorem dX6_itemsStrokeByStroke_64 : decode cX6_itemsStrokeByStroke 64 = .ok (.aload_n 0, 1) := by decide +kernel
theorem dX6_itemsStrokeByStroke_65 : decode cX6_itemsStrokeByStroke 65 = .ok (.getfield 45, 3) := by decide +kernel
theorem dX6_itemsStrokeByStroke_68 : decode cX6_itemsStrokeByStroke 68 = .ok (.aload_n 0, 1) := by decide +kernel
theorem dX6_itemsStrokeByStroke_69 : decode cX6_itemsStrokeByStroke 69 = .ok (.getfield 10, 3) := by decide +kernel
theorem dX6_itemsStrokeByStroke_72 : decode cX6_itemsStrokeByStroke 72 = .ok (.invokevirtual 243, 3) := by decide +kernel
theorem dX6_itemsStrokeByStroke_75 : decode cX6_itemsStrokeByStroke 75 = .ok (.iinc 1 1, 3) := by decide +kernel
theorem dX6_itemsStrokeByStroke_78 : decode cX6_itemsStrokeByStroke 78 = .ok (.goto (-60), 3) := by decide +kernel
theorem dX6_itemsStrokeByStroke_81 : decode cX6_itemsStrokeByStroke 81 = .ok (.aload_n 0, 1) := by decide +kernel
theorem dX6_itemsStrokeByStroke_82 : decode cX6_itemsStrokeByStroke 82 = .ok (.getfield 49, 3) := by decide +kernel
theorem dX6_itemsStrokeByStroke_85 : decode cX6_itemsStrokeByStroke 85 = .ok (.invokevirtual 84, 3) := by decide +kernel
theorem dX6_itemsStrokeByStroke_88 : decode cX6_itemsStrokeByStroke 88 = .ok (.ireturn, 1) := by decide +kernel
theorem dX6_rawItems_0 : decode cX6_rawItems 0 = .ok (.aload_n 0, 1) := by decide +kernel
theorem dX6_rawItems_1 : decode cX6_rawItems 1 = .ok (.getfield 36, 3) := by decide +kernel
theorem dX6_rawItems_4 : decode cX6_rawItems 4 = .ok (.iconst (-1), 1) := by decide +kernel
theorem dX6_rawItems_5 : decode cX6_rawItems 5 = .ok (.invokevirtual 352, 3) := by decide +kernel
theorem dX6_rawItems_8 : decode cX6_rawItems 8 = .ok (.ireturn, 1) := by decide +kernel
theorem dX6_canTell_0 : decode cX6_canTell 0 = .ok (.aload_n 0, 1) := by decide +kernel
theorem dX6_canTell_1 : decode cX6_canTell 1 = .ok (.getfield 10, 3) := by decide +kernel
theorem dX6_canTell_4 : decode cX6_canTell 4 = .ok (.getfield 113, 3) := by decide +kernel
theorem dX6_canTell_7 : decode cX6_canTell 7 = .ok (.iload_n 1, 1) := by decide +kernel
theorem dX6_canTell_8 : decode cX6_canTell 8 = .ok (.invokevirtual 129, 3) := by decide +kernel
theorem dX6_canTell_11 : decode cX6_canTell 11 = .ok (.lstore_n 3, 1) := by decide +kernel
theorem dX6_canTell_12 : decode cX6_canTell 12 = .ok (.aload_n 0, 1) := by decide +kernel
theorem dX6_canTell_13 : decode cX6_canTell 13 = .ok (.getfield 10, 3) := by decide +kernel
theorem dX6_canTell_16 : decode cX6_canTell 16 = .ok (.getfield 113, 3) := by decide +kernel
theorem dX6_canTell_19 : decode cX6_canTell 19 = .ok (.iload_n 1, 1) := by decide +kernel
theorem dX6_canTell_20 : decode cX6_canTell 20 = .ok (.invokevirtual 250, 3) := by decide +kernel
theorem dX6_canTell_23 : decode cX6_canTell 23 = .ok (.iload_n 2, 1) := by decide +kernel
theorem dX6_canTell_24 : decode cX6_canTell 24 = .ok (.if_icmp .ne 36, 3) := by decide +kernel
theorem dX6_canTell_27 : decode cX6_canTell 27 = .ok (.lload_n 3, 1) := by decide +kernel
theorem dX6_canTell_28 : decode cX6_canTell 28 = .ok (.invokestatic 346, 3) := by decide +kernel
theorem dX6_canTell_31 : decode cX6_canTell 31 = .ok (.aload_n 0, 1) := by decide +kernel
theorem dX6_canTell_32 : decode cX6_canTell 32 = .ok (.getfield 10, 3) := by decide +kernel
theorem dX6_canTell_35 : decode cX6_canTell 35 = .ok (.getfield 186, 3) := by decide +kernel
theorem dX6_canTell_38 : decode cX6_canTell 38 = .ok (.if_icmp .gt 22, 3) := by decide +kernel
theorem dX6_canTell_41 : decode cX6_canTell 41 = .ok (.aload_n 0, 1) := by decide +kernel
theorem dX6_canTell_42 : decode cX6_canTell 42 = .ok (.getfield 10, 3) := by decide +kernel
theorem dX6_canTell_45 : decode cX6_canTell 45 = .ok (.getfield 113, 3) := by decide +kernel
theorem dX6_canTell_48 : decode cX6_canTell 48 = .ok (.lload_n 3, 1) := by decide +kernel
theorem dX6_canTell_49 : decode cX6_canTell 49 = .ok (.invokevirtual 349, 3) := by decide +kernel
theorem dX6_canTell_52 : decode cX6_canTell 52 = .ok (.iload_n 1, 1) := by decide +kernel
theorem dX6_canTell_53 : decode cX6_canTell 53 = .ok (.if_icmp .ne 7, 3) := by decide +kernel
theorem dX6_canTell_56 : decode cX6_canTell 56 = .ok (.iconst 1, 1) := by decide +kernel
theorem dX6_canTell_57 : decode cX6_canTell 57 = .ok (.goto 4, 3) := by decide +kernel
theorem dX6_canTell_60 : decode cX6_canTell 60 = .ok (.iconst 0, 1) := by decide +kernel
theorem dX6_canTell_61 : decode cX6_canTell 61 = .ok (.ireturn, 1) := by decide +kernel
theorem dX6_isShorter_0 : decode cX6_isShorter 0 = .ok (.aload_n 0, 1) := by decide +kernel
theorem dX6_isShorter_1 : decode cX6_isShorter 1 = .ok (.getfield 10, 3) := by decide +kernel
theorem dX6_isShorter_4 : decode cX6_isShorter 4 = .ok (.getfield 113, 3) := by decide +kernel
theorem dX6_isShorter_7 : decode cX6_isShorter 7 = .ok (.iload_n 1, 1) := by decide +kernel
theorem dX6_isShorter_8 : decode cX6_isShorter 8 = .ok (.invokevirtual 129, 3) := by decide +kernel
theorem dX6_isShorter_11 : decode cX6_isShorter 11 = .ok (.lstore_n 3, 1) := by decide +kernel
theorem dX6_isShorter_12 : decode cX6_isShorter 12 = .ok (.aload_n 0, 1) := by decide +kernel
theorem dX6_isShorter_13 : decode cX6_isShorter 13 = .ok (.getfield 10, 3) := by decide +kernel
theorem dX6_isShorter_16 : decode cX6_isShorter 16 = .ok (.getfield 113, 3) := by decide +kernel
theorem dX6_isShorter_19 : decode cX6_isShorter 19 = .ok (.iload_n 2, 1) := by decide +kernel
theorem dX6_isShorter_20 : decode cX6_isShorter 20 = .ok (.invokevirtual 129, 3) := by decide +kernel
theorem dX6_isShorter_23 : decode cX6_isShorter 23 = .ok (.lstore 5, 2) := by decide +kernel
theorem dX6_isShorter_25 : decode cX6_isShorter 25 = .ok (.lload_n 3, 1) := by decide +kernel
theorem dX6_isShorter_26 : decode cX6_isShorter 26 = .ok (.invokestatic 346, 3) := by decide +kernel
theorem dX6_isShorter_29 : decode cX6_isShorter 29 = .ok (.istore 7, 2) := by decide +kernel
theorem dX6_isShorter_31 : decode cX6_isShorter 31 = .ok (.lload 5, 2) := by decide +kernel
theorem dX6_isShorter_33 : decode cX6_isShorter 33 = .ok (.invokestatic 346, 3) := by decide +kernel
theorem dX6_isShorter_36 : decode cX6_isShorter 36 = .ok (.istore 8, 2) := by decide +kernel
theorem dX6_isShorter_38 : decode cX6_isShorter 38 = .ok (.iload 7, 2) := by decide +kernel
theorem dX6_isShorter_40 : decode cX6_isShorter 40 = .ok (.iload 8, 2) := by decide +kernel
theorem dX6_isShorter_42 : decode cX6_isShorter 42 = .ok (.if_icmp .eq 16, 3) := by decide +kernel
theorem dX6_isShorter_45 : decode cX6_isShorter 45 = .ok (.iload 7, 2) := by decide +kernel
theorem dX6_isShorter_47 : decode cX6_isShorter 47 = .ok (.iload 8, 2) := by decide +kernel
theorem dX6_isShorter_49 : decode cX6_isShorter 49 = .ok (.if_icmp .ge 7, 3) := by decide +kernel
theorem dX6_isShorter_52 : decode cX6_isShorter 52 = .ok (.iconst 1, 1) := by decide +kernel
theorem dX6_isShorter_53 : decode cX6_isShorter 53 = .ok (.goto 4, 3) := by decide +kernel
theorem dX6_isShorter_56 : decode cX6_isShorter 56 = .ok (.iconst 0, 1) := by decide +kernel
theorem dX6_isShorter_57 : decode cX6_isShorter 57 = .ok (.ireturn, 1) := by decide +kernel
theorem dX6_isShorter_58 : decode cX6_isShorter 58 = .ok (.lload_n 3, 1) := by decide +kernel
theorem dX6_isShorter_59 : decode cX6_isShorter 59 = .ok (.invokestatic 355, 3) := by decide +kernel
theorem dX6_isShorter_62 : decode cX6_isShorter 62 = .ok (.lload 5, 2) := by decide +kernel
theorem dX6_isShorter_64 : decode cX6_isShorter 64 = .ok (.invokestatic 355, 3) := by decide +kernel
theorem dX6_isShorter_67 : decode cX6_isShorter 67 = .ok (.if_icmp .ge 7, 3) := by decide +kernel
theorem dX6_isShorter_70 : decode cX6_isShorter 70 = .ok (.iconst 1, 1) := by decide +kernel
theorem dX6_isShorter_71 : decode cX6_isShorter 71 = .ok (.goto 4, 3) := by decide +kernel
theorem dX6_isShorter_74 : decode cX6_isShorter 74 = .ok (.iconst 0, 1) := by decide +kernel
theorem dX6_isShorter_75 : decode cX6_isShorter 75 = .ok (.ireturn, 1) := by decide +kernel
theorem dX6_readBehind_0 : decode cX6_readBehind 0 = .ok (.aload_n 0, 1) := by decide +kernel
theorem dX6_readBehind_1 : decode cX6_readBehind 1 = .ok (.getfield 45, 3) := by decide +kernel
theorem dX6_readBehind_4 : decode cX6_readBehind 4 = .ok (.iconst 0, 1) := by decide +kernel
theorem dX6_readBehind_5 : decode cX6_readBehind 5 = .ok (.invokevirtual 107, 3) := by decide +kernel
theorem dX6_readBehind_8 : decode cX6_readBehind 8 = .ok (.aload_n 0, 1) := by decide +kernel
theorem dX6_readBehind_9 : decode cX6_readBehind 9 = .ok (.aload_n 0, 1) := by decide +kernel
theorem dX6_readBehind_10 : decode cX6_readBehind 10 = .ok (.getfield 10, 3) := by decide +kernel
theorem dX6_readBehind_13 : decode cX6_readBehind 13 = .ok (.getfield 113, 3) := by decide +kernel
theorem dX6_readBehind_16 : decode cX6_readBehind 16 = .ok (.iload_n 1, 1) := by decide +kernel
theorem dX6_readBehind_17 : decode cX6_readBehind 17 = .ok (.invokevirtual 129, 3) := by decide +kernel
theorem dX6_readBehind_20 : decode cX6_readBehind 20 = .ok (.invokevirtual 362, 3) := by decide +kernel
theorem dX6_readBehind_23 : decode cX6_readBehind 23 = .ok (.aload_n 0, 1) := by decide +kernel
theorem dX6_readBehind_24 : decode cX6_readBehind 24 = .ok (.getfield 45, 3) := by decide +kernel
theorem dX6_readBehind_27 : decode cX6_readBehind 27 = .ok (.invokevirtual 94, 3) := by decide +kernel
theorem dX6_readBehind_30 : decode cX6_readBehind 30 = .ok (.istore_n 3, 1) := by decide +kernel
theorem dX6_readBehind_31 : decode cX6_readBehind 31 = .ok (.aload_n 0, 1) := by decide +kernel
theorem dX6_readBehind_32 : decode cX6_readBehind 32 = .ok (.aload_n 0, 1) := by decide +kernel
theorem dX6_readBehind_33 : decode cX6_readBehind 33 = .ok (.getfield 10, 3) := by decide +kernel
theorem dX6_readBehind_36 : decode cX6_readBehind 36 = .ok (.getfield 113, 3) := by decide +kernel
theorem dX6_readBehind_39 : decode cX6_readBehind 39 = .ok (.iload_n 2, 1) := by decide +kernel
theorem dX6_readBehind_40 : decode cX6_readBehind 40 = .ok (.invokevirtual 129, 3) := by decide +kernel
theorem dX6_readBehind_43 : decode cX6_readBehind 43 = .ok (.invokevirtual 362, 3) := by decide +kernel
theorem dX6_readBehind_46 : decode cX6_readBehind 46 = .ok (.aload_n 0, 1) := by decide +kernel
theorem dX6_readBehind_47 : decode cX6_readBehind 47 = .ok (.getfield 45, 3) := by decide +kernel
theorem dX6_readBehind_50 : decode cX6_readBehind 50 = .ok (.invokevirtual 94, 3) := by decide +kernel
theorem dX6_readBehind_53 : decode cX6_readBehind 53 = .ok (.istore 4, 2) := by decide +kernel
theorem dX6_readBehind_55 : decode cX6_readBehind 55 = .ok (.aload_n 0, 1) := by decide +kernel
theorem dX6_readBehind_56 : decode cX6_readBehind 56 = .ok (.getfield 10, 3) := by decide +kernel
theorem dX6_readBehind_59 : decode cX6_readBehind 59 = .ok (.getfield 113, 3) := by decide +kernel
theorem dX6_readBehind_62 : decode cX6_readBehind 62 = .ok (.aload_n 0, 1) := by decide +kernel
theorem dX6_readBehind_63 : decode cX6_readBehind 63 = .ok (.getfield 45, 3) := by decide +kernel
theorem dX6_readBehind_66 : decode cX6_readBehind 66 = .ok (.iconst 0, 1) := by decide +kernel
theorem dX6_readBehind_67 : decode cX6_readBehind 67 = .ok (.aload_n 0, 1) := by decide +kernel
theorem dX6_readBehind_68 : decode cX6_readBehind 68 = .ok (.getfield 10, 3) := by decide +kernel
theorem dX6_readBehind_71 : decode cX6_readBehind 71 = .ok (.getfield 186, 3) := by decide +kernel
theorem dX6_readBehind_74 : decode cX6_readBehind 74 = .ok (.invokevirtual 366, 3) := by decide +kernel
theorem dX6_readBehind_77 : decode cX6_readBehind 77 = .ok (.istore 5, 2) := by decide +kernel
theorem dX6_readBehind_79 : decode cX6_readBehind 79 = .ok (.iload 5, 2) := by decide +kernel
theorem dX6_readBehind_81 : decode cX6_readBehind 81 = .ok (.iload 4, 2) := by decide +kernel
theorem dX6_readBehind_83 : decode cX6_readBehind 83 = .ok (.if_icmp .ne 5, 3) := by decide +kernel
theorem dX6_readBehind_86 : decode cX6_readBehind 86 = .ok (.iconst 1, 1) := by decide +kernel
theorem dX6_readBehind_87 : decode cX6_readBehind 87 = .ok (.ireturn, 1) := by decide +kernel
theorem dX6_readBehind_88 : decode cX6_readBehind 88 = .ok (.iload 5, 2) := by decide +kernel
theorem dX6_readBehind_90 : decode cX6_readBehind 90 = .ok (.iload_n 3, 1) := by decide +kernel
theorem dX6_readBehind_91 : decode cX6_readBehind 91 = .ok (.if_icmp .eq 5, 3) := by decide +kernel
theorem dX6_readBehind_94 : decode cX6_readBehind 94 = .ok (.iconst 2, 1) := by decide +kernel
theorem dX6_readBehind_95 : decode cX6_readBehind 95 = .ok (.ireturn, 1) := by decide +kernel
theorem dX6_readBehind_96 : decode cX6_readBehind 96 = .ok (.aload_n 0, 1) := by decide +kernel
theorem dX6_readBehind_97 : decode cX6_readBehind 97 = .ok (.getfield 10, 3) := by decide +kernel
theorem dX6_readBehind_100 : decode cX6_readBehind 100 = .ok (.getfield 113, 3) := by decide +kernel
theorem dX6_readBehind_103 : decode cX6_readBehind 103 = .ok (.aload_n 0, 1) := by decide +kernel
theorem dX6_readBehind_104 : decode cX6_readBehind 104 = .ok (.getfield 45, 3) := by decide +kernel
theorem dX6_readBehind_107 : decode cX6_readBehind 107 = .ok (.iload_n 3, 1) := by decide +kernel
theorem dX6_readBehind_108 : decode cX6_readBehind 108 = .ok (.aload_n 0, 1) := by decide +kernel
theorem dX6_readBehind_109 : decode cX6_readBehind 109 = .ok (.getfield 10, 3) := by decide +kernel
theorem dX6_readBehind_112 : decode cX6_readBehind 112 = .ok (.getfield 186, 3) := by decide +kernel
theorem dX6_readBehind_115 : decode cX6_readBehind 115 = .ok (.invokevirtual 366, 3) := by decide +kernel
theorem dX6_readBehind_118 : decode cX6_readBehind 118 = .ok (.istore 6, 2) := by decide +kernel
theorem dX6_readBehind_120 : decode cX6_readBehind 120 = .ok (.iload 6, 2) := by decide +kernel
theorem dX6_readBehind_122 : decode cX6_readBehind 122 = .ok (.iload 4, 2) := by decide +kernel
theorem dX6_readBehind_124 : decode cX6_readBehind 124 = .ok (.iload_n 3, 1) := by decide +kernel
theorem dX6_readBehind_125 : decode cX6_readBehind 125 = .ok (.isub, 1) := by decide +kernel
theorem dX6_readBehind_126 : decode cX6_readBehind 126 = .ok (.if_icmp .ne 7, 3) := by decide +kernel
theorem dX6_readBehind_129 : decode cX6_readBehind 129 = .ok (.iconst 0, 1) := by decide +kernel
theorem dX6_readBehind_130 : decode cX6_readBehind 130 = .ok (.goto 4, 3) := by decide +kernel
theorem dX6_readBehind_133 : decode cX6_readBehind 133 = .ok (.iconst 2, 1) := by decide +kernel
theorem dX6_readBehind_134 : decode cX6_readBehind 134 = .ok (.ireturn, 1) := by decide +kernel
theorem dX6_putRow_0 : decode cX6_putRow 0 = .ok (.lload_n 1, 1) := by decide +kernel
theorem dX6_putRow_1 : decode cX6_putRow 1 = .ok (.invokestatic 346, 3) := by decide +kernel
theorem dX6_putRow_4 : decode cX6_putRow 4 = .ok (.istore_n 3, 1) := by decide +kernel
theorem dX6_putRow_5 : decode cX6_putRow 5 = .ok (.iconst 0, 1) := by decide +kernel
theorem dX6_putRow_6 : decode cX6_putRow 6 = .ok (.istore 4, 2) := by decide +kernel
theorem dX6_putRow_8 : decode cX6_putRow 8 = .ok (.iload 4, 2) := by decide +kernel
theorem dX6_putRow_10 : decode cX6_putRow 10 = .ok (.iload_n 3, 1) := by decide +kernel
theorem dX6_putRow_11 : decode cX6_putRow 11 = .ok (.if_icmp .ge 22, 3) := by decide +kernel
theorem dX6_putRow_14 : decode cX6_putRow 14 = .ok (.aload_n 0, 1) := by decide +kernel
theorem dX6_putRow_15 : decode cX6_putRow 15 = .ok (.getfield 45, 3) := by decide +kernel
theorem dX6_putRow_18 : decode cX6_putRow 18 = .ok (.lload_n 1, 1) := by decide +kernel
theorem dX6_putRow_19 : decode cX6_putRow 19 = .ok (.iload 4, 2) := by decide +kernel
theorem dX6_putRow_21 : decode cX6_putRow 21 = .ok (.invokestatic 339, 3) := by decide +kernel
theorem dX6_putRow_24 : decode cX6_putRow 24 = .ok (.invokevirtual 239, 3) := by decide +kernel
theorem dX6_putRow_27 : decode cX6_putRow 27 = .ok (.iinc 4 1, 3) := by decide +kernel
theorem dX6_putRow_30 : decode cX6_putRow 30 = .ok (.goto (-22), 3) := by decide +kernel
theorem dX6_putRow_33 : decode cX6_putRow 33 = .ok (.return_, 1) := by decide +kernel
theorem dX6_fewestUpTo_0 : decode cX6_fewestUpTo 0 = .ok (.aload_n 0, 1) := by decide +kernel
theorem dX6_fewestUpTo_1 : decode cX6_fewestUpTo 1 = .ok (.getfield 55, 3) := by decide +kernel
theorem dX6_fewestUpTo_4 : decode cX6_fewestUpTo 4 = .ok (.iload_n 1, 1) := by decide +kernel
theorem dX6_fewestUpTo_5 : decode cX6_fewestUpTo 5 = .ok (.iconst 1, 1) := by decide +kernel
theorem dX6_fewestUpTo_6 : decode cX6_fewestUpTo 6 = .ok (.isub, 1) := by decide +kernel
theorem dX6_fewestUpTo_7 : decode cX6_fewestUpTo 7 = .ok (.invokevirtual 97, 3) := by decide +kernel
theorem dX6_fewestUpTo_10 : decode cX6_fewestUpTo 10 = .ok (.iconst 1, 1) := by decide +kernel
theorem dX6_fewestUpTo_11 : decode cX6_fewestUpTo 11 = .ok (.iadd, 1) := by decide +kernel
theorem dX6_fewestUpTo_12 : decode cX6_fewestUpTo 12 = .ok (.istore_n 2, 1) := by decide +kernel
theorem dX6_fewestUpTo_13 : decode cX6_fewestUpTo 13 = .ok (.aload_n 0, 1) := by decide +kernel
theorem dX6_fewestUpTo_14 : decode cX6_fewestUpTo 14 = .ok (.getfield 10, 3) := by decide +kernel
theorem dX6_fewestUpTo_17 : decode cX6_fewestUpTo 17 = .ok (.getfield 186, 3) := by decide +kernel
theorem dX6_fewestUpTo_20 : decode cX6_fewestUpTo 20 = .ok (.iload_n 1, 1) := by decide +kernel
theorem dX6_fewestUpTo_21 : decode cX6_fewestUpTo 21 = .ok (.invokestatic 370, 3) := by decide +kernel
theorem dX6_fewestUpTo_24 : decode cX6_fewestUpTo 24 = .ok (.istore_n 3, 1) := by decide +kernel
theorem dX6_fewestUpTo_25 : decode cX6_fewestUpTo 25 = .ok (.iconst 2, 1) := by decide +kernel
theorem dX6_fewestUpTo_26 : decode cX6_fewestUpTo 26 = .ok (.istore 4, 2) := by decide +kernel
theorem dX6_fewestUpTo_28 : decode cX6_fewestUpTo 28 = .ok (.iload 4, 2) := by decide +kernel
theorem dX6_fewestUpTo_30 : decode cX6_fewestUpTo 30 = .ok (.iload_n 3, 1) := by decide +kernel
theorem dX6_fewestUpTo_31 : decode cX6_fewestUpTo 31 = .ok (.if_icmp .gt 59, 3) := by decide +kernel
theorem dX6_fewestUpTo_34 : decode cX6_fewestUpTo 34 = .ok (.iload_n 1, 1) := by decide +kernel
theorem dX6_fewestUpTo_35 : decode cX6_fewestUpTo 35 = .ok (.iload 4, 2) := by decide +kernel
theorem dX6_fewestUpTo_37 : decode cX6_fewestUpTo 37 = .ok (.isub, 1) := by decide +kernel
theorem dX6_fewestUpTo_38 : decode cX6_fewestUpTo 38 = .ok (.istore 5, 2) := by decide +kernel
theorem dX6_fewestUpTo_40 : decode cX6_fewestUpTo 40 = .ok (.aload_n 0, 1) := by decide +kernel
theorem dX6_fewestUpTo_41 : decode cX6_fewestUpTo 41 = .ok (.getfield 10, 3) := by decide +kernel
theorem dX6_fewestUpTo_44 : decode cX6_fewestUpTo 44 = .ok (.getfield 113, 3) := by decide +kernel
theorem dX6_fewestUpTo_47 : decode cX6_fewestUpTo 47 = .ok (.aload_n 0, 1) := by decide +kernel
theorem dX6_fewestUpTo_48 : decode cX6_fewestUpTo 48 = .ok (.getfield 10, 3) := by decide +kernel
theorem dX6_fewestUpTo_51 : decode cX6_fewestUpTo 51 = .ok (.getfield 104, 3) := by decide +kernel
theorem dX6_fewestUpTo_54 : decode cX6_fewestUpTo 54 = .ok (.iload 5, 2) := by decide +kernel
theorem dX6_fewestUpTo_56 : decode cX6_fewestUpTo 56 = .ok (.iload 4, 2) := by decide +kernel
theorem dX6_fewestUpTo_58 : decode cX6_fewestUpTo 58 = .ok (.invokevirtual 147, 3) := by decide +kernel
theorem dX6_fewestUpTo_61 : decode cX6_fewestUpTo 61 = .ok (.invokevirtual 349, 3) := by decide +kernel
theorem dX6_fewestUpTo_64 : decode cX6_fewestUpTo 64 = .ok (.iconst (-1), 1) := by decide +kernel
theorem dX6_fewestUpTo_65 : decode cX6_fewestUpTo 65 = .ok (.if_icmp .eq 19, 3) := by decide +kernel
theorem dX6_fewestUpTo_68 : decode cX6_fewestUpTo 68 = .ok (.iload_n 2, 1) := by decide +kernel
theorem dX6_fewestUpTo_69 : decode cX6_fewestUpTo 69 = .ok (.aload_n 0, 1) := by decide +kernel
theorem dX6_fewestUpTo_70 : decode cX6_fewestUpTo 70 = .ok (.getfield 55, 3) := by decide +kernel
theorem dX6_fewestUpTo_73 : decode cX6_fewestUpTo 73 = .ok (.iload 5, 2) := by decide +kernel
theorem dX6_fewestUpTo_75 : decode cX6_fewestUpTo 75 = .ok (.invokevirtual 97, 3) := by decide +kernel
theorem dX6_fewestUpTo_78 : decode cX6_fewestUpTo 78 = .ok (.iconst 1, 1) := by decide +kernel
theorem dX6_fewestUpTo_79 : decode cX6_fewestUpTo 79 = .ok (.iadd, 1) := by decide +kernel
theorem dX6_fewestUpTo_80 : decode cX6_fewestUpTo 80 = .ok (.invokestatic 370, 3) := by decide +kernel
theorem dX6_fewestUpTo_83 : decode cX6_fewestUpTo 83 = .ok (.istore_n 2, 1) := by decide +kernel
theorem dX6_fewestUpTo_84 : decode cX6_fewestUpTo 84 = .ok (.iinc 4 1, 3) := by decide +kernel
theorem dX6_fewestUpTo_87 : decode cX6_fewestUpTo 87 = .ok (.goto (-59), 3) := by decide +kernel
theorem dX6_fewestUpTo_90 : decode cX6_fewestUpTo 90 = .ok (.iload_n 2, 1) := by decide +kernel
theorem dX6_fewestUpTo_91 : decode cX6_fewestUpTo 91 = .ok (.ireturn, 1) := by decide +kernel
