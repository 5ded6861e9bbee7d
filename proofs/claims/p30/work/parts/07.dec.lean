theorem dL_cell_0 : decode cL_cell 0 = .ok (.iload_n 1, 1) := by decide +kernel
theorem dL_cell_1 : decode cL_cell 1 = .ok (.aload_n 0, 1) := by decide +kernel
theorem dL_cell_2 : decode cL_cell 2 = .ok (.arraylength, 1) := by decide +kernel
theorem dL_cell_3 : decode cL_cell 3 = .ok (.if_icmp .ge 9, 3) := by decide +kernel
theorem dL_cell_6 : decode cL_cell 6 = .ok (.aload_n 0, 1) := by decide +kernel
theorem dL_cell_7 : decode cL_cell 7 = .ok (.iload_n 1, 1) := by decide +kernel
theorem dL_cell_8 : decode cL_cell 8 = .ok (.iaload, 1) := by decide +kernel
theorem dL_cell_9 : decode cL_cell 9 = .ok (.goto 11, 3) := by decide +kernel
theorem dL_cell_12 : decode cL_cell 12 = .ok (.ldc 7, 2) := by decide +kernel
theorem dL_cell_14 : decode cL_cell 14 = .ok (.iload_n 1, 1) := by decide +kernel
theorem dL_cell_15 : decode cL_cell 15 = .ok (.sipush 229, 3) := by decide +kernel
theorem dL_cell_18 : decode cL_cell 18 = .ok (.iadd, 1) := by decide +kernel
theorem dL_cell_19 : decode cL_cell 19 = .ok (.imul, 1) := by decide +kernel
theorem dL_cell_20 : decode cL_cell 20 = .ok (.ireturn, 1) := by decide +kernel
theorem dL_up_0 : decode cL_up 0 = .ok (.iload_n 0, 1) := by decide +kernel
theorem dL_up_1 : decode cL_up 1 = .ok (.ldc 8, 2) := by decide +kernel
theorem dL_up_3 : decode cL_up 3 = .ok (.iand, 1) := by decide +kernel
theorem dL_up_4 : decode cL_up 4 = .ok (.iload_n 1, 1) := by decide +kernel
theorem dL_up_5 : decode cL_up 5 = .ok (.irem, 1) := by decide +kernel
theorem dL_up_6 : decode cL_up 6 = .ok (.ireturn, 1) := by decide +kernel
theorem dL_looks_0 : decode cL_looks 0 = .ok (.ldc2_w 9, 3) := by decide +kernel
theorem dL_looks_3 : decode cL_looks 3 = .ok (.lstore_n 1, 1) := by decide +kernel
theorem dL_looks_4 : decode cL_looks 4 = .ok (.iconst 0, 1) := by decide +kernel
theorem dL_looks_5 : decode cL_looks 5 = .ok (.istore_n 3, 1) := by decide +kernel
theorem dL_looks_6 : decode cL_looks 6 = .ok (.iload_n 3, 1) := by decide +kernel
theorem dL_looks_7 : decode cL_looks 7 = .ok (.bipush 9, 2) := by decide +kernel
theorem dL_looks_9 : decode cL_looks 9 = .ok (.if_icmp .ge 22, 3) := by decide +kernel
theorem dL_looks_12 : decode cL_looks 12 = .ok (.ldc2_w 11, 3) := by decide +kernel
theorem dL_looks_15 : decode cL_looks 15 = .ok (.lload_n 1, 1) := by decide +kernel
theorem dL_looks_16 : decode cL_looks 16 = .ok (.lmul, 1) := by decide +kernel
theorem dL_looks_17 : decode cL_looks 17 = .ok (.aload_n 0, 1) := by decide +kernel
theorem dL_looks_18 : decode cL_looks 18 = .ok (.iload_n 3, 1) := by decide +kernel
theorem dL_looks_19 : decode cL_looks 19 = .ok (.invokevirtual 13, 3) := by decide +kernel
theorem dL_looks_22 : decode cL_looks 22 = .ok (.i2l, 1) := by decide +kernel
theorem dL_looks_23 : decode cL_looks 23 = .ok (.ladd, 1) := by decide +kernel
theorem dL_looks_24 : decode cL_looks 24 = .ok (.lstore_n 1, 1) := by decide +kernel
theorem dL_looks_25 : decode cL_looks 25 = .ok (.iinc 3 1, 3) := by decide +kernel
theorem dL_looks_28 : decode cL_looks 28 = .ok (.goto (-22), 3) := by decide +kernel
theorem dL_looks_31 : decode cL_looks 31 = .ok (.iconst 0, 1) := by decide +kernel
theorem dL_looks_32 : decode cL_looks 32 = .ok (.istore_n 3, 1) := by decide +kernel
theorem dL_looks_33 : decode cL_looks 33 = .ok (.iload_n 3, 1) := by decide +kernel
theorem dL_looks_34 : decode cL_looks 34 = .ok (.aload_n 0, 1) := by decide +kernel
theorem dL_looks_35 : decode cL_looks 35 = .ok (.iconst 0, 1) := by decide +kernel
theorem dL_looks_36 : decode cL_looks 36 = .ok (.invokevirtual 13, 3) := by decide +kernel
theorem dL_looks_39 : decode cL_looks 39 = .ok (.if_icmp .ge 22, 3) := by decide +kernel
theorem dL_looks_42 : decode cL_looks 42 = .ok (.ldc2_w 11, 3) := by decide +kernel
theorem dL_looks_45 : decode cL_looks 45 = .ok (.lload_n 1, 1) := by decide +kernel
theorem dL_looks_46 : decode cL_looks 46 = .ok (.lmul, 1) := by decide +kernel
theorem dL_looks_47 : decode cL_looks 47 = .ok (.aload_n 0, 1) := by decide +kernel
theorem dL_looks_48 : decode cL_looks 48 = .ok (.iload_n 3, 1) := by decide +kernel
theorem dL_looks_49 : decode cL_looks 49 = .ok (.invokevirtual 19, 3) := by decide +kernel
theorem dL_looks_52 : decode cL_looks 52 = .ok (.i2l, 1) := by decide +kernel
theorem dL_looks_53 : decode cL_looks 53 = .ok (.ladd, 1) := by decide +kernel
theorem dL_looks_54 : decode cL_looks 54 = .ok (.lstore_n 1, 1) := by decide +kernel
theorem dL_looks_55 : decode cL_looks 55 = .ok (.iinc 3 1, 3) := by decide +kernel
theorem dL_looks_58 : decode cL_looks 58 = .ok (.goto (-25), 3) := by decide +kernel
theorem dL_looks_61 : decode cL_looks 61 = .ok (.iconst 0, 1) := by decide +kernel
theorem dL_looks_62 : decode cL_looks 62 = .ok (.istore_n 3, 1) := by decide +kernel
theorem dL_looks_63 : decode cL_looks 63 = .ok (.iload_n 3, 1) := by decide +kernel
theorem dL_looks_64 : decode cL_looks 64 = .ok (.bipush 10, 2) := by decide +kernel
theorem dL_looks_66 : decode cL_looks 66 = .ok (.aload_n 0, 1) := by decide +kernel
theorem dL_looks_67 : decode cL_looks 67 = .ok (.iconst 4, 1) := by decide +kernel
theorem dL_looks_68 : decode cL_looks 68 = .ok (.invokevirtual 13, 3) := by decide +kernel
theorem dL_looks_71 : decode cL_looks 71 = .ok (.imul, 1) := by decide +kernel
theorem dL_looks_72 : decode cL_looks 72 = .ok (.if_icmp .ge 29, 3) := by decide +kernel
theorem dL_looks_75 : decode cL_looks 75 = .ok (.ldc2_w 11, 3) := by decide +kernel
theorem dL_looks_78 : decode cL_looks 78 = .ok (.lload_n 1, 1) := by decide +kernel
theorem dL_looks_79 : decode cL_looks 79 = .ok (.lmul, 1) := by decide +kernel
theorem dL_looks_80 : decode cL_looks 80 = .ok (.aload_n 0, 1) := by decide +kernel
theorem dL_looks_81 : decode cL_looks 81 = .ok (.iload_n 3, 1) := by decide +kernel
theorem dL_looks_82 : decode cL_looks 82 = .ok (.bipush 10, 2) := by decide +kernel
theorem dL_looks_84 : decode cL_looks 84 = .ok (.idiv, 1) := by decide +kernel
theorem dL_looks_85 : decode cL_looks 85 = .ok (.iload_n 3, 1) := by decide +kernel
theorem dL_looks_86 : decode cL_looks 86 = .ok (.bipush 10, 2) := by decide +kernel
theorem dL_looks_88 : decode cL_looks 88 = .ok (.irem, 1) := by decide +kernel
theorem dL_looks_89 : decode cL_looks 89 = .ok (.invokevirtual 22, 3) := by decide +kernel
theorem dL_looks_92 : decode cL_looks 92 = .ok (.i2l, 1) := by decide +kernel
theorem dL_looks_93 : decode cL_looks 93 = .ok (.ladd, 1) := by decide +kernel
theorem dL_looks_94 : decode cL_looks 94 = .ok (.lstore_n 1, 1) := by decide +kernel
theorem dL_looks_95 : decode cL_looks 95 = .ok (.iinc 3 1, 3) := by decide +kernel
theorem dL_looks_98 : decode cL_looks 98 = .ok (.goto (-35), 3) := by decide +kernel
theorem dL_looks_101 : decode cL_looks 101 = .ok (.ldc2_w 11, 3) := by decide +kernel
theorem dL_looks_104 : decode cL_looks 104 = .ok (.ldc2_w 11, 3) := by decide +kernel
theorem dL_looks_107 : decode cL_looks 107 = .ok (.lload_n 1, 1) := by decide +kernel
theorem dL_looks_108 : decode cL_looks 108 = .ok (.lmul, 1) := by decide +kernel
theorem dL_looks_109 : decode cL_looks 109 = .ok (.aload_n 0, 1) := by decide +kernel
theorem dL_looks_110 : decode cL_looks 110 = .ok (.iconst 0, 1) := by decide +kernel
theorem dL_looks_111 : decode cL_looks 111 = .ok (.invokevirtual 26, 3) := by decide +kernel
theorem dL_looks_114 : decode cL_looks 114 = .ok (.i2l, 1) := by decide +kernel
theorem dL_looks_115 : decode cL_looks 115 = .ok (.ladd, 1) := by decide +kernel
theorem dL_looks_116 : decode cL_looks 116 = .ok (.lmul, 1) := by decide +kernel
theorem dL_looks_117 : decode cL_looks 117 = .ok (.aload_n 0, 1) := by decide +kernel
theorem dL_looks_118 : decode cL_looks 118 = .ok (.iconst 1, 1) := by decide +kernel
theorem dL_looks_119 : decode cL_looks 119 = .ok (.invokevirtual 26, 3) := by decide +kernel
theorem dL_looks_122 : decode cL_looks 122 = .ok (.i2l, 1) := by decide +kernel
theorem dL_looks_123 : decode cL_looks 123 = .ok (.ladd, 1) := by decide +kernel
theorem dL_looks_124 : decode cL_looks 124 = .ok (.lreturn, 1) := by decide +kernel
theorem dL_types_0 : decode cL_types 0 = .ok (.aload_n 0, 1) := by decide +kernel
theorem dL_types_1 : decode cL_types 1 = .ok (.invokevirtual 29, 3) := by decide +kernel
theorem dL_types_4 : decode cL_types 4 = .ok (.istore_n 3, 1) := by decide +kernel
theorem dL_types_5 : decode cL_types 5 = .ok (.iconst 0, 1) := by decide +kernel
theorem dL_types_6 : decode cL_types 6 = .ok (.istore 4, 2) := by decide +kernel
theorem dL_types_8 : decode cL_types 8 = .ok (.iload 4, 2) := by decide +kernel
theorem dL_types_10 : decode cL_types 10 = .ok (.iload_n 1, 1) := by decide +kernel
theorem dL_types_11 : decode cL_types 11 = .ok (.if_icmp .ge 97, 3) := by decide +kernel
theorem dL_types_14 : decode cL_types 14 = .ok (.iconst 1, 1) := by decide +kernel
theorem dL_types_15 : decode cL_types 15 = .ok (.iload_n 2, 1) := by decide +kernel
theorem dL_types_16 : decode cL_types 16 = .ok (.iconst 2, 1) := by decide +kernel
theorem dL_types_17 : decode cL_types 17 = .ok (.iload 4, 2) := by decide +kernel
theorem dL_types_19 : decode cL_types 19 = .ok (.imul, 1) := by decide +kernel
theorem dL_types_20 : decode cL_types 20 = .ok (.ishr, 1) := by decide +kernel
theorem dL_types_21 : decode cL_types 21 = .ok (.bipush 7, 2) := by decide +kernel
theorem dL_types_23 : decode cL_types 23 = .ok (.invokestatic 33, 3) := by decide +kernel
theorem dL_types_26 : decode cL_types 26 = .ok (.iadd, 1) := by decide +kernel
theorem dL_types_27 : decode cL_types 27 = .ok (.istore 5, 2) := by decide +kernel
theorem dL_types_29 : decode cL_types 29 = .ok (.iload 4, 2) := by decide +kernel
theorem dL_types_31 : decode cL_types 31 = .ok (.ifCond .le 12, 3) := by decide +kernel
theorem dL_types_34 : decode cL_types 34 = .ok (.aload_n 0, 1) := by decide +kernel
theorem dL_types_35 : decode cL_types 35 = .ok (.bipush 47, 2) := by decide +kernel
theorem dL_types_37 : decode cL_types 37 = .ok (.invokevirtual 38, 3) := by decide +kernel
theorem dL_types_40 : decode cL_types 40 = .ok (.goto 4, 3) := by decide +kernel
theorem dL_types_43 : decode cL_types 43 = .ok (.iload_n 3, 1) := by decide +kernel
theorem dL_types_44 : decode cL_types 44 = .ok (.istore_n 3, 1) := by decide +kernel
theorem dL_types_45 : decode cL_types 45 = .ok (.iload 5, 2) := by decide +kernel
theorem dL_types_47 : decode cL_types 47 = .ok (.iconst 1, 1) := by decide +kernel
theorem dL_types_48 : decode cL_types 48 = .ok (.iand, 1) := by decide +kernel
theorem dL_types_49 : decode cL_types 49 = .ok (.iconst 1, 1) := by decide +kernel
theorem dL_types_50 : decode cL_types 50 = .ok (.if_icmp .ne 12, 3) := by decide +kernel
theorem dL_types_53 : decode cL_types 53 = .ok (.aload_n 0, 1) := by decide +kernel
theorem dL_types_54 : decode cL_types 54 = .ok (.bipush 115, 2) := by decide +kernel
theorem dL_types_56 : decode cL_types 56 = .ok (.invokevirtual 38, 3) := by decide +kernel
theorem dL_types_59 : decode cL_types 59 = .ok (.goto 4, 3) := by decide +kernel
theorem dL_types_62 : decode cL_types 62 = .ok (.iload_n 3, 1) := by decide +kernel
theorem dL_types_63 : decode cL_types 63 = .ok (.istore_n 3, 1) := by decide +kernel
theorem dL_types_64 : decode cL_types 64 = .ok (.iload 5, 2) := by decide +kernel
theorem dL_types_66 : decode cL_types 66 = .ok (.iconst 2, 1) := by decide +kernel
theorem dL_types_67 : decode cL_types 67 = .ok (.iand, 1) := by decide +kernel
theorem dL_types_68 : decode cL_types 68 = .ok (.iconst 2, 1) := by decide +kernel
theorem dL_types_69 : decode cL_types 69 = .ok (.if_icmp .ne 12, 3) := by decide +kernel
theorem dL_types_72 : decode cL_types 72 = .ok (.aload_n 0, 1) := by decide +kernel
theorem dL_types_73 : decode cL_types 73 = .ok (.bipush 116, 2) := by decide +kernel
theorem dL_types_75 : decode cL_types 75 = .ok (.invokevirtual 38, 3) := by decide +kernel
theorem dL_types_78 : decode cL_types 78 = .ok (.goto 4, 3) := by decide +kernel
theorem dL_types_81 : decode cL_types 81 = .ok (.iload_n 3, 1) := by decide +kernel
theorem dL_types_82 : decode cL_types 82 = .ok (.istore_n 3, 1) := by decide +kernel
theorem dL_types_83 : decode cL_types 83 = .ok (.iload 5, 2) := by decide +kernel
theorem dL_types_85 : decode cL_types 85 = .ok (.iconst 4, 1) := by decide +kernel
theorem dL_types_86 : decode cL_types 86 = .ok (.iand, 1) := by decide +kernel
theorem dL_types_87 : decode cL_types 87 = .ok (.iconst 4, 1) := by decide +kernel
theorem dL_types_88 : decode cL_types 88 = .ok (.if_icmp .ne 12, 3) := by decide +kernel
theorem dL_types_91 : decode cL_types 91 = .ok (.aload_n 0, 1) := by decide +kernel
theorem dL_types_92 : decode cL_types 92 = .ok (.bipush 107, 2) := by decide +kernel
theorem dL_types_94 : decode cL_types 94 = .ok (.invokevirtual 38, 3) := by decide +kernel
theorem dL_types_97 : decode cL_types 97 = .ok (.goto 4, 3) := by decide +kernel
theorem dL_types_100 : decode cL_types 100 = .ok (.iload_n 3, 1) := by decide +kernel
theorem dL_types_101 : decode cL_types 101 = .ok (.istore_n 3, 1) := by decide +kernel
theorem dL_types_102 : decode cL_types 102 = .ok (.iinc 4 1, 3) := by decide +kernel
theorem dL_types_105 : decode cL_types 105 = .ok (.goto (-97), 3) := by decide +kernel
theorem dL_types_108 : decode cL_types 108 = .ok (.iload_n 3, 1) := by decide +kernel
theorem dL_types_109 : decode cL_types 109 = .ok (.ireturn, 1) := by decide +kernel
theorem dL_isEntry_0 : decode cL_isEntry 0 = .ok (.iconst 0, 1) := by decide +kernel
theorem dL_isEntry_1 : decode cL_isEntry 1 = .ok (.istore 4, 2) := by decide +kernel
theorem dL_isEntry_3 : decode cL_isEntry 3 = .ok (.iconst 0, 1) := by decide +kernel
theorem dL_isEntry_4 : decode cL_isEntry 4 = .ok (.istore 5, 2) := by decide +kernel
theorem dL_isEntry_6 : decode cL_isEntry 6 = .ok (.iload 5, 2) := by decide +kernel
theorem dL_isEntry_8 : decode cL_isEntry 8 = .ok (.aload_n 0, 1) := by decide +kernel
theorem dL_isEntry_9 : decode cL_isEntry 9 = .ok (.iconst 4, 1) := by decide +kernel
theorem dL_isEntry_10 : decode cL_isEntry 10 = .ok (.invokevirtual 13, 3) := by decide +kernel
theorem dL_isEntry_13 : decode cL_isEntry 13 = .ok (.if_icmp .ge 108, 3) := by decide +kernel
theorem dL_isEntry_16 : decode cL_isEntry 16 = .ok (.aload_n 0, 1) := by decide +kernel
theorem dL_isEntry_17 : decode cL_isEntry 17 = .ok (.iload 5, 2) := by decide +kernel
theorem dL_isEntry_19 : decode cL_isEntry 19 = .ok (.iconst 0, 1) := by decide +kernel
theorem dL_isEntry_20 : decode cL_isEntry 20 = .ok (.invokevirtual 22, 3) := by decide +kernel
theorem dL_isEntry_23 : decode cL_isEntry 23 = .ok (.iload_n 3, 1) := by decide +kernel
theorem dL_isEntry_24 : decode cL_isEntry 24 = .ok (.if_icmp .ne 18, 3) := by decide +kernel
theorem dL_isEntry_27 : decode cL_isEntry 27 = .ok (.aload_n 0, 1) := by decide +kernel
theorem dL_isEntry_28 : decode cL_isEntry 28 = .ok (.iload 5, 2) := by decide +kernel
theorem dL_isEntry_30 : decode cL_isEntry 30 = .ok (.iconst 1, 1) := by decide +kernel
theorem dL_isEntry_31 : decode cL_isEntry 31 = .ok (.invokevirtual 22, 3) := by decide +kernel
theorem dL_isEntry_34 : decode cL_isEntry 34 = .ok (.iload_n 1, 1) := by decide +kernel
theorem dL_isEntry_35 : decode cL_isEntry 35 = .ok (.if_icmp .ne 7, 3) := by decide +kernel
theorem dL_isEntry_38 : decode cL_isEntry 38 = .ok (.iconst 1, 1) := by decide +kernel
theorem dL_isEntry_39 : decode cL_isEntry 39 = .ok (.goto 4, 3) := by decide +kernel
theorem dL_isEntry_42 : decode cL_isEntry 42 = .ok (.iconst 0, 1) := by decide +kernel
theorem dL_isEntry_43 : decode cL_isEntry 43 = .ok (.istore 6, 2) := by decide +kernel
theorem dL_isEntry_45 : decode cL_isEntry 45 = .ok (.iconst 0, 1) := by decide +kernel
theorem dL_isEntry_46 : decode cL_isEntry 46 = .ok (.istore 7, 2) := by decide +kernel
theorem dL_isEntry_48 : decode cL_isEntry 48 = .ok (.iload 7, 2) := by decide +kernel
theorem dL_isEntry_50 : decode cL_isEntry 50 = .ok (.iload_n 1, 1) := by decide +kernel
theorem dL_isEntry_51 : decode cL_isEntry 51 = .ok (.if_icmp .ge 47, 3) := by decide +kernel
theorem dL_isEntry_54 : decode cL_isEntry 54 = .ok (.iload 6, 2) := by decide +kernel
theorem dL_isEntry_56 : decode cL_isEntry 56 = .ok (.ifCond .eq 42, 3) := by decide +kernel
theorem dL_isEntry_59 : decode cL_isEntry 59 = .ok (.aload_n 0, 1) := by decide +kernel
theorem dL_isEntry_60 : decode cL_isEntry 60 = .ok (.iload 5, 2) := by decide +kernel
theorem dL_isEntry_62 : decode cL_isEntry 62 = .ok (.iconst 2, 1) := by decide +kernel
theorem dL_isEntry_63 : decode cL_isEntry 63 = .ok (.iload 7, 2) := by decide +kernel
theorem dL_isEntry_65 : decode cL_isEntry 65 = .ok (.iadd, 1) := by decide +kernel
theorem dL_isEntry_66 : decode cL_isEntry 66 = .ok (.invokevirtual 22, 3) := by decide +kernel
theorem dL_isEntry_69 : decode cL_isEntry 69 = .ok (.iconst 1, 1) := by decide +kernel
theorem dL_isEntry_70 : decode cL_isEntry 70 = .ok (.iload_n 2, 1) := by decide +kernel
theorem dL_isEntry_71 : decode cL_isEntry 71 = .ok (.iconst 2, 1) := by decide +kernel
theorem dL_isEntry_72 : decode cL_isEntry 72 = .ok (.iload 7, 2) := by decide +kernel
theorem dL_isEntry_74 : decode cL_isEntry 74 = .ok (.imul, 1) := by decide +kernel
theorem dL_isEntry_75 : decode cL_isEntry 75 = .ok (.ishr, 1) := by decide +kernel
theorem dL_isEntry_76 : decode cL_isEntry 76 = .ok (.bipush 7, 2) := by decide +kernel
theorem dL_isEntry_78 : decode cL_isEntry 78 = .ok (.invokestatic 33, 3) := by decide +kernel
theorem dL_isEntry_81 : decode cL_isEntry 81 = .ok (.iadd, 1) := by decide +kernel
theorem dL_isEntry_82 : decode cL_isEntry 82 = .ok (.if_icmp .ne 7, 3) := by decide +kernel
theorem dL_isEntry_85 : decode cL_isEntry 85 = .ok (.iconst 1, 1) := by decide +kernel
theorem dL_isEntry_86 : decode cL_isEntry 86 = .ok (.goto 4, 3) := by decide +kernel
theorem dL_isEntry_89 : decode cL_isEntry 89 = .ok (.iconst 0, 1) := by decide +kernel
theorem dL_isEntry_90 : decode cL_isEntry 90 = .ok (.istore 6, 2) := by decide +kernel
theorem dL_isEntry_92 : decode cL_isEntry 92 = .ok (.iinc 7 1, 3) := by decide +kernel
theorem dL_isEntry_95 : decode cL_isEntry 95 = .ok (.goto (-47), 3) := by decide +kernel
theorem dL_isEntry_98 : decode cL_isEntry 98 = .ok (.iload 4, 2) := by decide +kernel
theorem dL_isEntry_100 : decode cL_isEntry 100 = .ok (.ifCond .ne 8, 3) := by decide +kernel
theorem dL_isEntry_103 : decode cL_isEntry 103 = .ok (.iload 6, 2) := by decide +kernel
theorem dL_isEntry_105 : decode cL_isEntry 105 = .ok (.ifCond .eq 7, 3) := by decide +kernel
theorem dL_isEntry_108 : decode cL_isEntry 108 = .ok (.iconst 1, 1) := by decide +kernel
theorem dL_isEntry_109 : decode cL_isEntry 109 = .ok (.goto 4, 3) := by decide +kernel
theorem dL_isEntry_112 : decode cL_isEntry 112 = .ok (.iconst 0, 1) := by decide +kernel
theorem dL_isEntry_113 : decode cL_isEntry 113 = .ok (.istore 4, 2) := by decide +kernel
theorem dL_isEntry_115 : decode cL_isEntry 115 = .ok (.iinc 5 1, 3) := by decide +kernel
theorem dL_isEntry_118 : decode cL_isEntry 118 = .ok (.goto (-112), 3) := by decide +kernel
theorem dL_isEntry_121 : decode cL_isEntry 121 = .ok (.iload 4, 2) := by decide +kernel
theorem dL_isEntry_123 : decode cL_isEntry 123 = .ok (.ireturn, 1) := by decide +kernel
theorem dL_isRead_0 : decode cL_isRead 0 = .ok (.iconst 0, 1) := by decide +kernel
theorem dL_isRead_1 : decode cL_isRead 1 = .ok (.istore_n 1, 1) := by decide +kernel
theorem dL_isRead_2 : decode cL_isRead 2 = .ok (.iconst 0, 1) := by decide +kernel
theorem dL_isRead_3 : decode cL_isRead 3 = .ok (.istore_n 2, 1) := by decide +kernel
theorem dL_isRead_4 : decode cL_isRead 4 = .ok (.aload_n 0, 1) := by decide +kernel
theorem dL_isRead_5 : decode cL_isRead 5 = .ok (.iconst 2, 1) := by decide +kernel
theorem dL_isRead_6 : decode cL_isRead 6 = .ok (.invokevirtual 13, 3) := by decide +kernel
theorem dL_isRead_9 : decode cL_isRead 9 = .ok (.istore_n 3, 1) := by decide +kernel
theorem dL_isRead_10 : decode cL_isRead 10 = .ok (.aload_n 0, 1) := by decide +kernel
theorem dL_isRead_11 : decode cL_isRead 11 = .ok (.iconst 1, 1) := by decide +kernel
theorem dL_isRead_12 : decode cL_isRead 12 = .ok (.invokevirtual 13, 3) := by decide +kernel
theorem dL_isRead_15 : decode cL_isRead 15 = .ok (.iload_n 3, 1) := by decide +kernel
theorem dL_isRead_16 : decode cL_isRead 16 = .ok (.if_icmp .ne 17, 3) := by decide +kernel
theorem dL_isRead_19 : decode cL_isRead 19 = .ok (.aload_n 0, 1) := by decide +kernel
theorem dL_isRead_20 : decode cL_isRead 20 = .ok (.iconst 0, 1) := by decide +kernel
theorem dL_isRead_21 : decode cL_isRead 21 = .ok (.invokevirtual 13, 3) := by decide +kernel
theorem dL_isRead_24 : decode cL_isRead 24 = .ok (.bipush 60, 2) := by decide +kernel
theorem dL_isRead_26 : decode cL_isRead 26 = .ok (.if_icmp .gt 7, 3) := by decide +kernel
theorem dL_isRead_29 : decode cL_isRead 29 = .ok (.iconst 1, 1) := by decide +kernel
theorem dL_isRead_30 : decode cL_isRead 30 = .ok (.goto 4, 3) := by decide +kernel
theorem dL_isRead_33 : decode cL_isRead 33 = .ok (.iconst 0, 1) := by decide +kernel
theorem dL_isRead_34 : decode cL_isRead 34 = .ok (.istore 4, 2) := by decide +kernel
theorem dL_isRead_36 : decode cL_isRead 36 = .ok (.iconst 0, 1) := by decide +kernel
theorem dL_isRead_37 : decode cL_isRead 37 = .ok (.istore 5, 2) := by decide +kernel
theorem dL_isRead_39 : decode cL_isRead 39 = .ok (.iload 5, 2) := by decide +kernel
theorem dL_isRead_41 : decode cL_isRead 41 = .ok (.iload_n 3, 1) := by decide +kernel
theorem dL_isRead_42 : decode cL_isRead 42 = .ok (.if_icmp .ge 294, 3) := by decide +kernel
theorem dL_isRead_45 : decode cL_isRead 45 = .ok (.iload 4, 2) := by decide +kernel
theorem dL_isRead_47 : decode cL_isRead 47 = .ok (.ifCond .eq 289, 3) := by decide +kernel
theorem dL_isRead_50 : decode cL_isRead 50 = .ok (.aload_n 0, 1) := by decide +kernel
theorem dL_isRead_51 : decode cL_isRead 51 = .ok (.iload 5, 2) := by decide +kernel
theorem dL_isRead_53 : decode cL_isRead 53 = .ok (.iconst 2, 1) := by decide +kernel
theorem dL_isRead_54 : decode cL_isRead 54 = .ok (.invokevirtual 41, 3) := by decide +kernel
theorem dL_isRead_57 : decode cL_isRead 57 = .ok (.istore 6, 2) := by decide +kernel
theorem dL_isRead_59 : decode cL_isRead 59 = .ok (.aload_n 0, 1) := by decide +kernel
theorem dL_isRead_60 : decode cL_isRead 60 = .ok (.iload 5, 2) := by decide +kernel
theorem dL_isRead_62 : decode cL_isRead 62 = .ok (.iconst 3, 1) := by decide +kernel
theorem dL_isRead_63 : decode cL_isRead 63 = .ok (.invokevirtual 41, 3) := by decide +kernel
theorem dL_isRead_66 : decode cL_isRead 66 = .ok (.istore 7, 2) := by decide +kernel
theorem dL_isRead_68 : decode cL_isRead 68 = .ok (.iload 7, 2) := by decide +kernel
theorem dL_isRead_70 : decode cL_isRead 70 = .ok (.iconst (-1), 1) := by decide +kernel
theorem dL_isRead_71 : decode cL_isRead 71 = .ok (.if_icmp .ne 7, 3) := by decide +kernel
theorem dL_isRead_74 : decode cL_isRead 74 = .ok (.iconst 1, 1) := by decide +kernel
theorem dL_isRead_75 : decode cL_isRead 75 = .ok (.goto 4, 3) := by decide +kernel
theorem dL_isRead_78 : decode cL_isRead 78 = .ok (.iconst 0, 1) := by decide +kernel
theorem dL_isRead_79 : decode cL_isRead 79 = .ok (.istore 8, 2) := by decide +kernel
theorem dL_isRead_81 : decode cL_isRead 81 = .ok (.aload_n 0, 1) := by decide +kernel
theorem dL_isRead_82 : decode cL_isRead 82 = .ok (.iload 5, 2) := by decide +kernel
theorem dL_isRead_84 : decode cL_isRead 84 = .ok (.iconst 1, 1) := by decide +kernel
theorem dL_isRead_85 : decode cL_isRead 85 = .ok (.invokevirtual 41, 3) := by decide +kernel
theorem dL_isRead_88 : decode cL_isRead 88 = .ok (.iload_n 1, 1) := by decide +kernel
theorem dL_isRead_89 : decode cL_isRead 89 = .ok (.if_icmp .ne 75, 3) := by decide +kernel
theorem dL_isRead_92 : decode cL_isRead 92 = .ok (.iload 6, 2) := by decide +kernel
theorem dL_isRead_94 : decode cL_isRead 94 = .ok (.iconst 1, 1) := by decide +kernel
theorem dL_isRead_95 : decode cL_isRead 95 = .ok (.if_icmp .lt 69, 3) := by decide +kernel
theorem dL_isRead_98 : decode cL_isRead 98 = .ok (.iload 6, 2) := by decide +kernel
theorem dL_isRead_100 : decode cL_isRead 100 = .ok (.aload_n 0, 1) := by decide +kernel
theorem dL_isRead_101 : decode cL_isRead 101 = .ok (.iconst 1, 1) := by decide +kernel
theorem dL_isRead_102 : decode cL_isRead 102 = .ok (.invokevirtual 26, 3) := by decide +kernel
theorem dL_isRead_105 : decode cL_isRead 105 = .ok (.if_icmp .gt 59, 3) := by decide +kernel
theorem dL_isRead_108 : decode cL_isRead 108 = .ok (.aload_n 0, 1) := by decide +kernel
theorem dL_isRead_109 : decode cL_isRead 109 = .ok (.iload 5, 2) := by decide +kernel
theorem dL_isRead_111 : decode cL_isRead 111 = .ok (.iconst 0, 1) := by decide +kernel
theorem dL_isRead_112 : decode cL_isRead 112 = .ok (.invokevirtual 41, 3) := by decide +kernel
theorem dL_isRead_115 : decode cL_isRead 115 = .ok (.iconst (-1), 1) := by decide +kernel
theorem dL_isRead_116 : decode cL_isRead 116 = .ok (.if_icmp .ne 7, 3) := by decide +kernel
theorem dL_isRead_119 : decode cL_isRead 119 = .ok (.iconst 1, 1) := by decide +kernel
theorem dL_isRead_120 : decode cL_isRead 120 = .ok (.goto 4, 3) := by decide +kernel
theorem dL_isRead_123 : decode cL_isRead 123 = .ok (.iconst 0, 1) := by decide +kernel
theorem dL_isRead_124 : decode cL_isRead 124 = .ok (.iload 8, 2) := by decide +kernel
theorem dL_isRead_126 : decode cL_isRead 126 = .ok (.if_icmp .ne 38, 3) := by decide +kernel
theorem dL_isRead_129 : decode cL_isRead 129 = .ok (.aload_n 0, 1) := by decide +kernel
theorem dL_isRead_130 : decode cL_isRead 130 = .ok (.iload 5, 2) := by decide +kernel
theorem dL_isRead_132 : decode cL_isRead 132 = .ok (.iconst 4, 1) := by decide +kernel
theorem dL_isRead_133 : decode cL_isRead 133 = .ok (.invokevirtual 41, 3) := by decide +kernel
theorem dL_isRead_136 : decode cL_isRead 136 = .ok (.ifCond .ne 7, 3) := by decide +kernel
theorem dL_isRead_139 : decode cL_isRead 139 = .ok (.iconst 1, 1) := by decide +kernel
theorem dL_isRead_140 : decode cL_isRead 140 = .ok (.goto 4, 3) := by decide +kernel
theorem dL_isRead_143 : decode cL_isRead 143 = .ok (.iconst 0, 1) := by decide +kernel
theorem dL_isRead_144 : decode cL_isRead 144 = .ok (.iload 8, 2) := by decide +kernel
theorem dL_isRead_146 : decode cL_isRead 146 = .ok (.if_icmp .ne 18, 3) := by decide +kernel
theorem dL_isRead_149 : decode cL_isRead 149 = .ok (.iload 8, 2) := by decide +kernel
theorem dL_isRead_151 : decode cL_isRead 151 = .ok (.ifCond .eq 9, 3) := by decide +kernel
theorem dL_isRead_154 : decode cL_isRead 154 = .ok (.iload 6, 2) := by decide +kernel
theorem dL_isRead_156 : decode cL_isRead 156 = .ok (.iconst 1, 1) := by decide +kernel
theorem dL_isRead_157 : decode cL_isRead 157 = .ok (.if_icmp .ne 7, 3) := by decide +kernel
theorem dL_isRead_160 : decode cL_isRead 160 = .ok (.iconst 1, 1) := by decide +kernel
theorem dL_isRead_161 : decode cL_isRead 161 = .ok (.goto 4, 3) := by decide +kernel
theorem dL_isRead_164 : decode cL_isRead 164 = .ok (.iconst 0, 1) := by decide +kernel
theorem dL_isRead_165 : decode cL_isRead 165 = .ok (.istore 4, 2) := by decide +kernel
theorem dL_isRead_167 : decode cL_isRead 167 = .ok (.iload 4, 2) := by decide +kernel
theorem dL_isRead_169 : decode cL_isRead 169 = .ok (.ifCond .eq 63, 3) := by decide +kernel
theorem dL_isRead_172 : decode cL_isRead 172 = .ok (.iload 8, 2) := by decide +kernel
theorem dL_isRead_174 : decode cL_isRead 174 = .ok (.ifCond .ne 54, 3) := by decide +kernel
theorem dL_isRead_177 : decode cL_isRead 177 = .ok (.aload_n 0, 1) := by decide +kernel
theorem dL_isRead_178 : decode cL_isRead 178 = .ok (.iload 7, 2) := by decide +kernel
theorem dL_isRead_180 : decode cL_isRead 180 = .ok (.iconst 0, 1) := by decide +kernel
theorem dL_isRead_181 : decode cL_isRead 181 = .ok (.invokevirtual 22, 3) := by decide +kernel
theorem dL_isRead_184 : decode cL_isRead 184 = .ok (.aload_n 0, 1) := by decide +kernel
theorem dL_isRead_185 : decode cL_isRead 185 = .ok (.iload 5, 2) := by decide +kernel
theorem dL_isRead_187 : decode cL_isRead 187 = .ok (.iconst 0, 1) := by decide +kernel
theorem dL_isRead_188 : decode cL_isRead 188 = .ok (.invokevirtual 41, 3) := by decide +kernel
theorem dL_isRead_191 : decode cL_isRead 191 = .ok (.if_icmp .ne 41, 3) := by decide +kernel
theorem dL_isRead_194 : decode cL_isRead 194 = .ok (.aload_n 0, 1) := by decide +kernel
theorem dL_isRead_195 : decode cL_isRead 195 = .ok (.iload 7, 2) := by decide +kernel
theorem dL_isRead_197 : decode cL_isRead 197 = .ok (.iconst 1, 1) := by decide +kernel
theorem dL_isRead_198 : decode cL_isRead 198 = .ok (.invokevirtual 22, 3) := by decide +kernel
theorem dL_isRead_201 : decode cL_isRead 201 = .ok (.iload 6, 2) := by decide +kernel
theorem dL_isRead_203 : decode cL_isRead 203 = .ok (.if_icmp .ne 29, 3) := by decide +kernel
theorem dL_isRead_206 : decode cL_isRead 206 = .ok (.aload_n 0, 1) := by decide +kernel
theorem dL_isRead_207 : decode cL_isRead 207 = .ok (.iload 7, 2) := by decide +kernel
theorem dL_isRead_209 : decode cL_isRead 209 = .ok (.bipush 7, 2) := by decide +kernel
theorem dL_isRead_211 : decode cL_isRead 211 = .ok (.invokevirtual 22, 3) := by decide +kernel
theorem dL_isRead_214 : decode cL_isRead 214 = .ok (.iconst 1, 1) := by decide +kernel
theorem dL_isRead_215 : decode cL_isRead 215 = .ok (.if_icmp .ne 17, 3) := by decide +kernel
theorem dL_isRead_218 : decode cL_isRead 218 = .ok (.aload_n 0, 1) := by decide +kernel
theorem dL_isRead_219 : decode cL_isRead 219 = .ok (.iload 7, 2) := by decide +kernel
theorem dL_isRead_221 : decode cL_isRead 221 = .ok (.iload_n 1, 1) := by decide +kernel
theorem dL_isRead_222 : decode cL_isRead 222 = .ok (.invokestatic 44, 3) := by decide +kernel
theorem dL_isRead_225 : decode cL_isRead 225 = .ok (.ifCond .eq 7, 3) := by decide +kernel
theorem dL_isRead_228 : decode cL_isRead 228 = .ok (.iconst 1, 1) := by decide +kernel
theorem dL_isRead_229 : decode cL_isRead 229 = .ok (.goto 4, 3) := by decide +kernel
theorem dL_isRead_232 : decode cL_isRead 232 = .ok (.iconst 0, 1) := by decide +kernel
theorem dL_isRead_233 : decode cL_isRead 233 = .ok (.istore 4, 2) := by decide +kernel
theorem dL_isRead_235 : decode cL_isRead 235 = .ok (.iconst 0, 1) := by decide +kernel
theorem dL_isRead_236 : decode cL_isRead 236 = .ok (.istore 9, 2) := by decide +kernel
theorem dL_isRead_238 : decode cL_isRead 238 = .ok (.iload 9, 2) := by decide +kernel
theorem dL_isRead_240 : decode cL_isRead 240 = .ok (.aload_n 0, 1) := by decide +kernel
theorem dL_isRead_241 : decode cL_isRead 241 = .ok (.iconst 4, 1) := by decide +kernel
theorem dL_isRead_242 : decode cL_isRead 242 = .ok (.invokevirtual 13, 3) := by decide +kernel
theorem dL_isRead_245 : decode cL_isRead 245 = .ok (.if_icmp .ge 67, 3) := by decide +kernel
theorem dL_isRead_248 : decode cL_isRead 248 = .ok (.iload 4, 2) := by decide +kernel
theorem dL_isRead_250 : decode cL_isRead 250 = .ok (.ifCond .eq 62, 3) := by decide +kernel
theorem dL_isRead_253 : decode cL_isRead 253 = .ok (.aload_n 0, 1) := by decide +kernel
theorem dL_isRead_254 : decode cL_isRead 254 = .ok (.iload 9, 2) := by decide +kernel
theorem dL_isRead_256 : decode cL_isRead 256 = .ok (.iconst 1, 1) := by decide +kernel
theorem dL_isRead_257 : decode cL_isRead 257 = .ok (.invokevirtual 22, 3) := by decide +kernel
theorem dL_isRead_260 : decode cL_isRead 260 = .ok (.aload_n 0, 1) := by decide +kernel
theorem dL_isRead_261 : decode cL_isRead 261 = .ok (.iconst 1, 1) := by decide +kernel
theorem dL_isRead_262 : decode cL_isRead 262 = .ok (.invokevirtual 26, 3) := by decide +kernel
theorem dL_isRead_265 : decode cL_isRead 265 = .ok (.if_icmp .gt 34, 3) := by decide +kernel
theorem dL_isRead_268 : decode cL_isRead 268 = .ok (.aload_n 0, 1) := by decide +kernel
theorem dL_isRead_269 : decode cL_isRead 269 = .ok (.iload 9, 2) := by decide +kernel
theorem dL_isRead_271 : decode cL_isRead 271 = .ok (.iconst 1, 1) := by decide +kernel
theorem dL_isRead_272 : decode cL_isRead 272 = .ok (.invokevirtual 22, 3) := by decide +kernel
theorem dL_isRead_275 : decode cL_isRead 275 = .ok (.iload 8, 2) := by decide +kernel
theorem dL_isRead_277 : decode cL_isRead 277 = .ok (.ifCond .eq 7, 3) := by decide +kernel
theorem dL_isRead_280 : decode cL_isRead 280 = .ok (.iconst 0, 1) := by decide +kernel
theorem dL_isRead_281 : decode cL_isRead 281 = .ok (.goto 5, 3) := by decide +kernel
theorem dL_isRead_284 : decode cL_isRead 284 = .ok (.iload 6, 2) := by decide +kernel
theorem dL_isRead_286 : decode cL_isRead 286 = .ok (.if_icmp .le 13, 3) := by decide +kernel
theorem dL_isRead_289 : decode cL_isRead 289 = .ok (.aload_n 0, 1) := by decide +kernel
theorem dL_isRead_290 : decode cL_isRead 290 = .ok (.iload 9, 2) := by decide +kernel
theorem dL_isRead_292 : decode cL_isRead 292 = .ok (.iload_n 1, 1) := by decide +kernel
theorem dL_isRead_293 : decode cL_isRead 293 = .ok (.invokestatic 44, 3) := by decide +kernel
theorem dL_isRead_296 : decode cL_isRead 296 = .ok (.ifCond .ne 7, 3) := by decide +kernel
theorem dL_isRead_299 : decode cL_isRead 299 = .ok (.iconst 1, 1) := by decide +kernel
theorem dL_isRead_300 : decode cL_isRead 300 = .ok (.goto 4, 3) := by decide +kernel
theorem dL_isRead_303 : decode cL_isRead 303 = .ok (.iconst 0, 1) := by decide +kernel
theorem dL_isRead_304 : decode cL_isRead 304 = .ok (.istore 4, 2) := by decide +kernel
theorem dL_isRead_306 : decode cL_isRead 306 = .ok (.iinc 9 1, 3) := by decide +kernel
theorem dL_isRead_309 : decode cL_isRead 309 = .ok (.goto (-71), 3) := by decide +kernel
theorem dL_isRead_312 : decode cL_isRead 312 = .ok (.iload_n 2, 1) := by decide +kernel
theorem dL_isRead_313 : decode cL_isRead 313 = .ok (.iload 8, 2) := by decide +kernel
theorem dL_isRead_315 : decode cL_isRead 315 = .ok (.ifCond .eq 7, 3) := by decide +kernel
theorem dL_isRead_318 : decode cL_isRead 318 = .ok (.iconst 1, 1) := by decide +kernel
theorem dL_isRead_319 : decode cL_isRead 319 = .ok (.goto 4, 3) := by decide +kernel
theorem dL_isRead_322 : decode cL_isRead 322 = .ok (.iconst 0, 1) := by decide +kernel
theorem dL_isRead_323 : decode cL_isRead 323 = .ok (.iadd, 1) := by decide +kernel
theorem dL_isRead_324 : decode cL_isRead 324 = .ok (.istore_n 2, 1) := by decide +kernel
theorem dL_isRead_325 : decode cL_isRead 325 = .ok (.iload_n 1, 1) := by decide +kernel
theorem dL_isRead_326 : decode cL_isRead 326 = .ok (.iload 6, 2) := by decide +kernel
theorem dL_isRead_328 : decode cL_isRead 328 = .ok (.iadd, 1) := by decide +kernel
theorem dL_isRead_329 : decode cL_isRead 329 = .ok (.istore_n 1, 1) := by decide +kernel
theorem dL_isRead_330 : decode cL_isRead 330 = .ok (.iinc 5 1, 3) := by decide +kernel
theorem dL_isRead_333 : decode cL_isRead 333 = .ok (.goto (-294), 3) := by decide +kernel
theorem dL_isRead_336 : decode cL_isRead 336 = .ok (.iload 4, 2) := by decide +kernel
theorem dL_isRead_338 : decode cL_isRead 338 = .ok (.ifCond .eq 79, 3) := by decide +kernel
theorem dL_isRead_341 : decode cL_isRead 341 = .ok (.iload_n 1, 1) := by decide +kernel
theorem dL_isRead_342 : decode cL_isRead 342 = .ok (.aload_n 0, 1) := by decide +kernel
theorem dL_isRead_343 : decode cL_isRead 343 = .ok (.iconst 0, 1) := by decide +kernel
theorem dL_isRead_344 : decode cL_isRead 344 = .ok (.invokevirtual 13, 3) := by decide +kernel
theorem dL_isRead_347 : decode cL_isRead 347 = .ok (.if_icmp .ne 70, 3) := by decide +kernel
theorem dL_isRead_350 : decode cL_isRead 350 = .ok (.iload_n 2, 1) := by decide +kernel
theorem dL_isRead_351 : decode cL_isRead 351 = .ok (.aload_n 0, 1) := by decide +kernel
theorem dL_isRead_352 : decode cL_isRead 352 = .ok (.iconst 3, 1) := by decide +kernel
theorem dL_isRead_353 : decode cL_isRead 353 = .ok (.invokevirtual 13, 3) := by decide +kernel
theorem dL_isRead_356 : decode cL_isRead 356 = .ok (.if_icmp .ne 61, 3) := by decide +kernel
theorem dL_isRead_359 : decode cL_isRead 359 = .ok (.aload_n 0, 1) := by decide +kernel
theorem dL_isRead_360 : decode cL_isRead 360 = .ok (.iconst 1, 1) := by decide +kernel
theorem dL_isRead_361 : decode cL_isRead 361 = .ok (.invokevirtual 26, 3) := by decide +kernel
theorem dL_isRead_364 : decode cL_isRead 364 = .ok (.iconst 1, 1) := by decide +kernel
theorem dL_isRead_365 : decode cL_isRead 365 = .ok (.if_icmp .gt 16, 3) := by decide +kernel
theorem dL_isRead_368 : decode cL_isRead 368 = .ok (.iload_n 3, 1) := by decide +kernel
theorem dL_isRead_369 : decode cL_isRead 369 = .ok (.iload_n 1, 1) := by decide +kernel
theorem dL_isRead_370 : decode cL_isRead 370 = .ok (.if_icmp .ne 47, 3) := by decide +kernel
theorem dL_isRead_373 : decode cL_isRead 373 = .ok (.aload_n 0, 1) := by decide +kernel
theorem dL_isRead_374 : decode cL_isRead 374 = .ok (.invokevirtual 48, 3) := by decide +kernel
theorem dL_isRead_377 : decode cL_isRead 377 = .ok (.iload_n 1, 1) := by decide +kernel
theorem dL_isRead_378 : decode cL_isRead 378 = .ok (.if_icmp .ne 39, 3) := by decide +kernel
theorem dL_isRead_381 : decode cL_isRead 381 = .ok (.aload_n 0, 1) := by decide +kernel
theorem dL_isRead_382 : decode cL_isRead 382 = .ok (.invokevirtual 48, 3) := by decide +kernel
theorem dL_isRead_385 : decode cL_isRead 385 = .ok (.iload_n 3, 1) := by decide +kernel
theorem dL_isRead_386 : decode cL_isRead 386 = .ok (.if_icmp .gt 31, 3) := by decide +kernel
theorem dL_isRead_389 : decode cL_isRead 389 = .ok (.aload_n 0, 1) := by decide +kernel
theorem dL_isRead_390 : decode cL_isRead 390 = .ok (.invokevirtual 48, 3) := by decide +kernel
theorem dL_isRead_393 : decode cL_isRead 393 = .ok (.ifCond .ne 7, 3) := by decide +kernel
theorem dL_isRead_396 : decode cL_isRead 396 = .ok (.iconst 1, 1) := by decide +kernel
theorem dL_isRead_397 : decode cL_isRead 397 = .ok (.goto 4, 3) := by decide +kernel
theorem dL_isRead_400 : decode cL_isRead 400 = .ok (.iconst 0, 1) := by decide +kernel
theorem dL_isRead_401 : decode cL_isRead 401 = .ok (.iload_n 1, 1) := by decide +kernel
theorem dL_isRead_402 : decode cL_isRead 402 = .ok (.ifCond .ne 7, 3) := by decide +kernel
theorem dL_isRead_405 : decode cL_isRead 405 = .ok (.iconst 1, 1) := by decide +kernel
theorem dL_isRead_406 : decode cL_isRead 406 = .ok (.goto 4, 3) := by decide +kernel
theorem dL_isRead_409 : decode cL_isRead 409 = .ok (.iconst 0, 1) := by decide +kernel
theorem dL_isRead_410 : decode cL_isRead 410 = .ok (.if_icmp .ne 7, 3) := by decide +kernel
theorem dL_isRead_413 : decode cL_isRead 413 = .ok (.iconst 1, 1) := by decide +kernel
theorem dL_isRead_414 : decode cL_isRead 414 = .ok (.goto 4, 3) := by decide +kernel
theorem dL_isRead_417 : decode cL_isRead 417 = .ok (.iconst 0, 1) := by decide +kernel
theorem dL_isRead_418 : decode cL_isRead 418 = .ok (.ireturn, 1) := by decide +kernel
theorem dL_isOn_0 : decode cL_isOn 0 = .ok (.aload_n 0, 1) := by decide +kernel
theorem dL_isOn_1 : decode cL_isOn 1 = .ok (.iload_n 1, 1) := by decide +kernel
theorem dL_isOn_2 : decode cL_isOn 2 = .ok (.iconst 1, 1) := by decide +kernel
theorem dL_isOn_3 : decode cL_isOn 3 = .ok (.invokevirtual 22, 3) := by decide +kernel
theorem dL_isOn_6 : decode cL_isOn 6 = .ok (.istore_n 3, 1) := by decide +kernel
theorem dL_isOn_7 : decode cL_isOn 7 = .ok (.iload_n 2, 1) := by decide +kernel
theorem dL_isOn_8 : decode cL_isOn 8 = .ok (.iload_n 3, 1) := by decide +kernel
theorem dL_isOn_9 : decode cL_isOn 9 = .ok (.iadd, 1) := by decide +kernel
theorem dL_isOn_10 : decode cL_isOn 10 = .ok (.aload_n 0, 1) := by decide +kernel
theorem dL_isOn_11 : decode cL_isOn 11 = .ok (.iconst 0, 1) := by decide +kernel
theorem dL_isOn_12 : decode cL_isOn 12 = .ok (.invokevirtual 13, 3) := by decide +kernel
theorem dL_isOn_15 : decode cL_isOn 15 = .ok (.if_icmp .gt 7, 3) := by decide +kernel
theorem dL_isOn_18 : decode cL_isOn 18 = .ok (.iconst 1, 1) := by decide +kernel
theorem dL_isOn_19 : decode cL_isOn 19 = .ok (.goto 4, 3) := by decide +kernel
theorem dL_isOn_22 : decode cL_isOn 22 = .ok (.iconst 0, 1) := by decide +kernel
theorem dL_isOn_23 : decode cL_isOn 23 = .ok (.istore 4, 2) := by decide +kernel
theorem dL_isOn_25 : decode cL_isOn 25 = .ok (.iconst 0, 1) := by decide +kernel
theorem dL_isOn_26 : decode cL_isOn 26 = .ok (.istore 5, 2) := by decide +kernel
theorem dL_isOn_28 : decode cL_isOn 28 = .ok (.iload 5, 2) := by decide +kernel
theorem dL_isOn_30 : decode cL_isOn 30 = .ok (.iload_n 3, 1) := by decide +kernel
theorem dL_isOn_31 : decode cL_isOn 31 = .ok (.if_icmp .ge 41, 3) := by decide +kernel
theorem dL_isOn_34 : decode cL_isOn 34 = .ok (.iload 4, 2) := by decide +kernel
theorem dL_isOn_36 : decode cL_isOn 36 = .ok (.ifCond .eq 36, 3) := by decide +kernel
theorem dL_isOn_39 : decode cL_isOn 39 = .ok (.aload_n 0, 1) := by decide +kernel
theorem dL_isOn_40 : decode cL_isOn 40 = .ok (.iload_n 2, 1) := by decide +kernel
theorem dL_isOn_41 : decode cL_isOn 41 = .ok (.iload 5, 2) := by decide +kernel
theorem dL_isOn_43 : decode cL_isOn 43 = .ok (.iadd, 1) := by decide +kernel
theorem dL_isOn_44 : decode cL_isOn 44 = .ok (.invokevirtual 19, 3) := by decide +kernel
theorem dL_isOn_47 : decode cL_isOn 47 = .ok (.aload_n 0, 1) := by decide +kernel
theorem dL_isOn_48 : decode cL_isOn 48 = .ok (.iload_n 1, 1) := by decide +kernel
theorem dL_isOn_49 : decode cL_isOn 49 = .ok (.iconst 2, 1) := by decide +kernel
theorem dL_isOn_50 : decode cL_isOn 50 = .ok (.iload 5, 2) := by decide +kernel
theorem dL_isOn_52 : decode cL_isOn 52 = .ok (.iadd, 1) := by decide +kernel
theorem dL_isOn_53 : decode cL_isOn 53 = .ok (.invokevirtual 22, 3) := by decide +kernel
theorem dL_isOn_56 : decode cL_isOn 56 = .ok (.if_icmp .ne 7, 3) := by decide +kernel
theorem dL_isOn_59 : decode cL_isOn 59 = .ok (.iconst 1, 1) := by decide +kernel
theorem dL_isOn_60 : decode cL_isOn 60 = .ok (.goto 4, 3) := by decide +kernel
theorem dL_isOn_63 : decode cL_isOn 63 = .ok (.iconst 0, 1) := by decide +kernel
theorem dL_isOn_64 : decode cL_isOn 64 = .ok (.istore 4, 2) := by decide +kernel
theorem dL_isOn_66 : decode cL_isOn 66 = .ok (.iinc 5 1, 3) := by decide +kernel
theorem dL_isOn_69 : decode cL_isOn 69 = .ok (.goto (-41), 3) := by decide +kernel
theorem dL_isOn_72 : decode cL_isOn 72 = .ok (.iload 4, 2) := by decide +kernel
theorem dL_isOn_74 : decode cL_isOn 74 = .ok (.ireturn, 1) := by decide +kernel
theorem dL_areEntries_0 : decode cL_areEntries 0 = .ok (.iconst 0, 1) := by decide +kernel
theorem dL_areEntries_1 : decode cL_areEntries 1 = .ok (.istore_n 1, 1) := by decide +kernel
theorem dL_areEntries_2 : decode cL_areEntries 2 = .ok (.aload_n 0, 1) := by decide +kernel
theorem dL_areEntries_3 : decode cL_areEntries 3 = .ok (.invokevirtual 51, 3) := by decide +kernel
theorem dL_areEntries_6 : decode cL_areEntries 6 = .ok (.dconst 0, 1) := by decide +kernel
theorem dL_areEntries_7 : decode cL_areEntries 7 = .ok (.dcmp .l, 1) := by decide +kernel
theorem dL_areEntries_8 : decode cL_areEntries 8 = .ok (.ifCond .lt 35, 3) := by decide +kernel
theorem dL_areEntries_11 : decode cL_areEntries 11 = .ok (.aload_n 0, 1) := by decide +kernel
theorem dL_areEntries_12 : decode cL_areEntries 12 = .ok (.invokevirtual 51, 3) := by decide +kernel
theorem dL_areEntries_15 : decode cL_areEntries 15 = .ok (.dconst 1, 1) := by decide +kernel
theorem dL_areEntries_16 : decode cL_areEntries 16 = .ok (.dcmp .g, 1) := by decide +kernel
theorem dL_areEntries_17 : decode cL_areEntries 17 = .ok (.ifCond .gt 26, 3) := by decide +kernel
theorem dL_areEntries_20 : decode cL_areEntries 20 = .ok (.aload_n 0, 1) := by decide +kernel
theorem dL_areEntries_21 : decode cL_areEntries 21 = .ok (.invokevirtual 55, 3) := by decide +kernel
theorem dL_areEntries_24 : decode cL_areEntries 24 = .ok (.fconst 0, 1) := by decide +kernel
theorem dL_areEntries_25 : decode cL_areEntries 25 = .ok (.fcmp .l, 1) := by decide +kernel
theorem dL_areEntries_26 : decode cL_areEntries 26 = .ok (.ifCond .lt 17, 3) := by decide +kernel
theorem dL_areEntries_29 : decode cL_areEntries 29 = .ok (.aload_n 0, 1) := by decide +kernel
theorem dL_areEntries_30 : decode cL_areEntries 30 = .ok (.invokevirtual 55, 3) := by decide +kernel
theorem dL_areEntries_33 : decode cL_areEntries 33 = .ok (.ldc 59, 2) := by decide +kernel
theorem dL_areEntries_35 : decode cL_areEntries 35 = .ok (.fcmp .g, 1) := by decide +kernel
theorem dL_areEntries_36 : decode cL_areEntries 36 = .ok (.ifCond .gt 7, 3) := by decide +kernel
theorem dL_areEntries_39 : decode cL_areEntries 39 = .ok (.iconst 1, 1) := by decide +kernel
theorem dL_areEntries_40 : decode cL_areEntries 40 = .ok (.goto 4, 3) := by decide +kernel
theorem dL_areEntries_43 : decode cL_areEntries 43 = .ok (.iconst 0, 1) := by decide +kernel
theorem dL_areEntries_44 : decode cL_areEntries 44 = .ok (.istore_n 2, 1) := by decide +kernel
theorem dL_areEntries_45 : decode cL_areEntries 45 = .ok (.iconst 0, 1) := by decide +kernel
theorem dL_areEntries_46 : decode cL_areEntries 46 = .ok (.istore_n 3, 1) := by decide +kernel
theorem dL_areEntries_47 : decode cL_areEntries 47 = .ok (.iload_n 3, 1) := by decide +kernel
theorem dL_areEntries_48 : decode cL_areEntries 48 = .ok (.aload_n 0, 1) := by decide +kernel
theorem dL_areEntries_49 : decode cL_areEntries 49 = .ok (.iconst 4, 1) := by decide +kernel
theorem dL_areEntries_50 : decode cL_areEntries 50 = .ok (.invokevirtual 13, 3) := by decide +kernel
theorem dL_areEntries_53 : decode cL_areEntries 53 = .ok (.if_icmp .ge 283, 3) := by decide +kernel
theorem dL_areEntries_56 : decode cL_areEntries 56 = .ok (.iload_n 2, 1) := by decide +kernel
theorem dL_areEntries_57 : decode cL_areEntries 57 = .ok (.ifCond .eq 279, 3) := by decide +kernel
theorem dL_areEntries_60 : decode cL_areEntries 60 = .ok (.iconst 0, 1) := by decide +kernel
theorem dL_areEntries_61 : decode cL_areEntries 61 = .ok (.istore 4, 2) := by decide +kernel
theorem dL_areEntries_63 : decode cL_areEntries 63 = .ok (.iload_n 1, 1) := by decide +kernel
theorem dL_areEntries_64 : decode cL_areEntries 64 = .ok (.aload_n 0, 1) := by decide +kernel
theorem dL_areEntries_65 : decode cL_areEntries 65 = .ok (.iload_n 3, 1) := by decide +kernel
theorem dL_areEntries_66 : decode cL_areEntries 66 = .ok (.bipush 8, 2) := by decide +kernel
theorem dL_areEntries_68 : decode cL_areEntries 68 = .ok (.invokevirtual 22, 3) := by decide +kernel
theorem dL_areEntries_71 : decode cL_areEntries 71 = .ok (.iadd, 1) := by decide +kernel
theorem dL_areEntries_72 : decode cL_areEntries 72 = .ok (.istore_n 1, 1) := by decide +kernel
theorem dL_areEntries_73 : decode cL_areEntries 73 = .ok (.iconst 0, 1) := by decide +kernel
theorem dL_areEntries_74 : decode cL_areEntries 74 = .ok (.istore 5, 2) := by decide +kernel
theorem dL_areEntries_76 : decode cL_areEntries 76 = .ok (.iload 5, 2) := by decide +kernel
theorem dL_areEntries_78 : decode cL_areEntries 78 = .ok (.aload_n 0, 1) := by decide +kernel
theorem dL_areEntries_79 : decode cL_areEntries 79 = .ok (.iconst 4, 1) := by decide +kernel
theorem dL_areEntries_80 : decode cL_areEntries 80 = .ok (.invokevirtual 13, 3) := by decide +kernel
theorem dL_areEntries_83 : decode cL_areEntries 83 = .ok (.if_icmp .ge 155, 3) := by decide +kernel
theorem dL_areEntries_86 : decode cL_areEntries 86 = .ok (.aload_n 0, 1) := by decide +kernel
theorem dL_areEntries_87 : decode cL_areEntries 87 = .ok (.iload_n 3, 1) := by decide +kernel
theorem dL_areEntries_88 : decode cL_areEntries 88 = .ok (.iconst 1, 1) := by decide +kernel
theorem dL_areEntries_89 : decode cL_areEntries 89 = .ok (.invokevirtual 22, 3) := by decide +kernel
theorem dL_areEntries_92 : decode cL_areEntries 92 = .ok (.aload_n 0, 1) := by decide +kernel
theorem dL_areEntries_93 : decode cL_areEntries 93 = .ok (.iload 5, 2) := by decide +kernel
theorem dL_areEntries_95 : decode cL_areEntries 95 = .ok (.iconst 1, 1) := by decide +kernel
theorem dL_areEntries_96 : decode cL_areEntries 96 = .ok (.invokevirtual 22, 3) := by decide +kernel
theorem dL_areEntries_99 : decode cL_areEntries 99 = .ok (.if_icmp .ne 71, 3) := by decide +kernel
theorem dL_areEntries_102 : decode cL_areEntries 102 = .ok (.aload_n 0, 1) := by decide +kernel
theorem dL_areEntries_103 : decode cL_areEntries 103 = .ok (.iload_n 3, 1) := by decide +kernel
theorem dL_areEntries_104 : decode cL_areEntries 104 = .ok (.iconst 2, 1) := by decide +kernel
theorem dL_areEntries_105 : decode cL_areEntries 105 = .ok (.invokevirtual 22, 3) := by decide +kernel
theorem dL_areEntries_108 : decode cL_areEntries 108 = .ok (.aload_n 0, 1) := by decide +kernel
theorem dL_areEntries_109 : decode cL_areEntries 109 = .ok (.iload 5, 2) := by decide +kernel
theorem dL_areEntries_111 : decode cL_areEntries 111 = .ok (.iconst 2, 1) := by decide +kernel
theorem dL_areEntries_112 : decode cL_areEntries 112 = .ok (.invokevirtual 22, 3) := by decide +kernel
theorem dL_areEntries_115 : decode cL_areEntries 115 = .ok (.if_icmp .ne 55, 3) := by decide +kernel
theorem dL_areEntries_118 : decode cL_areEntries 118 = .ok (.aload_n 0, 1) := by decide +kernel
theorem dL_areEntries_119 : decode cL_areEntries 119 = .ok (.iload_n 3, 1) := by decide +kernel
theorem dL_areEntries_120 : decode cL_areEntries 120 = .ok (.iconst 3, 1) := by decide +kernel
theorem dL_areEntries_121 : decode cL_areEntries 121 = .ok (.invokevirtual 22, 3) := by decide +kernel
theorem dL_areEntries_124 : decode cL_areEntries 124 = .ok (.aload_n 0, 1) := by decide +kernel
theorem dL_areEntries_125 : decode cL_areEntries 125 = .ok (.iload 5, 2) := by decide +kernel
theorem dL_areEntries_127 : decode cL_areEntries 127 = .ok (.iconst 3, 1) := by decide +kernel
theorem dL_areEntries_128 : decode cL_areEntries 128 = .ok (.invokevirtual 22, 3) := by decide +kernel
theorem dL_areEntries_131 : decode cL_areEntries 131 = .ok (.if_icmp .ne 39, 3) := by decide +kernel
theorem dL_areEntries_134 : decode cL_areEntries 134 = .ok (.aload_n 0, 1) := by decide +kernel
theorem dL_areEntries_135 : decode cL_areEntries 135 = .ok (.iload_n 3, 1) := by decide +kernel
theorem dL_areEntries_136 : decode cL_areEntries 136 = .ok (.iconst 4, 1) := by decide +kernel
theorem dL_areEntries_137 : decode cL_areEntries 137 = .ok (.invokevirtual 22, 3) := by decide +kernel
theorem dL_areEntries_140 : decode cL_areEntries 140 = .ok (.aload_n 0, 1) := by decide +kernel
theorem dL_areEntries_141 : decode cL_areEntries 141 = .ok (.iload 5, 2) := by decide +kernel
theorem dL_areEntries_143 : decode cL_areEntries 143 = .ok (.iconst 4, 1) := by decide +kernel
theorem dL_areEntries_144 : decode cL_areEntries 144 = .ok (.invokevirtual 22, 3) := by decide +kernel
theorem dL_areEntries_147 : decode cL_areEntries 147 = .ok (.if_icmp .ne 23, 3) := by decide +kernel
theorem dL_areEntries_150 : decode cL_areEntries 150 = .ok (.aload_n 0, 1) := by decide +kernel
theorem dL_areEntries_151 : decode cL_areEntries 151 = .ok (.iload_n 3, 1) := by decide +kernel
theorem dL_areEntries_152 : decode cL_areEntries 152 = .ok (.iconst 5, 1) := by decide +kernel
theorem dL_areEntries_153 : decode cL_areEntries 153 = .ok (.invokevirtual 22, 3) := by decide +kernel
theorem dL_areEntries_156 : decode cL_areEntries 156 = .ok (.aload_n 0, 1) := by decide +kernel
theorem dL_areEntries_157 : decode cL_areEntries 157 = .ok (.iload 5, 2) := by decide +kernel
theorem dL_areEntries_159 : decode cL_areEntries 159 = .ok (.iconst 5, 1) := by decide +kernel
theorem dL_areEntries_160 : decode cL_areEntries 160 = .ok (.invokevirtual 22, 3) := by decide +kernel
theorem dL_areEntries_163 : decode cL_areEntries 163 = .ok (.if_icmp .ne 7, 3) := by decide +kernel
theorem dL_areEntries_166 : decode cL_areEntries 166 = .ok (.iconst 1, 1) := by decide +kernel
theorem dL_areEntries_167 : decode cL_areEntries 167 = .ok (.goto 4, 3) := by decide +kernel
theorem dL_areEntries_170 : decode cL_areEntries 170 = .ok (.iconst 0, 1) := by decide +kernel
theorem dL_areEntries_171 : decode cL_areEntries 171 = .ok (.istore 6, 2) := by decide +kernel
theorem dL_areEntries_173 : decode cL_areEntries 173 = .ok (.iload 4, 2) := by decide +kernel
theorem dL_areEntries_175 : decode cL_areEntries 175 = .ok (.iload 6, 2) := by decide +kernel
theorem dL_areEntries_177 : decode cL_areEntries 177 = .ok (.ifCond .eq 14, 3) := by decide +kernel
theorem dL_areEntries_180 : decode cL_areEntries 180 = .ok (.aload_n 0, 1) := by decide +kernel
theorem dL_areEntries_181 : decode cL_areEntries 181 = .ok (.iload 5, 2) := by decide +kernel
theorem dL_areEntries_183 : decode cL_areEntries 183 = .ok (.bipush 7, 2) := by decide +kernel
theorem dL_areEntries_185 : decode cL_areEntries 185 = .ok (.invokevirtual 22, 3) := by decide +kernel
theorem dL_areEntries_188 : decode cL_areEntries 188 = .ok (.goto 4, 3) := by decide +kernel
theorem dL_areEntries_191 : decode cL_areEntries 191 = .ok (.iconst 0, 1) := by decide +kernel
theorem dL_areEntries_192 : decode cL_areEntries 192 = .ok (.iadd, 1) := by decide +kernel
theorem dL_areEntries_193 : decode cL_areEntries 193 = .ok (.istore 4, 2) := by decide +kernel
theorem dL_areEntries_195 : decode cL_areEntries 195 = .ok (.iload_n 2, 1) := by decide +kernel
theorem dL_areEntries_196 : decode cL_areEntries 196 = .ok (.ifCond .eq 34, 3) := by decide +kernel
theorem dL_areEntries_199 : decode cL_areEntries 199 = .ok (.iload 6, 2) := by decide +kernel
theorem dL_areEntries_201 : decode cL_areEntries 201 = .ok (.ifCond .eq 25, 3) := by decide +kernel
theorem dL_areEntries_204 : decode cL_areEntries 204 = .ok (.iload_n 3, 1) := by decide +kernel
theorem dL_areEntries_205 : decode cL_areEntries 205 = .ok (.iload 5, 2) := by decide +kernel
theorem dL_areEntries_207 : decode cL_areEntries 207 = .ok (.if_icmp .eq 19, 3) := by decide +kernel
theorem dL_areEntries_210 : decode cL_areEntries 210 = .ok (.aload_n 0, 1) := by decide +kernel
theorem dL_areEntries_211 : decode cL_areEntries 211 = .ok (.iload_n 3, 1) := by decide +kernel
theorem dL_areEntries_212 : decode cL_areEntries 212 = .ok (.iconst 0, 1) := by decide +kernel
theorem dL_areEntries_213 : decode cL_areEntries 213 = .ok (.invokevirtual 22, 3) := by decide +kernel
theorem dL_areEntries_216 : decode cL_areEntries 216 = .ok (.aload_n 0, 1) := by decide +kernel
theorem dL_areEntries_217 : decode cL_areEntries 217 = .ok (.iload 5, 2) := by decide +kernel
theorem dL_areEntries_219 : decode cL_areEntries 219 = .ok (.iconst 0, 1) := by decide +kernel
theorem dL_areEntries_220 : decode cL_areEntries 220 = .ok (.invokevirtual 22, 3) := by decide +kernel
theorem dL_areEntries_223 : decode cL_areEntries 223 = .ok (.if_icmp .eq 7, 3) := by decide +kernel
theorem dL_areEntries_226 : decode cL_areEntries 226 = .ok (.iconst 1, 1) := by decide +kernel
theorem dL_areEntries_227 : decode cL_areEntries 227 = .ok (.goto 4, 3) := by decide +kernel
theorem dL_areEntries_230 : decode cL_areEntries 230 = .ok (.iconst 0, 1) := by decide +kernel
theorem dL_areEntries_231 : decode cL_areEntries 231 = .ok (.istore_n 2, 1) := by decide +kernel
theorem dL_areEntries_232 : decode cL_areEntries 232 = .ok (.iinc 5 1, 3) := by decide +kernel
theorem dL_areEntries_235 : decode cL_areEntries 235 = .ok (.goto (-159), 3) := by decide +kernel
theorem dL_areEntries_238 : decode cL_areEntries 238 = .ok (.aload_n 0, 1) := by decide +kernel
theorem dL_areEntries_239 : decode cL_areEntries 239 = .ok (.aload_n 0, 1) := by decide +kernel
theorem dL_areEntries_240 : decode cL_areEntries 240 = .ok (.iload_n 3, 1) := by decide +kernel
theorem dL_areEntries_241 : decode cL_areEntries 241 = .ok (.iconst 0, 1) := by decide +kernel
theorem dL_areEntries_242 : decode cL_areEntries 242 = .ok (.invokevirtual 22, 3) := by decide +kernel
theorem dL_areEntries_245 : decode cL_areEntries 245 = .ok (.invokevirtual 60, 3) := by decide +kernel
theorem dL_areEntries_248 : decode cL_areEntries 248 = .ok (.istore 5, 2) := by decide +kernel
theorem dL_areEntries_250 : decode cL_areEntries 250 = .ok (.iload_n 2, 1) := by decide +kernel
theorem dL_areEntries_251 : decode cL_areEntries 251 = .ok (.ifCond .eq 77, 3) := by decide +kernel
theorem dL_areEntries_254 : decode cL_areEntries 254 = .ok (.iload 4, 2) := by decide +kernel
theorem dL_areEntries_256 : decode cL_areEntries 256 = .ok (.iconst 1, 1) := by decide +kernel
theorem dL_areEntries_257 : decode cL_areEntries 257 = .ok (.if_icmp .ne 71, 3) := by decide +kernel
theorem dL_areEntries_260 : decode cL_areEntries 260 = .ok (.aload_n 0, 1) := by decide +kernel
theorem dL_areEntries_261 : decode cL_areEntries 261 = .ok (.iload_n 3, 1) := by decide +kernel
theorem dL_areEntries_262 : decode cL_areEntries 262 = .ok (.bipush 9, 2) := by decide +kernel
theorem dL_areEntries_264 : decode cL_areEntries 264 = .ok (.invokevirtual 22, 3) := by decide +kernel
theorem dL_areEntries_267 : decode cL_areEntries 267 = .ok (.aload_n 0, 1) := by decide +kernel
theorem dL_areEntries_268 : decode cL_areEntries 268 = .ok (.iload_n 3, 1) := by decide +kernel
theorem dL_areEntries_269 : decode cL_areEntries 269 = .ok (.iconst 1, 1) := by decide +kernel
theorem dL_areEntries_270 : decode cL_areEntries 270 = .ok (.invokevirtual 22, 3) := by decide +kernel
theorem dL_areEntries_273 : decode cL_areEntries 273 = .ok (.if_icmp .lt 55, 3) := by decide +kernel
theorem dL_areEntries_276 : decode cL_areEntries 276 = .ok (.iload 5, 2) := by decide +kernel
theorem dL_areEntries_278 : decode cL_areEntries 278 = .ok (.ifCond .lt 46, 3) := by decide +kernel
theorem dL_areEntries_281 : decode cL_areEntries 281 = .ok (.aload_n 0, 1) := by decide +kernel
theorem dL_areEntries_282 : decode cL_areEntries 282 = .ok (.iload 5, 2) := by decide +kernel
theorem dL_areEntries_284 : decode cL_areEntries 284 = .ok (.iconst 0, 1) := by decide +kernel
theorem dL_areEntries_285 : decode cL_areEntries 285 = .ok (.invokevirtual 22, 3) := by decide +kernel
theorem dL_areEntries_288 : decode cL_areEntries 288 = .ok (.aload_n 0, 1) := by decide +kernel
theorem dL_areEntries_289 : decode cL_areEntries 289 = .ok (.iload_n 3, 1) := by decide +kernel
theorem dL_areEntries_290 : decode cL_areEntries 290 = .ok (.iconst 0, 1) := by decide +kernel
theorem dL_areEntries_291 : decode cL_areEntries 291 = .ok (.invokevirtual 22, 3) := by decide +kernel
theorem dL_areEntries_294 : decode cL_areEntries 294 = .ok (.if_icmp .ne 34, 3) := by decide +kernel
theorem dL_areEntries_297 : decode cL_areEntries 297 = .ok (.aload_n 0, 1) := by decide +kernel
theorem dL_areEntries_298 : decode cL_areEntries 298 = .ok (.iload 5, 2) := by decide +kernel
theorem dL_areEntries_300 : decode cL_areEntries 300 = .ok (.bipush 7, 2) := by decide +kernel
theorem dL_areEntries_302 : decode cL_areEntries 302 = .ok (.invokevirtual 22, 3) := by decide +kernel
theorem dL_areEntries_305 : decode cL_areEntries 305 = .ok (.iconst 1, 1) := by decide +kernel
theorem dL_areEntries_306 : decode cL_areEntries 306 = .ok (.if_icmp .ne 22, 3) := by decide +kernel
theorem dL_areEntries_309 : decode cL_areEntries 309 = .ok (.aload_n 0, 1) := by decide +kernel
theorem dL_areEntries_310 : decode cL_areEntries 310 = .ok (.iload 5, 2) := by decide +kernel
theorem dL_areEntries_312 : decode cL_areEntries 312 = .ok (.iconst 1, 1) := by decide +kernel
theorem dL_areEntries_313 : decode cL_areEntries 313 = .ok (.invokevirtual 22, 3) := by decide +kernel
theorem dL_areEntries_316 : decode cL_areEntries 316 = .ok (.aload_n 0, 1) := by decide +kernel
theorem dL_areEntries_317 : decode cL_areEntries 317 = .ok (.iconst 1, 1) := by decide +kernel
theorem dL_areEntries_318 : decode cL_areEntries 318 = .ok (.invokevirtual 26, 3) := by decide +kernel
theorem dL_areEntries_321 : decode cL_areEntries 321 = .ok (.if_icmp .gt 7, 3) := by decide +kernel
theorem dL_areEntries_324 : decode cL_areEntries 324 = .ok (.iconst 1, 1) := by decide +kernel
theorem dL_areEntries_325 : decode cL_areEntries 325 = .ok (.goto 4, 3) := by decide +kernel
theorem dL_areEntries_328 : decode cL_areEntries 328 = .ok (.iconst 0, 1) := by decide +kernel
theorem dL_areEntries_329 : decode cL_areEntries 329 = .ok (.istore_n 2, 1) := by decide +kernel
theorem dL_areEntries_330 : decode cL_areEntries 330 = .ok (.iinc 3 1, 3) := by decide +kernel
theorem dL_areEntries_333 : decode cL_areEntries 333 = .ok (.goto (-286), 3) := by decide +kernel
theorem dL_areEntries_336 : decode cL_areEntries 336 = .ok (.iload_n 2, 1) := by decide +kernel
theorem dL_areEntries_337 : decode cL_areEntries 337 = .ok (.ifCond .eq 22, 3) := by decide +kernel
theorem dL_areEntries_340 : decode cL_areEntries 340 = .ok (.iload_n 1, 1) := by decide +kernel
theorem dL_areEntries_341 : decode cL_areEntries 341 = .ok (.aload_n 0, 1) := by decide +kernel
theorem dL_areEntries_342 : decode cL_areEntries 342 = .ok (.iconst 3, 1) := by decide +kernel
theorem dL_areEntries_343 : decode cL_areEntries 343 = .ok (.invokevirtual 13, 3) := by decide +kernel
theorem dL_areEntries_346 : decode cL_areEntries 346 = .ok (.iadd, 1) := by decide +kernel
theorem dL_areEntries_347 : decode cL_areEntries 347 = .ok (.aload_n 0, 1) := by decide +kernel
theorem dL_areEntries_348 : decode cL_areEntries 348 = .ok (.iconst 2, 1) := by decide +kernel
theorem dL_areEntries_349 : decode cL_areEntries 349 = .ok (.invokevirtual 13, 3) := by decide +kernel
theorem dL_areEntries_352 : decode cL_areEntries 352 = .ok (.if_icmp .ne 7, 3) := by decide +kernel
theorem dL_areEntries_355 : decode cL_areEntries 355 = .ok (.iconst 1, 1) := by decide +kernel
theorem dL_areEntries_356 : decode cL_areEntries 356 = .ok (.goto 4, 3) := by decide +kernel
theorem dL_areEntries_359 : decode cL_areEntries 359 = .ok (.iconst 0, 1) := by decide +kernel
theorem dL_areEntries_360 : decode cL_areEntries 360 = .ok (.ireturn, 1) := by decide +kernel
theorem dL_areBegun_0 : decode cL_areBegun 0 = .ok (.iconst 1, 1) := by decide +kernel
theorem dL_areBegun_1 : decode cL_areBegun 1 = .ok (.istore_n 3, 1) := by decide +kernel
theorem dL_areBegun_2 : decode cL_areBegun 2 = .ok (.iconst 1, 1) := by decide +kernel
theorem dL_areBegun_3 : decode cL_areBegun 3 = .ok (.istore 4, 2) := by decide +kernel
theorem dL_areBegun_5 : decode cL_areBegun 5 = .ok (.iload 4, 2) := by decide +kernel
theorem dL_areBegun_7 : decode cL_areBegun 7 = .ok (.iconst 4, 1) := by decide +kernel
theorem dL_areBegun_8 : decode cL_areBegun 8 = .ok (.if_icmp .ge 61, 3) := by decide +kernel
theorem dL_areBegun_11 : decode cL_areBegun 11 = .ok (.iload_n 3, 1) := by decide +kernel
theorem dL_areBegun_12 : decode cL_areBegun 12 = .ok (.ifCond .eq 49, 3) := by decide +kernel
theorem dL_areBegun_15 : decode cL_areBegun 15 = .ok (.aload_n 0, 1) := by decide +kernel
theorem dL_areBegun_16 : decode cL_areBegun 16 = .ok (.iload 4, 2) := by decide +kernel
theorem dL_areBegun_18 : decode cL_areBegun 18 = .ok (.invokevirtual 63, 3) := by decide +kernel
theorem dL_areBegun_21 : decode cL_areBegun 21 = .ok (.ifCond .lt 40, 3) := by decide +kernel
theorem dL_areBegun_24 : decode cL_areBegun 24 = .ok (.aload_n 0, 1) := by decide +kernel
theorem dL_areBegun_25 : decode cL_areBegun 25 = .ok (.iload 4, 2) := by decide +kernel
theorem dL_areBegun_27 : decode cL_areBegun 27 = .ok (.invokevirtual 63, 3) := by decide +kernel
theorem dL_areBegun_30 : decode cL_areBegun 30 = .ok (.aload_n 0, 1) := by decide +kernel
theorem dL_areBegun_31 : decode cL_areBegun 31 = .ok (.iconst 4, 1) := by decide +kernel
theorem dL_areBegun_32 : decode cL_areBegun 32 = .ok (.invokevirtual 13, 3) := by decide +kernel
theorem dL_areBegun_35 : decode cL_areBegun 35 = .ok (.if_icmp .gt 26, 3) := by decide +kernel
theorem dL_areBegun_38 : decode cL_areBegun 38 = .ok (.aload_n 0, 1) := by decide +kernel
theorem dL_areBegun_39 : decode cL_areBegun 39 = .ok (.iconst 0, 1) := by decide +kernel
theorem dL_areBegun_40 : decode cL_areBegun 40 = .ok (.invokevirtual 13, 3) := by decide +kernel
theorem dL_areBegun_43 : decode cL_areBegun 43 = .ok (.iload 4, 2) := by decide +kernel
theorem dL_areBegun_45 : decode cL_areBegun 45 = .ok (.if_icmp .ge 12, 3) := by decide +kernel
theorem dL_areBegun_48 : decode cL_areBegun 48 = .ok (.aload_n 0, 1) := by decide +kernel
theorem dL_areBegun_49 : decode cL_areBegun 49 = .ok (.iload 4, 2) := by decide +kernel
theorem dL_areBegun_51 : decode cL_areBegun 51 = .ok (.invokevirtual 63, 3) := by decide +kernel
theorem dL_areBegun_54 : decode cL_areBegun 54 = .ok (.ifCond .ne 7, 3) := by decide +kernel
theorem dL_areBegun_57 : decode cL_areBegun 57 = .ok (.iconst 1, 1) := by decide +kernel
theorem dL_areBegun_58 : decode cL_areBegun 58 = .ok (.goto 4, 3) := by decide +kernel
theorem dL_areBegun_61 : decode cL_areBegun 61 = .ok (.iconst 0, 1) := by decide +kernel
theorem dL_areBegun_62 : decode cL_areBegun 62 = .ok (.istore_n 3, 1) := by decide +kernel
theorem dL_areBegun_63 : decode cL_areBegun 63 = .ok (.iinc 4 1, 3) := by decide +kernel
theorem dL_areBegun_66 : decode cL_areBegun 66 = .ok (.goto (-61), 3) := by decide +kernel
theorem dL_areBegun_69 : decode cL_areBegun 69 = .ok (.aload_n 0, 1) := by decide +kernel
theorem dL_areBegun_70 : decode cL_areBegun 70 = .ok (.iconst 4, 1) := by decide +kernel
theorem dL_areBegun_71 : decode cL_areBegun 71 = .ok (.invokevirtual 13, 3) := by decide +kernel
theorem dL_areBegun_74 : decode cL_areBegun 74 = .ok (.ifCond .ne 20, 3) := by decide +kernel
theorem dL_areBegun_77 : decode cL_areBegun 77 = .ok (.iload_n 3, 1) := by decide +kernel
theorem dL_areBegun_78 : decode cL_areBegun 78 = .ok (.ifCond .eq 14, 3) := by decide +kernel
theorem dL_areBegun_81 : decode cL_areBegun 81 = .ok (.aload_n 0, 1) := by decide +kernel
theorem dL_areBegun_82 : decode cL_areBegun 82 = .ok (.invokevirtual 66, 3) := by decide +kernel
theorem dL_areBegun_85 : decode cL_areBegun 85 = .ok (.ifCond .ne 7, 3) := by decide +kernel
theorem dL_areBegun_88 : decode cL_areBegun 88 = .ok (.iconst 1, 1) := by decide +kernel
theorem dL_areBegun_89 : decode cL_areBegun 89 = .ok (.goto 4, 3) := by decide +kernel
theorem dL_areBegun_92 : decode cL_areBegun 92 = .ok (.iconst 0, 1) := by decide +kernel
theorem dL_areBegun_93 : decode cL_areBegun 93 = .ok (.ireturn, 1) := by decide +kernel
theorem dL_areBegun_94 : decode cL_areBegun 94 = .ok (.aload_n 0, 1) := by decide +kernel
theorem dL_areBegun_95 : decode cL_areBegun 95 = .ok (.iload_n 1, 1) := by decide +kernel
theorem dL_areBegun_96 : decode cL_areBegun 96 = .ok (.aload_n 0, 1) := by decide +kernel
theorem dL_areBegun_97 : decode cL_areBegun 97 = .ok (.iconst 4, 1) := by decide +kernel
theorem dL_areBegun_98 : decode cL_areBegun 98 = .ok (.invokevirtual 13, 3) := by decide +kernel
theorem dL_areBegun_101 : decode cL_areBegun 101 = .ok (.irem, 1) := by decide +kernel
theorem dL_areBegun_102 : decode cL_areBegun 102 = .ok (.iload_n 2, 1) := by decide +kernel
theorem dL_areBegun_103 : decode cL_areBegun 103 = .ok (.aload_n 0, 1) := by decide +kernel
theorem dL_areBegun_104 : decode cL_areBegun 104 = .ok (.iconst 4, 1) := by decide +kernel
theorem dL_areBegun_105 : decode cL_areBegun 105 = .ok (.invokevirtual 13, 3) := by decide +kernel
theorem dL_areBegun_108 : decode cL_areBegun 108 = .ok (.irem, 1) := by decide +kernel
theorem dL_areBegun_109 : decode cL_areBegun 109 = .ok (.invokevirtual 69, 3) := by decide +kernel
theorem dL_areBegun_112 : decode cL_areBegun 112 = .ok (.istore 4, 2) := by decide +kernel
theorem dL_areBegun_114 : decode cL_areBegun 114 = .ok (.aload_n 0, 1) := by decide +kernel
theorem dL_areBegun_115 : decode cL_areBegun 115 = .ok (.invokevirtual 66, 3) := by decide +kernel
theorem dL_areBegun_118 : decode cL_areBegun 118 = .ok (.istore 5, 2) := by decide +kernel
theorem dL_areBegun_120 : decode cL_areBegun 120 = .ok (.iload_n 3, 1) := by decide +kernel
theorem dL_areBegun_121 : decode cL_areBegun 121 = .ok (.ifCond .eq 49, 3) := by decide +kernel
theorem dL_areBegun_124 : decode cL_areBegun 124 = .ok (.iload 4, 2) := by decide +kernel
theorem dL_areBegun_126 : decode cL_areBegun 126 = .ok (.ifCond .lt 44, 3) := by decide +kernel
theorem dL_areBegun_129 : decode cL_areBegun 129 = .ok (.iload 4, 2) := by decide +kernel
theorem dL_areBegun_131 : decode cL_areBegun 131 = .ok (.iconst 2, 1) := by decide +kernel
theorem dL_areBegun_132 : decode cL_areBegun 132 = .ok (.if_icmp .gt 38, 3) := by decide +kernel
theorem dL_areBegun_135 : decode cL_areBegun 135 = .ok (.iload 5, 2) := by decide +kernel
theorem dL_areBegun_137 : decode cL_areBegun 137 = .ok (.iload 4, 2) := by decide +kernel
theorem dL_areBegun_139 : decode cL_areBegun 139 = .ok (.ifCond .le 7, 3) := by decide +kernel
theorem dL_areBegun_142 : decode cL_areBegun 142 = .ok (.iconst 1, 1) := by decide +kernel
theorem dL_areBegun_143 : decode cL_areBegun 143 = .ok (.goto 4, 3) := by decide +kernel
theorem dL_areBegun_146 : decode cL_areBegun 146 = .ok (.iconst 0, 1) := by decide +kernel
theorem dL_areBegun_147 : decode cL_areBegun 147 = .ok (.if_icmp .lt 23, 3) := by decide +kernel
theorem dL_areBegun_150 : decode cL_areBegun 150 = .ok (.iload 5, 2) := by decide +kernel
theorem dL_areBegun_152 : decode cL_areBegun 152 = .ok (.aload_n 0, 1) := by decide +kernel
theorem dL_areBegun_153 : decode cL_areBegun 153 = .ok (.iconst 4, 1) := by decide +kernel
theorem dL_areBegun_154 : decode cL_areBegun 154 = .ok (.invokevirtual 13, 3) := by decide +kernel
theorem dL_areBegun_157 : decode cL_areBegun 157 = .ok (.aload_n 0, 1) := by decide +kernel
theorem dL_areBegun_158 : decode cL_areBegun 158 = .ok (.iconst 4, 1) := by decide +kernel
theorem dL_areBegun_159 : decode cL_areBegun 159 = .ok (.invokevirtual 13, 3) := by decide +kernel
theorem dL_areBegun_162 : decode cL_areBegun 162 = .ok (.imul, 1) := by decide +kernel
theorem dL_areBegun_163 : decode cL_areBegun 163 = .ok (.if_icmp .gt 7, 3) := by decide +kernel
theorem dL_areBegun_166 : decode cL_areBegun 166 = .ok (.iconst 1, 1) := by decide +kernel
theorem dL_areBegun_167 : decode cL_areBegun 167 = .ok (.goto 4, 3) := by decide +kernel
theorem dL_areBegun_170 : decode cL_areBegun 170 = .ok (.iconst 0, 1) := by decide +kernel
theorem dL_areBegun_171 : decode cL_areBegun 171 = .ok (.ireturn, 1) := by decide +kernel
theorem dL_strikes_0 : decode cL_strikes 0 = .ok (.aload_n 0, 1) := by decide +kernel
theorem dL_strikes_1 : decode cL_strikes 1 = .ok (.iconst 0, 1) := by decide +kernel
theorem dL_strikes_2 : decode cL_strikes 2 = .ok (.invokevirtual 13, 3) := by decide +kernel
theorem dL_strikes_5 : decode cL_strikes 5 = .ok (.istore_n 2, 1) := by decide +kernel
theorem dL_strikes_6 : decode cL_strikes 6 = .ok (.aload_n 0, 1) := by decide +kernel
theorem dL_strikes_7 : decode cL_strikes 7 = .ok (.iconst 2, 1) := by decide +kernel
theorem dL_strikes_8 : decode cL_strikes 8 = .ok (.invokevirtual 13, 3) := by decide +kernel
theorem dL_strikes_11 : decode cL_strikes 11 = .ok (.istore_n 3, 1) := by decide +kernel
theorem dL_strikes_12 : decode cL_strikes 12 = .ok (.aload_n 0, 1) := by decide +kernel
theorem dL_strikes_13 : decode cL_strikes 13 = .ok (.iconst 5, 1) := by decide +kernel
theorem dL_strikes_14 : decode cL_strikes 14 = .ok (.invokevirtual 13, 3) := by decide +kernel
theorem dL_strikes_17 : decode cL_strikes 17 = .ok (.istore 4, 2) := by decide +kernel
theorem dL_strikes_19 : decode cL_strikes 19 = .ok (.aload_n 0, 1) := by decide +kernel
theorem dL_strikes_20 : decode cL_strikes 20 = .ok (.bipush 6, 2) := by decide +kernel
theorem dL_strikes_22 : decode cL_strikes 22 = .ok (.invokevirtual 13, 3) := by decide +kernel
theorem dL_strikes_25 : decode cL_strikes 25 = .ok (.istore 5, 2) := by decide +kernel
theorem dL_strikes_27 : decode cL_strikes 27 = .ok (.iload_n 1, 1) := by decide +kernel
theorem dL_strikes_28 : decode cL_strikes 28 = .ok (.ifCond .ne 137, 3) := by decide +kernel
theorem dL_strikes_31 : decode cL_strikes 31 = .ok (.iload_n 2, 1) := by decide +kernel
theorem dL_strikes_32 : decode cL_strikes 32 = .ok (.ifCond .ne 13, 3) := by decide +kernel
theorem dL_strikes_35 : decode cL_strikes 35 = .ok (.iload_n 3, 1) := by decide +kernel
theorem dL_strikes_36 : decode cL_strikes 36 = .ok (.ifCond .ne 7, 3) := by decide +kernel
theorem dL_strikes_39 : decode cL_strikes 39 = .ok (.iconst 1, 1) := by decide +kernel
theorem dL_strikes_40 : decode cL_strikes 40 = .ok (.goto 4, 3) := by decide +kernel
theorem dL_strikes_43 : decode cL_strikes 43 = .ok (.iconst 0, 1) := by decide +kernel
theorem dL_strikes_44 : decode cL_strikes 44 = .ok (.ireturn, 1) := by decide +kernel
theorem dL_strikes_45 : decode cL_strikes 45 = .ok (.aload_n 0, 1) := by decide +kernel
theorem dL_strikes_46 : decode cL_strikes 46 = .ok (.iconst 0, 1) := by decide +kernel
theorem dL_strikes_47 : decode cL_strikes 47 = .ok (.invokevirtual 19, 3) := by decide +kernel
theorem dL_strikes_50 : decode cL_strikes 50 = .ok (.istore 6, 2) := by decide +kernel
theorem dL_strikes_52 : decode cL_strikes 52 = .ok (.aload_n 0, 1) := by decide +kernel
theorem dL_strikes_53 : decode cL_strikes 53 = .ok (.iconst 0, 1) := by decide +kernel
theorem dL_strikes_54 : decode cL_strikes 54 = .ok (.invokevirtual 26, 3) := by decide +kernel
theorem dL_strikes_57 : decode cL_strikes 57 = .ok (.ifCond .ne 7, 3) := by decide +kernel
theorem dL_strikes_60 : decode cL_strikes 60 = .ok (.iconst 1, 1) := by decide +kernel
theorem dL_strikes_61 : decode cL_strikes 61 = .ok (.goto 11, 3) := by decide +kernel
theorem dL_strikes_64 : decode cL_strikes 64 = .ok (.aload_n 0, 1) := by decide +kernel
theorem dL_strikes_65 : decode cL_strikes 65 = .ok (.iload_n 3, 1) := by decide +kernel
theorem dL_strikes_66 : decode cL_strikes 66 = .ok (.iconst 1, 1) := by decide +kernel
theorem dL_strikes_67 : decode cL_strikes 67 = .ok (.isub, 1) := by decide +kernel
theorem dL_strikes_68 : decode cL_strikes 68 = .ok (.iconst 2, 1) := by decide +kernel
theorem dL_strikes_69 : decode cL_strikes 69 = .ok (.invokevirtual 41, 3) := by decide +kernel
theorem dL_strikes_72 : decode cL_strikes 72 = .ok (.istore 7, 2) := by decide +kernel
theorem dL_strikes_74 : decode cL_strikes 74 = .ok (.aload_n 0, 1) := by decide +kernel
theorem dL_strikes_75 : decode cL_strikes 75 = .ok (.iconst 0, 1) := by decide +kernel
theorem dL_strikes_76 : decode cL_strikes 76 = .ok (.invokevirtual 72, 3) := by decide +kernel
theorem dL_strikes_79 : decode cL_strikes 79 = .ok (.istore 8, 2) := by decide +kernel
theorem dL_strikes_81 : decode cL_strikes 81 = .ok (.iload 8, 2) := by decide +kernel
theorem dL_strikes_83 : decode cL_strikes 83 = .ok (.aload_n 0, 1) := by decide +kernel
theorem dL_strikes_84 : decode cL_strikes 84 = .ok (.iconst 2, 1) := by decide +kernel
theorem dL_strikes_85 : decode cL_strikes 85 = .ok (.invokevirtual 13, 3) := by decide +kernel
theorem dL_strikes_88 : decode cL_strikes 88 = .ok (.if_icmp .ne 75, 3) := by decide +kernel
theorem dL_strikes_91 : decode cL_strikes 91 = .ok (.aload_n 0, 1) := by decide +kernel
theorem dL_strikes_92 : decode cL_strikes 92 = .ok (.iconst 0, 1) := by decide +kernel
theorem dL_strikes_93 : decode cL_strikes 93 = .ok (.invokevirtual 13, 3) := by decide +kernel
theorem dL_strikes_96 : decode cL_strikes 96 = .ok (.iload_n 2, 1) := by decide +kernel
theorem dL_strikes_97 : decode cL_strikes 97 = .ok (.iload 7, 2) := by decide +kernel
theorem dL_strikes_99 : decode cL_strikes 99 = .ok (.isub, 1) := by decide +kernel
theorem dL_strikes_100 : decode cL_strikes 100 = .ok (.if_icmp .ne 63, 3) := by decide +kernel
theorem dL_strikes_103 : decode cL_strikes 103 = .ok (.aload_n 0, 1) := by decide +kernel
theorem dL_strikes_104 : decode cL_strikes 104 = .ok (.bipush 6, 2) := by decide +kernel
theorem dL_strikes_106 : decode cL_strikes 106 = .ok (.invokevirtual 13, 3) := by decide +kernel
theorem dL_strikes_109 : decode cL_strikes 109 = .ok (.iload 5, 2) := by decide +kernel
theorem dL_strikes_111 : decode cL_strikes 111 = .ok (.iload 7, 2) := by decide +kernel
theorem dL_strikes_113 : decode cL_strikes 113 = .ok (.iadd, 1) := by decide +kernel
theorem dL_strikes_114 : decode cL_strikes 114 = .ok (.if_icmp .ne 49, 3) := by decide +kernel
theorem dL_strikes_117 : decode cL_strikes 117 = .ok (.aload_n 0, 1) := by decide +kernel
theorem dL_strikes_118 : decode cL_strikes 118 = .ok (.iconst 5, 1) := by decide +kernel
theorem dL_strikes_119 : decode cL_strikes 119 = .ok (.invokevirtual 13, 3) := by decide +kernel
theorem dL_strikes_122 : decode cL_strikes 122 = .ok (.iload 4, 2) := by decide +kernel
theorem dL_strikes_124 : decode cL_strikes 124 = .ok (.if_icmp .ne 39, 3) := by decide +kernel
theorem dL_strikes_127 : decode cL_strikes 127 = .ok (.aload_n 0, 1) := by decide +kernel
theorem dL_strikes_128 : decode cL_strikes 128 = .ok (.iconst 0, 1) := by decide +kernel
theorem dL_strikes_129 : decode cL_strikes 129 = .ok (.invokevirtual 26, 3) := by decide +kernel
theorem dL_strikes_132 : decode cL_strikes 132 = .ok (.ifCond .eq 9, 3) := by decide +kernel
theorem dL_strikes_135 : decode cL_strikes 135 = .ok (.iload 8, 2) := by decide +kernel
theorem dL_strikes_137 : decode cL_strikes 137 = .ok (.iload_n 3, 1) := by decide +kernel
theorem dL_strikes_138 : decode cL_strikes 138 = .ok (.if_icmp .gt 25, 3) := by decide +kernel
theorem dL_strikes_141 : decode cL_strikes 141 = .ok (.aload_n 0, 1) := by decide +kernel
theorem dL_strikes_142 : decode cL_strikes 142 = .ok (.iconst 0, 1) := by decide +kernel
theorem dL_strikes_143 : decode cL_strikes 143 = .ok (.invokevirtual 13, 3) := by decide +kernel
theorem dL_strikes_146 : decode cL_strikes 146 = .ok (.ifCond .eq 13, 3) := by decide +kernel
theorem dL_strikes_149 : decode cL_strikes 149 = .ok (.aload_n 0, 1) := by decide +kernel
theorem dL_strikes_150 : decode cL_strikes 150 = .ok (.iconst 0, 1) := by decide +kernel
theorem dL_strikes_151 : decode cL_strikes 151 = .ok (.invokevirtual 19, 3) := by decide +kernel
theorem dL_strikes_154 : decode cL_strikes 154 = .ok (.iload 6, 2) := by decide +kernel
theorem dL_strikes_156 : decode cL_strikes 156 = .ok (.if_icmp .ne 7, 3) := by decide +kernel
theorem dL_strikes_159 : decode cL_strikes 159 = .ok (.iconst 1, 1) := by decide +kernel
theorem dL_strikes_160 : decode cL_strikes 160 = .ok (.goto 4, 3) := by decide +kernel
theorem dL_strikes_163 : decode cL_strikes 163 = .ok (.iconst 0, 1) := by decide +kernel
theorem dL_strikes_164 : decode cL_strikes 164 = .ok (.ireturn, 1) := by decide +kernel
theorem dL_strikes_165 : decode cL_strikes 165 = .ok (.aload_n 0, 1) := by decide +kernel
theorem dL_strikes_166 : decode cL_strikes 166 = .ok (.iload_n 1, 1) := by decide +kernel
theorem dL_strikes_167 : decode cL_strikes 167 = .ok (.iconst 0, 1) := by decide +kernel
theorem dL_strikes_168 : decode cL_strikes 168 = .ok (.invokevirtual 75, 3) := by decide +kernel
theorem dL_strikes_171 : decode cL_strikes 171 = .ok (.istore 6, 2) := by decide +kernel
theorem dL_strikes_173 : decode cL_strikes 173 = .ok (.aload_n 0, 1) := by decide +kernel
theorem dL_strikes_174 : decode cL_strikes 174 = .ok (.iload_n 1, 1) := by decide +kernel
theorem dL_strikes_175 : decode cL_strikes 175 = .ok (.iconst 1, 1) := by decide +kernel
theorem dL_strikes_176 : decode cL_strikes 176 = .ok (.invokevirtual 75, 3) := by decide +kernel
theorem dL_strikes_179 : decode cL_strikes 179 = .ok (.istore 7, 2) := by decide +kernel
theorem dL_strikes_181 : decode cL_strikes 181 = .ok (.aload_n 0, 1) := by decide +kernel
theorem dL_strikes_182 : decode cL_strikes 182 = .ok (.iload_n 1, 1) := by decide +kernel
theorem dL_strikes_183 : decode cL_strikes 183 = .ok (.iconst 2, 1) := by decide +kernel
theorem dL_strikes_184 : decode cL_strikes 184 = .ok (.invokevirtual 75, 3) := by decide +kernel
theorem dL_strikes_187 : decode cL_strikes 187 = .ok (.istore 8, 2) := by decide +kernel
theorem dL_strikes_189 : decode cL_strikes 189 = .ok (.iload_n 2, 1) := by decide +kernel
theorem dL_strikes_190 : decode cL_strikes 190 = .ok (.bipush 60, 2) := by decide +kernel
theorem dL_strikes_192 : decode cL_strikes 192 = .ok (.if_icmp .ne 15, 3) := by decide +kernel
theorem dL_strikes_195 : decode cL_strikes 195 = .ok (.iload 8, 2) := by decide +kernel
theorem dL_strikes_197 : decode cL_strikes 197 = .ok (.iconst 1, 1) := by decide +kernel
theorem dL_strikes_198 : decode cL_strikes 198 = .ok (.if_icmp .lt 7, 3) := by decide +kernel
theorem dL_strikes_201 : decode cL_strikes 201 = .ok (.iconst 1, 1) := by decide +kernel
theorem dL_strikes_202 : decode cL_strikes 202 = .ok (.goto 4, 3) := by decide +kernel
theorem dL_strikes_205 : decode cL_strikes 205 = .ok (.iconst 0, 1) := by decide +kernel
theorem dL_strikes_206 : decode cL_strikes 206 = .ok (.ireturn, 1) := by decide +kernel
theorem dL_strikes_207 : decode cL_strikes 207 = .ok (.aload_n 0, 1) := by decide +kernel
theorem dL_strikes_208 : decode cL_strikes 208 = .ok (.iload_n 1, 1) := by decide +kernel
theorem dL_strikes_209 : decode cL_strikes 209 = .ok (.invokevirtual 72, 3) := by decide +kernel
theorem dL_strikes_212 : decode cL_strikes 212 = .ok (.iload 8, 2) := by decide +kernel
theorem dL_strikes_214 : decode cL_strikes 214 = .ok (.if_icmp .ne 88, 3) := by decide +kernel
theorem dL_strikes_217 : decode cL_strikes 217 = .ok (.aload_n 0, 1) := by decide +kernel
theorem dL_strikes_218 : decode cL_strikes 218 = .ok (.iconst 2, 1) := by decide +kernel
theorem dL_strikes_219 : decode cL_strikes 219 = .ok (.invokevirtual 13, 3) := by decide +kernel
theorem dL_strikes_222 : decode cL_strikes 222 = .ok (.iload 8, 2) := by decide +kernel
theorem dL_strikes_224 : decode cL_strikes 224 = .ok (.if_icmp .ne 78, 3) := by decide +kernel
theorem dL_strikes_227 : decode cL_strikes 227 = .ok (.aload_n 0, 1) := by decide +kernel
theorem dL_strikes_228 : decode cL_strikes 228 = .ok (.iload 8, 2) := by decide +kernel
theorem dL_strikes_230 : decode cL_strikes 230 = .ok (.iconst 1, 1) := by decide +kernel
theorem dL_strikes_231 : decode cL_strikes 231 = .ok (.isub, 1) := by decide +kernel
theorem dL_strikes_232 : decode cL_strikes 232 = .ok (.iconst 0, 1) := by decide +kernel
theorem dL_strikes_233 : decode cL_strikes 233 = .ok (.invokevirtual 41, 3) := by decide +kernel
theorem dL_strikes_236 : decode cL_strikes 236 = .ok (.iload 6, 2) := by decide +kernel
theorem dL_strikes_238 : decode cL_strikes 238 = .ok (.if_icmp .ne 64, 3) := by decide +kernel
theorem dL_strikes_241 : decode cL_strikes 241 = .ok (.aload_n 0, 1) := by decide +kernel
theorem dL_strikes_242 : decode cL_strikes 242 = .ok (.iload 8, 2) := by decide +kernel
theorem dL_strikes_244 : decode cL_strikes 244 = .ok (.iconst 1, 1) := by decide +kernel
theorem dL_strikes_245 : decode cL_strikes 245 = .ok (.isub, 1) := by decide +kernel
theorem dL_strikes_246 : decode cL_strikes 246 = .ok (.iconst 2, 1) := by decide +kernel
theorem dL_strikes_247 : decode cL_strikes 247 = .ok (.invokevirtual 41, 3) := by decide +kernel
theorem dL_strikes_250 : decode cL_strikes 250 = .ok (.iload 7, 2) := by decide +kernel
theorem dL_strikes_252 : decode cL_strikes 252 = .ok (.if_icmp .ne 50, 3) := by decide +kernel
theorem dL_strikes_255 : decode cL_strikes 255 = .ok (.aload_n 0, 1) := by decide +kernel
theorem dL_strikes_256 : decode cL_strikes 256 = .ok (.iconst 0, 1) := by decide +kernel
theorem dL_strikes_257 : decode cL_strikes 257 = .ok (.invokevirtual 13, 3) := by decide +kernel
theorem dL_strikes_260 : decode cL_strikes 260 = .ok (.iload_n 2, 1) := by decide +kernel
theorem dL_strikes_261 : decode cL_strikes 261 = .ok (.iconst 1, 1) := by decide +kernel
theorem dL_strikes_262 : decode cL_strikes 262 = .ok (.iadd, 1) := by decide +kernel
theorem dL_strikes_263 : decode cL_strikes 263 = .ok (.if_icmp .ne 39, 3) := by decide +kernel
theorem dL_strikes_266 : decode cL_strikes 266 = .ok (.aload_n 0, 1) := by decide +kernel
theorem dL_strikes_267 : decode cL_strikes 267 = .ok (.iload_n 2, 1) := by decide +kernel
theorem dL_strikes_268 : decode cL_strikes 268 = .ok (.invokevirtual 19, 3) := by decide +kernel
theorem dL_strikes_271 : decode cL_strikes 271 = .ok (.iload_n 1, 1) := by decide +kernel
theorem dL_strikes_272 : decode cL_strikes 272 = .ok (.if_icmp .ne 30, 3) := by decide +kernel
theorem dL_strikes_275 : decode cL_strikes 275 = .ok (.aload_n 0, 1) := by decide +kernel
theorem dL_strikes_276 : decode cL_strikes 276 = .ok (.iconst 5, 1) := by decide +kernel
theorem dL_strikes_277 : decode cL_strikes 277 = .ok (.invokevirtual 13, 3) := by decide +kernel
theorem dL_strikes_280 : decode cL_strikes 280 = .ok (.iload 4, 2) := by decide +kernel
theorem dL_strikes_282 : decode cL_strikes 282 = .ok (.iconst 1, 1) := by decide +kernel
theorem dL_strikes_283 : decode cL_strikes 283 = .ok (.iadd, 1) := by decide +kernel
theorem dL_strikes_284 : decode cL_strikes 284 = .ok (.if_icmp .ne 18, 3) := by decide +kernel
theorem dL_strikes_287 : decode cL_strikes 287 = .ok (.aload_n 0, 1) := by decide +kernel
theorem dL_strikes_288 : decode cL_strikes 288 = .ok (.bipush 6, 2) := by decide +kernel
theorem dL_strikes_290 : decode cL_strikes 290 = .ok (.invokevirtual 13, 3) := by decide +kernel
theorem dL_strikes_293 : decode cL_strikes 293 = .ok (.iload 5, 2) := by decide +kernel
theorem dL_strikes_295 : decode cL_strikes 295 = .ok (.if_icmp .ne 7, 3) := by decide +kernel
theorem dL_strikes_298 : decode cL_strikes 298 = .ok (.iconst 1, 1) := by decide +kernel
theorem dL_strikes_299 : decode cL_strikes 299 = .ok (.goto 4, 3) := by decide +kernel
theorem dL_strikes_302 : decode cL_strikes 302 = .ok (.iconst 0, 1) := by decide +kernel
theorem dL_strikes_303 : decode cL_strikes 303 = .ok (.ireturn, 1) := by decide +kernel
theorem dL_acts_0 : decode cL_acts 0 = .ok (.iload_n 1, 1) := by decide +kernel
theorem dL_acts_1 : decode cL_acts 1 = .ok (.bipush 16, 2) := by decide +kernel
theorem dL_acts_3 : decode cL_acts 3 = .ok (.invokestatic 33, 3) := by decide +kernel
theorem dL_acts_6 : decode cL_acts 6 = .ok (.tableswitch 466 0 9 #[54, 54, 54, 158, 212, 233, 233, 358, 433, 433], 54) := by decide +kernel
theorem dL_acts_60 : decode cL_acts 60 = .ok (.iconst 1, 1) := by decide +kernel
theorem dL_acts_61 : decode cL_acts 61 = .ok (.iload_n 2, 1) := by decide +kernel
theorem dL_acts_62 : decode cL_acts 62 = .ok (.iconst 4, 1) := by decide +kernel
theorem dL_acts_63 : decode cL_acts 63 = .ok (.invokestatic 33, 3) := by decide +kernel
theorem dL_acts_66 : decode cL_acts 66 = .ok (.iadd, 1) := by decide +kernel
theorem dL_acts_67 : decode cL_acts 67 = .ok (.istore_n 3, 1) := by decide +kernel
theorem dL_acts_68 : decode cL_acts 68 = .ok (.iload_n 2, 1) := by decide +kernel
theorem dL_acts_69 : decode cL_acts 69 = .ok (.bipush 10, 2) := by decide +kernel
theorem dL_acts_71 : decode cL_acts 71 = .ok (.ishr, 1) := by decide +kernel
theorem dL_acts_72 : decode cL_acts 72 = .ok (.iconst 4, 1) := by decide +kernel
theorem dL_acts_73 : decode cL_acts 73 = .ok (.invokestatic 33, 3) := by decide +kernel
theorem dL_acts_76 : decode cL_acts 76 = .ok (.istore 4, 2) := by decide +kernel
theorem dL_acts_78 : decode cL_acts 78 = .ok (.aload_n 0, 1) := by decide +kernel
theorem dL_acts_79 : decode cL_acts 79 = .ok (.iconst 4, 1) := by decide +kernel
theorem dL_acts_80 : decode cL_acts 80 = .ok (.invokevirtual 13, 3) := by decide +kernel
theorem dL_acts_83 : decode cL_acts 83 = .ok (.bipush 24, 2) := by decide +kernel
theorem dL_acts_85 : decode cL_acts 85 = .ok (.if_icmp .eq 16, 3) := by decide +kernel
theorem dL_acts_88 : decode cL_acts 88 = .ok (.aload_n 0, 1) := by decide +kernel
theorem dL_acts_89 : decode cL_acts 89 = .ok (.iload_n 3, 1) := by decide +kernel
theorem dL_acts_90 : decode cL_acts 90 = .ok (.iload_n 2, 1) := by decide +kernel
theorem dL_acts_91 : decode cL_acts 91 = .ok (.iconst 2, 1) := by decide +kernel
theorem dL_acts_92 : decode cL_acts 92 = .ok (.ishr, 1) := by decide +kernel
theorem dL_acts_93 : decode cL_acts 93 = .ok (.iload 4, 2) := by decide +kernel
theorem dL_acts_95 : decode cL_acts 95 = .ok (.invokestatic 78, 3) := by decide +kernel
theorem dL_acts_98 : decode cL_acts 98 = .ok (.ifCond .eq 20, 3) := by decide +kernel
theorem dL_acts_101 : decode cL_acts 101 = .ok (.aload_n 0, 1) := by decide +kernel
theorem dL_acts_102 : decode cL_acts 102 = .ok (.iconst 0, 1) := by decide +kernel
theorem dL_acts_103 : decode cL_acts 103 = .ok (.iload_n 2, 1) := by decide +kernel
theorem dL_acts_104 : decode cL_acts 104 = .ok (.iconst 1, 1) := by decide +kernel
theorem dL_acts_105 : decode cL_acts 105 = .ok (.iand, 1) := by decide +kernel
theorem dL_acts_106 : decode cL_acts 106 = .ok (.invokevirtual 82, 3) := by decide +kernel
theorem dL_acts_109 : decode cL_acts 109 = .ok (.ifCond .lt 7, 3) := by decide +kernel
theorem dL_acts_112 : decode cL_acts 112 = .ok (.iconst 1, 1) := by decide +kernel
theorem dL_acts_113 : decode cL_acts 113 = .ok (.goto 4, 3) := by decide +kernel
theorem dL_acts_116 : decode cL_acts 116 = .ok (.iconst 0, 1) := by decide +kernel
theorem dL_acts_117 : decode cL_acts 117 = .ok (.ireturn, 1) := by decide +kernel
theorem dL_acts_118 : decode cL_acts 118 = .ok (.aload_n 0, 1) := by decide +kernel
theorem dL_acts_119 : decode cL_acts 119 = .ok (.iconst 4, 1) := by decide +kernel
theorem dL_acts_120 : decode cL_acts 120 = .ok (.invokevirtual 13, 3) := by decide +kernel
theorem dL_acts_123 : decode cL_acts 123 = .ok (.istore 5, 2) := by decide +kernel
theorem dL_acts_125 : decode cL_acts 125 = .ok (.aload_n 0, 1) := by decide +kernel
theorem dL_acts_126 : decode cL_acts 126 = .ok (.iload_n 3, 1) := by decide +kernel
theorem dL_acts_127 : decode cL_acts 127 = .ok (.iload_n 2, 1) := by decide +kernel
theorem dL_acts_128 : decode cL_acts 128 = .ok (.iconst 2, 1) := by decide +kernel
theorem dL_acts_129 : decode cL_acts 129 = .ok (.ishr, 1) := by decide +kernel
theorem dL_acts_130 : decode cL_acts 130 = .ok (.invokestatic 85, 3) := by decide +kernel
theorem dL_acts_133 : decode cL_acts 133 = .ok (.ifCond .le 29, 3) := by decide +kernel
theorem dL_acts_136 : decode cL_acts 136 = .ok (.aload_n 0, 1) := by decide +kernel
theorem dL_acts_137 : decode cL_acts 137 = .ok (.iload 4, 2) := by decide +kernel
theorem dL_acts_139 : decode cL_acts 139 = .ok (.invokevirtual 89, 3) := by decide +kernel
theorem dL_acts_142 : decode cL_acts 142 = .ok (.iload 5, 2) := by decide +kernel
theorem dL_acts_144 : decode cL_acts 144 = .ok (.if_icmp .ne 18, 3) := by decide +kernel
theorem dL_acts_147 : decode cL_acts 147 = .ok (.aload_n 0, 1) := by decide +kernel
theorem dL_acts_148 : decode cL_acts 148 = .ok (.iload 5, 2) := by decide +kernel
theorem dL_acts_150 : decode cL_acts 150 = .ok (.bipush 6, 2) := by decide +kernel
theorem dL_acts_152 : decode cL_acts 152 = .ok (.invokevirtual 22, 3) := by decide +kernel
theorem dL_acts_155 : decode cL_acts 155 = .ok (.ifCond .ne 7, 3) := by decide +kernel
theorem dL_acts_158 : decode cL_acts 158 = .ok (.iconst 1, 1) := by decide +kernel
theorem dL_acts_159 : decode cL_acts 159 = .ok (.goto 4, 3) := by decide +kernel
theorem dL_acts_162 : decode cL_acts 162 = .ok (.iconst 0, 1) := by decide +kernel
theorem dL_acts_163 : decode cL_acts 163 = .ok (.ireturn, 1) := by decide +kernel
theorem dL_acts_164 : decode cL_acts 164 = .ok (.aload_n 0, 1) := by decide +kernel
theorem dL_acts_165 : decode cL_acts 165 = .ok (.iconst 4, 1) := by decide +kernel
theorem dL_acts_166 : decode cL_acts 166 = .ok (.invokevirtual 13, 3) := by decide +kernel
theorem dL_acts_169 : decode cL_acts 169 = .ok (.ifCond .ne 22, 3) := by decide +kernel
theorem dL_acts_172 : decode cL_acts 172 = .ok (.aload_n 0, 1) := by decide +kernel
theorem dL_acts_173 : decode cL_acts 173 = .ok (.iconst 0, 1) := by decide +kernel
theorem dL_acts_174 : decode cL_acts 174 = .ok (.iload_n 2, 1) := by decide +kernel
theorem dL_acts_175 : decode cL_acts 175 = .ok (.iconst 1, 1) := by decide +kernel
theorem dL_acts_176 : decode cL_acts 176 = .ok (.iand, 1) := by decide +kernel
theorem dL_acts_177 : decode cL_acts 177 = .ok (.invokevirtual 82, 3) := by decide +kernel
theorem dL_acts_180 : decode cL_acts 180 = .ok (.ifCond .lt 7, 3) := by decide +kernel
theorem dL_acts_183 : decode cL_acts 183 = .ok (.iconst 1, 1) := by decide +kernel
theorem dL_acts_184 : decode cL_acts 184 = .ok (.goto 33, 3) := by decide +kernel
theorem dL_acts_187 : decode cL_acts 187 = .ok (.iconst 0, 1) := by decide +kernel
theorem dL_acts_188 : decode cL_acts 188 = .ok (.goto 29, 3) := by decide +kernel
theorem dL_acts_191 : decode cL_acts 191 = .ok (.aload_n 0, 1) := by decide +kernel
theorem dL_acts_192 : decode cL_acts 192 = .ok (.iload_n 2, 1) := by decide +kernel
theorem dL_acts_193 : decode cL_acts 193 = .ok (.aload_n 0, 1) := by decide +kernel
theorem dL_acts_194 : decode cL_acts 194 = .ok (.iconst 4, 1) := by decide +kernel
theorem dL_acts_195 : decode cL_acts 195 = .ok (.invokevirtual 13, 3) := by decide +kernel
theorem dL_acts_198 : decode cL_acts 198 = .ok (.invokestatic 33, 3) := by decide +kernel
theorem dL_acts_201 : decode cL_acts 201 = .ok (.invokevirtual 92, 3) := by decide +kernel
theorem dL_acts_204 : decode cL_acts 204 = .ok (.aload_n 0, 1) := by decide +kernel
theorem dL_acts_205 : decode cL_acts 205 = .ok (.iconst 4, 1) := by decide +kernel
theorem dL_acts_206 : decode cL_acts 206 = .ok (.invokevirtual 13, 3) := by decide +kernel
theorem dL_acts_209 : decode cL_acts 209 = .ok (.if_icmp .ne 7, 3) := by decide +kernel
theorem dL_acts_212 : decode cL_acts 212 = .ok (.iconst 1, 1) := by decide +kernel
theorem dL_acts_213 : decode cL_acts 213 = .ok (.goto 4, 3) := by decide +kernel
theorem dL_acts_216 : decode cL_acts 216 = .ok (.iconst 0, 1) := by decide +kernel
theorem dL_acts_217 : decode cL_acts 217 = .ok (.ireturn, 1) := by decide +kernel
theorem dL_acts_218 : decode cL_acts 218 = .ok (.aload_n 0, 1) := by decide +kernel
theorem dL_acts_219 : decode cL_acts 219 = .ok (.iconst 1, 1) := by decide +kernel
theorem dL_acts_220 : decode cL_acts 220 = .ok (.iconst 1, 1) := by decide +kernel
theorem dL_acts_221 : decode cL_acts 221 = .ok (.iload_n 2, 1) := by decide +kernel
theorem dL_acts_222 : decode cL_acts 222 = .ok (.iconst 4, 1) := by decide +kernel
theorem dL_acts_223 : decode cL_acts 223 = .ok (.invokestatic 33, 3) := by decide +kernel
theorem dL_acts_226 : decode cL_acts 226 = .ok (.iadd, 1) := by decide +kernel
theorem dL_acts_227 : decode cL_acts 227 = .ok (.invokevirtual 82, 3) := by decide +kernel
theorem dL_acts_230 : decode cL_acts 230 = .ok (.ifCond .le 7, 3) := by decide +kernel
theorem dL_acts_233 : decode cL_acts 233 = .ok (.iconst 1, 1) := by decide +kernel
theorem dL_acts_234 : decode cL_acts 234 = .ok (.goto 4, 3) := by decide +kernel
theorem dL_acts_237 : decode cL_acts 237 = .ok (.iconst 0, 1) := by decide +kernel
theorem dL_acts_238 : decode cL_acts 238 = .ok (.ireturn, 1) := by decide +kernel
theorem dL_acts_239 : decode cL_acts 239 = .ok (.aload_n 0, 1) := by decide +kernel
theorem dL_acts_240 : decode cL_acts 240 = .ok (.iconst 2, 1) := by decide +kernel
theorem dL_acts_241 : decode cL_acts 241 = .ok (.invokevirtual 13, 3) := by decide +kernel
theorem dL_acts_244 : decode cL_acts 244 = .ok (.ifCond .ne 7, 3) := by decide +kernel
theorem dL_acts_247 : decode cL_acts 247 = .ok (.iconst 0, 1) := by decide +kernel
theorem dL_acts_248 : decode cL_acts 248 = .ok (.goto 12, 3) := by decide +kernel
theorem dL_acts_251 : decode cL_acts 251 = .ok (.iload_n 2, 1) := by decide +kernel
theorem dL_acts_252 : decode cL_acts 252 = .ok (.aload_n 0, 1) := by decide +kernel
theorem dL_acts_253 : decode cL_acts 253 = .ok (.iconst 2, 1) := by decide +kernel
theorem dL_acts_254 : decode cL_acts 254 = .ok (.invokevirtual 13, 3) := by decide +kernel
theorem dL_acts_257 : decode cL_acts 257 = .ok (.invokestatic 33, 3) := by decide +kernel
theorem dL_acts_260 : decode cL_acts 260 = .ok (.istore 6, 2) := by decide +kernel
theorem dL_acts_262 : decode cL_acts 262 = .ok (.aload_n 0, 1) := by decide +kernel
theorem dL_acts_263 : decode cL_acts 263 = .ok (.iconst 2, 1) := by decide +kernel
theorem dL_acts_264 : decode cL_acts 264 = .ok (.invokevirtual 13, 3) := by decide +kernel
theorem dL_acts_267 : decode cL_acts 267 = .ok (.ifCond .eq 13, 3) := by decide +kernel
theorem dL_acts_270 : decode cL_acts 270 = .ok (.aload_n 0, 1) := by decide +kernel
theorem dL_acts_271 : decode cL_acts 271 = .ok (.iload 6, 2) := by decide +kernel
theorem dL_acts_273 : decode cL_acts 273 = .ok (.iconst 3, 1) := by decide +kernel
theorem dL_acts_274 : decode cL_acts 274 = .ok (.invokevirtual 41, 3) := by decide +kernel
theorem dL_acts_277 : decode cL_acts 277 = .ok (.ifCond .ge 20, 3) := by decide +kernel
theorem dL_acts_280 : decode cL_acts 280 = .ok (.aload_n 0, 1) := by decide +kernel
theorem dL_acts_281 : decode cL_acts 281 = .ok (.iconst 0, 1) := by decide +kernel
theorem dL_acts_282 : decode cL_acts 282 = .ok (.iload_n 2, 1) := by decide +kernel
theorem dL_acts_283 : decode cL_acts 283 = .ok (.iconst 1, 1) := by decide +kernel
theorem dL_acts_284 : decode cL_acts 284 = .ok (.iand, 1) := by decide +kernel
theorem dL_acts_285 : decode cL_acts 285 = .ok (.invokevirtual 82, 3) := by decide +kernel
theorem dL_acts_288 : decode cL_acts 288 = .ok (.ifCond .lt 7, 3) := by decide +kernel
theorem dL_acts_291 : decode cL_acts 291 = .ok (.iconst 1, 1) := by decide +kernel
theorem dL_acts_292 : decode cL_acts 292 = .ok (.goto 4, 3) := by decide +kernel
theorem dL_acts_295 : decode cL_acts 295 = .ok (.iconst 0, 1) := by decide +kernel
theorem dL_acts_296 : decode cL_acts 296 = .ok (.ireturn, 1) := by decide +kernel
theorem dL_acts_297 : decode cL_acts 297 = .ok (.aload_n 0, 1) := by decide +kernel
theorem dL_acts_298 : decode cL_acts 298 = .ok (.iload 6, 2) := by decide +kernel
theorem dL_acts_300 : decode cL_acts 300 = .ok (.iconst 3, 1) := by decide +kernel
theorem dL_acts_301 : decode cL_acts 301 = .ok (.invokevirtual 41, 3) := by decide +kernel
theorem dL_acts_304 : decode cL_acts 304 = .ok (.istore 7, 2) := by decide +kernel
theorem dL_acts_306 : decode cL_acts 306 = .ok (.aload_n 0, 1) := by decide +kernel
theorem dL_acts_307 : decode cL_acts 307 = .ok (.iload 7, 2) := by decide +kernel
theorem dL_acts_309 : decode cL_acts 309 = .ok (.bipush 6, 2) := by decide +kernel
theorem dL_acts_311 : decode cL_acts 311 = .ok (.invokevirtual 22, 3) := by decide +kernel
theorem dL_acts_314 : decode cL_acts 314 = .ok (.istore 8, 2) := by decide +kernel
theorem dL_acts_316 : decode cL_acts 316 = .ok (.aload_n 0, 1) := by decide +kernel
theorem dL_acts_317 : decode cL_acts 317 = .ok (.iload 6, 2) := by decide +kernel
theorem dL_acts_319 : decode cL_acts 319 = .ok (.iload 7, 2) := by decide +kernel
theorem dL_acts_321 : decode cL_acts 321 = .ok (.invokevirtual 95, 3) := by decide +kernel
theorem dL_acts_324 : decode cL_acts 324 = .ok (.iload 8, 2) := by decide +kernel
theorem dL_acts_326 : decode cL_acts 326 = .ok (.iconst 1, 1) := by decide +kernel
theorem dL_acts_327 : decode cL_acts 327 = .ok (.iadd, 1) := by decide +kernel
theorem dL_acts_328 : decode cL_acts 328 = .ok (.if_icmp .ne 34, 3) := by decide +kernel
theorem dL_acts_331 : decode cL_acts 331 = .ok (.aload_n 0, 1) := by decide +kernel
theorem dL_acts_332 : decode cL_acts 332 = .ok (.iload 7, 2) := by decide +kernel
theorem dL_acts_334 : decode cL_acts 334 = .ok (.bipush 6, 2) := by decide +kernel
theorem dL_acts_336 : decode cL_acts 336 = .ok (.invokevirtual 22, 3) := by decide +kernel
theorem dL_acts_339 : decode cL_acts 339 = .ok (.iload 8, 2) := by decide +kernel
theorem dL_acts_341 : decode cL_acts 341 = .ok (.iconst 1, 1) := by decide +kernel
theorem dL_acts_342 : decode cL_acts 342 = .ok (.iadd, 1) := by decide +kernel
theorem dL_acts_343 : decode cL_acts 343 = .ok (.if_icmp .ne 19, 3) := by decide +kernel
theorem dL_acts_346 : decode cL_acts 346 = .ok (.aload_n 0, 1) := by decide +kernel
theorem dL_acts_347 : decode cL_acts 347 = .ok (.iload 6, 2) := by decide +kernel
theorem dL_acts_349 : decode cL_acts 349 = .ok (.iconst 3, 1) := by decide +kernel
theorem dL_acts_350 : decode cL_acts 350 = .ok (.invokevirtual 41, 3) := by decide +kernel
theorem dL_acts_353 : decode cL_acts 353 = .ok (.iload 7, 2) := by decide +kernel
theorem dL_acts_355 : decode cL_acts 355 = .ok (.if_icmp .ne 7, 3) := by decide +kernel
theorem dL_acts_358 : decode cL_acts 358 = .ok (.iconst 1, 1) := by decide +kernel
theorem dL_acts_359 : decode cL_acts 359 = .ok (.goto 4, 3) := by decide +kernel
theorem dL_acts_362 : decode cL_acts 362 = .ok (.iconst 0, 1) := by decide +kernel
theorem dL_acts_363 : decode cL_acts 363 = .ok (.ireturn, 1) := by decide +kernel
theorem dL_acts_364 : decode cL_acts 364 = .ok (.iload_n 2, 1) := by decide +kernel
theorem dL_acts_365 : decode cL_acts 365 = .ok (.bipush 7, 2) := by decide +kernel
theorem dL_acts_367 : decode cL_acts 367 = .ok (.iand, 1) := by decide +kernel
theorem dL_acts_368 : decode cL_acts 368 = .ok (.ifCond .ne 23, 3) := by decide +kernel
theorem dL_acts_371 : decode cL_acts 371 = .ok (.aload_n 0, 1) := by decide +kernel
theorem dL_acts_372 : decode cL_acts 372 = .ok (.invokevirtual 98, 3) := by decide +kernel
theorem dL_acts_375 : decode cL_acts 375 = .ok (.aload_n 0, 1) := by decide +kernel
theorem dL_acts_376 : decode cL_acts 376 = .ok (.iconst 0, 1) := by decide +kernel
theorem dL_acts_377 : decode cL_acts 377 = .ok (.invokevirtual 13, 3) := by decide +kernel
theorem dL_acts_380 : decode cL_acts 380 = .ok (.if_icmp .ne 7, 3) := by decide +kernel
theorem dL_acts_383 : decode cL_acts 383 = .ok (.iconst 1, 1) := by decide +kernel
theorem dL_acts_384 : decode cL_acts 384 = .ok (.goto 54, 3) := by decide +kernel
theorem dL_acts_387 : decode cL_acts 387 = .ok (.iconst 0, 1) := by decide +kernel
theorem dL_acts_388 : decode cL_acts 388 = .ok (.goto 50, 3) := by decide +kernel
theorem dL_acts_391 : decode cL_acts 391 = .ok (.iload_n 2, 1) := by decide +kernel
theorem dL_acts_392 : decode cL_acts 392 = .ok (.bipush 7, 2) := by decide +kernel
theorem dL_acts_394 : decode cL_acts 394 = .ok (.iand, 1) := by decide +kernel
theorem dL_acts_395 : decode cL_acts 395 = .ok (.iconst 1, 1) := by decide +kernel
theorem dL_acts_396 : decode cL_acts 396 = .ok (.if_icmp .ne 26, 3) := by decide +kernel
theorem dL_acts_399 : decode cL_acts 399 = .ok (.aload_n 0, 1) := by decide +kernel
theorem dL_acts_400 : decode cL_acts 400 = .ok (.invokevirtual 101, 3) := by decide +kernel
theorem dL_acts_403 : decode cL_acts 403 = .ok (.ifCond .lt 15, 3) := by decide +kernel
theorem dL_acts_406 : decode cL_acts 406 = .ok (.aload_n 0, 1) := by decide +kernel
theorem dL_acts_407 : decode cL_acts 407 = .ok (.iconst 2, 1) := by decide +kernel
theorem dL_acts_408 : decode cL_acts 408 = .ok (.invokevirtual 13, 3) := by decide +kernel
theorem dL_acts_411 : decode cL_acts 411 = .ok (.ifCond .ne 7, 3) := by decide +kernel
theorem dL_acts_414 : decode cL_acts 414 = .ok (.iconst 1, 1) := by decide +kernel
theorem dL_acts_415 : decode cL_acts 415 = .ok (.goto 23, 3) := by decide +kernel
theorem dL_acts_418 : decode cL_acts 418 = .ok (.iconst 0, 1) := by decide +kernel
theorem dL_acts_419 : decode cL_acts 419 = .ok (.goto 19, 3) := by decide +kernel
theorem dL_acts_422 : decode cL_acts 422 = .ok (.aload_n 0, 1) := by decide +kernel
theorem dL_acts_423 : decode cL_acts 423 = .ok (.iconst 0, 1) := by decide +kernel
theorem dL_acts_424 : decode cL_acts 424 = .ok (.iload_n 2, 1) := by decide +kernel
theorem dL_acts_425 : decode cL_acts 425 = .ok (.iconst 1, 1) := by decide +kernel
theorem dL_acts_426 : decode cL_acts 426 = .ok (.iand, 1) := by decide +kernel
theorem dL_acts_427 : decode cL_acts 427 = .ok (.invokevirtual 82, 3) := by decide +kernel
theorem dL_acts_430 : decode cL_acts 430 = .ok (.ifCond .lt 7, 3) := by decide +kernel
theorem dL_acts_433 : decode cL_acts 433 = .ok (.iconst 1, 1) := by decide +kernel
theorem dL_acts_434 : decode cL_acts 434 = .ok (.goto 4, 3) := by decide +kernel
theorem dL_acts_437 : decode cL_acts 437 = .ok (.iconst 0, 1) := by decide +kernel
theorem dL_acts_438 : decode cL_acts 438 = .ok (.ireturn, 1) := by decide +kernel
theorem dL_acts_439 : decode cL_acts 439 = .ok (.aload_n 0, 1) := by decide +kernel
theorem dL_acts_440 : decode cL_acts 440 = .ok (.iconst 0, 1) := by decide +kernel
theorem dL_acts_441 : decode cL_acts 441 = .ok (.invokevirtual 13, 3) := by decide +kernel
theorem dL_acts_444 : decode cL_acts 444 = .ok (.ifCond .ne 22, 3) := by decide +kernel
theorem dL_acts_447 : decode cL_acts 447 = .ok (.aload_n 0, 1) := by decide +kernel
theorem dL_acts_448 : decode cL_acts 448 = .ok (.iconst 0, 1) := by decide +kernel
theorem dL_acts_449 : decode cL_acts 449 = .ok (.iload_n 2, 1) := by decide +kernel
theorem dL_acts_450 : decode cL_acts 450 = .ok (.iconst 1, 1) := by decide +kernel
theorem dL_acts_451 : decode cL_acts 451 = .ok (.iand, 1) := by decide +kernel
theorem dL_acts_452 : decode cL_acts 452 = .ok (.invokevirtual 82, 3) := by decide +kernel
theorem dL_acts_455 : decode cL_acts 455 = .ok (.ifCond .lt 7, 3) := by decide +kernel
theorem dL_acts_458 : decode cL_acts 458 = .ok (.iconst 1, 1) := by decide +kernel
theorem dL_acts_459 : decode cL_acts 459 = .ok (.goto 12, 3) := by decide +kernel
theorem dL_acts_462 : decode cL_acts 462 = .ok (.iconst 0, 1) := by decide +kernel
theorem dL_acts_463 : decode cL_acts 463 = .ok (.goto 8, 3) := by decide +kernel
theorem dL_acts_466 : decode cL_acts 466 = .ok (.aload_n 0, 1) := by decide +kernel
theorem dL_acts_467 : decode cL_acts 467 = .ok (.iconst 0, 1) := by decide +kernel
theorem dL_acts_468 : decode cL_acts 468 = .ok (.invokestatic 104, 3) := by decide +kernel
theorem dL_acts_471 : decode cL_acts 471 = .ok (.ireturn, 1) := by decide +kernel
theorem dL_acts_472 : decode cL_acts 472 = .ok (.aload_n 0, 1) := by decide +kernel
theorem dL_acts_473 : decode cL_acts 473 = .ok (.iconst 0, 1) := by decide +kernel
theorem dL_acts_474 : decode cL_acts 474 = .ok (.invokevirtual 13, 3) := by decide +kernel
theorem dL_acts_477 : decode cL_acts 477 = .ok (.bipush 60, 2) := by decide +kernel
theorem dL_acts_479 : decode cL_acts 479 = .ok (.if_icmp .ne 20, 3) := by decide +kernel
theorem dL_acts_482 : decode cL_acts 482 = .ok (.aload_n 0, 1) := by decide +kernel
theorem dL_acts_483 : decode cL_acts 483 = .ok (.invokevirtual 101, 3) := by decide +kernel
theorem dL_acts_486 : decode cL_acts 486 = .ok (.bipush 60, 2) := by decide +kernel
theorem dL_acts_488 : decode cL_acts 488 = .ok (.if_icmp .ne 7, 3) := by decide +kernel
theorem dL_acts_491 : decode cL_acts 491 = .ok (.iconst 1, 1) := by decide +kernel
theorem dL_acts_492 : decode cL_acts 492 = .ok (.goto 42, 3) := by decide +kernel
theorem dL_acts_495 : decode cL_acts 495 = .ok (.iconst 0, 1) := by decide +kernel
theorem dL_acts_496 : decode cL_acts 496 = .ok (.goto 38, 3) := by decide +kernel
theorem dL_acts_499 : decode cL_acts 499 = .ok (.aload_n 0, 1) := by decide +kernel
theorem dL_acts_500 : decode cL_acts 500 = .ok (.iload_n 2, 1) := by decide +kernel
theorem dL_acts_501 : decode cL_acts 501 = .ok (.bipush 15, 2) := by decide +kernel
theorem dL_acts_503 : decode cL_acts 503 = .ok (.iand, 1) := by decide +kernel
theorem dL_acts_504 : decode cL_acts 504 = .ok (.ifCond .ne 17, 3) := by decide +kernel
theorem dL_acts_507 : decode cL_acts 507 = .ok (.iconst 1, 1) := by decide +kernel
theorem dL_acts_508 : decode cL_acts 508 = .ok (.iload_n 2, 1) := by decide +kernel
theorem dL_acts_509 : decode cL_acts 509 = .ok (.iconst 4, 1) := by decide +kernel
theorem dL_acts_510 : decode cL_acts 510 = .ok (.ishr, 1) := by decide +kernel
theorem dL_acts_511 : decode cL_acts 511 = .ok (.sipush 1023, 3) := by decide +kernel
theorem dL_acts_514 : decode cL_acts 514 = .ok (.invokestatic 33, 3) := by decide +kernel
theorem dL_acts_517 : decode cL_acts 517 = .ok (.iadd, 1) := by decide +kernel
theorem dL_acts_518 : decode cL_acts 518 = .ok (.goto 13, 3) := by decide +kernel
theorem dL_acts_521 : decode cL_acts 521 = .ok (.iconst 1, 1) := by decide +kernel
theorem dL_acts_522 : decode cL_acts 522 = .ok (.iload_n 2, 1) := by decide +kernel
theorem dL_acts_523 : decode cL_acts 523 = .ok (.iconst 4, 1) := by decide +kernel
theorem dL_acts_524 : decode cL_acts 524 = .ok (.ishr, 1) := by decide +kernel
theorem dL_acts_525 : decode cL_acts 525 = .ok (.bipush 7, 2) := by decide +kernel
theorem dL_acts_527 : decode cL_acts 527 = .ok (.invokestatic 33, 3) := by decide +kernel
theorem dL_acts_530 : decode cL_acts 530 = .ok (.iadd, 1) := by decide +kernel
theorem dL_acts_531 : decode cL_acts 531 = .ok (.invokestatic 104, 3) := by decide +kernel
theorem dL_acts_534 : decode cL_acts 534 = .ok (.ireturn, 1) := by decide +kernel
theorem dL_law_0 : decode cL_law 0 = .ok (.new 14, 3) := by decide +kernel
theorem dL_law_3 : decode cL_law 3 = .ok (.dup, 1) := by decide +kernel
theorem dL_law_4 : decode cL_law 4 = .ok (.invokespecial 108, 3) := by decide +kernel
theorem dL_law_7 : decode cL_law 7 = .ok (.astore_n 1, 1) := by decide +kernel
theorem dL_law_8 : decode cL_law 8 = .ok (.aload_n 1, 1) := by decide +kernel
theorem dL_law_9 : decode cL_law 9 = .ok (.invokevirtual 109, 3) := by decide +kernel
theorem dL_law_12 : decode cL_law 12 = .ok (.ifCond .ne 14, 3) := by decide +kernel
theorem dL_law_15 : decode cL_law 15 = .ok (.aload_n 1, 1) := by decide +kernel
theorem dL_law_16 : decode cL_law 16 = .ok (.invokestatic 112, 3) := by decide +kernel
theorem dL_law_19 : decode cL_law 19 = .ok (.ifCond .eq 7, 3) := by decide +kernel
theorem dL_law_22 : decode cL_law 22 = .ok (.iconst 1, 1) := by decide +kernel
theorem dL_law_23 : decode cL_law 23 = .ok (.goto 4, 3) := by decide +kernel
theorem dL_law_26 : decode cL_law 26 = .ok (.iconst 0, 1) := by decide +kernel
theorem dL_law_27 : decode cL_law 27 = .ok (.istore_n 2, 1) := by decide +kernel
theorem dL_law_28 : decode cL_law 28 = .ok (.iconst 0, 1) := by decide +kernel
theorem dL_law_29 : decode cL_law 29 = .ok (.istore_n 3, 1) := by decide +kernel
theorem dL_law_30 : decode cL_law 30 = .ok (.iload_n 3, 1) := by decide +kernel
theorem dL_law_31 : decode cL_law 31 = .ok (.bipush 56, 2) := by decide +kernel
theorem dL_law_33 : decode cL_law 33 = .ok (.if_icmp .ge 250, 3) := by decide +kernel
theorem dL_law_36 : decode cL_law 36 = .ok (.iload_n 2, 1) := by decide +kernel
theorem dL_law_37 : decode cL_law 37 = .ok (.ifCond .eq 246, 3) := by decide +kernel
theorem dL_law_40 : decode cL_law 40 = .ok (.aload_n 0, 1) := by decide +kernel
theorem dL_law_41 : decode cL_law 41 = .ok (.iconst 2, 1) := by decide +kernel
theorem dL_law_42 : decode cL_law 42 = .ok (.iload_n 3, 1) := by decide +kernel
theorem dL_law_43 : decode cL_law 43 = .ok (.imul, 1) := by decide +kernel
theorem dL_law_44 : decode cL_law 44 = .ok (.invokestatic 116, 3) := by decide +kernel
theorem dL_law_47 : decode cL_law 47 = .ok (.istore 4, 2) := by decide +kernel
theorem dL_law_49 : decode cL_law 49 = .ok (.aload_n 0, 1) := by decide +kernel
theorem dL_law_50 : decode cL_law 50 = .ok (.iconst 2, 1) := by decide +kernel
theorem dL_law_51 : decode cL_law 51 = .ok (.iload_n 3, 1) := by decide +kernel
theorem dL_law_52 : decode cL_law 52 = .ok (.imul, 1) := by decide +kernel
theorem dL_law_53 : decode cL_law 53 = .ok (.iconst 1, 1) := by decide +kernel
theorem dL_law_54 : decode cL_law 54 = .ok (.iadd, 1) := by decide +kernel
theorem dL_law_55 : decode cL_law 55 = .ok (.invokestatic 116, 3) := by decide +kernel
theorem dL_law_58 : decode cL_law 58 = .ok (.istore 5, 2) := by decide +kernel
theorem dL_law_60 : decode cL_law 60 = .ok (.aload_n 1, 1) := by decide +kernel
theorem dL_law_61 : decode cL_law 61 = .ok (.invokestatic 120, 3) := by decide +kernel
theorem dL_law_64 : decode cL_law 64 = .ok (.lstore 6, 2) := by decide +kernel
theorem dL_law_66 : decode cL_law 66 = .ok (.aload_n 1, 1) := by decide +kernel
theorem dL_law_67 : decode cL_law 67 = .ok (.bipush 9, 2) := by decide +kernel
theorem dL_law_69 : decode cL_law 69 = .ok (.invokevirtual 13, 3) := by decide +kernel
theorem dL_law_72 : decode cL_law 72 = .ok (.istore 8, 2) := by decide +kernel
theorem dL_law_74 : decode cL_law 74 = .ok (.aload_n 1, 1) := by decide +kernel
theorem dL_law_75 : decode cL_law 75 = .ok (.iload 4, 2) := by decide +kernel
theorem dL_law_77 : decode cL_law 77 = .ok (.iload 5, 2) := by decide +kernel
theorem dL_law_79 : decode cL_law 79 = .ok (.invokestatic 124, 3) := by decide +kernel
theorem dL_law_82 : decode cL_law 82 = .ok (.ifCond .eq 32, 3) := by decide +kernel
theorem dL_law_85 : decode cL_law 85 = .ok (.aload_n 1, 1) := by decide +kernel
theorem dL_law_86 : decode cL_law 86 = .ok (.bipush 9, 2) := by decide +kernel
theorem dL_law_88 : decode cL_law 88 = .ok (.invokevirtual 13, 3) := by decide +kernel
theorem dL_law_91 : decode cL_law 91 = .ok (.iload 8, 2) := by decide +kernel
theorem dL_law_93 : decode cL_law 93 = .ok (.bipush 6, 2) := by decide +kernel
theorem dL_law_95 : decode cL_law 95 = .ok (.if_icmp .ge 10, 3) := by decide +kernel
theorem dL_law_98 : decode cL_law 98 = .ok (.iload 8, 2) := by decide +kernel
theorem dL_law_100 : decode cL_law 100 = .ok (.iconst 1, 1) := by decide +kernel
theorem dL_law_101 : decode cL_law 101 = .ok (.iadd, 1) := by decide +kernel
theorem dL_law_102 : decode cL_law 102 = .ok (.goto 5, 3) := by decide +kernel
theorem dL_law_105 : decode cL_law 105 = .ok (.bipush 6, 2) := by decide +kernel
theorem dL_law_107 : decode cL_law 107 = .ok (.if_icmp .ne 7, 3) := by decide +kernel
theorem dL_law_110 : decode cL_law 110 = .ok (.iconst 1, 1) := by decide +kernel
theorem dL_law_111 : decode cL_law 111 = .ok (.goto 4, 3) := by decide +kernel
theorem dL_law_114 : decode cL_law 114 = .ok (.iconst 0, 1) := by decide +kernel
theorem dL_law_115 : decode cL_law 115 = .ok (.istore_n 2, 1) := by decide +kernel
theorem dL_law_116 : decode cL_law 116 = .ok (.iload_n 2, 1) := by decide +kernel
theorem dL_law_117 : decode cL_law 117 = .ok (.ifCond .eq 75, 3) := by decide +kernel
theorem dL_law_120 : decode cL_law 120 = .ok (.iload 4, 2) := by decide +kernel
theorem dL_law_122 : decode cL_law 122 = .ok (.bipush 8, 2) := by decide +kernel
theorem dL_law_124 : decode cL_law 124 = .ok (.ishr, 1) := by decide +kernel
theorem dL_law_125 : decode cL_law 125 = .ok (.iconst 3, 1) := by decide +kernel
theorem dL_law_126 : decode cL_law 126 = .ok (.iand, 1) := by decide +kernel
theorem dL_law_127 : decode cL_law 127 = .ok (.ifCond .ne 65, 3) := by decide +kernel
theorem dL_law_130 : decode cL_law 130 = .ok (.aload_n 1, 1) := by decide +kernel
theorem dL_law_131 : decode cL_law 131 = .ok (.invokestatic 120, 3) := by decide +kernel
theorem dL_law_134 : decode cL_law 134 = .ok (.lstore 9, 2) := by decide +kernel
theorem dL_law_136 : decode cL_law 136 = .ok (.aload_n 1, 1) := by decide +kernel
theorem dL_law_137 : decode cL_law 137 = .ok (.bipush 9, 2) := by decide +kernel
theorem dL_law_139 : decode cL_law 139 = .ok (.invokevirtual 13, 3) := by decide +kernel
theorem dL_law_142 : decode cL_law 142 = .ok (.iconst 1, 1) := by decide +kernel
theorem dL_law_143 : decode cL_law 143 = .ok (.isub, 1) := by decide +kernel
theorem dL_law_144 : decode cL_law 144 = .ok (.istore 11, 2) := by decide +kernel
theorem dL_law_146 : decode cL_law 146 = .ok (.aload_n 1, 1) := by decide +kernel
theorem dL_law_147 : decode cL_law 147 = .ok (.invokevirtual 127, 3) := by decide +kernel
theorem dL_law_150 : decode cL_law 150 = .ok (.iload 11, 2) := by decide +kernel
theorem dL_law_152 : decode cL_law 152 = .ok (.if_icmp .ne 38, 3) := by decide +kernel
theorem dL_law_155 : decode cL_law 155 = .ok (.aload_n 1, 1) := by decide +kernel
theorem dL_law_156 : decode cL_law 156 = .ok (.invokestatic 120, 3) := by decide +kernel
theorem dL_law_159 : decode cL_law 159 = .ok (.lload 6, 2) := by decide +kernel
theorem dL_law_161 : decode cL_law 161 = .ok (.lcmp, 1) := by decide +kernel
theorem dL_law_162 : decode cL_law 162 = .ok (.ifCond .ne 28, 3) := by decide +kernel
theorem dL_law_165 : decode cL_law 165 = .ok (.aload_n 1, 1) := by decide +kernel
theorem dL_law_166 : decode cL_law 166 = .ok (.iload 4, 2) := by decide +kernel
theorem dL_law_168 : decode cL_law 168 = .ok (.iload 5, 2) := by decide +kernel
theorem dL_law_170 : decode cL_law 170 = .ok (.invokestatic 124, 3) := by decide +kernel
theorem dL_law_173 : decode cL_law 173 = .ok (.ifCond .eq 17, 3) := by decide +kernel
theorem dL_law_176 : decode cL_law 176 = .ok (.aload_n 1, 1) := by decide +kernel
theorem dL_law_177 : decode cL_law 177 = .ok (.invokestatic 120, 3) := by decide +kernel
theorem dL_law_180 : decode cL_law 180 = .ok (.lload 9, 2) := by decide +kernel
theorem dL_law_182 : decode cL_law 182 = .ok (.lcmp, 1) := by decide +kernel
theorem dL_law_183 : decode cL_law 183 = .ok (.ifCond .ne 7, 3) := by decide +kernel
theorem dL_law_186 : decode cL_law 186 = .ok (.iconst 1, 1) := by decide +kernel
theorem dL_law_187 : decode cL_law 187 = .ok (.goto 4, 3) := by decide +kernel
theorem dL_law_190 : decode cL_law 190 = .ok (.iconst 0, 1) := by decide +kernel
theorem dL_law_191 : decode cL_law 191 = .ok (.istore_n 2, 1) := by decide +kernel
theorem dL_law_192 : decode cL_law 192 = .ok (.iload_n 2, 1) := by decide +kernel
theorem dL_law_193 : decode cL_law 193 = .ok (.ifCond .eq 82, 3) := by decide +kernel
theorem dL_law_196 : decode cL_law 196 = .ok (.aload_n 1, 1) := by decide +kernel
theorem dL_law_197 : decode cL_law 197 = .ok (.invokestatic 112, 3) := by decide +kernel
theorem dL_law_200 : decode cL_law 200 = .ok (.ifCond .eq 75, 3) := by decide +kernel
theorem dL_law_203 : decode cL_law 203 = .ok (.iload_n 3, 1) := by decide +kernel
theorem dL_law_204 : decode cL_law 204 = .ok (.iconst 3, 1) := by decide +kernel
theorem dL_law_205 : decode cL_law 205 = .ok (.irem, 1) := by decide +kernel
theorem dL_law_206 : decode cL_law 206 = .ok (.iconst 1, 1) := by decide +kernel
theorem dL_law_207 : decode cL_law 207 = .ok (.if_icmp .ne 10, 3) := by decide +kernel
theorem dL_law_210 : decode cL_law 210 = .ok (.aload_n 1, 1) := by decide +kernel
theorem dL_law_211 : decode cL_law 211 = .ok (.invokestatic 130, 3) := by decide +kernel
theorem dL_law_214 : decode cL_law 214 = .ok (.ifCond .eq 61, 3) := by decide +kernel
theorem dL_law_217 : decode cL_law 217 = .ok (.iload_n 3, 1) := by decide +kernel
theorem dL_law_218 : decode cL_law 218 = .ok (.iconst 5, 1) := by decide +kernel
theorem dL_law_219 : decode cL_law 219 = .ok (.irem, 1) := by decide +kernel
theorem dL_law_220 : decode cL_law 220 = .ok (.iconst 2, 1) := by decide +kernel
theorem dL_law_221 : decode cL_law 221 = .ok (.if_icmp .ne 29, 3) := by decide +kernel
theorem dL_law_224 : decode cL_law 224 = .ok (.aload_n 1, 1) := by decide +kernel
theorem dL_law_225 : decode cL_law 225 = .ok (.iload 5, 2) := by decide +kernel
theorem dL_law_227 : decode cL_law 227 = .ok (.iconst 3, 1) := by decide +kernel
theorem dL_law_228 : decode cL_law 228 = .ok (.ishr, 1) := by decide +kernel
theorem dL_law_229 : decode cL_law 229 = .ok (.bipush 24, 2) := by decide +kernel
theorem dL_law_231 : decode cL_law 231 = .ok (.invokestatic 33, 3) := by decide +kernel
theorem dL_law_234 : decode cL_law 234 = .ok (.iload 5, 2) := by decide +kernel
theorem dL_law_236 : decode cL_law 236 = .ok (.bipush 8, 2) := by decide +kernel
theorem dL_law_238 : decode cL_law 238 = .ok (.ishr, 1) := by decide +kernel
theorem dL_law_239 : decode cL_law 239 = .ok (.bipush 24, 2) := by decide +kernel
theorem dL_law_241 : decode cL_law 241 = .ok (.invokestatic 33, 3) := by decide +kernel
theorem dL_law_244 : decode cL_law 244 = .ok (.invokestatic 133, 3) := by decide +kernel
theorem dL_law_247 : decode cL_law 247 = .ok (.ifCond .eq 28, 3) := by decide +kernel
theorem dL_law_250 : decode cL_law 250 = .ok (.iload_n 3, 1) := by decide +kernel
theorem dL_law_251 : decode cL_law 251 = .ok (.bipush 19, 2) := by decide +kernel
theorem dL_law_253 : decode cL_law 253 = .ok (.irem, 1) := by decide +kernel
theorem dL_law_254 : decode cL_law 254 = .ok (.bipush 12, 2) := by decide +kernel
theorem dL_law_256 : decode cL_law 256 = .ok (.if_icmp .ne 15, 3) := by decide +kernel
theorem dL_law_259 : decode cL_law 259 = .ok (.aload_n 1, 1) := by decide +kernel
theorem dL_law_260 : decode cL_law 260 = .ok (.invokevirtual 109, 3) := by decide +kernel
theorem dL_law_263 : decode cL_law 263 = .ok (.aload_n 1, 1) := by decide +kernel
theorem dL_law_264 : decode cL_law 264 = .ok (.iconst 0, 1) := by decide +kernel
theorem dL_law_265 : decode cL_law 265 = .ok (.invokevirtual 13, 3) := by decide +kernel
theorem dL_law_268 : decode cL_law 268 = .ok (.if_icmp .ne 7, 3) := by decide +kernel
theorem dL_law_271 : decode cL_law 271 = .ok (.iconst 1, 1) := by decide +kernel
theorem dL_law_272 : decode cL_law 272 = .ok (.goto 4, 3) := by decide +kernel
theorem dL_law_275 : decode cL_law 275 = .ok (.iconst 0, 1) := by decide +kernel
theorem dL_law_276 : decode cL_law 276 = .ok (.istore_n 2, 1) := by decide +kernel
theorem dL_law_277 : decode cL_law 277 = .ok (.iinc 3 1, 3) := by decide +kernel
theorem dL_law_280 : decode cL_law 280 = .ok (.goto (-250), 3) := by decide +kernel
theorem dL_law_283 : decode cL_law 283 = .ok (.iload_n 2, 1) := by decide +kernel
theorem dL_law_284 : decode cL_law 284 = .ok (.ireturn, 1) := by decide +kernel
