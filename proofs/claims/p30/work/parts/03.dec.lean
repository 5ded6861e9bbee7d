theorem dX0_init_0 : decode cX0_init 0 = .ok (.aload_n 0, 1) := by decide +kernel
theorem dX0_init_1 : decode cX0_init 1 = .ok (.invokespecial 3, 3) := by decide +kernel
theorem dX0_init_4 : decode cX0_init 4 = .ok (.aload_n 0, 1) := by decide +kernel
theorem dX0_init_5 : decode cX0_init 5 = .ok (.bipush 24, 2) := by decide +kernel
theorem dX0_init_7 : decode cX0_init 7 = .ok (.newarray .long, 2) := by decide +kernel
theorem dX0_init_9 : decode cX0_init 9 = .ok (.putfield 9, 3) := by decide +kernel
theorem dX0_init_12 : decode cX0_init 12 = .ok (.aload_n 0, 1) := by decide +kernel
theorem dX0_init_13 : decode cX0_init 13 = .ok (.bipush 24, 2) := by decide +kernel
theorem dX0_init_15 : decode cX0_init 15 = .ok (.newarray .int, 2) := by decide +kernel
theorem dX0_init_17 : decode cX0_init 17 = .ok (.putfield 15, 3) := by decide +kernel
theorem dX0_init_20 : decode cX0_init 20 = .ok (.aload_n 0, 1) := by decide +kernel
theorem dX0_init_21 : decode cX0_init 21 = .ok (.bipush 24, 2) := by decide +kernel
theorem dX0_init_23 : decode cX0_init 23 = .ok (.newarray .int, 2) := by decide +kernel
theorem dX0_init_25 : decode cX0_init 25 = .ok (.putfield 19, 3) := by decide +kernel
theorem dX0_init_28 : decode cX0_init 28 = .ok (.return_, 1) := by decide +kernel
theorem dX0_size_0 : decode cX0_size 0 = .ok (.aload_n 0, 1) := by decide +kernel
theorem dX0_size_1 : decode cX0_size 1 = .ok (.getfield 22, 3) := by decide +kernel
theorem dX0_size_4 : decode cX0_size 4 = .ok (.ireturn, 1) := by decide +kernel
theorem dX0_has_0 : decode cX0_has 0 = .ok (.iload_n 1, 1) := by decide +kernel
theorem dX0_has_1 : decode cX0_has 1 = .ok (.ifCond .lt 21, 3) := by decide +kernel
theorem dX0_has_4 : decode cX0_has 4 = .ok (.iload_n 1, 1) := by decide +kernel
theorem dX0_has_5 : decode cX0_has 5 = .ok (.aload_n 0, 1) := by decide +kernel
theorem dX0_has_6 : decode cX0_has 6 = .ok (.getfield 22, 3) := by decide +kernel
theorem dX0_has_9 : decode cX0_has 9 = .ok (.if_icmp .ge 13, 3) := by decide +kernel
theorem dX0_has_12 : decode cX0_has 12 = .ok (.iload_n 1, 1) := by decide +kernel
theorem dX0_has_13 : decode cX0_has 13 = .ok (.bipush 24, 2) := by decide +kernel
theorem dX0_has_15 : decode cX0_has 15 = .ok (.if_icmp .ge 7, 3) := by decide +kernel
theorem dX0_has_18 : decode cX0_has 18 = .ok (.iconst 1, 1) := by decide +kernel
theorem dX0_has_19 : decode cX0_has 19 = .ok (.goto 4, 3) := by decide +kernel
theorem dX0_has_22 : decode cX0_has 22 = .ok (.iconst 0, 1) := by decide +kernel
theorem dX0_has_23 : decode cX0_has 23 = .ok (.ireturn, 1) := by decide +kernel
theorem dX0_isFull_0 : decode cX0_isFull 0 = .ok (.aload_n 0, 1) := by decide +kernel
theorem dX0_isFull_1 : decode cX0_isFull 1 = .ok (.getfield 22, 3) := by decide +kernel
theorem dX0_isFull_4 : decode cX0_isFull 4 = .ok (.bipush 24, 2) := by decide +kernel
theorem dX0_isFull_6 : decode cX0_isFull 6 = .ok (.if_icmp .lt 7, 3) := by decide +kernel
theorem dX0_isFull_9 : decode cX0_isFull 9 = .ok (.iconst 1, 1) := by decide +kernel
theorem dX0_isFull_10 : decode cX0_isFull 10 = .ok (.goto 4, 3) := by decide +kernel
theorem dX0_isFull_13 : decode cX0_isFull 13 = .ok (.iconst 0, 1) := by decide +kernel
theorem dX0_isFull_14 : decode cX0_isFull 14 = .ok (.ireturn, 1) := by decide +kernel
theorem dX0_rowOf_0 : decode cX0_rowOf 0 = .ok (.aload_n 0, 1) := by decide +kernel
theorem dX0_rowOf_1 : decode cX0_rowOf 1 = .ok (.iload_n 1, 1) := by decide +kernel
theorem dX0_rowOf_2 : decode cX0_rowOf 2 = .ok (.invokevirtual 26, 3) := by decide +kernel
theorem dX0_rowOf_5 : decode cX0_rowOf 5 = .ok (.ifCond .eq 12, 3) := by decide +kernel
theorem dX0_rowOf_8 : decode cX0_rowOf 8 = .ok (.aload_n 0, 1) := by decide +kernel
theorem dX0_rowOf_9 : decode cX0_rowOf 9 = .ok (.getfield 9, 3) := by decide +kernel
theorem dX0_rowOf_12 : decode cX0_rowOf 12 = .ok (.iload_n 1, 1) := by decide +kernel
theorem dX0_rowOf_13 : decode cX0_rowOf 13 = .ok (.laload, 1) := by decide +kernel
theorem dX0_rowOf_14 : decode cX0_rowOf 14 = .ok (.goto 4, 3) := by decide +kernel
theorem dX0_rowOf_17 : decode cX0_rowOf 17 = .ok (.lconst 0, 1) := by decide +kernel
theorem dX0_rowOf_18 : decode cX0_rowOf 18 = .ok (.lreturn, 1) := by decide +kernel
theorem dX0_wordOf_0 : decode cX0_wordOf 0 = .ok (.aload_n 0, 1) := by decide +kernel
theorem dX0_wordOf_1 : decode cX0_wordOf 1 = .ok (.iload_n 1, 1) := by decide +kernel
theorem dX0_wordOf_2 : decode cX0_wordOf 2 = .ok (.invokevirtual 26, 3) := by decide +kernel
theorem dX0_wordOf_5 : decode cX0_wordOf 5 = .ok (.ifCond .eq 12, 3) := by decide +kernel
theorem dX0_wordOf_8 : decode cX0_wordOf 8 = .ok (.aload_n 0, 1) := by decide +kernel
theorem dX0_wordOf_9 : decode cX0_wordOf 9 = .ok (.getfield 15, 3) := by decide +kernel
theorem dX0_wordOf_12 : decode cX0_wordOf 12 = .ok (.iload_n 1, 1) := by decide +kernel
theorem dX0_wordOf_13 : decode cX0_wordOf 13 = .ok (.iaload, 1) := by decide +kernel
theorem dX0_wordOf_14 : decode cX0_wordOf 14 = .ok (.goto 4, 3) := by decide +kernel
theorem dX0_wordOf_17 : decode cX0_wordOf 17 = .ok (.iconst (-1), 1) := by decide +kernel
theorem dX0_wordOf_18 : decode cX0_wordOf 18 = .ok (.ireturn, 1) := by decide +kernel
theorem dX0_picksOf_0 : decode cX0_picksOf 0 = .ok (.aload_n 0, 1) := by decide +kernel
theorem dX0_picksOf_1 : decode cX0_picksOf 1 = .ok (.iload_n 1, 1) := by decide +kernel
theorem dX0_picksOf_2 : decode cX0_picksOf 2 = .ok (.invokevirtual 26, 3) := by decide +kernel
theorem dX0_picksOf_5 : decode cX0_picksOf 5 = .ok (.ifCond .eq 12, 3) := by decide +kernel
theorem dX0_picksOf_8 : decode cX0_picksOf 8 = .ok (.aload_n 0, 1) := by decide +kernel
theorem dX0_picksOf_9 : decode cX0_picksOf 9 = .ok (.getfield 19, 3) := by decide +kernel
theorem dX0_picksOf_12 : decode cX0_picksOf 12 = .ok (.iload_n 1, 1) := by decide +kernel
theorem dX0_picksOf_13 : decode cX0_picksOf 13 = .ok (.iaload, 1) := by decide +kernel
theorem dX0_picksOf_14 : decode cX0_picksOf 14 = .ok (.goto 4, 3) := by decide +kernel
theorem dX0_picksOf_17 : decode cX0_picksOf 17 = .ok (.iconst 0, 1) := by decide +kernel
theorem dX0_picksOf_18 : decode cX0_picksOf 18 = .ok (.ireturn, 1) := by decide +kernel
theorem dX0_hasBoth_0 : decode cX0_hasBoth 0 = .ok (.iconst 0, 1) := by decide +kernel
theorem dX0_hasBoth_1 : decode cX0_hasBoth 1 = .ok (.istore 4, 2) := by decide +kernel
theorem dX0_hasBoth_3 : decode cX0_hasBoth 3 = .ok (.iload 4, 2) := by decide +kernel
theorem dX0_hasBoth_5 : decode cX0_hasBoth 5 = .ok (.aload_n 0, 1) := by decide +kernel
theorem dX0_hasBoth_6 : decode cX0_hasBoth 6 = .ok (.getfield 22, 3) := by decide +kernel
theorem dX0_hasBoth_9 : decode cX0_hasBoth 9 = .ok (.if_icmp .ge 32, 3) := by decide +kernel
theorem dX0_hasBoth_12 : decode cX0_hasBoth 12 = .ok (.aload_n 0, 1) := by decide +kernel
theorem dX0_hasBoth_13 : decode cX0_hasBoth 13 = .ok (.iload 4, 2) := by decide +kernel
theorem dX0_hasBoth_15 : decode cX0_hasBoth 15 = .ok (.invokevirtual 30, 3) := by decide +kernel
theorem dX0_hasBoth_18 : decode cX0_hasBoth 18 = .ok (.lload_n 1, 1) := by decide +kernel
theorem dX0_hasBoth_19 : decode cX0_hasBoth 19 = .ok (.lcmp, 1) := by decide +kernel
theorem dX0_hasBoth_20 : decode cX0_hasBoth 20 = .ok (.ifCond .ne 15, 3) := by decide +kernel
theorem dX0_hasBoth_23 : decode cX0_hasBoth 23 = .ok (.aload_n 0, 1) := by decide +kernel
theorem dX0_hasBoth_24 : decode cX0_hasBoth 24 = .ok (.iload 4, 2) := by decide +kernel
theorem dX0_hasBoth_26 : decode cX0_hasBoth 26 = .ok (.invokevirtual 34, 3) := by decide +kernel
theorem dX0_hasBoth_29 : decode cX0_hasBoth 29 = .ok (.iload_n 3, 1) := by decide +kernel
theorem dX0_hasBoth_30 : decode cX0_hasBoth 30 = .ok (.if_icmp .ne 5, 3) := by decide +kernel
theorem dX0_hasBoth_33 : decode cX0_hasBoth 33 = .ok (.iconst 1, 1) := by decide +kernel
theorem dX0_hasBoth_34 : decode cX0_hasBoth 34 = .ok (.ireturn, 1) := by decide +kernel
theorem dX0_hasBoth_35 : decode cX0_hasBoth 35 = .ok (.iinc 4 1, 3) := by decide +kernel
theorem dX0_hasBoth_38 : decode cX0_hasBoth 38 = .ok (.goto (-35), 3) := by decide +kernel
theorem dX0_hasBoth_41 : decode cX0_hasBoth 41 = .ok (.iconst 0, 1) := by decide +kernel
theorem dX0_hasBoth_42 : decode cX0_hasBoth 42 = .ok (.ireturn, 1) := by decide +kernel
theorem dX0_leaderOf_0 : decode cX0_leaderOf 0 = .ok (.iconst (-1), 1) := by decide +kernel
theorem dX0_leaderOf_1 : decode cX0_leaderOf 1 = .ok (.istore_n 3, 1) := by decide +kernel
theorem dX0_leaderOf_2 : decode cX0_leaderOf 2 = .ok (.iconst (-1), 1) := by decide +kernel
theorem dX0_leaderOf_3 : decode cX0_leaderOf 3 = .ok (.istore 4, 2) := by decide +kernel
theorem dX0_leaderOf_5 : decode cX0_leaderOf 5 = .ok (.iconst 0, 1) := by decide +kernel
theorem dX0_leaderOf_6 : decode cX0_leaderOf 6 = .ok (.istore 5, 2) := by decide +kernel
theorem dX0_leaderOf_8 : decode cX0_leaderOf 8 = .ok (.iload 5, 2) := by decide +kernel
theorem dX0_leaderOf_10 : decode cX0_leaderOf 10 = .ok (.aload_n 0, 1) := by decide +kernel
theorem dX0_leaderOf_11 : decode cX0_leaderOf 11 = .ok (.getfield 22, 3) := by decide +kernel
theorem dX0_leaderOf_14 : decode cX0_leaderOf 14 = .ok (.if_icmp .ge 52, 3) := by decide +kernel
theorem dX0_leaderOf_17 : decode cX0_leaderOf 17 = .ok (.iload 5, 2) := by decide +kernel
theorem dX0_leaderOf_19 : decode cX0_leaderOf 19 = .ok (.bipush 24, 2) := by decide +kernel
theorem dX0_leaderOf_21 : decode cX0_leaderOf 21 = .ok (.if_icmp .ge 45, 3) := by decide +kernel
theorem dX0_leaderOf_24 : decode cX0_leaderOf 24 = .ok (.aload_n 0, 1) := by decide +kernel
theorem dX0_leaderOf_25 : decode cX0_leaderOf 25 = .ok (.getfield 9, 3) := by decide +kernel
theorem dX0_leaderOf_28 : decode cX0_leaderOf 28 = .ok (.iload 5, 2) := by decide +kernel
theorem dX0_leaderOf_30 : decode cX0_leaderOf 30 = .ok (.laload, 1) := by decide +kernel
theorem dX0_leaderOf_31 : decode cX0_leaderOf 31 = .ok (.lload_n 1, 1) := by decide +kernel
theorem dX0_leaderOf_32 : decode cX0_leaderOf 32 = .ok (.lcmp, 1) := by decide +kernel
theorem dX0_leaderOf_33 : decode cX0_leaderOf 33 = .ok (.ifCond .ne 27, 3) := by decide +kernel
theorem dX0_leaderOf_36 : decode cX0_leaderOf 36 = .ok (.aload_n 0, 1) := by decide +kernel
theorem dX0_leaderOf_37 : decode cX0_leaderOf 37 = .ok (.getfield 19, 3) := by decide +kernel
theorem dX0_leaderOf_40 : decode cX0_leaderOf 40 = .ok (.iload 5, 2) := by decide +kernel
theorem dX0_leaderOf_42 : decode cX0_leaderOf 42 = .ok (.iaload, 1) := by decide +kernel
theorem dX0_leaderOf_43 : decode cX0_leaderOf 43 = .ok (.iload 4, 2) := by decide +kernel
theorem dX0_leaderOf_45 : decode cX0_leaderOf 45 = .ok (.if_icmp .le 15, 3) := by decide +kernel
theorem dX0_leaderOf_48 : decode cX0_leaderOf 48 = .ok (.iload 5, 2) := by decide +kernel
theorem dX0_leaderOf_50 : decode cX0_leaderOf 50 = .ok (.istore_n 3, 1) := by decide +kernel
theorem dX0_leaderOf_51 : decode cX0_leaderOf 51 = .ok (.aload_n 0, 1) := by decide +kernel
theorem dX0_leaderOf_52 : decode cX0_leaderOf 52 = .ok (.getfield 19, 3) := by decide +kernel
theorem dX0_leaderOf_55 : decode cX0_leaderOf 55 = .ok (.iload 5, 2) := by decide +kernel
theorem dX0_leaderOf_57 : decode cX0_leaderOf 57 = .ok (.iaload, 1) := by decide +kernel
theorem dX0_leaderOf_58 : decode cX0_leaderOf 58 = .ok (.istore 4, 2) := by decide +kernel
theorem dX0_leaderOf_60 : decode cX0_leaderOf 60 = .ok (.iinc 5 1, 3) := by decide +kernel
theorem dX0_leaderOf_63 : decode cX0_leaderOf 63 = .ok (.goto (-55), 3) := by decide +kernel
theorem dX0_leaderOf_66 : decode cX0_leaderOf 66 = .ok (.iload_n 3, 1) := by decide +kernel
theorem dX0_leaderOf_67 : decode cX0_leaderOf 67 = .ok (.ireturn, 1) := by decide +kernel
theorem dX0_rivals_0 : decode cX0_rivals 0 = .ok (.iconst 0, 1) := by decide +kernel
theorem dX0_rivals_1 : decode cX0_rivals 1 = .ok (.istore_n 3, 1) := by decide +kernel
theorem dX0_rivals_2 : decode cX0_rivals 2 = .ok (.iconst 0, 1) := by decide +kernel
theorem dX0_rivals_3 : decode cX0_rivals 3 = .ok (.istore 4, 2) := by decide +kernel
theorem dX0_rivals_5 : decode cX0_rivals 5 = .ok (.iload 4, 2) := by decide +kernel
theorem dX0_rivals_7 : decode cX0_rivals 7 = .ok (.aload_n 0, 1) := by decide +kernel
theorem dX0_rivals_8 : decode cX0_rivals 8 = .ok (.getfield 22, 3) := by decide +kernel
theorem dX0_rivals_11 : decode cX0_rivals 11 = .ok (.if_icmp .ge 23, 3) := by decide +kernel
theorem dX0_rivals_14 : decode cX0_rivals 14 = .ok (.aload_n 0, 1) := by decide +kernel
theorem dX0_rivals_15 : decode cX0_rivals 15 = .ok (.iload 4, 2) := by decide +kernel
theorem dX0_rivals_17 : decode cX0_rivals 17 = .ok (.invokevirtual 30, 3) := by decide +kernel
theorem dX0_rivals_20 : decode cX0_rivals 20 = .ok (.lload_n 1, 1) := by decide +kernel
theorem dX0_rivals_21 : decode cX0_rivals 21 = .ok (.lcmp, 1) := by decide +kernel
theorem dX0_rivals_22 : decode cX0_rivals 22 = .ok (.ifCond .ne 6, 3) := by decide +kernel
theorem dX0_rivals_25 : decode cX0_rivals 25 = .ok (.iinc 3 1, 3) := by decide +kernel
theorem dX0_rivals_28 : decode cX0_rivals 28 = .ok (.iinc 4 1, 3) := by decide +kernel
theorem dX0_rivals_31 : decode cX0_rivals 31 = .ok (.goto (-26), 3) := by decide +kernel
theorem dX0_rivals_34 : decode cX0_rivals 34 = .ok (.iload_n 3, 1) := by decide +kernel
theorem dX0_rivals_35 : decode cX0_rivals 35 = .ok (.ireturn, 1) := by decide +kernel
theorem dX0_longerThan_0 : decode cX0_longerThan 0 = .ok (.lconst 1, 1) := by decide +kernel
theorem dX0_longerThan_1 : decode cX0_longerThan 1 = .ok (.bipush 10, 2) := by decide +kernel
theorem dX0_longerThan_3 : decode cX0_longerThan 3 = .ok (.iload_n 3, 1) := by decide +kernel
theorem dX0_longerThan_4 : decode cX0_longerThan 4 = .ok (.imul, 1) := by decide +kernel
theorem dX0_longerThan_5 : decode cX0_longerThan 5 = .ok (.lshl, 1) := by decide +kernel
theorem dX0_longerThan_6 : decode cX0_longerThan 6 = .ok (.lconst 1, 1) := by decide +kernel
theorem dX0_longerThan_7 : decode cX0_longerThan 7 = .ok (.lsub, 1) := by decide +kernel
theorem dX0_longerThan_8 : decode cX0_longerThan 8 = .ok (.lstore 4, 2) := by decide +kernel
theorem dX0_longerThan_10 : decode cX0_longerThan 10 = .ok (.iconst 0, 1) := by decide +kernel
theorem dX0_longerThan_11 : decode cX0_longerThan 11 = .ok (.istore 6, 2) := by decide +kernel
theorem dX0_longerThan_13 : decode cX0_longerThan 13 = .ok (.iconst 0, 1) := by decide +kernel
theorem dX0_longerThan_14 : decode cX0_longerThan 14 = .ok (.istore 7, 2) := by decide +kernel
theorem dX0_longerThan_16 : decode cX0_longerThan 16 = .ok (.iload 7, 2) := by decide +kernel
theorem dX0_longerThan_18 : decode cX0_longerThan 18 = .ok (.aload_n 0, 1) := by decide +kernel
theorem dX0_longerThan_19 : decode cX0_longerThan 19 = .ok (.getfield 22, 3) := by decide +kernel
theorem dX0_longerThan_22 : decode cX0_longerThan 22 = .ok (.if_icmp .ge 37, 3) := by decide +kernel
theorem dX0_longerThan_25 : decode cX0_longerThan 25 = .ok (.aload_n 0, 1) := by decide +kernel
theorem dX0_longerThan_26 : decode cX0_longerThan 26 = .ok (.iload 7, 2) := by decide +kernel
theorem dX0_longerThan_28 : decode cX0_longerThan 28 = .ok (.invokevirtual 30, 3) := by decide +kernel
theorem dX0_longerThan_31 : decode cX0_longerThan 31 = .ok (.lstore 8, 2) := by decide +kernel
theorem dX0_longerThan_33 : decode cX0_longerThan 33 = .ok (.lload 8, 2) := by decide +kernel
theorem dX0_longerThan_35 : decode cX0_longerThan 35 = .ok (.lload 4, 2) := by decide +kernel
theorem dX0_longerThan_37 : decode cX0_longerThan 37 = .ok (.land, 1) := by decide +kernel
theorem dX0_longerThan_38 : decode cX0_longerThan 38 = .ok (.lload_n 1, 1) := by decide +kernel
theorem dX0_longerThan_39 : decode cX0_longerThan 39 = .ok (.lcmp, 1) := by decide +kernel
theorem dX0_longerThan_40 : decode cX0_longerThan 40 = .ok (.ifCond .ne 13, 3) := by decide +kernel
theorem dX0_longerThan_43 : decode cX0_longerThan 43 = .ok (.lload 8, 2) := by decide +kernel
theorem dX0_longerThan_45 : decode cX0_longerThan 45 = .ok (.lload_n 1, 1) := by decide +kernel
theorem dX0_longerThan_46 : decode cX0_longerThan 46 = .ok (.lcmp, 1) := by decide +kernel
theorem dX0_longerThan_47 : decode cX0_longerThan 47 = .ok (.ifCond .eq 6, 3) := by decide +kernel
theorem dX0_longerThan_50 : decode cX0_longerThan 50 = .ok (.iinc 6 1, 3) := by decide +kernel
theorem dX0_longerThan_53 : decode cX0_longerThan 53 = .ok (.iinc 7 1, 3) := by decide +kernel
theorem dX0_longerThan_56 : decode cX0_longerThan 56 = .ok (.goto (-40), 3) := by decide +kernel
theorem dX0_longerThan_59 : decode cX0_longerThan 59 = .ok (.iload 6, 2) := by decide +kernel
theorem dX0_longerThan_61 : decode cX0_longerThan 61 = .ok (.ireturn, 1) := by decide +kernel
theorem dX0_longestAt_0 : decode cX0_longestAt 0 = .ok (.iload_n 3, 1) := by decide +kernel
theorem dX0_longestAt_1 : decode cX0_longestAt 1 = .ok (.aload_n 1, 1) := by decide +kernel
theorem dX0_longestAt_2 : decode cX0_longestAt 2 = .ok (.invokevirtual 38, 3) := by decide +kernel
theorem dX0_longestAt_5 : decode cX0_longestAt 5 = .ok (.iload_n 2, 1) := by decide +kernel
theorem dX0_longestAt_6 : decode cX0_longestAt 6 = .ok (.isub, 1) := by decide +kernel
theorem dX0_longestAt_7 : decode cX0_longestAt 7 = .ok (.invokestatic 44, 3) := by decide +kernel
theorem dX0_longestAt_10 : decode cX0_longestAt 10 = .ok (.istore 4, 2) := by decide +kernel
theorem dX0_longestAt_12 : decode cX0_longestAt 12 = .ok (.iload 4, 2) := by decide +kernel
theorem dX0_longestAt_14 : decode cX0_longestAt 14 = .ok (.ifCond .le 27, 3) := by decide +kernel
theorem dX0_longestAt_17 : decode cX0_longestAt 17 = .ok (.aload_n 0, 1) := by decide +kernel
theorem dX0_longestAt_18 : decode cX0_longestAt 18 = .ok (.aload_n 1, 1) := by decide +kernel
theorem dX0_longestAt_19 : decode cX0_longestAt 19 = .ok (.iload_n 2, 1) := by decide +kernel
theorem dX0_longestAt_20 : decode cX0_longestAt 20 = .ok (.iload 4, 2) := by decide +kernel
theorem dX0_longestAt_22 : decode cX0_longestAt 22 = .ok (.invokevirtual 50, 3) := by decide +kernel
theorem dX0_longestAt_25 : decode cX0_longestAt 25 = .ok (.invokevirtual 54, 3) := by decide +kernel
theorem dX0_longestAt_28 : decode cX0_longestAt 28 = .ok (.iconst (-1), 1) := by decide +kernel
theorem dX0_longestAt_29 : decode cX0_longestAt 29 = .ok (.if_icmp .eq 6, 3) := by decide +kernel
theorem dX0_longestAt_32 : decode cX0_longestAt 32 = .ok (.iload 4, 2) := by decide +kernel
theorem dX0_longestAt_34 : decode cX0_longestAt 34 = .ok (.ireturn, 1) := by decide +kernel
theorem dX0_longestAt_35 : decode cX0_longestAt 35 = .ok (.iinc 4 (-1), 3) := by decide +kernel
theorem dX0_longestAt_38 : decode cX0_longestAt 38 = .ok (.goto (-26), 3) := by decide +kernel
theorem dX0_longestAt_41 : decode cX0_longestAt 41 = .ok (.iconst 0, 1) := by decide +kernel
theorem dX0_longestAt_42 : decode cX0_longestAt 42 = .ok (.ireturn, 1) := by decide +kernel
theorem dX0_pickOnce_0 : decode cX0_pickOnce 0 = .ok (.aload_n 0, 1) := by decide +kernel
theorem dX0_pickOnce_1 : decode cX0_pickOnce 1 = .ok (.iload_n 1, 1) := by decide +kernel
theorem dX0_pickOnce_2 : decode cX0_pickOnce 2 = .ok (.invokevirtual 26, 3) := by decide +kernel
theorem dX0_pickOnce_5 : decode cX0_pickOnce 5 = .ok (.ifCond .eq 13, 3) := by decide +kernel
theorem dX0_pickOnce_8 : decode cX0_pickOnce 8 = .ok (.aload_n 0, 1) := by decide +kernel
theorem dX0_pickOnce_9 : decode cX0_pickOnce 9 = .ok (.getfield 19, 3) := by decide +kernel
theorem dX0_pickOnce_12 : decode cX0_pickOnce 12 = .ok (.iload_n 1, 1) := by decide +kernel
theorem dX0_pickOnce_13 : decode cX0_pickOnce 13 = .ok (.dup2, 1) := by decide +kernel
theorem dX0_pickOnce_14 : decode cX0_pickOnce 14 = .ok (.iaload, 1) := by decide +kernel
theorem dX0_pickOnce_15 : decode cX0_pickOnce 15 = .ok (.iconst 1, 1) := by decide +kernel
theorem dX0_pickOnce_16 : decode cX0_pickOnce 16 = .ok (.iadd, 1) := by decide +kernel
theorem dX0_pickOnce_17 : decode cX0_pickOnce 17 = .ok (.iastore, 1) := by decide +kernel
theorem dX0_pickOnce_18 : decode cX0_pickOnce 18 = .ok (.return_, 1) := by decide +kernel
theorem dX0_put_0 : decode cX0_put 0 = .ok (.aload_n 0, 1) := by decide +kernel
theorem dX0_put_1 : decode cX0_put 1 = .ok (.lload_n 1, 1) := by decide +kernel
theorem dX0_put_2 : decode cX0_put 2 = .ok (.iload_n 3, 1) := by decide +kernel
theorem dX0_put_3 : decode cX0_put 3 = .ok (.iconst 0, 1) := by decide +kernel
theorem dX0_put_4 : decode cX0_put 4 = .ok (.invokevirtual 58, 3) := by decide +kernel
theorem dX0_put_7 : decode cX0_put 7 = .ok (.return_, 1) := by decide +kernel
theorem dX0_put__0 : decode cX0_put_ 0 = .ok (.aload_n 0, 1) := by decide +kernel
theorem dX0_put__1 : decode cX0_put_ 1 = .ok (.getfield 22, 3) := by decide +kernel
theorem dX0_put__4 : decode cX0_put_ 4 = .ok (.ifCond .lt 53, 3) := by decide +kernel
theorem dX0_put__7 : decode cX0_put_ 7 = .ok (.aload_n 0, 1) := by decide +kernel
theorem dX0_put__8 : decode cX0_put_ 8 = .ok (.getfield 22, 3) := by decide +kernel
theorem dX0_put__11 : decode cX0_put_ 11 = .ok (.bipush 24, 2) := by decide +kernel
theorem dX0_put__13 : decode cX0_put_ 13 = .ok (.if_icmp .ge 44, 3) := by decide +kernel
theorem dX0_put__16 : decode cX0_put_ 16 = .ok (.aload_n 0, 1) := by decide +kernel
theorem dX0_put__17 : decode cX0_put_ 17 = .ok (.getfield 9, 3) := by decide +kernel
theorem dX0_put__20 : decode cX0_put_ 20 = .ok (.aload_n 0, 1) := by decide +kernel
theorem dX0_put__21 : decode cX0_put_ 21 = .ok (.getfield 22, 3) := by decide +kernel
theorem dX0_put__24 : decode cX0_put_ 24 = .ok (.lload_n 1, 1) := by decide +kernel
theorem dX0_put__25 : decode cX0_put_ 25 = .ok (.lastore, 1) := by decide +kernel
theorem dX0_put__26 : decode cX0_put_ 26 = .ok (.aload_n 0, 1) := by decide +kernel
theorem dX0_put__27 : decode cX0_put_ 27 = .ok (.getfield 15, 3) := by decide +kernel
theorem dX0_put__30 : decode cX0_put_ 30 = .ok (.aload_n 0, 1) := by decide +kernel
theorem dX0_put__31 : decode cX0_put_ 31 = .ok (.getfield 22, 3) := by decide +kernel
theorem dX0_put__34 : decode cX0_put_ 34 = .ok (.iload_n 3, 1) := by decide +kernel
theorem dX0_put__35 : decode cX0_put_ 35 = .ok (.iastore, 1) := by decide +kernel
theorem dX0_put__36 : decode cX0_put_ 36 = .ok (.aload_n 0, 1) := by decide +kernel
theorem dX0_put__37 : decode cX0_put_ 37 = .ok (.getfield 19, 3) := by decide +kernel
theorem dX0_put__40 : decode cX0_put_ 40 = .ok (.aload_n 0, 1) := by decide +kernel
theorem dX0_put__41 : decode cX0_put_ 41 = .ok (.getfield 22, 3) := by decide +kernel
theorem dX0_put__44 : decode cX0_put_ 44 = .ok (.iload 4, 2) := by decide +kernel
theorem dX0_put__46 : decode cX0_put_ 46 = .ok (.iastore, 1) := by decide +kernel
theorem dX0_put__47 : decode cX0_put_ 47 = .ok (.aload_n 0, 1) := by decide +kernel
theorem dX0_put__48 : decode cX0_put_ 48 = .ok (.dup, 1) := by decide +kernel
theorem dX0_put__49 : decode cX0_put_ 49 = .ok (.getfield 22, 3) := by decide +kernel
theorem dX0_put__52 : decode cX0_put_ 52 = .ok (.iconst 1, 1) := by decide +kernel
theorem dX0_put__53 : decode cX0_put_ 53 = .ok (.iadd, 1) := by decide +kernel
theorem dX0_put__54 : decode cX0_put_ 54 = .ok (.putfield 22, 3) := by decide +kernel
theorem dX0_put__57 : decode cX0_put_ 57 = .ok (.return_, 1) := by decide +kernel
theorem dX0_takeAway_0 : decode cX0_takeAway 0 = .ok (.aload_n 0, 1) := by decide +kernel
theorem dX0_takeAway_1 : decode cX0_takeAway 1 = .ok (.iload_n 1, 1) := by decide +kernel
theorem dX0_takeAway_2 : decode cX0_takeAway 2 = .ok (.invokevirtual 26, 3) := by decide +kernel
theorem dX0_takeAway_5 : decode cX0_takeAway 5 = .ok (.ifCond .ne 4, 3) := by decide +kernel
theorem dX0_takeAway_8 : decode cX0_takeAway 8 = .ok (.return_, 1) := by decide +kernel
theorem dX0_takeAway_9 : decode cX0_takeAway 9 = .ok (.iload_n 1, 1) := by decide +kernel
theorem dX0_takeAway_10 : decode cX0_takeAway 10 = .ok (.iconst 1, 1) := by decide +kernel
theorem dX0_takeAway_11 : decode cX0_takeAway 11 = .ok (.iadd, 1) := by decide +kernel
theorem dX0_takeAway_12 : decode cX0_takeAway 12 = .ok (.istore_n 2, 1) := by decide +kernel
theorem dX0_takeAway_13 : decode cX0_takeAway 13 = .ok (.iload_n 2, 1) := by decide +kernel
theorem dX0_takeAway_14 : decode cX0_takeAway 14 = .ok (.aload_n 0, 1) := by decide +kernel
theorem dX0_takeAway_15 : decode cX0_takeAway 15 = .ok (.getfield 22, 3) := by decide +kernel
theorem dX0_takeAway_18 : decode cX0_takeAway 18 = .ok (.if_icmp .ge 57, 3) := by decide +kernel
theorem dX0_takeAway_21 : decode cX0_takeAway 21 = .ok (.iload_n 2, 1) := by decide +kernel
theorem dX0_takeAway_22 : decode cX0_takeAway 22 = .ok (.bipush 24, 2) := by decide +kernel
theorem dX0_takeAway_24 : decode cX0_takeAway 24 = .ok (.if_icmp .ge 51, 3) := by decide +kernel
theorem dX0_takeAway_27 : decode cX0_takeAway 27 = .ok (.aload_n 0, 1) := by decide +kernel
theorem dX0_takeAway_28 : decode cX0_takeAway 28 = .ok (.getfield 9, 3) := by decide +kernel
theorem dX0_takeAway_31 : decode cX0_takeAway 31 = .ok (.iload_n 2, 1) := by decide +kernel
theorem dX0_takeAway_32 : decode cX0_takeAway 32 = .ok (.iconst 1, 1) := by decide +kernel
theorem dX0_takeAway_33 : decode cX0_takeAway 33 = .ok (.isub, 1) := by decide +kernel
theorem dX0_takeAway_34 : decode cX0_takeAway 34 = .ok (.aload_n 0, 1) := by decide +kernel
theorem dX0_takeAway_35 : decode cX0_takeAway 35 = .ok (.getfield 9, 3) := by decide +kernel
theorem dX0_takeAway_38 : decode cX0_takeAway 38 = .ok (.iload_n 2, 1) := by decide +kernel
theorem dX0_takeAway_39 : decode cX0_takeAway 39 = .ok (.laload, 1) := by decide +kernel
theorem dX0_takeAway_40 : decode cX0_takeAway 40 = .ok (.lastore, 1) := by decide +kernel
theorem dX0_takeAway_41 : decode cX0_takeAway 41 = .ok (.aload_n 0, 1) := by decide +kernel
theorem dX0_takeAway_42 : decode cX0_takeAway 42 = .ok (.getfield 15, 3) := by decide +kernel
theorem dX0_takeAway_45 : decode cX0_takeAway 45 = .ok (.iload_n 2, 1) := by decide +kernel
theorem dX0_takeAway_46 : decode cX0_takeAway 46 = .ok (.iconst 1, 1) := by decide +kernel
theorem dX0_takeAway_47 : decode cX0_takeAway 47 = .ok (.isub, 1) := by decide +kernel
theorem dX0_takeAway_48 : decode cX0_takeAway 48 = .ok (.aload_n 0, 1) := by decide +kernel
theorem dX0_takeAway_49 : decode cX0_takeAway 49 = .ok (.getfield 15, 3) := by decide +kernel
theorem dX0_takeAway_52 : decode cX0_takeAway 52 = .ok (.iload_n 2, 1) := by decide +kernel
theorem dX0_takeAway_53 : decode cX0_takeAway 53 = .ok (.iaload, 1) := by decide +kernel
theorem dX0_takeAway_54 : decode cX0_takeAway 54 = .ok (.iastore, 1) := by decide +kernel
theorem dX0_takeAway_55 : decode cX0_takeAway 55 = .ok (.aload_n 0, 1) := by decide +kernel
theorem dX0_takeAway_56 : decode cX0_takeAway 56 = .ok (.getfield 19, 3) := by decide +kernel
theorem dX0_takeAway_59 : decode cX0_takeAway 59 = .ok (.iload_n 2, 1) := by decide +kernel
theorem dX0_takeAway_60 : decode cX0_takeAway 60 = .ok (.iconst 1, 1) := by decide +kernel
theorem dX0_takeAway_61 : decode cX0_takeAway 61 = .ok (.isub, 1) := by decide +kernel
theorem dX0_takeAway_62 : decode cX0_takeAway 62 = .ok (.aload_n 0, 1) := by decide +kernel
theorem dX0_takeAway_63 : decode cX0_takeAway 63 = .ok (.getfield 19, 3) := by decide +kernel
theorem dX0_takeAway_66 : decode cX0_takeAway 66 = .ok (.iload_n 2, 1) := by decide +kernel
theorem dX0_takeAway_67 : decode cX0_takeAway 67 = .ok (.iaload, 1) := by decide +kernel
theorem dX0_takeAway_68 : decode cX0_takeAway 68 = .ok (.iastore, 1) := by decide +kernel
theorem dX0_takeAway_69 : decode cX0_takeAway 69 = .ok (.iinc 2 1, 3) := by decide +kernel
theorem dX0_takeAway_72 : decode cX0_takeAway 72 = .ok (.goto (-59), 3) := by decide +kernel
theorem dX0_takeAway_75 : decode cX0_takeAway 75 = .ok (.aload_n 0, 1) := by decide +kernel
theorem dX0_takeAway_76 : decode cX0_takeAway 76 = .ok (.dup, 1) := by decide +kernel
theorem dX0_takeAway_77 : decode cX0_takeAway 77 = .ok (.getfield 22, 3) := by decide +kernel
theorem dX0_takeAway_80 : decode cX0_takeAway 80 = .ok (.iconst 1, 1) := by decide +kernel
theorem dX0_takeAway_81 : decode cX0_takeAway 81 = .ok (.isub, 1) := by decide +kernel
theorem dX0_takeAway_82 : decode cX0_takeAway 82 = .ok (.putfield 22, 3) := by decide +kernel
theorem dX0_takeAway_85 : decode cX0_takeAway 85 = .ok (.return_, 1) := by decide +kernel
theorem dX0_become_0 : decode cX0_become 0 = .ok (.aload_n 0, 1) := by decide +kernel
theorem dX0_become_1 : decode cX0_become 1 = .ok (.iconst 0, 1) := by decide +kernel
theorem dX0_become_2 : decode cX0_become 2 = .ok (.putfield 22, 3) := by decide +kernel
theorem dX0_become_5 : decode cX0_become 5 = .ok (.iconst 0, 1) := by decide +kernel
theorem dX0_become_6 : decode cX0_become 6 = .ok (.istore_n 2, 1) := by decide +kernel
theorem dX0_become_7 : decode cX0_become 7 = .ok (.iload_n 2, 1) := by decide +kernel
theorem dX0_become_8 : decode cX0_become 8 = .ok (.aload_n 1, 1) := by decide +kernel
theorem dX0_become_9 : decode cX0_become 9 = .ok (.getfield 22, 3) := by decide +kernel
theorem dX0_become_12 : decode cX0_become 12 = .ok (.if_icmp .ge 28, 3) := by decide +kernel
theorem dX0_become_15 : decode cX0_become 15 = .ok (.aload_n 0, 1) := by decide +kernel
theorem dX0_become_16 : decode cX0_become 16 = .ok (.aload_n 1, 1) := by decide +kernel
theorem dX0_become_17 : decode cX0_become 17 = .ok (.iload_n 2, 1) := by decide +kernel
theorem dX0_become_18 : decode cX0_become 18 = .ok (.invokevirtual 30, 3) := by decide +kernel
theorem dX0_become_21 : decode cX0_become 21 = .ok (.aload_n 1, 1) := by decide +kernel
theorem dX0_become_22 : decode cX0_become 22 = .ok (.iload_n 2, 1) := by decide +kernel
theorem dX0_become_23 : decode cX0_become 23 = .ok (.invokevirtual 34, 3) := by decide +kernel
theorem dX0_become_26 : decode cX0_become 26 = .ok (.aload_n 1, 1) := by decide +kernel
theorem dX0_become_27 : decode cX0_become 27 = .ok (.iload_n 2, 1) := by decide +kernel
theorem dX0_become_28 : decode cX0_become 28 = .ok (.invokevirtual 62, 3) := by decide +kernel
theorem dX0_become_31 : decode cX0_become 31 = .ok (.invokevirtual 58, 3) := by decide +kernel
theorem dX0_become_34 : decode cX0_become 34 = .ok (.iinc 2 1, 3) := by decide +kernel
theorem dX0_become_37 : decode cX0_become 37 = .ok (.goto (-30), 3) := by decide +kernel
theorem dX0_become_40 : decode cX0_become 40 = .ok (.return_, 1) := by decide +kernel
theorem dX1_init_0 : decode cX1_init 0 = .ok (.aload_n 0, 1) := by decide +kernel
theorem dX1_init_1 : decode cX1_init 1 = .ok (.invokespecial 3, 3) := by decide +kernel
theorem dX1_init_4 : decode cX1_init 4 = .ok (.aload_n 0, 1) := by decide +kernel
theorem dX1_init_5 : decode cX1_init 5 = .ok (.new 9, 3) := by decide +kernel
theorem dX1_init_8 : decode cX1_init 8 = .ok (.dup, 1) := by decide +kernel
theorem dX1_init_9 : decode cX1_init 9 = .ok (.bipush 60, 2) := by decide +kernel
theorem dX1_init_11 : decode cX1_init 11 = .ok (.invokespecial 11, 3) := by decide +kernel
theorem dX1_init_14 : decode cX1_init 14 = .ok (.putfield 14, 3) := by decide +kernel
theorem dX1_init_17 : decode cX1_init 17 = .ok (.return_, 1) := by decide +kernel
theorem dX1_length_0 : decode cX1_length 0 = .ok (.aload_n 0, 1) := by decide +kernel
theorem dX1_length_1 : decode cX1_length 1 = .ok (.getfield 14, 3) := by decide +kernel
theorem dX1_length_4 : decode cX1_length 4 = .ok (.invokevirtual 20, 3) := by decide +kernel
theorem dX1_length_7 : decode cX1_length 7 = .ok (.ireturn, 1) := by decide +kernel
theorem dX1_isFull_0 : decode cX1_isFull 0 = .ok (.aload_n 0, 1) := by decide +kernel
theorem dX1_isFull_1 : decode cX1_isFull 1 = .ok (.getfield 14, 3) := by decide +kernel
theorem dX1_isFull_4 : decode cX1_isFull 4 = .ok (.invokevirtual 24, 3) := by decide +kernel
theorem dX1_isFull_7 : decode cX1_isFull 7 = .ok (.ireturn, 1) := by decide +kernel
theorem dX1_put_0 : decode cX1_put 0 = .ok (.aload_n 0, 1) := by decide +kernel
theorem dX1_put_1 : decode cX1_put 1 = .ok (.getfield 14, 3) := by decide +kernel
theorem dX1_put_4 : decode cX1_put 4 = .ok (.iload_n 1, 1) := by decide +kernel
theorem dX1_put_5 : decode cX1_put 5 = .ok (.invokevirtual 32, 3) := by decide +kernel
theorem dX1_put_8 : decode cX1_put 8 = .ok (.return_, 1) := by decide +kernel
theorem dX1_wipe_0 : decode cX1_wipe 0 = .ok (.aload_n 0, 1) := by decide +kernel
theorem dX1_wipe_1 : decode cX1_wipe 1 = .ok (.getfield 14, 3) := by decide +kernel
theorem dX1_wipe_4 : decode cX1_wipe 4 = .ok (.iconst 0, 1) := by decide +kernel
theorem dX1_wipe_5 : decode cX1_wipe 5 = .ok (.invokevirtual 35, 3) := by decide +kernel
theorem dX1_wipe_8 : decode cX1_wipe 8 = .ok (.return_, 1) := by decide +kernel
theorem dX1_tellStrokes_0 : decode cX1_tellStrokes 0 = .ok (.aload_n 1, 1) := by decide +kernel
theorem dX1_tellStrokes_1 : decode cX1_tellStrokes 1 = .ok (.iconst 0, 1) := by decide +kernel
theorem dX1_tellStrokes_2 : decode cX1_tellStrokes 2 = .ok (.invokevirtual 35, 3) := by decide +kernel
theorem dX1_tellStrokes_5 : decode cX1_tellStrokes 5 = .ok (.iconst (-1), 1) := by decide +kernel
theorem dX1_tellStrokes_6 : decode cX1_tellStrokes 6 = .ok (.istore_n 2, 1) := by decide +kernel
theorem dX1_tellStrokes_7 : decode cX1_tellStrokes 7 = .ok (.iconst 0, 1) := by decide +kernel
theorem dX1_tellStrokes_8 : decode cX1_tellStrokes 8 = .ok (.istore_n 3, 1) := by decide +kernel
theorem dX1_tellStrokes_9 : decode cX1_tellStrokes 9 = .ok (.iconst 0, 1) := by decide +kernel
theorem dX1_tellStrokes_10 : decode cX1_tellStrokes 10 = .ok (.istore 4, 2) := by decide +kernel
theorem dX1_tellStrokes_12 : decode cX1_tellStrokes 12 = .ok (.iload 4, 2) := by decide +kernel
theorem dX1_tellStrokes_14 : decode cX1_tellStrokes 14 = .ok (.aload_n 0, 1) := by decide +kernel
theorem dX1_tellStrokes_15 : decode cX1_tellStrokes 15 = .ok (.getfield 14, 3) := by decide +kernel
theorem dX1_tellStrokes_18 : decode cX1_tellStrokes 18 = .ok (.invokevirtual 20, 3) := by decide +kernel
theorem dX1_tellStrokes_21 : decode cX1_tellStrokes 21 = .ok (.if_icmp .ge 58, 3) := by decide +kernel
theorem dX1_tellStrokes_24 : decode cX1_tellStrokes 24 = .ok (.iload_n 2, 1) := by decide +kernel
theorem dX1_tellStrokes_25 : decode cX1_tellStrokes 25 = .ok (.aload_n 0, 1) := by decide +kernel
theorem dX1_tellStrokes_26 : decode cX1_tellStrokes 26 = .ok (.getfield 14, 3) := by decide +kernel
theorem dX1_tellStrokes_29 : decode cX1_tellStrokes 29 = .ok (.iload 4, 2) := by decide +kernel
theorem dX1_tellStrokes_31 : decode cX1_tellStrokes 31 = .ok (.invokevirtual 28, 3) := by decide +kernel
theorem dX1_tellStrokes_34 : decode cX1_tellStrokes 34 = .ok (.invokestatic 38, 3) := by decide +kernel
theorem dX1_tellStrokes_37 : decode cX1_tellStrokes 37 = .ok (.istore_n 2, 1) := by decide +kernel
theorem dX1_tellStrokes_38 : decode cX1_tellStrokes 38 = .ok (.iload_n 2, 1) := by decide +kernel
theorem dX1_tellStrokes_39 : decode cX1_tellStrokes 39 = .ok (.bipush (-2), 2) := by decide +kernel
theorem dX1_tellStrokes_41 : decode cX1_tellStrokes 41 = .ok (.if_icmp .ne 5, 3) := by decide +kernel
theorem dX1_tellStrokes_44 : decode cX1_tellStrokes 44 = .ok (.iconst 0, 1) := by decide +kernel
theorem dX1_tellStrokes_45 : decode cX1_tellStrokes 45 = .ok (.ireturn, 1) := by decide +kernel
theorem dX1_tellStrokes_46 : decode cX1_tellStrokes 46 = .ok (.iload_n 2, 1) := by decide +kernel
theorem dX1_tellStrokes_47 : decode cX1_tellStrokes 47 = .ok (.iconst (-1), 1) := by decide +kernel
theorem dX1_tellStrokes_48 : decode cX1_tellStrokes 48 = .ok (.if_icmp .ne 13, 3) := by decide +kernel
theorem dX1_tellStrokes_51 : decode cX1_tellStrokes 51 = .ok (.aload_n 1, 1) := by decide +kernel
theorem dX1_tellStrokes_52 : decode cX1_tellStrokes 52 = .ok (.iload_n 3, 1) := by decide +kernel
theorem dX1_tellStrokes_53 : decode cX1_tellStrokes 53 = .ok (.invokevirtual 32, 3) := by decide +kernel
theorem dX1_tellStrokes_56 : decode cX1_tellStrokes 56 = .ok (.iconst 0, 1) := by decide +kernel
theorem dX1_tellStrokes_57 : decode cX1_tellStrokes 57 = .ok (.istore_n 3, 1) := by decide +kernel
theorem dX1_tellStrokes_58 : decode cX1_tellStrokes 58 = .ok (.goto 15, 3) := by decide +kernel
theorem dX1_tellStrokes_61 : decode cX1_tellStrokes 61 = .ok (.iload_n 2, 1) := by decide +kernel
theorem dX1_tellStrokes_62 : decode cX1_tellStrokes 62 = .ok (.bipush 10, 2) := by decide +kernel
theorem dX1_tellStrokes_64 : decode cX1_tellStrokes 64 = .ok (.if_icmp .eq 9, 3) := by decide +kernel
theorem dX1_tellStrokes_67 : decode cX1_tellStrokes 67 = .ok (.iload_n 3, 1) := by decide +kernel
theorem dX1_tellStrokes_68 : decode cX1_tellStrokes 68 = .ok (.iconst 1, 1) := by decide +kernel
theorem dX1_tellStrokes_69 : decode cX1_tellStrokes 69 = .ok (.iload_n 2, 1) := by decide +kernel
theorem dX1_tellStrokes_70 : decode cX1_tellStrokes 70 = .ok (.ishl, 1) := by decide +kernel
theorem dX1_tellStrokes_71 : decode cX1_tellStrokes 71 = .ok (.ior, 1) := by decide +kernel
theorem dX1_tellStrokes_72 : decode cX1_tellStrokes 72 = .ok (.istore_n 3, 1) := by decide +kernel
theorem dX1_tellStrokes_73 : decode cX1_tellStrokes 73 = .ok (.iinc 4 1, 3) := by decide +kernel
theorem dX1_tellStrokes_76 : decode cX1_tellStrokes 76 = .ok (.goto (-64), 3) := by decide +kernel
theorem dX1_tellStrokes_79 : decode cX1_tellStrokes 79 = .ok (.aload_n 1, 1) := by decide +kernel
theorem dX1_tellStrokes_80 : decode cX1_tellStrokes 80 = .ok (.iload_n 3, 1) := by decide +kernel
theorem dX1_tellStrokes_81 : decode cX1_tellStrokes 81 = .ok (.invokevirtual 32, 3) := by decide +kernel
theorem dX1_tellStrokes_84 : decode cX1_tellStrokes 84 = .ok (.iload_n 2, 1) := by decide +kernel
theorem dX1_tellStrokes_85 : decode cX1_tellStrokes 85 = .ok (.iconst (-1), 1) := by decide +kernel
theorem dX1_tellStrokes_86 : decode cX1_tellStrokes 86 = .ok (.if_icmp .eq 7, 3) := by decide +kernel
theorem dX1_tellStrokes_89 : decode cX1_tellStrokes 89 = .ok (.iconst 1, 1) := by decide +kernel
theorem dX1_tellStrokes_90 : decode cX1_tellStrokes 90 = .ok (.goto 4, 3) := by decide +kernel
theorem dX1_tellStrokes_93 : decode cX1_tellStrokes 93 = .ok (.iconst 0, 1) := by decide +kernel
theorem dX1_tellStrokes_94 : decode cX1_tellStrokes 94 = .ok (.ireturn, 1) := by decide +kernel
theorem dX1_standBehind_0 : decode cX1_standBehind 0 = .ok (.iload_n 1, 1) := by decide +kernel
theorem dX1_standBehind_1 : decode cX1_standBehind 1 = .ok (.bipush 47, 2) := by decide +kernel
theorem dX1_standBehind_3 : decode cX1_standBehind 3 = .ok (.if_icmp .ne 15, 3) := by decide +kernel
theorem dX1_standBehind_6 : decode cX1_standBehind 6 = .ok (.iload_n 0, 1) := by decide +kernel
theorem dX1_standBehind_7 : decode cX1_standBehind 7 = .ok (.iconst (-1), 1) := by decide +kernel
theorem dX1_standBehind_8 : decode cX1_standBehind 8 = .ok (.if_icmp .ne 8, 3) := by decide +kernel
theorem dX1_standBehind_11 : decode cX1_standBehind 11 = .ok (.bipush (-2), 2) := by decide +kernel
theorem dX1_standBehind_13 : decode cX1_standBehind 13 = .ok (.goto 4, 3) := by decide +kernel
theorem dX1_standBehind_16 : decode cX1_standBehind 16 = .ok (.iconst (-1), 1) := by decide +kernel
theorem dX1_standBehind_17 : decode cX1_standBehind 17 = .ok (.ireturn, 1) := by decide +kernel
theorem dX1_standBehind_18 : decode cX1_standBehind 18 = .ok (.iload_n 1, 1) := by decide +kernel
theorem dX1_standBehind_19 : decode cX1_standBehind 19 = .ok (.bipush 42, 2) := by decide +kernel
theorem dX1_standBehind_21 : decode cX1_standBehind 21 = .ok (.if_icmp .ne 16, 3) := by decide +kernel
theorem dX1_standBehind_24 : decode cX1_standBehind 24 = .ok (.iload_n 0, 1) := by decide +kernel
theorem dX1_standBehind_25 : decode cX1_standBehind 25 = .ok (.iconst (-1), 1) := by decide +kernel
theorem dX1_standBehind_26 : decode cX1_standBehind 26 = .ok (.if_icmp .ne 8, 3) := by decide +kernel
theorem dX1_standBehind_29 : decode cX1_standBehind 29 = .ok (.bipush 10, 2) := by decide +kernel
theorem dX1_standBehind_31 : decode cX1_standBehind 31 = .ok (.goto 5, 3) := by decide +kernel
theorem dX1_standBehind_34 : decode cX1_standBehind 34 = .ok (.bipush (-2), 2) := by decide +kernel
theorem dX1_standBehind_36 : decode cX1_standBehind 36 = .ok (.ireturn, 1) := by decide +kernel
theorem dX1_standBehind_37 : decode cX1_standBehind 37 = .ok (.ldc 42, 2) := by decide +kernel
theorem dX1_standBehind_39 : decode cX1_standBehind 39 = .ok (.iload_n 1, 1) := by decide +kernel
theorem dX1_standBehind_40 : decode cX1_standBehind 40 = .ok (.i2c, 1) := by decide +kernel
theorem dX1_standBehind_41 : decode cX1_standBehind 41 = .ok (.invokevirtual 44, 3) := by decide +kernel
theorem dX1_standBehind_44 : decode cX1_standBehind 44 = .ok (.istore_n 2, 1) := by decide +kernel
theorem dX1_standBehind_45 : decode cX1_standBehind 45 = .ok (.iload_n 2, 1) := by decide +kernel
theorem dX1_standBehind_46 : decode cX1_standBehind 46 = .ok (.iload_n 0, 1) := by decide +kernel
theorem dX1_standBehind_47 : decode cX1_standBehind 47 = .ok (.if_icmp .le 7, 3) := by decide +kernel
theorem dX1_standBehind_50 : decode cX1_standBehind 50 = .ok (.iload_n 2, 1) := by decide +kernel
theorem dX1_standBehind_51 : decode cX1_standBehind 51 = .ok (.goto 5, 3) := by decide +kernel
theorem dX1_standBehind_54 : decode cX1_standBehind 54 = .ok (.bipush (-2), 2) := by decide +kernel
theorem dX1_standBehind_56 : decode cX1_standBehind 56 = .ok (.ireturn, 1) := by decide +kernel
theorem dX2_init_0 : decode cX2_init 0 = .ok (.aload_n 0, 1) := by decide +kernel
theorem dX2_init_1 : decode cX2_init 1 = .ok (.invokespecial 3, 3) := by decide +kernel
theorem dX2_init_4 : decode cX2_init 4 = .ok (.aload_n 0, 1) := by decide +kernel
theorem dX2_init_5 : decode cX2_init 5 = .ok (.new 9, 3) := by decide +kernel
theorem dX2_init_8 : decode cX2_init 8 = .ok (.dup, 1) := by decide +kernel
theorem dX2_init_9 : decode cX2_init 9 = .ok (.bipush 61, 2) := by decide +kernel
theorem dX2_init_11 : decode cX2_init 11 = .ok (.invokespecial 11, 3) := by decide +kernel
theorem dX2_init_14 : decode cX2_init 14 = .ok (.putfield 14, 3) := by decide +kernel
theorem dX2_init_17 : decode cX2_init 17 = .ok (.aload_n 0, 1) := by decide +kernel
theorem dX2_init_18 : decode cX2_init 18 = .ok (.new 9, 3) := by decide +kernel
theorem dX2_init_21 : decode cX2_init 21 = .ok (.dup, 1) := by decide +kernel
theorem dX2_init_22 : decode cX2_init 22 = .ok (.bipush 61, 2) := by decide +kernel
theorem dX2_init_24 : decode cX2_init 24 = .ok (.invokespecial 11, 3) := by decide +kernel
theorem dX2_init_27 : decode cX2_init 27 = .ok (.putfield 20, 3) := by decide +kernel
theorem dX2_init_30 : decode cX2_init 30 = .ok (.aload_n 0, 1) := by decide +kernel
theorem dX2_init_31 : decode cX2_init 31 = .ok (.new 9, 3) := by decide +kernel
theorem dX2_init_34 : decode cX2_init 34 = .ok (.dup, 1) := by decide +kernel
theorem dX2_init_35 : decode cX2_init 35 = .ok (.bipush 61, 2) := by decide +kernel
theorem dX2_init_37 : decode cX2_init 37 = .ok (.invokespecial 11, 3) := by decide +kernel
theorem dX2_init_40 : decode cX2_init 40 = .ok (.putfield 23, 3) := by decide +kernel
theorem dX2_init_43 : decode cX2_init 43 = .ok (.return_, 1) := by decide +kernel
theorem dX2_size_0 : decode cX2_size 0 = .ok (.aload_n 0, 1) := by decide +kernel
theorem dX2_size_1 : decode cX2_size 1 = .ok (.getfield 14, 3) := by decide +kernel
theorem dX2_size_4 : decode cX2_size 4 = .ok (.invokevirtual 26, 3) := by decide +kernel
theorem dX2_size_7 : decode cX2_size 7 = .ok (.ireturn, 1) := by decide +kernel
theorem dX2_has_0 : decode cX2_has 0 = .ok (.aload_n 0, 1) := by decide +kernel
theorem dX2_has_1 : decode cX2_has 1 = .ok (.getfield 14, 3) := by decide +kernel
theorem dX2_has_4 : decode cX2_has 4 = .ok (.iload_n 1, 1) := by decide +kernel
theorem dX2_has_5 : decode cX2_has 5 = .ok (.invokevirtual 30, 3) := by decide +kernel
theorem dX2_has_8 : decode cX2_has 8 = .ok (.ireturn, 1) := by decide +kernel
theorem dX2_placeAt_0 : decode cX2_placeAt 0 = .ok (.aload_n 0, 1) := by decide +kernel
theorem dX2_placeAt_1 : decode cX2_placeAt 1 = .ok (.getfield 14, 3) := by decide +kernel
theorem dX2_placeAt_4 : decode cX2_placeAt 4 = .ok (.iload_n 1, 1) := by decide +kernel
theorem dX2_placeAt_5 : decode cX2_placeAt 5 = .ok (.invokevirtual 34, 3) := by decide +kernel
theorem dX2_placeAt_8 : decode cX2_placeAt 8 = .ok (.ireturn, 1) := by decide +kernel
theorem dX2_lengthAt_0 : decode cX2_lengthAt 0 = .ok (.aload_n 0, 1) := by decide +kernel
theorem dX2_lengthAt_1 : decode cX2_lengthAt 1 = .ok (.getfield 20, 3) := by decide +kernel
theorem dX2_lengthAt_4 : decode cX2_lengthAt 4 = .ok (.iload_n 1, 1) := by decide +kernel
theorem dX2_lengthAt_5 : decode cX2_lengthAt 5 = .ok (.invokevirtual 34, 3) := by decide +kernel
theorem dX2_lengthAt_8 : decode cX2_lengthAt 8 = .ok (.ireturn, 1) := by decide +kernel
theorem dX2_leaderAt_0 : decode cX2_leaderAt 0 = .ok (.aload_n 0, 1) := by decide +kernel
theorem dX2_leaderAt_1 : decode cX2_leaderAt 1 = .ok (.getfield 23, 3) := by decide +kernel
theorem dX2_leaderAt_4 : decode cX2_leaderAt 4 = .ok (.iload_n 1, 1) := by decide +kernel
theorem dX2_leaderAt_5 : decode cX2_leaderAt 5 = .ok (.invokevirtual 34, 3) := by decide +kernel
theorem dX2_leaderAt_8 : decode cX2_leaderAt 8 = .ok (.ireturn, 1) := by decide +kernel
theorem dX2_itemsOf_0 : decode cX2_itemsOf 0 = .ok (.iconst 0, 1) := by decide +kernel
theorem dX2_itemsOf_1 : decode cX2_itemsOf 1 = .ok (.istore_n 2, 1) := by decide +kernel
theorem dX2_itemsOf_2 : decode cX2_itemsOf 2 = .ok (.iconst 0, 1) := by decide +kernel
theorem dX2_itemsOf_3 : decode cX2_itemsOf 3 = .ok (.istore_n 3, 1) := by decide +kernel
theorem dX2_itemsOf_4 : decode cX2_itemsOf 4 = .ok (.iload_n 3, 1) := by decide +kernel
theorem dX2_itemsOf_5 : decode cX2_itemsOf 5 = .ok (.aload_n 0, 1) := by decide +kernel
theorem dX2_itemsOf_6 : decode cX2_itemsOf 6 = .ok (.getfield 23, 3) := by decide +kernel
theorem dX2_itemsOf_9 : decode cX2_itemsOf 9 = .ok (.invokevirtual 26, 3) := by decide +kernel
theorem dX2_itemsOf_12 : decode cX2_itemsOf 12 = .ok (.if_icmp .ge 24, 3) := by decide +kernel
theorem dX2_itemsOf_15 : decode cX2_itemsOf 15 = .ok (.aload_n 0, 1) := by decide +kernel
theorem dX2_itemsOf_16 : decode cX2_itemsOf 16 = .ok (.getfield 23, 3) := by decide +kernel
theorem dX2_itemsOf_19 : decode cX2_itemsOf 19 = .ok (.iload_n 3, 1) := by decide +kernel
theorem dX2_itemsOf_20 : decode cX2_itemsOf 20 = .ok (.invokevirtual 34, 3) := by decide +kernel
theorem dX2_itemsOf_23 : decode cX2_itemsOf 23 = .ok (.iload_n 1, 1) := by decide +kernel
theorem dX2_itemsOf_24 : decode cX2_itemsOf 24 = .ok (.if_icmp .ne 6, 3) := by decide +kernel
theorem dX2_itemsOf_27 : decode cX2_itemsOf 27 = .ok (.iinc 2 1, 3) := by decide +kernel
theorem dX2_itemsOf_30 : decode cX2_itemsOf 30 = .ok (.iinc 3 1, 3) := by decide +kernel
theorem dX2_itemsOf_33 : decode cX2_itemsOf 33 = .ok (.goto (-29), 3) := by decide +kernel
theorem dX2_itemsOf_36 : decode cX2_itemsOf 36 = .ok (.iload_n 2, 1) := by decide +kernel
theorem dX2_itemsOf_37 : decode cX2_itemsOf 37 = .ok (.ireturn, 1) := by decide +kernel
theorem dX2_dropFrom_0 : decode cX2_dropFrom 0 = .ok (.aload_n 0, 1) := by decide +kernel
theorem dX2_dropFrom_1 : decode cX2_dropFrom 1 = .ok (.invokevirtual 38, 3) := by decide +kernel
theorem dX2_dropFrom_4 : decode cX2_dropFrom 4 = .ok (.iconst 1, 1) := by decide +kernel
theorem dX2_dropFrom_5 : decode cX2_dropFrom 5 = .ok (.isub, 1) := by decide +kernel
theorem dX2_dropFrom_6 : decode cX2_dropFrom 6 = .ok (.istore_n 2, 1) := by decide +kernel
theorem dX2_dropFrom_7 : decode cX2_dropFrom 7 = .ok (.iload_n 2, 1) := by decide +kernel
theorem dX2_dropFrom_8 : decode cX2_dropFrom 8 = .ok (.ifCond .lt 45, 3) := by decide +kernel
theorem dX2_dropFrom_11 : decode cX2_dropFrom 11 = .ok (.aload_n 0, 1) := by decide +kernel
theorem dX2_dropFrom_12 : decode cX2_dropFrom 12 = .ok (.getfield 14, 3) := by decide +kernel
theorem dX2_dropFrom_15 : decode cX2_dropFrom 15 = .ok (.iload_n 2, 1) := by decide +kernel
theorem dX2_dropFrom_16 : decode cX2_dropFrom 16 = .ok (.invokevirtual 34, 3) := by decide +kernel
theorem dX2_dropFrom_19 : decode cX2_dropFrom 19 = .ok (.iload_n 1, 1) := by decide +kernel
theorem dX2_dropFrom_20 : decode cX2_dropFrom 20 = .ok (.if_icmp .lt 33, 3) := by decide +kernel
theorem dX2_dropFrom_23 : decode cX2_dropFrom 23 = .ok (.aload_n 0, 1) := by decide +kernel
theorem dX2_dropFrom_24 : decode cX2_dropFrom 24 = .ok (.getfield 14, 3) := by decide +kernel
theorem dX2_dropFrom_27 : decode cX2_dropFrom 27 = .ok (.iload_n 2, 1) := by decide +kernel
theorem dX2_dropFrom_28 : decode cX2_dropFrom 28 = .ok (.invokevirtual 41, 3) := by decide +kernel
theorem dX2_dropFrom_31 : decode cX2_dropFrom 31 = .ok (.aload_n 0, 1) := by decide +kernel
theorem dX2_dropFrom_32 : decode cX2_dropFrom 32 = .ok (.getfield 20, 3) := by decide +kernel
theorem dX2_dropFrom_35 : decode cX2_dropFrom 35 = .ok (.iload_n 2, 1) := by decide +kernel
theorem dX2_dropFrom_36 : decode cX2_dropFrom 36 = .ok (.invokevirtual 41, 3) := by decide +kernel
theorem dX2_dropFrom_39 : decode cX2_dropFrom 39 = .ok (.aload_n 0, 1) := by decide +kernel
theorem dX2_dropFrom_40 : decode cX2_dropFrom 40 = .ok (.getfield 23, 3) := by decide +kernel
theorem dX2_dropFrom_43 : decode cX2_dropFrom 43 = .ok (.iload_n 2, 1) := by decide +kernel
theorem dX2_dropFrom_44 : decode cX2_dropFrom 44 = .ok (.invokevirtual 41, 3) := by decide +kernel
theorem dX2_dropFrom_47 : decode cX2_dropFrom 47 = .ok (.iinc 2 (-1), 3) := by decide +kernel
theorem dX2_dropFrom_50 : decode cX2_dropFrom 50 = .ok (.goto (-43), 3) := by decide +kernel
theorem dX2_dropFrom_53 : decode cX2_dropFrom 53 = .ok (.return_, 1) := by decide +kernel
theorem dX2_readOn_0 : decode cX2_readOn 0 = .ok (.aload_n 0, 1) := by decide +kernel
theorem dX2_readOn_1 : decode cX2_readOn 1 = .ok (.invokevirtual 38, 3) := by decide +kernel
theorem dX2_readOn_4 : decode cX2_readOn 4 = .ok (.iconst 1, 1) := by decide +kernel
theorem dX2_readOn_5 : decode cX2_readOn 5 = .ok (.isub, 1) := by decide +kernel
theorem dX2_readOn_6 : decode cX2_readOn 6 = .ok (.istore_n 3, 1) := by decide +kernel
theorem dX2_readOn_7 : decode cX2_readOn 7 = .ok (.iload_n 3, 1) := by decide +kernel
theorem dX2_readOn_8 : decode cX2_readOn 8 = .ok (.ifCond .ge 7, 3) := by decide +kernel
theorem dX2_readOn_11 : decode cX2_readOn 11 = .ok (.iconst 0, 1) := by decide +kernel
theorem dX2_readOn_12 : decode cX2_readOn 12 = .ok (.goto 20, 3) := by decide +kernel
theorem dX2_readOn_15 : decode cX2_readOn 15 = .ok (.aload_n 0, 1) := by decide +kernel
theorem dX2_readOn_16 : decode cX2_readOn 16 = .ok (.getfield 14, 3) := by decide +kernel
theorem dX2_readOn_19 : decode cX2_readOn 19 = .ok (.iload_n 3, 1) := by decide +kernel
theorem dX2_readOn_20 : decode cX2_readOn 20 = .ok (.invokevirtual 34, 3) := by decide +kernel
theorem dX2_readOn_23 : decode cX2_readOn 23 = .ok (.aload_n 0, 1) := by decide +kernel
theorem dX2_readOn_24 : decode cX2_readOn 24 = .ok (.getfield 20, 3) := by decide +kernel
theorem dX2_readOn_27 : decode cX2_readOn 27 = .ok (.iload_n 3, 1) := by decide +kernel
theorem dX2_readOn_28 : decode cX2_readOn 28 = .ok (.invokevirtual 34, 3) := by decide +kernel
theorem dX2_readOn_31 : decode cX2_readOn 31 = .ok (.iadd, 1) := by decide +kernel
theorem dX2_readOn_32 : decode cX2_readOn 32 = .ok (.istore 4, 2) := by decide +kernel
theorem dX2_readOn_34 : decode cX2_readOn 34 = .ok (.iload 4, 2) := by decide +kernel
theorem dX2_readOn_36 : decode cX2_readOn 36 = .ok (.istore 5, 2) := by decide +kernel
theorem dX2_readOn_38 : decode cX2_readOn 38 = .ok (.iload 5, 2) := by decide +kernel
theorem dX2_readOn_40 : decode cX2_readOn 40 = .ok (.aload_n 1, 1) := by decide +kernel
theorem dX2_readOn_41 : decode cX2_readOn 41 = .ok (.invokevirtual 26, 3) := by decide +kernel
theorem dX2_readOn_44 : decode cX2_readOn 44 = .ok (.if_icmp .ge 87, 3) := by decide +kernel
theorem dX2_readOn_47 : decode cX2_readOn 47 = .ok (.iload 5, 2) := by decide +kernel
theorem dX2_readOn_49 : decode cX2_readOn 49 = .ok (.iload 4, 2) := by decide +kernel
theorem dX2_readOn_51 : decode cX2_readOn 51 = .ok (.if_icmp .ne 74, 3) := by decide +kernel
theorem dX2_readOn_54 : decode cX2_readOn 54 = .ok (.aload_n 2, 1) := by decide +kernel
theorem dX2_readOn_55 : decode cX2_readOn 55 = .ok (.getfield 44, 3) := by decide +kernel
theorem dX2_readOn_58 : decode cX2_readOn 58 = .ok (.aload_n 1, 1) := by decide +kernel
theorem dX2_readOn_59 : decode cX2_readOn 59 = .ok (.iload 5, 2) := by decide +kernel
theorem dX2_readOn_61 : decode cX2_readOn 61 = .ok (.aload_n 2, 1) := by decide +kernel
theorem dX2_readOn_62 : decode cX2_readOn 62 = .ok (.getfield 50, 3) := by decide +kernel
theorem dX2_readOn_65 : decode cX2_readOn 65 = .ok (.invokevirtual 54, 3) := by decide +kernel
theorem dX2_readOn_68 : decode cX2_readOn 68 = .ok (.istore 6, 2) := by decide +kernel
theorem dX2_readOn_70 : decode cX2_readOn 70 = .ok (.iconst 1, 1) := by decide +kernel
theorem dX2_readOn_71 : decode cX2_readOn 71 = .ok (.iload 6, 2) := by decide +kernel
theorem dX2_readOn_73 : decode cX2_readOn 73 = .ok (.invokestatic 60, 3) := by decide +kernel
theorem dX2_readOn_76 : decode cX2_readOn 76 = .ok (.istore 6, 2) := by decide +kernel
theorem dX2_readOn_78 : decode cX2_readOn 78 = .ok (.aload_n 0, 1) := by decide +kernel
theorem dX2_readOn_79 : decode cX2_readOn 79 = .ok (.getfield 14, 3) := by decide +kernel
theorem dX2_readOn_82 : decode cX2_readOn 82 = .ok (.iload 5, 2) := by decide +kernel
theorem dX2_readOn_84 : decode cX2_readOn 84 = .ok (.invokevirtual 66, 3) := by decide +kernel
theorem dX2_readOn_87 : decode cX2_readOn 87 = .ok (.aload_n 0, 1) := by decide +kernel
theorem dX2_readOn_88 : decode cX2_readOn 88 = .ok (.getfield 20, 3) := by decide +kernel
theorem dX2_readOn_91 : decode cX2_readOn 91 = .ok (.iload 6, 2) := by decide +kernel
theorem dX2_readOn_93 : decode cX2_readOn 93 = .ok (.invokevirtual 66, 3) := by decide +kernel
theorem dX2_readOn_96 : decode cX2_readOn 96 = .ok (.aload_n 0, 1) := by decide +kernel
theorem dX2_readOn_97 : decode cX2_readOn 97 = .ok (.getfield 23, 3) := by decide +kernel
theorem dX2_readOn_100 : decode cX2_readOn 100 = .ok (.aload_n 2, 1) := by decide +kernel
theorem dX2_readOn_101 : decode cX2_readOn 101 = .ok (.getfield 44, 3) := by decide +kernel
theorem dX2_readOn_104 : decode cX2_readOn 104 = .ok (.aload_n 1, 1) := by decide +kernel
theorem dX2_readOn_105 : decode cX2_readOn 105 = .ok (.iload 5, 2) := by decide +kernel
theorem dX2_readOn_107 : decode cX2_readOn 107 = .ok (.iload 6, 2) := by decide +kernel
theorem dX2_readOn_109 : decode cX2_readOn 109 = .ok (.invokevirtual 69, 3) := by decide +kernel
theorem dX2_readOn_112 : decode cX2_readOn 112 = .ok (.invokevirtual 73, 3) := by decide +kernel
theorem dX2_readOn_115 : decode cX2_readOn 115 = .ok (.invokevirtual 66, 3) := by decide +kernel
theorem dX2_readOn_118 : decode cX2_readOn 118 = .ok (.iload 5, 2) := by decide +kernel
theorem dX2_readOn_120 : decode cX2_readOn 120 = .ok (.iload 6, 2) := by decide +kernel
theorem dX2_readOn_122 : decode cX2_readOn 122 = .ok (.iadd, 1) := by decide +kernel
theorem dX2_readOn_123 : decode cX2_readOn 123 = .ok (.istore 4, 2) := by decide +kernel
theorem dX2_readOn_125 : decode cX2_readOn 125 = .ok (.iinc 5 1, 3) := by decide +kernel
theorem dX2_readOn_128 : decode cX2_readOn 128 = .ok (.goto (-90), 3) := by decide +kernel
theorem dX2_readOn_131 : decode cX2_readOn 131 = .ok (.return_, 1) := by decide +kernel
theorem dX3_init_0 : decode cX3_init 0 = .ok (.aload_n 0, 1) := by decide +kernel
theorem dX3_init_1 : decode cX3_init 1 = .ok (.invokespecial 3, 3) := by decide +kernel
theorem dX3_init_4 : decode cX3_init 4 = .ok (.aload_n 0, 1) := by decide +kernel
theorem dX3_init_5 : decode cX3_init 5 = .ok (.iload_n 1, 1) := by decide +kernel
theorem dX3_init_6 : decode cX3_init 6 = .ok (.iconst 0, 1) := by decide +kernel
theorem dX3_init_7 : decode cX3_init 7 = .ok (.invokestatic 9, 3) := by decide +kernel
theorem dX3_init_10 : decode cX3_init 10 = .ok (.newarray .int, 2) := by decide +kernel
theorem dX3_init_12 : decode cX3_init 12 = .ok (.putfield 15, 3) := by decide +kernel
theorem dX3_init_15 : decode cX3_init 15 = .ok (.return_, 1) := by decide +kernel
theorem dX3_length_0 : decode cX3_length 0 = .ok (.aload_n 0, 1) := by decide +kernel
theorem dX3_length_1 : decode cX3_length 1 = .ok (.getfield 21, 3) := by decide +kernel
theorem dX3_length_4 : decode cX3_length 4 = .ok (.ireturn, 1) := by decide +kernel
theorem dX3_has_0 : decode cX3_has 0 = .ok (.iload_n 1, 1) := by decide +kernel
theorem dX3_has_1 : decode cX3_has 1 = .ok (.ifCond .lt 24, 3) := by decide +kernel
theorem dX3_has_4 : decode cX3_has 4 = .ok (.iload_n 1, 1) := by decide +kernel
theorem dX3_has_5 : decode cX3_has 5 = .ok (.aload_n 0, 1) := by decide +kernel
theorem dX3_has_6 : decode cX3_has 6 = .ok (.getfield 21, 3) := by decide +kernel
theorem dX3_has_9 : decode cX3_has 9 = .ok (.if_icmp .ge 16, 3) := by decide +kernel
theorem dX3_has_12 : decode cX3_has 12 = .ok (.iload_n 1, 1) := by decide +kernel
theorem dX3_has_13 : decode cX3_has 13 = .ok (.aload_n 0, 1) := by decide +kernel
theorem dX3_has_14 : decode cX3_has 14 = .ok (.getfield 15, 3) := by decide +kernel
theorem dX3_has_17 : decode cX3_has 17 = .ok (.arraylength, 1) := by decide +kernel
theorem dX3_has_18 : decode cX3_has 18 = .ok (.if_icmp .ge 7, 3) := by decide +kernel
theorem dX3_has_21 : decode cX3_has 21 = .ok (.iconst 1, 1) := by decide +kernel
theorem dX3_has_22 : decode cX3_has 22 = .ok (.goto 4, 3) := by decide +kernel
theorem dX3_has_25 : decode cX3_has 25 = .ok (.iconst 0, 1) := by decide +kernel
theorem dX3_has_26 : decode cX3_has 26 = .ok (.ireturn, 1) := by decide +kernel
theorem dX3_isFull_0 : decode cX3_isFull 0 = .ok (.aload_n 0, 1) := by decide +kernel
theorem dX3_isFull_1 : decode cX3_isFull 1 = .ok (.getfield 21, 3) := by decide +kernel
theorem dX3_isFull_4 : decode cX3_isFull 4 = .ok (.aload_n 0, 1) := by decide +kernel
theorem dX3_isFull_5 : decode cX3_isFull 5 = .ok (.getfield 15, 3) := by decide +kernel
theorem dX3_isFull_8 : decode cX3_isFull 8 = .ok (.arraylength, 1) := by decide +kernel
theorem dX3_isFull_9 : decode cX3_isFull 9 = .ok (.if_icmp .lt 7, 3) := by decide +kernel
theorem dX3_isFull_12 : decode cX3_isFull 12 = .ok (.iconst 1, 1) := by decide +kernel
theorem dX3_isFull_13 : decode cX3_isFull 13 = .ok (.goto 4, 3) := by decide +kernel
theorem dX3_isFull_16 : decode cX3_isFull 16 = .ok (.iconst 0, 1) := by decide +kernel
theorem dX3_isFull_17 : decode cX3_isFull 17 = .ok (.ireturn, 1) := by decide +kernel
theorem dX3_at_0 : decode cX3_at 0 = .ok (.aload_n 0, 1) := by decide +kernel
theorem dX3_at_1 : decode cX3_at 1 = .ok (.iload_n 1, 1) := by decide +kernel
theorem dX3_at_2 : decode cX3_at 2 = .ok (.invokevirtual 25, 3) := by decide +kernel
theorem dX3_at_5 : decode cX3_at 5 = .ok (.ifCond .eq 12, 3) := by decide +kernel
theorem dX3_at_8 : decode cX3_at 8 = .ok (.aload_n 0, 1) := by decide +kernel
theorem dX3_at_9 : decode cX3_at 9 = .ok (.getfield 15, 3) := by decide +kernel
theorem dX3_at_12 : decode cX3_at 12 = .ok (.iload_n 1, 1) := by decide +kernel
theorem dX3_at_13 : decode cX3_at 13 = .ok (.iaload, 1) := by decide +kernel
theorem dX3_at_14 : decode cX3_at 14 = .ok (.goto 4, 3) := by decide +kernel
theorem dX3_at_17 : decode cX3_at 17 = .ok (.iconst (-1), 1) := by decide +kernel
theorem dX3_at_18 : decode cX3_at 18 = .ok (.ireturn, 1) := by decide +kernel
theorem dX3_put_0 : decode cX3_put 0 = .ok (.aload_n 0, 1) := by decide +kernel
theorem dX3_put_1 : decode cX3_put 1 = .ok (.getfield 21, 3) := by decide +kernel
theorem dX3_put_4 : decode cX3_put 4 = .ok (.ifCond .lt 35, 3) := by decide +kernel
theorem dX3_put_7 : decode cX3_put 7 = .ok (.aload_n 0, 1) := by decide +kernel
theorem dX3_put_8 : decode cX3_put 8 = .ok (.getfield 21, 3) := by decide +kernel
theorem dX3_put_11 : decode cX3_put 11 = .ok (.aload_n 0, 1) := by decide +kernel
theorem dX3_put_12 : decode cX3_put 12 = .ok (.getfield 15, 3) := by decide +kernel
theorem dX3_put_15 : decode cX3_put 15 = .ok (.arraylength, 1) := by decide +kernel
theorem dX3_put_16 : decode cX3_put 16 = .ok (.if_icmp .ge 23, 3) := by decide +kernel
theorem dX3_put_19 : decode cX3_put 19 = .ok (.aload_n 0, 1) := by decide +kernel
theorem dX3_put_20 : decode cX3_put 20 = .ok (.getfield 15, 3) := by decide +kernel
theorem dX3_put_23 : decode cX3_put 23 = .ok (.aload_n 0, 1) := by decide +kernel
theorem dX3_put_24 : decode cX3_put 24 = .ok (.getfield 21, 3) := by decide +kernel
theorem dX3_put_27 : decode cX3_put 27 = .ok (.iload_n 1, 1) := by decide +kernel
theorem dX3_put_28 : decode cX3_put 28 = .ok (.iastore, 1) := by decide +kernel
theorem dX3_put_29 : decode cX3_put 29 = .ok (.aload_n 0, 1) := by decide +kernel
theorem dX3_put_30 : decode cX3_put 30 = .ok (.dup, 1) := by decide +kernel
theorem dX3_put_31 : decode cX3_put 31 = .ok (.getfield 21, 3) := by decide +kernel
theorem dX3_put_34 : decode cX3_put 34 = .ok (.iconst 1, 1) := by decide +kernel
theorem dX3_put_35 : decode cX3_put 35 = .ok (.iadd, 1) := by decide +kernel
theorem dX3_put_36 : decode cX3_put 36 = .ok (.putfield 21, 3) := by decide +kernel
theorem dX3_put_39 : decode cX3_put 39 = .ok (.return_, 1) := by decide +kernel
theorem dX3_shorten_0 : decode cX3_shorten 0 = .ok (.iload_n 1, 1) := by decide +kernel
theorem dX3_shorten_1 : decode cX3_shorten 1 = .ok (.ifCond .lt 16, 3) := by decide +kernel
theorem dX3_shorten_4 : decode cX3_shorten 4 = .ok (.iload_n 1, 1) := by decide +kernel
theorem dX3_shorten_5 : decode cX3_shorten 5 = .ok (.aload_n 0, 1) := by decide +kernel
theorem dX3_shorten_6 : decode cX3_shorten 6 = .ok (.getfield 21, 3) := by decide +kernel
theorem dX3_shorten_9 : decode cX3_shorten 9 = .ok (.if_icmp .ge 8, 3) := by decide +kernel
theorem dX3_shorten_12 : decode cX3_shorten 12 = .ok (.aload_n 0, 1) := by decide +kernel
theorem dX3_shorten_13 : decode cX3_shorten 13 = .ok (.iload_n 1, 1) := by decide +kernel
theorem dX3_shorten_14 : decode cX3_shorten 14 = .ok (.putfield 21, 3) := by decide +kernel
theorem dX3_shorten_17 : decode cX3_shorten 17 = .ok (.return_, 1) := by decide +kernel
theorem dX3_packed_0 : decode cX3_packed 0 = .ok (.lconst 0, 1) := by decide +kernel
theorem dX3_packed_1 : decode cX3_packed 1 = .ok (.lstore_n 3, 1) := by decide +kernel
theorem dX3_packed_2 : decode cX3_packed 2 = .ok (.iconst 0, 1) := by decide +kernel
theorem dX3_packed_3 : decode cX3_packed 3 = .ok (.istore 5, 2) := by decide +kernel
theorem dX3_packed_5 : decode cX3_packed 5 = .ok (.iload 5, 2) := by decide +kernel
theorem dX3_packed_7 : decode cX3_packed 7 = .ok (.iload_n 2, 1) := by decide +kernel
theorem dX3_packed_8 : decode cX3_packed 8 = .ok (.if_icmp .ge 56, 3) := by decide +kernel
theorem dX3_packed_11 : decode cX3_packed 11 = .ok (.iload_n 1, 1) := by decide +kernel
theorem dX3_packed_12 : decode cX3_packed 12 = .ok (.iload 5, 2) := by decide +kernel
theorem dX3_packed_14 : decode cX3_packed 14 = .ok (.iadd, 1) := by decide +kernel
theorem dX3_packed_15 : decode cX3_packed 15 = .ok (.istore 6, 2) := by decide +kernel
theorem dX3_packed_17 : decode cX3_packed 17 = .ok (.iload 6, 2) := by decide +kernel
theorem dX3_packed_19 : decode cX3_packed 19 = .ok (.ifCond .lt 39, 3) := by decide +kernel
theorem dX3_packed_22 : decode cX3_packed 22 = .ok (.iload 6, 2) := by decide +kernel
theorem dX3_packed_24 : decode cX3_packed 24 = .ok (.aload_n 0, 1) := by decide +kernel
theorem dX3_packed_25 : decode cX3_packed 25 = .ok (.getfield 21, 3) := by decide +kernel
theorem dX3_packed_28 : decode cX3_packed 28 = .ok (.if_icmp .ge 30, 3) := by decide +kernel
theorem dX3_packed_31 : decode cX3_packed 31 = .ok (.iload 6, 2) := by decide +kernel
theorem dX3_packed_33 : decode cX3_packed 33 = .ok (.aload_n 0, 1) := by decide +kernel
theorem dX3_packed_34 : decode cX3_packed 34 = .ok (.getfield 15, 3) := by decide +kernel
theorem dX3_packed_37 : decode cX3_packed 37 = .ok (.arraylength, 1) := by decide +kernel
theorem dX3_packed_38 : decode cX3_packed 38 = .ok (.if_icmp .ge 20, 3) := by decide +kernel
theorem dX3_packed_41 : decode cX3_packed 41 = .ok (.lload_n 3, 1) := by decide +kernel
theorem dX3_packed_42 : decode cX3_packed 42 = .ok (.aload_n 0, 1) := by decide +kernel
theorem dX3_packed_43 : decode cX3_packed 43 = .ok (.getfield 15, 3) := by decide +kernel
theorem dX3_packed_46 : decode cX3_packed 46 = .ok (.iload 6, 2) := by decide +kernel
theorem dX3_packed_48 : decode cX3_packed 48 = .ok (.iaload, 1) := by decide +kernel
theorem dX3_packed_49 : decode cX3_packed 49 = .ok (.i2l, 1) := by decide +kernel
theorem dX3_packed_50 : decode cX3_packed 50 = .ok (.bipush 10, 2) := by decide +kernel
theorem dX3_packed_52 : decode cX3_packed 52 = .ok (.iload 5, 2) := by decide +kernel
theorem dX3_packed_54 : decode cX3_packed 54 = .ok (.imul, 1) := by decide +kernel
theorem dX3_packed_55 : decode cX3_packed 55 = .ok (.lshl, 1) := by decide +kernel
theorem dX3_packed_56 : decode cX3_packed 56 = .ok (.lor, 1) := by decide +kernel
theorem dX3_packed_57 : decode cX3_packed 57 = .ok (.lstore_n 3, 1) := by decide +kernel
theorem dX3_packed_58 : decode cX3_packed 58 = .ok (.iinc 5 1, 3) := by decide +kernel
theorem dX3_packed_61 : decode cX3_packed 61 = .ok (.goto (-56), 3) := by decide +kernel
theorem dX3_packed_64 : decode cX3_packed 64 = .ok (.lload_n 3, 1) := by decide +kernel
theorem dX3_packed_65 : decode cX3_packed 65 = .ok (.lreturn, 1) := by decide +kernel
theorem dX3_become_0 : decode cX3_become 0 = .ok (.aload_n 0, 1) := by decide +kernel
theorem dX3_become_1 : decode cX3_become 1 = .ok (.iconst 0, 1) := by decide +kernel
theorem dX3_become_2 : decode cX3_become 2 = .ok (.putfield 21, 3) := by decide +kernel
theorem dX3_become_5 : decode cX3_become 5 = .ok (.iconst 0, 1) := by decide +kernel
theorem dX3_become_6 : decode cX3_become 6 = .ok (.istore_n 2, 1) := by decide +kernel
theorem dX3_become_7 : decode cX3_become 7 = .ok (.iload_n 2, 1) := by decide +kernel
theorem dX3_become_8 : decode cX3_become 8 = .ok (.aload_n 1, 1) := by decide +kernel
theorem dX3_become_9 : decode cX3_become 9 = .ok (.getfield 21, 3) := by decide +kernel
theorem dX3_become_12 : decode cX3_become 12 = .ok (.if_icmp .ge 18, 3) := by decide +kernel
theorem dX3_become_15 : decode cX3_become 15 = .ok (.aload_n 0, 1) := by decide +kernel
theorem dX3_become_16 : decode cX3_become 16 = .ok (.aload_n 1, 1) := by decide +kernel
theorem dX3_become_17 : decode cX3_become 17 = .ok (.iload_n 2, 1) := by decide +kernel
theorem dX3_become_18 : decode cX3_become 18 = .ok (.invokevirtual 29, 3) := by decide +kernel
theorem dX3_become_21 : decode cX3_become 21 = .ok (.invokevirtual 33, 3) := by decide +kernel
theorem dX3_become_24 : decode cX3_become 24 = .ok (.iinc 2 1, 3) := by decide +kernel
theorem dX3_become_27 : decode cX3_become 27 = .ok (.goto (-20), 3) := by decide +kernel
theorem dX3_become_30 : decode cX3_become 30 = .ok (.return_, 1) := by decide +kernel
theorem dX4_init_0 : decode cX4_init 0 = .ok (.aload_n 0, 1) := by decide +kernel
theorem dX4_init_1 : decode cX4_init 1 = .ok (.invokespecial 3, 3) := by decide +kernel
theorem dX4_init_4 : decode cX4_init 4 = .ok (.aload_n 0, 1) := by decide +kernel
theorem dX4_init_5 : decode cX4_init 5 = .ok (.bipush 6, 2) := by decide +kernel
theorem dX4_init_7 : decode cX4_init 7 = .ok (.anewarray 9, 3) := by decide +kernel
theorem dX4_init_10 : decode cX4_init 10 = .ok (.putfield 11, 3) := by decide +kernel
theorem dX4_init_13 : decode cX4_init 13 = .ok (.iconst 0, 1) := by decide +kernel
theorem dX4_init_14 : decode cX4_init 14 = .ok (.istore_n 1, 1) := by decide +kernel
theorem dX4_init_15 : decode cX4_init 15 = .ok (.iload_n 1, 1) := by decide +kernel
theorem dX4_init_16 : decode cX4_init 16 = .ok (.aload_n 0, 1) := by decide +kernel
theorem dX4_init_17 : decode cX4_init 17 = .ok (.getfield 11, 3) := by decide +kernel
theorem dX4_init_20 : decode cX4_init 20 = .ok (.arraylength, 1) := by decide +kernel
theorem dX4_init_21 : decode cX4_init 21 = .ok (.if_icmp .ge 22, 3) := by decide +kernel
theorem dX4_init_24 : decode cX4_init 24 = .ok (.aload_n 0, 1) := by decide +kernel
theorem dX4_init_25 : decode cX4_init 25 = .ok (.getfield 11, 3) := by decide +kernel
theorem dX4_init_28 : decode cX4_init 28 = .ok (.iload_n 1, 1) := by decide +kernel
theorem dX4_init_29 : decode cX4_init 29 = .ok (.new 9, 3) := by decide +kernel
theorem dX4_init_32 : decode cX4_init 32 = .ok (.dup, 1) := by decide +kernel
theorem dX4_init_33 : decode cX4_init 33 = .ok (.invokespecial 17, 3) := by decide +kernel
theorem dX4_init_36 : decode cX4_init 36 = .ok (.aastore, 1) := by decide +kernel
theorem dX4_init_37 : decode cX4_init 37 = .ok (.iinc 1 1, 3) := by decide +kernel
theorem dX4_init_40 : decode cX4_init 40 = .ok (.goto (-25), 3) := by decide +kernel
theorem dX4_init_43 : decode cX4_init 43 = .ok (.return_, 1) := by decide +kernel
theorem dX4_size_0 : decode cX4_size 0 = .ok (.aload_n 0, 1) := by decide +kernel
theorem dX4_size_1 : decode cX4_size 1 = .ok (.getfield 18, 3) := by decide +kernel
theorem dX4_size_4 : decode cX4_size 4 = .ok (.ireturn, 1) := by decide +kernel
theorem dX4_push_0 : decode cX4_push 0 = .ok (.aload_n 0, 1) := by decide +kernel
theorem dX4_push_1 : decode cX4_push 1 = .ok (.aload_n 0, 1) := by decide +kernel
theorem dX4_push_2 : decode cX4_push 2 = .ok (.getfield 18, 3) := by decide +kernel
theorem dX4_push_5 : decode cX4_push 5 = .ok (.invokevirtual 22, 3) := by decide +kernel
theorem dX4_push_8 : decode cX4_push 8 = .ok (.astore_n 2, 1) := by decide +kernel
theorem dX4_push_9 : decode cX4_push 9 = .ok (.aload_n 2, 1) := by decide +kernel
theorem dX4_push_10 : decode cX4_push 10 = .ok (.ifnull 8, 3) := by decide +kernel
theorem dX4_push_13 : decode cX4_push 13 = .ok (.aload_n 2, 1) := by decide +kernel
theorem dX4_push_14 : decode cX4_push 14 = .ok (.aload_n 1, 1) := by decide +kernel
theorem dX4_push_15 : decode cX4_push 15 = .ok (.invokevirtual 26, 3) := by decide +kernel
theorem dX4_push_18 : decode cX4_push 18 = .ok (.aload_n 0, 1) := by decide +kernel
theorem dX4_push_19 : decode cX4_push 19 = .ok (.getfield 18, 3) := by decide +kernel
theorem dX4_push_22 : decode cX4_push 22 = .ok (.bipush 6, 2) := by decide +kernel
theorem dX4_push_24 : decode cX4_push 24 = .ok (.if_icmp .ge 16, 3) := by decide +kernel
theorem dX4_push_27 : decode cX4_push 27 = .ok (.aload_n 0, 1) := by decide +kernel
theorem dX4_push_28 : decode cX4_push 28 = .ok (.dup, 1) := by decide +kernel
theorem dX4_push_29 : decode cX4_push 29 = .ok (.getfield 18, 3) := by decide +kernel
theorem dX4_push_32 : decode cX4_push 32 = .ok (.iconst 1, 1) := by decide +kernel
theorem dX4_push_33 : decode cX4_push 33 = .ok (.iadd, 1) := by decide +kernel
theorem dX4_push_34 : decode cX4_push 34 = .ok (.putfield 18, 3) := by decide +kernel
theorem dX4_push_37 : decode cX4_push 37 = .ok (.goto 18, 3) := by decide +kernel
theorem dX4_push_40 : decode cX4_push 40 = .ok (.aload_n 0, 1) := by decide +kernel
theorem dX4_push_41 : decode cX4_push 41 = .ok (.aload_n 0, 1) := by decide +kernel
theorem dX4_push_42 : decode cX4_push 42 = .ok (.getfield 30, 3) := by decide +kernel
theorem dX4_push_45 : decode cX4_push 45 = .ok (.iconst 1, 1) := by decide +kernel
theorem dX4_push_46 : decode cX4_push 46 = .ok (.iadd, 1) := by decide +kernel
theorem dX4_push_47 : decode cX4_push 47 = .ok (.bipush 6, 2) := by decide +kernel
theorem dX4_push_49 : decode cX4_push 49 = .ok (.invokestatic 33, 3) := by decide +kernel
theorem dX4_push_52 : decode cX4_push 52 = .ok (.putfield 30, 3) := by decide +kernel
theorem dX4_push_55 : decode cX4_push 55 = .ok (.return_, 1) := by decide +kernel
theorem dX4_popInto_0 : decode cX4_popInto 0 = .ok (.aload_n 0, 1) := by decide +kernel
theorem dX4_popInto_1 : decode cX4_popInto 1 = .ok (.getfield 18, 3) := by decide +kernel
theorem dX4_popInto_4 : decode cX4_popInto 4 = .ok (.ifCond .le 31, 3) := by decide +kernel
theorem dX4_popInto_7 : decode cX4_popInto 7 = .ok (.aload_n 0, 1) := by decide +kernel
theorem dX4_popInto_8 : decode cX4_popInto 8 = .ok (.dup, 1) := by decide +kernel
theorem dX4_popInto_9 : decode cX4_popInto 9 = .ok (.getfield 18, 3) := by decide +kernel
theorem dX4_popInto_12 : decode cX4_popInto 12 = .ok (.iconst 1, 1) := by decide +kernel
theorem dX4_popInto_13 : decode cX4_popInto 13 = .ok (.isub, 1) := by decide +kernel
theorem dX4_popInto_14 : decode cX4_popInto 14 = .ok (.putfield 18, 3) := by decide +kernel
theorem dX4_popInto_17 : decode cX4_popInto 17 = .ok (.aload_n 0, 1) := by decide +kernel
theorem dX4_popInto_18 : decode cX4_popInto 18 = .ok (.aload_n 0, 1) := by decide +kernel
theorem dX4_popInto_19 : decode cX4_popInto 19 = .ok (.getfield 18, 3) := by decide +kernel
theorem dX4_popInto_22 : decode cX4_popInto 22 = .ok (.invokevirtual 22, 3) := by decide +kernel
theorem dX4_popInto_25 : decode cX4_popInto 25 = .ok (.astore_n 2, 1) := by decide +kernel
theorem dX4_popInto_26 : decode cX4_popInto 26 = .ok (.aload_n 2, 1) := by decide +kernel
theorem dX4_popInto_27 : decode cX4_popInto 27 = .ok (.ifnull 8, 3) := by decide +kernel
theorem dX4_popInto_30 : decode cX4_popInto 30 = .ok (.aload_n 1, 1) := by decide +kernel
theorem dX4_popInto_31 : decode cX4_popInto 31 = .ok (.aload_n 2, 1) := by decide +kernel
theorem dX4_popInto_32 : decode cX4_popInto 32 = .ok (.invokevirtual 26, 3) := by decide +kernel
theorem dX4_popInto_35 : decode cX4_popInto 35 = .ok (.return_, 1) := by decide +kernel
theorem dX4_slotBehindOldest_0 : decode cX4_slotBehindOldest 0 = .ok (.aload_n 0, 1) := by decide +kernel
theorem dX4_slotBehindOldest_1 : decode cX4_slotBehindOldest 1 = .ok (.getfield 30, 3) := by decide +kernel
theorem dX4_slotBehindOldest_4 : decode cX4_slotBehindOldest 4 = .ok (.iload_n 1, 1) := by decide +kernel
theorem dX4_slotBehindOldest_5 : decode cX4_slotBehindOldest 5 = .ok (.iadd, 1) := by decide +kernel
theorem dX4_slotBehindOldest_6 : decode cX4_slotBehindOldest 6 = .ok (.bipush 6, 2) := by decide +kernel
theorem dX4_slotBehindOldest_8 : decode cX4_slotBehindOldest 8 = .ok (.invokestatic 33, 3) := by decide +kernel
theorem dX4_slotBehindOldest_11 : decode cX4_slotBehindOldest 11 = .ok (.istore_n 2, 1) := by decide +kernel
theorem dX4_slotBehindOldest_12 : decode cX4_slotBehindOldest 12 = .ok (.iload_n 2, 1) := by decide +kernel
theorem dX4_slotBehindOldest_13 : decode cX4_slotBehindOldest 13 = .ok (.ifCond .lt 21, 3) := by decide +kernel
theorem dX4_slotBehindOldest_16 : decode cX4_slotBehindOldest 16 = .ok (.iload_n 2, 1) := by decide +kernel
theorem dX4_slotBehindOldest_17 : decode cX4_slotBehindOldest 17 = .ok (.aload_n 0, 1) := by decide +kernel
theorem dX4_slotBehindOldest_18 : decode cX4_slotBehindOldest 18 = .ok (.getfield 11, 3) := by decide +kernel
theorem dX4_slotBehindOldest_21 : decode cX4_slotBehindOldest 21 = .ok (.arraylength, 1) := by decide +kernel
theorem dX4_slotBehindOldest_22 : decode cX4_slotBehindOldest 22 = .ok (.if_icmp .ge 12, 3) := by decide +kernel
theorem dX4_slotBehindOldest_25 : decode cX4_slotBehindOldest 25 = .ok (.aload_n 0, 1) := by decide +kernel
theorem dX4_slotBehindOldest_26 : decode cX4_slotBehindOldest 26 = .ok (.getfield 11, 3) := by decide +kernel
theorem dX4_slotBehindOldest_29 : decode cX4_slotBehindOldest 29 = .ok (.iload_n 2, 1) := by decide +kernel
theorem dX4_slotBehindOldest_30 : decode cX4_slotBehindOldest 30 = .ok (.aaload, 1) := by decide +kernel
theorem dX4_slotBehindOldest_31 : decode cX4_slotBehindOldest 31 = .ok (.goto 4, 3) := by decide +kernel
theorem dX4_slotBehindOldest_34 : decode cX4_slotBehindOldest 34 = .ok (.aconst_null, 1) := by decide +kernel
theorem dX4_slotBehindOldest_35 : decode cX4_slotBehindOldest 35 = .ok (.areturn, 1) := by decide +kernel
theorem dX5_init_0 : decode cX5_init 0 = .ok (.aload_n 0, 1) := by decide +kernel
theorem dX5_init_1 : decode cX5_init 1 = .ok (.invokespecial 3, 3) := by decide +kernel
theorem dX5_init_4 : decode cX5_init 4 = .ok (.aload_n 0, 1) := by decide +kernel
theorem dX5_init_5 : decode cX5_init 5 = .ok (.new 9, 3) := by decide +kernel
theorem dX5_init_8 : decode cX5_init 8 = .ok (.dup, 1) := by decide +kernel
theorem dX5_init_9 : decode cX5_init 9 = .ok (.bipush 60, 2) := by decide +kernel
theorem dX5_init_11 : decode cX5_init 11 = .ok (.invokespecial 11, 3) := by decide +kernel
theorem dX5_init_14 : decode cX5_init 14 = .ok (.putfield 14, 3) := by decide +kernel
theorem dX5_init_17 : decode cX5_init 17 = .ok (.aload_n 0, 1) := by decide +kernel
theorem dX5_init_18 : decode cX5_init 18 = .ok (.new 20, 3) := by decide +kernel
theorem dX5_init_21 : decode cX5_init 21 = .ok (.dup, 1) := by decide +kernel
theorem dX5_init_22 : decode cX5_init 22 = .ok (.invokespecial 22, 3) := by decide +kernel
theorem dX5_init_25 : decode cX5_init 25 = .ok (.putfield 23, 3) := by decide +kernel
theorem dX5_init_28 : decode cX5_init 28 = .ok (.aload_n 0, 1) := by decide +kernel
theorem dX5_init_29 : decode cX5_init 29 = .ok (.iconst 4, 1) := by decide +kernel
theorem dX5_init_30 : decode cX5_init 30 = .ok (.putfield 27, 3) := by decide +kernel
theorem dX5_init_33 : decode cX5_init 33 = .ok (.return_, 1) := by decide +kernel
theorem dX5_become_0 : decode cX5_become 0 = .ok (.aload_n 0, 1) := by decide +kernel
theorem dX5_become_1 : decode cX5_become 1 = .ok (.getfield 14, 3) := by decide +kernel
theorem dX5_become_4 : decode cX5_become 4 = .ok (.aload_n 1, 1) := by decide +kernel
theorem dX5_become_5 : decode cX5_become 5 = .ok (.getfield 14, 3) := by decide +kernel
theorem dX5_become_8 : decode cX5_become 8 = .ok (.invokevirtual 31, 3) := by decide +kernel
theorem dX5_become_11 : decode cX5_become 11 = .ok (.aload_n 0, 1) := by decide +kernel
theorem dX5_become_12 : decode cX5_become 12 = .ok (.getfield 23, 3) := by decide +kernel
theorem dX5_become_15 : decode cX5_become 15 = .ok (.aload_n 1, 1) := by decide +kernel
theorem dX5_become_16 : decode cX5_become 16 = .ok (.getfield 23, 3) := by decide +kernel
theorem dX5_become_19 : decode cX5_become 19 = .ok (.invokevirtual 35, 3) := by decide +kernel
theorem dX5_become_22 : decode cX5_become 22 = .ok (.aload_n 0, 1) := by decide +kernel
theorem dX5_become_23 : decode cX5_become 23 = .ok (.aload_n 1, 1) := by decide +kernel
theorem dX5_become_24 : decode cX5_become 24 = .ok (.getfield 38, 3) := by decide +kernel
theorem dX5_become_27 : decode cX5_become 27 = .ok (.putfield 38, 3) := by decide +kernel
theorem dX5_become_30 : decode cX5_become 30 = .ok (.aload_n 0, 1) := by decide +kernel
theorem dX5_become_31 : decode cX5_become 31 = .ok (.aload_n 1, 1) := by decide +kernel
theorem dX5_become_32 : decode cX5_become 32 = .ok (.getfield 27, 3) := by decide +kernel
theorem dX5_become_35 : decode cX5_become 35 = .ok (.putfield 27, 3) := by decide +kernel
theorem dX5_become_38 : decode cX5_become 38 = .ok (.aload_n 0, 1) := by decide +kernel
theorem dX5_become_39 : decode cX5_become 39 = .ok (.aload_n 1, 1) := by decide +kernel
theorem dX5_become_40 : decode cX5_become 40 = .ok (.getfield 41, 3) := by decide +kernel
theorem dX5_become_43 : decode cX5_become 43 = .ok (.putfield 41, 3) := by decide +kernel
theorem dX5_become_46 : decode cX5_become 46 = .ok (.aload_n 0, 1) := by decide +kernel
theorem dX5_become_47 : decode cX5_become 47 = .ok (.aload_n 1, 1) := by decide +kernel
theorem dX5_become_48 : decode cX5_become 48 = .ok (.getfield 44, 3) := by decide +kernel
theorem dX5_become_51 : decode cX5_become 51 = .ok (.putfield 44, 3) := by decide +kernel
theorem dX5_become_54 : decode cX5_become 54 = .ok (.aload_n 0, 1) := by decide +kernel
theorem dX5_become_55 : decode cX5_become 55 = .ok (.aload_n 1, 1) := by decide +kernel
theorem dX5_become_56 : decode cX5_become 56 = .ok (.getfield 47, 3) := by decide +kernel
theorem dX5_become_59 : decode cX5_become 59 = .ok (.putfield 47, 3) := by decide +kernel
theorem dX5_become_62 : decode cX5_become 62 = .ok (.aload_n 0, 1) := by decide +kernel
theorem dX5_become_63 : decode cX5_become 63 = .ok (.aload_n 1, 1) := by decide +kernel
theorem dX5_become_64 : decode cX5_become 64 = .ok (.getfield 50, 3) := by decide +kernel
theorem dX5_become_67 : decode cX5_become 67 = .ok (.putfield 50, 3) := by decide +kernel
theorem dX5_become_70 : decode cX5_become 70 = .ok (.return_, 1) := by decide +kernel
