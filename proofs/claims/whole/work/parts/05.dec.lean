theorem dX7_init_0 : decode cX7_init 0 = .ok (.aload_n 0, 1) := by decide +kernel
theorem dX7_init_1 : decode cX7_init 1 = .ok (.invokespecial 1, 3) := by decide +kernel
theorem dX7_init_4 : decode cX7_init 4 = .ok (.aload_n 0, 1) := by decide +kernel
theorem dX7_init_5 : decode cX7_init 5 = .ok (.sipush 1888, 3) := by decide +kernel
theorem dX7_init_8 : decode cX7_init 8 = .ok (.newarray .int, 2) := by decide +kernel
theorem dX7_init_10 : decode cX7_init 10 = .ok (.putfield 7, 3) := by decide +kernel
theorem dX7_init_13 : decode cX7_init 13 = .ok (.aload_n 0, 1) := by decide +kernel
theorem dX7_init_14 : decode cX7_init 14 = .ok (.bipush 60, 2) := by decide +kernel
theorem dX7_init_16 : decode cX7_init 16 = .ok (.newarray .int, 2) := by decide +kernel
theorem dX7_init_18 : decode cX7_init 18 = .ok (.putfield 13, 3) := by decide +kernel
theorem dX7_init_21 : decode cX7_init 21 = .ok (.aload_n 0, 1) := by decide +kernel
theorem dX7_init_22 : decode cX7_init 22 = .ok (.bipush 31, 2) := by decide +kernel
theorem dX7_init_24 : decode cX7_init 24 = .ok (.newarray .int, 2) := by decide +kernel
theorem dX7_init_26 : decode cX7_init 26 = .ok (.putfield 16, 3) := by decide +kernel
theorem dX7_init_29 : decode cX7_init 29 = .ok (.aload_n 0, 1) := by decide +kernel
theorem dX7_init_30 : decode cX7_init 30 = .ok (.bipush 61, 2) := by decide +kernel
theorem dX7_init_32 : decode cX7_init 32 = .ok (.newarray .int, 2) := by decide +kernel
theorem dX7_init_34 : decode cX7_init 34 = .ok (.putfield 19, 3) := by decide +kernel
theorem dX7_init_37 : decode cX7_init 37 = .ok (.aload_n 0, 1) := by decide +kernel
theorem dX7_init_38 : decode cX7_init 38 = .ok (.bipush 61, 2) := by decide +kernel
theorem dX7_init_40 : decode cX7_init 40 = .ok (.newarray .int, 2) := by decide +kernel
theorem dX7_init_42 : decode cX7_init 42 = .ok (.putfield 22, 3) := by decide +kernel
theorem dX7_init_45 : decode cX7_init 45 = .ok (.aload_n 0, 1) := by decide +kernel
theorem dX7_init_46 : decode cX7_init 46 = .ok (.bipush 61, 2) := by decide +kernel
theorem dX7_init_48 : decode cX7_init 48 = .ok (.newarray .int, 2) := by decide +kernel
theorem dX7_init_50 : decode cX7_init 50 = .ok (.putfield 25, 3) := by decide +kernel
theorem dX7_init_53 : decode cX7_init 53 = .ok (.aload_n 0, 1) := by decide +kernel
theorem dX7_init_54 : decode cX7_init 54 = .ok (.bipush 61, 2) := by decide +kernel
theorem dX7_init_56 : decode cX7_init 56 = .ok (.newarray .int, 2) := by decide +kernel
theorem dX7_init_58 : decode cX7_init 58 = .ok (.putfield 28, 3) := by decide +kernel
theorem dX7_init_61 : decode cX7_init 61 = .ok (.aload_n 0, 1) := by decide +kernel
theorem dX7_init_62 : decode cX7_init 62 = .ok (.bipush 62, 2) := by decide +kernel
theorem dX7_init_64 : decode cX7_init 64 = .ok (.newarray .int, 2) := by decide +kernel
theorem dX7_init_66 : decode cX7_init 66 = .ok (.putfield 31, 3) := by decide +kernel
theorem dX7_init_69 : decode cX7_init 69 = .ok (.aload_n 0, 1) := by decide +kernel
theorem dX7_init_70 : decode cX7_init 70 = .ok (.getfield 7, 3) := by decide +kernel
theorem dX7_init_73 : decode cX7_init 73 = .ok (.iconst 3, 1) := by decide +kernel
theorem dX7_init_74 : decode cX7_init 74 = .ok (.iconst 4, 1) := by decide +kernel
theorem dX7_init_75 : decode cX7_init 75 = .ok (.iastore, 1) := by decide +kernel
theorem dX7_init_76 : decode cX7_init 76 = .ok (.return_, 1) := by decide +kernel
theorem dX7_thrown_0 : decode cX7_thrown 0 = .ok (.aload_n 0, 1) := by decide +kernel
theorem dX7_thrown_1 : decode cX7_thrown 1 = .ok (.getfield 34, 3) := by decide +kernel
theorem dX7_thrown_4 : decode cX7_thrown 4 = .ok (.ireturn, 1) := by decide +kernel
theorem dX7_in_0 : decode cX7_in 0 = .ok (.iload_n 0, 1) := by decide +kernel
theorem dX7_in_1 : decode cX7_in 1 = .ok (.iload_n 1, 1) := by decide +kernel
theorem dX7_in_2 : decode cX7_in 2 = .ok (.if_icmp .lt 12, 3) := by decide +kernel
theorem dX7_in_5 : decode cX7_in 5 = .ok (.iload_n 0, 1) := by decide +kernel
theorem dX7_in_6 : decode cX7_in 6 = .ok (.iload_n 2, 1) := by decide +kernel
theorem dX7_in_7 : decode cX7_in 7 = .ok (.if_icmp .gt 7, 3) := by decide +kernel
theorem dX7_in_10 : decode cX7_in 10 = .ok (.iconst 1, 1) := by decide +kernel
theorem dX7_in_11 : decode cX7_in 11 = .ok (.goto 4, 3) := by decide +kernel
theorem dX7_in_14 : decode cX7_in 14 = .ok (.iconst 0, 1) := by decide +kernel
theorem dX7_in_15 : decode cX7_in 15 = .ok (.ireturn, 1) := by decide +kernel
theorem dX7_holds_0 : decode cX7_holds 0 = .ok (.aload_n 0, 1) := by decide +kernel
theorem dX7_holds_1 : decode cX7_holds 1 = .ok (.iload_n 1, 1) := by decide +kernel
theorem dX7_holds_2 : decode cX7_holds 2 = .ok (.putfield 34, 3) := by decide +kernel
theorem dX7_holds_5 : decode cX7_holds 5 = .ok (.iload_n 1, 1) := by decide +kernel
theorem dX7_holds_6 : decode cX7_holds 6 = .ok (.ifCond .ne 7, 3) := by decide +kernel
theorem dX7_holds_9 : decode cX7_holds 9 = .ok (.iconst 1, 1) := by decide +kernel
theorem dX7_holds_10 : decode cX7_holds 10 = .ok (.goto 4, 3) := by decide +kernel
theorem dX7_holds_13 : decode cX7_holds 13 = .ok (.iconst 0, 1) := by decide +kernel
theorem dX7_holds_14 : decode cX7_holds 14 = .ok (.ireturn, 1) := by decide +kernel
theorem dX7_keysOf_0 : decode cX7_keysOf 0 = .ok (.iconst 0, 1) := by decide +kernel
theorem dX7_keysOf_1 : decode cX7_keysOf 1 = .ok (.istore_n 1, 1) := by decide +kernel
theorem dX7_keysOf_2 : decode cX7_keysOf 2 = .ok (.iconst 0, 1) := by decide +kernel
theorem dX7_keysOf_3 : decode cX7_keysOf 3 = .ok (.istore_n 2, 1) := by decide +kernel
theorem dX7_keysOf_4 : decode cX7_keysOf 4 = .ok (.iload_n 2, 1) := by decide +kernel
theorem dX7_keysOf_5 : decode cX7_keysOf 5 = .ok (.bipush 10, 2) := by decide +kernel
theorem dX7_keysOf_7 : decode cX7_keysOf 7 = .ok (.if_icmp .ge 17, 3) := by decide +kernel
theorem dX7_keysOf_10 : decode cX7_keysOf 10 = .ok (.iload_n 1, 1) := by decide +kernel
theorem dX7_keysOf_11 : decode cX7_keysOf 11 = .ok (.iload_n 0, 1) := by decide +kernel
theorem dX7_keysOf_12 : decode cX7_keysOf 12 = .ok (.iload_n 2, 1) := by decide +kernel
theorem dX7_keysOf_13 : decode cX7_keysOf 13 = .ok (.ishr, 1) := by decide +kernel
theorem dX7_keysOf_14 : decode cX7_keysOf 14 = .ok (.iconst 1, 1) := by decide +kernel
theorem dX7_keysOf_15 : decode cX7_keysOf 15 = .ok (.iand, 1) := by decide +kernel
theorem dX7_keysOf_16 : decode cX7_keysOf 16 = .ok (.iadd, 1) := by decide +kernel
theorem dX7_keysOf_17 : decode cX7_keysOf 17 = .ok (.istore_n 1, 1) := by decide +kernel
theorem dX7_keysOf_18 : decode cX7_keysOf 18 = .ok (.iinc 2 1, 3) := by decide +kernel
theorem dX7_keysOf_21 : decode cX7_keysOf 21 = .ok (.goto (-17), 3) := by decide +kernel
theorem dX7_keysOf_24 : decode cX7_keysOf 24 = .ok (.iload_n 1, 1) := by decide +kernel
theorem dX7_keysOf_25 : decode cX7_keysOf 25 = .ok (.ireturn, 1) := by decide +kernel
theorem dX7_isEntry_0 : decode cX7_isEntry 0 = .ok (.iload_n 1, 1) := by decide +kernel
theorem dX7_isEntry_1 : decode cX7_isEntry 1 = .ok (.iconst 0, 1) := by decide +kernel
theorem dX7_isEntry_2 : decode cX7_isEntry 2 = .ok (.aload_n 0, 1) := by decide +kernel
theorem dX7_isEntry_3 : decode cX7_isEntry 3 = .ok (.getfield 7, 3) := by decide +kernel
theorem dX7_isEntry_6 : decode cX7_isEntry 6 = .ok (.iconst 1, 1) := by decide +kernel
theorem dX7_isEntry_7 : decode cX7_isEntry 7 = .ok (.iaload, 1) := by decide +kernel
theorem dX7_isEntry_8 : decode cX7_isEntry 8 = .ok (.iconst 1, 1) := by decide +kernel
theorem dX7_isEntry_9 : decode cX7_isEntry 9 = .ok (.isub, 1) := by decide +kernel
theorem dX7_isEntry_10 : decode cX7_isEntry 10 = .ok (.invokestatic 38, 3) := by decide +kernel
theorem dX7_isEntry_13 : decode cX7_isEntry 13 = .ok (.ireturn, 1) := by decide +kernel
theorem dX7_of_0 : decode cX7_of 0 = .ok (.aload_n 0, 1) := by decide +kernel
theorem dX7_of_1 : decode cX7_of 1 = .ok (.getfield 7, 3) := by decide +kernel
theorem dX7_of_4 : decode cX7_of 4 = .ok (.bipush 68, 2) := by decide +kernel
theorem dX7_of_6 : decode cX7_of 6 = .ok (.bipush 7, 2) := by decide +kernel
theorem dX7_of_8 : decode cX7_of 8 = .ok (.iload_n 1, 1) := by decide +kernel
theorem dX7_of_9 : decode cX7_of 9 = .ok (.imul, 1) := by decide +kernel
theorem dX7_of_10 : decode cX7_of 10 = .ok (.iadd, 1) := by decide +kernel
theorem dX7_of_11 : decode cX7_of 11 = .ok (.iload_n 2, 1) := by decide +kernel
theorem dX7_of_12 : decode cX7_of 12 = .ok (.iadd, 1) := by decide +kernel
theorem dX7_of_13 : decode cX7_of 13 = .ok (.iaload, 1) := by decide +kernel
theorem dX7_of_14 : decode cX7_of 14 = .ok (.ireturn, 1) := by decide +kernel
theorem dX7_lay_0 : decode cX7_lay 0 = .ok (.aload_n 0, 1) := by decide +kernel
theorem dX7_lay_1 : decode cX7_lay 1 = .ok (.getfield 7, 3) := by decide +kernel
theorem dX7_lay_4 : decode cX7_lay 4 = .ok (.bipush 68, 2) := by decide +kernel
theorem dX7_lay_6 : decode cX7_lay 6 = .ok (.bipush 7, 2) := by decide +kernel
theorem dX7_lay_8 : decode cX7_lay 8 = .ok (.iload_n 1, 1) := by decide +kernel
theorem dX7_lay_9 : decode cX7_lay 9 = .ok (.imul, 1) := by decide +kernel
theorem dX7_lay_10 : decode cX7_lay 10 = .ok (.iadd, 1) := by decide +kernel
theorem dX7_lay_11 : decode cX7_lay 11 = .ok (.iload_n 2, 1) := by decide +kernel
theorem dX7_lay_12 : decode cX7_lay 12 = .ok (.iadd, 1) := by decide +kernel
theorem dX7_lay_13 : decode cX7_lay 13 = .ok (.iload_n 3, 1) := by decide +kernel
theorem dX7_lay_14 : decode cX7_lay 14 = .ok (.iastore, 1) := by decide +kernel
theorem dX7_lay_15 : decode cX7_lay 15 = .ok (.return_, 1) := by decide +kernel
theorem dX7_areRivals_0 : decode cX7_areRivals 0 = .ok (.aload_n 0, 1) := by decide +kernel
theorem dX7_areRivals_1 : decode cX7_areRivals 1 = .ok (.iload_n 1, 1) := by decide +kernel
theorem dX7_areRivals_2 : decode cX7_areRivals 2 = .ok (.iconst 0, 1) := by decide +kernel
theorem dX7_areRivals_3 : decode cX7_areRivals 3 = .ok (.invokevirtual 42, 3) := by decide +kernel
theorem dX7_areRivals_6 : decode cX7_areRivals 6 = .ok (.aload_n 0, 1) := by decide +kernel
theorem dX7_areRivals_7 : decode cX7_areRivals 7 = .ok (.iload_n 2, 1) := by decide +kernel
theorem dX7_areRivals_8 : decode cX7_areRivals 8 = .ok (.iconst 0, 1) := by decide +kernel
theorem dX7_areRivals_9 : decode cX7_areRivals 9 = .ok (.invokevirtual 42, 3) := by decide +kernel
theorem dX7_areRivals_12 : decode cX7_areRivals 12 = .ok (.if_icmp .ne 7, 3) := by decide +kernel
theorem dX7_areRivals_15 : decode cX7_areRivals 15 = .ok (.iconst 1, 1) := by decide +kernel
theorem dX7_areRivals_16 : decode cX7_areRivals 16 = .ok (.goto 4, 3) := by decide +kernel
theorem dX7_areRivals_19 : decode cX7_areRivals 19 = .ok (.iconst 0, 1) := by decide +kernel
theorem dX7_areRivals_20 : decode cX7_areRivals 20 = .ok (.istore_n 3, 1) := by decide +kernel
theorem dX7_areRivals_21 : decode cX7_areRivals 21 = .ok (.iconst 0, 1) := by decide +kernel
theorem dX7_areRivals_22 : decode cX7_areRivals 22 = .ok (.istore 4, 2) := by decide +kernel
theorem dX7_areRivals_24 : decode cX7_areRivals 24 = .ok (.iload 4, 2) := by decide +kernel
theorem dX7_areRivals_26 : decode cX7_areRivals 26 = .ok (.aload_n 0, 1) := by decide +kernel
theorem dX7_areRivals_27 : decode cX7_areRivals 27 = .ok (.iload_n 1, 1) := by decide +kernel
theorem dX7_areRivals_28 : decode cX7_areRivals 28 = .ok (.iconst 0, 1) := by decide +kernel
theorem dX7_areRivals_29 : decode cX7_areRivals 29 = .ok (.invokevirtual 42, 3) := by decide +kernel
theorem dX7_areRivals_32 : decode cX7_areRivals 32 = .ok (.if_icmp .ge 40, 3) := by decide +kernel
theorem dX7_areRivals_35 : decode cX7_areRivals 35 = .ok (.iload_n 3, 1) := by decide +kernel
theorem dX7_areRivals_36 : decode cX7_areRivals 36 = .ok (.ifCond .eq 36, 3) := by decide +kernel
theorem dX7_areRivals_39 : decode cX7_areRivals 39 = .ok (.aload_n 0, 1) := by decide +kernel
theorem dX7_areRivals_40 : decode cX7_areRivals 40 = .ok (.iload_n 1, 1) := by decide +kernel
theorem dX7_areRivals_41 : decode cX7_areRivals 41 = .ok (.iconst 1, 1) := by decide +kernel
theorem dX7_areRivals_42 : decode cX7_areRivals 42 = .ok (.iload 4, 2) := by decide +kernel
theorem dX7_areRivals_44 : decode cX7_areRivals 44 = .ok (.iadd, 1) := by decide +kernel
theorem dX7_areRivals_45 : decode cX7_areRivals 45 = .ok (.invokevirtual 42, 3) := by decide +kernel
theorem dX7_areRivals_48 : decode cX7_areRivals 48 = .ok (.aload_n 0, 1) := by decide +kernel
theorem dX7_areRivals_49 : decode cX7_areRivals 49 = .ok (.iload_n 2, 1) := by decide +kernel
theorem dX7_areRivals_50 : decode cX7_areRivals 50 = .ok (.iconst 1, 1) := by decide +kernel
theorem dX7_areRivals_51 : decode cX7_areRivals 51 = .ok (.iload 4, 2) := by decide +kernel
theorem dX7_areRivals_53 : decode cX7_areRivals 53 = .ok (.iadd, 1) := by decide +kernel
theorem dX7_areRivals_54 : decode cX7_areRivals 54 = .ok (.invokevirtual 42, 3) := by decide +kernel
theorem dX7_areRivals_57 : decode cX7_areRivals 57 = .ok (.if_icmp .ne 7, 3) := by decide +kernel
theorem dX7_areRivals_60 : decode cX7_areRivals 60 = .ok (.iconst 1, 1) := by decide +kernel
theorem dX7_areRivals_61 : decode cX7_areRivals 61 = .ok (.goto 4, 3) := by decide +kernel
theorem dX7_areRivals_64 : decode cX7_areRivals 64 = .ok (.iconst 0, 1) := by decide +kernel
theorem dX7_areRivals_65 : decode cX7_areRivals 65 = .ok (.istore_n 3, 1) := by decide +kernel
theorem dX7_areRivals_66 : decode cX7_areRivals 66 = .ok (.iinc 4 1, 3) := by decide +kernel
theorem dX7_areRivals_69 : decode cX7_areRivals 69 = .ok (.goto (-45), 3) := by decide +kernel
theorem dX7_areRivals_72 : decode cX7_areRivals 72 = .ok (.iload_n 3, 1) := by decide +kernel
theorem dX7_areRivals_73 : decode cX7_areRivals 73 = .ok (.ireturn, 1) := by decide +kernel
theorem dX7_leads_0 : decode cX7_leads 0 = .ok (.iconst 1, 1) := by decide +kernel
theorem dX7_leads_1 : decode cX7_leads 1 = .ok (.istore_n 2, 1) := by decide +kernel
theorem dX7_leads_2 : decode cX7_leads 2 = .ok (.iconst 0, 1) := by decide +kernel
theorem dX7_leads_3 : decode cX7_leads 3 = .ok (.istore_n 3, 1) := by decide +kernel
theorem dX7_leads_4 : decode cX7_leads 4 = .ok (.iload_n 3, 1) := by decide +kernel
theorem dX7_leads_5 : decode cX7_leads 5 = .ok (.aload_n 0, 1) := by decide +kernel
theorem dX7_leads_6 : decode cX7_leads 6 = .ok (.getfield 7, 3) := by decide +kernel
theorem dX7_leads_9 : decode cX7_leads 9 = .ok (.iconst 1, 1) := by decide +kernel
theorem dX7_leads_10 : decode cX7_leads 10 = .ok (.iaload, 1) := by decide +kernel
theorem dX7_leads_11 : decode cX7_leads 11 = .ok (.if_icmp .ge 60, 3) := by decide +kernel
theorem dX7_leads_14 : decode cX7_leads 14 = .ok (.aload_n 0, 1) := by decide +kernel
theorem dX7_leads_15 : decode cX7_leads 15 = .ok (.iload_n 3, 1) := by decide +kernel
theorem dX7_leads_16 : decode cX7_leads 16 = .ok (.bipush 6, 2) := by decide +kernel
theorem dX7_leads_18 : decode cX7_leads 18 = .ok (.invokevirtual 42, 3) := by decide +kernel
theorem dX7_leads_21 : decode cX7_leads 21 = .ok (.aload_n 0, 1) := by decide +kernel
theorem dX7_leads_22 : decode cX7_leads 22 = .ok (.iload_n 1, 1) := by decide +kernel
theorem dX7_leads_23 : decode cX7_leads 23 = .ok (.bipush 6, 2) := by decide +kernel
theorem dX7_leads_25 : decode cX7_leads 25 = .ok (.invokevirtual 42, 3) := by decide +kernel
theorem dX7_leads_28 : decode cX7_leads 28 = .ok (.isub, 1) := by decide +kernel
theorem dX7_leads_29 : decode cX7_leads 29 = .ok (.istore 4, 2) := by decide +kernel
theorem dX7_leads_31 : decode cX7_leads 31 = .ok (.iload_n 2, 1) := by decide +kernel
theorem dX7_leads_32 : decode cX7_leads 32 = .ok (.ifCond .eq 31, 3) := by decide +kernel
theorem dX7_leads_35 : decode cX7_leads 35 = .ok (.iload 4, 2) := by decide +kernel
theorem dX7_leads_37 : decode cX7_leads 37 = .ok (.ifCond .gt 13, 3) := by decide +kernel
theorem dX7_leads_40 : decode cX7_leads 40 = .ok (.iload 4, 2) := by decide +kernel
theorem dX7_leads_42 : decode cX7_leads 42 = .ok (.ifCond .ne 17, 3) := by decide +kernel
theorem dX7_leads_45 : decode cX7_leads 45 = .ok (.iload_n 3, 1) := by decide +kernel
theorem dX7_leads_46 : decode cX7_leads 46 = .ok (.iload_n 1, 1) := by decide +kernel
theorem dX7_leads_47 : decode cX7_leads 47 = .ok (.if_icmp .ge 12, 3) := by decide +kernel
theorem dX7_leads_50 : decode cX7_leads 50 = .ok (.aload_n 0, 1) := by decide +kernel
theorem dX7_leads_51 : decode cX7_leads 51 = .ok (.iload_n 3, 1) := by decide +kernel
theorem dX7_leads_52 : decode cX7_leads 52 = .ok (.iload_n 1, 1) := by decide +kernel
theorem dX7_leads_53 : decode cX7_leads 53 = .ok (.invokevirtual 46, 3) := by decide +kernel
theorem dX7_leads_56 : decode cX7_leads 56 = .ok (.ifCond .ne 7, 3) := by decide +kernel
theorem dX7_leads_59 : decode cX7_leads 59 = .ok (.iconst 1, 1) := by decide +kernel
theorem dX7_leads_60 : decode cX7_leads 60 = .ok (.goto 4, 3) := by decide +kernel
theorem dX7_leads_63 : decode cX7_leads 63 = .ok (.iconst 0, 1) := by decide +kernel
theorem dX7_leads_64 : decode cX7_leads 64 = .ok (.istore_n 2, 1) := by decide +kernel
theorem dX7_leads_65 : decode cX7_leads 65 = .ok (.iinc 3 1, 3) := by decide +kernel
theorem dX7_leads_68 : decode cX7_leads 68 = .ok (.goto (-64), 3) := by decide +kernel
theorem dX7_leads_71 : decode cX7_leads 71 = .ok (.iload_n 2, 1) := by decide +kernel
theorem dX7_leads_72 : decode cX7_leads 72 = .ok (.ireturn, 1) := by decide +kernel
theorem dX7_keysOfEntry_0 : decode cX7_keysOfEntry 0 = .ok (.iconst 0, 1) := by decide +kernel
theorem dX7_keysOfEntry_1 : decode cX7_keysOfEntry 1 = .ok (.istore_n 2, 1) := by decide +kernel
theorem dX7_keysOfEntry_2 : decode cX7_keysOfEntry 2 = .ok (.iconst 0, 1) := by decide +kernel
theorem dX7_keysOfEntry_3 : decode cX7_keysOfEntry 3 = .ok (.istore_n 3, 1) := by decide +kernel
theorem dX7_keysOfEntry_4 : decode cX7_keysOfEntry 4 = .ok (.iload_n 3, 1) := by decide +kernel
theorem dX7_keysOfEntry_5 : decode cX7_keysOfEntry 5 = .ok (.aload_n 0, 1) := by decide +kernel
theorem dX7_keysOfEntry_6 : decode cX7_keysOfEntry 6 = .ok (.iload_n 1, 1) := by decide +kernel
theorem dX7_keysOfEntry_7 : decode cX7_keysOfEntry 7 = .ok (.iconst 0, 1) := by decide +kernel
theorem dX7_keysOfEntry_8 : decode cX7_keysOfEntry 8 = .ok (.invokevirtual 42, 3) := by decide +kernel
theorem dX7_keysOfEntry_11 : decode cX7_keysOfEntry 11 = .ok (.if_icmp .ge 23, 3) := by decide +kernel
theorem dX7_keysOfEntry_14 : decode cX7_keysOfEntry 14 = .ok (.iload_n 2, 1) := by decide +kernel
theorem dX7_keysOfEntry_15 : decode cX7_keysOfEntry 15 = .ok (.aload_n 0, 1) := by decide +kernel
theorem dX7_keysOfEntry_16 : decode cX7_keysOfEntry 16 = .ok (.iload_n 1, 1) := by decide +kernel
theorem dX7_keysOfEntry_17 : decode cX7_keysOfEntry 17 = .ok (.iconst 1, 1) := by decide +kernel
theorem dX7_keysOfEntry_18 : decode cX7_keysOfEntry 18 = .ok (.iload_n 3, 1) := by decide +kernel
theorem dX7_keysOfEntry_19 : decode cX7_keysOfEntry 19 = .ok (.iadd, 1) := by decide +kernel
theorem dX7_keysOfEntry_20 : decode cX7_keysOfEntry 20 = .ok (.invokevirtual 42, 3) := by decide +kernel
theorem dX7_keysOfEntry_23 : decode cX7_keysOfEntry 23 = .ok (.invokestatic 50, 3) := by decide +kernel
theorem dX7_keysOfEntry_26 : decode cX7_keysOfEntry 26 = .ok (.iadd, 1) := by decide +kernel
theorem dX7_keysOfEntry_27 : decode cX7_keysOfEntry 27 = .ok (.istore_n 2, 1) := by decide +kernel
theorem dX7_keysOfEntry_28 : decode cX7_keysOfEntry 28 = .ok (.iinc 3 1, 3) := by decide +kernel
theorem dX7_keysOfEntry_31 : decode cX7_keysOfEntry 31 = .ok (.goto (-27), 3) := by decide +kernel
theorem dX7_keysOfEntry_34 : decode cX7_keysOfEntry 34 = .ok (.iload_n 2, 1) := by decide +kernel
theorem dX7_keysOfEntry_35 : decode cX7_keysOfEntry 35 = .ok (.ireturn, 1) := by decide +kernel
theorem dX7_isRow_0 : decode cX7_isRow 0 = .ok (.aload_n 0, 1) := by decide +kernel
theorem dX7_isRow_1 : decode cX7_isRow 1 = .ok (.iload_n 1, 1) := by decide +kernel
theorem dX7_isRow_2 : decode cX7_isRow 2 = .ok (.iconst 0, 1) := by decide +kernel
theorem dX7_isRow_3 : decode cX7_isRow 3 = .ok (.invokevirtual 42, 3) := by decide +kernel
theorem dX7_isRow_6 : decode cX7_isRow 6 = .ok (.istore_n 3, 1) := by decide +kernel
theorem dX7_isRow_7 : decode cX7_isRow 7 = .ok (.iload_n 2, 1) := by decide +kernel
theorem dX7_isRow_8 : decode cX7_isRow 8 = .ok (.iload_n 3, 1) := by decide +kernel
theorem dX7_isRow_9 : decode cX7_isRow 9 = .ok (.iadd, 1) := by decide +kernel
theorem dX7_isRow_10 : decode cX7_isRow 10 = .ok (.aload_n 0, 1) := by decide +kernel
theorem dX7_isRow_11 : decode cX7_isRow 11 = .ok (.getfield 54, 3) := by decide +kernel
theorem dX7_isRow_14 : decode cX7_isRow 14 = .ok (.if_icmp .gt 7, 3) := by decide +kernel
theorem dX7_isRow_17 : decode cX7_isRow 17 = .ok (.iconst 1, 1) := by decide +kernel
theorem dX7_isRow_18 : decode cX7_isRow 18 = .ok (.goto 4, 3) := by decide +kernel
theorem dX7_isRow_21 : decode cX7_isRow 21 = .ok (.iconst 0, 1) := by decide +kernel
theorem dX7_isRow_22 : decode cX7_isRow 22 = .ok (.istore 4, 2) := by decide +kernel
theorem dX7_isRow_24 : decode cX7_isRow 24 = .ok (.iconst 0, 1) := by decide +kernel
theorem dX7_isRow_25 : decode cX7_isRow 25 = .ok (.istore 5, 2) := by decide +kernel
theorem dX7_isRow_27 : decode cX7_isRow 27 = .ok (.iload 5, 2) := by decide +kernel
theorem dX7_isRow_29 : decode cX7_isRow 29 = .ok (.iload_n 3, 1) := by decide +kernel
theorem dX7_isRow_30 : decode cX7_isRow 30 = .ok (.if_icmp .ge 42, 3) := by decide +kernel
theorem dX7_isRow_33 : decode cX7_isRow 33 = .ok (.iload 4, 2) := by decide +kernel
theorem dX7_isRow_35 : decode cX7_isRow 35 = .ok (.ifCond .eq 37, 3) := by decide +kernel
theorem dX7_isRow_38 : decode cX7_isRow 38 = .ok (.aload_n 0, 1) := by decide +kernel
theorem dX7_isRow_39 : decode cX7_isRow 39 = .ok (.getfield 19, 3) := by decide +kernel
theorem dX7_isRow_42 : decode cX7_isRow 42 = .ok (.iload_n 2, 1) := by decide +kernel
theorem dX7_isRow_43 : decode cX7_isRow 43 = .ok (.iload 5, 2) := by decide +kernel
theorem dX7_isRow_45 : decode cX7_isRow 45 = .ok (.iadd, 1) := by decide +kernel
theorem dX7_isRow_46 : decode cX7_isRow 46 = .ok (.iaload, 1) := by decide +kernel
theorem dX7_isRow_47 : decode cX7_isRow 47 = .ok (.aload_n 0, 1) := by decide +kernel
theorem dX7_isRow_48 : decode cX7_isRow 48 = .ok (.iload_n 1, 1) := by decide +kernel
theorem dX7_isRow_49 : decode cX7_isRow 49 = .ok (.iconst 1, 1) := by decide +kernel
theorem dX7_isRow_50 : decode cX7_isRow 50 = .ok (.iload 5, 2) := by decide +kernel
theorem dX7_isRow_52 : decode cX7_isRow 52 = .ok (.iadd, 1) := by decide +kernel
theorem dX7_isRow_53 : decode cX7_isRow 53 = .ok (.invokevirtual 42, 3) := by decide +kernel
theorem dX7_isRow_56 : decode cX7_isRow 56 = .ok (.if_icmp .ne 7, 3) := by decide +kernel
theorem dX7_isRow_59 : decode cX7_isRow 59 = .ok (.iconst 1, 1) := by decide +kernel
theorem dX7_isRow_60 : decode cX7_isRow 60 = .ok (.goto 4, 3) := by decide +kernel
theorem dX7_isRow_63 : decode cX7_isRow 63 = .ok (.iconst 0, 1) := by decide +kernel
theorem dX7_isRow_64 : decode cX7_isRow 64 = .ok (.istore 4, 2) := by decide +kernel
theorem dX7_isRow_66 : decode cX7_isRow 66 = .ok (.iinc 5 1, 3) := by decide +kernel
theorem dX7_isRow_69 : decode cX7_isRow 69 = .ok (.goto (-42), 3) := by decide +kernel
theorem dX7_isRow_72 : decode cX7_isRow 72 = .ok (.iload 4, 2) := by decide +kernel
theorem dX7_isRow_74 : decode cX7_isRow 74 = .ok (.ireturn, 1) := by decide +kernel
theorem dX7_entryAt_0 : decode cX7_entryAt 0 = .ok (.iconst (-1), 1) := by decide +kernel
theorem dX7_entryAt_1 : decode cX7_entryAt 1 = .ok (.istore_n 2, 1) := by decide +kernel
theorem dX7_entryAt_2 : decode cX7_entryAt 2 = .ok (.iconst 0, 1) := by decide +kernel
theorem dX7_entryAt_3 : decode cX7_entryAt 3 = .ok (.istore_n 3, 1) := by decide +kernel
theorem dX7_entryAt_4 : decode cX7_entryAt 4 = .ok (.iload_n 3, 1) := by decide +kernel
theorem dX7_entryAt_5 : decode cX7_entryAt 5 = .ok (.aload_n 0, 1) := by decide +kernel
theorem dX7_entryAt_6 : decode cX7_entryAt 6 = .ok (.getfield 7, 3) := by decide +kernel
theorem dX7_entryAt_9 : decode cX7_entryAt 9 = .ok (.iconst 1, 1) := by decide +kernel
theorem dX7_entryAt_10 : decode cX7_entryAt 10 = .ok (.iaload, 1) := by decide +kernel
theorem dX7_entryAt_11 : decode cX7_entryAt 11 = .ok (.if_icmp .ge 72, 3) := by decide +kernel
theorem dX7_entryAt_14 : decode cX7_entryAt 14 = .ok (.iload_n 2, 1) := by decide +kernel
theorem dX7_entryAt_15 : decode cX7_entryAt 15 = .ok (.iconst (-1), 1) := by decide +kernel
theorem dX7_entryAt_16 : decode cX7_entryAt 16 = .ok (.if_icmp .ne 7, 3) := by decide +kernel
theorem dX7_entryAt_19 : decode cX7_entryAt 19 = .ok (.iconst 1, 1) := by decide +kernel
theorem dX7_entryAt_20 : decode cX7_entryAt 20 = .ok (.goto 16, 3) := by decide +kernel
theorem dX7_entryAt_23 : decode cX7_entryAt 23 = .ok (.aload_n 0, 1) := by decide +kernel
theorem dX7_entryAt_24 : decode cX7_entryAt 24 = .ok (.iload_n 3, 1) := by decide +kernel
theorem dX7_entryAt_25 : decode cX7_entryAt 25 = .ok (.iconst 0, 1) := by decide +kernel
theorem dX7_entryAt_26 : decode cX7_entryAt 26 = .ok (.invokevirtual 42, 3) := by decide +kernel
theorem dX7_entryAt_29 : decode cX7_entryAt 29 = .ok (.aload_n 0, 1) := by decide +kernel
theorem dX7_entryAt_30 : decode cX7_entryAt 30 = .ok (.iload_n 2, 1) := by decide +kernel
theorem dX7_entryAt_31 : decode cX7_entryAt 31 = .ok (.iconst 0, 1) := by decide +kernel
theorem dX7_entryAt_32 : decode cX7_entryAt 32 = .ok (.invokevirtual 42, 3) := by decide +kernel
theorem dX7_entryAt_35 : decode cX7_entryAt 35 = .ok (.isub, 1) := by decide +kernel
theorem dX7_entryAt_36 : decode cX7_entryAt 36 = .ok (.istore 4, 2) := by decide +kernel
theorem dX7_entryAt_38 : decode cX7_entryAt 38 = .ok (.iload 4, 2) := by decide +kernel
theorem dX7_entryAt_40 : decode cX7_entryAt 40 = .ok (.ifCond .le 37, 3) := by decide +kernel
theorem dX7_entryAt_43 : decode cX7_entryAt 43 = .ok (.aload_n 0, 1) := by decide +kernel
theorem dX7_entryAt_44 : decode cX7_entryAt 44 = .ok (.iload_n 3, 1) := by decide +kernel
theorem dX7_entryAt_45 : decode cX7_entryAt 45 = .ok (.iconst 0, 1) := by decide +kernel
theorem dX7_entryAt_46 : decode cX7_entryAt 46 = .ok (.invokevirtual 42, 3) := by decide +kernel
theorem dX7_entryAt_49 : decode cX7_entryAt 49 = .ok (.aload_n 0, 1) := by decide +kernel
theorem dX7_entryAt_50 : decode cX7_entryAt 50 = .ok (.getfield 7, 3) := by decide +kernel
theorem dX7_entryAt_53 : decode cX7_entryAt 53 = .ok (.iconst 3, 1) := by decide +kernel
theorem dX7_entryAt_54 : decode cX7_entryAt 54 = .ok (.iaload, 1) := by decide +kernel
theorem dX7_entryAt_55 : decode cX7_entryAt 55 = .ok (.if_icmp .gt 22, 3) := by decide +kernel
theorem dX7_entryAt_58 : decode cX7_entryAt 58 = .ok (.aload_n 0, 1) := by decide +kernel
theorem dX7_entryAt_59 : decode cX7_entryAt 59 = .ok (.iload_n 3, 1) := by decide +kernel
theorem dX7_entryAt_60 : decode cX7_entryAt 60 = .ok (.iload_n 1, 1) := by decide +kernel
theorem dX7_entryAt_61 : decode cX7_entryAt 61 = .ok (.invokevirtual 57, 3) := by decide +kernel
theorem dX7_entryAt_64 : decode cX7_entryAt 64 = .ok (.ifCond .eq 13, 3) := by decide +kernel
theorem dX7_entryAt_67 : decode cX7_entryAt 67 = .ok (.aload_n 0, 1) := by decide +kernel
theorem dX7_entryAt_68 : decode cX7_entryAt 68 = .ok (.iload_n 3, 1) := by decide +kernel
theorem dX7_entryAt_69 : decode cX7_entryAt 69 = .ok (.invokevirtual 60, 3) := by decide +kernel
theorem dX7_entryAt_72 : decode cX7_entryAt 72 = .ok (.ifCond .eq 5, 3) := by decide +kernel
theorem dX7_entryAt_75 : decode cX7_entryAt 75 = .ok (.iload_n 3, 1) := by decide +kernel
theorem dX7_entryAt_76 : decode cX7_entryAt 76 = .ok (.istore_n 2, 1) := by decide +kernel
theorem dX7_entryAt_77 : decode cX7_entryAt 77 = .ok (.iinc 3 1, 3) := by decide +kernel
theorem dX7_entryAt_80 : decode cX7_entryAt 80 = .ok (.goto (-76), 3) := by decide +kernel
theorem dX7_entryAt_83 : decode cX7_entryAt 83 = .ok (.iload_n 2, 1) := by decide +kernel
theorem dX7_entryAt_84 : decode cX7_entryAt 84 = .ok (.ireturn, 1) := by decide +kernel
theorem dX7_reads_0 : decode cX7_reads 0 = .ok (.aload_n 0, 1) := by decide +kernel
theorem dX7_reads_1 : decode cX7_reads 1 = .ok (.iconst 0, 1) := by decide +kernel
theorem dX7_reads_2 : decode cX7_reads 2 = .ok (.putfield 64, 3) := by decide +kernel
theorem dX7_reads_5 : decode cX7_reads 5 = .ok (.iconst 0, 1) := by decide +kernel
theorem dX7_reads_6 : decode cX7_reads 6 = .ok (.istore_n 1, 1) := by decide +kernel
theorem dX7_reads_7 : decode cX7_reads 7 = .ok (.iload_n 1, 1) := by decide +kernel
theorem dX7_reads_8 : decode cX7_reads 8 = .ok (.aload_n 0, 1) := by decide +kernel
theorem dX7_reads_9 : decode cX7_reads 9 = .ok (.getfield 54, 3) := by decide +kernel
theorem dX7_reads_12 : decode cX7_reads 12 = .ok (.if_icmp .ge 78, 3) := by decide +kernel
theorem dX7_reads_15 : decode cX7_reads 15 = .ok (.aload_n 0, 1) := by decide +kernel
theorem dX7_reads_16 : decode cX7_reads 16 = .ok (.iload_n 1, 1) := by decide +kernel
theorem dX7_reads_17 : decode cX7_reads 17 = .ok (.invokevirtual 67, 3) := by decide +kernel
theorem dX7_reads_20 : decode cX7_reads 20 = .ok (.istore_n 2, 1) := by decide +kernel
theorem dX7_reads_21 : decode cX7_reads 21 = .ok (.aload_n 0, 1) := by decide +kernel
theorem dX7_reads_22 : decode cX7_reads 22 = .ok (.getfield 22, 3) := by decide +kernel
theorem dX7_reads_25 : decode cX7_reads 25 = .ok (.aload_n 0, 1) := by decide +kernel
theorem dX7_reads_26 : decode cX7_reads 26 = .ok (.getfield 64, 3) := by decide +kernel
theorem dX7_reads_29 : decode cX7_reads 29 = .ok (.iload_n 1, 1) := by decide +kernel
theorem dX7_reads_30 : decode cX7_reads 30 = .ok (.iastore, 1) := by decide +kernel
theorem dX7_reads_31 : decode cX7_reads 31 = .ok (.aload_n 0, 1) := by decide +kernel
theorem dX7_reads_32 : decode cX7_reads 32 = .ok (.getfield 28, 3) := by decide +kernel
theorem dX7_reads_35 : decode cX7_reads 35 = .ok (.aload_n 0, 1) := by decide +kernel
theorem dX7_reads_36 : decode cX7_reads 36 = .ok (.getfield 64, 3) := by decide +kernel
theorem dX7_reads_39 : decode cX7_reads 39 = .ok (.iload_n 2, 1) := by decide +kernel
theorem dX7_reads_40 : decode cX7_reads 40 = .ok (.iastore, 1) := by decide +kernel
theorem dX7_reads_41 : decode cX7_reads 41 = .ok (.aload_n 0, 1) := by decide +kernel
theorem dX7_reads_42 : decode cX7_reads 42 = .ok (.getfield 25, 3) := by decide +kernel
theorem dX7_reads_45 : decode cX7_reads 45 = .ok (.aload_n 0, 1) := by decide +kernel
theorem dX7_reads_46 : decode cX7_reads 46 = .ok (.getfield 64, 3) := by decide +kernel
theorem dX7_reads_49 : decode cX7_reads 49 = .ok (.iload_n 2, 1) := by decide +kernel
theorem dX7_reads_50 : decode cX7_reads 50 = .ok (.iconst (-1), 1) := by decide +kernel
theorem dX7_reads_51 : decode cX7_reads 51 = .ok (.if_icmp .ne 7, 3) := by decide +kernel
theorem dX7_reads_54 : decode cX7_reads 54 = .ok (.iconst 1, 1) := by decide +kernel
theorem dX7_reads_55 : decode cX7_reads 55 = .ok (.goto 9, 3) := by decide +kernel
theorem dX7_reads_58 : decode cX7_reads 58 = .ok (.aload_n 0, 1) := by decide +kernel
theorem dX7_reads_59 : decode cX7_reads 59 = .ok (.iload_n 2, 1) := by decide +kernel
theorem dX7_reads_60 : decode cX7_reads 60 = .ok (.iconst 0, 1) := by decide +kernel
theorem dX7_reads_61 : decode cX7_reads 61 = .ok (.invokevirtual 42, 3) := by decide +kernel
theorem dX7_reads_64 : decode cX7_reads 64 = .ok (.iastore, 1) := by decide +kernel
theorem dX7_reads_65 : decode cX7_reads 65 = .ok (.iload_n 1, 1) := by decide +kernel
theorem dX7_reads_66 : decode cX7_reads 66 = .ok (.aload_n 0, 1) := by decide +kernel
theorem dX7_reads_67 : decode cX7_reads 67 = .ok (.getfield 25, 3) := by decide +kernel
theorem dX7_reads_70 : decode cX7_reads 70 = .ok (.aload_n 0, 1) := by decide +kernel
theorem dX7_reads_71 : decode cX7_reads 71 = .ok (.getfield 64, 3) := by decide +kernel
theorem dX7_reads_74 : decode cX7_reads 74 = .ok (.iaload, 1) := by decide +kernel
theorem dX7_reads_75 : decode cX7_reads 75 = .ok (.iadd, 1) := by decide +kernel
theorem dX7_reads_76 : decode cX7_reads 76 = .ok (.istore_n 1, 1) := by decide +kernel
theorem dX7_reads_77 : decode cX7_reads 77 = .ok (.aload_n 0, 1) := by decide +kernel
theorem dX7_reads_78 : decode cX7_reads 78 = .ok (.dup, 1) := by decide +kernel
theorem dX7_reads_79 : decode cX7_reads 79 = .ok (.getfield 64, 3) := by decide +kernel
theorem dX7_reads_82 : decode cX7_reads 82 = .ok (.iconst 1, 1) := by decide +kernel
theorem dX7_reads_83 : decode cX7_reads 83 = .ok (.iadd, 1) := by decide +kernel
theorem dX7_reads_84 : decode cX7_reads 84 = .ok (.putfield 64, 3) := by decide +kernel
theorem dX7_reads_87 : decode cX7_reads 87 = .ok (.goto (-80), 3) := by decide +kernel
theorem dX7_reads_90 : decode cX7_reads 90 = .ok (.return_, 1) := by decide +kernel
theorem dX7_readsPaper_0 : decode cX7_readsPaper 0 = .ok (.aload_n 0, 1) := by decide +kernel
theorem dX7_readsPaper_1 : decode cX7_readsPaper 1 = .ok (.aload_n 0, 1) := by decide +kernel
theorem dX7_readsPaper_2 : decode cX7_readsPaper 2 = .ok (.getfield 7, 3) := by decide +kernel
theorem dX7_readsPaper_5 : decode cX7_readsPaper 5 = .ok (.iconst 0, 1) := by decide +kernel
theorem dX7_readsPaper_6 : decode cX7_readsPaper 6 = .ok (.iaload, 1) := by decide +kernel
theorem dX7_readsPaper_7 : decode cX7_readsPaper 7 = .ok (.putfield 54, 3) := by decide +kernel
theorem dX7_readsPaper_10 : decode cX7_readsPaper 10 = .ok (.iconst 0, 1) := by decide +kernel
theorem dX7_readsPaper_11 : decode cX7_readsPaper 11 = .ok (.istore_n 1, 1) := by decide +kernel
theorem dX7_readsPaper_12 : decode cX7_readsPaper 12 = .ok (.iload_n 1, 1) := by decide +kernel
theorem dX7_readsPaper_13 : decode cX7_readsPaper 13 = .ok (.aload_n 0, 1) := by decide +kernel
theorem dX7_readsPaper_14 : decode cX7_readsPaper 14 = .ok (.getfield 54, 3) := by decide +kernel
theorem dX7_readsPaper_17 : decode cX7_readsPaper 17 = .ok (.if_icmp .ge 24, 3) := by decide +kernel
theorem dX7_readsPaper_20 : decode cX7_readsPaper 20 = .ok (.aload_n 0, 1) := by decide +kernel
theorem dX7_readsPaper_21 : decode cX7_readsPaper 21 = .ok (.getfield 19, 3) := by decide +kernel
theorem dX7_readsPaper_24 : decode cX7_readsPaper 24 = .ok (.iload_n 1, 1) := by decide +kernel
theorem dX7_readsPaper_25 : decode cX7_readsPaper 25 = .ok (.aload_n 0, 1) := by decide +kernel
theorem dX7_readsPaper_26 : decode cX7_readsPaper 26 = .ok (.getfield 7, 3) := by decide +kernel
theorem dX7_readsPaper_29 : decode cX7_readsPaper 29 = .ok (.bipush 8, 2) := by decide +kernel
theorem dX7_readsPaper_31 : decode cX7_readsPaper 31 = .ok (.iload_n 1, 1) := by decide +kernel
theorem dX7_readsPaper_32 : decode cX7_readsPaper 32 = .ok (.iadd, 1) := by decide +kernel
theorem dX7_readsPaper_33 : decode cX7_readsPaper 33 = .ok (.iaload, 1) := by decide +kernel
theorem dX7_readsPaper_34 : decode cX7_readsPaper 34 = .ok (.iastore, 1) := by decide +kernel
theorem dX7_readsPaper_35 : decode cX7_readsPaper 35 = .ok (.iinc 1 1, 3) := by decide +kernel
theorem dX7_readsPaper_38 : decode cX7_readsPaper 38 = .ok (.goto (-26), 3) := by decide +kernel
theorem dX7_readsPaper_41 : decode cX7_readsPaper 41 = .ok (.aload_n 0, 1) := by decide +kernel
theorem dX7_readsPaper_42 : decode cX7_readsPaper 42 = .ok (.invokevirtual 70, 3) := by decide +kernel
theorem dX7_readsPaper_45 : decode cX7_readsPaper 45 = .ok (.return_, 1) := by decide +kernel
theorem dX7_wordOf_0 : decode cX7_wordOf 0 = .ok (.aload_n 0, 1) := by decide +kernel
theorem dX7_wordOf_1 : decode cX7_wordOf 1 = .ok (.getfield 28, 3) := by decide +kernel
theorem dX7_wordOf_4 : decode cX7_wordOf 4 = .ok (.iload_n 1, 1) := by decide +kernel
theorem dX7_wordOf_5 : decode cX7_wordOf 5 = .ok (.iaload, 1) := by decide +kernel
theorem dX7_wordOf_6 : decode cX7_wordOf 6 = .ok (.iconst (-1), 1) := by decide +kernel
theorem dX7_wordOf_7 : decode cX7_wordOf 7 = .ok (.if_icmp .ne 7, 3) := by decide +kernel
theorem dX7_wordOf_10 : decode cX7_wordOf 10 = .ok (.iconst (-1), 1) := by decide +kernel
theorem dX7_wordOf_11 : decode cX7_wordOf 11 = .ok (.goto 14, 3) := by decide +kernel
theorem dX7_wordOf_14 : decode cX7_wordOf 14 = .ok (.aload_n 0, 1) := by decide +kernel
theorem dX7_wordOf_15 : decode cX7_wordOf 15 = .ok (.aload_n 0, 1) := by decide +kernel
theorem dX7_wordOf_16 : decode cX7_wordOf 16 = .ok (.getfield 28, 3) := by decide +kernel
theorem dX7_wordOf_19 : decode cX7_wordOf 19 = .ok (.iload_n 1, 1) := by decide +kernel
theorem dX7_wordOf_20 : decode cX7_wordOf 20 = .ok (.iaload, 1) := by decide +kernel
theorem dX7_wordOf_21 : decode cX7_wordOf 21 = .ok (.iconst 5, 1) := by decide +kernel
theorem dX7_wordOf_22 : decode cX7_wordOf 22 = .ok (.invokevirtual 42, 3) := by decide +kernel
theorem dX7_wordOf_25 : decode cX7_wordOf 25 = .ok (.ireturn, 1) := by decide +kernel
theorem dX7_canStrike_0 : decode cX7_canStrike 0 = .ok (.iload_n 1, 1) := by decide +kernel
theorem dX7_canStrike_1 : decode cX7_canStrike 1 = .ok (.ifCond .ne 20, 3) := by decide +kernel
theorem dX7_canStrike_4 : decode cX7_canStrike 4 = .ok (.aload_n 0, 1) := by decide +kernel
theorem dX7_canStrike_5 : decode cX7_canStrike 5 = .ok (.getfield 7, 3) := by decide +kernel
theorem dX7_canStrike_8 : decode cX7_canStrike 8 = .ok (.iconst 0, 1) := by decide +kernel
theorem dX7_canStrike_9 : decode cX7_canStrike 9 = .ok (.iaload, 1) := by decide +kernel
theorem dX7_canStrike_10 : decode cX7_canStrike 10 = .ok (.ifCond .le 7, 3) := by decide +kernel
theorem dX7_canStrike_13 : decode cX7_canStrike 13 = .ok (.iconst 1, 1) := by decide +kernel
theorem dX7_canStrike_14 : decode cX7_canStrike 14 = .ok (.goto 23, 3) := by decide +kernel
theorem dX7_canStrike_17 : decode cX7_canStrike 17 = .ok (.iconst 0, 1) := by decide +kernel
theorem dX7_canStrike_18 : decode cX7_canStrike 18 = .ok (.goto 19, 3) := by decide +kernel
theorem dX7_canStrike_21 : decode cX7_canStrike 21 = .ok (.aload_n 0, 1) := by decide +kernel
theorem dX7_canStrike_22 : decode cX7_canStrike 22 = .ok (.getfield 7, 3) := by decide +kernel
theorem dX7_canStrike_25 : decode cX7_canStrike 25 = .ok (.iconst 0, 1) := by decide +kernel
theorem dX7_canStrike_26 : decode cX7_canStrike 26 = .ok (.iaload, 1) := by decide +kernel
theorem dX7_canStrike_27 : decode cX7_canStrike 27 = .ok (.bipush 60, 2) := by decide +kernel
theorem dX7_canStrike_29 : decode cX7_canStrike 29 = .ok (.if_icmp .ge 7, 3) := by decide +kernel
theorem dX7_canStrike_32 : decode cX7_canStrike 32 = .ok (.iconst 1, 1) := by decide +kernel
theorem dX7_canStrike_33 : decode cX7_canStrike 33 = .ok (.goto 4, 3) := by decide +kernel
theorem dX7_canStrike_36 : decode cX7_canStrike 36 = .ok (.iconst 0, 1) := by decide +kernel
theorem dX7_canStrike_37 : decode cX7_canStrike 37 = .ok (.ireturn, 1) := by decide +kernel
theorem dX7_strikes_0 : decode cX7_strikes 0 = .ok (.iload_n 1, 1) := by decide +kernel
theorem dX7_strikes_1 : decode cX7_strikes 1 = .ok (.ifCond .le 53, 3) := by decide +kernel
theorem dX7_strikes_4 : decode cX7_strikes 4 = .ok (.aload_n 0, 1) := by decide +kernel
theorem dX7_strikes_5 : decode cX7_strikes 5 = .ok (.getfield 7, 3) := by decide +kernel
theorem dX7_strikes_8 : decode cX7_strikes 8 = .ok (.bipush 8, 2) := by decide +kernel
theorem dX7_strikes_10 : decode cX7_strikes 10 = .ok (.aload_n 0, 1) := by decide +kernel
theorem dX7_strikes_11 : decode cX7_strikes 11 = .ok (.getfield 7, 3) := by decide +kernel
theorem dX7_strikes_14 : decode cX7_strikes 14 = .ok (.iconst 0, 1) := by decide +kernel
theorem dX7_strikes_15 : decode cX7_strikes 15 = .ok (.iaload, 1) := by decide +kernel
theorem dX7_strikes_16 : decode cX7_strikes 16 = .ok (.iadd, 1) := by decide +kernel
theorem dX7_strikes_17 : decode cX7_strikes 17 = .ok (.iload_n 1, 1) := by decide +kernel
theorem dX7_strikes_18 : decode cX7_strikes 18 = .ok (.iastore, 1) := by decide +kernel
theorem dX7_strikes_19 : decode cX7_strikes 19 = .ok (.aload_n 0, 1) := by decide +kernel
theorem dX7_strikes_20 : decode cX7_strikes 20 = .ok (.getfield 7, 3) := by decide +kernel
theorem dX7_strikes_23 : decode cX7_strikes 23 = .ok (.iconst 0, 1) := by decide +kernel
theorem dX7_strikes_24 : decode cX7_strikes 24 = .ok (.dup2, 1) := by decide +kernel
theorem dX7_strikes_25 : decode cX7_strikes 25 = .ok (.iaload, 1) := by decide +kernel
theorem dX7_strikes_26 : decode cX7_strikes 26 = .ok (.iconst 1, 1) := by decide +kernel
theorem dX7_strikes_27 : decode cX7_strikes 27 = .ok (.iadd, 1) := by decide +kernel
theorem dX7_strikes_28 : decode cX7_strikes 28 = .ok (.iastore, 1) := by decide +kernel
theorem dX7_strikes_29 : decode cX7_strikes 29 = .ok (.aload_n 0, 1) := by decide +kernel
theorem dX7_strikes_30 : decode cX7_strikes 30 = .ok (.getfield 7, 3) := by decide +kernel
theorem dX7_strikes_33 : decode cX7_strikes 33 = .ok (.iconst 4, 1) := by decide +kernel
theorem dX7_strikes_34 : decode cX7_strikes 34 = .ok (.dup2, 1) := by decide +kernel
theorem dX7_strikes_35 : decode cX7_strikes 35 = .ok (.iaload, 1) := by decide +kernel
theorem dX7_strikes_36 : decode cX7_strikes 36 = .ok (.iconst 1, 1) := by decide +kernel
theorem dX7_strikes_37 : decode cX7_strikes 37 = .ok (.iadd, 1) := by decide +kernel
theorem dX7_strikes_38 : decode cX7_strikes 38 = .ok (.iastore, 1) := by decide +kernel
theorem dX7_strikes_39 : decode cX7_strikes 39 = .ok (.aload_n 0, 1) := by decide +kernel
theorem dX7_strikes_40 : decode cX7_strikes 40 = .ok (.getfield 7, 3) := by decide +kernel
theorem dX7_strikes_43 : decode cX7_strikes 43 = .ok (.bipush 7, 2) := by decide +kernel
theorem dX7_strikes_45 : decode cX7_strikes 45 = .ok (.dup2, 1) := by decide +kernel
theorem dX7_strikes_46 : decode cX7_strikes 46 = .ok (.iaload, 1) := by decide +kernel
theorem dX7_strikes_47 : decode cX7_strikes 47 = .ok (.iload_n 1, 1) := by decide +kernel
theorem dX7_strikes_48 : decode cX7_strikes 48 = .ok (.invokestatic 50, 3) := by decide +kernel
theorem dX7_strikes_51 : decode cX7_strikes 51 = .ok (.iadd, 1) := by decide +kernel
theorem dX7_strikes_52 : decode cX7_strikes 52 = .ok (.iastore, 1) := by decide +kernel
theorem dX7_strikes_53 : decode cX7_strikes 53 = .ok (.return_, 1) := by decide +kernel
theorem dX7_strikes_54 : decode cX7_strikes 54 = .ok (.aload_n 0, 1) := by decide +kernel
theorem dX7_strikes_55 : decode cX7_strikes 55 = .ok (.invokevirtual 73, 3) := by decide +kernel
theorem dX7_strikes_58 : decode cX7_strikes 58 = .ok (.aload_n 0, 1) := by decide +kernel
theorem dX7_strikes_59 : decode cX7_strikes 59 = .ok (.getfield 7, 3) := by decide +kernel
theorem dX7_strikes_62 : decode cX7_strikes 62 = .ok (.iconst 2, 1) := by decide +kernel
theorem dX7_strikes_63 : decode cX7_strikes 63 = .ok (.iaload, 1) := by decide +kernel
theorem dX7_strikes_64 : decode cX7_strikes 64 = .ok (.ifCond .ne 7, 3) := by decide +kernel
theorem dX7_strikes_67 : decode cX7_strikes 67 = .ok (.iconst 1, 1) := by decide +kernel
theorem dX7_strikes_68 : decode cX7_strikes 68 = .ok (.goto 14, 3) := by decide +kernel
theorem dX7_strikes_71 : decode cX7_strikes 71 = .ok (.aload_n 0, 1) := by decide +kernel
theorem dX7_strikes_72 : decode cX7_strikes 72 = .ok (.getfield 25, 3) := by decide +kernel
theorem dX7_strikes_75 : decode cX7_strikes 75 = .ok (.aload_n 0, 1) := by decide +kernel
theorem dX7_strikes_76 : decode cX7_strikes 76 = .ok (.getfield 64, 3) := by decide +kernel
theorem dX7_strikes_79 : decode cX7_strikes 79 = .ok (.iconst 1, 1) := by decide +kernel
theorem dX7_strikes_80 : decode cX7_strikes 80 = .ok (.isub, 1) := by decide +kernel
theorem dX7_strikes_81 : decode cX7_strikes 81 = .ok (.iaload, 1) := by decide +kernel
theorem dX7_strikes_82 : decode cX7_strikes 82 = .ok (.istore_n 2, 1) := by decide +kernel
theorem dX7_strikes_83 : decode cX7_strikes 83 = .ok (.aload_n 0, 1) := by decide +kernel
theorem dX7_strikes_84 : decode cX7_strikes 84 = .ok (.getfield 7, 3) := by decide +kernel
theorem dX7_strikes_87 : decode cX7_strikes 87 = .ok (.iconst 0, 1) := by decide +kernel
theorem dX7_strikes_88 : decode cX7_strikes 88 = .ok (.dup2, 1) := by decide +kernel
theorem dX7_strikes_89 : decode cX7_strikes 89 = .ok (.iaload, 1) := by decide +kernel
theorem dX7_strikes_90 : decode cX7_strikes 90 = .ok (.iload_n 2, 1) := by decide +kernel
theorem dX7_strikes_91 : decode cX7_strikes 91 = .ok (.isub, 1) := by decide +kernel
theorem dX7_strikes_92 : decode cX7_strikes 92 = .ok (.iastore, 1) := by decide +kernel
theorem dX7_strikes_93 : decode cX7_strikes 93 = .ok (.aload_n 0, 1) := by decide +kernel
theorem dX7_strikes_94 : decode cX7_strikes 94 = .ok (.getfield 7, 3) := by decide +kernel
theorem dX7_strikes_97 : decode cX7_strikes 97 = .ok (.iconst 5, 1) := by decide +kernel
theorem dX7_strikes_98 : decode cX7_strikes 98 = .ok (.dup2, 1) := by decide +kernel
theorem dX7_strikes_99 : decode cX7_strikes 99 = .ok (.iaload, 1) := by decide +kernel
theorem dX7_strikes_100 : decode cX7_strikes 100 = .ok (.iload_n 2, 1) := by decide +kernel
theorem dX7_strikes_101 : decode cX7_strikes 101 = .ok (.iadd, 1) := by decide +kernel
theorem dX7_strikes_102 : decode cX7_strikes 102 = .ok (.iastore, 1) := by decide +kernel
theorem dX7_strikes_103 : decode cX7_strikes 103 = .ok (.aload_n 0, 1) := by decide +kernel
theorem dX7_strikes_104 : decode cX7_strikes 104 = .ok (.getfield 7, 3) := by decide +kernel
theorem dX7_strikes_107 : decode cX7_strikes 107 = .ok (.bipush 6, 2) := by decide +kernel
theorem dX7_strikes_109 : decode cX7_strikes 109 = .ok (.dup2, 1) := by decide +kernel
theorem dX7_strikes_110 : decode cX7_strikes 110 = .ok (.iaload, 1) := by decide +kernel
theorem dX7_strikes_111 : decode cX7_strikes 111 = .ok (.iconst 1, 1) := by decide +kernel
theorem dX7_strikes_112 : decode cX7_strikes 112 = .ok (.iadd, 1) := by decide +kernel
theorem dX7_strikes_113 : decode cX7_strikes 113 = .ok (.iastore, 1) := by decide +kernel
theorem dX7_strikes_114 : decode cX7_strikes 114 = .ok (.return_, 1) := by decide +kernel
theorem dX7_strike_0 : decode cX7_strike 0 = .ok (.aload_n 0, 1) := by decide +kernel
theorem dX7_strike_1 : decode cX7_strike 1 = .ok (.iload_n 1, 1) := by decide +kernel
theorem dX7_strike_2 : decode cX7_strike 2 = .ok (.iconst 0, 1) := by decide +kernel
theorem dX7_strike_3 : decode cX7_strike 3 = .ok (.sipush 1023, 3) := by decide +kernel
theorem dX7_strike_6 : decode cX7_strike 6 = .ok (.invokestatic 38, 3) := by decide +kernel
theorem dX7_strike_9 : decode cX7_strike 9 = .ok (.ifCond .ne 7, 3) := by decide +kernel
theorem dX7_strike_12 : decode cX7_strike 12 = .ok (.iconst 1, 1) := by decide +kernel
theorem dX7_strike_13 : decode cX7_strike 13 = .ok (.goto 16, 3) := by decide +kernel
theorem dX7_strike_16 : decode cX7_strike 16 = .ok (.aload_n 0, 1) := by decide +kernel
theorem dX7_strike_17 : decode cX7_strike 17 = .ok (.iload_n 1, 1) := by decide +kernel
theorem dX7_strike_18 : decode cX7_strike 18 = .ok (.invokevirtual 76, 3) := by decide +kernel
theorem dX7_strike_21 : decode cX7_strike 21 = .ok (.ifCond .ne 7, 3) := by decide +kernel
theorem dX7_strike_24 : decode cX7_strike 24 = .ok (.iconst 2, 1) := by decide +kernel
theorem dX7_strike_25 : decode cX7_strike 25 = .ok (.goto 4, 3) := by decide +kernel
theorem dX7_strike_28 : decode cX7_strike 28 = .ok (.iconst 0, 1) := by decide +kernel
theorem dX7_strike_29 : decode cX7_strike 29 = .ok (.invokevirtual 79, 3) := by decide +kernel
theorem dX7_strike_32 : decode cX7_strike 32 = .ok (.ifCond .ne 5, 3) := by decide +kernel
theorem dX7_strike_35 : decode cX7_strike 35 = .ok (.iconst 0, 1) := by decide +kernel
theorem dX7_strike_36 : decode cX7_strike 36 = .ok (.ireturn, 1) := by decide +kernel
theorem dX7_strike_37 : decode cX7_strike 37 = .ok (.aload_n 0, 1) := by decide +kernel
theorem dX7_strike_38 : decode cX7_strike 38 = .ok (.invokevirtual 82, 3) := by decide +kernel
theorem dX7_strike_41 : decode cX7_strike 41 = .ok (.aload_n 0, 1) := by decide +kernel
theorem dX7_strike_42 : decode cX7_strike 42 = .ok (.iload_n 1, 1) := by decide +kernel
theorem dX7_strike_43 : decode cX7_strike 43 = .ok (.invokevirtual 85, 3) := by decide +kernel
theorem dX7_strike_46 : decode cX7_strike 46 = .ok (.aload_n 0, 1) := by decide +kernel
theorem dX7_strike_47 : decode cX7_strike 47 = .ok (.invokevirtual 73, 3) := by decide +kernel
theorem dX7_strike_50 : decode cX7_strike 50 = .ok (.aload_n 0, 1) := by decide +kernel
theorem dX7_strike_51 : decode cX7_strike 51 = .ok (.getfield 64, 3) := by decide +kernel
theorem dX7_strike_54 : decode cX7_strike 54 = .ok (.ireturn, 1) := by decide +kernel
theorem dX7_play_0 : decode cX7_play 0 = .ok (.aload_n 0, 1) := by decide +kernel
theorem dX7_play_1 : decode cX7_play 1 = .ok (.aload_n 0, 1) := by decide +kernel
theorem dX7_play_2 : decode cX7_play 2 = .ok (.invokevirtual 89, 3) := by decide +kernel
theorem dX7_play_5 : decode cX7_play 5 = .ok (.ifCond .eq 7, 3) := by decide +kernel
theorem dX7_play_8 : decode cX7_play 8 = .ok (.iconst 0, 1) := by decide +kernel
theorem dX7_play_9 : decode cX7_play 9 = .ok (.goto 4, 3) := by decide +kernel
theorem dX7_play_12 : decode cX7_play 12 = .ok (.iconst 1, 1) := by decide +kernel
theorem dX7_play_13 : decode cX7_play 13 = .ok (.invokevirtual 79, 3) := by decide +kernel
theorem dX7_play_16 : decode cX7_play 16 = .ok (.ifCond .ne 5, 3) := by decide +kernel
theorem dX7_play_19 : decode cX7_play 19 = .ok (.iconst 0, 1) := by decide +kernel
theorem dX7_play_20 : decode cX7_play 20 = .ok (.ireturn, 1) := by decide +kernel
theorem dX7_play_21 : decode cX7_play 21 = .ok (.aload_n 0, 1) := by decide +kernel
theorem dX7_play_22 : decode cX7_play 22 = .ok (.invokevirtual 82, 3) := by decide +kernel
theorem dX7_play_25 : decode cX7_play 25 = .ok (.iconst 0, 1) := by decide +kernel
theorem dX7_play_26 : decode cX7_play 26 = .ok (.istore_n 1, 1) := by decide +kernel
theorem dX7_play_27 : decode cX7_play 27 = .ok (.iload_n 1, 1) := by decide +kernel
theorem dX7_play_28 : decode cX7_play 28 = .ok (.aload_n 0, 1) := by decide +kernel
theorem dX7_play_29 : decode cX7_play 29 = .ok (.getfield 93, 3) := by decide +kernel
theorem dX7_play_32 : decode cX7_play 32 = .ok (.if_icmp .ge 32, 3) := by decide +kernel
theorem dX7_play_35 : decode cX7_play 35 = .ok (.aload_n 0, 1) := by decide +kernel
theorem dX7_play_36 : decode cX7_play 36 = .ok (.aload_n 0, 1) := by decide +kernel
theorem dX7_play_37 : decode cX7_play 37 = .ok (.getfield 16, 3) := by decide +kernel
theorem dX7_play_40 : decode cX7_play 40 = .ok (.iload_n 1, 1) := by decide +kernel
theorem dX7_play_41 : decode cX7_play 41 = .ok (.iaload, 1) := by decide +kernel
theorem dX7_play_42 : decode cX7_play 42 = .ok (.invokevirtual 76, 3) := by decide +kernel
theorem dX7_play_45 : decode cX7_play 45 = .ok (.ifCond .eq 19, 3) := by decide +kernel
theorem dX7_play_48 : decode cX7_play 48 = .ok (.aload_n 0, 1) := by decide +kernel
theorem dX7_play_49 : decode cX7_play 49 = .ok (.aload_n 0, 1) := by decide +kernel
theorem dX7_play_50 : decode cX7_play 50 = .ok (.getfield 16, 3) := by decide +kernel
theorem dX7_play_53 : decode cX7_play 53 = .ok (.iload_n 1, 1) := by decide +kernel
theorem dX7_play_54 : decode cX7_play 54 = .ok (.iaload, 1) := by decide +kernel
theorem dX7_play_55 : decode cX7_play 55 = .ok (.invokevirtual 85, 3) := by decide +kernel
theorem dX7_play_58 : decode cX7_play 58 = .ok (.iinc 1 1, 3) := by decide +kernel
theorem dX7_play_61 : decode cX7_play 61 = .ok (.goto (-34), 3) := by decide +kernel
theorem dX7_play_64 : decode cX7_play 64 = .ok (.aload_n 0, 1) := by decide +kernel
theorem dX7_play_65 : decode cX7_play 65 = .ok (.iconst 0, 1) := by decide +kernel
theorem dX7_play_66 : decode cX7_play 66 = .ok (.putfield 96, 3) := by decide +kernel
theorem dX7_play_69 : decode cX7_play 69 = .ok (.iload_n 1, 1) := by decide +kernel
theorem dX7_play_70 : decode cX7_play 70 = .ok (.ireturn, 1) := by decide +kernel
theorem dX7_tear_0 : decode cX7_tear 0 = .ok (.aload_n 0, 1) := by decide +kernel
theorem dX7_tear_1 : decode cX7_tear 1 = .ok (.iconst 0, 1) := by decide +kernel
theorem dX7_tear_2 : decode cX7_tear 2 = .ok (.putfield 34, 3) := by decide +kernel
theorem dX7_tear_5 : decode cX7_tear 5 = .ok (.aload_n 0, 1) := by decide +kernel
theorem dX7_tear_6 : decode cX7_tear 6 = .ok (.invokevirtual 82, 3) := by decide +kernel
theorem dX7_tear_9 : decode cX7_tear 9 = .ok (.aload_n 0, 1) := by decide +kernel
theorem dX7_tear_10 : decode cX7_tear 10 = .ok (.getfield 7, 3) := by decide +kernel
theorem dX7_tear_13 : decode cX7_tear 13 = .ok (.iconst 0, 1) := by decide +kernel
theorem dX7_tear_14 : decode cX7_tear 14 = .ok (.iaload, 1) := by decide +kernel
theorem dX7_tear_15 : decode cX7_tear 15 = .ok (.istore_n 1, 1) := by decide +kernel
theorem dX7_tear_16 : decode cX7_tear 16 = .ok (.aload_n 0, 1) := by decide +kernel
theorem dX7_tear_17 : decode cX7_tear 17 = .ok (.getfield 7, 3) := by decide +kernel
theorem dX7_tear_20 : decode cX7_tear 20 = .ok (.iconst 0, 1) := by decide +kernel
theorem dX7_tear_21 : decode cX7_tear 21 = .ok (.iconst 0, 1) := by decide +kernel
theorem dX7_tear_22 : decode cX7_tear 22 = .ok (.iastore, 1) := by decide +kernel
theorem dX7_tear_23 : decode cX7_tear 23 = .ok (.iload_n 1, 1) := by decide +kernel
theorem dX7_tear_24 : decode cX7_tear 24 = .ok (.ireturn, 1) := by decide +kernel
theorem dX7_pick_0 : decode cX7_pick 0 = .ok (.aload_n 0, 1) := by decide +kernel
theorem dX7_pick_1 : decode cX7_pick 1 = .ok (.invokevirtual 73, 3) := by decide +kernel
theorem dX7_pick_4 : decode cX7_pick 4 = .ok (.iload_n 1, 1) := by decide +kernel
theorem dX7_pick_5 : decode cX7_pick 5 = .ok (.iconst 0, 1) := by decide +kernel
theorem dX7_pick_6 : decode cX7_pick 6 = .ok (.aload_n 0, 1) := by decide +kernel
theorem dX7_pick_7 : decode cX7_pick 7 = .ok (.getfield 64, 3) := by decide +kernel
theorem dX7_pick_10 : decode cX7_pick 10 = .ok (.iconst 1, 1) := by decide +kernel
theorem dX7_pick_11 : decode cX7_pick 11 = .ok (.isub, 1) := by decide +kernel
theorem dX7_pick_12 : decode cX7_pick 12 = .ok (.invokestatic 38, 3) := by decide +kernel
theorem dX7_pick_15 : decode cX7_pick 15 = .ok (.ifCond .eq 15, 3) := by decide +kernel
theorem dX7_pick_18 : decode cX7_pick 18 = .ok (.aload_n 0, 1) := by decide +kernel
theorem dX7_pick_19 : decode cX7_pick 19 = .ok (.iload_n 2, 1) := by decide +kernel
theorem dX7_pick_20 : decode cX7_pick 20 = .ok (.invokevirtual 99, 3) := by decide +kernel
theorem dX7_pick_23 : decode cX7_pick 23 = .ok (.ifCond .eq 7, 3) := by decide +kernel
theorem dX7_pick_26 : decode cX7_pick 26 = .ok (.iconst 1, 1) := by decide +kernel
theorem dX7_pick_27 : decode cX7_pick 27 = .ok (.goto 4, 3) := by decide +kernel
theorem dX7_pick_30 : decode cX7_pick 30 = .ok (.iconst 0, 1) := by decide +kernel
theorem dX7_pick_31 : decode cX7_pick 31 = .ok (.istore_n 3, 1) := by decide +kernel
theorem dX7_pick_32 : decode cX7_pick 32 = .ok (.iload_n 3, 1) := by decide +kernel
theorem dX7_pick_33 : decode cX7_pick 33 = .ok (.ifCond .eq 36, 3) := by decide +kernel
theorem dX7_pick_36 : decode cX7_pick 36 = .ok (.aload_n 0, 1) := by decide +kernel
theorem dX7_pick_37 : decode cX7_pick 37 = .ok (.getfield 25, 3) := by decide +kernel
theorem dX7_pick_40 : decode cX7_pick 40 = .ok (.iload_n 1, 1) := by decide +kernel
theorem dX7_pick_41 : decode cX7_pick 41 = .ok (.iaload, 1) := by decide +kernel
theorem dX7_pick_42 : decode cX7_pick 42 = .ok (.aload_n 0, 1) := by decide +kernel
theorem dX7_pick_43 : decode cX7_pick 43 = .ok (.iload_n 2, 1) := by decide +kernel
theorem dX7_pick_44 : decode cX7_pick 44 = .ok (.iconst 0, 1) := by decide +kernel
theorem dX7_pick_45 : decode cX7_pick 45 = .ok (.invokevirtual 42, 3) := by decide +kernel
theorem dX7_pick_48 : decode cX7_pick 48 = .ok (.if_icmp .ne 21, 3) := by decide +kernel
theorem dX7_pick_51 : decode cX7_pick 51 = .ok (.aload_n 0, 1) := by decide +kernel
theorem dX7_pick_52 : decode cX7_pick 52 = .ok (.iload_n 2, 1) := by decide +kernel
theorem dX7_pick_53 : decode cX7_pick 53 = .ok (.aload_n 0, 1) := by decide +kernel
theorem dX7_pick_54 : decode cX7_pick 54 = .ok (.getfield 22, 3) := by decide +kernel
theorem dX7_pick_57 : decode cX7_pick 57 = .ok (.iload_n 1, 1) := by decide +kernel
theorem dX7_pick_58 : decode cX7_pick 58 = .ok (.iaload, 1) := by decide +kernel
theorem dX7_pick_59 : decode cX7_pick 59 = .ok (.invokevirtual 57, 3) := by decide +kernel
theorem dX7_pick_62 : decode cX7_pick 62 = .ok (.ifCond .eq 7, 3) := by decide +kernel
theorem dX7_pick_65 : decode cX7_pick 65 = .ok (.iconst 1, 1) := by decide +kernel
theorem dX7_pick_66 : decode cX7_pick 66 = .ok (.goto 4, 3) := by decide +kernel
theorem dX7_pick_69 : decode cX7_pick 69 = .ok (.iconst 0, 1) := by decide +kernel
theorem dX7_pick_70 : decode cX7_pick 70 = .ok (.istore 4, 2) := by decide +kernel
theorem dX7_pick_72 : decode cX7_pick 72 = .ok (.aload_n 0, 1) := by decide +kernel
theorem dX7_pick_73 : decode cX7_pick 73 = .ok (.iload_n 3, 1) := by decide +kernel
theorem dX7_pick_74 : decode cX7_pick 74 = .ok (.ifCond .ne 7, 3) := by decide +kernel
theorem dX7_pick_77 : decode cX7_pick 77 = .ok (.iconst 1, 1) := by decide +kernel
theorem dX7_pick_78 : decode cX7_pick 78 = .ok (.goto 13, 3) := by decide +kernel
theorem dX7_pick_81 : decode cX7_pick 81 = .ok (.iload 4, 2) := by decide +kernel
theorem dX7_pick_83 : decode cX7_pick 83 = .ok (.ifCond .ne 7, 3) := by decide +kernel
theorem dX7_pick_86 : decode cX7_pick 86 = .ok (.iconst 2, 1) := by decide +kernel
theorem dX7_pick_87 : decode cX7_pick 87 = .ok (.goto 4, 3) := by decide +kernel
theorem dX7_pick_90 : decode cX7_pick 90 = .ok (.iconst 0, 1) := by decide +kernel
theorem dX7_pick_91 : decode cX7_pick 91 = .ok (.invokevirtual 79, 3) := by decide +kernel
theorem dX7_pick_94 : decode cX7_pick 94 = .ok (.ifCond .ne 5, 3) := by decide +kernel
theorem dX7_pick_97 : decode cX7_pick 97 = .ok (.iconst 0, 1) := by decide +kernel
theorem dX7_pick_98 : decode cX7_pick 98 = .ok (.ireturn, 1) := by decide +kernel
theorem dX7_pick_99 : decode cX7_pick 99 = .ok (.aload_n 0, 1) := by decide +kernel
theorem dX7_pick_100 : decode cX7_pick 100 = .ok (.invokevirtual 82, 3) := by decide +kernel
theorem dX7_pick_103 : decode cX7_pick 103 = .ok (.aload_n 0, 1) := by decide +kernel
theorem dX7_pick_104 : decode cX7_pick 104 = .ok (.iload_n 2, 1) := by decide +kernel
theorem dX7_pick_105 : decode cX7_pick 105 = .ok (.bipush 6, 2) := by decide +kernel
theorem dX7_pick_107 : decode cX7_pick 107 = .ok (.aload_n 0, 1) := by decide +kernel
theorem dX7_pick_108 : decode cX7_pick 108 = .ok (.iload_n 2, 1) := by decide +kernel
theorem dX7_pick_109 : decode cX7_pick 109 = .ok (.bipush 6, 2) := by decide +kernel
theorem dX7_pick_111 : decode cX7_pick 111 = .ok (.invokevirtual 42, 3) := by decide +kernel
theorem dX7_pick_114 : decode cX7_pick 114 = .ok (.iconst 1, 1) := by decide +kernel
theorem dX7_pick_115 : decode cX7_pick 115 = .ok (.iadd, 1) := by decide +kernel
theorem dX7_pick_116 : decode cX7_pick 116 = .ok (.invokevirtual 102, 3) := by decide +kernel
theorem dX7_pick_119 : decode cX7_pick 119 = .ok (.aload_n 0, 1) := by decide +kernel
theorem dX7_pick_120 : decode cX7_pick 120 = .ok (.iload_n 2, 1) := by decide +kernel
theorem dX7_pick_121 : decode cX7_pick 121 = .ok (.bipush 6, 2) := by decide +kernel
theorem dX7_pick_123 : decode cX7_pick 123 = .ok (.invokevirtual 42, 3) := by decide +kernel
theorem dX7_pick_126 : decode cX7_pick 126 = .ok (.ireturn, 1) := by decide +kernel
theorem dX7_copies_0 : decode cX7_copies 0 = .ok (.iconst 0, 1) := by decide +kernel
theorem dX7_copies_1 : decode cX7_copies 1 = .ok (.istore_n 3, 1) := by decide +kernel
theorem dX7_copies_2 : decode cX7_copies 2 = .ok (.iload_n 3, 1) := by decide +kernel
theorem dX7_copies_3 : decode cX7_copies 3 = .ok (.sipush 236, 3) := by decide +kernel
theorem dX7_copies_6 : decode cX7_copies 6 = .ok (.if_icmp .ge 33, 3) := by decide +kernel
theorem dX7_copies_9 : decode cX7_copies 9 = .ok (.aload_n 0, 1) := by decide +kernel
theorem dX7_copies_10 : decode cX7_copies 10 = .ok (.getfield 7, 3) := by decide +kernel
theorem dX7_copies_13 : decode cX7_copies 13 = .ok (.sipush 236, 3) := by decide +kernel
theorem dX7_copies_16 : decode cX7_copies 16 = .ok (.iload_n 2, 1) := by decide +kernel
theorem dX7_copies_17 : decode cX7_copies 17 = .ok (.imul, 1) := by decide +kernel
theorem dX7_copies_18 : decode cX7_copies 18 = .ok (.iload_n 3, 1) := by decide +kernel
theorem dX7_copies_19 : decode cX7_copies 19 = .ok (.iadd, 1) := by decide +kernel
theorem dX7_copies_20 : decode cX7_copies 20 = .ok (.aload_n 0, 1) := by decide +kernel
theorem dX7_copies_21 : decode cX7_copies 21 = .ok (.getfield 7, 3) := by decide +kernel
theorem dX7_copies_24 : decode cX7_copies 24 = .ok (.sipush 236, 3) := by decide +kernel
theorem dX7_copies_27 : decode cX7_copies 27 = .ok (.iload_n 1, 1) := by decide +kernel
theorem dX7_copies_28 : decode cX7_copies 28 = .ok (.imul, 1) := by decide +kernel
theorem dX7_copies_29 : decode cX7_copies 29 = .ok (.iload_n 3, 1) := by decide +kernel
theorem dX7_copies_30 : decode cX7_copies 30 = .ok (.iadd, 1) := by decide +kernel
theorem dX7_copies_31 : decode cX7_copies 31 = .ok (.iaload, 1) := by decide +kernel
theorem dX7_copies_32 : decode cX7_copies 32 = .ok (.iastore, 1) := by decide +kernel
theorem dX7_copies_33 : decode cX7_copies 33 = .ok (.iinc 3 1, 3) := by decide +kernel
theorem dX7_copies_36 : decode cX7_copies 36 = .ok (.goto (-34), 3) := by decide +kernel
theorem dX7_copies_39 : decode cX7_copies 39 = .ok (.return_, 1) := by decide +kernel
theorem dX7_save_0 : decode cX7_save 0 = .ok (.iconst 1, 1) := by decide +kernel
theorem dX7_save_1 : decode cX7_save 1 = .ok (.istore_n 1, 1) := by decide +kernel
theorem dX7_save_2 : decode cX7_save 2 = .ok (.iload_n 1, 1) := by decide +kernel
theorem dX7_save_3 : decode cX7_save 3 = .ok (.bipush 6, 2) := by decide +kernel
theorem dX7_save_5 : decode cX7_save 5 = .ok (.if_icmp .ge 26, 3) := by decide +kernel
theorem dX7_save_8 : decode cX7_save 8 = .ok (.aload_n 0, 1) := by decide +kernel
theorem dX7_save_9 : decode cX7_save 9 = .ok (.getfield 106, 3) := by decide +kernel
theorem dX7_save_12 : decode cX7_save 12 = .ok (.bipush 6, 2) := by decide +kernel
theorem dX7_save_14 : decode cX7_save 14 = .ok (.if_icmp .ne 17, 3) := by decide +kernel
theorem dX7_save_17 : decode cX7_save 17 = .ok (.aload_n 0, 1) := by decide +kernel
theorem dX7_save_18 : decode cX7_save 18 = .ok (.iload_n 1, 1) := by decide +kernel
theorem dX7_save_19 : decode cX7_save 19 = .ok (.iconst 1, 1) := by decide +kernel
theorem dX7_save_20 : decode cX7_save 20 = .ok (.iadd, 1) := by decide +kernel
theorem dX7_save_21 : decode cX7_save 21 = .ok (.iload_n 1, 1) := by decide +kernel
theorem dX7_save_22 : decode cX7_save 22 = .ok (.invokevirtual 109, 3) := by decide +kernel
theorem dX7_save_25 : decode cX7_save 25 = .ok (.iinc 1 1, 3) := by decide +kernel
theorem dX7_save_28 : decode cX7_save 28 = .ok (.goto (-26), 3) := by decide +kernel
theorem dX7_save_31 : decode cX7_save 31 = .ok (.aload_n 0, 1) := by decide +kernel
theorem dX7_save_32 : decode cX7_save 32 = .ok (.dup, 1) := by decide +kernel
theorem dX7_save_33 : decode cX7_save 33 = .ok (.getfield 106, 3) := by decide +kernel
theorem dX7_save_36 : decode cX7_save 36 = .ok (.aload_n 0, 1) := by decide +kernel
theorem dX7_save_37 : decode cX7_save 37 = .ok (.getfield 106, 3) := by decide +kernel
theorem dX7_save_40 : decode cX7_save 40 = .ok (.bipush 6, 2) := by decide +kernel
theorem dX7_save_42 : decode cX7_save 42 = .ok (.if_icmp .ge 7, 3) := by decide +kernel
theorem dX7_save_45 : decode cX7_save 45 = .ok (.iconst 1, 1) := by decide +kernel
theorem dX7_save_46 : decode cX7_save 46 = .ok (.goto 4, 3) := by decide +kernel
theorem dX7_save_49 : decode cX7_save 49 = .ok (.iconst 0, 1) := by decide +kernel
theorem dX7_save_50 : decode cX7_save 50 = .ok (.iadd, 1) := by decide +kernel
theorem dX7_save_51 : decode cX7_save 51 = .ok (.putfield 106, 3) := by decide +kernel
theorem dX7_save_54 : decode cX7_save 54 = .ok (.aload_n 0, 1) := by decide +kernel
theorem dX7_save_55 : decode cX7_save 55 = .ok (.iconst 0, 1) := by decide +kernel
theorem dX7_save_56 : decode cX7_save 56 = .ok (.aload_n 0, 1) := by decide +kernel
theorem dX7_save_57 : decode cX7_save 57 = .ok (.getfield 106, 3) := by decide +kernel
theorem dX7_save_60 : decode cX7_save 60 = .ok (.invokevirtual 109, 3) := by decide +kernel
theorem dX7_save_63 : decode cX7_save 63 = .ok (.return_, 1) := by decide +kernel
theorem dX7_hasAsterisk_0 : decode cX7_hasAsterisk 0 = .ok (.iconst 0, 1) := by decide +kernel
theorem dX7_hasAsterisk_1 : decode cX7_hasAsterisk 1 = .ok (.istore_n 1, 1) := by decide +kernel
theorem dX7_hasAsterisk_2 : decode cX7_hasAsterisk 2 = .ok (.iconst 0, 1) := by decide +kernel
theorem dX7_hasAsterisk_3 : decode cX7_hasAsterisk 3 = .ok (.istore_n 2, 1) := by decide +kernel
theorem dX7_hasAsterisk_4 : decode cX7_hasAsterisk 4 = .ok (.iload_n 2, 1) := by decide +kernel
theorem dX7_hasAsterisk_5 : decode cX7_hasAsterisk 5 = .ok (.aload_n 0, 1) := by decide +kernel
theorem dX7_hasAsterisk_6 : decode cX7_hasAsterisk 6 = .ok (.getfield 93, 3) := by decide +kernel
theorem dX7_hasAsterisk_9 : decode cX7_hasAsterisk 9 = .ok (.if_icmp .ge 28, 3) := by decide +kernel
theorem dX7_hasAsterisk_12 : decode cX7_hasAsterisk 12 = .ok (.iload_n 1, 1) := by decide +kernel
theorem dX7_hasAsterisk_13 : decode cX7_hasAsterisk 13 = .ok (.ifCond .ne 12, 3) := by decide +kernel
theorem dX7_hasAsterisk_16 : decode cX7_hasAsterisk 16 = .ok (.aload_n 0, 1) := by decide +kernel
theorem dX7_hasAsterisk_17 : decode cX7_hasAsterisk 17 = .ok (.getfield 16, 3) := by decide +kernel
theorem dX7_hasAsterisk_20 : decode cX7_hasAsterisk 20 = .ok (.iload_n 2, 1) := by decide +kernel
theorem dX7_hasAsterisk_21 : decode cX7_hasAsterisk 21 = .ok (.iaload, 1) := by decide +kernel
theorem dX7_hasAsterisk_22 : decode cX7_hasAsterisk 22 = .ok (.ifCond .ne 7, 3) := by decide +kernel
theorem dX7_hasAsterisk_25 : decode cX7_hasAsterisk 25 = .ok (.iconst 1, 1) := by decide +kernel
theorem dX7_hasAsterisk_26 : decode cX7_hasAsterisk 26 = .ok (.goto 4, 3) := by decide +kernel
theorem dX7_hasAsterisk_29 : decode cX7_hasAsterisk 29 = .ok (.iconst 0, 1) := by decide +kernel
theorem dX7_hasAsterisk_30 : decode cX7_hasAsterisk 30 = .ok (.istore_n 1, 1) := by decide +kernel
theorem dX7_hasAsterisk_31 : decode cX7_hasAsterisk 31 = .ok (.iinc 2 1, 3) := by decide +kernel
theorem dX7_hasAsterisk_34 : decode cX7_hasAsterisk 34 = .ok (.goto (-30), 3) := by decide +kernel
theorem dX7_hasAsterisk_37 : decode cX7_hasAsterisk 37 = .ok (.iload_n 1, 1) := by decide +kernel
theorem dX7_hasAsterisk_38 : decode cX7_hasAsterisk 38 = .ok (.ireturn, 1) := by decide +kernel
theorem dX7_isThere_0 : decode cX7_isThere 0 = .ok (.iconst 0, 1) := by decide +kernel
theorem dX7_isThere_1 : decode cX7_isThere 1 = .ok (.istore_n 2, 1) := by decide +kernel
theorem dX7_isThere_2 : decode cX7_isThere 2 = .ok (.iconst 0, 1) := by decide +kernel
theorem dX7_isThere_3 : decode cX7_isThere 3 = .ok (.istore_n 3, 1) := by decide +kernel
theorem dX7_isThere_4 : decode cX7_isThere 4 = .ok (.iload_n 3, 1) := by decide +kernel
theorem dX7_isThere_5 : decode cX7_isThere 5 = .ok (.aload_n 0, 1) := by decide +kernel
theorem dX7_isThere_6 : decode cX7_isThere 6 = .ok (.getfield 7, 3) := by decide +kernel
theorem dX7_isThere_9 : decode cX7_isThere 9 = .ok (.iconst 1, 1) := by decide +kernel
theorem dX7_isThere_10 : decode cX7_isThere 10 = .ok (.iaload, 1) := by decide +kernel
theorem dX7_isThere_11 : decode cX7_isThere 11 = .ok (.if_icmp .ge 103, 3) := by decide +kernel
theorem dX7_isThere_14 : decode cX7_isThere 14 = .ok (.aload_n 0, 1) := by decide +kernel
theorem dX7_isThere_15 : decode cX7_isThere 15 = .ok (.iload_n 3, 1) := by decide +kernel
theorem dX7_isThere_16 : decode cX7_isThere 16 = .ok (.iconst 0, 1) := by decide +kernel
theorem dX7_isThere_17 : decode cX7_isThere 17 = .ok (.invokevirtual 42, 3) := by decide +kernel
theorem dX7_isThere_20 : decode cX7_isThere 20 = .ok (.aload_n 0, 1) := by decide +kernel
theorem dX7_isThere_21 : decode cX7_isThere 21 = .ok (.getfield 93, 3) := by decide +kernel
theorem dX7_isThere_24 : decode cX7_isThere 24 = .ok (.if_icmp .ne 17, 3) := by decide +kernel
theorem dX7_isThere_27 : decode cX7_isThere 27 = .ok (.aload_n 0, 1) := by decide +kernel
theorem dX7_isThere_28 : decode cX7_isThere 28 = .ok (.iload_n 3, 1) := by decide +kernel
theorem dX7_isThere_29 : decode cX7_isThere 29 = .ok (.iconst 5, 1) := by decide +kernel
theorem dX7_isThere_30 : decode cX7_isThere 30 = .ok (.invokevirtual 42, 3) := by decide +kernel
theorem dX7_isThere_33 : decode cX7_isThere 33 = .ok (.iload_n 1, 1) := by decide +kernel
theorem dX7_isThere_34 : decode cX7_isThere 34 = .ok (.if_icmp .ne 7, 3) := by decide +kernel
theorem dX7_isThere_37 : decode cX7_isThere 37 = .ok (.iconst 1, 1) := by decide +kernel
theorem dX7_isThere_38 : decode cX7_isThere 38 = .ok (.goto 4, 3) := by decide +kernel
theorem dX7_isThere_41 : decode cX7_isThere 41 = .ok (.iconst 0, 1) := by decide +kernel
theorem dX7_isThere_42 : decode cX7_isThere 42 = .ok (.istore 4, 2) := by decide +kernel
theorem dX7_isThere_44 : decode cX7_isThere 44 = .ok (.iconst 0, 1) := by decide +kernel
theorem dX7_isThere_45 : decode cX7_isThere 45 = .ok (.istore 5, 2) := by decide +kernel
theorem dX7_isThere_47 : decode cX7_isThere 47 = .ok (.iload 5, 2) := by decide +kernel
theorem dX7_isThere_49 : decode cX7_isThere 49 = .ok (.aload_n 0, 1) := by decide +kernel
theorem dX7_isThere_50 : decode cX7_isThere 50 = .ok (.getfield 93, 3) := by decide +kernel
theorem dX7_isThere_53 : decode cX7_isThere 53 = .ok (.if_icmp .ge 40, 3) := by decide +kernel
theorem dX7_isThere_56 : decode cX7_isThere 56 = .ok (.iload 4, 2) := by decide +kernel
theorem dX7_isThere_58 : decode cX7_isThere 58 = .ok (.ifCond .eq 35, 3) := by decide +kernel
theorem dX7_isThere_61 : decode cX7_isThere 61 = .ok (.aload_n 0, 1) := by decide +kernel
theorem dX7_isThere_62 : decode cX7_isThere 62 = .ok (.iload_n 3, 1) := by decide +kernel
theorem dX7_isThere_63 : decode cX7_isThere 63 = .ok (.iconst 1, 1) := by decide +kernel
theorem dX7_isThere_64 : decode cX7_isThere 64 = .ok (.iload 5, 2) := by decide +kernel
theorem dX7_isThere_66 : decode cX7_isThere 66 = .ok (.iadd, 1) := by decide +kernel
theorem dX7_isThere_67 : decode cX7_isThere 67 = .ok (.invokevirtual 42, 3) := by decide +kernel
theorem dX7_isThere_70 : decode cX7_isThere 70 = .ok (.aload_n 0, 1) := by decide +kernel
theorem dX7_isThere_71 : decode cX7_isThere 71 = .ok (.getfield 16, 3) := by decide +kernel
theorem dX7_isThere_74 : decode cX7_isThere 74 = .ok (.iload 5, 2) := by decide +kernel
theorem dX7_isThere_76 : decode cX7_isThere 76 = .ok (.iaload, 1) := by decide +kernel
theorem dX7_isThere_77 : decode cX7_isThere 77 = .ok (.if_icmp .ne 7, 3) := by decide +kernel
theorem dX7_isThere_80 : decode cX7_isThere 80 = .ok (.iconst 1, 1) := by decide +kernel
theorem dX7_isThere_81 : decode cX7_isThere 81 = .ok (.goto 4, 3) := by decide +kernel
theorem dX7_isThere_84 : decode cX7_isThere 84 = .ok (.iconst 0, 1) := by decide +kernel
theorem dX7_isThere_85 : decode cX7_isThere 85 = .ok (.istore 4, 2) := by decide +kernel
theorem dX7_isThere_87 : decode cX7_isThere 87 = .ok (.iinc 5 1, 3) := by decide +kernel
theorem dX7_isThere_90 : decode cX7_isThere 90 = .ok (.goto (-43), 3) := by decide +kernel
theorem dX7_isThere_93 : decode cX7_isThere 93 = .ok (.iload_n 2, 1) := by decide +kernel
theorem dX7_isThere_94 : decode cX7_isThere 94 = .ok (.ifCond .ne 8, 3) := by decide +kernel
theorem dX7_isThere_97 : decode cX7_isThere 97 = .ok (.iload 4, 2) := by decide +kernel
theorem dX7_isThere_99 : decode cX7_isThere 99 = .ok (.ifCond .eq 7, 3) := by decide +kernel
theorem dX7_isThere_102 : decode cX7_isThere 102 = .ok (.iconst 1, 1) := by decide +kernel
theorem dX7_isThere_103 : decode cX7_isThere 103 = .ok (.goto 4, 3) := by decide +kernel
theorem dX7_isThere_106 : decode cX7_isThere 106 = .ok (.iconst 0, 1) := by decide +kernel
theorem dX7_isThere_107 : decode cX7_isThere 107 = .ok (.istore_n 2, 1) := by decide +kernel
theorem dX7_isThere_108 : decode cX7_isThere 108 = .ok (.iinc 3 1, 3) := by decide +kernel
theorem dX7_isThere_111 : decode cX7_isThere 111 = .ok (.goto (-107), 3) := by decide +kernel
theorem dX7_isThere_114 : decode cX7_isThere 114 = .ok (.iload_n 2, 1) := by decide +kernel
theorem dX7_isThere_115 : decode cX7_isThere 115 = .ok (.ireturn, 1) := by decide +kernel
theorem dX7_define_0 : decode cX7_define 0 = .ok (.iload_n 1, 1) := by decide +kernel
theorem dX7_define_1 : decode cX7_define 1 = .ok (.iconst 0, 1) := by decide +kernel
theorem dX7_define_2 : decode cX7_define 2 = .ok (.bipush 99, 2) := by decide +kernel
theorem dX7_define_4 : decode cX7_define 4 = .ok (.invokestatic 38, 3) := by decide +kernel
theorem dX7_define_7 : decode cX7_define 7 = .ok (.ifCond .eq 29, 3) := by decide +kernel
theorem dX7_define_10 : decode cX7_define 10 = .ok (.aload_n 0, 1) := by decide +kernel
theorem dX7_define_11 : decode cX7_define 11 = .ok (.invokevirtual 89, 3) := by decide +kernel
theorem dX7_define_14 : decode cX7_define 14 = .ok (.ifCond .eq 22, 3) := by decide +kernel
theorem dX7_define_17 : decode cX7_define 17 = .ok (.aload_n 0, 1) := by decide +kernel
theorem dX7_define_18 : decode cX7_define 18 = .ok (.getfield 93, 3) := by decide +kernel
theorem dX7_define_21 : decode cX7_define 21 = .ok (.iconst 4, 1) := by decide +kernel
theorem dX7_define_22 : decode cX7_define 22 = .ok (.if_icmp .gt 14, 3) := by decide +kernel
theorem dX7_define_25 : decode cX7_define 25 = .ok (.aload_n 0, 1) := by decide +kernel
theorem dX7_define_26 : decode cX7_define 26 = .ok (.invokevirtual 113, 3) := by decide +kernel
theorem dX7_define_29 : decode cX7_define 29 = .ok (.ifCond .ne 7, 3) := by decide +kernel
theorem dX7_define_32 : decode cX7_define 32 = .ok (.iconst 1, 1) := by decide +kernel
theorem dX7_define_33 : decode cX7_define 33 = .ok (.goto 4, 3) := by decide +kernel
theorem dX7_define_36 : decode cX7_define 36 = .ok (.iconst 0, 1) := by decide +kernel
theorem dX7_define_37 : decode cX7_define 37 = .ok (.istore_n 2, 1) := by decide +kernel
theorem dX7_define_38 : decode cX7_define 38 = .ok (.aload_n 0, 1) := by decide +kernel
theorem dX7_define_39 : decode cX7_define 39 = .ok (.iload_n 2, 1) := by decide +kernel
theorem dX7_define_40 : decode cX7_define 40 = .ok (.ifCond .ne 7, 3) := by decide +kernel
theorem dX7_define_43 : decode cX7_define 43 = .ok (.iconst 1, 1) := by decide +kernel
theorem dX7_define_44 : decode cX7_define 44 = .ok (.goto 27, 3) := by decide +kernel
theorem dX7_define_47 : decode cX7_define 47 = .ok (.aload_n 0, 1) := by decide +kernel
theorem dX7_define_48 : decode cX7_define 48 = .ok (.getfield 7, 3) := by decide +kernel
theorem dX7_define_51 : decode cX7_define 51 = .ok (.iconst 1, 1) := by decide +kernel
theorem dX7_define_52 : decode cX7_define 52 = .ok (.iaload, 1) := by decide +kernel
theorem dX7_define_53 : decode cX7_define 53 = .ok (.bipush 24, 2) := by decide +kernel
theorem dX7_define_55 : decode cX7_define 55 = .ok (.if_icmp .eq 11, 3) := by decide +kernel
theorem dX7_define_58 : decode cX7_define 58 = .ok (.aload_n 0, 1) := by decide +kernel
theorem dX7_define_59 : decode cX7_define 59 = .ok (.iload_n 1, 1) := by decide +kernel
theorem dX7_define_60 : decode cX7_define 60 = .ok (.invokevirtual 116, 3) := by decide +kernel
theorem dX7_define_63 : decode cX7_define 63 = .ok (.ifCond .eq 7, 3) := by decide +kernel
theorem dX7_define_66 : decode cX7_define 66 = .ok (.iconst 2, 1) := by decide +kernel
theorem dX7_define_67 : decode cX7_define 67 = .ok (.goto 4, 3) := by decide +kernel
theorem dX7_define_70 : decode cX7_define 70 = .ok (.iconst 0, 1) := by decide +kernel
theorem dX7_define_71 : decode cX7_define 71 = .ok (.invokevirtual 79, 3) := by decide +kernel
theorem dX7_define_74 : decode cX7_define 74 = .ok (.ifCond .ne 5, 3) := by decide +kernel
theorem dX7_define_77 : decode cX7_define 77 = .ok (.iconst 0, 1) := by decide +kernel
theorem dX7_define_78 : decode cX7_define 78 = .ok (.ireturn, 1) := by decide +kernel
theorem dX7_define_79 : decode cX7_define 79 = .ok (.aload_n 0, 1) := by decide +kernel
theorem dX7_define_80 : decode cX7_define 80 = .ok (.invokevirtual 82, 3) := by decide +kernel
theorem dX7_define_83 : decode cX7_define 83 = .ok (.aload_n 0, 1) := by decide +kernel
theorem dX7_define_84 : decode cX7_define 84 = .ok (.getfield 7, 3) := by decide +kernel
theorem dX7_define_87 : decode cX7_define 87 = .ok (.iconst 1, 1) := by decide +kernel
theorem dX7_define_88 : decode cX7_define 88 = .ok (.iaload, 1) := by decide +kernel
theorem dX7_define_89 : decode cX7_define 89 = .ok (.istore_n 3, 1) := by decide +kernel
theorem dX7_define_90 : decode cX7_define 90 = .ok (.aload_n 0, 1) := by decide +kernel
theorem dX7_define_91 : decode cX7_define 91 = .ok (.iload_n 3, 1) := by decide +kernel
theorem dX7_define_92 : decode cX7_define 92 = .ok (.iconst 0, 1) := by decide +kernel
theorem dX7_define_93 : decode cX7_define 93 = .ok (.aload_n 0, 1) := by decide +kernel
theorem dX7_define_94 : decode cX7_define 94 = .ok (.getfield 93, 3) := by decide +kernel
theorem dX7_define_97 : decode cX7_define 97 = .ok (.invokevirtual 102, 3) := by decide +kernel
theorem dX7_define_100 : decode cX7_define 100 = .ok (.iconst 0, 1) := by decide +kernel
theorem dX7_define_101 : decode cX7_define 101 = .ok (.istore 4, 2) := by decide +kernel
theorem dX7_define_103 : decode cX7_define 103 = .ok (.iload 4, 2) := by decide +kernel
theorem dX7_define_105 : decode cX7_define 105 = .ok (.iconst 4, 1) := by decide +kernel
theorem dX7_define_106 : decode cX7_define 106 = .ok (.if_icmp .ge 38, 3) := by decide +kernel
theorem dX7_define_109 : decode cX7_define 109 = .ok (.aload_n 0, 1) := by decide +kernel
theorem dX7_define_110 : decode cX7_define 110 = .ok (.iload_n 3, 1) := by decide +kernel
theorem dX7_define_111 : decode cX7_define 111 = .ok (.iconst 1, 1) := by decide +kernel
theorem dX7_define_112 : decode cX7_define 112 = .ok (.iload 4, 2) := by decide +kernel
theorem dX7_define_114 : decode cX7_define 114 = .ok (.iadd, 1) := by decide +kernel
theorem dX7_define_115 : decode cX7_define 115 = .ok (.iload 4, 2) := by decide +kernel
theorem dX7_define_117 : decode cX7_define 117 = .ok (.aload_n 0, 1) := by decide +kernel
theorem dX7_define_118 : decode cX7_define 118 = .ok (.getfield 93, 3) := by decide +kernel
theorem dX7_define_121 : decode cX7_define 121 = .ok (.if_icmp .ge 13, 3) := by decide +kernel
theorem dX7_define_124 : decode cX7_define 124 = .ok (.aload_n 0, 1) := by decide +kernel
theorem dX7_define_125 : decode cX7_define 125 = .ok (.getfield 16, 3) := by decide +kernel
theorem dX7_define_128 : decode cX7_define 128 = .ok (.iload 4, 2) := by decide +kernel
theorem dX7_define_130 : decode cX7_define 130 = .ok (.iaload, 1) := by decide +kernel
theorem dX7_define_131 : decode cX7_define 131 = .ok (.goto 4, 3) := by decide +kernel
theorem dX7_define_134 : decode cX7_define 134 = .ok (.iconst (-1), 1) := by decide +kernel
theorem dX7_define_135 : decode cX7_define 135 = .ok (.invokevirtual 102, 3) := by decide +kernel
theorem dX7_define_138 : decode cX7_define 138 = .ok (.iinc 4 1, 3) := by decide +kernel
theorem dX7_define_141 : decode cX7_define 141 = .ok (.goto (-38), 3) := by decide +kernel
theorem dX7_define_144 : decode cX7_define 144 = .ok (.aload_n 0, 1) := by decide +kernel
theorem dX7_define_145 : decode cX7_define 145 = .ok (.iload_n 3, 1) := by decide +kernel
theorem dX7_define_146 : decode cX7_define 146 = .ok (.iconst 5, 1) := by decide +kernel
theorem dX7_define_147 : decode cX7_define 147 = .ok (.iload_n 1, 1) := by decide +kernel
theorem dX7_define_148 : decode cX7_define 148 = .ok (.invokevirtual 102, 3) := by decide +kernel
theorem dX7_define_151 : decode cX7_define 151 = .ok (.aload_n 0, 1) := by decide +kernel
theorem dX7_define_152 : decode cX7_define 152 = .ok (.iload_n 3, 1) := by decide +kernel
theorem dX7_define_153 : decode cX7_define 153 = .ok (.bipush 6, 2) := by decide +kernel
theorem dX7_define_155 : decode cX7_define 155 = .ok (.iconst 0, 1) := by decide +kernel
theorem dX7_define_156 : decode cX7_define 156 = .ok (.invokevirtual 102, 3) := by decide +kernel
theorem dX7_define_159 : decode cX7_define 159 = .ok (.aload_n 0, 1) := by decide +kernel
theorem dX7_define_160 : decode cX7_define 160 = .ok (.getfield 7, 3) := by decide +kernel
theorem dX7_define_163 : decode cX7_define 163 = .ok (.iconst 1, 1) := by decide +kernel
theorem dX7_define_164 : decode cX7_define 164 = .ok (.dup2, 1) := by decide +kernel
theorem dX7_define_165 : decode cX7_define 165 = .ok (.iaload, 1) := by decide +kernel
theorem dX7_define_166 : decode cX7_define 166 = .ok (.iconst 1, 1) := by decide +kernel
theorem dX7_define_167 : decode cX7_define 167 = .ok (.iadd, 1) := by decide +kernel
theorem dX7_define_168 : decode cX7_define 168 = .ok (.iastore, 1) := by decide +kernel
theorem dX7_define_169 : decode cX7_define 169 = .ok (.aload_n 0, 1) := by decide +kernel
theorem dX7_define_170 : decode cX7_define 170 = .ok (.iconst 0, 1) := by decide +kernel
theorem dX7_define_171 : decode cX7_define 171 = .ok (.putfield 96, 3) := by decide +kernel
theorem dX7_define_174 : decode cX7_define 174 = .ok (.iload_n 3, 1) := by decide +kernel
theorem dX7_define_175 : decode cX7_define 175 = .ok (.ireturn, 1) := by decide +kernel
theorem dX7_remove_0 : decode cX7_remove 0 = .ok (.aload_n 0, 1) := by decide +kernel
theorem dX7_remove_1 : decode cX7_remove 1 = .ok (.aload_n 0, 1) := by decide +kernel
theorem dX7_remove_2 : decode cX7_remove 2 = .ok (.iload_n 1, 1) := by decide +kernel
theorem dX7_remove_3 : decode cX7_remove 3 = .ok (.invokevirtual 99, 3) := by decide +kernel
theorem dX7_remove_6 : decode cX7_remove 6 = .ok (.ifCond .eq 7, 3) := by decide +kernel
theorem dX7_remove_9 : decode cX7_remove 9 = .ok (.iconst 0, 1) := by decide +kernel
theorem dX7_remove_10 : decode cX7_remove 10 = .ok (.goto 4, 3) := by decide +kernel
theorem dX7_remove_13 : decode cX7_remove 13 = .ok (.iconst 1, 1) := by decide +kernel
theorem dX7_remove_14 : decode cX7_remove 14 = .ok (.invokevirtual 79, 3) := by decide +kernel
theorem dX7_remove_17 : decode cX7_remove 17 = .ok (.ifCond .ne 5, 3) := by decide +kernel
theorem dX7_remove_20 : decode cX7_remove 20 = .ok (.iconst 0, 1) := by decide +kernel
theorem dX7_remove_21 : decode cX7_remove 21 = .ok (.ireturn, 1) := by decide +kernel
theorem dX7_remove_22 : decode cX7_remove 22 = .ok (.aload_n 0, 1) := by decide +kernel
theorem dX7_remove_23 : decode cX7_remove 23 = .ok (.invokevirtual 82, 3) := by decide +kernel
theorem dX7_remove_26 : decode cX7_remove 26 = .ok (.aload_n 0, 1) := by decide +kernel
theorem dX7_remove_27 : decode cX7_remove 27 = .ok (.getfield 7, 3) := by decide +kernel
theorem dX7_remove_30 : decode cX7_remove 30 = .ok (.iconst 1, 1) := by decide +kernel
theorem dX7_remove_31 : decode cX7_remove 31 = .ok (.dup2, 1) := by decide +kernel
theorem dX7_remove_32 : decode cX7_remove 32 = .ok (.iaload, 1) := by decide +kernel
theorem dX7_remove_33 : decode cX7_remove 33 = .ok (.iconst 1, 1) := by decide +kernel
theorem dX7_remove_34 : decode cX7_remove 34 = .ok (.isub, 1) := by decide +kernel
theorem dX7_remove_35 : decode cX7_remove 35 = .ok (.iastore, 1) := by decide +kernel
theorem dX7_remove_36 : decode cX7_remove 36 = .ok (.bipush 7, 2) := by decide +kernel
theorem dX7_remove_38 : decode cX7_remove 38 = .ok (.iload_n 1, 1) := by decide +kernel
theorem dX7_remove_39 : decode cX7_remove 39 = .ok (.imul, 1) := by decide +kernel
theorem dX7_remove_40 : decode cX7_remove 40 = .ok (.istore_n 2, 1) := by decide +kernel
theorem dX7_remove_41 : decode cX7_remove 41 = .ok (.iload_n 2, 1) := by decide +kernel
theorem dX7_remove_42 : decode cX7_remove 42 = .ok (.bipush 7, 2) := by decide +kernel
theorem dX7_remove_44 : decode cX7_remove 44 = .ok (.aload_n 0, 1) := by decide +kernel
theorem dX7_remove_45 : decode cX7_remove 45 = .ok (.getfield 7, 3) := by decide +kernel
theorem dX7_remove_48 : decode cX7_remove 48 = .ok (.iconst 1, 1) := by decide +kernel
theorem dX7_remove_49 : decode cX7_remove 49 = .ok (.iaload, 1) := by decide +kernel
theorem dX7_remove_50 : decode cX7_remove 50 = .ok (.imul, 1) := by decide +kernel
theorem dX7_remove_51 : decode cX7_remove 51 = .ok (.if_icmp .ge 30, 3) := by decide +kernel
theorem dX7_remove_54 : decode cX7_remove 54 = .ok (.aload_n 0, 1) := by decide +kernel
theorem dX7_remove_55 : decode cX7_remove 55 = .ok (.getfield 7, 3) := by decide +kernel
theorem dX7_remove_58 : decode cX7_remove 58 = .ok (.bipush 68, 2) := by decide +kernel
theorem dX7_remove_60 : decode cX7_remove 60 = .ok (.iload_n 2, 1) := by decide +kernel
theorem dX7_remove_61 : decode cX7_remove 61 = .ok (.iadd, 1) := by decide +kernel
theorem dX7_remove_62 : decode cX7_remove 62 = .ok (.aload_n 0, 1) := by decide +kernel
theorem dX7_remove_63 : decode cX7_remove 63 = .ok (.getfield 7, 3) := by decide +kernel
theorem dX7_remove_66 : decode cX7_remove 66 = .ok (.bipush 68, 2) := by decide +kernel
theorem dX7_remove_68 : decode cX7_remove 68 = .ok (.iload_n 2, 1) := by decide +kernel
theorem dX7_remove_69 : decode cX7_remove 69 = .ok (.iadd, 1) := by decide +kernel
theorem dX7_remove_70 : decode cX7_remove 70 = .ok (.bipush 7, 2) := by decide +kernel
theorem dX7_remove_72 : decode cX7_remove 72 = .ok (.iadd, 1) := by decide +kernel
theorem dX7_remove_73 : decode cX7_remove 73 = .ok (.iaload, 1) := by decide +kernel
theorem dX7_remove_74 : decode cX7_remove 74 = .ok (.iastore, 1) := by decide +kernel
theorem dX7_remove_75 : decode cX7_remove 75 = .ok (.iinc 2 1, 3) := by decide +kernel
theorem dX7_remove_78 : decode cX7_remove 78 = .ok (.goto (-37), 3) := by decide +kernel
theorem dX7_remove_81 : decode cX7_remove 81 = .ok (.aload_n 0, 1) := by decide +kernel
theorem dX7_remove_82 : decode cX7_remove 82 = .ok (.getfield 7, 3) := by decide +kernel
theorem dX7_remove_85 : decode cX7_remove 85 = .ok (.iconst 1, 1) := by decide +kernel
theorem dX7_remove_86 : decode cX7_remove 86 = .ok (.iaload, 1) := by decide +kernel
theorem dX7_remove_87 : decode cX7_remove 87 = .ok (.ireturn, 1) := by decide +kernel
theorem dX7_set_0 : decode cX7_set 0 = .ok (.aload_n 0, 1) := by decide +kernel
theorem dX7_set_1 : decode cX7_set 1 = .ok (.iload_n 1, 1) := by decide +kernel
theorem dX7_set_2 : decode cX7_set 2 = .ok (.iconst 0, 1) := by decide +kernel
theorem dX7_set_3 : decode cX7_set 3 = .ok (.iconst 1, 1) := by decide +kernel
theorem dX7_set_4 : decode cX7_set 4 = .ok (.invokestatic 38, 3) := by decide +kernel
theorem dX7_set_7 : decode cX7_set 7 = .ok (.ifCond .ne 7, 3) := by decide +kernel
theorem dX7_set_10 : decode cX7_set 10 = .ok (.iconst 1, 1) := by decide +kernel
theorem dX7_set_11 : decode cX7_set 11 = .ok (.goto 25, 3) := by decide +kernel
theorem dX7_set_14 : decode cX7_set 14 = .ok (.iload_n 2, 1) := by decide +kernel
theorem dX7_set_15 : decode cX7_set 15 = .ok (.iload_n 1, 1) := by decide +kernel
theorem dX7_set_16 : decode cX7_set 16 = .ok (.iload_n 1, 1) := by decide +kernel
theorem dX7_set_17 : decode cX7_set 17 = .ok (.ifCond .ne 7, 3) := by decide +kernel
theorem dX7_set_20 : decode cX7_set 20 = .ok (.iconst 1, 1) := by decide +kernel
theorem dX7_set_21 : decode cX7_set 21 = .ok (.goto 4, 3) := by decide +kernel
theorem dX7_set_24 : decode cX7_set 24 = .ok (.iconst 4, 1) := by decide +kernel
theorem dX7_set_25 : decode cX7_set 25 = .ok (.invokestatic 38, 3) := by decide +kernel
theorem dX7_set_28 : decode cX7_set 28 = .ok (.ifCond .ne 7, 3) := by decide +kernel
theorem dX7_set_31 : decode cX7_set 31 = .ok (.iconst 2, 1) := by decide +kernel
theorem dX7_set_32 : decode cX7_set 32 = .ok (.goto 4, 3) := by decide +kernel
theorem dX7_set_35 : decode cX7_set 35 = .ok (.iconst 0, 1) := by decide +kernel
theorem dX7_set_36 : decode cX7_set 36 = .ok (.invokevirtual 79, 3) := by decide +kernel
theorem dX7_set_39 : decode cX7_set 39 = .ok (.ifCond .ne 5, 3) := by decide +kernel
theorem dX7_set_42 : decode cX7_set 42 = .ok (.iconst 0, 1) := by decide +kernel
theorem dX7_set_43 : decode cX7_set 43 = .ok (.ireturn, 1) := by decide +kernel
theorem dX7_set_44 : decode cX7_set 44 = .ok (.aload_n 0, 1) := by decide +kernel
theorem dX7_set_45 : decode cX7_set 45 = .ok (.invokevirtual 82, 3) := by decide +kernel
theorem dX7_set_48 : decode cX7_set 48 = .ok (.aload_n 0, 1) := by decide +kernel
theorem dX7_set_49 : decode cX7_set 49 = .ok (.getfield 7, 3) := by decide +kernel
theorem dX7_set_52 : decode cX7_set 52 = .ok (.iconst 2, 1) := by decide +kernel
theorem dX7_set_53 : decode cX7_set 53 = .ok (.iload_n 1, 1) := by decide +kernel
theorem dX7_set_54 : decode cX7_set 54 = .ok (.iadd, 1) := by decide +kernel
theorem dX7_set_55 : decode cX7_set 55 = .ok (.iaload, 1) := by decide +kernel
theorem dX7_set_56 : decode cX7_set 56 = .ok (.istore_n 3, 1) := by decide +kernel
theorem dX7_set_57 : decode cX7_set 57 = .ok (.aload_n 0, 1) := by decide +kernel
theorem dX7_set_58 : decode cX7_set 58 = .ok (.getfield 7, 3) := by decide +kernel
theorem dX7_set_61 : decode cX7_set 61 = .ok (.iconst 2, 1) := by decide +kernel
theorem dX7_set_62 : decode cX7_set 62 = .ok (.iload_n 1, 1) := by decide +kernel
theorem dX7_set_63 : decode cX7_set 63 = .ok (.iadd, 1) := by decide +kernel
theorem dX7_set_64 : decode cX7_set 64 = .ok (.iload_n 2, 1) := by decide +kernel
theorem dX7_set_65 : decode cX7_set 65 = .ok (.iastore, 1) := by decide +kernel
theorem dX7_set_66 : decode cX7_set 66 = .ok (.iload_n 3, 1) := by decide +kernel
theorem dX7_set_67 : decode cX7_set 67 = .ok (.ireturn, 1) := by decide +kernel
theorem dX7_append_0 : decode cX7_append 0 = .ok (.aload_n 0, 1) := by decide +kernel
theorem dX7_append_1 : decode cX7_append 1 = .ok (.iload_n 1, 1) := by decide +kernel
theorem dX7_append_2 : decode cX7_append 2 = .ok (.bipush 33, 2) := by decide +kernel
theorem dX7_append_4 : decode cX7_append 4 = .ok (.bipush 126, 2) := by decide +kernel
theorem dX7_append_6 : decode cX7_append 6 = .ok (.invokestatic 38, 3) := by decide +kernel
theorem dX7_append_9 : decode cX7_append 9 = .ok (.ifCond .ne 7, 3) := by decide +kernel
theorem dX7_append_12 : decode cX7_append 12 = .ok (.iconst 1, 1) := by decide +kernel
theorem dX7_append_13 : decode cX7_append 13 = .ok (.goto 17, 3) := by decide +kernel
theorem dX7_append_16 : decode cX7_append 16 = .ok (.aload_n 0, 1) := by decide +kernel
theorem dX7_append_17 : decode cX7_append 17 = .ok (.getfield 96, 3) := by decide +kernel
theorem dX7_append_20 : decode cX7_append 20 = .ok (.bipush 60, 2) := by decide +kernel
theorem dX7_append_22 : decode cX7_append 22 = .ok (.if_icmp .ne 7, 3) := by decide +kernel
theorem dX7_append_25 : decode cX7_append 25 = .ok (.iconst 2, 1) := by decide +kernel
theorem dX7_append_26 : decode cX7_append 26 = .ok (.goto 4, 3) := by decide +kernel
theorem dX7_append_29 : decode cX7_append 29 = .ok (.iconst 0, 1) := by decide +kernel
theorem dX7_append_30 : decode cX7_append 30 = .ok (.invokevirtual 79, 3) := by decide +kernel
theorem dX7_append_33 : decode cX7_append 33 = .ok (.ifCond .ne 5, 3) := by decide +kernel
theorem dX7_append_36 : decode cX7_append 36 = .ok (.iconst 0, 1) := by decide +kernel
theorem dX7_append_37 : decode cX7_append 37 = .ok (.ireturn, 1) := by decide +kernel
theorem dX7_append_38 : decode cX7_append 38 = .ok (.aload_n 0, 1) := by decide +kernel
theorem dX7_append_39 : decode cX7_append 39 = .ok (.getfield 13, 3) := by decide +kernel
theorem dX7_append_42 : decode cX7_append 42 = .ok (.aload_n 0, 1) := by decide +kernel
theorem dX7_append_43 : decode cX7_append 43 = .ok (.getfield 96, 3) := by decide +kernel
theorem dX7_append_46 : decode cX7_append 46 = .ok (.iload_n 1, 1) := by decide +kernel
theorem dX7_append_47 : decode cX7_append 47 = .ok (.iastore, 1) := by decide +kernel
theorem dX7_append_48 : decode cX7_append 48 = .ok (.aload_n 0, 1) := by decide +kernel
theorem dX7_append_49 : decode cX7_append 49 = .ok (.dup, 1) := by decide +kernel
theorem dX7_append_50 : decode cX7_append 50 = .ok (.getfield 96, 3) := by decide +kernel
theorem dX7_append_53 : decode cX7_append 53 = .ok (.iconst 1, 1) := by decide +kernel
theorem dX7_append_54 : decode cX7_append 54 = .ok (.iadd, 1) := by decide +kernel
theorem dX7_append_55 : decode cX7_append 55 = .ok (.putfield 96, 3) := by decide +kernel
theorem dX7_append_58 : decode cX7_append 58 = .ok (.aload_n 0, 1) := by decide +kernel
theorem dX7_append_59 : decode cX7_append 59 = .ok (.getfield 96, 3) := by decide +kernel
theorem dX7_append_62 : decode cX7_append 62 = .ok (.ireturn, 1) := by decide +kernel
theorem dX7_clearBuffer_0 : decode cX7_clearBuffer 0 = .ok (.aload_n 0, 1) := by decide +kernel
theorem dX7_clearBuffer_1 : decode cX7_clearBuffer 1 = .ok (.iconst 0, 1) := by decide +kernel
theorem dX7_clearBuffer_2 : decode cX7_clearBuffer 2 = .ok (.putfield 34, 3) := by decide +kernel
theorem dX7_clearBuffer_5 : decode cX7_clearBuffer 5 = .ok (.aload_n 0, 1) := by decide +kernel
theorem dX7_clearBuffer_6 : decode cX7_clearBuffer 6 = .ok (.getfield 96, 3) := by decide +kernel
theorem dX7_clearBuffer_9 : decode cX7_clearBuffer 9 = .ok (.istore_n 1, 1) := by decide +kernel
theorem dX7_clearBuffer_10 : decode cX7_clearBuffer 10 = .ok (.aload_n 0, 1) := by decide +kernel
theorem dX7_clearBuffer_11 : decode cX7_clearBuffer 11 = .ok (.iconst 0, 1) := by decide +kernel
theorem dX7_clearBuffer_12 : decode cX7_clearBuffer 12 = .ok (.putfield 96, 3) := by decide +kernel
theorem dX7_clearBuffer_15 : decode cX7_clearBuffer 15 = .ok (.iload_n 1, 1) := by decide +kernel
theorem dX7_clearBuffer_16 : decode cX7_clearBuffer 16 = .ok (.ireturn, 1) := by decide +kernel
theorem dX7_keyOf_0 : decode cX7_keyOf 0 = .ok (.iload_n 0, 1) := by decide +kernel
theorem dX7_keyOf_1 : decode cX7_keyOf 1 = .ok (.tableswitch 119 97 116 #[103, 119, 119, 116, 107, 119, 119, 119, 119, 119, 99, 113, 119, 119, 105, 101, 119, 110, 95, 97], 95) := by decide +kernel
theorem dX7_keyOf_96 : decode cX7_keyOf 96 = .ok (.iconst 0, 1) := by decide +kernel
theorem dX7_keyOf_97 : decode cX7_keyOf 97 = .ok (.ireturn, 1) := by decide +kernel
theorem dX7_keyOf_98 : decode cX7_keyOf 98 = .ok (.iconst 1, 1) := by decide +kernel
theorem dX7_keyOf_99 : decode cX7_keyOf 99 = .ok (.ireturn, 1) := by decide +kernel
theorem dX7_keyOf_100 : decode cX7_keyOf 100 = .ok (.iconst 2, 1) := by decide +kernel
theorem dX7_keyOf_101 : decode cX7_keyOf 101 = .ok (.ireturn, 1) := by decide +kernel
theorem dX7_keyOf_102 : decode cX7_keyOf 102 = .ok (.iconst 3, 1) := by decide +kernel
theorem dX7_keyOf_103 : decode cX7_keyOf 103 = .ok (.ireturn, 1) := by decide +kernel
theorem dX7_keyOf_104 : decode cX7_keyOf 104 = .ok (.iconst 4, 1) := by decide +kernel
theorem dX7_keyOf_105 : decode cX7_keyOf 105 = .ok (.ireturn, 1) := by decide +kernel
theorem dX7_keyOf_106 : decode cX7_keyOf 106 = .ok (.iconst 5, 1) := by decide +kernel
theorem dX7_keyOf_107 : decode cX7_keyOf 107 = .ok (.ireturn, 1) := by decide +kernel
theorem dX7_keyOf_108 : decode cX7_keyOf 108 = .ok (.bipush 6, 2) := by decide +kernel
theorem dX7_keyOf_110 : decode cX7_keyOf 110 = .ok (.ireturn, 1) := by decide +kernel
theorem dX7_keyOf_111 : decode cX7_keyOf 111 = .ok (.bipush 7, 2) := by decide +kernel
theorem dX7_keyOf_113 : decode cX7_keyOf 113 = .ok (.ireturn, 1) := by decide +kernel
theorem dX7_keyOf_114 : decode cX7_keyOf 114 = .ok (.bipush 8, 2) := by decide +kernel
theorem dX7_keyOf_116 : decode cX7_keyOf 116 = .ok (.ireturn, 1) := by decide +kernel
theorem dX7_keyOf_117 : decode cX7_keyOf 117 = .ok (.bipush 9, 2) := by decide +kernel
theorem dX7_keyOf_119 : decode cX7_keyOf 119 = .ok (.ireturn, 1) := by decide +kernel
theorem dX7_keyOf_120 : decode cX7_keyOf 120 = .ok (.iconst (-1), 1) := by decide +kernel
theorem dX7_keyOf_121 : decode cX7_keyOf 121 = .ok (.ireturn, 1) := by decide +kernel
theorem dX7_readsStroke_0 : decode cX7_readsStroke 0 = .ok (.aload_n 0, 1) := by decide +kernel
theorem dX7_readsStroke_1 : decode cX7_readsStroke 1 = .ok (.getfield 119, 3) := by decide +kernel
theorem dX7_readsStroke_4 : decode cX7_readsStroke 4 = .ok (.aload_n 0, 1) := by decide +kernel
theorem dX7_readsStroke_5 : decode cX7_readsStroke 5 = .ok (.getfield 96, 3) := by decide +kernel
theorem dX7_readsStroke_8 : decode cX7_readsStroke 8 = .ok (.if_icmp .ge 29, 3) := by decide +kernel
theorem dX7_readsStroke_11 : decode cX7_readsStroke 11 = .ok (.aload_n 0, 1) := by decide +kernel
theorem dX7_readsStroke_12 : decode cX7_readsStroke 12 = .ok (.getfield 13, 3) := by decide +kernel
theorem dX7_readsStroke_15 : decode cX7_readsStroke 15 = .ok (.aload_n 0, 1) := by decide +kernel
theorem dX7_readsStroke_16 : decode cX7_readsStroke 16 = .ok (.getfield 119, 3) := by decide +kernel
theorem dX7_readsStroke_19 : decode cX7_readsStroke 19 = .ok (.iaload, 1) := by decide +kernel
theorem dX7_readsStroke_20 : decode cX7_readsStroke 20 = .ok (.bipush 42, 2) := by decide +kernel
theorem dX7_readsStroke_22 : decode cX7_readsStroke 22 = .ok (.if_icmp .ne 15, 3) := by decide +kernel
theorem dX7_readsStroke_25 : decode cX7_readsStroke 25 = .ok (.aload_n 0, 1) := by decide +kernel
theorem dX7_readsStroke_26 : decode cX7_readsStroke 26 = .ok (.dup, 1) := by decide +kernel
theorem dX7_readsStroke_27 : decode cX7_readsStroke 27 = .ok (.getfield 119, 3) := by decide +kernel
theorem dX7_readsStroke_30 : decode cX7_readsStroke 30 = .ok (.iconst 1, 1) := by decide +kernel
theorem dX7_readsStroke_31 : decode cX7_readsStroke 31 = .ok (.iadd, 1) := by decide +kernel
theorem dX7_readsStroke_32 : decode cX7_readsStroke 32 = .ok (.putfield 119, 3) := by decide +kernel
theorem dX7_readsStroke_35 : decode cX7_readsStroke 35 = .ok (.iconst 0, 1) := by decide +kernel
theorem dX7_readsStroke_36 : decode cX7_readsStroke 36 = .ok (.ireturn, 1) := by decide +kernel
theorem dX7_readsStroke_37 : decode cX7_readsStroke 37 = .ok (.iconst 0, 1) := by decide +kernel
theorem dX7_readsStroke_38 : decode cX7_readsStroke 38 = .ok (.istore_n 1, 1) := by decide +kernel
theorem dX7_readsStroke_39 : decode cX7_readsStroke 39 = .ok (.aload_n 0, 1) := by decide +kernel
theorem dX7_readsStroke_40 : decode cX7_readsStroke 40 = .ok (.getfield 119, 3) := by decide +kernel
theorem dX7_readsStroke_43 : decode cX7_readsStroke 43 = .ok (.aload_n 0, 1) := by decide +kernel
theorem dX7_readsStroke_44 : decode cX7_readsStroke 44 = .ok (.getfield 96, 3) := by decide +kernel
theorem dX7_readsStroke_47 : decode cX7_readsStroke 47 = .ok (.if_icmp .ge 66, 3) := by decide +kernel
theorem dX7_readsStroke_50 : decode cX7_readsStroke 50 = .ok (.aload_n 0, 1) := by decide +kernel
theorem dX7_readsStroke_51 : decode cX7_readsStroke 51 = .ok (.getfield 13, 3) := by decide +kernel
theorem dX7_readsStroke_54 : decode cX7_readsStroke 54 = .ok (.aload_n 0, 1) := by decide +kernel
theorem dX7_readsStroke_55 : decode cX7_readsStroke 55 = .ok (.getfield 119, 3) := by decide +kernel
theorem dX7_readsStroke_58 : decode cX7_readsStroke 58 = .ok (.iaload, 1) := by decide +kernel
theorem dX7_readsStroke_59 : decode cX7_readsStroke 59 = .ok (.invokestatic 122, 3) := by decide +kernel
theorem dX7_readsStroke_62 : decode cX7_readsStroke 62 = .ok (.iconst (-1), 1) := by decide +kernel
theorem dX7_readsStroke_63 : decode cX7_readsStroke 63 = .ok (.if_icmp .eq 50, 3) := by decide +kernel
theorem dX7_readsStroke_66 : decode cX7_readsStroke 66 = .ok (.iload_n 1, 1) := by decide +kernel
theorem dX7_readsStroke_67 : decode cX7_readsStroke 67 = .ok (.aload_n 0, 1) := by decide +kernel
theorem dX7_readsStroke_68 : decode cX7_readsStroke 68 = .ok (.getfield 13, 3) := by decide +kernel
theorem dX7_readsStroke_71 : decode cX7_readsStroke 71 = .ok (.aload_n 0, 1) := by decide +kernel
theorem dX7_readsStroke_72 : decode cX7_readsStroke 72 = .ok (.getfield 119, 3) := by decide +kernel
theorem dX7_readsStroke_75 : decode cX7_readsStroke 75 = .ok (.iaload, 1) := by decide +kernel
theorem dX7_readsStroke_76 : decode cX7_readsStroke 76 = .ok (.invokestatic 122, 3) := by decide +kernel
theorem dX7_readsStroke_79 : decode cX7_readsStroke 79 = .ok (.ishr, 1) := by decide +kernel
theorem dX7_readsStroke_80 : decode cX7_readsStroke 80 = .ok (.ifCond .ne 33, 3) := by decide +kernel
theorem dX7_readsStroke_83 : decode cX7_readsStroke 83 = .ok (.iload_n 1, 1) := by decide +kernel
theorem dX7_readsStroke_84 : decode cX7_readsStroke 84 = .ok (.iconst 1, 1) := by decide +kernel
theorem dX7_readsStroke_85 : decode cX7_readsStroke 85 = .ok (.aload_n 0, 1) := by decide +kernel
theorem dX7_readsStroke_86 : decode cX7_readsStroke 86 = .ok (.getfield 13, 3) := by decide +kernel
theorem dX7_readsStroke_89 : decode cX7_readsStroke 89 = .ok (.aload_n 0, 1) := by decide +kernel
theorem dX7_readsStroke_90 : decode cX7_readsStroke 90 = .ok (.getfield 119, 3) := by decide +kernel
theorem dX7_readsStroke_93 : decode cX7_readsStroke 93 = .ok (.iaload, 1) := by decide +kernel
theorem dX7_readsStroke_94 : decode cX7_readsStroke 94 = .ok (.invokestatic 122, 3) := by decide +kernel
theorem dX7_readsStroke_97 : decode cX7_readsStroke 97 = .ok (.ishl, 1) := by decide +kernel
theorem dX7_readsStroke_98 : decode cX7_readsStroke 98 = .ok (.iadd, 1) := by decide +kernel
theorem dX7_readsStroke_99 : decode cX7_readsStroke 99 = .ok (.istore_n 1, 1) := by decide +kernel
theorem dX7_readsStroke_100 : decode cX7_readsStroke 100 = .ok (.aload_n 0, 1) := by decide +kernel
theorem dX7_readsStroke_101 : decode cX7_readsStroke 101 = .ok (.dup, 1) := by decide +kernel
theorem dX7_readsStroke_102 : decode cX7_readsStroke 102 = .ok (.getfield 119, 3) := by decide +kernel
theorem dX7_readsStroke_105 : decode cX7_readsStroke 105 = .ok (.iconst 1, 1) := by decide +kernel
theorem dX7_readsStroke_106 : decode cX7_readsStroke 106 = .ok (.iadd, 1) := by decide +kernel
theorem dX7_readsStroke_107 : decode cX7_readsStroke 107 = .ok (.putfield 119, 3) := by decide +kernel
theorem dX7_readsStroke_110 : decode cX7_readsStroke 110 = .ok (.goto (-71), 3) := by decide +kernel
theorem dX7_readsStroke_113 : decode cX7_readsStroke 113 = .ok (.iload_n 1, 1) := by decide +kernel
theorem dX7_readsStroke_114 : decode cX7_readsStroke 114 = .ok (.ifCond .ne 7, 3) := by decide +kernel
theorem dX7_readsStroke_117 : decode cX7_readsStroke 117 = .ok (.iconst (-1), 1) := by decide +kernel
theorem dX7_readsStroke_118 : decode cX7_readsStroke 118 = .ok (.goto 4, 3) := by decide +kernel
theorem dX7_readsStroke_121 : decode cX7_readsStroke 121 = .ok (.iload_n 1, 1) := by decide +kernel
theorem dX7_readsStroke_122 : decode cX7_readsStroke 122 = .ok (.ireturn, 1) := by decide +kernel
theorem dX7_areStrokes_0 : decode cX7_areStrokes 0 = .ok (.aload_n 0, 1) := by decide +kernel
theorem dX7_areStrokes_1 : decode cX7_areStrokes 1 = .ok (.iconst 0, 1) := by decide +kernel
theorem dX7_areStrokes_2 : decode cX7_areStrokes 2 = .ok (.putfield 119, 3) := by decide +kernel
theorem dX7_areStrokes_5 : decode cX7_areStrokes 5 = .ok (.aload_n 0, 1) := by decide +kernel
theorem dX7_areStrokes_6 : decode cX7_areStrokes 6 = .ok (.iconst 0, 1) := by decide +kernel
theorem dX7_areStrokes_7 : decode cX7_areStrokes 7 = .ok (.putfield 93, 3) := by decide +kernel
theorem dX7_areStrokes_10 : decode cX7_areStrokes 10 = .ok (.aload_n 0, 1) := by decide +kernel
theorem dX7_areStrokes_11 : decode cX7_areStrokes 11 = .ok (.invokevirtual 125, 3) := by decide +kernel
theorem dX7_areStrokes_14 : decode cX7_areStrokes 14 = .ok (.istore_n 1, 1) := by decide +kernel
theorem dX7_areStrokes_15 : decode cX7_areStrokes 15 = .ok (.iload_n 1, 1) := by decide +kernel
theorem dX7_areStrokes_16 : decode cX7_areStrokes 16 = .ok (.iconst (-1), 1) := by decide +kernel
theorem dX7_areStrokes_17 : decode cX7_areStrokes 17 = .ok (.if_icmp .eq 70, 3) := by decide +kernel
theorem dX7_areStrokes_20 : decode cX7_areStrokes 20 = .ok (.aload_n 0, 1) := by decide +kernel
theorem dX7_areStrokes_21 : decode cX7_areStrokes 21 = .ok (.getfield 16, 3) := by decide +kernel
theorem dX7_areStrokes_24 : decode cX7_areStrokes 24 = .ok (.aload_n 0, 1) := by decide +kernel
theorem dX7_areStrokes_25 : decode cX7_areStrokes 25 = .ok (.getfield 93, 3) := by decide +kernel
theorem dX7_areStrokes_28 : decode cX7_areStrokes 28 = .ok (.iload_n 1, 1) := by decide +kernel
theorem dX7_areStrokes_29 : decode cX7_areStrokes 29 = .ok (.iastore, 1) := by decide +kernel
theorem dX7_areStrokes_30 : decode cX7_areStrokes 30 = .ok (.aload_n 0, 1) := by decide +kernel
theorem dX7_areStrokes_31 : decode cX7_areStrokes 31 = .ok (.dup, 1) := by decide +kernel
theorem dX7_areStrokes_32 : decode cX7_areStrokes 32 = .ok (.getfield 93, 3) := by decide +kernel
theorem dX7_areStrokes_35 : decode cX7_areStrokes 35 = .ok (.iconst 1, 1) := by decide +kernel
theorem dX7_areStrokes_36 : decode cX7_areStrokes 36 = .ok (.iadd, 1) := by decide +kernel
theorem dX7_areStrokes_37 : decode cX7_areStrokes 37 = .ok (.putfield 93, 3) := by decide +kernel
theorem dX7_areStrokes_40 : decode cX7_areStrokes 40 = .ok (.aload_n 0, 1) := by decide +kernel
theorem dX7_areStrokes_41 : decode cX7_areStrokes 41 = .ok (.getfield 119, 3) := by decide +kernel
theorem dX7_areStrokes_44 : decode cX7_areStrokes 44 = .ok (.aload_n 0, 1) := by decide +kernel
theorem dX7_areStrokes_45 : decode cX7_areStrokes 45 = .ok (.getfield 96, 3) := by decide +kernel
theorem dX7_areStrokes_48 : decode cX7_areStrokes 48 = .ok (.if_icmp .ne 5, 3) := by decide +kernel
theorem dX7_areStrokes_51 : decode cX7_areStrokes 51 = .ok (.iconst 1, 1) := by decide +kernel
theorem dX7_areStrokes_52 : decode cX7_areStrokes 52 = .ok (.ireturn, 1) := by decide +kernel
theorem dX7_areStrokes_53 : decode cX7_areStrokes 53 = .ok (.aload_n 0, 1) := by decide +kernel
theorem dX7_areStrokes_54 : decode cX7_areStrokes 54 = .ok (.getfield 13, 3) := by decide +kernel
theorem dX7_areStrokes_57 : decode cX7_areStrokes 57 = .ok (.aload_n 0, 1) := by decide +kernel
theorem dX7_areStrokes_58 : decode cX7_areStrokes 58 = .ok (.getfield 119, 3) := by decide +kernel
theorem dX7_areStrokes_61 : decode cX7_areStrokes 61 = .ok (.iaload, 1) := by decide +kernel
theorem dX7_areStrokes_62 : decode cX7_areStrokes 62 = .ok (.bipush 47, 2) := by decide +kernel
theorem dX7_areStrokes_64 : decode cX7_areStrokes 64 = .ok (.if_icmp .eq 5, 3) := by decide +kernel
theorem dX7_areStrokes_67 : decode cX7_areStrokes 67 = .ok (.iconst 0, 1) := by decide +kernel
theorem dX7_areStrokes_68 : decode cX7_areStrokes 68 = .ok (.ireturn, 1) := by decide +kernel
theorem dX7_areStrokes_69 : decode cX7_areStrokes 69 = .ok (.aload_n 0, 1) := by decide +kernel
theorem dX7_areStrokes_70 : decode cX7_areStrokes 70 = .ok (.dup, 1) := by decide +kernel
theorem dX7_areStrokes_71 : decode cX7_areStrokes 71 = .ok (.getfield 119, 3) := by decide +kernel
theorem dX7_areStrokes_74 : decode cX7_areStrokes 74 = .ok (.iconst 1, 1) := by decide +kernel
theorem dX7_areStrokes_75 : decode cX7_areStrokes 75 = .ok (.iadd, 1) := by decide +kernel
theorem dX7_areStrokes_76 : decode cX7_areStrokes 76 = .ok (.putfield 119, 3) := by decide +kernel
theorem dX7_areStrokes_79 : decode cX7_areStrokes 79 = .ok (.aload_n 0, 1) := by decide +kernel
theorem dX7_areStrokes_80 : decode cX7_areStrokes 80 = .ok (.invokevirtual 125, 3) := by decide +kernel
theorem dX7_areStrokes_83 : decode cX7_areStrokes 83 = .ok (.istore_n 1, 1) := by decide +kernel
theorem dX7_areStrokes_84 : decode cX7_areStrokes 84 = .ok (.goto (-69), 3) := by decide +kernel
theorem dX7_areStrokes_87 : decode cX7_areStrokes 87 = .ok (.iconst 0, 1) := by decide +kernel
theorem dX7_areStrokes_88 : decode cX7_areStrokes 88 = .ok (.ireturn, 1) := by decide +kernel
theorem dX7_firstError_0 : decode cX7_firstError 0 = .ok (.aload_n 0, 1) := by decide +kernel
theorem dX7_firstError_1 : decode cX7_firstError 1 = .ok (.iconst 0, 1) := by decide +kernel
theorem dX7_firstError_2 : decode cX7_firstError 2 = .ok (.putfield 34, 3) := by decide +kernel
theorem dX7_firstError_5 : decode cX7_firstError 5 = .ok (.aload_n 0, 1) := by decide +kernel
theorem dX7_firstError_6 : decode cX7_firstError 6 = .ok (.invokevirtual 89, 3) := by decide +kernel
theorem dX7_firstError_9 : decode cX7_firstError 9 = .ok (.pop, 1) := by decide +kernel
theorem dX7_firstError_10 : decode cX7_firstError 10 = .ok (.aload_n 0, 1) := by decide +kernel
theorem dX7_firstError_11 : decode cX7_firstError 11 = .ok (.getfield 119, 3) := by decide +kernel
theorem dX7_firstError_14 : decode cX7_firstError 14 = .ok (.ireturn, 1) := by decide +kernel
theorem dX7_keep_0 : decode cX7_keep 0 = .ok (.aload_n 0, 1) := by decide +kernel
theorem dX7_keep_1 : decode cX7_keep 1 = .ok (.iconst 0, 1) := by decide +kernel
theorem dX7_keep_2 : decode cX7_keep 2 = .ok (.putfield 34, 3) := by decide +kernel
theorem dX7_keep_5 : decode cX7_keep 5 = .ok (.aload_n 0, 1) := by decide +kernel
theorem dX7_keep_6 : decode cX7_keep 6 = .ok (.iconst 0, 1) := by decide +kernel
theorem dX7_keep_7 : decode cX7_keep 7 = .ok (.bipush 7, 2) := by decide +kernel
theorem dX7_keep_9 : decode cX7_keep 9 = .ok (.invokevirtual 109, 3) := by decide +kernel
theorem dX7_keep_12 : decode cX7_keep 12 = .ok (.aload_n 0, 1) := by decide +kernel
theorem dX7_keep_13 : decode cX7_keep 13 = .ok (.iconst 1, 1) := by decide +kernel
theorem dX7_keep_14 : decode cX7_keep 14 = .ok (.putfield 129, 3) := by decide +kernel
theorem dX7_keep_17 : decode cX7_keep 17 = .ok (.aload_n 0, 1) := by decide +kernel
theorem dX7_keep_18 : decode cX7_keep 18 = .ok (.getfield 7, 3) := by decide +kernel
theorem dX7_keep_21 : decode cX7_keep 21 = .ok (.iconst 0, 1) := by decide +kernel
theorem dX7_keep_22 : decode cX7_keep 22 = .ok (.iaload, 1) := by decide +kernel
theorem dX7_keep_23 : decode cX7_keep 23 = .ok (.ireturn, 1) := by decide +kernel
theorem dX7_goBack_0 : decode cX7_goBack 0 = .ok (.aload_n 0, 1) := by decide +kernel
theorem dX7_goBack_1 : decode cX7_goBack 1 = .ok (.aload_n 0, 1) := by decide +kernel
theorem dX7_goBack_2 : decode cX7_goBack 2 = .ok (.getfield 129, 3) := by decide +kernel
theorem dX7_goBack_5 : decode cX7_goBack 5 = .ok (.ifCond .eq 7, 3) := by decide +kernel
theorem dX7_goBack_8 : decode cX7_goBack 8 = .ok (.iconst 0, 1) := by decide +kernel
theorem dX7_goBack_9 : decode cX7_goBack 9 = .ok (.goto 4, 3) := by decide +kernel
theorem dX7_goBack_12 : decode cX7_goBack 12 = .ok (.iconst 1, 1) := by decide +kernel
theorem dX7_goBack_13 : decode cX7_goBack 13 = .ok (.invokevirtual 79, 3) := by decide +kernel
theorem dX7_goBack_16 : decode cX7_goBack 16 = .ok (.ifCond .ne 5, 3) := by decide +kernel
theorem dX7_goBack_19 : decode cX7_goBack 19 = .ok (.iconst 0, 1) := by decide +kernel
theorem dX7_goBack_20 : decode cX7_goBack 20 = .ok (.ireturn, 1) := by decide +kernel
theorem dX7_goBack_21 : decode cX7_goBack 21 = .ok (.aload_n 0, 1) := by decide +kernel
theorem dX7_goBack_22 : decode cX7_goBack 22 = .ok (.invokevirtual 82, 3) := by decide +kernel
theorem dX7_goBack_25 : decode cX7_goBack 25 = .ok (.aload_n 0, 1) := by decide +kernel
theorem dX7_goBack_26 : decode cX7_goBack 26 = .ok (.bipush 7, 2) := by decide +kernel
theorem dX7_goBack_28 : decode cX7_goBack 28 = .ok (.iconst 0, 1) := by decide +kernel
theorem dX7_goBack_29 : decode cX7_goBack 29 = .ok (.invokevirtual 109, 3) := by decide +kernel
theorem dX7_goBack_32 : decode cX7_goBack 32 = .ok (.aload_n 0, 1) := by decide +kernel
theorem dX7_goBack_33 : decode cX7_goBack 33 = .ok (.getfield 7, 3) := by decide +kernel
theorem dX7_goBack_36 : decode cX7_goBack 36 = .ok (.iconst 0, 1) := by decide +kernel
theorem dX7_goBack_37 : decode cX7_goBack 37 = .ok (.iaload, 1) := by decide +kernel
theorem dX7_goBack_38 : decode cX7_goBack 38 = .ok (.ireturn, 1) := by decide +kernel
theorem dX7_undo_0 : decode cX7_undo 0 = .ok (.aload_n 0, 1) := by decide +kernel
theorem dX7_undo_1 : decode cX7_undo 1 = .ok (.aload_n 0, 1) := by decide +kernel
theorem dX7_undo_2 : decode cX7_undo 2 = .ok (.getfield 106, 3) := by decide +kernel
theorem dX7_undo_5 : decode cX7_undo 5 = .ok (.ifCond .le 7, 3) := by decide +kernel
theorem dX7_undo_8 : decode cX7_undo 8 = .ok (.iconst 0, 1) := by decide +kernel
theorem dX7_undo_9 : decode cX7_undo 9 = .ok (.goto 4, 3) := by decide +kernel
theorem dX7_undo_12 : decode cX7_undo 12 = .ok (.iconst 1, 1) := by decide +kernel
theorem dX7_undo_13 : decode cX7_undo 13 = .ok (.invokevirtual 79, 3) := by decide +kernel
theorem dX7_undo_16 : decode cX7_undo 16 = .ok (.ifCond .ne 5, 3) := by decide +kernel
theorem dX7_undo_19 : decode cX7_undo 19 = .ok (.iconst 0, 1) := by decide +kernel
theorem dX7_undo_20 : decode cX7_undo 20 = .ok (.ireturn, 1) := by decide +kernel
theorem dX7_undo_21 : decode cX7_undo 21 = .ok (.aload_n 0, 1) := by decide +kernel
theorem dX7_undo_22 : decode cX7_undo 22 = .ok (.aload_n 0, 1) := by decide +kernel
theorem dX7_undo_23 : decode cX7_undo 23 = .ok (.getfield 106, 3) := by decide +kernel
theorem dX7_undo_26 : decode cX7_undo 26 = .ok (.iconst 0, 1) := by decide +kernel
theorem dX7_undo_27 : decode cX7_undo 27 = .ok (.invokevirtual 109, 3) := by decide +kernel
theorem dX7_undo_30 : decode cX7_undo 30 = .ok (.aload_n 0, 1) := by decide +kernel
theorem dX7_undo_31 : decode cX7_undo 31 = .ok (.dup, 1) := by decide +kernel
theorem dX7_undo_32 : decode cX7_undo 32 = .ok (.getfield 106, 3) := by decide +kernel
theorem dX7_undo_35 : decode cX7_undo 35 = .ok (.iconst 1, 1) := by decide +kernel
theorem dX7_undo_36 : decode cX7_undo 36 = .ok (.isub, 1) := by decide +kernel
theorem dX7_undo_37 : decode cX7_undo 37 = .ok (.putfield 106, 3) := by decide +kernel
theorem dX7_undo_40 : decode cX7_undo 40 = .ok (.aload_n 0, 1) := by decide +kernel
theorem dX7_undo_41 : decode cX7_undo 41 = .ok (.getfield 106, 3) := by decide +kernel
theorem dX7_undo_44 : decode cX7_undo 44 = .ok (.ireturn, 1) := by decide +kernel
theorem dX7_stroke_0 : decode cX7_stroke 0 = .ok (.aload_n 0, 1) := by decide +kernel
theorem dX7_stroke_1 : decode cX7_stroke 1 = .ok (.iload_n 1, 1) := by decide +kernel
theorem dX7_stroke_2 : decode cX7_stroke 2 = .ok (.iconst 0, 1) := by decide +kernel
theorem dX7_stroke_3 : decode cX7_stroke 3 = .ok (.aload_n 0, 1) := by decide +kernel
theorem dX7_stroke_4 : decode cX7_stroke 4 = .ok (.getfield 7, 3) := by decide +kernel
theorem dX7_stroke_7 : decode cX7_stroke 7 = .ok (.iconst 0, 1) := by decide +kernel
theorem dX7_stroke_8 : decode cX7_stroke 8 = .ok (.iaload, 1) := by decide +kernel
theorem dX7_stroke_9 : decode cX7_stroke 9 = .ok (.iconst 1, 1) := by decide +kernel
theorem dX7_stroke_10 : decode cX7_stroke 10 = .ok (.isub, 1) := by decide +kernel
theorem dX7_stroke_11 : decode cX7_stroke 11 = .ok (.invokestatic 38, 3) := by decide +kernel
theorem dX7_stroke_14 : decode cX7_stroke 14 = .ok (.ifCond .eq 7, 3) := by decide +kernel
theorem dX7_stroke_17 : decode cX7_stroke 17 = .ok (.iconst 0, 1) := by decide +kernel
theorem dX7_stroke_18 : decode cX7_stroke 18 = .ok (.goto 4, 3) := by decide +kernel
theorem dX7_stroke_21 : decode cX7_stroke 21 = .ok (.iconst 1, 1) := by decide +kernel
theorem dX7_stroke_22 : decode cX7_stroke 22 = .ok (.invokevirtual 79, 3) := by decide +kernel
theorem dX7_stroke_25 : decode cX7_stroke 25 = .ok (.ifCond .eq 15, 3) := by decide +kernel
theorem dX7_stroke_28 : decode cX7_stroke 28 = .ok (.aload_n 0, 1) := by decide +kernel
theorem dX7_stroke_29 : decode cX7_stroke 29 = .ok (.getfield 7, 3) := by decide +kernel
theorem dX7_stroke_32 : decode cX7_stroke 32 = .ok (.bipush 8, 2) := by decide +kernel
theorem dX7_stroke_34 : decode cX7_stroke 34 = .ok (.iload_n 1, 1) := by decide +kernel
theorem dX7_stroke_35 : decode cX7_stroke 35 = .ok (.iadd, 1) := by decide +kernel
theorem dX7_stroke_36 : decode cX7_stroke 36 = .ok (.iaload, 1) := by decide +kernel
theorem dX7_stroke_37 : decode cX7_stroke 37 = .ok (.goto 4, 3) := by decide +kernel
theorem dX7_stroke_40 : decode cX7_stroke 40 = .ok (.iconst 0, 1) := by decide +kernel
theorem dX7_stroke_41 : decode cX7_stroke 41 = .ok (.ireturn, 1) := by decide +kernel
theorem dX7_ofItem_0 : decode cX7_ofItem 0 = .ok (.iload_n 2, 1) := by decide +kernel
theorem dX7_ofItem_1 : decode cX7_ofItem 1 = .ok (.tableswitch 58 0 3 #[31, 37, 44, 51], 31) := by decide +kernel
theorem dX7_ofItem_32 : decode cX7_ofItem 32 = .ok (.aload_n 0, 1) := by decide +kernel
theorem dX7_ofItem_33 : decode cX7_ofItem 33 = .ok (.iload_n 1, 1) := by decide +kernel
theorem dX7_ofItem_34 : decode cX7_ofItem 34 = .ok (.invokevirtual 133, 3) := by decide +kernel
theorem dX7_ofItem_37 : decode cX7_ofItem 37 = .ok (.ireturn, 1) := by decide +kernel
theorem dX7_ofItem_38 : decode cX7_ofItem 38 = .ok (.aload_n 0, 1) := by decide +kernel
theorem dX7_ofItem_39 : decode cX7_ofItem 39 = .ok (.getfield 22, 3) := by decide +kernel
theorem dX7_ofItem_42 : decode cX7_ofItem 42 = .ok (.iload_n 1, 1) := by decide +kernel
theorem dX7_ofItem_43 : decode cX7_ofItem 43 = .ok (.iaload, 1) := by decide +kernel
theorem dX7_ofItem_44 : decode cX7_ofItem 44 = .ok (.ireturn, 1) := by decide +kernel
theorem dX7_ofItem_45 : decode cX7_ofItem 45 = .ok (.aload_n 0, 1) := by decide +kernel
theorem dX7_ofItem_46 : decode cX7_ofItem 46 = .ok (.getfield 25, 3) := by decide +kernel
theorem dX7_ofItem_49 : decode cX7_ofItem 49 = .ok (.iload_n 1, 1) := by decide +kernel
theorem dX7_ofItem_50 : decode cX7_ofItem 50 = .ok (.iaload, 1) := by decide +kernel
theorem dX7_ofItem_51 : decode cX7_ofItem 51 = .ok (.ireturn, 1) := by decide +kernel
theorem dX7_ofItem_52 : decode cX7_ofItem 52 = .ok (.aload_n 0, 1) := by decide +kernel
theorem dX7_ofItem_53 : decode cX7_ofItem 53 = .ok (.getfield 28, 3) := by decide +kernel
theorem dX7_ofItem_56 : decode cX7_ofItem 56 = .ok (.iload_n 1, 1) := by decide +kernel
theorem dX7_ofItem_57 : decode cX7_ofItem 57 = .ok (.iaload, 1) := by decide +kernel
theorem dX7_ofItem_58 : decode cX7_ofItem 58 = .ok (.ireturn, 1) := by decide +kernel
theorem dX7_ofItem_59 : decode cX7_ofItem 59 = .ok (.iconst 0, 1) := by decide +kernel
theorem dX7_ofItem_60 : decode cX7_ofItem 60 = .ok (.istore_n 3, 1) := by decide +kernel
theorem dX7_ofItem_61 : decode cX7_ofItem 61 = .ok (.iconst 0, 1) := by decide +kernel
theorem dX7_ofItem_62 : decode cX7_ofItem 62 = .ok (.istore 4, 2) := by decide +kernel
theorem dX7_ofItem_64 : decode cX7_ofItem 64 = .ok (.iload 4, 2) := by decide +kernel
theorem dX7_ofItem_66 : decode cX7_ofItem 66 = .ok (.aload_n 0, 1) := by decide +kernel
theorem dX7_ofItem_67 : decode cX7_ofItem 67 = .ok (.getfield 7, 3) := by decide +kernel
theorem dX7_ofItem_70 : decode cX7_ofItem 70 = .ok (.iconst 1, 1) := by decide +kernel
theorem dX7_ofItem_71 : decode cX7_ofItem 71 = .ok (.iaload, 1) := by decide +kernel
theorem dX7_ofItem_72 : decode cX7_ofItem 72 = .ok (.if_icmp .ge 42, 3) := by decide +kernel
theorem dX7_ofItem_75 : decode cX7_ofItem 75 = .ok (.iload_n 3, 1) := by decide +kernel
theorem dX7_ofItem_76 : decode cX7_ofItem 76 = .ok (.aload_n 0, 1) := by decide +kernel
theorem dX7_ofItem_77 : decode cX7_ofItem 77 = .ok (.getfield 28, 3) := by decide +kernel
theorem dX7_ofItem_80 : decode cX7_ofItem 80 = .ok (.iload_n 1, 1) := by decide +kernel
theorem dX7_ofItem_81 : decode cX7_ofItem 81 = .ok (.iaload, 1) := by decide +kernel
theorem dX7_ofItem_82 : decode cX7_ofItem 82 = .ok (.iconst (-1), 1) := by decide +kernel
theorem dX7_ofItem_83 : decode cX7_ofItem 83 = .ok (.if_icmp .eq 22, 3) := by decide +kernel
theorem dX7_ofItem_86 : decode cX7_ofItem 86 = .ok (.aload_n 0, 1) := by decide +kernel
theorem dX7_ofItem_87 : decode cX7_ofItem 87 = .ok (.iload 4, 2) := by decide +kernel
theorem dX7_ofItem_89 : decode cX7_ofItem 89 = .ok (.aload_n 0, 1) := by decide +kernel
theorem dX7_ofItem_90 : decode cX7_ofItem 90 = .ok (.getfield 28, 3) := by decide +kernel
theorem dX7_ofItem_93 : decode cX7_ofItem 93 = .ok (.iload_n 1, 1) := by decide +kernel
theorem dX7_ofItem_94 : decode cX7_ofItem 94 = .ok (.iaload, 1) := by decide +kernel
theorem dX7_ofItem_95 : decode cX7_ofItem 95 = .ok (.invokevirtual 46, 3) := by decide +kernel
theorem dX7_ofItem_98 : decode cX7_ofItem 98 = .ok (.ifCond .eq 7, 3) := by decide +kernel
theorem dX7_ofItem_101 : decode cX7_ofItem 101 = .ok (.iconst 1, 1) := by decide +kernel
theorem dX7_ofItem_102 : decode cX7_ofItem 102 = .ok (.goto 4, 3) := by decide +kernel
theorem dX7_ofItem_105 : decode cX7_ofItem 105 = .ok (.iconst 0, 1) := by decide +kernel
theorem dX7_ofItem_106 : decode cX7_ofItem 106 = .ok (.iadd, 1) := by decide +kernel
theorem dX7_ofItem_107 : decode cX7_ofItem 107 = .ok (.istore_n 3, 1) := by decide +kernel
theorem dX7_ofItem_108 : decode cX7_ofItem 108 = .ok (.iinc 4 1, 3) := by decide +kernel
theorem dX7_ofItem_111 : decode cX7_ofItem 111 = .ok (.goto (-47), 3) := by decide +kernel
theorem dX7_ofItem_114 : decode cX7_ofItem 114 = .ok (.iload_n 3, 1) := by decide +kernel
theorem dX7_ofItem_115 : decode cX7_ofItem 115 = .ok (.ireturn, 1) := by decide +kernel
theorem dX7_item_0 : decode cX7_item 0 = .ok (.aload_n 0, 1) := by decide +kernel
theorem dX7_item_1 : decode cX7_item 1 = .ok (.invokevirtual 73, 3) := by decide +kernel
theorem dX7_item_4 : decode cX7_item 4 = .ok (.aload_n 0, 1) := by decide +kernel
theorem dX7_item_5 : decode cX7_item 5 = .ok (.iload_n 1, 1) := by decide +kernel
theorem dX7_item_6 : decode cX7_item 6 = .ok (.iconst 0, 1) := by decide +kernel
theorem dX7_item_7 : decode cX7_item 7 = .ok (.aload_n 0, 1) := by decide +kernel
theorem dX7_item_8 : decode cX7_item 8 = .ok (.getfield 64, 3) := by decide +kernel
theorem dX7_item_11 : decode cX7_item 11 = .ok (.iconst 1, 1) := by decide +kernel
theorem dX7_item_12 : decode cX7_item 12 = .ok (.isub, 1) := by decide +kernel
theorem dX7_item_13 : decode cX7_item 13 = .ok (.invokestatic 38, 3) := by decide +kernel
theorem dX7_item_16 : decode cX7_item 16 = .ok (.ifCond .ne 7, 3) := by decide +kernel
theorem dX7_item_19 : decode cX7_item 19 = .ok (.iconst 1, 1) := by decide +kernel
theorem dX7_item_20 : decode cX7_item 20 = .ok (.goto 17, 3) := by decide +kernel
theorem dX7_item_23 : decode cX7_item 23 = .ok (.iload_n 2, 1) := by decide +kernel
theorem dX7_item_24 : decode cX7_item 24 = .ok (.iconst 0, 1) := by decide +kernel
theorem dX7_item_25 : decode cX7_item 25 = .ok (.iconst 4, 1) := by decide +kernel
theorem dX7_item_26 : decode cX7_item 26 = .ok (.invokestatic 38, 3) := by decide +kernel
theorem dX7_item_29 : decode cX7_item 29 = .ok (.ifCond .ne 7, 3) := by decide +kernel
theorem dX7_item_32 : decode cX7_item 32 = .ok (.iconst 2, 1) := by decide +kernel
theorem dX7_item_33 : decode cX7_item 33 = .ok (.goto 4, 3) := by decide +kernel
theorem dX7_item_36 : decode cX7_item 36 = .ok (.iconst 0, 1) := by decide +kernel
theorem dX7_item_37 : decode cX7_item 37 = .ok (.invokevirtual 79, 3) := by decide +kernel
theorem dX7_item_40 : decode cX7_item 40 = .ok (.ifCond .eq 12, 3) := by decide +kernel
theorem dX7_item_43 : decode cX7_item 43 = .ok (.aload_n 0, 1) := by decide +kernel
theorem dX7_item_44 : decode cX7_item 44 = .ok (.iload_n 1, 1) := by decide +kernel
theorem dX7_item_45 : decode cX7_item 45 = .ok (.iload_n 2, 1) := by decide +kernel
theorem dX7_item_46 : decode cX7_item 46 = .ok (.invokevirtual 136, 3) := by decide +kernel
theorem dX7_item_49 : decode cX7_item 49 = .ok (.goto 4, 3) := by decide +kernel
theorem dX7_item_52 : decode cX7_item 52 = .ok (.iconst 0, 1) := by decide +kernel
theorem dX7_item_53 : decode cX7_item 53 = .ok (.ireturn, 1) := by decide +kernel
theorem dX7_standing_0 : decode cX7_standing 0 = .ok (.iconst 0, 1) := by decide +kernel
theorem dX7_standing_1 : decode cX7_standing 1 = .ok (.istore_n 2, 1) := by decide +kernel
theorem dX7_standing_2 : decode cX7_standing 2 = .ok (.iconst 0, 1) := by decide +kernel
theorem dX7_standing_3 : decode cX7_standing 3 = .ok (.istore_n 3, 1) := by decide +kernel
theorem dX7_standing_4 : decode cX7_standing 4 = .ok (.iload_n 3, 1) := by decide +kernel
theorem dX7_standing_5 : decode cX7_standing 5 = .ok (.aload_n 0, 1) := by decide +kernel
theorem dX7_standing_6 : decode cX7_standing 6 = .ok (.getfield 64, 3) := by decide +kernel
theorem dX7_standing_9 : decode cX7_standing 9 = .ok (.if_icmp .ge 27, 3) := by decide +kernel
theorem dX7_standing_12 : decode cX7_standing 12 = .ok (.iload_n 2, 1) := by decide +kernel
theorem dX7_standing_13 : decode cX7_standing 13 = .ok (.aload_n 0, 1) := by decide +kernel
theorem dX7_standing_14 : decode cX7_standing 14 = .ok (.getfield 28, 3) := by decide +kernel
theorem dX7_standing_17 : decode cX7_standing 17 = .ok (.iload_n 3, 1) := by decide +kernel
theorem dX7_standing_18 : decode cX7_standing 18 = .ok (.iaload, 1) := by decide +kernel
theorem dX7_standing_19 : decode cX7_standing 19 = .ok (.iload_n 1, 1) := by decide +kernel
theorem dX7_standing_20 : decode cX7_standing 20 = .ok (.if_icmp .ne 7, 3) := by decide +kernel
theorem dX7_standing_23 : decode cX7_standing 23 = .ok (.iconst 1, 1) := by decide +kernel
theorem dX7_standing_24 : decode cX7_standing 24 = .ok (.goto 4, 3) := by decide +kernel
theorem dX7_standing_27 : decode cX7_standing 27 = .ok (.iconst 0, 1) := by decide +kernel
theorem dX7_standing_28 : decode cX7_standing 28 = .ok (.iadd, 1) := by decide +kernel
theorem dX7_standing_29 : decode cX7_standing 29 = .ok (.istore_n 2, 1) := by decide +kernel
theorem dX7_standing_30 : decode cX7_standing 30 = .ok (.iinc 3 1, 3) := by decide +kernel
theorem dX7_standing_33 : decode cX7_standing 33 = .ok (.goto (-29), 3) := by decide +kernel
theorem dX7_standing_36 : decode cX7_standing 36 = .ok (.iload_n 2, 1) := by decide +kernel
theorem dX7_standing_37 : decode cX7_standing 37 = .ok (.ireturn, 1) := by decide +kernel
theorem dX7_ofEntry_0 : decode cX7_ofEntry 0 = .ok (.iload_n 2, 1) := by decide +kernel
theorem dX7_ofEntry_1 : decode cX7_ofEntry 1 = .ok (.tableswitch 103 0 9 #[55, 62, 103, 103, 103, 103, 69, 77, 91, 97], 55) := by decide +kernel
theorem dX7_ofEntry_56 : decode cX7_ofEntry 56 = .ok (.aload_n 0, 1) := by decide +kernel
theorem dX7_ofEntry_57 : decode cX7_ofEntry 57 = .ok (.iload_n 1, 1) := by decide +kernel
theorem dX7_ofEntry_58 : decode cX7_ofEntry 58 = .ok (.iconst 5, 1) := by decide +kernel
theorem dX7_ofEntry_59 : decode cX7_ofEntry 59 = .ok (.invokevirtual 42, 3) := by decide +kernel
theorem dX7_ofEntry_62 : decode cX7_ofEntry 62 = .ok (.ireturn, 1) := by decide +kernel
theorem dX7_ofEntry_63 : decode cX7_ofEntry 63 = .ok (.aload_n 0, 1) := by decide +kernel
theorem dX7_ofEntry_64 : decode cX7_ofEntry 64 = .ok (.iload_n 1, 1) := by decide +kernel
theorem dX7_ofEntry_65 : decode cX7_ofEntry 65 = .ok (.iconst 0, 1) := by decide +kernel
theorem dX7_ofEntry_66 : decode cX7_ofEntry 66 = .ok (.invokevirtual 42, 3) := by decide +kernel
theorem dX7_ofEntry_69 : decode cX7_ofEntry 69 = .ok (.ireturn, 1) := by decide +kernel
theorem dX7_ofEntry_70 : decode cX7_ofEntry 70 = .ok (.aload_n 0, 1) := by decide +kernel
theorem dX7_ofEntry_71 : decode cX7_ofEntry 71 = .ok (.iload_n 1, 1) := by decide +kernel
theorem dX7_ofEntry_72 : decode cX7_ofEntry 72 = .ok (.bipush 6, 2) := by decide +kernel
theorem dX7_ofEntry_74 : decode cX7_ofEntry 74 = .ok (.invokevirtual 42, 3) := by decide +kernel
theorem dX7_ofEntry_77 : decode cX7_ofEntry 77 = .ok (.ireturn, 1) := by decide +kernel
theorem dX7_ofEntry_78 : decode cX7_ofEntry 78 = .ok (.aload_n 0, 1) := by decide +kernel
theorem dX7_ofEntry_79 : decode cX7_ofEntry 79 = .ok (.iload_n 1, 1) := by decide +kernel
theorem dX7_ofEntry_80 : decode cX7_ofEntry 80 = .ok (.invokevirtual 60, 3) := by decide +kernel
theorem dX7_ofEntry_83 : decode cX7_ofEntry 83 = .ok (.ifCond .eq 7, 3) := by decide +kernel
theorem dX7_ofEntry_86 : decode cX7_ofEntry 86 = .ok (.iconst 1, 1) := by decide +kernel
theorem dX7_ofEntry_87 : decode cX7_ofEntry 87 = .ok (.goto 4, 3) := by decide +kernel
theorem dX7_ofEntry_90 : decode cX7_ofEntry 90 = .ok (.iconst 0, 1) := by decide +kernel
theorem dX7_ofEntry_91 : decode cX7_ofEntry 91 = .ok (.ireturn, 1) := by decide +kernel
theorem dX7_ofEntry_92 : decode cX7_ofEntry 92 = .ok (.aload_n 0, 1) := by decide +kernel
theorem dX7_ofEntry_93 : decode cX7_ofEntry 93 = .ok (.iload_n 1, 1) := by decide +kernel
theorem dX7_ofEntry_94 : decode cX7_ofEntry 94 = .ok (.invokevirtual 139, 3) := by decide +kernel
theorem dX7_ofEntry_97 : decode cX7_ofEntry 97 = .ok (.ireturn, 1) := by decide +kernel
theorem dX7_ofEntry_98 : decode cX7_ofEntry 98 = .ok (.aload_n 0, 1) := by decide +kernel
theorem dX7_ofEntry_99 : decode cX7_ofEntry 99 = .ok (.iload_n 1, 1) := by decide +kernel
theorem dX7_ofEntry_100 : decode cX7_ofEntry 100 = .ok (.invokevirtual 142, 3) := by decide +kernel
theorem dX7_ofEntry_103 : decode cX7_ofEntry 103 = .ok (.ireturn, 1) := by decide +kernel
theorem dX7_ofEntry_104 : decode cX7_ofEntry 104 = .ok (.aload_n 0, 1) := by decide +kernel
theorem dX7_ofEntry_105 : decode cX7_ofEntry 105 = .ok (.iload_n 1, 1) := by decide +kernel
theorem dX7_ofEntry_106 : decode cX7_ofEntry 106 = .ok (.iconst 1, 1) := by decide +kernel
theorem dX7_ofEntry_107 : decode cX7_ofEntry 107 = .ok (.iload_n 2, 1) := by decide +kernel
theorem dX7_ofEntry_108 : decode cX7_ofEntry 108 = .ok (.iadd, 1) := by decide +kernel
theorem dX7_ofEntry_109 : decode cX7_ofEntry 109 = .ok (.iconst 2, 1) := by decide +kernel
theorem dX7_ofEntry_110 : decode cX7_ofEntry 110 = .ok (.isub, 1) := by decide +kernel
theorem dX7_ofEntry_111 : decode cX7_ofEntry 111 = .ok (.invokevirtual 42, 3) := by decide +kernel
theorem dX7_ofEntry_114 : decode cX7_ofEntry 114 = .ok (.ireturn, 1) := by decide +kernel
theorem dX7_entry_0 : decode cX7_entry 0 = .ok (.aload_n 0, 1) := by decide +kernel
theorem dX7_entry_1 : decode cX7_entry 1 = .ok (.invokevirtual 73, 3) := by decide +kernel
theorem dX7_entry_4 : decode cX7_entry 4 = .ok (.aload_n 0, 1) := by decide +kernel
theorem dX7_entry_5 : decode cX7_entry 5 = .ok (.aload_n 0, 1) := by decide +kernel
theorem dX7_entry_6 : decode cX7_entry 6 = .ok (.iload_n 1, 1) := by decide +kernel
theorem dX7_entry_7 : decode cX7_entry 7 = .ok (.invokevirtual 99, 3) := by decide +kernel
theorem dX7_entry_10 : decode cX7_entry 10 = .ok (.ifCond .ne 7, 3) := by decide +kernel
theorem dX7_entry_13 : decode cX7_entry 13 = .ok (.iconst 1, 1) := by decide +kernel
theorem dX7_entry_14 : decode cX7_entry 14 = .ok (.goto 18, 3) := by decide +kernel
theorem dX7_entry_17 : decode cX7_entry 17 = .ok (.iload_n 2, 1) := by decide +kernel
theorem dX7_entry_18 : decode cX7_entry 18 = .ok (.iconst 0, 1) := by decide +kernel
theorem dX7_entry_19 : decode cX7_entry 19 = .ok (.bipush 9, 2) := by decide +kernel
theorem dX7_entry_21 : decode cX7_entry 21 = .ok (.invokestatic 38, 3) := by decide +kernel
theorem dX7_entry_24 : decode cX7_entry 24 = .ok (.ifCond .ne 7, 3) := by decide +kernel
theorem dX7_entry_27 : decode cX7_entry 27 = .ok (.iconst 2, 1) := by decide +kernel
theorem dX7_entry_28 : decode cX7_entry 28 = .ok (.goto 4, 3) := by decide +kernel
theorem dX7_entry_31 : decode cX7_entry 31 = .ok (.iconst 0, 1) := by decide +kernel
theorem dX7_entry_32 : decode cX7_entry 32 = .ok (.invokevirtual 79, 3) := by decide +kernel
theorem dX7_entry_35 : decode cX7_entry 35 = .ok (.ifCond .eq 12, 3) := by decide +kernel
theorem dX7_entry_38 : decode cX7_entry 38 = .ok (.aload_n 0, 1) := by decide +kernel
theorem dX7_entry_39 : decode cX7_entry 39 = .ok (.iload_n 1, 1) := by decide +kernel
theorem dX7_entry_40 : decode cX7_entry 40 = .ok (.iload_n 2, 1) := by decide +kernel
theorem dX7_entry_41 : decode cX7_entry 41 = .ok (.invokevirtual 145, 3) := by decide +kernel
theorem dX7_entry_44 : decode cX7_entry 44 = .ok (.goto 4, 3) := by decide +kernel
theorem dX7_entry_47 : decode cX7_entry 47 = .ok (.iconst 0, 1) := by decide +kernel
theorem dX7_entry_48 : decode cX7_entry 48 = .ok (.ireturn, 1) := by decide +kernel
theorem dX7_counted_0 : decode cX7_counted 0 = .ok (.iload_n 1, 1) := by decide +kernel
theorem dX7_counted_1 : decode cX7_counted 1 = .ok (.tableswitch 85 0 9 #[55, 62, 62, 67, 73, 85, 85, 85, 85, 80], 55) := by decide +kernel
theorem dX7_counted_56 : decode cX7_counted 56 = .ok (.aload_n 0, 1) := by decide +kernel
theorem dX7_counted_57 : decode cX7_counted 57 = .ok (.getfield 7, 3) := by decide +kernel
theorem dX7_counted_60 : decode cX7_counted 60 = .ok (.iconst 0, 1) := by decide +kernel
theorem dX7_counted_61 : decode cX7_counted 61 = .ok (.iaload, 1) := by decide +kernel
theorem dX7_counted_62 : decode cX7_counted 62 = .ok (.ireturn, 1) := by decide +kernel
theorem dX7_counted_63 : decode cX7_counted 63 = .ok (.aload_n 0, 1) := by decide +kernel
theorem dX7_counted_64 : decode cX7_counted 64 = .ok (.getfield 64, 3) := by decide +kernel
theorem dX7_counted_67 : decode cX7_counted 67 = .ok (.ireturn, 1) := by decide +kernel
theorem dX7_counted_68 : decode cX7_counted 68 = .ok (.aload_n 0, 1) := by decide +kernel
theorem dX7_counted_69 : decode cX7_counted 69 = .ok (.iconst (-1), 1) := by decide +kernel
theorem dX7_counted_70 : decode cX7_counted 70 = .ok (.invokevirtual 139, 3) := by decide +kernel
theorem dX7_counted_73 : decode cX7_counted 73 = .ok (.ireturn, 1) := by decide +kernel
theorem dX7_counted_74 : decode cX7_counted 74 = .ok (.aload_n 0, 1) := by decide +kernel
theorem dX7_counted_75 : decode cX7_counted 75 = .ok (.getfield 7, 3) := by decide +kernel
theorem dX7_counted_78 : decode cX7_counted 78 = .ok (.iconst 1, 1) := by decide +kernel
theorem dX7_counted_79 : decode cX7_counted 79 = .ok (.iaload, 1) := by decide +kernel
theorem dX7_counted_80 : decode cX7_counted 80 = .ok (.ireturn, 1) := by decide +kernel
theorem dX7_counted_81 : decode cX7_counted 81 = .ok (.aload_n 0, 1) := by decide +kernel
theorem dX7_counted_82 : decode cX7_counted 82 = .ok (.getfield 106, 3) := by decide +kernel
theorem dX7_counted_85 : decode cX7_counted 85 = .ok (.ireturn, 1) := by decide +kernel
theorem dX7_counted_86 : decode cX7_counted 86 = .ok (.aload_n 0, 1) := by decide +kernel
theorem dX7_counted_87 : decode cX7_counted 87 = .ok (.getfield 7, 3) := by decide +kernel
theorem dX7_counted_90 : decode cX7_counted 90 = .ok (.iconst 4, 1) := by decide +kernel
theorem dX7_counted_91 : decode cX7_counted 91 = .ok (.iload_n 1, 1) := by decide +kernel
theorem dX7_counted_92 : decode cX7_counted 92 = .ok (.iadd, 1) := by decide +kernel
theorem dX7_counted_93 : decode cX7_counted 93 = .ok (.iconst 5, 1) := by decide +kernel
theorem dX7_counted_94 : decode cX7_counted 94 = .ok (.isub, 1) := by decide +kernel
theorem dX7_counted_95 : decode cX7_counted 95 = .ok (.iaload, 1) := by decide +kernel
theorem dX7_counted_96 : decode cX7_counted 96 = .ok (.ireturn, 1) := by decide +kernel
theorem dX7_count_0 : decode cX7_count 0 = .ok (.aload_n 0, 1) := by decide +kernel
theorem dX7_count_1 : decode cX7_count 1 = .ok (.invokevirtual 73, 3) := by decide +kernel
theorem dX7_count_4 : decode cX7_count 4 = .ok (.aload_n 0, 1) := by decide +kernel
theorem dX7_count_5 : decode cX7_count 5 = .ok (.iload_n 1, 1) := by decide +kernel
theorem dX7_count_6 : decode cX7_count 6 = .ok (.iconst 0, 1) := by decide +kernel
theorem dX7_count_7 : decode cX7_count 7 = .ok (.bipush 9, 2) := by decide +kernel
theorem dX7_count_9 : decode cX7_count 9 = .ok (.invokestatic 38, 3) := by decide +kernel
theorem dX7_count_12 : decode cX7_count 12 = .ok (.ifCond .eq 7, 3) := by decide +kernel
theorem dX7_count_15 : decode cX7_count 15 = .ok (.iconst 0, 1) := by decide +kernel
theorem dX7_count_16 : decode cX7_count 16 = .ok (.goto 4, 3) := by decide +kernel
theorem dX7_count_19 : decode cX7_count 19 = .ok (.iconst 1, 1) := by decide +kernel
theorem dX7_count_20 : decode cX7_count 20 = .ok (.invokevirtual 79, 3) := by decide +kernel
theorem dX7_count_23 : decode cX7_count 23 = .ok (.ifCond .eq 11, 3) := by decide +kernel
theorem dX7_count_26 : decode cX7_count 26 = .ok (.aload_n 0, 1) := by decide +kernel
theorem dX7_count_27 : decode cX7_count 27 = .ok (.iload_n 1, 1) := by decide +kernel
theorem dX7_count_28 : decode cX7_count 28 = .ok (.invokevirtual 148, 3) := by decide +kernel
theorem dX7_count_31 : decode cX7_count 31 = .ok (.goto 4, 3) := by decide +kernel
theorem dX7_count_34 : decode cX7_count 34 = .ok (.iconst 0, 1) := by decide +kernel
theorem dX7_count_35 : decode cX7_count 35 = .ok (.ireturn, 1) := by decide +kernel
theorem dX7_setting_0 : decode cX7_setting 0 = .ok (.aload_n 0, 1) := by decide +kernel
theorem dX7_setting_1 : decode cX7_setting 1 = .ok (.iload_n 1, 1) := by decide +kernel
theorem dX7_setting_2 : decode cX7_setting 2 = .ok (.iconst 0, 1) := by decide +kernel
theorem dX7_setting_3 : decode cX7_setting 3 = .ok (.iconst 1, 1) := by decide +kernel
theorem dX7_setting_4 : decode cX7_setting 4 = .ok (.invokestatic 38, 3) := by decide +kernel
theorem dX7_setting_7 : decode cX7_setting 7 = .ok (.ifCond .eq 7, 3) := by decide +kernel
theorem dX7_setting_10 : decode cX7_setting 10 = .ok (.iconst 0, 1) := by decide +kernel
theorem dX7_setting_11 : decode cX7_setting 11 = .ok (.goto 4, 3) := by decide +kernel
theorem dX7_setting_14 : decode cX7_setting 14 = .ok (.iconst 1, 1) := by decide +kernel
theorem dX7_setting_15 : decode cX7_setting 15 = .ok (.invokevirtual 79, 3) := by decide +kernel
theorem dX7_setting_18 : decode cX7_setting 18 = .ok (.ifCond .eq 14, 3) := by decide +kernel
theorem dX7_setting_21 : decode cX7_setting 21 = .ok (.aload_n 0, 1) := by decide +kernel
theorem dX7_setting_22 : decode cX7_setting 22 = .ok (.getfield 7, 3) := by decide +kernel
theorem dX7_setting_25 : decode cX7_setting 25 = .ok (.iconst 2, 1) := by decide +kernel
theorem dX7_setting_26 : decode cX7_setting 26 = .ok (.iload_n 1, 1) := by decide +kernel
theorem dX7_setting_27 : decode cX7_setting 27 = .ok (.iadd, 1) := by decide +kernel
theorem dX7_setting_28 : decode cX7_setting 28 = .ok (.iaload, 1) := by decide +kernel
theorem dX7_setting_29 : decode cX7_setting 29 = .ok (.goto 4, 3) := by decide +kernel
theorem dX7_setting_32 : decode cX7_setting 32 = .ok (.iconst 0, 1) := by decide +kernel
theorem dX7_setting_33 : decode cX7_setting 33 = .ok (.ireturn, 1) := by decide +kernel
theorem dX7_struck_0 : decode cX7_struck 0 = .ok (.aload_n 0, 1) := by decide +kernel
theorem dX7_struck_1 : decode cX7_struck 1 = .ok (.invokevirtual 73, 3) := by decide +kernel
theorem dX7_struck_4 : decode cX7_struck 4 = .ok (.aload_n 0, 1) := by decide +kernel
theorem dX7_struck_5 : decode cX7_struck 5 = .ok (.getfield 19, 3) := by decide +kernel
theorem dX7_struck_8 : decode cX7_struck 8 = .ok (.aload_n 0, 1) := by decide +kernel
theorem dX7_struck_9 : decode cX7_struck 9 = .ok (.getfield 54, 3) := by decide +kernel
theorem dX7_struck_12 : decode cX7_struck 12 = .ok (.iload_n 1, 1) := by decide +kernel
theorem dX7_struck_13 : decode cX7_struck 13 = .ok (.iastore, 1) := by decide +kernel
theorem dX7_struck_14 : decode cX7_struck 14 = .ok (.aload_n 0, 1) := by decide +kernel
theorem dX7_struck_15 : decode cX7_struck 15 = .ok (.dup, 1) := by decide +kernel
theorem dX7_struck_16 : decode cX7_struck 16 = .ok (.getfield 54, 3) := by decide +kernel
theorem dX7_struck_19 : decode cX7_struck 19 = .ok (.iconst 1, 1) := by decide +kernel
theorem dX7_struck_20 : decode cX7_struck 20 = .ok (.iadd, 1) := by decide +kernel
theorem dX7_struck_21 : decode cX7_struck 21 = .ok (.putfield 54, 3) := by decide +kernel
theorem dX7_struck_24 : decode cX7_struck 24 = .ok (.aload_n 0, 1) := by decide +kernel
theorem dX7_struck_25 : decode cX7_struck 25 = .ok (.invokevirtual 70, 3) := by decide +kernel
theorem dX7_struck_28 : decode cX7_struck 28 = .ok (.iload_n 2, 1) := by decide +kernel
theorem dX7_struck_29 : decode cX7_struck 29 = .ok (.ifCond .ne 16, 3) := by decide +kernel
theorem dX7_struck_32 : decode cX7_struck 32 = .ok (.aload_n 0, 1) := by decide +kernel
theorem dX7_struck_33 : decode cX7_struck 33 = .ok (.aload_n 0, 1) := by decide +kernel
theorem dX7_struck_34 : decode cX7_struck 34 = .ok (.getfield 64, 3) := by decide +kernel
theorem dX7_struck_37 : decode cX7_struck 37 = .ok (.iconst 1, 1) := by decide +kernel
theorem dX7_struck_38 : decode cX7_struck 38 = .ok (.isub, 1) := by decide +kernel
theorem dX7_struck_39 : decode cX7_struck 39 = .ok (.invokevirtual 133, 3) := by decide +kernel
theorem dX7_struck_42 : decode cX7_struck 42 = .ok (.goto 26, 3) := by decide +kernel
theorem dX7_struck_45 : decode cX7_struck 45 = .ok (.iload_n 2, 1) := by decide +kernel
theorem dX7_struck_46 : decode cX7_struck 46 = .ok (.iconst 1, 1) := by decide +kernel
theorem dX7_struck_47 : decode cX7_struck 47 = .ok (.if_icmp .ne 17, 3) := by decide +kernel
theorem dX7_struck_50 : decode cX7_struck 50 = .ok (.aload_n 0, 1) := by decide +kernel
theorem dX7_struck_51 : decode cX7_struck 51 = .ok (.getfield 25, 3) := by decide +kernel
theorem dX7_struck_54 : decode cX7_struck 54 = .ok (.aload_n 0, 1) := by decide +kernel
theorem dX7_struck_55 : decode cX7_struck 55 = .ok (.getfield 64, 3) := by decide +kernel
theorem dX7_struck_58 : decode cX7_struck 58 = .ok (.iconst 1, 1) := by decide +kernel
theorem dX7_struck_59 : decode cX7_struck 59 = .ok (.isub, 1) := by decide +kernel
theorem dX7_struck_60 : decode cX7_struck 60 = .ok (.iaload, 1) := by decide +kernel
theorem dX7_struck_61 : decode cX7_struck 61 = .ok (.goto 7, 3) := by decide +kernel
theorem dX7_struck_64 : decode cX7_struck 64 = .ok (.aload_n 0, 1) := by decide +kernel
theorem dX7_struck_65 : decode cX7_struck 65 = .ok (.getfield 64, 3) := by decide +kernel
theorem dX7_struck_68 : decode cX7_struck 68 = .ok (.ireturn, 1) := by decide +kernel
theorem dX7_ifStruck_0 : decode cX7_ifStruck 0 = .ok (.aload_n 0, 1) := by decide +kernel
theorem dX7_ifStruck_1 : decode cX7_ifStruck 1 = .ok (.iload_n 1, 1) := by decide +kernel
theorem dX7_ifStruck_2 : decode cX7_ifStruck 2 = .ok (.iconst 1, 1) := by decide +kernel
theorem dX7_ifStruck_3 : decode cX7_ifStruck 3 = .ok (.sipush 1023, 3) := by decide +kernel
theorem dX7_ifStruck_6 : decode cX7_ifStruck 6 = .ok (.invokestatic 38, 3) := by decide +kernel
theorem dX7_ifStruck_9 : decode cX7_ifStruck 9 = .ok (.ifCond .eq 16, 3) := by decide +kernel
theorem dX7_ifStruck_12 : decode cX7_ifStruck 12 = .ok (.iload_n 2, 1) := by decide +kernel
theorem dX7_ifStruck_13 : decode cX7_ifStruck 13 = .ok (.iconst 0, 1) := by decide +kernel
theorem dX7_ifStruck_14 : decode cX7_ifStruck 14 = .ok (.iconst 2, 1) := by decide +kernel
theorem dX7_ifStruck_15 : decode cX7_ifStruck 15 = .ok (.invokestatic 38, 3) := by decide +kernel
theorem dX7_ifStruck_18 : decode cX7_ifStruck 18 = .ok (.ifCond .eq 7, 3) := by decide +kernel
theorem dX7_ifStruck_21 : decode cX7_ifStruck 21 = .ok (.iconst 0, 1) := by decide +kernel
theorem dX7_ifStruck_22 : decode cX7_ifStruck 22 = .ok (.goto 4, 3) := by decide +kernel
theorem dX7_ifStruck_25 : decode cX7_ifStruck 25 = .ok (.iconst 1, 1) := by decide +kernel
theorem dX7_ifStruck_26 : decode cX7_ifStruck 26 = .ok (.invokevirtual 79, 3) := by decide +kernel
theorem dX7_ifStruck_29 : decode cX7_ifStruck 29 = .ok (.ifCond .eq 12, 3) := by decide +kernel
theorem dX7_ifStruck_32 : decode cX7_ifStruck 32 = .ok (.aload_n 0, 1) := by decide +kernel
theorem dX7_ifStruck_33 : decode cX7_ifStruck 33 = .ok (.iload_n 1, 1) := by decide +kernel
theorem dX7_ifStruck_34 : decode cX7_ifStruck 34 = .ok (.iload_n 2, 1) := by decide +kernel
theorem dX7_ifStruck_35 : decode cX7_ifStruck 35 = .ok (.invokevirtual 151, 3) := by decide +kernel
theorem dX7_ifStruck_38 : decode cX7_ifStruck 38 = .ok (.goto 4, 3) := by decide +kernel
theorem dX7_ifStruck_41 : decode cX7_ifStruck 41 = .ok (.iconst 0, 1) := by decide +kernel
theorem dX7_ifStruck_42 : decode cX7_ifStruck 42 = .ok (.ireturn, 1) := by decide +kernel
theorem dX7_begins_0 : decode cX7_begins 0 = .ok (.aload_n 0, 1) := by decide +kernel
theorem dX7_begins_1 : decode cX7_begins 1 = .ok (.getfield 7, 3) := by decide +kernel
theorem dX7_begins_4 : decode cX7_begins 4 = .ok (.iconst 0, 1) := by decide +kernel
theorem dX7_begins_5 : decode cX7_begins 5 = .ok (.iaload, 1) := by decide +kernel
theorem dX7_begins_6 : decode cX7_begins 6 = .ok (.iload_n 1, 1) := by decide +kernel
theorem dX7_begins_7 : decode cX7_begins 7 = .ok (.isub, 1) := by decide +kernel
theorem dX7_begins_8 : decode cX7_begins 8 = .ok (.istore_n 2, 1) := by decide +kernel
theorem dX7_begins_9 : decode cX7_begins 9 = .ok (.iconst 0, 1) := by decide +kernel
theorem dX7_begins_10 : decode cX7_begins 10 = .ok (.istore_n 3, 1) := by decide +kernel
theorem dX7_begins_11 : decode cX7_begins 11 = .ok (.iconst 0, 1) := by decide +kernel
theorem dX7_begins_12 : decode cX7_begins 12 = .ok (.istore 4, 2) := by decide +kernel
theorem dX7_begins_14 : decode cX7_begins 14 = .ok (.iload 4, 2) := by decide +kernel
theorem dX7_begins_16 : decode cX7_begins 16 = .ok (.aload_n 0, 1) := by decide +kernel
theorem dX7_begins_17 : decode cX7_begins 17 = .ok (.getfield 7, 3) := by decide +kernel
theorem dX7_begins_20 : decode cX7_begins 20 = .ok (.iconst 1, 1) := by decide +kernel
theorem dX7_begins_21 : decode cX7_begins 21 = .ok (.iaload, 1) := by decide +kernel
theorem dX7_begins_22 : decode cX7_begins 22 = .ok (.if_icmp .ge 96, 3) := by decide +kernel
theorem dX7_begins_25 : decode cX7_begins 25 = .ok (.iload_n 2, 1) := by decide +kernel
theorem dX7_begins_26 : decode cX7_begins 26 = .ok (.ifCond .lt 92, 3) := by decide +kernel
theorem dX7_begins_29 : decode cX7_begins 29 = .ok (.aload_n 0, 1) := by decide +kernel
theorem dX7_begins_30 : decode cX7_begins 30 = .ok (.iload 4, 2) := by decide +kernel
theorem dX7_begins_32 : decode cX7_begins 32 = .ok (.iconst 0, 1) := by decide +kernel
theorem dX7_begins_33 : decode cX7_begins 33 = .ok (.invokevirtual 42, 3) := by decide +kernel
theorem dX7_begins_36 : decode cX7_begins 36 = .ok (.iload_n 1, 1) := by decide +kernel
theorem dX7_begins_37 : decode cX7_begins 37 = .ok (.if_icmp .le 7, 3) := by decide +kernel
theorem dX7_begins_40 : decode cX7_begins 40 = .ok (.iconst 1, 1) := by decide +kernel
theorem dX7_begins_41 : decode cX7_begins 41 = .ok (.goto 4, 3) := by decide +kernel
theorem dX7_begins_44 : decode cX7_begins 44 = .ok (.iconst 0, 1) := by decide +kernel
theorem dX7_begins_45 : decode cX7_begins 45 = .ok (.istore 5, 2) := by decide +kernel
theorem dX7_begins_47 : decode cX7_begins 47 = .ok (.iconst 0, 1) := by decide +kernel
theorem dX7_begins_48 : decode cX7_begins 48 = .ok (.istore 6, 2) := by decide +kernel
theorem dX7_begins_50 : decode cX7_begins 50 = .ok (.iload 6, 2) := by decide +kernel
theorem dX7_begins_52 : decode cX7_begins 52 = .ok (.iload_n 1, 1) := by decide +kernel
theorem dX7_begins_53 : decode cX7_begins 53 = .ok (.if_icmp .ge 46, 3) := by decide +kernel
theorem dX7_begins_56 : decode cX7_begins 56 = .ok (.iload 5, 2) := by decide +kernel
theorem dX7_begins_58 : decode cX7_begins 58 = .ok (.ifCond .eq 41, 3) := by decide +kernel
theorem dX7_begins_61 : decode cX7_begins 61 = .ok (.aload_n 0, 1) := by decide +kernel
theorem dX7_begins_62 : decode cX7_begins 62 = .ok (.iload 4, 2) := by decide +kernel
theorem dX7_begins_64 : decode cX7_begins 64 = .ok (.iconst 1, 1) := by decide +kernel
theorem dX7_begins_65 : decode cX7_begins 65 = .ok (.iload 6, 2) := by decide +kernel
theorem dX7_begins_67 : decode cX7_begins 67 = .ok (.iadd, 1) := by decide +kernel
theorem dX7_begins_68 : decode cX7_begins 68 = .ok (.invokevirtual 42, 3) := by decide +kernel
theorem dX7_begins_71 : decode cX7_begins 71 = .ok (.aload_n 0, 1) := by decide +kernel
theorem dX7_begins_72 : decode cX7_begins 72 = .ok (.getfield 7, 3) := by decide +kernel
theorem dX7_begins_75 : decode cX7_begins 75 = .ok (.bipush 8, 2) := by decide +kernel
theorem dX7_begins_77 : decode cX7_begins 77 = .ok (.iload_n 2, 1) := by decide +kernel
theorem dX7_begins_78 : decode cX7_begins 78 = .ok (.iadd, 1) := by decide +kernel
theorem dX7_begins_79 : decode cX7_begins 79 = .ok (.iload 6, 2) := by decide +kernel
theorem dX7_begins_81 : decode cX7_begins 81 = .ok (.iadd, 1) := by decide +kernel
theorem dX7_begins_82 : decode cX7_begins 82 = .ok (.iaload, 1) := by decide +kernel
theorem dX7_begins_83 : decode cX7_begins 83 = .ok (.if_icmp .ne 7, 3) := by decide +kernel
theorem dX7_begins_86 : decode cX7_begins 86 = .ok (.iconst 1, 1) := by decide +kernel
theorem dX7_begins_87 : decode cX7_begins 87 = .ok (.goto 4, 3) := by decide +kernel
theorem dX7_begins_90 : decode cX7_begins 90 = .ok (.iconst 0, 1) := by decide +kernel
theorem dX7_begins_91 : decode cX7_begins 91 = .ok (.istore 5, 2) := by decide +kernel
theorem dX7_begins_93 : decode cX7_begins 93 = .ok (.iinc 6 1, 3) := by decide +kernel
theorem dX7_begins_96 : decode cX7_begins 96 = .ok (.goto (-46), 3) := by decide +kernel
theorem dX7_begins_99 : decode cX7_begins 99 = .ok (.iload_n 3, 1) := by decide +kernel
theorem dX7_begins_100 : decode cX7_begins 100 = .ok (.iload 5, 2) := by decide +kernel
theorem dX7_begins_102 : decode cX7_begins 102 = .ok (.ifCond .eq 7, 3) := by decide +kernel
theorem dX7_begins_105 : decode cX7_begins 105 = .ok (.iconst 1, 1) := by decide +kernel
theorem dX7_begins_106 : decode cX7_begins 106 = .ok (.goto 4, 3) := by decide +kernel
theorem dX7_begins_109 : decode cX7_begins 109 = .ok (.iconst 0, 1) := by decide +kernel
theorem dX7_begins_110 : decode cX7_begins 110 = .ok (.iadd, 1) := by decide +kernel
theorem dX7_begins_111 : decode cX7_begins 111 = .ok (.istore_n 3, 1) := by decide +kernel
theorem dX7_begins_112 : decode cX7_begins 112 = .ok (.iinc 4 1, 3) := by decide +kernel
theorem dX7_begins_115 : decode cX7_begins 115 = .ok (.goto (-101), 3) := by decide +kernel
theorem dX7_begins_118 : decode cX7_begins 118 = .ok (.iload_n 3, 1) := by decide +kernel
theorem dX7_begins_119 : decode cX7_begins 119 = .ok (.ireturn, 1) := by decide +kernel
theorem dX7_begun_0 : decode cX7_begun 0 = .ok (.aload_n 0, 1) := by decide +kernel
theorem dX7_begun_1 : decode cX7_begun 1 = .ok (.iload_n 1, 1) := by decide +kernel
theorem dX7_begun_2 : decode cX7_begun 2 = .ok (.iconst 1, 1) := by decide +kernel
theorem dX7_begun_3 : decode cX7_begun 3 = .ok (.iconst 3, 1) := by decide +kernel
theorem dX7_begun_4 : decode cX7_begun 4 = .ok (.invokestatic 38, 3) := by decide +kernel
theorem dX7_begun_7 : decode cX7_begun 7 = .ok (.ifCond .eq 7, 3) := by decide +kernel
theorem dX7_begun_10 : decode cX7_begun 10 = .ok (.iconst 0, 1) := by decide +kernel
theorem dX7_begun_11 : decode cX7_begun 11 = .ok (.goto 4, 3) := by decide +kernel
theorem dX7_begun_14 : decode cX7_begun 14 = .ok (.iconst 1, 1) := by decide +kernel
theorem dX7_begun_15 : decode cX7_begun 15 = .ok (.invokevirtual 79, 3) := by decide +kernel
theorem dX7_begun_18 : decode cX7_begun 18 = .ok (.ifCond .eq 11, 3) := by decide +kernel
theorem dX7_begun_21 : decode cX7_begun 21 = .ok (.aload_n 0, 1) := by decide +kernel
theorem dX7_begun_22 : decode cX7_begun 22 = .ok (.iload_n 1, 1) := by decide +kernel
theorem dX7_begun_23 : decode cX7_begun 23 = .ok (.invokevirtual 154, 3) := by decide +kernel
theorem dX7_begun_26 : decode cX7_begun 26 = .ok (.goto 4, 3) := by decide +kernel
theorem dX7_begun_29 : decode cX7_begun 29 = .ok (.iconst 0, 1) := by decide +kernel
theorem dX7_begun_30 : decode cX7_begun 30 = .ok (.ireturn, 1) := by decide +kernel
theorem dX7_shortestFor_0 : decode cX7_shortestFor 0 = .ok (.iconst (-1), 1) := by decide +kernel
theorem dX7_shortestFor_1 : decode cX7_shortestFor 1 = .ok (.istore_n 2, 1) := by decide +kernel
theorem dX7_shortestFor_2 : decode cX7_shortestFor 2 = .ok (.iconst 0, 1) := by decide +kernel
theorem dX7_shortestFor_3 : decode cX7_shortestFor 3 = .ok (.istore_n 3, 1) := by decide +kernel
theorem dX7_shortestFor_4 : decode cX7_shortestFor 4 = .ok (.iload_n 3, 1) := by decide +kernel
theorem dX7_shortestFor_5 : decode cX7_shortestFor 5 = .ok (.aload_n 0, 1) := by decide +kernel
theorem dX7_shortestFor_6 : decode cX7_shortestFor 6 = .ok (.getfield 7, 3) := by decide +kernel
theorem dX7_shortestFor_9 : decode cX7_shortestFor 9 = .ok (.iconst 1, 1) := by decide +kernel
theorem dX7_shortestFor_10 : decode cX7_shortestFor 10 = .ok (.iaload, 1) := by decide +kernel
theorem dX7_shortestFor_11 : decode cX7_shortestFor 11 = .ok (.if_icmp .ge 104, 3) := by decide +kernel
theorem dX7_shortestFor_14 : decode cX7_shortestFor 14 = .ok (.iload_n 2, 1) := by decide +kernel
theorem dX7_shortestFor_15 : decode cX7_shortestFor 15 = .ok (.iconst (-1), 1) := by decide +kernel
theorem dX7_shortestFor_16 : decode cX7_shortestFor 16 = .ok (.if_icmp .ne 7, 3) := by decide +kernel
theorem dX7_shortestFor_19 : decode cX7_shortestFor 19 = .ok (.iconst 1, 1) := by decide +kernel
theorem dX7_shortestFor_20 : decode cX7_shortestFor 20 = .ok (.goto 31, 3) := by decide +kernel
theorem dX7_shortestFor_23 : decode cX7_shortestFor 23 = .ok (.bipush 100, 2) := by decide +kernel
theorem dX7_shortestFor_25 : decode cX7_shortestFor 25 = .ok (.aload_n 0, 1) := by decide +kernel
theorem dX7_shortestFor_26 : decode cX7_shortestFor 26 = .ok (.iload_n 2, 1) := by decide +kernel
theorem dX7_shortestFor_27 : decode cX7_shortestFor 27 = .ok (.iconst 0, 1) := by decide +kernel
theorem dX7_shortestFor_28 : decode cX7_shortestFor 28 = .ok (.invokevirtual 42, 3) := by decide +kernel
theorem dX7_shortestFor_31 : decode cX7_shortestFor 31 = .ok (.aload_n 0, 1) := by decide +kernel
theorem dX7_shortestFor_32 : decode cX7_shortestFor 32 = .ok (.iload_n 3, 1) := by decide +kernel
theorem dX7_shortestFor_33 : decode cX7_shortestFor 33 = .ok (.iconst 0, 1) := by decide +kernel
theorem dX7_shortestFor_34 : decode cX7_shortestFor 34 = .ok (.invokevirtual 42, 3) := by decide +kernel
theorem dX7_shortestFor_37 : decode cX7_shortestFor 37 = .ok (.isub, 1) := by decide +kernel
theorem dX7_shortestFor_38 : decode cX7_shortestFor 38 = .ok (.imul, 1) := by decide +kernel
theorem dX7_shortestFor_39 : decode cX7_shortestFor 39 = .ok (.aload_n 0, 1) := by decide +kernel
theorem dX7_shortestFor_40 : decode cX7_shortestFor 40 = .ok (.iload_n 2, 1) := by decide +kernel
theorem dX7_shortestFor_41 : decode cX7_shortestFor 41 = .ok (.invokevirtual 142, 3) := by decide +kernel
theorem dX7_shortestFor_44 : decode cX7_shortestFor 44 = .ok (.iadd, 1) := by decide +kernel
theorem dX7_shortestFor_45 : decode cX7_shortestFor 45 = .ok (.aload_n 0, 1) := by decide +kernel
theorem dX7_shortestFor_46 : decode cX7_shortestFor 46 = .ok (.iload_n 3, 1) := by decide +kernel
theorem dX7_shortestFor_47 : decode cX7_shortestFor 47 = .ok (.invokevirtual 142, 3) := by decide +kernel
theorem dX7_shortestFor_50 : decode cX7_shortestFor 50 = .ok (.isub, 1) := by decide +kernel
theorem dX7_shortestFor_51 : decode cX7_shortestFor 51 = .ok (.istore 4, 2) := by decide +kernel
theorem dX7_shortestFor_53 : decode cX7_shortestFor 53 = .ok (.aload_n 0, 1) := by decide +kernel
theorem dX7_shortestFor_54 : decode cX7_shortestFor 54 = .ok (.iload_n 3, 1) := by decide +kernel
theorem dX7_shortestFor_55 : decode cX7_shortestFor 55 = .ok (.iconst 5, 1) := by decide +kernel
theorem dX7_shortestFor_56 : decode cX7_shortestFor 56 = .ok (.invokevirtual 42, 3) := by decide +kernel
theorem dX7_shortestFor_59 : decode cX7_shortestFor 59 = .ok (.iload_n 1, 1) := by decide +kernel
theorem dX7_shortestFor_60 : decode cX7_shortestFor 60 = .ok (.if_icmp .ne 30, 3) := by decide +kernel
theorem dX7_shortestFor_63 : decode cX7_shortestFor 63 = .ok (.aload_n 0, 1) := by decide +kernel
theorem dX7_shortestFor_64 : decode cX7_shortestFor 64 = .ok (.iload_n 3, 1) := by decide +kernel
theorem dX7_shortestFor_65 : decode cX7_shortestFor 65 = .ok (.iconst 0, 1) := by decide +kernel
theorem dX7_shortestFor_66 : decode cX7_shortestFor 66 = .ok (.invokevirtual 42, 3) := by decide +kernel
theorem dX7_shortestFor_69 : decode cX7_shortestFor 69 = .ok (.aload_n 0, 1) := by decide +kernel
theorem dX7_shortestFor_70 : decode cX7_shortestFor 70 = .ok (.getfield 7, 3) := by decide +kernel
theorem dX7_shortestFor_73 : decode cX7_shortestFor 73 = .ok (.iconst 3, 1) := by decide +kernel
theorem dX7_shortestFor_74 : decode cX7_shortestFor 74 = .ok (.iaload, 1) := by decide +kernel
theorem dX7_shortestFor_75 : decode cX7_shortestFor 75 = .ok (.if_icmp .gt 15, 3) := by decide +kernel
theorem dX7_shortestFor_78 : decode cX7_shortestFor 78 = .ok (.aload_n 0, 1) := by decide +kernel
theorem dX7_shortestFor_79 : decode cX7_shortestFor 79 = .ok (.iload_n 3, 1) := by decide +kernel
theorem dX7_shortestFor_80 : decode cX7_shortestFor 80 = .ok (.invokevirtual 60, 3) := by decide +kernel
theorem dX7_shortestFor_83 : decode cX7_shortestFor 83 = .ok (.ifCond .eq 7, 3) := by decide +kernel
theorem dX7_shortestFor_86 : decode cX7_shortestFor 86 = .ok (.iconst 1, 1) := by decide +kernel
theorem dX7_shortestFor_87 : decode cX7_shortestFor 87 = .ok (.goto 4, 3) := by decide +kernel
theorem dX7_shortestFor_90 : decode cX7_shortestFor 90 = .ok (.iconst 0, 1) := by decide +kernel
theorem dX7_shortestFor_91 : decode cX7_shortestFor 91 = .ok (.istore 5, 2) := by decide +kernel
theorem dX7_shortestFor_93 : decode cX7_shortestFor 93 = .ok (.iload 5, 2) := by decide +kernel
theorem dX7_shortestFor_95 : decode cX7_shortestFor 95 = .ok (.ifCond .eq 12, 3) := by decide +kernel
theorem dX7_shortestFor_98 : decode cX7_shortestFor 98 = .ok (.iload 4, 2) := by decide +kernel
theorem dX7_shortestFor_100 : decode cX7_shortestFor 100 = .ok (.ifCond .le 7, 3) := by decide +kernel
theorem dX7_shortestFor_103 : decode cX7_shortestFor 103 = .ok (.iload_n 3, 1) := by decide +kernel
theorem dX7_shortestFor_104 : decode cX7_shortestFor 104 = .ok (.goto 4, 3) := by decide +kernel
theorem dX7_shortestFor_107 : decode cX7_shortestFor 107 = .ok (.iload_n 2, 1) := by decide +kernel
theorem dX7_shortestFor_108 : decode cX7_shortestFor 108 = .ok (.istore_n 2, 1) := by decide +kernel
theorem dX7_shortestFor_109 : decode cX7_shortestFor 109 = .ok (.iinc 3 1, 3) := by decide +kernel
theorem dX7_shortestFor_112 : decode cX7_shortestFor 112 = .ok (.goto (-108), 3) := by decide +kernel
theorem dX7_shortestFor_115 : decode cX7_shortestFor 115 = .ok (.iload_n 2, 1) := by decide +kernel
theorem dX7_shortestFor_116 : decode cX7_shortestFor 116 = .ok (.ireturn, 1) := by decide +kernel
theorem dX7_shortest_0 : decode cX7_shortest 0 = .ok (.aload_n 0, 1) := by decide +kernel
theorem dX7_shortest_1 : decode cX7_shortest 1 = .ok (.iload_n 1, 1) := by decide +kernel
theorem dX7_shortest_2 : decode cX7_shortest 2 = .ok (.iconst 0, 1) := by decide +kernel
theorem dX7_shortest_3 : decode cX7_shortest 3 = .ok (.bipush 99, 2) := by decide +kernel
theorem dX7_shortest_5 : decode cX7_shortest 5 = .ok (.invokestatic 38, 3) := by decide +kernel
theorem dX7_shortest_8 : decode cX7_shortest 8 = .ok (.ifCond .eq 7, 3) := by decide +kernel
theorem dX7_shortest_11 : decode cX7_shortest 11 = .ok (.iconst 0, 1) := by decide +kernel
theorem dX7_shortest_12 : decode cX7_shortest 12 = .ok (.goto 4, 3) := by decide +kernel
theorem dX7_shortest_15 : decode cX7_shortest 15 = .ok (.iconst 1, 1) := by decide +kernel
theorem dX7_shortest_16 : decode cX7_shortest 16 = .ok (.invokevirtual 79, 3) := by decide +kernel
theorem dX7_shortest_19 : decode cX7_shortest 19 = .ok (.ifCond .eq 11, 3) := by decide +kernel
theorem dX7_shortest_22 : decode cX7_shortest 22 = .ok (.aload_n 0, 1) := by decide +kernel
theorem dX7_shortest_23 : decode cX7_shortest 23 = .ok (.iload_n 1, 1) := by decide +kernel
theorem dX7_shortest_24 : decode cX7_shortest 24 = .ok (.invokevirtual 157, 3) := by decide +kernel
theorem dX7_shortest_27 : decode cX7_shortest 27 = .ok (.goto 4, 3) := by decide +kernel
theorem dX7_shortest_30 : decode cX7_shortest 30 = .ok (.iconst 0, 1) := by decide +kernel
theorem dX7_shortest_31 : decode cX7_shortest 31 = .ok (.ireturn, 1) := by decide +kernel
theorem dX7_pairOf_0 : decode cX7_pairOf 0 = .ok (.aload_n 0, 1) := by decide +kernel
theorem dX7_pairOf_1 : decode cX7_pairOf 1 = .ok (.iload_n 1, 1) := by decide +kernel
theorem dX7_pairOf_2 : decode cX7_pairOf 2 = .ok (.iconst 0, 1) := by decide +kernel
theorem dX7_pairOf_3 : decode cX7_pairOf 3 = .ok (.invokevirtual 42, 3) := by decide +kernel
theorem dX7_pairOf_6 : decode cX7_pairOf 6 = .ok (.istore_n 3, 1) := by decide +kernel
theorem dX7_pairOf_7 : decode cX7_pairOf 7 = .ok (.aload_n 0, 1) := by decide +kernel
theorem dX7_pairOf_8 : decode cX7_pairOf 8 = .ok (.iload_n 3, 1) := by decide +kernel
theorem dX7_pairOf_9 : decode cX7_pairOf 9 = .ok (.aload_n 0, 1) := by decide +kernel
theorem dX7_pairOf_10 : decode cX7_pairOf 10 = .ok (.iload_n 2, 1) := by decide +kernel
theorem dX7_pairOf_11 : decode cX7_pairOf 11 = .ok (.iconst 0, 1) := by decide +kernel
theorem dX7_pairOf_12 : decode cX7_pairOf 12 = .ok (.invokevirtual 42, 3) := by decide +kernel
theorem dX7_pairOf_15 : decode cX7_pairOf 15 = .ok (.iadd, 1) := by decide +kernel
theorem dX7_pairOf_16 : decode cX7_pairOf 16 = .ok (.putfield 54, 3) := by decide +kernel
theorem dX7_pairOf_19 : decode cX7_pairOf 19 = .ok (.iconst 0, 1) := by decide +kernel
theorem dX7_pairOf_20 : decode cX7_pairOf 20 = .ok (.istore 4, 2) := by decide +kernel
theorem dX7_pairOf_22 : decode cX7_pairOf 22 = .ok (.iload 4, 2) := by decide +kernel
theorem dX7_pairOf_24 : decode cX7_pairOf 24 = .ok (.aload_n 0, 1) := by decide +kernel
theorem dX7_pairOf_25 : decode cX7_pairOf 25 = .ok (.getfield 54, 3) := by decide +kernel
theorem dX7_pairOf_28 : decode cX7_pairOf 28 = .ok (.if_icmp .ge 45, 3) := by decide +kernel
theorem dX7_pairOf_31 : decode cX7_pairOf 31 = .ok (.aload_n 0, 1) := by decide +kernel
theorem dX7_pairOf_32 : decode cX7_pairOf 32 = .ok (.getfield 19, 3) := by decide +kernel
theorem dX7_pairOf_35 : decode cX7_pairOf 35 = .ok (.iload 4, 2) := by decide +kernel
theorem dX7_pairOf_37 : decode cX7_pairOf 37 = .ok (.iload 4, 2) := by decide +kernel
theorem dX7_pairOf_39 : decode cX7_pairOf 39 = .ok (.iload_n 3, 1) := by decide +kernel
theorem dX7_pairOf_40 : decode cX7_pairOf 40 = .ok (.if_icmp .ge 15, 3) := by decide +kernel
theorem dX7_pairOf_43 : decode cX7_pairOf 43 = .ok (.aload_n 0, 1) := by decide +kernel
theorem dX7_pairOf_44 : decode cX7_pairOf 44 = .ok (.iload_n 1, 1) := by decide +kernel
theorem dX7_pairOf_45 : decode cX7_pairOf 45 = .ok (.iconst 1, 1) := by decide +kernel
theorem dX7_pairOf_46 : decode cX7_pairOf 46 = .ok (.iload 4, 2) := by decide +kernel
theorem dX7_pairOf_48 : decode cX7_pairOf 48 = .ok (.iadd, 1) := by decide +kernel
theorem dX7_pairOf_49 : decode cX7_pairOf 49 = .ok (.invokevirtual 42, 3) := by decide +kernel
theorem dX7_pairOf_52 : decode cX7_pairOf 52 = .ok (.goto 14, 3) := by decide +kernel
theorem dX7_pairOf_55 : decode cX7_pairOf 55 = .ok (.aload_n 0, 1) := by decide +kernel
theorem dX7_pairOf_56 : decode cX7_pairOf 56 = .ok (.iload_n 2, 1) := by decide +kernel
theorem dX7_pairOf_57 : decode cX7_pairOf 57 = .ok (.iconst 1, 1) := by decide +kernel
theorem dX7_pairOf_58 : decode cX7_pairOf 58 = .ok (.iload 4, 2) := by decide +kernel
theorem dX7_pairOf_60 : decode cX7_pairOf 60 = .ok (.iadd, 1) := by decide +kernel
theorem dX7_pairOf_61 : decode cX7_pairOf 61 = .ok (.iload_n 3, 1) := by decide +kernel
theorem dX7_pairOf_62 : decode cX7_pairOf 62 = .ok (.isub, 1) := by decide +kernel
theorem dX7_pairOf_63 : decode cX7_pairOf 63 = .ok (.invokevirtual 42, 3) := by decide +kernel
theorem dX7_pairOf_66 : decode cX7_pairOf 66 = .ok (.iastore, 1) := by decide +kernel
theorem dX7_pairOf_67 : decode cX7_pairOf 67 = .ok (.iinc 4 1, 3) := by decide +kernel
theorem dX7_pairOf_70 : decode cX7_pairOf 70 = .ok (.goto (-48), 3) := by decide +kernel
theorem dX7_pairOf_73 : decode cX7_pairOf 73 = .ok (.aload_n 0, 1) := by decide +kernel
theorem dX7_pairOf_74 : decode cX7_pairOf 74 = .ok (.invokevirtual 70, 3) := by decide +kernel
theorem dX7_pairOf_77 : decode cX7_pairOf 77 = .ok (.aload_n 0, 1) := by decide +kernel
theorem dX7_pairOf_78 : decode cX7_pairOf 78 = .ok (.getfield 64, 3) := by decide +kernel
theorem dX7_pairOf_81 : decode cX7_pairOf 81 = .ok (.iconst 2, 1) := by decide +kernel
theorem dX7_pairOf_82 : decode cX7_pairOf 82 = .ok (.if_icmp .ne 37, 3) := by decide +kernel
theorem dX7_pairOf_85 : decode cX7_pairOf 85 = .ok (.aload_n 0, 1) := by decide +kernel
theorem dX7_pairOf_86 : decode cX7_pairOf 86 = .ok (.getfield 28, 3) := by decide +kernel
theorem dX7_pairOf_89 : decode cX7_pairOf 89 = .ok (.iconst 0, 1) := by decide +kernel
theorem dX7_pairOf_90 : decode cX7_pairOf 90 = .ok (.iaload, 1) := by decide +kernel
theorem dX7_pairOf_91 : decode cX7_pairOf 91 = .ok (.iconst (-1), 1) := by decide +kernel
theorem dX7_pairOf_92 : decode cX7_pairOf 92 = .ok (.if_icmp .eq 27, 3) := by decide +kernel
theorem dX7_pairOf_95 : decode cX7_pairOf 95 = .ok (.aload_n 0, 1) := by decide +kernel
theorem dX7_pairOf_96 : decode cX7_pairOf 96 = .ok (.getfield 28, 3) := by decide +kernel
theorem dX7_pairOf_99 : decode cX7_pairOf 99 = .ok (.iconst 1, 1) := by decide +kernel
theorem dX7_pairOf_100 : decode cX7_pairOf 100 = .ok (.iaload, 1) := by decide +kernel
theorem dX7_pairOf_101 : decode cX7_pairOf 101 = .ok (.iconst (-1), 1) := by decide +kernel
theorem dX7_pairOf_102 : decode cX7_pairOf 102 = .ok (.if_icmp .eq 17, 3) := by decide +kernel
theorem dX7_pairOf_105 : decode cX7_pairOf 105 = .ok (.aload_n 0, 1) := by decide +kernel
theorem dX7_pairOf_106 : decode cX7_pairOf 106 = .ok (.getfield 25, 3) := by decide +kernel
theorem dX7_pairOf_109 : decode cX7_pairOf 109 = .ok (.iconst 0, 1) := by decide +kernel
theorem dX7_pairOf_110 : decode cX7_pairOf 110 = .ok (.iaload, 1) := by decide +kernel
theorem dX7_pairOf_111 : decode cX7_pairOf 111 = .ok (.iload_n 3, 1) := by decide +kernel
theorem dX7_pairOf_112 : decode cX7_pairOf 112 = .ok (.if_icmp .ne 7, 3) := by decide +kernel
theorem dX7_pairOf_115 : decode cX7_pairOf 115 = .ok (.iconst 1, 1) := by decide +kernel
theorem dX7_pairOf_116 : decode cX7_pairOf 116 = .ok (.goto 4, 3) := by decide +kernel
theorem dX7_pairOf_119 : decode cX7_pairOf 119 = .ok (.iconst 0, 1) := by decide +kernel
theorem dX7_pairOf_120 : decode cX7_pairOf 120 = .ok (.istore 4, 2) := by decide +kernel
theorem dX7_pairOf_122 : decode cX7_pairOf 122 = .ok (.aload_n 0, 1) := by decide +kernel
theorem dX7_pairOf_123 : decode cX7_pairOf 123 = .ok (.getfield 64, 3) := by decide +kernel
theorem dX7_pairOf_126 : decode cX7_pairOf 126 = .ok (.iconst 1, 1) := by decide +kernel
theorem dX7_pairOf_127 : decode cX7_pairOf 127 = .ok (.if_icmp .ne 7, 3) := by decide +kernel
theorem dX7_pairOf_130 : decode cX7_pairOf 130 = .ok (.iconst 1, 1) := by decide +kernel
theorem dX7_pairOf_131 : decode cX7_pairOf 131 = .ok (.goto 13, 3) := by decide +kernel
theorem dX7_pairOf_134 : decode cX7_pairOf 134 = .ok (.iload 4, 2) := by decide +kernel
theorem dX7_pairOf_136 : decode cX7_pairOf 136 = .ok (.ifCond .eq 7, 3) := by decide +kernel
theorem dX7_pairOf_139 : decode cX7_pairOf 139 = .ok (.iconst 0, 1) := by decide +kernel
theorem dX7_pairOf_140 : decode cX7_pairOf 140 = .ok (.goto 4, 3) := by decide +kernel
theorem dX7_pairOf_143 : decode cX7_pairOf 143 = .ok (.iconst 2, 1) := by decide +kernel
theorem dX7_pairOf_144 : decode cX7_pairOf 144 = .ok (.ireturn, 1) := by decide +kernel
theorem dX7_behind_0 : decode cX7_behind 0 = .ok (.aload_n 0, 1) := by decide +kernel
theorem dX7_behind_1 : decode cX7_behind 1 = .ok (.aload_n 0, 1) := by decide +kernel
theorem dX7_behind_2 : decode cX7_behind 2 = .ok (.iload_n 1, 1) := by decide +kernel
theorem dX7_behind_3 : decode cX7_behind 3 = .ok (.invokevirtual 99, 3) := by decide +kernel
theorem dX7_behind_6 : decode cX7_behind 6 = .ok (.ifCond .eq 15, 3) := by decide +kernel
theorem dX7_behind_9 : decode cX7_behind 9 = .ok (.aload_n 0, 1) := by decide +kernel
theorem dX7_behind_10 : decode cX7_behind 10 = .ok (.iload_n 2, 1) := by decide +kernel
theorem dX7_behind_11 : decode cX7_behind 11 = .ok (.invokevirtual 99, 3) := by decide +kernel
theorem dX7_behind_14 : decode cX7_behind 14 = .ok (.ifCond .eq 7, 3) := by decide +kernel
theorem dX7_behind_17 : decode cX7_behind 17 = .ok (.iconst 0, 1) := by decide +kernel
theorem dX7_behind_18 : decode cX7_behind 18 = .ok (.goto 4, 3) := by decide +kernel
theorem dX7_behind_21 : decode cX7_behind 21 = .ok (.iconst 1, 1) := by decide +kernel
theorem dX7_behind_22 : decode cX7_behind 22 = .ok (.invokevirtual 79, 3) := by decide +kernel
theorem dX7_behind_25 : decode cX7_behind 25 = .ok (.ifCond .eq 12, 3) := by decide +kernel
theorem dX7_behind_28 : decode cX7_behind 28 = .ok (.aload_n 0, 1) := by decide +kernel
theorem dX7_behind_29 : decode cX7_behind 29 = .ok (.iload_n 1, 1) := by decide +kernel
theorem dX7_behind_30 : decode cX7_behind 30 = .ok (.iload_n 2, 1) := by decide +kernel
theorem dX7_behind_31 : decode cX7_behind 31 = .ok (.invokevirtual 160, 3) := by decide +kernel
theorem dX7_behind_34 : decode cX7_behind 34 = .ok (.goto 4, 3) := by decide +kernel
theorem dX7_behind_37 : decode cX7_behind 37 = .ok (.iconst 0, 1) := by decide +kernel
theorem dX7_behind_38 : decode cX7_behind 38 = .ok (.ireturn, 1) := by decide +kernel
theorem dX7_clashesOf_0 : decode cX7_clashesOf 0 = .ok (.iconst 0, 1) := by decide +kernel
theorem dX7_clashesOf_1 : decode cX7_clashesOf 1 = .ok (.istore_n 1, 1) := by decide +kernel
theorem dX7_clashesOf_2 : decode cX7_clashesOf 2 = .ok (.iconst 0, 1) := by decide +kernel
theorem dX7_clashesOf_3 : decode cX7_clashesOf 3 = .ok (.istore_n 2, 1) := by decide +kernel
theorem dX7_clashesOf_4 : decode cX7_clashesOf 4 = .ok (.iload_n 2, 1) := by decide +kernel
theorem dX7_clashesOf_5 : decode cX7_clashesOf 5 = .ok (.aload_n 0, 1) := by decide +kernel
theorem dX7_clashesOf_6 : decode cX7_clashesOf 6 = .ok (.getfield 7, 3) := by decide +kernel
theorem dX7_clashesOf_9 : decode cX7_clashesOf 9 = .ok (.iconst 1, 1) := by decide +kernel
theorem dX7_clashesOf_10 : decode cX7_clashesOf 10 = .ok (.iaload, 1) := by decide +kernel
theorem dX7_clashesOf_11 : decode cX7_clashesOf 11 = .ok (.aload_n 0, 1) := by decide +kernel
theorem dX7_clashesOf_12 : decode cX7_clashesOf 12 = .ok (.getfield 7, 3) := by decide +kernel
theorem dX7_clashesOf_15 : decode cX7_clashesOf 15 = .ok (.iconst 1, 1) := by decide +kernel
theorem dX7_clashesOf_16 : decode cX7_clashesOf 16 = .ok (.iaload, 1) := by decide +kernel
theorem dX7_clashesOf_17 : decode cX7_clashesOf 17 = .ok (.imul, 1) := by decide +kernel
theorem dX7_clashesOf_18 : decode cX7_clashesOf 18 = .ok (.if_icmp .ge 40, 3) := by decide +kernel
theorem dX7_clashesOf_21 : decode cX7_clashesOf 21 = .ok (.iload_n 1, 1) := by decide +kernel
theorem dX7_clashesOf_22 : decode cX7_clashesOf 22 = .ok (.aload_n 0, 1) := by decide +kernel
theorem dX7_clashesOf_23 : decode cX7_clashesOf 23 = .ok (.iload_n 2, 1) := by decide +kernel
theorem dX7_clashesOf_24 : decode cX7_clashesOf 24 = .ok (.aload_n 0, 1) := by decide +kernel
theorem dX7_clashesOf_25 : decode cX7_clashesOf 25 = .ok (.getfield 7, 3) := by decide +kernel
theorem dX7_clashesOf_28 : decode cX7_clashesOf 28 = .ok (.iconst 1, 1) := by decide +kernel
theorem dX7_clashesOf_29 : decode cX7_clashesOf 29 = .ok (.iaload, 1) := by decide +kernel
theorem dX7_clashesOf_30 : decode cX7_clashesOf 30 = .ok (.idiv, 1) := by decide +kernel
theorem dX7_clashesOf_31 : decode cX7_clashesOf 31 = .ok (.iload_n 2, 1) := by decide +kernel
theorem dX7_clashesOf_32 : decode cX7_clashesOf 32 = .ok (.aload_n 0, 1) := by decide +kernel
theorem dX7_clashesOf_33 : decode cX7_clashesOf 33 = .ok (.getfield 7, 3) := by decide +kernel
theorem dX7_clashesOf_36 : decode cX7_clashesOf 36 = .ok (.iconst 1, 1) := by decide +kernel
theorem dX7_clashesOf_37 : decode cX7_clashesOf 37 = .ok (.iaload, 1) := by decide +kernel
theorem dX7_clashesOf_38 : decode cX7_clashesOf 38 = .ok (.irem, 1) := by decide +kernel
theorem dX7_clashesOf_39 : decode cX7_clashesOf 39 = .ok (.invokevirtual 160, 3) := by decide +kernel
theorem dX7_clashesOf_42 : decode cX7_clashesOf 42 = .ok (.ifCond .ne 7, 3) := by decide +kernel
theorem dX7_clashesOf_45 : decode cX7_clashesOf 45 = .ok (.iconst 0, 1) := by decide +kernel
theorem dX7_clashesOf_46 : decode cX7_clashesOf 46 = .ok (.goto 4, 3) := by decide +kernel
theorem dX7_clashesOf_49 : decode cX7_clashesOf 49 = .ok (.iconst 1, 1) := by decide +kernel
theorem dX7_clashesOf_50 : decode cX7_clashesOf 50 = .ok (.iadd, 1) := by decide +kernel
theorem dX7_clashesOf_51 : decode cX7_clashesOf 51 = .ok (.istore_n 1, 1) := by decide +kernel
theorem dX7_clashesOf_52 : decode cX7_clashesOf 52 = .ok (.iinc 2 1, 3) := by decide +kernel
theorem dX7_clashesOf_55 : decode cX7_clashesOf 55 = .ok (.goto (-51), 3) := by decide +kernel
theorem dX7_clashesOf_58 : decode cX7_clashesOf 58 = .ok (.iload_n 1, 1) := by decide +kernel
theorem dX7_clashesOf_59 : decode cX7_clashesOf 59 = .ok (.ireturn, 1) := by decide +kernel
theorem dX7_clashes_0 : decode cX7_clashes 0 = .ok (.aload_n 0, 1) := by decide +kernel
theorem dX7_clashes_1 : decode cX7_clashes 1 = .ok (.iconst 0, 1) := by decide +kernel
theorem dX7_clashes_2 : decode cX7_clashes 2 = .ok (.putfield 34, 3) := by decide +kernel
theorem dX7_clashes_5 : decode cX7_clashes 5 = .ok (.aload_n 0, 1) := by decide +kernel
theorem dX7_clashes_6 : decode cX7_clashes 6 = .ok (.invokevirtual 163, 3) := by decide +kernel
theorem dX7_clashes_9 : decode cX7_clashes 9 = .ok (.ireturn, 1) := by decide +kernel
theorem dX7_leastOf_0 : decode cX7_leastOf 0 = .ok (.aload_n 0, 1) := by decide +kernel
theorem dX7_leastOf_1 : decode cX7_leastOf 1 = .ok (.invokevirtual 73, 3) := by decide +kernel
theorem dX7_leastOf_4 : decode cX7_leastOf 4 = .ok (.aload_n 0, 1) := by decide +kernel
theorem dX7_leastOf_5 : decode cX7_leastOf 5 = .ok (.getfield 31, 3) := by decide +kernel
theorem dX7_leastOf_8 : decode cX7_leastOf 8 = .ok (.aload_n 0, 1) := by decide +kernel
theorem dX7_leastOf_9 : decode cX7_leastOf 9 = .ok (.getfield 54, 3) := by decide +kernel
theorem dX7_leastOf_12 : decode cX7_leastOf 12 = .ok (.iconst 0, 1) := by decide +kernel
theorem dX7_leastOf_13 : decode cX7_leastOf 13 = .ok (.iastore, 1) := by decide +kernel
theorem dX7_leastOf_14 : decode cX7_leastOf 14 = .ok (.aload_n 0, 1) := by decide +kernel
theorem dX7_leastOf_15 : decode cX7_leastOf 15 = .ok (.getfield 54, 3) := by decide +kernel
theorem dX7_leastOf_18 : decode cX7_leastOf 18 = .ok (.iconst 1, 1) := by decide +kernel
theorem dX7_leastOf_19 : decode cX7_leastOf 19 = .ok (.isub, 1) := by decide +kernel
theorem dX7_leastOf_20 : decode cX7_leastOf 20 = .ok (.istore_n 1, 1) := by decide +kernel
theorem dX7_leastOf_21 : decode cX7_leastOf 21 = .ok (.iload_n 1, 1) := by decide +kernel
theorem dX7_leastOf_22 : decode cX7_leastOf 22 = .ok (.ifCond .lt 110, 3) := by decide +kernel
theorem dX7_leastOf_25 : decode cX7_leastOf 25 = .ok (.aload_n 0, 1) := by decide +kernel
theorem dX7_leastOf_26 : decode cX7_leastOf 26 = .ok (.getfield 31, 3) := by decide +kernel
theorem dX7_leastOf_29 : decode cX7_leastOf 29 = .ok (.iload_n 1, 1) := by decide +kernel
theorem dX7_leastOf_30 : decode cX7_leastOf 30 = .ok (.aload_n 0, 1) := by decide +kernel
theorem dX7_leastOf_31 : decode cX7_leastOf 31 = .ok (.getfield 31, 3) := by decide +kernel
theorem dX7_leastOf_34 : decode cX7_leastOf 34 = .ok (.iload_n 1, 1) := by decide +kernel
theorem dX7_leastOf_35 : decode cX7_leastOf 35 = .ok (.iconst 1, 1) := by decide +kernel
theorem dX7_leastOf_36 : decode cX7_leastOf 36 = .ok (.iadd, 1) := by decide +kernel
theorem dX7_leastOf_37 : decode cX7_leastOf 37 = .ok (.iaload, 1) := by decide +kernel
theorem dX7_leastOf_38 : decode cX7_leastOf 38 = .ok (.iconst 1, 1) := by decide +kernel
theorem dX7_leastOf_39 : decode cX7_leastOf 39 = .ok (.iadd, 1) := by decide +kernel
theorem dX7_leastOf_40 : decode cX7_leastOf 40 = .ok (.iastore, 1) := by decide +kernel
theorem dX7_leastOf_41 : decode cX7_leastOf 41 = .ok (.iconst 0, 1) := by decide +kernel
theorem dX7_leastOf_42 : decode cX7_leastOf 42 = .ok (.istore_n 2, 1) := by decide +kernel
theorem dX7_leastOf_43 : decode cX7_leastOf 43 = .ok (.iload_n 2, 1) := by decide +kernel
theorem dX7_leastOf_44 : decode cX7_leastOf 44 = .ok (.aload_n 0, 1) := by decide +kernel
theorem dX7_leastOf_45 : decode cX7_leastOf 45 = .ok (.getfield 7, 3) := by decide +kernel
theorem dX7_leastOf_48 : decode cX7_leastOf 48 = .ok (.iconst 1, 1) := by decide +kernel
theorem dX7_leastOf_49 : decode cX7_leastOf 49 = .ok (.iaload, 1) := by decide +kernel
theorem dX7_leastOf_50 : decode cX7_leastOf 50 = .ok (.if_icmp .ge 76, 3) := by decide +kernel
theorem dX7_leastOf_53 : decode cX7_leastOf 53 = .ok (.aload_n 0, 1) := by decide +kernel
theorem dX7_leastOf_54 : decode cX7_leastOf 54 = .ok (.iload_n 2, 1) := by decide +kernel
theorem dX7_leastOf_55 : decode cX7_leastOf 55 = .ok (.iconst 0, 1) := by decide +kernel
theorem dX7_leastOf_56 : decode cX7_leastOf 56 = .ok (.invokevirtual 42, 3) := by decide +kernel
theorem dX7_leastOf_59 : decode cX7_leastOf 59 = .ok (.aload_n 0, 1) := by decide +kernel
theorem dX7_leastOf_60 : decode cX7_leastOf 60 = .ok (.getfield 7, 3) := by decide +kernel
theorem dX7_leastOf_63 : decode cX7_leastOf 63 = .ok (.iconst 3, 1) := by decide +kernel
theorem dX7_leastOf_64 : decode cX7_leastOf 64 = .ok (.iaload, 1) := by decide +kernel
theorem dX7_leastOf_65 : decode cX7_leastOf 65 = .ok (.if_icmp .gt 55, 3) := by decide +kernel
theorem dX7_leastOf_68 : decode cX7_leastOf 68 = .ok (.aload_n 0, 1) := by decide +kernel
theorem dX7_leastOf_69 : decode cX7_leastOf 69 = .ok (.iload_n 2, 1) := by decide +kernel
theorem dX7_leastOf_70 : decode cX7_leastOf 70 = .ok (.iload_n 1, 1) := by decide +kernel
theorem dX7_leastOf_71 : decode cX7_leastOf 71 = .ok (.invokevirtual 57, 3) := by decide +kernel
theorem dX7_leastOf_74 : decode cX7_leastOf 74 = .ok (.ifCond .eq 46, 3) := by decide +kernel
theorem dX7_leastOf_77 : decode cX7_leastOf 77 = .ok (.aload_n 0, 1) := by decide +kernel
theorem dX7_leastOf_78 : decode cX7_leastOf 78 = .ok (.getfield 31, 3) := by decide +kernel
theorem dX7_leastOf_81 : decode cX7_leastOf 81 = .ok (.iload_n 1, 1) := by decide +kernel
theorem dX7_leastOf_82 : decode cX7_leastOf 82 = .ok (.aload_n 0, 1) := by decide +kernel
theorem dX7_leastOf_83 : decode cX7_leastOf 83 = .ok (.iload_n 2, 1) := by decide +kernel
theorem dX7_leastOf_84 : decode cX7_leastOf 84 = .ok (.iconst 0, 1) := by decide +kernel
theorem dX7_leastOf_85 : decode cX7_leastOf 85 = .ok (.invokevirtual 42, 3) := by decide +kernel
theorem dX7_leastOf_88 : decode cX7_leastOf 88 = .ok (.iadd, 1) := by decide +kernel
theorem dX7_leastOf_89 : decode cX7_leastOf 89 = .ok (.iaload, 1) := by decide +kernel
theorem dX7_leastOf_90 : decode cX7_leastOf 90 = .ok (.aload_n 0, 1) := by decide +kernel
theorem dX7_leastOf_91 : decode cX7_leastOf 91 = .ok (.getfield 31, 3) := by decide +kernel
theorem dX7_leastOf_94 : decode cX7_leastOf 94 = .ok (.iload_n 1, 1) := by decide +kernel
theorem dX7_leastOf_95 : decode cX7_leastOf 95 = .ok (.iaload, 1) := by decide +kernel
theorem dX7_leastOf_96 : decode cX7_leastOf 96 = .ok (.if_icmp .ge 24, 3) := by decide +kernel
theorem dX7_leastOf_99 : decode cX7_leastOf 99 = .ok (.aload_n 0, 1) := by decide +kernel
theorem dX7_leastOf_100 : decode cX7_leastOf 100 = .ok (.getfield 31, 3) := by decide +kernel
theorem dX7_leastOf_103 : decode cX7_leastOf 103 = .ok (.iload_n 1, 1) := by decide +kernel
theorem dX7_leastOf_104 : decode cX7_leastOf 104 = .ok (.aload_n 0, 1) := by decide +kernel
theorem dX7_leastOf_105 : decode cX7_leastOf 105 = .ok (.getfield 31, 3) := by decide +kernel
theorem dX7_leastOf_108 : decode cX7_leastOf 108 = .ok (.iload_n 1, 1) := by decide +kernel
theorem dX7_leastOf_109 : decode cX7_leastOf 109 = .ok (.aload_n 0, 1) := by decide +kernel
theorem dX7_leastOf_110 : decode cX7_leastOf 110 = .ok (.iload_n 2, 1) := by decide +kernel
theorem dX7_leastOf_111 : decode cX7_leastOf 111 = .ok (.iconst 0, 1) := by decide +kernel
theorem dX7_leastOf_112 : decode cX7_leastOf 112 = .ok (.invokevirtual 42, 3) := by decide +kernel
theorem dX7_leastOf_115 : decode cX7_leastOf 115 = .ok (.iadd, 1) := by decide +kernel
theorem dX7_leastOf_116 : decode cX7_leastOf 116 = .ok (.iaload, 1) := by decide +kernel
theorem dX7_leastOf_117 : decode cX7_leastOf 117 = .ok (.iconst 1, 1) := by decide +kernel
theorem dX7_leastOf_118 : decode cX7_leastOf 118 = .ok (.iadd, 1) := by decide +kernel
theorem dX7_leastOf_119 : decode cX7_leastOf 119 = .ok (.iastore, 1) := by decide +kernel
theorem dX7_leastOf_120 : decode cX7_leastOf 120 = .ok (.iinc 2 1, 3) := by decide +kernel
theorem dX7_leastOf_123 : decode cX7_leastOf 123 = .ok (.goto (-80), 3) := by decide +kernel
theorem dX7_leastOf_126 : decode cX7_leastOf 126 = .ok (.iinc 1 (-1), 3) := by decide +kernel
theorem dX7_leastOf_129 : decode cX7_leastOf 129 = .ok (.goto (-108), 3) := by decide +kernel
theorem dX7_leastOf_132 : decode cX7_leastOf 132 = .ok (.aload_n 0, 1) := by decide +kernel
theorem dX7_leastOf_133 : decode cX7_leastOf 133 = .ok (.getfield 31, 3) := by decide +kernel
theorem dX7_leastOf_136 : decode cX7_leastOf 136 = .ok (.iconst 0, 1) := by decide +kernel
theorem dX7_leastOf_137 : decode cX7_leastOf 137 = .ok (.iaload, 1) := by decide +kernel
theorem dX7_leastOf_138 : decode cX7_leastOf 138 = .ok (.ireturn, 1) := by decide +kernel
theorem dX7_least_0 : decode cX7_least 0 = .ok (.aload_n 0, 1) := by decide +kernel
theorem dX7_least_1 : decode cX7_least 1 = .ok (.iconst 0, 1) := by decide +kernel
theorem dX7_least_2 : decode cX7_least 2 = .ok (.putfield 34, 3) := by decide +kernel
theorem dX7_least_5 : decode cX7_least 5 = .ok (.aload_n 0, 1) := by decide +kernel
theorem dX7_least_6 : decode cX7_least 6 = .ok (.invokevirtual 166, 3) := by decide +kernel
theorem dX7_least_9 : decode cX7_least 9 = .ok (.ireturn, 1) := by decide +kernel
theorem dX7_share_0 : decode cX7_share 0 = .ok (.aload_n 0, 1) := by decide +kernel
theorem dX7_share_1 : decode cX7_share 1 = .ok (.invokevirtual 73, 3) := by decide +kernel
theorem dX7_share_4 : decode cX7_share 4 = .ok (.aload_n 0, 1) := by decide +kernel
theorem dX7_share_5 : decode cX7_share 5 = .ok (.getfield 54, 3) := by decide +kernel
theorem dX7_share_8 : decode cX7_share 8 = .ok (.ifCond .ne 7, 3) := by decide +kernel
theorem dX7_share_11 : decode cX7_share 11 = .ok (.dconst 1, 1) := by decide +kernel
theorem dX7_share_12 : decode cX7_share 12 = .ok (.goto 20, 3) := by decide +kernel
theorem dX7_share_15 : decode cX7_share 15 = .ok (.aload_n 0, 1) := by decide +kernel
theorem dX7_share_16 : decode cX7_share 16 = .ok (.getfield 54, 3) := by decide +kernel
theorem dX7_share_19 : decode cX7_share 19 = .ok (.aload_n 0, 1) := by decide +kernel
theorem dX7_share_20 : decode cX7_share 20 = .ok (.iconst (-1), 1) := by decide +kernel
theorem dX7_share_21 : decode cX7_share 21 = .ok (.invokevirtual 139, 3) := by decide +kernel
theorem dX7_share_24 : decode cX7_share 24 = .ok (.isub, 1) := by decide +kernel
theorem dX7_share_25 : decode cX7_share 25 = .ok (.i2d, 1) := by decide +kernel
theorem dX7_share_26 : decode cX7_share 26 = .ok (.aload_n 0, 1) := by decide +kernel
theorem dX7_share_27 : decode cX7_share 27 = .ok (.getfield 54, 3) := by decide +kernel
theorem dX7_share_30 : decode cX7_share 30 = .ok (.i2d, 1) := by decide +kernel
theorem dX7_share_31 : decode cX7_share 31 = .ok (.ddiv, 1) := by decide +kernel
theorem dX7_share_32 : decode cX7_share 32 = .ok (.dreturn, 1) := by decide +kernel
theorem dX7_readShare_0 : decode cX7_readShare 0 = .ok (.aload_n 0, 1) := by decide +kernel
theorem dX7_readShare_1 : decode cX7_readShare 1 = .ok (.iconst 0, 1) := by decide +kernel
theorem dX7_readShare_2 : decode cX7_readShare 2 = .ok (.putfield 34, 3) := by decide +kernel
theorem dX7_readShare_5 : decode cX7_readShare 5 = .ok (.aload_n 0, 1) := by decide +kernel
theorem dX7_readShare_6 : decode cX7_readShare 6 = .ok (.invokevirtual 169, 3) := by decide +kernel
theorem dX7_readShare_9 : decode cX7_readShare 9 = .ok (.dreturn, 1) := by decide +kernel
theorem dX7_mean_0 : decode cX7_mean 0 = .ok (.aload_n 0, 1) := by decide +kernel
theorem dX7_mean_1 : decode cX7_mean 1 = .ok (.getfield 7, 3) := by decide +kernel
theorem dX7_mean_4 : decode cX7_mean 4 = .ok (.iconst 4, 1) := by decide +kernel
theorem dX7_mean_5 : decode cX7_mean 5 = .ok (.iaload, 1) := by decide +kernel
theorem dX7_mean_6 : decode cX7_mean 6 = .ok (.ifCond .ne 7, 3) := by decide +kernel
theorem dX7_mean_9 : decode cX7_mean 9 = .ok (.fconst 0, 1) := by decide +kernel
theorem dX7_mean_10 : decode cX7_mean 10 = .ok (.goto 19, 3) := by decide +kernel
theorem dX7_mean_13 : decode cX7_mean 13 = .ok (.aload_n 0, 1) := by decide +kernel
theorem dX7_mean_14 : decode cX7_mean 14 = .ok (.getfield 7, 3) := by decide +kernel
theorem dX7_mean_17 : decode cX7_mean 17 = .ok (.bipush 7, 2) := by decide +kernel
theorem dX7_mean_19 : decode cX7_mean 19 = .ok (.iaload, 1) := by decide +kernel
theorem dX7_mean_20 : decode cX7_mean 20 = .ok (.i2f, 1) := by decide +kernel
theorem dX7_mean_21 : decode cX7_mean 21 = .ok (.aload_n 0, 1) := by decide +kernel
theorem dX7_mean_22 : decode cX7_mean 22 = .ok (.getfield 7, 3) := by decide +kernel
theorem dX7_mean_25 : decode cX7_mean 25 = .ok (.iconst 4, 1) := by decide +kernel
theorem dX7_mean_26 : decode cX7_mean 26 = .ok (.iaload, 1) := by decide +kernel
theorem dX7_mean_27 : decode cX7_mean 27 = .ok (.i2f, 1) := by decide +kernel
theorem dX7_mean_28 : decode cX7_mean 28 = .ok (.fdiv, 1) := by decide +kernel
theorem dX7_mean_29 : decode cX7_mean 29 = .ok (.freturn, 1) := by decide +kernel
theorem dX7_meanKeys_0 : decode cX7_meanKeys 0 = .ok (.aload_n 0, 1) := by decide +kernel
theorem dX7_meanKeys_1 : decode cX7_meanKeys 1 = .ok (.iconst 0, 1) := by decide +kernel
theorem dX7_meanKeys_2 : decode cX7_meanKeys 2 = .ok (.putfield 34, 3) := by decide +kernel
theorem dX7_meanKeys_5 : decode cX7_meanKeys 5 = .ok (.aload_n 0, 1) := by decide +kernel
theorem dX7_meanKeys_6 : decode cX7_meanKeys 6 = .ok (.invokevirtual 173, 3) := by decide +kernel
theorem dX7_meanKeys_9 : decode cX7_meanKeys 9 = .ok (.freturn, 1) := by decide +kernel
theorem dX7_mix_0 : decode cX7_mix 0 = .ok (.aload_n 0, 1) := by decide +kernel
theorem dX7_mix_1 : decode cX7_mix 1 = .ok (.ldc2_w 177, 3) := by decide +kernel
theorem dX7_mix_4 : decode cX7_mix 4 = .ok (.aload_n 0, 1) := by decide +kernel
theorem dX7_mix_5 : decode cX7_mix 5 = .ok (.getfield 179, 3) := by decide +kernel
theorem dX7_mix_8 : decode cX7_mix 8 = .ok (.lmul, 1) := by decide +kernel
theorem dX7_mix_9 : decode cX7_mix 9 = .ok (.lload_n 1, 1) := by decide +kernel
theorem dX7_mix_10 : decode cX7_mix 10 = .ok (.ladd, 1) := by decide +kernel
theorem dX7_mix_11 : decode cX7_mix 11 = .ok (.putfield 179, 3) := by decide +kernel
theorem dX7_mix_14 : decode cX7_mix 14 = .ok (.return_, 1) := by decide +kernel
theorem dX7_bits_0 : decode cX7_bits 0 = .ok (.dload_n 0, 1) := by decide +kernel
theorem dX7_bits_1 : decode cX7_bits 1 = .ok (.dconst 0, 1) := by decide +kernel
theorem dX7_bits_2 : decode cX7_bits 2 = .ok (.dcmp .l, 1) := by decide +kernel
theorem dX7_bits_3 : decode cX7_bits 3 = .ok (.ifCond .ne 5, 3) := by decide +kernel
theorem dX7_bits_6 : decode cX7_bits 6 = .ok (.lconst 0, 1) := by decide +kernel
theorem dX7_bits_7 : decode cX7_bits 7 = .ok (.lreturn, 1) := by decide +kernel
theorem dX7_bits_8 : decode cX7_bits 8 = .ok (.dload_n 0, 1) := by decide +kernel
theorem dX7_bits_9 : decode cX7_bits 9 = .ok (.dstore 6, 2) := by decide +kernel
theorem dX7_bits_11 : decode cX7_bits 11 = .ok (.lload 4, 2) := by decide +kernel
theorem dX7_bits_13 : decode cX7_bits 13 = .ok (.lstore 8, 2) := by decide +kernel
theorem dX7_bits_15 : decode cX7_bits 15 = .ok (.dload 6, 2) := by decide +kernel
theorem dX7_bits_17 : decode cX7_bits 17 = .ok (.ldc2_w 183, 3) := by decide +kernel
theorem dX7_bits_20 : decode cX7_bits 20 = .ok (.dcmp .l, 1) := by decide +kernel
theorem dX7_bits_21 : decode cX7_bits 21 = .ok (.ifCond .lt 20, 3) := by decide +kernel
theorem dX7_bits_24 : decode cX7_bits 24 = .ok (.dload 6, 2) := by decide +kernel
theorem dX7_bits_26 : decode cX7_bits 26 = .ok (.ldc2_w 183, 3) := by decide +kernel
theorem dX7_bits_29 : decode cX7_bits 29 = .ok (.ddiv, 1) := by decide +kernel
theorem dX7_bits_30 : decode cX7_bits 30 = .ok (.dstore 6, 2) := by decide +kernel
theorem dX7_bits_32 : decode cX7_bits 32 = .ok (.lload 8, 2) := by decide +kernel
theorem dX7_bits_34 : decode cX7_bits 34 = .ok (.lconst 1, 1) := by decide +kernel
theorem dX7_bits_35 : decode cX7_bits 35 = .ok (.ladd, 1) := by decide +kernel
theorem dX7_bits_36 : decode cX7_bits 36 = .ok (.lstore 8, 2) := by decide +kernel
theorem dX7_bits_38 : decode cX7_bits 38 = .ok (.goto (-23), 3) := by decide +kernel
theorem dX7_bits_41 : decode cX7_bits 41 = .ok (.dload 6, 2) := by decide +kernel
theorem dX7_bits_43 : decode cX7_bits 43 = .ok (.dconst 1, 1) := by decide +kernel
theorem dX7_bits_44 : decode cX7_bits 44 = .ok (.dcmp .g, 1) := by decide +kernel
theorem dX7_bits_45 : decode cX7_bits 45 = .ok (.ifCond .ge 20, 3) := by decide +kernel
theorem dX7_bits_48 : decode cX7_bits 48 = .ok (.dload 6, 2) := by decide +kernel
theorem dX7_bits_50 : decode cX7_bits 50 = .ok (.ldc2_w 183, 3) := by decide +kernel
theorem dX7_bits_53 : decode cX7_bits 53 = .ok (.dmul, 1) := by decide +kernel
theorem dX7_bits_54 : decode cX7_bits 54 = .ok (.dstore 6, 2) := by decide +kernel
theorem dX7_bits_56 : decode cX7_bits 56 = .ok (.lload 8, 2) := by decide +kernel
theorem dX7_bits_58 : decode cX7_bits 58 = .ok (.lconst 1, 1) := by decide +kernel
theorem dX7_bits_59 : decode cX7_bits 59 = .ok (.lsub, 1) := by decide +kernel
theorem dX7_bits_60 : decode cX7_bits 60 = .ok (.lstore 8, 2) := by decide +kernel
theorem dX7_bits_62 : decode cX7_bits 62 = .ok (.goto (-21), 3) := by decide +kernel
theorem dX7_bits_65 : decode cX7_bits 65 = .ok (.lload 8, 2) := by decide +kernel
theorem dX7_bits_67 : decode cX7_bits 67 = .ok (.lload_n 2, 1) := by decide +kernel
theorem dX7_bits_68 : decode cX7_bits 68 = .ok (.lmul, 1) := by decide +kernel
theorem dX7_bits_69 : decode cX7_bits 69 = .ok (.dload 6, 2) := by decide +kernel
theorem dX7_bits_71 : decode cX7_bits 71 = .ok (.dconst 1, 1) := by decide +kernel
theorem dX7_bits_72 : decode cX7_bits 72 = .ok (.dsub, 1) := by decide +kernel
theorem dX7_bits_73 : decode cX7_bits 73 = .ok (.lload_n 2, 1) := by decide +kernel
theorem dX7_bits_74 : decode cX7_bits 74 = .ok (.l2d, 1) := by decide +kernel
theorem dX7_bits_75 : decode cX7_bits 75 = .ok (.dmul, 1) := by decide +kernel
theorem dX7_bits_76 : decode cX7_bits 76 = .ok (.d2l, 1) := by decide +kernel
theorem dX7_bits_77 : decode cX7_bits 77 = .ok (.ladd, 1) := by decide +kernel
theorem dX7_bits_78 : decode cX7_bits 78 = .ok (.lreturn, 1) := by decide +kernel
theorem dX7_digest_0 : decode cX7_digest 0 = .ok (.aload_n 0, 1) := by decide +kernel
theorem dX7_digest_1 : decode cX7_digest 1 = .ok (.iconst 0, 1) := by decide +kernel
theorem dX7_digest_2 : decode cX7_digest 2 = .ok (.putfield 34, 3) := by decide +kernel
theorem dX7_digest_5 : decode cX7_digest 5 = .ok (.aload_n 0, 1) := by decide +kernel
theorem dX7_digest_6 : decode cX7_digest 6 = .ok (.ldc2_w 185, 3) := by decide +kernel
theorem dX7_digest_9 : decode cX7_digest 9 = .ok (.putfield 179, 3) := by decide +kernel
theorem dX7_digest_12 : decode cX7_digest 12 = .ok (.aload_n 0, 1) := by decide +kernel
theorem dX7_digest_13 : decode cX7_digest 13 = .ok (.invokevirtual 73, 3) := by decide +kernel
theorem dX7_digest_16 : decode cX7_digest 16 = .ok (.iconst 0, 1) := by decide +kernel
theorem dX7_digest_17 : decode cX7_digest 17 = .ok (.istore_n 1, 1) := by decide +kernel
theorem dX7_digest_18 : decode cX7_digest 18 = .ok (.iload_n 1, 1) := by decide +kernel
theorem dX7_digest_19 : decode cX7_digest 19 = .ok (.bipush 10, 2) := by decide +kernel
theorem dX7_digest_21 : decode cX7_digest 21 = .ok (.if_icmp .ge 19, 3) := by decide +kernel
theorem dX7_digest_24 : decode cX7_digest 24 = .ok (.aload_n 0, 1) := by decide +kernel
theorem dX7_digest_25 : decode cX7_digest 25 = .ok (.aload_n 0, 1) := by decide +kernel
theorem dX7_digest_26 : decode cX7_digest 26 = .ok (.iload_n 1, 1) := by decide +kernel
theorem dX7_digest_27 : decode cX7_digest 27 = .ok (.invokevirtual 148, 3) := by decide +kernel
theorem dX7_digest_30 : decode cX7_digest 30 = .ok (.i2l, 1) := by decide +kernel
theorem dX7_digest_31 : decode cX7_digest 31 = .ok (.invokevirtual 187, 3) := by decide +kernel
theorem dX7_digest_34 : decode cX7_digest 34 = .ok (.iinc 1 1, 3) := by decide +kernel
theorem dX7_digest_37 : decode cX7_digest 37 = .ok (.goto (-19), 3) := by decide +kernel
theorem dX7_digest_40 : decode cX7_digest 40 = .ok (.aload_n 0, 1) := by decide +kernel
theorem dX7_digest_41 : decode cX7_digest 41 = .ok (.aload_n 0, 1) := by decide +kernel
theorem dX7_digest_42 : decode cX7_digest 42 = .ok (.getfield 7, 3) := by decide +kernel
theorem dX7_digest_45 : decode cX7_digest 45 = .ok (.iconst 2, 1) := by decide +kernel
theorem dX7_digest_46 : decode cX7_digest 46 = .ok (.iaload, 1) := by decide +kernel
theorem dX7_digest_47 : decode cX7_digest 47 = .ok (.i2l, 1) := by decide +kernel
theorem dX7_digest_48 : decode cX7_digest 48 = .ok (.invokevirtual 187, 3) := by decide +kernel
theorem dX7_digest_51 : decode cX7_digest 51 = .ok (.aload_n 0, 1) := by decide +kernel
theorem dX7_digest_52 : decode cX7_digest 52 = .ok (.aload_n 0, 1) := by decide +kernel
theorem dX7_digest_53 : decode cX7_digest 53 = .ok (.getfield 7, 3) := by decide +kernel
theorem dX7_digest_56 : decode cX7_digest 56 = .ok (.iconst 3, 1) := by decide +kernel
theorem dX7_digest_57 : decode cX7_digest 57 = .ok (.iaload, 1) := by decide +kernel
theorem dX7_digest_58 : decode cX7_digest 58 = .ok (.i2l, 1) := by decide +kernel
theorem dX7_digest_59 : decode cX7_digest 59 = .ok (.invokevirtual 187, 3) := by decide +kernel
theorem dX7_digest_62 : decode cX7_digest 62 = .ok (.iconst 0, 1) := by decide +kernel
theorem dX7_digest_63 : decode cX7_digest 63 = .ok (.istore_n 1, 1) := by decide +kernel
theorem dX7_digest_64 : decode cX7_digest 64 = .ok (.iload_n 1, 1) := by decide +kernel
theorem dX7_digest_65 : decode cX7_digest 65 = .ok (.aload_n 0, 1) := by decide +kernel
theorem dX7_digest_66 : decode cX7_digest 66 = .ok (.getfield 7, 3) := by decide +kernel
theorem dX7_digest_69 : decode cX7_digest 69 = .ok (.iconst 0, 1) := by decide +kernel
theorem dX7_digest_70 : decode cX7_digest 70 = .ok (.iaload, 1) := by decide +kernel
theorem dX7_digest_71 : decode cX7_digest 71 = .ok (.if_icmp .ge 23, 3) := by decide +kernel
theorem dX7_digest_74 : decode cX7_digest 74 = .ok (.aload_n 0, 1) := by decide +kernel
theorem dX7_digest_75 : decode cX7_digest 75 = .ok (.aload_n 0, 1) := by decide +kernel
theorem dX7_digest_76 : decode cX7_digest 76 = .ok (.getfield 7, 3) := by decide +kernel
theorem dX7_digest_79 : decode cX7_digest 79 = .ok (.bipush 8, 2) := by decide +kernel
theorem dX7_digest_81 : decode cX7_digest 81 = .ok (.iload_n 1, 1) := by decide +kernel
theorem dX7_digest_82 : decode cX7_digest 82 = .ok (.iadd, 1) := by decide +kernel
theorem dX7_digest_83 : decode cX7_digest 83 = .ok (.iaload, 1) := by decide +kernel
theorem dX7_digest_84 : decode cX7_digest 84 = .ok (.i2l, 1) := by decide +kernel
theorem dX7_digest_85 : decode cX7_digest 85 = .ok (.invokevirtual 187, 3) := by decide +kernel
theorem dX7_digest_88 : decode cX7_digest 88 = .ok (.iinc 1 1, 3) := by decide +kernel
theorem dX7_digest_91 : decode cX7_digest 91 = .ok (.goto (-27), 3) := by decide +kernel
theorem dX7_digest_94 : decode cX7_digest 94 = .ok (.iconst 0, 1) := by decide +kernel
theorem dX7_digest_95 : decode cX7_digest 95 = .ok (.istore_n 1, 1) := by decide +kernel
theorem dX7_digest_96 : decode cX7_digest 96 = .ok (.iload_n 1, 1) := by decide +kernel
theorem dX7_digest_97 : decode cX7_digest 97 = .ok (.iconst 5, 1) := by decide +kernel
theorem dX7_digest_98 : decode cX7_digest 98 = .ok (.aload_n 0, 1) := by decide +kernel
theorem dX7_digest_99 : decode cX7_digest 99 = .ok (.getfield 64, 3) := by decide +kernel
theorem dX7_digest_102 : decode cX7_digest 102 = .ok (.imul, 1) := by decide +kernel
theorem dX7_digest_103 : decode cX7_digest 103 = .ok (.if_icmp .ge 24, 3) := by decide +kernel
theorem dX7_digest_106 : decode cX7_digest 106 = .ok (.aload_n 0, 1) := by decide +kernel
theorem dX7_digest_107 : decode cX7_digest 107 = .ok (.aload_n 0, 1) := by decide +kernel
theorem dX7_digest_108 : decode cX7_digest 108 = .ok (.iload_n 1, 1) := by decide +kernel
theorem dX7_digest_109 : decode cX7_digest 109 = .ok (.iconst 5, 1) := by decide +kernel
theorem dX7_digest_110 : decode cX7_digest 110 = .ok (.idiv, 1) := by decide +kernel
theorem dX7_digest_111 : decode cX7_digest 111 = .ok (.iload_n 1, 1) := by decide +kernel
theorem dX7_digest_112 : decode cX7_digest 112 = .ok (.iconst 5, 1) := by decide +kernel
theorem dX7_digest_113 : decode cX7_digest 113 = .ok (.irem, 1) := by decide +kernel
theorem dX7_digest_114 : decode cX7_digest 114 = .ok (.invokevirtual 136, 3) := by decide +kernel
theorem dX7_digest_117 : decode cX7_digest 117 = .ok (.i2l, 1) := by decide +kernel
theorem dX7_digest_118 : decode cX7_digest 118 = .ok (.invokevirtual 187, 3) := by decide +kernel
theorem dX7_digest_121 : decode cX7_digest 121 = .ok (.iinc 1 1, 3) := by decide +kernel
theorem dX7_digest_124 : decode cX7_digest 124 = .ok (.goto (-28), 3) := by decide +kernel
theorem dX7_digest_127 : decode cX7_digest 127 = .ok (.iconst 0, 1) := by decide +kernel
theorem dX7_digest_128 : decode cX7_digest 128 = .ok (.istore_n 1, 1) := by decide +kernel
theorem dX7_digest_129 : decode cX7_digest 129 = .ok (.iload_n 1, 1) := by decide +kernel
theorem dX7_digest_130 : decode cX7_digest 130 = .ok (.bipush 10, 2) := by decide +kernel
theorem dX7_digest_132 : decode cX7_digest 132 = .ok (.aload_n 0, 1) := by decide +kernel
theorem dX7_digest_133 : decode cX7_digest 133 = .ok (.getfield 7, 3) := by decide +kernel
theorem dX7_digest_136 : decode cX7_digest 136 = .ok (.iconst 1, 1) := by decide +kernel
theorem dX7_digest_137 : decode cX7_digest 137 = .ok (.iaload, 1) := by decide +kernel
theorem dX7_digest_138 : decode cX7_digest 138 = .ok (.imul, 1) := by decide +kernel
theorem dX7_digest_139 : decode cX7_digest 139 = .ok (.if_icmp .ge 26, 3) := by decide +kernel
theorem dX7_digest_142 : decode cX7_digest 142 = .ok (.aload_n 0, 1) := by decide +kernel
theorem dX7_digest_143 : decode cX7_digest 143 = .ok (.aload_n 0, 1) := by decide +kernel
theorem dX7_digest_144 : decode cX7_digest 144 = .ok (.iload_n 1, 1) := by decide +kernel
theorem dX7_digest_145 : decode cX7_digest 145 = .ok (.bipush 10, 2) := by decide +kernel
theorem dX7_digest_147 : decode cX7_digest 147 = .ok (.idiv, 1) := by decide +kernel
theorem dX7_digest_148 : decode cX7_digest 148 = .ok (.iload_n 1, 1) := by decide +kernel
theorem dX7_digest_149 : decode cX7_digest 149 = .ok (.bipush 10, 2) := by decide +kernel
theorem dX7_digest_151 : decode cX7_digest 151 = .ok (.irem, 1) := by decide +kernel
theorem dX7_digest_152 : decode cX7_digest 152 = .ok (.invokevirtual 145, 3) := by decide +kernel
theorem dX7_digest_155 : decode cX7_digest 155 = .ok (.i2l, 1) := by decide +kernel
theorem dX7_digest_156 : decode cX7_digest 156 = .ok (.invokevirtual 187, 3) := by decide +kernel
theorem dX7_digest_159 : decode cX7_digest 159 = .ok (.iinc 1 1, 3) := by decide +kernel
theorem dX7_digest_162 : decode cX7_digest 162 = .ok (.goto (-33), 3) := by decide +kernel
theorem dX7_digest_165 : decode cX7_digest 165 = .ok (.iconst 1, 1) := by decide +kernel
theorem dX7_digest_166 : decode cX7_digest 166 = .ok (.istore_n 1, 1) := by decide +kernel
theorem dX7_digest_167 : decode cX7_digest 167 = .ok (.iload_n 1, 1) := by decide +kernel
theorem dX7_digest_168 : decode cX7_digest 168 = .ok (.iconst 4, 1) := by decide +kernel
theorem dX7_digest_169 : decode cX7_digest 169 = .ok (.if_icmp .ge 19, 3) := by decide +kernel
theorem dX7_digest_172 : decode cX7_digest 172 = .ok (.aload_n 0, 1) := by decide +kernel
theorem dX7_digest_173 : decode cX7_digest 173 = .ok (.aload_n 0, 1) := by decide +kernel
theorem dX7_digest_174 : decode cX7_digest 174 = .ok (.iload_n 1, 1) := by decide +kernel
theorem dX7_digest_175 : decode cX7_digest 175 = .ok (.invokevirtual 154, 3) := by decide +kernel
theorem dX7_digest_178 : decode cX7_digest 178 = .ok (.i2l, 1) := by decide +kernel
theorem dX7_digest_179 : decode cX7_digest 179 = .ok (.invokevirtual 187, 3) := by decide +kernel
theorem dX7_digest_182 : decode cX7_digest 182 = .ok (.iinc 1 1, 3) := by decide +kernel
theorem dX7_digest_185 : decode cX7_digest 185 = .ok (.goto (-18), 3) := by decide +kernel
theorem dX7_digest_188 : decode cX7_digest 188 = .ok (.iconst 0, 1) := by decide +kernel
theorem dX7_digest_189 : decode cX7_digest 189 = .ok (.istore_n 1, 1) := by decide +kernel
theorem dX7_digest_190 : decode cX7_digest 190 = .ok (.iload_n 1, 1) := by decide +kernel
theorem dX7_digest_191 : decode cX7_digest 191 = .ok (.iconst 3, 1) := by decide +kernel
theorem dX7_digest_192 : decode cX7_digest 192 = .ok (.if_icmp .ge 20, 3) := by decide +kernel
theorem dX7_digest_195 : decode cX7_digest 195 = .ok (.aload_n 0, 1) := by decide +kernel
theorem dX7_digest_196 : decode cX7_digest 196 = .ok (.aload_n 0, 1) := by decide +kernel
theorem dX7_digest_197 : decode cX7_digest 197 = .ok (.iconst 1, 1) := by decide +kernel
theorem dX7_digest_198 : decode cX7_digest 198 = .ok (.iload_n 1, 1) := by decide +kernel
theorem dX7_digest_199 : decode cX7_digest 199 = .ok (.invokevirtual 151, 3) := by decide +kernel
theorem dX7_digest_202 : decode cX7_digest 202 = .ok (.i2l, 1) := by decide +kernel
theorem dX7_digest_203 : decode cX7_digest 203 = .ok (.invokevirtual 187, 3) := by decide +kernel
theorem dX7_digest_206 : decode cX7_digest 206 = .ok (.iinc 1 1, 3) := by decide +kernel
theorem dX7_digest_209 : decode cX7_digest 209 = .ok (.goto (-19), 3) := by decide +kernel
theorem dX7_digest_212 : decode cX7_digest 212 = .ok (.iconst 0, 1) := by decide +kernel
theorem dX7_digest_213 : decode cX7_digest 213 = .ok (.istore_n 1, 1) := by decide +kernel
theorem dX7_digest_214 : decode cX7_digest 214 = .ok (.iload_n 1, 1) := by decide +kernel
theorem dX7_digest_215 : decode cX7_digest 215 = .ok (.bipush 10, 2) := by decide +kernel
theorem dX7_digest_217 : decode cX7_digest 217 = .ok (.if_icmp .ge 19, 3) := by decide +kernel
theorem dX7_digest_220 : decode cX7_digest 220 = .ok (.aload_n 0, 1) := by decide +kernel
theorem dX7_digest_221 : decode cX7_digest 221 = .ok (.aload_n 0, 1) := by decide +kernel
theorem dX7_digest_222 : decode cX7_digest 222 = .ok (.iload_n 1, 1) := by decide +kernel
theorem dX7_digest_223 : decode cX7_digest 223 = .ok (.invokevirtual 157, 3) := by decide +kernel
theorem dX7_digest_226 : decode cX7_digest 226 = .ok (.i2l, 1) := by decide +kernel
theorem dX7_digest_227 : decode cX7_digest 227 = .ok (.invokevirtual 187, 3) := by decide +kernel
theorem dX7_digest_230 : decode cX7_digest 230 = .ok (.iinc 1 1, 3) := by decide +kernel
theorem dX7_digest_233 : decode cX7_digest 233 = .ok (.goto (-19), 3) := by decide +kernel
theorem dX7_digest_236 : decode cX7_digest 236 = .ok (.aload_n 0, 1) := by decide +kernel
theorem dX7_digest_237 : decode cX7_digest 237 = .ok (.aload_n 0, 1) := by decide +kernel
theorem dX7_digest_238 : decode cX7_digest 238 = .ok (.invokevirtual 163, 3) := by decide +kernel
theorem dX7_digest_241 : decode cX7_digest 241 = .ok (.i2l, 1) := by decide +kernel
theorem dX7_digest_242 : decode cX7_digest 242 = .ok (.invokevirtual 187, 3) := by decide +kernel
theorem dX7_digest_245 : decode cX7_digest 245 = .ok (.aload_n 0, 1) := by decide +kernel
theorem dX7_digest_246 : decode cX7_digest 246 = .ok (.aload_n 0, 1) := by decide +kernel
theorem dX7_digest_247 : decode cX7_digest 247 = .ok (.invokevirtual 166, 3) := by decide +kernel
theorem dX7_digest_250 : decode cX7_digest 250 = .ok (.i2l, 1) := by decide +kernel
theorem dX7_digest_251 : decode cX7_digest 251 = .ok (.invokevirtual 187, 3) := by decide +kernel
theorem dX7_digest_254 : decode cX7_digest 254 = .ok (.aload_n 0, 1) := by decide +kernel
theorem dX7_digest_255 : decode cX7_digest 255 = .ok (.aload_n 0, 1) := by decide +kernel
theorem dX7_digest_256 : decode cX7_digest 256 = .ok (.invokevirtual 169, 3) := by decide +kernel
theorem dX7_digest_259 : decode cX7_digest 259 = .ok (.ldc2_w 191, 3) := by decide +kernel
theorem dX7_digest_262 : decode cX7_digest 262 = .ok (.ldc2_w 193, 3) := by decide +kernel
theorem dX7_digest_265 : decode cX7_digest 265 = .ok (.invokestatic 195, 3) := by decide +kernel
theorem dX7_digest_268 : decode cX7_digest 268 = .ok (.invokevirtual 187, 3) := by decide +kernel
theorem dX7_digest_271 : decode cX7_digest 271 = .ok (.aload_n 0, 1) := by decide +kernel
theorem dX7_digest_272 : decode cX7_digest 272 = .ok (.aload_n 0, 1) := by decide +kernel
theorem dX7_digest_273 : decode cX7_digest 273 = .ok (.invokevirtual 173, 3) := by decide +kernel
theorem dX7_digest_276 : decode cX7_digest 276 = .ok (.f2d, 1) := by decide +kernel
theorem dX7_digest_277 : decode cX7_digest 277 = .ok (.ldc2_w 199, 3) := by decide +kernel
theorem dX7_digest_280 : decode cX7_digest 280 = .ok (.ldc2_w 201, 3) := by decide +kernel
theorem dX7_digest_283 : decode cX7_digest 283 = .ok (.invokestatic 195, 3) := by decide +kernel
theorem dX7_digest_286 : decode cX7_digest 286 = .ok (.invokevirtual 187, 3) := by decide +kernel
theorem dX7_digest_289 : decode cX7_digest 289 = .ok (.aload_n 0, 1) := by decide +kernel
theorem dX7_digest_290 : decode cX7_digest 290 = .ok (.aload_n 0, 1) := by decide +kernel
theorem dX7_digest_291 : decode cX7_digest 291 = .ok (.getfield 129, 3) := by decide +kernel
theorem dX7_digest_294 : decode cX7_digest 294 = .ok (.ifCond .eq 7, 3) := by decide +kernel
theorem dX7_digest_297 : decode cX7_digest 297 = .ok (.lconst 1, 1) := by decide +kernel
theorem dX7_digest_298 : decode cX7_digest 298 = .ok (.goto 4, 3) := by decide +kernel
theorem dX7_digest_301 : decode cX7_digest 301 = .ok (.lconst 0, 1) := by decide +kernel
theorem dX7_digest_302 : decode cX7_digest 302 = .ok (.invokevirtual 187, 3) := by decide +kernel
theorem dX7_digest_305 : decode cX7_digest 305 = .ok (.aload_n 0, 1) := by decide +kernel
theorem dX7_digest_306 : decode cX7_digest 306 = .ok (.aload_n 0, 1) := by decide +kernel
theorem dX7_digest_307 : decode cX7_digest 307 = .ok (.getfield 96, 3) := by decide +kernel
theorem dX7_digest_310 : decode cX7_digest 310 = .ok (.i2l, 1) := by decide +kernel
theorem dX7_digest_311 : decode cX7_digest 311 = .ok (.invokevirtual 187, 3) := by decide +kernel
theorem dX7_digest_314 : decode cX7_digest 314 = .ok (.iconst 0, 1) := by decide +kernel
theorem dX7_digest_315 : decode cX7_digest 315 = .ok (.istore_n 1, 1) := by decide +kernel
theorem dX7_digest_316 : decode cX7_digest 316 = .ok (.iload_n 1, 1) := by decide +kernel
theorem dX7_digest_317 : decode cX7_digest 317 = .ok (.aload_n 0, 1) := by decide +kernel
theorem dX7_digest_318 : decode cX7_digest 318 = .ok (.getfield 96, 3) := by decide +kernel
theorem dX7_digest_321 : decode cX7_digest 321 = .ok (.if_icmp .ge 20, 3) := by decide +kernel
theorem dX7_digest_324 : decode cX7_digest 324 = .ok (.aload_n 0, 1) := by decide +kernel
theorem dX7_digest_325 : decode cX7_digest 325 = .ok (.aload_n 0, 1) := by decide +kernel
theorem dX7_digest_326 : decode cX7_digest 326 = .ok (.getfield 13, 3) := by decide +kernel
theorem dX7_digest_329 : decode cX7_digest 329 = .ok (.iload_n 1, 1) := by decide +kernel
theorem dX7_digest_330 : decode cX7_digest 330 = .ok (.iaload, 1) := by decide +kernel
theorem dX7_digest_331 : decode cX7_digest 331 = .ok (.i2l, 1) := by decide +kernel
theorem dX7_digest_332 : decode cX7_digest 332 = .ok (.invokevirtual 187, 3) := by decide +kernel
theorem dX7_digest_335 : decode cX7_digest 335 = .ok (.iinc 1 1, 3) := by decide +kernel
theorem dX7_digest_338 : decode cX7_digest 338 = .ok (.goto (-22), 3) := by decide +kernel
theorem dX7_digest_341 : decode cX7_digest 341 = .ok (.aload_n 0, 1) := by decide +kernel
theorem dX7_digest_342 : decode cX7_digest 342 = .ok (.getfield 179, 3) := by decide +kernel
theorem dX7_digest_345 : decode cX7_digest 345 = .ok (.lreturn, 1) := by decide +kernel
