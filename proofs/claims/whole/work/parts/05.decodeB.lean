theorem dX5_sees_39 : decode cX5_sees 39 = .ok (.getfield 34, 3) := by decide +kernel
theorem dX5_sees_42 : decode cX5_sees 42 = .ok (.iload_n 1, 1) := by decide +kernel
theorem dX5_sees_43 : decode cX5_sees 43 = .ok (.iaload, 1) := by decide +kernel
theorem dX5_sees_44 : decode cX5_sees 44 = .ok (.invokestatic 60, 3) := by decide +kernel
theorem dX5_sees_47 : decode cX5_sees 47 = .ok (.ifCond .eq 28, 3) := by decide +kernel
theorem dX5_sees_50 : decode cX5_sees 50 = .ok (.iload 5, 2) := by decide +kernel
theorem dX5_sees_52 : decode cX5_sees 52 = .ok (.aload_n 0, 1) := by decide +kernel
theorem dX5_sees_53 : decode cX5_sees 53 = .ok (.getfield 34, 3) := by decide +kernel
theorem dX5_sees_56 : decode cX5_sees 56 = .ok (.iload_n 1, 1) := by decide +kernel
theorem dX5_sees_57 : decode cX5_sees 57 = .ok (.iaload, 1) := by decide +kernel
theorem dX5_sees_58 : decode cX5_sees 58 = .ok (.ineg, 1) := by decide +kernel
theorem dX5_sees_59 : decode cX5_sees 59 = .ok (.aload_n 0, 1) := by decide +kernel
theorem dX5_sees_60 : decode cX5_sees 60 = .ok (.getfield 34, 3) := by decide +kernel
theorem dX5_sees_63 : decode cX5_sees 63 = .ok (.iload_n 1, 1) := by decide +kernel
theorem dX5_sees_64 : decode cX5_sees 64 = .ok (.iaload, 1) := by decide +kernel
theorem dX5_sees_65 : decode cX5_sees 65 = .ok (.invokestatic 60, 3) := by decide +kernel
theorem dX5_sees_68 : decode cX5_sees 68 = .ok (.ifCond .eq 7, 3) := by decide +kernel
theorem dX5_sees_71 : decode cX5_sees 71 = .ok (.iconst 1, 1) := by decide +kernel
theorem dX5_sees_72 : decode cX5_sees 72 = .ok (.goto 4, 3) := by decide +kernel
theorem dX5_sees_75 : decode cX5_sees 75 = .ok (.iconst 0, 1) := by decide +kernel
theorem dX5_sees_76 : decode cX5_sees 76 = .ok (.istore 7, 2) := by decide +kernel
theorem dX5_sees_78 : decode cX5_sees 78 = .ok (.iload 7, 2) := by decide +kernel
theorem dX5_sees_80 : decode cX5_sees 80 = .ok (.ifCond .eq 27, 3) := by decide +kernel
theorem dX5_sees_83 : decode cX5_sees 83 = .ok (.iload 6, 2) := by decide +kernel
theorem dX5_sees_85 : decode cX5_sees 85 = .ok (.ifCond .lt 18, 3) := by decide +kernel
theorem dX5_sees_88 : decode cX5_sees 88 = .ok (.aload_n 0, 1) := by decide +kernel
theorem dX5_sees_89 : decode cX5_sees 89 = .ok (.getfield 37, 3) := by decide +kernel
theorem dX5_sees_92 : decode cX5_sees 92 = .ok (.iload_n 1, 1) := by decide +kernel
theorem dX5_sees_93 : decode cX5_sees 93 = .ok (.iaload, 1) := by decide +kernel
theorem dX5_sees_94 : decode cX5_sees 94 = .ok (.iload 6, 2) := by decide +kernel
theorem dX5_sees_96 : decode cX5_sees 96 = .ok (.ishr, 1) := by decide +kernel
theorem dX5_sees_97 : decode cX5_sees 97 = .ok (.iconst 1, 1) := by decide +kernel
theorem dX5_sees_98 : decode cX5_sees 98 = .ok (.iand, 1) := by decide +kernel
theorem dX5_sees_99 : decode cX5_sees 99 = .ok (.iconst 1, 1) := by decide +kernel
theorem dX5_sees_100 : decode cX5_sees 100 = .ok (.if_icmp .ne 7, 3) := by decide +kernel
theorem dX5_sees_103 : decode cX5_sees 103 = .ok (.iconst 1, 1) := by decide +kernel
theorem dX5_sees_104 : decode cX5_sees 104 = .ok (.goto 4, 3) := by decide +kernel
theorem dX5_sees_107 : decode cX5_sees 107 = .ok (.iconst 0, 1) := by decide +kernel
theorem dX5_sees_108 : decode cX5_sees 108 = .ok (.ireturn, 1) := by decide +kernel
theorem dX5_asks_0 : decode cX5_asks 0 = .ok (.aload_n 0, 1) := by decide +kernel
theorem dX5_asks_1 : decode cX5_asks 1 = .ok (.aload_n 0, 1) := by decide +kernel
theorem dX5_asks_2 : decode cX5_asks 2 = .ok (.iload_n 1, 1) := by decide +kernel
theorem dX5_asks_3 : decode cX5_asks 3 = .ok (.invokevirtual 100, 3) := by decide +kernel
theorem dX5_asks_6 : decode cX5_asks 6 = .ok (.ifCond .ne 7, 3) := by decide +kernel
theorem dX5_asks_9 : decode cX5_asks 9 = .ok (.iconst 1, 1) := by decide +kernel
theorem dX5_asks_10 : decode cX5_asks 10 = .ok (.goto 16, 3) := by decide +kernel
theorem dX5_asks_13 : decode cX5_asks 13 = .ok (.iload_n 2, 1) := by decide +kernel
theorem dX5_asks_14 : decode cX5_asks 14 = .ok (.iload_n 3, 1) := by decide +kernel
theorem dX5_asks_15 : decode cX5_asks 15 = .ok (.invokestatic 94, 3) := by decide +kernel
theorem dX5_asks_18 : decode cX5_asks 18 = .ok (.ifCond .eq 7, 3) := by decide +kernel
theorem dX5_asks_21 : decode cX5_asks 21 = .ok (.iconst 0, 1) := by decide +kernel
theorem dX5_asks_22 : decode cX5_asks 22 = .ok (.goto 4, 3) := by decide +kernel
theorem dX5_asks_25 : decode cX5_asks 25 = .ok (.iconst 2, 1) := by decide +kernel
theorem dX5_asks_26 : decode cX5_asks 26 = .ok (.putfield 53, 3) := by decide +kernel
theorem dX5_asks_29 : decode cX5_asks 29 = .ok (.aload_n 0, 1) := by decide +kernel
theorem dX5_asks_30 : decode cX5_asks 30 = .ok (.getfield 53, 3) := by decide +kernel
theorem dX5_asks_33 : decode cX5_asks 33 = .ok (.ifCond .ne 7, 3) := by decide +kernel
theorem dX5_asks_36 : decode cX5_asks 36 = .ok (.iconst 1, 1) := by decide +kernel
theorem dX5_asks_37 : decode cX5_asks 37 = .ok (.goto 4, 3) := by decide +kernel
theorem dX5_asks_40 : decode cX5_asks 40 = .ok (.iconst 0, 1) := by decide +kernel
theorem dX5_asks_41 : decode cX5_asks 41 = .ok (.ireturn, 1) := by decide +kernel
theorem dX5_sector_0 : decode cX5_sector 0 = .ok (.aload_n 0, 1) := by decide +kernel
theorem dX5_sector_1 : decode cX5_sector 1 = .ok (.iload_n 1, 1) := by decide +kernel
theorem dX5_sector_2 : decode cX5_sector 2 = .ok (.iload_n 2, 1) := by decide +kernel
theorem dX5_sector_3 : decode cX5_sector 3 = .ok (.iload_n 3, 1) := by decide +kernel
theorem dX5_sector_4 : decode cX5_sector 4 = .ok (.invokevirtual 111, 3) := by decide +kernel
theorem dX5_sector_7 : decode cX5_sector 7 = .ok (.ifCond .eq 13, 3) := by decide +kernel
theorem dX5_sector_10 : decode cX5_sector 10 = .ok (.aload_n 0, 1) := by decide +kernel
theorem dX5_sector_11 : decode cX5_sector 11 = .ok (.iload_n 1, 1) := by decide +kernel
theorem dX5_sector_12 : decode cX5_sector 12 = .ok (.iload_n 2, 1) := by decide +kernel
theorem dX5_sector_13 : decode cX5_sector 13 = .ok (.iload_n 3, 1) := by decide +kernel
theorem dX5_sector_14 : decode cX5_sector 14 = .ok (.invokevirtual 107, 3) := by decide +kernel
theorem dX5_sector_17 : decode cX5_sector 17 = .ok (.goto 4, 3) := by decide +kernel
theorem dX5_sector_20 : decode cX5_sector 20 = .ok (.iconst 0, 1) := by decide +kernel
theorem dX5_sector_21 : decode cX5_sector 21 = .ok (.ireturn, 1) := by decide +kernel
theorem dX5_isSeen_0 : decode cX5_isSeen 0 = .ok (.aload_n 0, 1) := by decide +kernel
theorem dX5_isSeen_1 : decode cX5_isSeen 1 = .ok (.iload_n 1, 1) := by decide +kernel
theorem dX5_isSeen_2 : decode cX5_isSeen 2 = .ok (.iload_n 2, 1) := by decide +kernel
theorem dX5_isSeen_3 : decode cX5_isSeen 3 = .ok (.iload_n 3, 1) := by decide +kernel
theorem dX5_isSeen_4 : decode cX5_isSeen 4 = .ok (.invokevirtual 111, 3) := by decide +kernel
theorem dX5_isSeen_7 : decode cX5_isSeen 7 = .ok (.ifCond .eq 17, 3) := by decide +kernel
theorem dX5_isSeen_10 : decode cX5_isSeen 10 = .ok (.aload_n 0, 1) := by decide +kernel
theorem dX5_isSeen_11 : decode cX5_isSeen 11 = .ok (.iload_n 1, 1) := by decide +kernel
theorem dX5_isSeen_12 : decode cX5_isSeen 12 = .ok (.iload_n 2, 1) := by decide +kernel
theorem dX5_isSeen_13 : decode cX5_isSeen 13 = .ok (.iload_n 3, 1) := by decide +kernel
theorem dX5_isSeen_14 : decode cX5_isSeen 14 = .ok (.invokevirtual 114, 3) := by decide +kernel
theorem dX5_isSeen_17 : decode cX5_isSeen 17 = .ok (.ifCond .eq 7, 3) := by decide +kernel
theorem dX5_isSeen_20 : decode cX5_isSeen 20 = .ok (.iconst 1, 1) := by decide +kernel
theorem dX5_isSeen_21 : decode cX5_isSeen 21 = .ok (.goto 4, 3) := by decide +kernel
theorem dX5_isSeen_24 : decode cX5_isSeen 24 = .ok (.iconst 0, 1) := by decide +kernel
theorem dX5_isSeen_25 : decode cX5_isSeen 25 = .ok (.ireturn, 1) := by decide +kernel
theorem dX5_both_0 : decode cX5_both 0 = .ok (.iconst 0, 1) := by decide +kernel
theorem dX5_both_1 : decode cX5_both 1 = .ok (.istore_n 3, 1) := by decide +kernel
theorem dX5_both_2 : decode cX5_both 2 = .ok (.iconst 0, 1) := by decide +kernel
theorem dX5_both_3 : decode cX5_both 3 = .ok (.istore 4, 2) := by decide +kernel
theorem dX5_both_5 : decode cX5_both 5 = .ok (.iload 4, 2) := by decide +kernel
theorem dX5_both_7 : decode cX5_both 7 = .ok (.sipush 1024, 3) := by decide +kernel
theorem dX5_both_10 : decode cX5_both 10 = .ok (.if_icmp .ge 53, 3) := by decide +kernel
theorem dX5_both_13 : decode cX5_both 13 = .ok (.iload_n 3, 1) := by decide +kernel
theorem dX5_both_14 : decode cX5_both 14 = .ok (.aload_n 0, 1) := by decide +kernel
theorem dX5_both_15 : decode cX5_both 15 = .ok (.iload_n 1, 1) := by decide +kernel
theorem dX5_both_16 : decode cX5_both 16 = .ok (.iload 4, 2) := by decide +kernel
theorem dX5_both_18 : decode cX5_both 18 = .ok (.bipush 32, 2) := by decide +kernel
theorem dX5_both_20 : decode cX5_both 20 = .ok (.irem, 1) := by decide +kernel
theorem dX5_both_21 : decode cX5_both 21 = .ok (.iload 4, 2) := by decide +kernel
theorem dX5_both_23 : decode cX5_both 23 = .ok (.bipush 32, 2) := by decide +kernel
theorem dX5_both_25 : decode cX5_both 25 = .ok (.idiv, 1) := by decide +kernel
theorem dX5_both_26 : decode cX5_both 26 = .ok (.invokevirtual 114, 3) := by decide +kernel
theorem dX5_both_29 : decode cX5_both 29 = .ok (.ifCond .eq 25, 3) := by decide +kernel
theorem dX5_both_32 : decode cX5_both 32 = .ok (.aload_n 0, 1) := by decide +kernel
theorem dX5_both_33 : decode cX5_both 33 = .ok (.iload_n 2, 1) := by decide +kernel
theorem dX5_both_34 : decode cX5_both 34 = .ok (.iload 4, 2) := by decide +kernel
theorem dX5_both_36 : decode cX5_both 36 = .ok (.bipush 32, 2) := by decide +kernel
theorem dX5_both_38 : decode cX5_both 38 = .ok (.irem, 1) := by decide +kernel
theorem dX5_both_39 : decode cX5_both 39 = .ok (.iload 4, 2) := by decide +kernel
theorem dX5_both_41 : decode cX5_both 41 = .ok (.bipush 32, 2) := by decide +kernel
theorem dX5_both_43 : decode cX5_both 43 = .ok (.idiv, 1) := by decide +kernel
theorem dX5_both_44 : decode cX5_both 44 = .ok (.invokevirtual 114, 3) := by decide +kernel
theorem dX5_both_47 : decode cX5_both 47 = .ok (.ifCond .eq 7, 3) := by decide +kernel
theorem dX5_both_50 : decode cX5_both 50 = .ok (.iconst 1, 1) := by decide +kernel
theorem dX5_both_51 : decode cX5_both 51 = .ok (.goto 4, 3) := by decide +kernel
theorem dX5_both_54 : decode cX5_both 54 = .ok (.iconst 0, 1) := by decide +kernel
theorem dX5_both_55 : decode cX5_both 55 = .ok (.iadd, 1) := by decide +kernel
theorem dX5_both_56 : decode cX5_both 56 = .ok (.istore_n 3, 1) := by decide +kernel
theorem dX5_both_57 : decode cX5_both 57 = .ok (.iinc 4 1, 3) := by decide +kernel
theorem dX5_both_60 : decode cX5_both 60 = .ok (.goto (-55), 3) := by decide +kernel
theorem dX5_both_63 : decode cX5_both 63 = .ok (.iload_n 3, 1) := by decide +kernel
theorem dX5_both_64 : decode cX5_both 64 = .ok (.ireturn, 1) := by decide +kernel
theorem dX5_common_0 : decode cX5_common 0 = .ok (.aload_n 0, 1) := by decide +kernel
theorem dX5_common_1 : decode cX5_common 1 = .ok (.aload_n 0, 1) := by decide +kernel
theorem dX5_common_2 : decode cX5_common 2 = .ok (.iload_n 1, 1) := by decide +kernel
theorem dX5_common_3 : decode cX5_common 3 = .ok (.invokevirtual 100, 3) := by decide +kernel
theorem dX5_common_6 : decode cX5_common 6 = .ok (.ifCond .eq 15, 3) := by decide +kernel
theorem dX5_common_9 : decode cX5_common 9 = .ok (.aload_n 0, 1) := by decide +kernel
theorem dX5_common_10 : decode cX5_common 10 = .ok (.iload_n 2, 1) := by decide +kernel
theorem dX5_common_11 : decode cX5_common 11 = .ok (.invokevirtual 100, 3) := by decide +kernel
theorem dX5_common_14 : decode cX5_common 14 = .ok (.ifCond .eq 7, 3) := by decide +kernel
theorem dX5_common_17 : decode cX5_common 17 = .ok (.iconst 0, 1) := by decide +kernel
theorem dX5_common_18 : decode cX5_common 18 = .ok (.goto 4, 3) := by decide +kernel
theorem dX5_common_21 : decode cX5_common 21 = .ok (.iconst 1, 1) := by decide +kernel
theorem dX5_common_22 : decode cX5_common 22 = .ok (.putfield 53, 3) := by decide +kernel
theorem dX5_common_25 : decode cX5_common 25 = .ok (.aload_n 0, 1) := by decide +kernel
theorem dX5_common_26 : decode cX5_common 26 = .ok (.getfield 53, 3) := by decide +kernel
theorem dX5_common_29 : decode cX5_common 29 = .ok (.ifCond .le 7, 3) := by decide +kernel
theorem dX5_common_32 : decode cX5_common 32 = .ok (.iconst 0, 1) := by decide +kernel
theorem dX5_common_33 : decode cX5_common 33 = .ok (.goto 9, 3) := by decide +kernel
theorem dX5_common_36 : decode cX5_common 36 = .ok (.aload_n 0, 1) := by decide +kernel
theorem dX5_common_37 : decode cX5_common 37 = .ok (.iload_n 1, 1) := by decide +kernel
theorem dX5_common_38 : decode cX5_common 38 = .ok (.iload_n 2, 1) := by decide +kernel
theorem dX5_common_39 : decode cX5_common 39 = .ok (.invokevirtual 117, 3) := by decide +kernel
theorem dX5_common_42 : decode cX5_common 42 = .ok (.ireturn, 1) := by decide +kernel
theorem dX5_clashes_0 : decode cX5_clashes 0 = .ok (.aload_n 0, 1) := by decide +kernel
theorem dX5_clashes_1 : decode cX5_clashes 1 = .ok (.iconst 0, 1) := by decide +kernel
theorem dX5_clashes_2 : decode cX5_clashes 2 = .ok (.putfield 53, 3) := by decide +kernel
theorem dX5_clashes_5 : decode cX5_clashes 5 = .ok (.iconst 0, 1) := by decide +kernel
theorem dX5_clashes_6 : decode cX5_clashes 6 = .ok (.istore_n 1, 1) := by decide +kernel
theorem dX5_clashes_7 : decode cX5_clashes 7 = .ok (.iconst 0, 1) := by decide +kernel
theorem dX5_clashes_8 : decode cX5_clashes 8 = .ok (.istore_n 2, 1) := by decide +kernel
theorem dX5_clashes_9 : decode cX5_clashes 9 = .ok (.iload_n 2, 1) := by decide +kernel
theorem dX5_clashes_10 : decode cX5_clashes 10 = .ok (.aload_n 0, 1) := by decide +kernel
theorem dX5_clashes_11 : decode cX5_clashes 11 = .ok (.getfield 64, 3) := by decide +kernel
theorem dX5_clashes_14 : decode cX5_clashes 14 = .ok (.if_icmp .ge 58, 3) := by decide +kernel
theorem dX5_clashes_17 : decode cX5_clashes 17 = .ok (.iconst 0, 1) := by decide +kernel
theorem dX5_clashes_18 : decode cX5_clashes 18 = .ok (.istore_n 3, 1) := by decide +kernel
theorem dX5_clashes_19 : decode cX5_clashes 19 = .ok (.iload_n 3, 1) := by decide +kernel
theorem dX5_clashes_20 : decode cX5_clashes 20 = .ok (.iload_n 2, 1) := by decide +kernel
theorem dX5_clashes_21 : decode cX5_clashes 21 = .ok (.if_icmp .ge 45, 3) := by decide +kernel
theorem dX5_clashes_24 : decode cX5_clashes 24 = .ok (.iload_n 1, 1) := by decide +kernel
theorem dX5_clashes_25 : decode cX5_clashes 25 = .ok (.aload_n 0, 1) := by decide +kernel
theorem dX5_clashes_26 : decode cX5_clashes 26 = .ok (.aload_n 0, 1) := by decide +kernel
theorem dX5_clashes_27 : decode cX5_clashes 27 = .ok (.getfield 28, 3) := by decide +kernel
theorem dX5_clashes_30 : decode cX5_clashes 30 = .ok (.iload_n 2, 1) := by decide +kernel
theorem dX5_clashes_31 : decode cX5_clashes 31 = .ok (.iaload, 1) := by decide +kernel
theorem dX5_clashes_32 : decode cX5_clashes 32 = .ok (.aload_n 0, 1) := by decide +kernel
theorem dX5_clashes_33 : decode cX5_clashes 33 = .ok (.getfield 28, 3) := by decide +kernel
theorem dX5_clashes_36 : decode cX5_clashes 36 = .ok (.iload_n 3, 1) := by decide +kernel
theorem dX5_clashes_37 : decode cX5_clashes 37 = .ok (.iaload, 1) := by decide +kernel
theorem dX5_clashes_38 : decode cX5_clashes 38 = .ok (.invokevirtual 85, 3) := by decide +kernel
theorem dX5_clashes_41 : decode cX5_clashes 41 = .ok (.ifCond .eq 16, 3) := by decide +kernel
theorem dX5_clashes_44 : decode cX5_clashes 44 = .ok (.aload_n 0, 1) := by decide +kernel
theorem dX5_clashes_45 : decode cX5_clashes 45 = .ok (.iload_n 2, 1) := by decide +kernel
theorem dX5_clashes_46 : decode cX5_clashes 46 = .ok (.iload_n 3, 1) := by decide +kernel
theorem dX5_clashes_47 : decode cX5_clashes 47 = .ok (.invokevirtual 117, 3) := by decide +kernel
theorem dX5_clashes_50 : decode cX5_clashes 50 = .ok (.ifCond .le 7, 3) := by decide +kernel
theorem dX5_clashes_53 : decode cX5_clashes 53 = .ok (.iconst 1, 1) := by decide +kernel
theorem dX5_clashes_54 : decode cX5_clashes 54 = .ok (.goto 4, 3) := by decide +kernel
theorem dX5_clashes_57 : decode cX5_clashes 57 = .ok (.iconst 0, 1) := by decide +kernel
theorem dX5_clashes_58 : decode cX5_clashes 58 = .ok (.iadd, 1) := by decide +kernel
theorem dX5_clashes_59 : decode cX5_clashes 59 = .ok (.istore_n 1, 1) := by decide +kernel
theorem dX5_clashes_60 : decode cX5_clashes 60 = .ok (.iinc 3 1, 3) := by decide +kernel
theorem dX5_clashes_63 : decode cX5_clashes 63 = .ok (.goto (-44), 3) := by decide +kernel
theorem dX5_clashes_66 : decode cX5_clashes 66 = .ok (.iinc 2 1, 3) := by decide +kernel
theorem dX5_clashes_69 : decode cX5_clashes 69 = .ok (.goto (-60), 3) := by decide +kernel
theorem dX5_clashes_72 : decode cX5_clashes 72 = .ok (.iload_n 1, 1) := by decide +kernel
theorem dX5_clashes_73 : decode cX5_clashes 73 = .ok (.ireturn, 1) := by decide +kernel
theorem dX5_notices_0 : decode cX5_notices 0 = .ok (.aload_n 0, 1) := by decide +kernel
theorem dX5_notices_1 : decode cX5_notices 1 = .ok (.iconst 0, 1) := by decide +kernel
theorem dX5_notices_2 : decode cX5_notices 2 = .ok (.putfield 53, 3) := by decide +kernel
theorem dX5_notices_5 : decode cX5_notices 5 = .ok (.aload_n 0, 1) := by decide +kernel
theorem dX5_notices_6 : decode cX5_notices 6 = .ok (.getfield 91, 3) := by decide +kernel
theorem dX5_notices_9 : decode cX5_notices 9 = .ok (.ireturn, 1) := by decide +kernel
theorem dX5_puts_0 : decode cX5_puts 0 = .ok (.iconst 0, 1) := by decide +kernel
theorem dX5_puts_1 : decode cX5_puts 1 = .ok (.istore_n 3, 1) := by decide +kernel
theorem dX5_puts_2 : decode cX5_puts 2 = .ok (.iload_n 3, 1) := by decide +kernel
theorem dX5_puts_3 : decode cX5_puts 3 = .ok (.iload_n 2, 1) := by decide +kernel
theorem dX5_puts_4 : decode cX5_puts 4 = .ok (.if_icmp .ge 79, 3) := by decide +kernel
theorem dX5_puts_7 : decode cX5_puts 7 = .ok (.aload_n 0, 1) := by decide +kernel
theorem dX5_puts_8 : decode cX5_puts 8 = .ok (.getfield 47, 3) := by decide +kernel
theorem dX5_puts_11 : decode cX5_puts 11 = .ok (.iload_n 1, 1) := by decide +kernel
theorem dX5_puts_12 : decode cX5_puts 12 = .ok (.iaload, 1) := by decide +kernel
theorem dX5_puts_13 : decode cX5_puts 13 = .ok (.aload_n 0, 1) := by decide +kernel
theorem dX5_puts_14 : decode cX5_puts 14 = .ok (.getfield 91, 3) := by decide +kernel
theorem dX5_puts_17 : decode cX5_puts 17 = .ok (.if_icmp .ge 66, 3) := by decide +kernel
theorem dX5_puts_20 : decode cX5_puts 20 = .ok (.aload_n 0, 1) := by decide +kernel
theorem dX5_puts_21 : decode cX5_puts 21 = .ok (.getfield 44, 3) := by decide +kernel
theorem dX5_puts_24 : decode cX5_puts 24 = .ok (.aload_n 0, 1) := by decide +kernel
theorem dX5_puts_25 : decode cX5_puts 25 = .ok (.getfield 47, 3) := by decide +kernel
theorem dX5_puts_28 : decode cX5_puts 28 = .ok (.iload_n 1, 1) := by decide +kernel
theorem dX5_puts_29 : decode cX5_puts 29 = .ok (.iaload, 1) := by decide +kernel
theorem dX5_puts_30 : decode cX5_puts 30 = .ok (.iaload, 1) := by decide +kernel
theorem dX5_puts_31 : decode cX5_puts 31 = .ok (.istore 4, 2) := by decide +kernel
theorem dX5_puts_33 : decode cX5_puts 33 = .ok (.aload_n 0, 1) := by decide +kernel
theorem dX5_puts_34 : decode cX5_puts 34 = .ok (.getfield 50, 3) := by decide +kernel
theorem dX5_puts_37 : decode cX5_puts 37 = .ok (.bipush 12, 2) := by decide +kernel
theorem dX5_puts_39 : decode cX5_puts 39 = .ok (.iload_n 1, 1) := by decide +kernel
theorem dX5_puts_40 : decode cX5_puts 40 = .ok (.imul, 1) := by decide +kernel
theorem dX5_puts_41 : decode cX5_puts 41 = .ok (.iload 4, 2) := by decide +kernel
theorem dX5_puts_43 : decode cX5_puts 43 = .ok (.bipush 32, 2) := by decide +kernel
theorem dX5_puts_45 : decode cX5_puts 45 = .ok (.idiv, 1) := by decide +kernel
theorem dX5_puts_46 : decode cX5_puts 46 = .ok (.iadd, 1) := by decide +kernel
theorem dX5_puts_47 : decode cX5_puts 47 = .ok (.iload 4, 2) := by decide +kernel
theorem dX5_puts_49 : decode cX5_puts 49 = .ok (.bipush 32, 2) := by decide +kernel
theorem dX5_puts_51 : decode cX5_puts 51 = .ok (.irem, 1) := by decide +kernel
theorem dX5_puts_52 : decode cX5_puts 52 = .ok (.bipush 31, 2) := by decide +kernel
theorem dX5_puts_54 : decode cX5_puts 54 = .ok (.if_icmp .ne 7, 3) := by decide +kernel
theorem dX5_puts_57 : decode cX5_puts 57 = .ok (.iconst (-1), 1) := by decide +kernel
theorem dX5_puts_58 : decode cX5_puts 58 = .ok (.goto 8, 3) := by decide +kernel
theorem dX5_puts_61 : decode cX5_puts 61 = .ok (.iload 4, 2) := by decide +kernel
theorem dX5_puts_63 : decode cX5_puts 63 = .ok (.bipush 32, 2) := by decide +kernel
theorem dX5_puts_65 : decode cX5_puts 65 = .ok (.irem, 1) := by decide +kernel
theorem dX5_puts_66 : decode cX5_puts 66 = .ok (.iastore, 1) := by decide +kernel
theorem dX5_puts_67 : decode cX5_puts 67 = .ok (.aload_n 0, 1) := by decide +kernel
theorem dX5_puts_68 : decode cX5_puts 68 = .ok (.getfield 47, 3) := by decide +kernel
theorem dX5_puts_71 : decode cX5_puts 71 = .ok (.iload_n 1, 1) := by decide +kernel
theorem dX5_puts_72 : decode cX5_puts 72 = .ok (.dup2, 1) := by decide +kernel
theorem dX5_puts_73 : decode cX5_puts 73 = .ok (.iaload, 1) := by decide +kernel
theorem dX5_puts_74 : decode cX5_puts 74 = .ok (.iconst 1, 1) := by decide +kernel
theorem dX5_puts_75 : decode cX5_puts 75 = .ok (.iadd, 1) := by decide +kernel
theorem dX5_puts_76 : decode cX5_puts 76 = .ok (.iastore, 1) := by decide +kernel
theorem dX5_puts_77 : decode cX5_puts 77 = .ok (.iinc 3 1, 3) := by decide +kernel
theorem dX5_puts_80 : decode cX5_puts 80 = .ok (.goto (-78), 3) := by decide +kernel
theorem dX5_puts_83 : decode cX5_puts 83 = .ok (.iload_n 3, 1) := by decide +kernel
theorem dX5_puts_84 : decode cX5_puts 84 = .ok (.ireturn, 1) := by decide +kernel
theorem dX5_print_0 : decode cX5_print 0 = .ok (.aload_n 0, 1) := by decide +kernel
theorem dX5_print_1 : decode cX5_print 1 = .ok (.aload_n 0, 1) := by decide +kernel
theorem dX5_print_2 : decode cX5_print 2 = .ok (.getfield 67, 3) := by decide +kernel
theorem dX5_print_5 : decode cX5_print 5 = .ok (.bipush 10, 2) := by decide +kernel
theorem dX5_print_7 : decode cX5_print 7 = .ok (.if_icmp .ne 7, 3) := by decide +kernel
theorem dX5_print_10 : decode cX5_print 10 = .ok (.iconst 1, 1) := by decide +kernel
theorem dX5_print_11 : decode cX5_print 11 = .ok (.goto 4, 3) := by decide +kernel
theorem dX5_print_14 : decode cX5_print 14 = .ok (.iconst 0, 1) := by decide +kernel
theorem dX5_print_15 : decode cX5_print 15 = .ok (.putfield 53, 3) := by decide +kernel
theorem dX5_print_18 : decode cX5_print 18 = .ok (.aload_n 0, 1) := by decide +kernel
theorem dX5_print_19 : decode cX5_print 19 = .ok (.getfield 53, 3) := by decide +kernel
theorem dX5_print_22 : decode cX5_print 22 = .ok (.ifCond .le 5, 3) := by decide +kernel
theorem dX5_print_25 : decode cX5_print 25 = .ok (.iconst 0, 1) := by decide +kernel
theorem dX5_print_26 : decode cX5_print 26 = .ok (.ireturn, 1) := by decide +kernel
theorem dX5_print_27 : decode cX5_print 27 = .ok (.iconst 0, 1) := by decide +kernel
theorem dX5_print_28 : decode cX5_print 28 = .ok (.istore_n 1, 1) := by decide +kernel
theorem dX5_print_29 : decode cX5_print 29 = .ok (.iload_n 1, 1) := by decide +kernel
theorem dX5_print_30 : decode cX5_print 30 = .ok (.bipush 12, 2) := by decide +kernel
theorem dX5_print_32 : decode cX5_print 32 = .ok (.if_icmp .ge 24, 3) := by decide +kernel
theorem dX5_print_35 : decode cX5_print 35 = .ok (.aload_n 0, 1) := by decide +kernel
theorem dX5_print_36 : decode cX5_print 36 = .ok (.getfield 50, 3) := by decide +kernel
theorem dX5_print_39 : decode cX5_print 39 = .ok (.bipush 12, 2) := by decide +kernel
theorem dX5_print_41 : decode cX5_print 41 = .ok (.aload_n 0, 1) := by decide +kernel
theorem dX5_print_42 : decode cX5_print 42 = .ok (.getfield 67, 3) := by decide +kernel
theorem dX5_print_45 : decode cX5_print 45 = .ok (.imul, 1) := by decide +kernel
theorem dX5_print_46 : decode cX5_print 46 = .ok (.iload_n 1, 1) := by decide +kernel
theorem dX5_print_47 : decode cX5_print 47 = .ok (.iadd, 1) := by decide +kernel
theorem dX5_print_48 : decode cX5_print 48 = .ok (.iconst (-1), 1) := by decide +kernel
theorem dX5_print_49 : decode cX5_print 49 = .ok (.iastore, 1) := by decide +kernel
theorem dX5_print_50 : decode cX5_print 50 = .ok (.iinc 1 1, 3) := by decide +kernel
theorem dX5_print_53 : decode cX5_print 53 = .ok (.goto (-24), 3) := by decide +kernel
theorem dX5_print_56 : decode cX5_print 56 = .ok (.aload_n 0, 1) := by decide +kernel
theorem dX5_print_57 : decode cX5_print 57 = .ok (.aload_n 0, 1) := by decide +kernel
theorem dX5_print_58 : decode cX5_print 58 = .ok (.getfield 67, 3) := by decide +kernel
theorem dX5_print_61 : decode cX5_print 61 = .ok (.aload_n 0, 1) := by decide +kernel
theorem dX5_print_62 : decode cX5_print 62 = .ok (.getfield 91, 3) := by decide +kernel
theorem dX5_print_65 : decode cX5_print 65 = .ok (.invokevirtual 121, 3) := by decide +kernel
theorem dX5_print_68 : decode cX5_print 68 = .ok (.pop, 1) := by decide +kernel
theorem dX5_print_69 : decode cX5_print 69 = .ok (.aload_n 0, 1) := by decide +kernel
theorem dX5_print_70 : decode cX5_print 70 = .ok (.dup, 1) := by decide +kernel
theorem dX5_print_71 : decode cX5_print 71 = .ok (.getfield 67, 3) := by decide +kernel
theorem dX5_print_74 : decode cX5_print 74 = .ok (.iconst 1, 1) := by decide +kernel
theorem dX5_print_75 : decode cX5_print 75 = .ok (.iadd, 1) := by decide +kernel
theorem dX5_print_76 : decode cX5_print 76 = .ok (.putfield 67, 3) := by decide +kernel
theorem dX5_print_79 : decode cX5_print 79 = .ok (.aload_n 0, 1) := by decide +kernel
theorem dX5_print_80 : decode cX5_print 80 = .ok (.getfield 67, 3) := by decide +kernel
theorem dX5_print_83 : decode cX5_print 83 = .ok (.iconst 1, 1) := by decide +kernel
theorem dX5_print_84 : decode cX5_print 84 = .ok (.isub, 1) := by decide +kernel
theorem dX5_print_85 : decode cX5_print 85 = .ok (.ireturn, 1) := by decide +kernel
theorem dX5_correct_0 : decode cX5_correct 0 = .ok (.aload_n 0, 1) := by decide +kernel
theorem dX5_correct_1 : decode cX5_correct 1 = .ok (.aload_n 0, 1) := by decide +kernel
theorem dX5_correct_2 : decode cX5_correct 2 = .ok (.iload_n 1, 1) := by decide +kernel
theorem dX5_correct_3 : decode cX5_correct 3 = .ok (.invokevirtual 124, 3) := by decide +kernel
theorem dX5_correct_6 : decode cX5_correct 6 = .ok (.ifCond .ne 7, 3) := by decide +kernel
theorem dX5_correct_9 : decode cX5_correct 9 = .ok (.iconst 1, 1) := by decide +kernel
theorem dX5_correct_10 : decode cX5_correct 10 = .ok (.goto 18, 3) := by decide +kernel
theorem dX5_correct_13 : decode cX5_correct 13 = .ok (.iload_n 2, 1) := by decide +kernel
theorem dX5_correct_14 : decode cX5_correct 14 = .ok (.iconst 1, 1) := by decide +kernel
theorem dX5_correct_15 : decode cX5_correct 15 = .ok (.bipush 100, 2) := by decide +kernel
theorem dX5_correct_17 : decode cX5_correct 17 = .ok (.invokestatic 60, 3) := by decide +kernel
theorem dX5_correct_20 : decode cX5_correct 20 = .ok (.ifCond .eq 7, 3) := by decide +kernel
theorem dX5_correct_23 : decode cX5_correct 23 = .ok (.iconst 0, 1) := by decide +kernel
theorem dX5_correct_24 : decode cX5_correct 24 = .ok (.goto 4, 3) := by decide +kernel
theorem dX5_correct_27 : decode cX5_correct 27 = .ok (.iconst 2, 1) := by decide +kernel
theorem dX5_correct_28 : decode cX5_correct 28 = .ok (.putfield 53, 3) := by decide +kernel
theorem dX5_correct_31 : decode cX5_correct 31 = .ok (.aload_n 0, 1) := by decide +kernel
theorem dX5_correct_32 : decode cX5_correct 32 = .ok (.getfield 53, 3) := by decide +kernel
theorem dX5_correct_35 : decode cX5_correct 35 = .ok (.ifCond .le 7, 3) := by decide +kernel
theorem dX5_correct_38 : decode cX5_correct 38 = .ok (.iconst 0, 1) := by decide +kernel
theorem dX5_correct_39 : decode cX5_correct 39 = .ok (.goto 9, 3) := by decide +kernel
theorem dX5_correct_42 : decode cX5_correct 42 = .ok (.aload_n 0, 1) := by decide +kernel
theorem dX5_correct_43 : decode cX5_correct 43 = .ok (.iload_n 1, 1) := by decide +kernel
theorem dX5_correct_44 : decode cX5_correct 44 = .ok (.iload_n 2, 1) := by decide +kernel
theorem dX5_correct_45 : decode cX5_correct 45 = .ok (.invokevirtual 121, 3) := by decide +kernel
theorem dX5_correct_48 : decode cX5_correct 48 = .ok (.ireturn, 1) := by decide +kernel
theorem dX5_behind_0 : decode cX5_behind 0 = .ok (.aload_n 0, 1) := by decide +kernel
theorem dX5_behind_1 : decode cX5_behind 1 = .ok (.aload_n 0, 1) := by decide +kernel
theorem dX5_behind_2 : decode cX5_behind 2 = .ok (.iload_n 1, 1) := by decide +kernel
theorem dX5_behind_3 : decode cX5_behind 3 = .ok (.invokevirtual 124, 3) := by decide +kernel
theorem dX5_behind_6 : decode cX5_behind 6 = .ok (.ifCond .eq 7, 3) := by decide +kernel
theorem dX5_behind_9 : decode cX5_behind 9 = .ok (.iconst 0, 1) := by decide +kernel
theorem dX5_behind_10 : decode cX5_behind 10 = .ok (.goto 4, 3) := by decide +kernel
theorem dX5_behind_13 : decode cX5_behind 13 = .ok (.iconst 1, 1) := by decide +kernel
theorem dX5_behind_14 : decode cX5_behind 14 = .ok (.putfield 53, 3) := by decide +kernel
theorem dX5_behind_17 : decode cX5_behind 17 = .ok (.aload_n 0, 1) := by decide +kernel
theorem dX5_behind_18 : decode cX5_behind 18 = .ok (.getfield 53, 3) := by decide +kernel
theorem dX5_behind_21 : decode cX5_behind 21 = .ok (.ifCond .le 7, 3) := by decide +kernel
theorem dX5_behind_24 : decode cX5_behind 24 = .ok (.iconst 0, 1) := by decide +kernel
theorem dX5_behind_25 : decode cX5_behind 25 = .ok (.goto 14, 3) := by decide +kernel
theorem dX5_behind_28 : decode cX5_behind 28 = .ok (.aload_n 0, 1) := by decide +kernel
theorem dX5_behind_29 : decode cX5_behind 29 = .ok (.getfield 91, 3) := by decide +kernel
theorem dX5_behind_32 : decode cX5_behind 32 = .ok (.aload_n 0, 1) := by decide +kernel
theorem dX5_behind_33 : decode cX5_behind 33 = .ok (.getfield 47, 3) := by decide +kernel
theorem dX5_behind_36 : decode cX5_behind 36 = .ok (.iload_n 1, 1) := by decide +kernel
theorem dX5_behind_37 : decode cX5_behind 37 = .ok (.iaload, 1) := by decide +kernel
theorem dX5_behind_38 : decode cX5_behind 38 = .ok (.isub, 1) := by decide +kernel
theorem dX5_behind_39 : decode cX5_behind 39 = .ok (.ireturn, 1) := by decide +kernel
theorem dX5_shown_0 : decode cX5_shown 0 = .ok (.aload_n 0, 1) := by decide +kernel
theorem dX5_shown_1 : decode cX5_shown 1 = .ok (.aload_n 0, 1) := by decide +kernel
theorem dX5_shown_2 : decode cX5_shown 2 = .ok (.iload_n 1, 1) := by decide +kernel
theorem dX5_shown_3 : decode cX5_shown 3 = .ok (.invokevirtual 124, 3) := by decide +kernel
theorem dX5_shown_6 : decode cX5_shown 6 = .ok (.ifCond .eq 15, 3) := by decide +kernel
theorem dX5_shown_9 : decode cX5_shown 9 = .ok (.aload_n 0, 1) := by decide +kernel
theorem dX5_shown_10 : decode cX5_shown 10 = .ok (.iload_n 2, 1) := by decide +kernel
theorem dX5_shown_11 : decode cX5_shown 11 = .ok (.invokevirtual 100, 3) := by decide +kernel
theorem dX5_shown_14 : decode cX5_shown 14 = .ok (.ifCond .eq 7, 3) := by decide +kernel
theorem dX5_shown_17 : decode cX5_shown 17 = .ok (.iconst 0, 1) := by decide +kernel
theorem dX5_shown_18 : decode cX5_shown 18 = .ok (.goto 4, 3) := by decide +kernel
theorem dX5_shown_21 : decode cX5_shown 21 = .ok (.iconst 1, 1) := by decide +kernel
theorem dX5_shown_22 : decode cX5_shown 22 = .ok (.putfield 53, 3) := by decide +kernel
theorem dX5_shown_25 : decode cX5_shown 25 = .ok (.aload_n 0, 1) := by decide +kernel
theorem dX5_shown_26 : decode cX5_shown 26 = .ok (.getfield 53, 3) := by decide +kernel
theorem dX5_shown_29 : decode cX5_shown 29 = .ok (.ifCond .le 7, 3) := by decide +kernel
theorem dX5_shown_32 : decode cX5_shown 32 = .ok (.iconst 0, 1) := by decide +kernel
theorem dX5_shown_33 : decode cX5_shown 33 = .ok (.goto 14, 3) := by decide +kernel
theorem dX5_shown_36 : decode cX5_shown 36 = .ok (.aload_n 0, 1) := by decide +kernel
theorem dX5_shown_37 : decode cX5_shown 37 = .ok (.getfield 50, 3) := by decide +kernel
theorem dX5_shown_40 : decode cX5_shown 40 = .ok (.bipush 12, 2) := by decide +kernel
theorem dX5_shown_42 : decode cX5_shown 42 = .ok (.iload_n 1, 1) := by decide +kernel
theorem dX5_shown_43 : decode cX5_shown 43 = .ok (.imul, 1) := by decide +kernel
theorem dX5_shown_44 : decode cX5_shown 44 = .ok (.iload_n 2, 1) := by decide +kernel
theorem dX5_shown_45 : decode cX5_shown 45 = .ok (.iadd, 1) := by decide +kernel
theorem dX5_shown_46 : decode cX5_shown 46 = .ok (.iaload, 1) := by decide +kernel
theorem dX5_shown_47 : decode cX5_shown 47 = .ok (.ireturn, 1) := by decide +kernel
theorem dX5_could_0 : decode cX5_could 0 = .ok (.iconst 0, 1) := by decide +kernel
theorem dX5_could_1 : decode cX5_could 1 = .ok (.istore 5, 2) := by decide +kernel
theorem dX5_could_3 : decode cX5_could 3 = .ok (.iconst 0, 1) := by decide +kernel
theorem dX5_could_4 : decode cX5_could 4 = .ok (.istore 6, 2) := by decide +kernel
theorem dX5_could_6 : decode cX5_could 6 = .ok (.iload 6, 2) := by decide +kernel
theorem dX5_could_8 : decode cX5_could 8 = .ok (.aload_n 0, 1) := by decide +kernel
theorem dX5_could_9 : decode cX5_could 9 = .ok (.getfield 19, 3) := by decide +kernel
theorem dX5_could_12 : decode cX5_could 12 = .ok (.iload_n 1, 1) := by decide +kernel
theorem dX5_could_13 : decode cX5_could 13 = .ok (.iaload, 1) := by decide +kernel
theorem dX5_could_14 : decode cX5_could 14 = .ok (.if_icmp .ge 67, 3) := by decide +kernel
theorem dX5_could_17 : decode cX5_could 17 = .ok (.iconst 1, 1) := by decide +kernel
theorem dX5_could_18 : decode cX5_could 18 = .ok (.istore 7, 2) := by decide +kernel
theorem dX5_could_20 : decode cX5_could 20 = .ok (.iconst 0, 1) := by decide +kernel
theorem dX5_could_21 : decode cX5_could 21 = .ok (.istore 8, 2) := by decide +kernel
theorem dX5_could_23 : decode cX5_could 23 = .ok (.iload 8, 2) := by decide +kernel
theorem dX5_could_25 : decode cX5_could 25 = .ok (.iload 4, 2) := by decide +kernel
theorem dX5_could_27 : decode cX5_could 27 = .ok (.if_icmp .ge 41, 3) := by decide +kernel
theorem dX5_could_30 : decode cX5_could 30 = .ok (.iload 7, 2) := by decide +kernel
theorem dX5_could_32 : decode cX5_could 32 = .ok (.aload_n 0, 1) := by decide +kernel
theorem dX5_could_33 : decode cX5_could 33 = .ok (.iload_n 1, 1) := by decide +kernel
theorem dX5_could_34 : decode cX5_could 34 = .ok (.iload 6, 2) := by decide +kernel
theorem dX5_could_36 : decode cX5_could 36 = .ok (.iload 8, 2) := by decide +kernel
theorem dX5_could_38 : decode cX5_could 38 = .ok (.iadd, 1) := by decide +kernel
theorem dX5_could_39 : decode cX5_could 39 = .ok (.invokevirtual 77, 3) := by decide +kernel
theorem dX5_could_42 : decode cX5_could 42 = .ok (.aload_n 0, 1) := by decide +kernel
theorem dX5_could_43 : decode cX5_could 43 = .ok (.iload_n 2, 1) := by decide +kernel
theorem dX5_could_44 : decode cX5_could 44 = .ok (.iload_n 3, 1) := by decide +kernel
theorem dX5_could_45 : decode cX5_could 45 = .ok (.iload 8, 2) := by decide +kernel
theorem dX5_could_47 : decode cX5_could 47 = .ok (.iadd, 1) := by decide +kernel
theorem dX5_could_48 : decode cX5_could 48 = .ok (.invokevirtual 104, 3) := by decide +kernel
theorem dX5_could_51 : decode cX5_could 51 = .ok (.if_icmp .ne 7, 3) := by decide +kernel
theorem dX5_could_54 : decode cX5_could 54 = .ok (.iconst 1, 1) := by decide +kernel
theorem dX5_could_55 : decode cX5_could 55 = .ok (.goto 4, 3) := by decide +kernel
theorem dX5_could_58 : decode cX5_could 58 = .ok (.iconst 0, 1) := by decide +kernel
theorem dX5_could_59 : decode cX5_could 59 = .ok (.iand, 1) := by decide +kernel
theorem dX5_could_60 : decode cX5_could 60 = .ok (.istore 7, 2) := by decide +kernel
theorem dX5_could_62 : decode cX5_could 62 = .ok (.iinc 8 1, 3) := by decide +kernel
theorem dX5_could_65 : decode cX5_could 65 = .ok (.goto (-42), 3) := by decide +kernel
theorem dX5_could_68 : decode cX5_could 68 = .ok (.iload 5, 2) := by decide +kernel
theorem dX5_could_70 : decode cX5_could 70 = .ok (.iload 7, 2) := by decide +kernel
theorem dX5_could_72 : decode cX5_could 72 = .ok (.ior, 1) := by decide +kernel
theorem dX5_could_73 : decode cX5_could 73 = .ok (.istore 5, 2) := by decide +kernel
theorem dX5_could_75 : decode cX5_could 75 = .ok (.iinc 6 1, 3) := by decide +kernel
theorem dX5_could_78 : decode cX5_could 78 = .ok (.goto (-72), 3) := by decide +kernel
theorem dX5_could_81 : decode cX5_could 81 = .ok (.iload 5, 2) := by decide +kernel
theorem dX5_could_83 : decode cX5_could 83 = .ok (.ireturn, 1) := by decide +kernel
theorem dX5_taken_0 : decode cX5_taken 0 = .ok (.iload_n 2, 1) := by decide +kernel
theorem dX5_taken_1 : decode cX5_taken 1 = .ok (.iload_n 3, 1) := by decide +kernel
theorem dX5_taken_2 : decode cX5_taken 2 = .ok (.invokestatic 94, 3) := by decide +kernel
theorem dX5_taken_5 : decode cX5_taken 5 = .ok (.ifCond .eq 30, 3) := by decide +kernel
theorem dX5_taken_8 : decode cX5_taken 8 = .ok (.iload 5, 2) := by decide +kernel
theorem dX5_taken_10 : decode cX5_taken 10 = .ok (.iconst 0, 1) := by decide +kernel
theorem dX5_taken_11 : decode cX5_taken 11 = .ok (.sipush 1000, 3) := by decide +kernel
theorem dX5_taken_14 : decode cX5_taken 14 = .ok (.invokestatic 60, 3) := by decide +kernel
theorem dX5_taken_17 : decode cX5_taken 17 = .ok (.ifCond .eq 18, 3) := by decide +kernel
theorem dX5_taken_20 : decode cX5_taken 20 = .ok (.iload 6, 2) := by decide +kernel
theorem dX5_taken_22 : decode cX5_taken 22 = .ok (.iconst 1, 1) := by decide +kernel
theorem dX5_taken_23 : decode cX5_taken 23 = .ok (.bipush 60, 2) := by decide +kernel
theorem dX5_taken_25 : decode cX5_taken 25 = .ok (.invokestatic 60, 3) := by decide +kernel
theorem dX5_taken_28 : decode cX5_taken 28 = .ok (.ifCond .eq 7, 3) := by decide +kernel
theorem dX5_taken_31 : decode cX5_taken 31 = .ok (.iconst 1, 1) := by decide +kernel
theorem dX5_taken_32 : decode cX5_taken 32 = .ok (.goto 4, 3) := by decide +kernel
theorem dX5_taken_35 : decode cX5_taken 35 = .ok (.iconst 0, 1) := by decide +kernel
theorem dX5_taken_36 : decode cX5_taken 36 = .ok (.istore 7, 2) := by decide +kernel
theorem dX5_taken_38 : decode cX5_taken 38 = .ok (.aload_n 0, 1) := by decide +kernel
theorem dX5_taken_39 : decode cX5_taken 39 = .ok (.aload_n 0, 1) := by decide +kernel
theorem dX5_taken_40 : decode cX5_taken 40 = .ok (.iload_n 1, 1) := by decide +kernel
theorem dX5_taken_41 : decode cX5_taken 41 = .ok (.invokevirtual 124, 3) := by decide +kernel
theorem dX5_taken_44 : decode cX5_taken 44 = .ok (.ifCond .eq 12, 3) := by decide +kernel
theorem dX5_taken_47 : decode cX5_taken 47 = .ok (.aload_n 0, 1) := by decide +kernel
theorem dX5_taken_48 : decode cX5_taken 48 = .ok (.iload 4, 2) := by decide +kernel
theorem dX5_taken_50 : decode cX5_taken 50 = .ok (.invokevirtual 100, 3) := by decide +kernel
theorem dX5_taken_53 : decode cX5_taken 53 = .ok (.ifCond .ne 7, 3) := by decide +kernel
theorem dX5_taken_56 : decode cX5_taken 56 = .ok (.iconst 1, 1) := by decide +kernel
theorem dX5_taken_57 : decode cX5_taken 57 = .ok (.goto 13, 3) := by decide +kernel
theorem dX5_taken_60 : decode cX5_taken 60 = .ok (.iload 7, 2) := by decide +kernel
theorem dX5_taken_62 : decode cX5_taken 62 = .ok (.ifCond .eq 7, 3) := by decide +kernel
theorem dX5_taken_65 : decode cX5_taken 65 = .ok (.iconst 0, 1) := by decide +kernel
theorem dX5_taken_66 : decode cX5_taken 66 = .ok (.goto 4, 3) := by decide +kernel
theorem dX5_taken_69 : decode cX5_taken 69 = .ok (.iconst 2, 1) := by decide +kernel
theorem dX5_taken_70 : decode cX5_taken 70 = .ok (.putfield 53, 3) := by decide +kernel
theorem dX5_taken_73 : decode cX5_taken 73 = .ok (.aload_n 0, 1) := by decide +kernel
theorem dX5_taken_74 : decode cX5_taken 74 = .ok (.getfield 53, 3) := by decide +kernel
theorem dX5_taken_77 : decode cX5_taken 77 = .ok (.ifCond .le 5, 3) := by decide +kernel
theorem dX5_taken_80 : decode cX5_taken 80 = .ok (.iconst 0, 1) := by decide +kernel
theorem dX5_taken_81 : decode cX5_taken 81 = .ok (.ireturn, 1) := by decide +kernel
theorem dX5_taken_82 : decode cX5_taken 82 = .ok (.iconst (-1), 1) := by decide +kernel
theorem dX5_taken_83 : decode cX5_taken 83 = .ok (.istore 8, 2) := by decide +kernel
theorem dX5_taken_85 : decode cX5_taken 85 = .ok (.iconst 0, 1) := by decide +kernel
theorem dX5_taken_86 : decode cX5_taken 86 = .ok (.istore 9, 2) := by decide +kernel
theorem dX5_taken_88 : decode cX5_taken 88 = .ok (.iload 9, 2) := by decide +kernel
theorem dX5_taken_90 : decode cX5_taken 90 = .ok (.aload_n 0, 1) := by decide +kernel
theorem dX5_taken_91 : decode cX5_taken 91 = .ok (.getfield 64, 3) := by decide +kernel
theorem dX5_taken_94 : decode cX5_taken 94 = .ok (.if_icmp .ge 86, 3) := by decide +kernel
theorem dX5_taken_97 : decode cX5_taken 97 = .ok (.aload_n 0, 1) := by decide +kernel
theorem dX5_taken_98 : decode cX5_taken 98 = .ok (.getfield 50, 3) := by decide +kernel
theorem dX5_taken_101 : decode cX5_taken 101 = .ok (.bipush 12, 2) := by decide +kernel
theorem dX5_taken_103 : decode cX5_taken 103 = .ok (.iload_n 1, 1) := by decide +kernel
theorem dX5_taken_104 : decode cX5_taken 104 = .ok (.imul, 1) := by decide +kernel
theorem dX5_taken_105 : decode cX5_taken 105 = .ok (.iload 9, 2) := by decide +kernel
theorem dX5_taken_107 : decode cX5_taken 107 = .ok (.iadd, 1) := by decide +kernel
theorem dX5_taken_108 : decode cX5_taken 108 = .ok (.iaload, 1) := by decide +kernel
theorem dX5_taken_109 : decode cX5_taken 109 = .ok (.istore 10, 2) := by decide +kernel
theorem dX5_taken_111 : decode cX5_taken 111 = .ok (.iload 10, 2) := by decide +kernel
theorem dX5_taken_113 : decode cX5_taken 113 = .ok (.ifCond .lt 33, 3) := by decide +kernel
theorem dX5_taken_116 : decode cX5_taken 116 = .ok (.aload_n 0, 1) := by decide +kernel
theorem dX5_taken_117 : decode cX5_taken 117 = .ok (.iload 9, 2) := by decide +kernel
theorem dX5_taken_119 : decode cX5_taken 119 = .ok (.iload_n 2, 1) := by decide +kernel
theorem dX5_taken_120 : decode cX5_taken 120 = .ok (.iload_n 3, 1) := by decide +kernel
theorem dX5_taken_121 : decode cX5_taken 121 = .ok (.invokevirtual 114, 3) := by decide +kernel
theorem dX5_taken_124 : decode cX5_taken 124 = .ok (.ifCond .eq 22, 3) := by decide +kernel
theorem dX5_taken_127 : decode cX5_taken 127 = .ok (.aload_n 0, 1) := by decide +kernel
theorem dX5_taken_128 : decode cX5_taken 128 = .ok (.iload 10, 2) := by decide +kernel
theorem dX5_taken_130 : decode cX5_taken 130 = .ok (.iload 4, 2) := by decide +kernel
theorem dX5_taken_132 : decode cX5_taken 132 = .ok (.iload 5, 2) := by decide +kernel
theorem dX5_taken_134 : decode cX5_taken 134 = .ok (.iload 6, 2) := by decide +kernel
theorem dX5_taken_136 : decode cX5_taken 136 = .ok (.invokevirtual 127, 3) := by decide +kernel
theorem dX5_taken_139 : decode cX5_taken 139 = .ok (.ifCond .eq 7, 3) := by decide +kernel
theorem dX5_taken_142 : decode cX5_taken 142 = .ok (.iconst 1, 1) := by decide +kernel
theorem dX5_taken_143 : decode cX5_taken 143 = .ok (.goto 4, 3) := by decide +kernel
theorem dX5_taken_146 : decode cX5_taken 146 = .ok (.iconst 0, 1) := by decide +kernel
theorem dX5_taken_147 : decode cX5_taken 147 = .ok (.istore 11, 2) := by decide +kernel
theorem dX5_taken_149 : decode cX5_taken 149 = .ok (.iload 11, 2) := by decide +kernel
theorem dX5_taken_151 : decode cX5_taken 151 = .ok (.ifCond .ne 8, 3) := by decide +kernel
theorem dX5_taken_154 : decode cX5_taken 154 = .ok (.iload 8, 2) := by decide +kernel
theorem dX5_taken_156 : decode cX5_taken 156 = .ok (.goto 16, 3) := by decide +kernel
theorem dX5_taken_159 : decode cX5_taken 159 = .ok (.iload 8, 2) := by decide +kernel
theorem dX5_taken_161 : decode cX5_taken 161 = .ok (.iconst (-1), 1) := by decide +kernel
theorem dX5_taken_162 : decode cX5_taken 162 = .ok (.if_icmp .ne 8, 3) := by decide +kernel
theorem dX5_taken_165 : decode cX5_taken 165 = .ok (.iload 9, 2) := by decide +kernel
theorem dX5_taken_167 : decode cX5_taken 167 = .ok (.goto 5, 3) := by decide +kernel
theorem dX5_taken_170 : decode cX5_taken 170 = .ok (.bipush (-2), 2) := by decide +kernel
theorem dX5_taken_172 : decode cX5_taken 172 = .ok (.istore 8, 2) := by decide +kernel
theorem dX5_taken_174 : decode cX5_taken 174 = .ok (.iinc 9 1, 3) := by decide +kernel
theorem dX5_taken_177 : decode cX5_taken 177 = .ok (.goto (-89), 3) := by decide +kernel
theorem dX5_taken_180 : decode cX5_taken 180 = .ok (.iload 8, 2) := by decide +kernel
theorem dX5_taken_182 : decode cX5_taken 182 = .ok (.ireturn, 1) := by decide +kernel
theorem dJ6_bitCount_0f7a4_0 : decode cJ6_bitCount_0f7a4 0 = .ok (.iload_n 0, 1) := by decide +kernel
theorem dJ6_bitCount_0f7a4_1 : decode cJ6_bitCount_0f7a4 1 = .ok (.iload_n 0, 1) := by decide +kernel
theorem dJ6_bitCount_0f7a4_2 : decode cJ6_bitCount_0f7a4 2 = .ok (.iconst 1, 1) := by decide +kernel
theorem dJ6_bitCount_0f7a4_3 : decode cJ6_bitCount_0f7a4 3 = .ok (.iushr, 1) := by decide +kernel
theorem dJ6_bitCount_0f7a4_4 : decode cJ6_bitCount_0f7a4 4 = .ok (.ldc_w 265, 3) := by decide +kernel
theorem dJ6_bitCount_0f7a4_7 : decode cJ6_bitCount_0f7a4 7 = .ok (.iand, 1) := by decide +kernel
theorem dJ6_bitCount_0f7a4_8 : decode cJ6_bitCount_0f7a4 8 = .ok (.isub, 1) := by decide +kernel
theorem dJ6_bitCount_0f7a4_9 : decode cJ6_bitCount_0f7a4 9 = .ok (.istore_n 0, 1) := by decide +kernel
theorem dJ6_bitCount_0f7a4_10 : decode cJ6_bitCount_0f7a4 10 = .ok (.iload_n 0, 1) := by decide +kernel
theorem dJ6_bitCount_0f7a4_11 : decode cJ6_bitCount_0f7a4 11 = .ok (.ldc_w 266, 3) := by decide +kernel
theorem dJ6_bitCount_0f7a4_14 : decode cJ6_bitCount_0f7a4 14 = .ok (.iand, 1) := by decide +kernel
theorem dJ6_bitCount_0f7a4_15 : decode cJ6_bitCount_0f7a4 15 = .ok (.iload_n 0, 1) := by decide +kernel
theorem dJ6_bitCount_0f7a4_16 : decode cJ6_bitCount_0f7a4 16 = .ok (.iconst 2, 1) := by decide +kernel
theorem dJ6_bitCount_0f7a4_17 : decode cJ6_bitCount_0f7a4 17 = .ok (.iushr, 1) := by decide +kernel
theorem dJ6_bitCount_0f7a4_18 : decode cJ6_bitCount_0f7a4 18 = .ok (.ldc_w 266, 3) := by decide +kernel
theorem dJ6_bitCount_0f7a4_21 : decode cJ6_bitCount_0f7a4 21 = .ok (.iand, 1) := by decide +kernel
theorem dJ6_bitCount_0f7a4_22 : decode cJ6_bitCount_0f7a4 22 = .ok (.iadd, 1) := by decide +kernel
theorem dJ6_bitCount_0f7a4_23 : decode cJ6_bitCount_0f7a4 23 = .ok (.istore_n 0, 1) := by decide +kernel
theorem dJ6_bitCount_0f7a4_24 : decode cJ6_bitCount_0f7a4 24 = .ok (.iload_n 0, 1) := by decide +kernel
theorem dJ6_bitCount_0f7a4_25 : decode cJ6_bitCount_0f7a4 25 = .ok (.iload_n 0, 1) := by decide +kernel
theorem dJ6_bitCount_0f7a4_26 : decode cJ6_bitCount_0f7a4 26 = .ok (.iconst 4, 1) := by decide +kernel
theorem dJ6_bitCount_0f7a4_27 : decode cJ6_bitCount_0f7a4 27 = .ok (.iushr, 1) := by decide +kernel
theorem dJ6_bitCount_0f7a4_28 : decode cJ6_bitCount_0f7a4 28 = .ok (.iadd, 1) := by decide +kernel
theorem dJ6_bitCount_0f7a4_29 : decode cJ6_bitCount_0f7a4 29 = .ok (.ldc_w 267, 3) := by decide +kernel
theorem dJ6_bitCount_0f7a4_32 : decode cJ6_bitCount_0f7a4 32 = .ok (.iand, 1) := by decide +kernel
theorem dJ6_bitCount_0f7a4_33 : decode cJ6_bitCount_0f7a4 33 = .ok (.istore_n 0, 1) := by decide +kernel
theorem dJ6_bitCount_0f7a4_34 : decode cJ6_bitCount_0f7a4 34 = .ok (.iload_n 0, 1) := by decide +kernel
theorem dJ6_bitCount_0f7a4_35 : decode cJ6_bitCount_0f7a4 35 = .ok (.iload_n 0, 1) := by decide +kernel
theorem dJ6_bitCount_0f7a4_36 : decode cJ6_bitCount_0f7a4 36 = .ok (.bipush 8, 2) := by decide +kernel
theorem dJ6_bitCount_0f7a4_38 : decode cJ6_bitCount_0f7a4 38 = .ok (.iushr, 1) := by decide +kernel
theorem dJ6_bitCount_0f7a4_39 : decode cJ6_bitCount_0f7a4 39 = .ok (.iadd, 1) := by decide +kernel
theorem dJ6_bitCount_0f7a4_40 : decode cJ6_bitCount_0f7a4 40 = .ok (.istore_n 0, 1) := by decide +kernel
theorem dJ6_bitCount_0f7a4_41 : decode cJ6_bitCount_0f7a4 41 = .ok (.iload_n 0, 1) := by decide +kernel
theorem dJ6_bitCount_0f7a4_42 : decode cJ6_bitCount_0f7a4 42 = .ok (.iload_n 0, 1) := by decide +kernel
theorem dJ6_bitCount_0f7a4_43 : decode cJ6_bitCount_0f7a4 43 = .ok (.bipush 16, 2) := by decide +kernel
theorem dJ6_bitCount_0f7a4_45 : decode cJ6_bitCount_0f7a4 45 = .ok (.iushr, 1) := by decide +kernel
theorem dJ6_bitCount_0f7a4_46 : decode cJ6_bitCount_0f7a4 46 = .ok (.iadd, 1) := by decide +kernel
theorem dJ6_bitCount_0f7a4_47 : decode cJ6_bitCount_0f7a4 47 = .ok (.istore_n 0, 1) := by decide +kernel
theorem dJ6_bitCount_0f7a4_48 : decode cJ6_bitCount_0f7a4 48 = .ok (.iload_n 0, 1) := by decide +kernel
theorem dJ6_bitCount_0f7a4_49 : decode cJ6_bitCount_0f7a4 49 = .ok (.bipush 63, 2) := by decide +kernel
theorem dJ6_bitCount_0f7a4_51 : decode cJ6_bitCount_0f7a4 51 = .ok (.iand, 1) := by decide +kernel
theorem dJ6_bitCount_0f7a4_52 : decode cJ6_bitCount_0f7a4 52 = .ok (.ireturn, 1) := by decide +kernel
theorem dJ9_abs_0f7a4_0 : decode cJ9_abs_0f7a4 0 = .ok (.iload_n 0, 1) := by decide +kernel
theorem dJ9_abs_0f7a4_1 : decode cJ9_abs_0f7a4 1 = .ok (.ifCond .ge 8, 3) := by decide +kernel
theorem dJ9_abs_0f7a4_4 : decode cJ9_abs_0f7a4 4 = .ok (.iload_n 0, 1) := by decide +kernel
theorem dJ9_abs_0f7a4_5 : decode cJ9_abs_0f7a4 5 = .ok (.ineg, 1) := by decide +kernel
theorem dJ9_abs_0f7a4_6 : decode cJ9_abs_0f7a4 6 = .ok (.goto 4, 3) := by decide +kernel
theorem dJ9_abs_0f7a4_9 : decode cJ9_abs_0f7a4 9 = .ok (.iload_n 0, 1) := by decide +kernel
theorem dJ9_abs_0f7a4_10 : decode cJ9_abs_0f7a4 10 = .ok (.ireturn, 1) := by decide +kernel
theorem dJ9_max_7cf53_0 : decode cJ9_max_7cf53 0 = .ok (.iload_n 0, 1) := by decide +kernel
theorem dJ9_max_7cf53_1 : decode cJ9_max_7cf53 1 = .ok (.iload_n 1, 1) := by decide +kernel
theorem dJ9_max_7cf53_2 : decode cJ9_max_7cf53 2 = .ok (.if_icmp .lt 7, 3) := by decide +kernel
theorem dJ9_max_7cf53_5 : decode cJ9_max_7cf53 5 = .ok (.iload_n 0, 1) := by decide +kernel
theorem dJ9_max_7cf53_6 : decode cJ9_max_7cf53 6 = .ok (.goto 4, 3) := by decide +kernel
theorem dJ9_max_7cf53_9 : decode cJ9_max_7cf53 9 = .ok (.iload_n 1, 1) := by decide +kernel
theorem dJ9_max_7cf53_10 : decode cJ9_max_7cf53 10 = .ok (.ireturn, 1) := by decide +kernel
theorem dJ9_min_7cf53_0 : decode cJ9_min_7cf53 0 = .ok (.iload_n 0, 1) := by decide +kernel
theorem dJ9_min_7cf53_1 : decode cJ9_min_7cf53 1 = .ok (.iload_n 1, 1) := by decide +kernel
theorem dJ9_min_7cf53_2 : decode cJ9_min_7cf53 2 = .ok (.if_icmp .gt 7, 3) := by decide +kernel
theorem dJ9_min_7cf53_5 : decode cJ9_min_7cf53 5 = .ok (.iload_n 0, 1) := by decide +kernel
theorem dJ9_min_7cf53_6 : decode cJ9_min_7cf53 6 = .ok (.goto 4, 3) := by decide +kernel
theorem dJ9_min_7cf53_9 : decode cJ9_min_7cf53 9 = .ok (.iload_n 1, 1) := by decide +kernel
theorem dJ9_min_7cf53_10 : decode cJ9_min_7cf53 10 = .ok (.ireturn, 1) := by decide +kernel
theorem dJxa1e45_init_da8c8_0 : decode cJxa1e45_init_da8c8 0 = .ok (.aload_n 0, 1) := by decide +kernel
theorem dJxa1e45_init_da8c8_1 : decode cJxa1e45_init_da8c8 1 = .ok (.invokespecial 1, 3) := by decide +kernel
theorem dJxa1e45_init_da8c8_4 : decode cJxa1e45_init_da8c8 4 = .ok (.return_, 1) := by decide +kernel
theorem dJxc12de_init_da8c8_0 : decode cJxc12de_init_da8c8 0 = .ok (.aload_n 0, 1) := by decide +kernel
theorem dJxc12de_init_da8c8_1 : decode cJxc12de_init_da8c8 1 = .ok (.invokespecial 1, 3) := by decide +kernel
theorem dJxc12de_init_da8c8_4 : decode cJxc12de_init_da8c8 4 = .ok (.aload_n 0, 1) := by decide +kernel
theorem dJxc12de_init_da8c8_5 : decode cJxc12de_init_da8c8 5 = .ok (.iconst 0, 1) := by decide +kernel
theorem dJxc12de_init_da8c8_6 : decode cJxc12de_init_da8c8 6 = .ok (.putfield 7, 3) := by decide +kernel
theorem dJxc12de_init_da8c8_9 : decode cJxc12de_init_da8c8 9 = .ok (.return_, 1) := by decide +kernel
theorem dJx4a65c_init_da8c8_0 : decode cJx4a65c_init_da8c8 0 = .ok (.aload_n 0, 1) := by decide +kernel
theorem dJx4a65c_init_da8c8_1 : decode cJx4a65c_init_da8c8 1 = .ok (.invokespecial 1, 3) := by decide +kernel
theorem dJx4a65c_init_da8c8_4 : decode cJx4a65c_init_da8c8 4 = .ok (.aload_n 0, 1) := by decide +kernel
theorem dJx4a65c_init_da8c8_5 : decode cJx4a65c_init_da8c8 5 = .ok (.getstatic 39, 3) := by decide +kernel
theorem dJx4a65c_init_da8c8_8 : decode cJx4a65c_init_da8c8 8 = .ok (.putfield 9, 3) := by decide +kernel
theorem dJx4a65c_init_da8c8_11 : decode cJx4a65c_init_da8c8 11 = .ok (.return_, 1) := by decide +kernel
theorem dJx4a65c_grow_92f84_0 : decode cJx4a65c_grow_92f84 0 = .ok (.aload_n 0, 1) := by decide +kernel
theorem dJx4a65c_grow_92f84_1 : decode cJx4a65c_grow_92f84 1 = .ok (.getfield 9, 3) := by decide +kernel
theorem dJx4a65c_grow_92f84_4 : decode cJx4a65c_grow_92f84 4 = .ok (.arraylength, 1) := by decide +kernel
theorem dJx4a65c_grow_92f84_5 : decode cJx4a65c_grow_92f84 5 = .ok (.istore_n 2, 1) := by decide +kernel
theorem dJx4a65c_grow_92f84_6 : decode cJx4a65c_grow_92f84 6 = .ok (.iload_n 2, 1) := by decide +kernel
theorem dJx4a65c_grow_92f84_7 : decode cJx4a65c_grow_92f84 7 = .ok (.ifCond .gt 13, 3) := by decide +kernel
theorem dJx4a65c_grow_92f84_10 : decode cJx4a65c_grow_92f84 10 = .ok (.aload_n 0, 1) := by decide +kernel
theorem dJx4a65c_grow_92f84_11 : decode cJx4a65c_grow_92f84 11 = .ok (.getfield 9, 3) := by decide +kernel
theorem dJx4a65c_grow_92f84_14 : decode cJx4a65c_grow_92f84 14 = .ok (.getstatic 39, 3) := by decide +kernel
theorem dJx4a65c_grow_92f84_17 : decode cJx4a65c_grow_92f84 17 = .ok (.if_acmp .eq 28, 3) := by decide +kernel
theorem dJx4a65c_grow_92f84_20 : decode cJx4a65c_grow_92f84 20 = .ok (.iload_n 2, 1) := by decide +kernel
theorem dJx4a65c_grow_92f84_21 : decode cJx4a65c_grow_92f84 21 = .ok (.iload_n 1, 1) := by decide +kernel
theorem dJx4a65c_grow_92f84_22 : decode cJx4a65c_grow_92f84 22 = .ok (.iload_n 2, 1) := by decide +kernel
theorem dJx4a65c_grow_92f84_23 : decode cJx4a65c_grow_92f84 23 = .ok (.isub, 1) := by decide +kernel
theorem dJx4a65c_grow_92f84_24 : decode cJx4a65c_grow_92f84 24 = .ok (.iload_n 2, 1) := by decide +kernel
theorem dJx4a65c_grow_92f84_25 : decode cJx4a65c_grow_92f84 25 = .ok (.iconst 1, 1) := by decide +kernel
theorem dJx4a65c_grow_92f84_26 : decode cJx4a65c_grow_92f84 26 = .ok (.ishr, 1) := by decide +kernel
theorem dJx4a65c_grow_92f84_27 : decode cJx4a65c_grow_92f84 27 = .ok (.invokestatic 73, 3) := by decide +kernel
theorem dJx4a65c_grow_92f84_30 : decode cJx4a65c_grow_92f84 30 = .ok (.istore_n 3, 1) := by decide +kernel
theorem dJx4a65c_grow_92f84_31 : decode cJx4a65c_grow_92f84 31 = .ok (.aload_n 0, 1) := by decide +kernel
theorem dJx4a65c_grow_92f84_32 : decode cJx4a65c_grow_92f84 32 = .ok (.aload_n 0, 1) := by decide +kernel
theorem dJx4a65c_grow_92f84_33 : decode cJx4a65c_grow_92f84 33 = .ok (.getfield 9, 3) := by decide +kernel
theorem dJx4a65c_grow_92f84_36 : decode cJx4a65c_grow_92f84 36 = .ok (.iload_n 3, 1) := by decide +kernel
theorem dJx4a65c_grow_92f84_37 : decode cJx4a65c_grow_92f84 37 = .ok (.invokestatic 66, 3) := by decide +kernel
theorem dJx4a65c_grow_92f84_40 : decode cJx4a65c_grow_92f84 40 = .ok (.dup_x1, 1) := by decide +kernel
theorem dJx4a65c_grow_92f84_41 : decode cJx4a65c_grow_92f84 41 = .ok (.putfield 9, 3) := by decide +kernel
theorem dJx4a65c_grow_92f84_44 : decode cJx4a65c_grow_92f84 44 = .ok (.areturn, 1) := by decide +kernel
theorem dJx4a65c_grow_92f84_45 : decode cJx4a65c_grow_92f84 45 = .ok (.aload_n 0, 1) := by decide +kernel
theorem dJx4a65c_grow_92f84_46 : decode cJx4a65c_grow_92f84 46 = .ok (.bipush 10, 2) := by decide +kernel
theorem dJx4a65c_grow_92f84_48 : decode cJx4a65c_grow_92f84 48 = .ok (.iload_n 1, 1) := by decide +kernel
theorem dJx4a65c_grow_92f84_49 : decode cJx4a65c_grow_92f84 49 = .ok (.invokestatic 79, 3) := by decide +kernel
theorem dJx4a65c_grow_92f84_52 : decode cJx4a65c_grow_92f84 52 = .ok (.anewarray 7, 3) := by decide +kernel
theorem dJx4a65c_grow_92f84_55 : decode cJx4a65c_grow_92f84 55 = .ok (.dup_x1, 1) := by decide +kernel
theorem dJx4a65c_grow_92f84_56 : decode cJx4a65c_grow_92f84 56 = .ok (.putfield 9, 3) := by decide +kernel
theorem dJx4a65c_grow_92f84_59 : decode cJx4a65c_grow_92f84 59 = .ok (.areturn, 1) := by decide +kernel
theorem dJx4a65c_grow_d5877_0 : decode cJx4a65c_grow_d5877 0 = .ok (.aload_n 0, 1) := by decide +kernel
theorem dJx4a65c_grow_d5877_1 : decode cJx4a65c_grow_d5877 1 = .ok (.aload_n 0, 1) := by decide +kernel
theorem dJx4a65c_grow_d5877_2 : decode cJx4a65c_grow_d5877 2 = .ok (.getfield 48, 3) := by decide +kernel
theorem dJx4a65c_grow_d5877_5 : decode cJx4a65c_grow_d5877 5 = .ok (.iconst 1, 1) := by decide +kernel
theorem dJx4a65c_grow_d5877_6 : decode cJx4a65c_grow_d5877 6 = .ok (.iadd, 1) := by decide +kernel
theorem dJx4a65c_grow_d5877_7 : decode cJx4a65c_grow_d5877 7 = .ok (.invokevirtual 69, 3) := by decide +kernel
theorem dJx4a65c_grow_d5877_10 : decode cJx4a65c_grow_d5877 10 = .ok (.areturn, 1) := by decide +kernel
theorem dJx4a65c_size_8abf5_0 : decode cJx4a65c_size_8abf5 0 = .ok (.aload_n 0, 1) := by decide +kernel
theorem dJx4a65c_size_8abf5_1 : decode cJx4a65c_size_8abf5 1 = .ok (.getfield 48, 3) := by decide +kernel
theorem dJx4a65c_size_8abf5_4 : decode cJx4a65c_size_8abf5 4 = .ok (.ireturn, 1) := by decide +kernel
theorem dJx4a65c_elementData_915e3_0 : decode cJx4a65c_elementData_915e3 0 = .ok (.aload_n 0, 1) := by decide +kernel
theorem dJx4a65c_elementData_915e3_1 : decode cJx4a65c_elementData_915e3 1 = .ok (.getfield 9, 3) := by decide +kernel
theorem dJx4a65c_elementData_915e3_4 : decode cJx4a65c_elementData_915e3 4 = .ok (.iload_n 1, 1) := by decide +kernel
theorem dJx4a65c_elementData_915e3_5 : decode cJx4a65c_elementData_915e3 5 = .ok (.aaload, 1) := by decide +kernel
theorem dJx4a65c_elementData_915e3_6 : decode cJx4a65c_elementData_915e3 6 = .ok (.areturn, 1) := by decide +kernel
theorem dJx4a65c_get_915e3_0 : decode cJx4a65c_get_915e3 0 = .ok (.iload_n 1, 1) := by decide +kernel
theorem dJx4a65c_get_915e3_1 : decode cJx4a65c_get_915e3 1 = .ok (.aload_n 0, 1) := by decide +kernel
theorem dJx4a65c_get_915e3_2 : decode cJx4a65c_get_915e3 2 = .ok (.getfield 48, 3) := by decide +kernel
theorem dJx4a65c_get_915e3_5 : decode cJx4a65c_get_915e3 5 = .ok (.invokestatic 118, 3) := by decide +kernel
theorem dJx4a65c_get_915e3_8 : decode cJx4a65c_get_915e3 8 = .ok (.pop, 1) := by decide +kernel
theorem dJx4a65c_get_915e3_9 : decode cJx4a65c_get_915e3 9 = .ok (.aload_n 0, 1) := by decide +kernel
theorem dJx4a65c_get_915e3_10 : decode cJx4a65c_get_915e3 10 = .ok (.iload_n 1, 1) := by decide +kernel
theorem dJx4a65c_get_915e3_11 : decode cJx4a65c_get_915e3 11 = .ok (.invokevirtual 123, 3) := by decide +kernel
theorem dJx4a65c_get_915e3_14 : decode cJx4a65c_get_915e3 14 = .ok (.areturn, 1) := by decide +kernel
theorem dJx4a65c_add_72be8_0 : decode cJx4a65c_add_72be8 0 = .ok (.iload_n 3, 1) := by decide +kernel
theorem dJx4a65c_add_72be8_1 : decode cJx4a65c_add_72be8 1 = .ok (.aload_n 2, 1) := by decide +kernel
theorem dJx4a65c_add_72be8_2 : decode cJx4a65c_add_72be8 2 = .ok (.arraylength, 1) := by decide +kernel
theorem dJx4a65c_add_72be8_3 : decode cJx4a65c_add_72be8 3 = .ok (.if_icmp .ne 8, 3) := by decide +kernel
theorem dJx4a65c_add_72be8_6 : decode cJx4a65c_add_72be8 6 = .ok (.aload_n 0, 1) := by decide +kernel
theorem dJx4a65c_add_72be8_7 : decode cJx4a65c_add_72be8 7 = .ok (.invokevirtual 129, 3) := by decide +kernel
theorem dJx4a65c_add_72be8_10 : decode cJx4a65c_add_72be8 10 = .ok (.astore_n 2, 1) := by decide +kernel
theorem dJx4a65c_add_72be8_11 : decode cJx4a65c_add_72be8 11 = .ok (.aload_n 2, 1) := by decide +kernel
theorem dJx4a65c_add_72be8_12 : decode cJx4a65c_add_72be8 12 = .ok (.iload_n 3, 1) := by decide +kernel
theorem dJx4a65c_add_72be8_13 : decode cJx4a65c_add_72be8 13 = .ok (.aload_n 1, 1) := by decide +kernel
theorem dJx4a65c_add_72be8_14 : decode cJx4a65c_add_72be8 14 = .ok (.aastore, 1) := by decide +kernel
theorem dJx4a65c_add_72be8_15 : decode cJx4a65c_add_72be8 15 = .ok (.aload_n 0, 1) := by decide +kernel
theorem dJx4a65c_add_72be8_16 : decode cJx4a65c_add_72be8 16 = .ok (.iload_n 3, 1) := by decide +kernel
theorem dJx4a65c_add_72be8_17 : decode cJx4a65c_add_72be8 17 = .ok (.iconst 1, 1) := by decide +kernel
theorem dJx4a65c_add_72be8_18 : decode cJx4a65c_add_72be8 18 = .ok (.iadd, 1) := by decide +kernel
theorem dJx4a65c_add_72be8_19 : decode cJx4a65c_add_72be8 19 = .ok (.putfield 48, 3) := by decide +kernel
theorem dJx4a65c_add_72be8_22 : decode cJx4a65c_add_72be8 22 = .ok (.return_, 1) := by decide +kernel
theorem dJx4a65c_add_9ea2d_0 : decode cJx4a65c_add_9ea2d 0 = .ok (.aload_n 0, 1) := by decide +kernel
theorem dJx4a65c_add_9ea2d_1 : decode cJx4a65c_add_9ea2d 1 = .ok (.dup, 1) := by decide +kernel
theorem dJx4a65c_add_9ea2d_2 : decode cJx4a65c_add_9ea2d 2 = .ok (.getfield 63, 3) := by decide +kernel
theorem dJx4a65c_add_9ea2d_5 : decode cJx4a65c_add_9ea2d 5 = .ok (.iconst 1, 1) := by decide +kernel
theorem dJx4a65c_add_9ea2d_6 : decode cJx4a65c_add_9ea2d 6 = .ok (.iadd, 1) := by decide +kernel
theorem dJx4a65c_add_9ea2d_7 : decode cJx4a65c_add_9ea2d 7 = .ok (.putfield 63, 3) := by decide +kernel
theorem dJx4a65c_add_9ea2d_10 : decode cJx4a65c_add_9ea2d 10 = .ok (.aload_n 0, 1) := by decide +kernel
theorem dJx4a65c_add_9ea2d_11 : decode cJx4a65c_add_9ea2d 11 = .ok (.aload_n 1, 1) := by decide +kernel
theorem dJx4a65c_add_9ea2d_12 : decode cJx4a65c_add_9ea2d 12 = .ok (.aload_n 0, 1) := by decide +kernel
theorem dJx4a65c_add_9ea2d_13 : decode cJx4a65c_add_9ea2d 13 = .ok (.getfield 9, 3) := by decide +kernel
theorem dJx4a65c_add_9ea2d_16 : decode cJx4a65c_add_9ea2d 16 = .ok (.aload_n 0, 1) := by decide +kernel
theorem dJx4a65c_add_9ea2d_17 : decode cJx4a65c_add_9ea2d 17 = .ok (.getfield 48, 3) := by decide +kernel
theorem dJx4a65c_add_9ea2d_20 : decode cJx4a65c_add_9ea2d 20 = .ok (.invokevirtual 131, 3) := by decide +kernel
theorem dJx4a65c_add_9ea2d_23 : decode cJx4a65c_add_9ea2d 23 = .ok (.iconst 1, 1) := by decide +kernel
theorem dJx4a65c_add_9ea2d_24 : decode cJx4a65c_add_9ea2d 24 = .ok (.ireturn, 1) := by decide +kernel
theorem dJ7_fill_53178_0 : decode cJ7_fill_53178 0 = .ok (.iconst 0, 1) := by decide +kernel
theorem dJ7_fill_53178_1 : decode cJ7_fill_53178 1 = .ok (.istore_n 2, 1) := by decide +kernel
theorem dJ7_fill_53178_2 : decode cJ7_fill_53178 2 = .ok (.aload_n 0, 1) := by decide +kernel
theorem dJ7_fill_53178_3 : decode cJ7_fill_53178 3 = .ok (.arraylength, 1) := by decide +kernel
theorem dJ7_fill_53178_4 : decode cJ7_fill_53178 4 = .ok (.istore_n 3, 1) := by decide +kernel
theorem dJ7_fill_53178_5 : decode cJ7_fill_53178 5 = .ok (.iload_n 2, 1) := by decide +kernel
theorem dJ7_fill_53178_6 : decode cJ7_fill_53178 6 = .ok (.iload_n 3, 1) := by decide +kernel
theorem dJ7_fill_53178_7 : decode cJ7_fill_53178 7 = .ok (.if_icmp .ge 13, 3) := by decide +kernel
theorem dJ7_fill_53178_10 : decode cJ7_fill_53178 10 = .ok (.aload_n 0, 1) := by decide +kernel
theorem dJ7_fill_53178_11 : decode cJ7_fill_53178 11 = .ok (.iload_n 2, 1) := by decide +kernel
theorem dJ7_fill_53178_12 : decode cJ7_fill_53178 12 = .ok (.iload_n 1, 1) := by decide +kernel
theorem dJ7_fill_53178_13 : decode cJ7_fill_53178 13 = .ok (.iastore, 1) := by decide +kernel
theorem dJ7_fill_53178_14 : decode cJ7_fill_53178 14 = .ok (.iinc 2 1, 3) := by decide +kernel
theorem dJ7_fill_53178_17 : decode cJ7_fill_53178 17 = .ok (.goto (-12), 3) := by decide +kernel
theorem dJ7_fill_53178_20 : decode cJ7_fill_53178 20 = .ok (.return_, 1) := by decide +kernel
theorem dJ7_copyOf_1904c_0 : decode cJ7_copyOf_1904c 0 = .ok (.aload_n 0, 1) := by decide +kernel
theorem dJ7_copyOf_1904c_1 : decode cJ7_copyOf_1904c 1 = .ok (.iload_n 1, 1) := by decide +kernel
theorem dJ7_copyOf_1904c_2 : decode cJ7_copyOf_1904c 2 = .ok (.aload_n 0, 1) := by decide +kernel
theorem dJ7_copyOf_1904c_3 : decode cJ7_copyOf_1904c 3 = .ok (.invokevirtual 86, 3) := by decide +kernel
theorem dJ7_copyOf_1904c_6 : decode cJ7_copyOf_1904c 6 = .ok (.invokestatic 300, 3) := by decide +kernel
theorem dJ7_copyOf_1904c_9 : decode cJ7_copyOf_1904c 9 = .ok (.areturn, 1) := by decide +kernel
theorem dJ7_copyOf_6403c_0 : decode cJ7_copyOf_6403c 0 = .ok (.aload_n 2, 1) := by decide +kernel
theorem dJ7_copyOf_6403c_1 : decode cJ7_copyOf_6403c 1 = .ok (.ldc 110, 2) := by decide +kernel
theorem dJ7_copyOf_6403c_3 : decode cJ7_copyOf_6403c 3 = .ok (.if_acmp .ne 10, 3) := by decide +kernel
theorem dJ7_copyOf_6403c_6 : decode cJ7_copyOf_6403c 6 = .ok (.iload_n 1, 1) := by decide +kernel
theorem dJ7_copyOf_6403c_7 : decode cJ7_copyOf_6403c 7 = .ok (.anewarray 2, 3) := by decide +kernel
theorem dJ7_copyOf_6403c_10 : decode cJ7_copyOf_6403c 10 = .ok (.goto 14, 3) := by decide +kernel
theorem dJ7_copyOf_6403c_13 : decode cJ7_copyOf_6403c 13 = .ok (.aload_n 2, 1) := by decide +kernel
theorem dJ7_copyOf_6403c_14 : decode cJ7_copyOf_6403c 14 = .ok (.invokevirtual 90, 3) := by decide +kernel
theorem dJ7_copyOf_6403c_17 : decode cJ7_copyOf_6403c 17 = .ok (.iload_n 1, 1) := by decide +kernel
theorem dJ7_copyOf_6403c_18 : decode cJ7_copyOf_6403c 18 = .ok (.invokestatic 95, 3) := by decide +kernel
theorem dJ7_copyOf_6403c_21 : decode cJ7_copyOf_6403c 21 = .ok (.checkcast 110, 3) := by decide +kernel
theorem dJ7_copyOf_6403c_24 : decode cJ7_copyOf_6403c 24 = .ok (.astore_n 3, 1) := by decide +kernel
theorem dJ7_copyOf_6403c_25 : decode cJ7_copyOf_6403c 25 = .ok (.aload_n 0, 1) := by decide +kernel
theorem dJ7_copyOf_6403c_26 : decode cJ7_copyOf_6403c 26 = .ok (.iconst 0, 1) := by decide +kernel
theorem dJ7_copyOf_6403c_27 : decode cJ7_copyOf_6403c 27 = .ok (.aload_n 3, 1) := by decide +kernel
theorem dJ7_copyOf_6403c_28 : decode cJ7_copyOf_6403c 28 = .ok (.iconst 0, 1) := by decide +kernel
theorem dJ7_copyOf_6403c_29 : decode cJ7_copyOf_6403c 29 = .ok (.aload_n 0, 1) := by decide +kernel
theorem dJ7_copyOf_6403c_30 : decode cJ7_copyOf_6403c 30 = .ok (.arraylength, 1) := by decide +kernel
theorem dJ7_copyOf_6403c_31 : decode cJ7_copyOf_6403c 31 = .ok (.iload_n 1, 1) := by decide +kernel
theorem dJ7_copyOf_6403c_32 : decode cJ7_copyOf_6403c 32 = .ok (.invokestatic 304, 3) := by decide +kernel
theorem dJ7_copyOf_6403c_35 : decode cJ7_copyOf_6403c 35 = .ok (.invokestatic 150, 3) := by decide +kernel
theorem dJ7_copyOf_6403c_38 : decode cJ7_copyOf_6403c 38 = .ok (.aload_n 3, 1) := by decide +kernel
theorem dJ7_copyOf_6403c_39 : decode cJ7_copyOf_6403c 39 = .ok (.areturn, 1) := by decide +kernel
theorem dJ7_copyOf_59c91_0 : decode cJ7_copyOf_59c91 0 = .ok (.iload_n 1, 1) := by decide +kernel
theorem dJ7_copyOf_59c91_1 : decode cJ7_copyOf_59c91 1 = .ok (.aload_n 0, 1) := by decide +kernel
theorem dJ7_copyOf_59c91_2 : decode cJ7_copyOf_59c91 2 = .ok (.arraylength, 1) := by decide +kernel
theorem dJ7_copyOf_59c91_3 : decode cJ7_copyOf_59c91 3 = .ok (.if_icmp .ne 11, 3) := by decide +kernel
theorem dJ7_copyOf_59c91_6 : decode cJ7_copyOf_59c91 6 = .ok (.aload_n 0, 1) := by decide +kernel
theorem dJ7_copyOf_59c91_7 : decode cJ7_copyOf_59c91 7 = .ok (.invokevirtual 316, 3) := by decide +kernel
theorem dJ7_copyOf_59c91_10 : decode cJ7_copyOf_59c91 10 = .ok (.checkcast 317, 3) := by decide +kernel
theorem dJ7_copyOf_59c91_13 : decode cJ7_copyOf_59c91 13 = .ok (.areturn, 1) := by decide +kernel
theorem dJ7_copyOf_59c91_14 : decode cJ7_copyOf_59c91 14 = .ok (.iload_n 1, 1) := by decide +kernel
theorem dJ7_copyOf_59c91_15 : decode cJ7_copyOf_59c91 15 = .ok (.newarray .int, 2) := by decide +kernel
theorem dJ7_copyOf_59c91_17 : decode cJ7_copyOf_59c91 17 = .ok (.astore_n 2, 1) := by decide +kernel
theorem dJ7_copyOf_59c91_18 : decode cJ7_copyOf_59c91 18 = .ok (.aload_n 0, 1) := by decide +kernel
theorem dJ7_copyOf_59c91_19 : decode cJ7_copyOf_59c91 19 = .ok (.iconst 0, 1) := by decide +kernel
theorem dJ7_copyOf_59c91_20 : decode cJ7_copyOf_59c91 20 = .ok (.aload_n 2, 1) := by decide +kernel
theorem dJ7_copyOf_59c91_21 : decode cJ7_copyOf_59c91 21 = .ok (.iconst 0, 1) := by decide +kernel
theorem dJ7_copyOf_59c91_22 : decode cJ7_copyOf_59c91 22 = .ok (.aload_n 0, 1) := by decide +kernel
theorem dJ7_copyOf_59c91_23 : decode cJ7_copyOf_59c91 23 = .ok (.arraylength, 1) := by decide +kernel
theorem dJ7_copyOf_59c91_24 : decode cJ7_copyOf_59c91 24 = .ok (.iload_n 1, 1) := by decide +kernel
theorem dJ7_copyOf_59c91_25 : decode cJ7_copyOf_59c91 25 = .ok (.invokestatic 304, 3) := by decide +kernel
theorem dJ7_copyOf_59c91_28 : decode cJ7_copyOf_59c91 28 = .ok (.invokestatic 150, 3) := by decide +kernel
theorem dJ7_copyOf_59c91_31 : decode cJ7_copyOf_59c91 31 = .ok (.aload_n 2, 1) := by decide +kernel
theorem dJ7_copyOf_59c91_32 : decode cJ7_copyOf_59c91 32 = .ok (.areturn, 1) := by decide +kernel
theorem dJ15_checkIndex_7cf53_0 : decode cJ15_checkIndex_7cf53 0 = .ok (.iload_n 0, 1) := by decide +kernel
theorem dJ15_checkIndex_7cf53_1 : decode cJ15_checkIndex_7cf53 1 = .ok (.iload_n 1, 1) := by decide +kernel
theorem dJ15_checkIndex_7cf53_2 : decode cJ15_checkIndex_7cf53 2 = .ok (.aconst_null, 1) := by decide +kernel
theorem dJ15_checkIndex_7cf53_3 : decode cJ15_checkIndex_7cf53 3 = .ok (.invokestatic 105, 3) := by decide +kernel
theorem dJ15_checkIndex_7cf53_6 : decode cJ15_checkIndex_7cf53 6 = .ok (.ireturn, 1) := by decide +kernel
theorem dJ8_newLength_cabcc_0 : decode cJ8_newLength_cabcc 0 = .ok (.iload_n 0, 1) := by decide +kernel
theorem dJ8_newLength_cabcc_1 : decode cJ8_newLength_cabcc 1 = .ok (.iload_n 1, 1) := by decide +kernel
theorem dJ8_newLength_cabcc_2 : decode cJ8_newLength_cabcc 2 = .ok (.iload_n 2, 1) := by decide +kernel
theorem dJ8_newLength_cabcc_3 : decode cJ8_newLength_cabcc 3 = .ok (.invokestatic 194, 3) := by decide +kernel
theorem dJ8_newLength_cabcc_6 : decode cJ8_newLength_cabcc 6 = .ok (.iadd, 1) := by decide +kernel
theorem dJ8_newLength_cabcc_7 : decode cJ8_newLength_cabcc 7 = .ok (.istore_n 3, 1) := by decide +kernel
theorem dJ8_newLength_cabcc_8 : decode cJ8_newLength_cabcc 8 = .ok (.iconst 0, 1) := by decide +kernel
theorem dJ8_newLength_cabcc_9 : decode cJ8_newLength_cabcc 9 = .ok (.iload_n 3, 1) := by decide +kernel
theorem dJ8_newLength_cabcc_10 : decode cJ8_newLength_cabcc 10 = .ok (.if_icmp .ge 11, 3) := by decide +kernel
theorem dJ8_newLength_cabcc_13 : decode cJ8_newLength_cabcc 13 = .ok (.iload_n 3, 1) := by decide +kernel
theorem dJ8_newLength_cabcc_14 : decode cJ8_newLength_cabcc 14 = .ok (.ldc 200, 2) := by decide +kernel
theorem dJ8_newLength_cabcc_16 : decode cJ8_newLength_cabcc 16 = .ok (.if_icmp .gt 5, 3) := by decide +kernel
theorem dJ8_newLength_cabcc_19 : decode cJ8_newLength_cabcc 19 = .ok (.iload_n 3, 1) := by decide +kernel
theorem dJ8_newLength_cabcc_20 : decode cJ8_newLength_cabcc 20 = .ok (.ireturn, 1) := by decide +kernel
theorem dJ8_newLength_cabcc_21 : decode cJ8_newLength_cabcc 21 = .ok (.iload_n 0, 1) := by decide +kernel
theorem dJ8_newLength_cabcc_22 : decode cJ8_newLength_cabcc 22 = .ok (.iload_n 1, 1) := by decide +kernel
theorem dJ8_newLength_cabcc_23 : decode cJ8_newLength_cabcc 23 = .ok (.invokestatic 201, 3) := by decide +kernel
theorem dJ8_newLength_cabcc_26 : decode cJ8_newLength_cabcc 26 = .ok (.ireturn, 1) := by decide +kernel
theorem dJ8_hugeLength_7cf53_0 : decode cJ8_hugeLength_7cf53 0 = .ok (.iload_n 0, 1) := by decide +kernel
theorem dJ8_hugeLength_7cf53_1 : decode cJ8_hugeLength_7cf53 1 = .ok (.iload_n 1, 1) := by decide +kernel
theorem dJ8_hugeLength_7cf53_2 : decode cJ8_hugeLength_7cf53 2 = .ok (.iadd, 1) := by decide +kernel
theorem dJ8_hugeLength_7cf53_3 : decode cJ8_hugeLength_7cf53 3 = .ok (.istore_n 2, 1) := by decide +kernel
theorem dJ8_hugeLength_7cf53_4 : decode cJ8_hugeLength_7cf53 4 = .ok (.iload_n 2, 1) := by decide +kernel
theorem dJ8_hugeLength_7cf53_5 : decode cJ8_hugeLength_7cf53 5 = .ok (.ifCond .ge 44, 3) := by decide +kernel
theorem dJ8_hugeLength_7cf53_8 : decode cJ8_hugeLength_7cf53 8 = .ok (.new 204, 3) := by decide +kernel
theorem dJ8_hugeLength_7cf53_11 : decode cJ8_hugeLength_7cf53 11 = .ok (.dup, 1) := by decide +kernel
theorem dJ8_hugeLength_7cf53_12 : decode cJ8_hugeLength_7cf53 12 = .ok (.new 89, 3) := by decide +kernel
theorem dJ8_hugeLength_7cf53_15 : decode cJ8_hugeLength_7cf53 15 = .ok (.dup, 1) := by decide +kernel
theorem dJ8_hugeLength_7cf53_16 : decode cJ8_hugeLength_7cf53 16 = .ok (.invokespecial 91, 3) := by decide +kernel
theorem dJ8_hugeLength_7cf53_19 : decode cJ8_hugeLength_7cf53 19 = .ok (.ldc 206, 2) := by decide +kernel
theorem dJ8_hugeLength_7cf53_21 : decode cJ8_hugeLength_7cf53 21 = .ok (.invokevirtual 94, 3) := by decide +kernel
theorem dJ8_hugeLength_7cf53_24 : decode cJ8_hugeLength_7cf53 24 = .ok (.iload_n 0, 1) := by decide +kernel
theorem dJ8_hugeLength_7cf53_25 : decode cJ8_hugeLength_7cf53 25 = .ok (.invokevirtual 98, 3) := by decide +kernel
theorem dJ8_hugeLength_7cf53_28 : decode cJ8_hugeLength_7cf53 28 = .ok (.ldc 208, 2) := by decide +kernel
theorem dJ8_hugeLength_7cf53_30 : decode cJ8_hugeLength_7cf53 30 = .ok (.invokevirtual 94, 3) := by decide +kernel
theorem dJ8_hugeLength_7cf53_33 : decode cJ8_hugeLength_7cf53 33 = .ok (.iload_n 1, 1) := by decide +kernel
theorem dJ8_hugeLength_7cf53_34 : decode cJ8_hugeLength_7cf53 34 = .ok (.invokevirtual 98, 3) := by decide +kernel
theorem dJ8_hugeLength_7cf53_37 : decode cJ8_hugeLength_7cf53 37 = .ok (.ldc 210, 2) := by decide +kernel
theorem dJ8_hugeLength_7cf53_39 : decode cJ8_hugeLength_7cf53 39 = .ok (.invokevirtual 94, 3) := by decide +kernel
theorem dJ8_hugeLength_7cf53_42 : decode cJ8_hugeLength_7cf53 42 = .ok (.invokevirtual 101, 3) := by decide +kernel
theorem dJ8_hugeLength_7cf53_45 : decode cJ8_hugeLength_7cf53 45 = .ok (.invokespecial 212, 3) := by decide +kernel
theorem dJ8_hugeLength_7cf53_48 : decode cJ8_hugeLength_7cf53 48 = .ok (.athrow, 1) := by decide +kernel
theorem dJ8_hugeLength_7cf53_49 : decode cJ8_hugeLength_7cf53 49 = .ok (.iload_n 2, 1) := by decide +kernel
theorem dJ8_hugeLength_7cf53_50 : decode cJ8_hugeLength_7cf53 50 = .ok (.ldc 200, 2) := by decide +kernel
theorem dJ8_hugeLength_7cf53_52 : decode cJ8_hugeLength_7cf53 52 = .ok (.if_icmp .gt 6, 3) := by decide +kernel
theorem dJ8_hugeLength_7cf53_55 : decode cJ8_hugeLength_7cf53 55 = .ok (.ldc 200, 2) := by decide +kernel
theorem dJ8_hugeLength_7cf53_57 : decode cJ8_hugeLength_7cf53 57 = .ok (.ireturn, 1) := by decide +kernel
theorem dJ8_hugeLength_7cf53_58 : decode cJ8_hugeLength_7cf53 58 = .ok (.iload_n 2, 1) := by decide +kernel
theorem dJ8_hugeLength_7cf53_59 : decode cJ8_hugeLength_7cf53 59 = .ok (.ireturn, 1) := by decide +kernel
theorem dJ3_checkIndex_8e157_0 : decode cJ3_checkIndex_8e157 0 = .ok (.iload_n 0, 1) := by decide +kernel
theorem dJ3_checkIndex_8e157_1 : decode cJ3_checkIndex_8e157 1 = .ok (.ifCond .lt 8, 3) := by decide +kernel
theorem dJ3_checkIndex_8e157_4 : decode cJ3_checkIndex_8e157 4 = .ok (.iload_n 0, 1) := by decide +kernel
theorem dJ3_checkIndex_8e157_5 : decode cJ3_checkIndex_8e157 5 = .ok (.iload_n 1, 1) := by decide +kernel
theorem dJ3_checkIndex_8e157_6 : decode cJ3_checkIndex_8e157 6 = .ok (.if_icmp .lt 10, 3) := by decide +kernel
theorem dJ3_checkIndex_8e157_9 : decode cJ3_checkIndex_8e157 9 = .ok (.aload_n 2, 1) := by decide +kernel
theorem dJ3_checkIndex_8e157_10 : decode cJ3_checkIndex_8e157 10 = .ok (.iload_n 0, 1) := by decide +kernel
theorem dJ3_checkIndex_8e157_11 : decode cJ3_checkIndex_8e157 11 = .ok (.iload_n 1, 1) := by decide +kernel
theorem dJ3_checkIndex_8e157_12 : decode cJ3_checkIndex_8e157 12 = .ok (.invokestatic 95, 3) := by decide +kernel
theorem dJ3_checkIndex_8e157_15 : decode cJ3_checkIndex_8e157 15 = .ok (.athrow, 1) := by decide +kernel
theorem dJ3_checkIndex_8e157_16 : decode cJ3_checkIndex_8e157 16 = .ok (.iload_n 0, 1) := by decide +kernel
theorem dJ3_checkIndex_8e157_17 : decode cJ3_checkIndex_8e157 17 = .ok (.ireturn, 1) := by decide +kernel
theorem dL_phase_0 : decode cL_phase 0 = .ok (.aload_n 2, 1) := by decide +kernel
theorem dL_phase_1 : decode cL_phase 1 = .ok (.iconst 0, 1) := by decide +kernel
theorem dL_phase_2 : decode cL_phase 2 = .ok (.aload_n 0, 1) := by decide +kernel
theorem dL_phase_3 : decode cL_phase 3 = .ok (.iload_n 1, 1) := by decide +kernel
theorem dL_phase_4 : decode cL_phase 4 = .ok (.invokevirtual 7, 3) := by decide +kernel
theorem dL_phase_7 : decode cL_phase 7 = .ok (.i2l, 1) := by decide +kernel
theorem dL_phase_8 : decode cL_phase 8 = .ok (.lastore, 1) := by decide +kernel
theorem dL_phase_9 : decode cL_phase 9 = .ok (.goto 9, 3) := by decide +kernel
theorem dL_phase_12 : decode cL_phase 12 = .ok (.astore_n 3, 1) := by decide +kernel
theorem dL_phase_13 : decode cL_phase 13 = .ok (.iconst 1, 1) := by decide +kernel
theorem dL_phase_14 : decode cL_phase 14 = .ok (.ireturn, 1) := by decide +kernel
theorem dL_phase_15 : decode cL_phase 15 = .ok (.astore_n 3, 1) := by decide +kernel
theorem dL_phase_16 : decode cL_phase 16 = .ok (.iconst 2, 1) := by decide +kernel
theorem dL_phase_17 : decode cL_phase 17 = .ok (.ireturn, 1) := by decide +kernel
theorem dL_phase_18 : decode cL_phase 18 = .ok (.iconst 0, 1) := by decide +kernel
theorem dL_phase_19 : decode cL_phase 19 = .ok (.ireturn, 1) := by decide +kernel
theorem dL_pattern_0 : decode cL_pattern 0 = .ok (.aload_n 1, 1) := by decide +kernel
theorem dL_pattern_1 : decode cL_pattern 1 = .ok (.iconst 0, 1) := by decide +kernel
theorem dL_pattern_2 : decode cL_pattern 2 = .ok (.aload_n 0, 1) := by decide +kernel
theorem dL_pattern_3 : decode cL_pattern 3 = .ok (.invokevirtual 17, 3) := by decide +kernel
theorem dL_pattern_6 : decode cL_pattern 6 = .ok (.i2l, 1) := by decide +kernel
theorem dL_pattern_7 : decode cL_pattern 7 = .ok (.lastore, 1) := by decide +kernel
theorem dL_pattern_8 : decode cL_pattern 8 = .ok (.goto 6, 3) := by decide +kernel
theorem dL_pattern_11 : decode cL_pattern 11 = .ok (.astore_n 2, 1) := by decide +kernel
theorem dL_pattern_12 : decode cL_pattern 12 = .ok (.iconst 1, 1) := by decide +kernel
theorem dL_pattern_13 : decode cL_pattern 13 = .ok (.ireturn, 1) := by decide +kernel
theorem dL_pattern_14 : decode cL_pattern 14 = .ok (.iconst 0, 1) := by decide +kernel
theorem dL_pattern_15 : decode cL_pattern 15 = .ok (.ireturn, 1) := by decide +kernel
theorem dL_period_0 : decode cL_period 0 = .ok (.aload_n 2, 1) := by decide +kernel
theorem dL_period_1 : decode cL_period 1 = .ok (.iconst 0, 1) := by decide +kernel
theorem dL_period_2 : decode cL_period 2 = .ok (.aload_n 0, 1) := by decide +kernel
theorem dL_period_3 : decode cL_period 3 = .ok (.iload_n 1, 1) := by decide +kernel
theorem dL_period_4 : decode cL_period 4 = .ok (.invokevirtual 21, 3) := by decide +kernel
theorem dL_period_7 : decode cL_period 7 = .ok (.i2l, 1) := by decide +kernel
theorem dL_period_8 : decode cL_period 8 = .ok (.lastore, 1) := by decide +kernel
theorem dL_period_9 : decode cL_period 9 = .ok (.goto 6, 3) := by decide +kernel
theorem dL_period_12 : decode cL_period 12 = .ok (.astore_n 3, 1) := by decide +kernel
theorem dL_period_13 : decode cL_period 13 = .ok (.iconst 1, 1) := by decide +kernel
theorem dL_period_14 : decode cL_period 14 = .ok (.ireturn, 1) := by decide +kernel
theorem dL_period_15 : decode cL_period 15 = .ok (.iconst 0, 1) := by decide +kernel
theorem dL_period_16 : decode cL_period 16 = .ok (.ireturn, 1) := by decide +kernel
theorem dL_areAlike_0 : decode cL_areAlike 0 = .ok (.aload_n 3, 1) := by decide +kernel
theorem dL_areAlike_1 : decode cL_areAlike 1 = .ok (.iconst 0, 1) := by decide +kernel
theorem dL_areAlike_2 : decode cL_areAlike 2 = .ok (.aload_n 0, 1) := by decide +kernel
theorem dL_areAlike_3 : decode cL_areAlike 3 = .ok (.iload_n 1, 1) := by decide +kernel
theorem dL_areAlike_4 : decode cL_areAlike 4 = .ok (.iload_n 2, 1) := by decide +kernel
theorem dL_areAlike_5 : decode cL_areAlike 5 = .ok (.invokevirtual 26, 3) := by decide +kernel
theorem dL_areAlike_8 : decode cL_areAlike 8 = .ok (.ifCond .eq 7, 3) := by decide +kernel
theorem dL_areAlike_11 : decode cL_areAlike 11 = .ok (.lconst 1, 1) := by decide +kernel
theorem dL_areAlike_12 : decode cL_areAlike 12 = .ok (.goto 4, 3) := by decide +kernel
theorem dL_areAlike_15 : decode cL_areAlike 15 = .ok (.lconst 0, 1) := by decide +kernel
theorem dL_areAlike_16 : decode cL_areAlike 16 = .ok (.lastore, 1) := by decide +kernel
theorem dL_areAlike_17 : decode cL_areAlike 17 = .ok (.goto 7, 3) := by decide +kernel
theorem dL_areAlike_20 : decode cL_areAlike 20 = .ok (.astore 4, 2) := by decide +kernel
theorem dL_areAlike_22 : decode cL_areAlike 22 = .ok (.iconst 1, 1) := by decide +kernel
theorem dL_areAlike_23 : decode cL_areAlike 23 = .ok (.ireturn, 1) := by decide +kernel
theorem dL_areAlike_24 : decode cL_areAlike 24 = .ok (.iconst 0, 1) := by decide +kernel
theorem dL_areAlike_25 : decode cL_areAlike 25 = .ok (.ireturn, 1) := by decide +kernel
theorem dL_areAlikeBySeconds_0 : decode cL_areAlikeBySeconds 0 = .ok (.aload_n 3, 1) := by decide +kernel
theorem dL_areAlikeBySeconds_1 : decode cL_areAlikeBySeconds 1 = .ok (.iconst 0, 1) := by decide +kernel
theorem dL_areAlikeBySeconds_2 : decode cL_areAlikeBySeconds 2 = .ok (.aload_n 0, 1) := by decide +kernel
theorem dL_areAlikeBySeconds_3 : decode cL_areAlikeBySeconds 3 = .ok (.iload_n 1, 1) := by decide +kernel
theorem dL_areAlikeBySeconds_4 : decode cL_areAlikeBySeconds 4 = .ok (.iload_n 2, 1) := by decide +kernel
theorem dL_areAlikeBySeconds_5 : decode cL_areAlikeBySeconds 5 = .ok (.invokevirtual 30, 3) := by decide +kernel
theorem dL_areAlikeBySeconds_8 : decode cL_areAlikeBySeconds 8 = .ok (.ifCond .eq 7, 3) := by decide +kernel
theorem dL_areAlikeBySeconds_11 : decode cL_areAlikeBySeconds 11 = .ok (.lconst 1, 1) := by decide +kernel
theorem dL_areAlikeBySeconds_12 : decode cL_areAlikeBySeconds 12 = .ok (.goto 4, 3) := by decide +kernel
theorem dL_areAlikeBySeconds_15 : decode cL_areAlikeBySeconds 15 = .ok (.lconst 0, 1) := by decide +kernel
theorem dL_areAlikeBySeconds_16 : decode cL_areAlikeBySeconds 16 = .ok (.lastore, 1) := by decide +kernel
theorem dL_areAlikeBySeconds_17 : decode cL_areAlikeBySeconds 17 = .ok (.goto 7, 3) := by decide +kernel
theorem dL_areAlikeBySeconds_20 : decode cL_areAlikeBySeconds 20 = .ok (.astore 4, 2) := by decide +kernel
theorem dL_areAlikeBySeconds_22 : decode cL_areAlikeBySeconds 22 = .ok (.iconst 1, 1) := by decide +kernel
theorem dL_areAlikeBySeconds_23 : decode cL_areAlikeBySeconds 23 = .ok (.ireturn, 1) := by decide +kernel
theorem dL_areAlikeBySeconds_24 : decode cL_areAlikeBySeconds 24 = .ok (.iconst 0, 1) := by decide +kernel
theorem dL_areAlikeBySeconds_25 : decode cL_areAlikeBySeconds 25 = .ok (.ireturn, 1) := by decide +kernel
theorem dL_lamp_0 : decode cL_lamp 0 = .ok (.aload 6, 2) := by decide +kernel
theorem dL_lamp_2 : decode cL_lamp 2 = .ok (.iconst 0, 1) := by decide +kernel
theorem dL_lamp_3 : decode cL_lamp 3 = .ok (.aload_n 0, 1) := by decide +kernel
theorem dL_lamp_4 : decode cL_lamp 4 = .ok (.iload_n 1, 1) := by decide +kernel
theorem dL_lamp_5 : decode cL_lamp 5 = .ok (.iload_n 2, 1) := by decide +kernel
theorem dL_lamp_6 : decode cL_lamp 6 = .ok (.iload_n 3, 1) := by decide +kernel
theorem dL_lamp_7 : decode cL_lamp 7 = .ok (.iload 4, 2) := by decide +kernel
theorem dL_lamp_9 : decode cL_lamp 9 = .ok (.iload 5, 2) := by decide +kernel
theorem dL_lamp_11 : decode cL_lamp 11 = .ok (.invokevirtual 33, 3) := by decide +kernel
theorem dL_lamp_14 : decode cL_lamp 14 = .ok (.i2l, 1) := by decide +kernel
theorem dL_lamp_15 : decode cL_lamp 15 = .ok (.lastore, 1) := by decide +kernel
theorem dL_lamp_16 : decode cL_lamp 16 = .ok (.goto 15, 3) := by decide +kernel
theorem dL_lamp_19 : decode cL_lamp 19 = .ok (.astore 7, 2) := by decide +kernel
theorem dL_lamp_21 : decode cL_lamp 21 = .ok (.iconst 1, 1) := by decide +kernel
theorem dL_lamp_22 : decode cL_lamp 22 = .ok (.ireturn, 1) := by decide +kernel
theorem dL_lamp_23 : decode cL_lamp 23 = .ok (.astore 7, 2) := by decide +kernel
theorem dL_lamp_25 : decode cL_lamp 25 = .ok (.iconst 2, 1) := by decide +kernel
theorem dL_lamp_26 : decode cL_lamp 26 = .ok (.ireturn, 1) := by decide +kernel
theorem dL_lamp_27 : decode cL_lamp 27 = .ok (.astore 7, 2) := by decide +kernel
theorem dL_lamp_29 : decode cL_lamp 29 = .ok (.iconst 3, 1) := by decide +kernel
theorem dL_lamp_30 : decode cL_lamp 30 = .ok (.ireturn, 1) := by decide +kernel
theorem dL_lamp_31 : decode cL_lamp 31 = .ok (.iconst 0, 1) := by decide +kernel
theorem dL_lamp_32 : decode cL_lamp 32 = .ok (.ireturn, 1) := by decide +kernel
theorem dL_change_0 : decode cL_change 0 = .ok (.aload 4, 2) := by decide +kernel
theorem dL_change_2 : decode cL_change 2 = .ok (.iconst 0, 1) := by decide +kernel
theorem dL_change_3 : decode cL_change 3 = .ok (.aload_n 0, 1) := by decide +kernel
theorem dL_change_4 : decode cL_change 4 = .ok (.iload_n 1, 1) := by decide +kernel
theorem dL_change_5 : decode cL_change 5 = .ok (.iload_n 2, 1) := by decide +kernel
theorem dL_change_6 : decode cL_change 6 = .ok (.iload_n 3, 1) := by decide +kernel
theorem dL_change_7 : decode cL_change 7 = .ok (.invokevirtual 37, 3) := by decide +kernel
theorem dL_change_10 : decode cL_change 10 = .ok (.i2l, 1) := by decide +kernel
theorem dL_change_11 : decode cL_change 11 = .ok (.lastore, 1) := by decide +kernel
theorem dL_change_12 : decode cL_change 12 = .ok (.goto 11, 3) := by decide +kernel
theorem dL_change_15 : decode cL_change 15 = .ok (.astore 5, 2) := by decide +kernel
theorem dL_change_17 : decode cL_change 17 = .ok (.iconst 1, 1) := by decide +kernel
theorem dL_change_18 : decode cL_change 18 = .ok (.ireturn, 1) := by decide +kernel
theorem dL_change_19 : decode cL_change 19 = .ok (.astore 5, 2) := by decide +kernel
theorem dL_change_21 : decode cL_change 21 = .ok (.iconst 2, 1) := by decide +kernel
theorem dL_change_22 : decode cL_change 22 = .ok (.ireturn, 1) := by decide +kernel
theorem dL_change_23 : decode cL_change 23 = .ok (.iconst 0, 1) := by decide +kernel
theorem dL_change_24 : decode cL_change 24 = .ok (.ireturn, 1) := by decide +kernel
theorem dL_fail_0 : decode cL_fail 0 = .ok (.aload_n 3, 1) := by decide +kernel
theorem dL_fail_1 : decode cL_fail 1 = .ok (.iconst 0, 1) := by decide +kernel
theorem dL_fail_2 : decode cL_fail 2 = .ok (.aload_n 0, 1) := by decide +kernel
theorem dL_fail_3 : decode cL_fail 3 = .ok (.iload_n 1, 1) := by decide +kernel
theorem dL_fail_4 : decode cL_fail 4 = .ok (.iload_n 2, 1) := by decide +kernel
theorem dL_fail_5 : decode cL_fail 5 = .ok (.invokevirtual 41, 3) := by decide +kernel
theorem dL_fail_8 : decode cL_fail 8 = .ok (.i2l, 1) := by decide +kernel
theorem dL_fail_9 : decode cL_fail 9 = .ok (.lastore, 1) := by decide +kernel
theorem dL_fail_10 : decode cL_fail 10 = .ok (.goto 11, 3) := by decide +kernel
theorem dL_fail_13 : decode cL_fail 13 = .ok (.astore 4, 2) := by decide +kernel
theorem dL_fail_15 : decode cL_fail 15 = .ok (.iconst 1, 1) := by decide +kernel
theorem dL_fail_16 : decode cL_fail 16 = .ok (.ireturn, 1) := by decide +kernel
theorem dL_fail_17 : decode cL_fail 17 = .ok (.astore 4, 2) := by decide +kernel
theorem dL_fail_19 : decode cL_fail 19 = .ok (.iconst 2, 1) := by decide +kernel
theorem dL_fail_20 : decode cL_fail 20 = .ok (.ireturn, 1) := by decide +kernel
theorem dL_fail_21 : decode cL_fail 21 = .ok (.iconst 0, 1) := by decide +kernel
theorem dL_fail_22 : decode cL_fail 22 = .ok (.ireturn, 1) := by decide +kernel
theorem dL_shines_0 : decode cL_shines 0 = .ok (.aload_n 3, 1) := by decide +kernel
theorem dL_shines_1 : decode cL_shines 1 = .ok (.iconst 0, 1) := by decide +kernel
theorem dL_shines_2 : decode cL_shines 2 = .ok (.aload_n 0, 1) := by decide +kernel
theorem dL_shines_3 : decode cL_shines 3 = .ok (.iload_n 1, 1) := by decide +kernel
theorem dL_shines_4 : decode cL_shines 4 = .ok (.iload_n 2, 1) := by decide +kernel
theorem dL_shines_5 : decode cL_shines 5 = .ok (.invokevirtual 45, 3) := by decide +kernel
theorem dL_shines_8 : decode cL_shines 8 = .ok (.ifCond .eq 7, 3) := by decide +kernel
theorem dL_shines_11 : decode cL_shines 11 = .ok (.lconst 1, 1) := by decide +kernel
theorem dL_shines_12 : decode cL_shines 12 = .ok (.goto 4, 3) := by decide +kernel
theorem dL_shines_15 : decode cL_shines 15 = .ok (.lconst 0, 1) := by decide +kernel
theorem dL_shines_16 : decode cL_shines 16 = .ok (.lastore, 1) := by decide +kernel
theorem dL_shines_17 : decode cL_shines 17 = .ok (.goto 11, 3) := by decide +kernel
theorem dL_shines_20 : decode cL_shines 20 = .ok (.astore 4, 2) := by decide +kernel
theorem dL_shines_22 : decode cL_shines 22 = .ok (.iconst 1, 1) := by decide +kernel
theorem dL_shines_23 : decode cL_shines 23 = .ok (.ireturn, 1) := by decide +kernel
theorem dL_shines_24 : decode cL_shines 24 = .ok (.astore 4, 2) := by decide +kernel
theorem dL_shines_26 : decode cL_shines 26 = .ok (.iconst 2, 1) := by decide +kernel
theorem dL_shines_27 : decode cL_shines 27 = .ok (.ireturn, 1) := by decide +kernel
theorem dL_shines_28 : decode cL_shines 28 = .ok (.iconst 0, 1) := by decide +kernel
theorem dL_shines_29 : decode cL_shines 29 = .ok (.ireturn, 1) := by decide +kernel
theorem dL_sector_0 : decode cL_sector 0 = .ok (.aload 4, 2) := by decide +kernel
theorem dL_sector_2 : decode cL_sector 2 = .ok (.iconst 0, 1) := by decide +kernel
theorem dL_sector_3 : decode cL_sector 3 = .ok (.aload_n 0, 1) := by decide +kernel
theorem dL_sector_4 : decode cL_sector 4 = .ok (.iload_n 1, 1) := by decide +kernel
theorem dL_sector_5 : decode cL_sector 5 = .ok (.iload_n 2, 1) := by decide +kernel
theorem dL_sector_6 : decode cL_sector 6 = .ok (.iload_n 3, 1) := by decide +kernel
theorem dL_sector_7 : decode cL_sector 7 = .ok (.invokevirtual 48, 3) := by decide +kernel
theorem dL_sector_10 : decode cL_sector 10 = .ok (.i2l, 1) := by decide +kernel
theorem dL_sector_11 : decode cL_sector 11 = .ok (.lastore, 1) := by decide +kernel
theorem dL_sector_12 : decode cL_sector 12 = .ok (.goto 11, 3) := by decide +kernel
theorem dL_sector_15 : decode cL_sector 15 = .ok (.astore 5, 2) := by decide +kernel
theorem dL_sector_17 : decode cL_sector 17 = .ok (.iconst 1, 1) := by decide +kernel
theorem dL_sector_18 : decode cL_sector 18 = .ok (.ireturn, 1) := by decide +kernel
theorem dL_sector_19 : decode cL_sector 19 = .ok (.astore 5, 2) := by decide +kernel
theorem dL_sector_21 : decode cL_sector 21 = .ok (.iconst 2, 1) := by decide +kernel
theorem dL_sector_22 : decode cL_sector 22 = .ok (.ireturn, 1) := by decide +kernel
theorem dL_sector_23 : decode cL_sector 23 = .ok (.iconst 0, 1) := by decide +kernel
theorem dL_sector_24 : decode cL_sector 24 = .ok (.ireturn, 1) := by decide +kernel
theorem dL_isSeen_0 : decode cL_isSeen 0 = .ok (.aload 4, 2) := by decide +kernel
theorem dL_isSeen_2 : decode cL_isSeen 2 = .ok (.iconst 0, 1) := by decide +kernel
theorem dL_isSeen_3 : decode cL_isSeen 3 = .ok (.aload_n 0, 1) := by decide +kernel
theorem dL_isSeen_4 : decode cL_isSeen 4 = .ok (.iload_n 1, 1) := by decide +kernel
theorem dL_isSeen_5 : decode cL_isSeen 5 = .ok (.iload_n 2, 1) := by decide +kernel
theorem dL_isSeen_6 : decode cL_isSeen 6 = .ok (.iload_n 3, 1) := by decide +kernel
theorem dL_isSeen_7 : decode cL_isSeen 7 = .ok (.invokevirtual 51, 3) := by decide +kernel
theorem dL_isSeen_10 : decode cL_isSeen 10 = .ok (.ifCond .eq 7, 3) := by decide +kernel
theorem dL_isSeen_13 : decode cL_isSeen 13 = .ok (.lconst 1, 1) := by decide +kernel
theorem dL_isSeen_14 : decode cL_isSeen 14 = .ok (.goto 4, 3) := by decide +kernel
theorem dL_isSeen_17 : decode cL_isSeen 17 = .ok (.lconst 0, 1) := by decide +kernel
theorem dL_isSeen_18 : decode cL_isSeen 18 = .ok (.lastore, 1) := by decide +kernel
theorem dL_isSeen_19 : decode cL_isSeen 19 = .ok (.goto 11, 3) := by decide +kernel
theorem dL_isSeen_22 : decode cL_isSeen 22 = .ok (.astore 5, 2) := by decide +kernel
theorem dL_isSeen_24 : decode cL_isSeen 24 = .ok (.iconst 1, 1) := by decide +kernel
theorem dL_isSeen_25 : decode cL_isSeen 25 = .ok (.ireturn, 1) := by decide +kernel
theorem dL_isSeen_26 : decode cL_isSeen 26 = .ok (.astore 5, 2) := by decide +kernel
theorem dL_isSeen_28 : decode cL_isSeen 28 = .ok (.iconst 2, 1) := by decide +kernel
theorem dL_isSeen_29 : decode cL_isSeen 29 = .ok (.ireturn, 1) := by decide +kernel
theorem dL_isSeen_30 : decode cL_isSeen 30 = .ok (.iconst 0, 1) := by decide +kernel
theorem dL_isSeen_31 : decode cL_isSeen 31 = .ok (.ireturn, 1) := by decide +kernel
theorem dL_common_0 : decode cL_common 0 = .ok (.aload_n 3, 1) := by decide +kernel
theorem dL_common_1 : decode cL_common 1 = .ok (.iconst 0, 1) := by decide +kernel
theorem dL_common_2 : decode cL_common 2 = .ok (.aload_n 0, 1) := by decide +kernel
theorem dL_common_3 : decode cL_common 3 = .ok (.iload_n 1, 1) := by decide +kernel
theorem dL_common_4 : decode cL_common 4 = .ok (.iload_n 2, 1) := by decide +kernel
theorem dL_common_5 : decode cL_common 5 = .ok (.invokevirtual 55, 3) := by decide +kernel
theorem dL_common_8 : decode cL_common 8 = .ok (.i2l, 1) := by decide +kernel
theorem dL_common_9 : decode cL_common 9 = .ok (.lastore, 1) := by decide +kernel
theorem dL_common_10 : decode cL_common 10 = .ok (.goto 7, 3) := by decide +kernel
theorem dL_common_13 : decode cL_common 13 = .ok (.astore 4, 2) := by decide +kernel
theorem dL_common_15 : decode cL_common 15 = .ok (.iconst 1, 1) := by decide +kernel
theorem dL_common_16 : decode cL_common 16 = .ok (.ireturn, 1) := by decide +kernel
theorem dL_common_17 : decode cL_common 17 = .ok (.iconst 0, 1) := by decide +kernel
theorem dL_common_18 : decode cL_common 18 = .ok (.ireturn, 1) := by decide +kernel
theorem dL_print_0 : decode cL_print 0 = .ok (.aload_n 1, 1) := by decide +kernel
theorem dL_print_1 : decode cL_print 1 = .ok (.iconst 0, 1) := by decide +kernel
theorem dL_print_2 : decode cL_print 2 = .ok (.aload_n 0, 1) := by decide +kernel
theorem dL_print_3 : decode cL_print 3 = .ok (.invokevirtual 59, 3) := by decide +kernel
theorem dL_print_6 : decode cL_print 6 = .ok (.i2l, 1) := by decide +kernel
theorem dL_print_7 : decode cL_print 7 = .ok (.lastore, 1) := by decide +kernel
theorem dL_print_8 : decode cL_print 8 = .ok (.goto 6, 3) := by decide +kernel
theorem dL_print_11 : decode cL_print 11 = .ok (.astore_n 2, 1) := by decide +kernel
theorem dL_print_12 : decode cL_print 12 = .ok (.iconst 1, 1) := by decide +kernel
theorem dL_print_13 : decode cL_print 13 = .ok (.ireturn, 1) := by decide +kernel
theorem dL_print_14 : decode cL_print 14 = .ok (.iconst 0, 1) := by decide +kernel
theorem dL_print_15 : decode cL_print 15 = .ok (.ireturn, 1) := by decide +kernel
theorem dL_correct_0 : decode cL_correct 0 = .ok (.aload_n 3, 1) := by decide +kernel
theorem dL_correct_1 : decode cL_correct 1 = .ok (.iconst 0, 1) := by decide +kernel
theorem dL_correct_2 : decode cL_correct 2 = .ok (.aload_n 0, 1) := by decide +kernel
theorem dL_correct_3 : decode cL_correct 3 = .ok (.iload_n 1, 1) := by decide +kernel
theorem dL_correct_4 : decode cL_correct 4 = .ok (.iload_n 2, 1) := by decide +kernel
theorem dL_correct_5 : decode cL_correct 5 = .ok (.invokevirtual 62, 3) := by decide +kernel
theorem dL_correct_8 : decode cL_correct 8 = .ok (.i2l, 1) := by decide +kernel
theorem dL_correct_9 : decode cL_correct 9 = .ok (.lastore, 1) := by decide +kernel
theorem dL_correct_10 : decode cL_correct 10 = .ok (.goto 11, 3) := by decide +kernel
theorem dL_correct_13 : decode cL_correct 13 = .ok (.astore 4, 2) := by decide +kernel
theorem dL_correct_15 : decode cL_correct 15 = .ok (.iconst 1, 1) := by decide +kernel
theorem dL_correct_16 : decode cL_correct 16 = .ok (.ireturn, 1) := by decide +kernel
theorem dL_correct_17 : decode cL_correct 17 = .ok (.astore 4, 2) := by decide +kernel
theorem dL_correct_19 : decode cL_correct 19 = .ok (.iconst 2, 1) := by decide +kernel
theorem dL_correct_20 : decode cL_correct 20 = .ok (.ireturn, 1) := by decide +kernel
theorem dL_correct_21 : decode cL_correct 21 = .ok (.iconst 0, 1) := by decide +kernel
theorem dL_correct_22 : decode cL_correct 22 = .ok (.ireturn, 1) := by decide +kernel
theorem dL_behind_0 : decode cL_behind 0 = .ok (.aload_n 2, 1) := by decide +kernel
theorem dL_behind_1 : decode cL_behind 1 = .ok (.iconst 0, 1) := by decide +kernel
theorem dL_behind_2 : decode cL_behind 2 = .ok (.aload_n 0, 1) := by decide +kernel
theorem dL_behind_3 : decode cL_behind 3 = .ok (.iload_n 1, 1) := by decide +kernel
theorem dL_behind_4 : decode cL_behind 4 = .ok (.invokevirtual 65, 3) := by decide +kernel
theorem dL_behind_7 : decode cL_behind 7 = .ok (.i2l, 1) := by decide +kernel
theorem dL_behind_8 : decode cL_behind 8 = .ok (.lastore, 1) := by decide +kernel
theorem dL_behind_9 : decode cL_behind 9 = .ok (.goto 6, 3) := by decide +kernel
theorem dL_behind_12 : decode cL_behind 12 = .ok (.astore_n 3, 1) := by decide +kernel
theorem dL_behind_13 : decode cL_behind 13 = .ok (.iconst 1, 1) := by decide +kernel
theorem dL_behind_14 : decode cL_behind 14 = .ok (.ireturn, 1) := by decide +kernel
theorem dL_behind_15 : decode cL_behind 15 = .ok (.iconst 0, 1) := by decide +kernel
theorem dL_behind_16 : decode cL_behind 16 = .ok (.ireturn, 1) := by decide +kernel
theorem dL_shown_0 : decode cL_shown 0 = .ok (.aload_n 3, 1) := by decide +kernel
theorem dL_shown_1 : decode cL_shown 1 = .ok (.iconst 0, 1) := by decide +kernel
theorem dL_shown_2 : decode cL_shown 2 = .ok (.aload_n 0, 1) := by decide +kernel
theorem dL_shown_3 : decode cL_shown 3 = .ok (.iload_n 1, 1) := by decide +kernel
theorem dL_shown_4 : decode cL_shown 4 = .ok (.iload_n 2, 1) := by decide +kernel
theorem dL_shown_5 : decode cL_shown 5 = .ok (.invokevirtual 68, 3) := by decide +kernel
theorem dL_shown_8 : decode cL_shown 8 = .ok (.i2l, 1) := by decide +kernel
theorem dL_shown_9 : decode cL_shown 9 = .ok (.lastore, 1) := by decide +kernel
theorem dL_shown_10 : decode cL_shown 10 = .ok (.goto 7, 3) := by decide +kernel
theorem dL_shown_13 : decode cL_shown 13 = .ok (.astore 4, 2) := by decide +kernel
theorem dL_shown_15 : decode cL_shown 15 = .ok (.iconst 1, 1) := by decide +kernel
theorem dL_shown_16 : decode cL_shown 16 = .ok (.ireturn, 1) := by decide +kernel
theorem dL_shown_17 : decode cL_shown 17 = .ok (.iconst 0, 1) := by decide +kernel
theorem dL_shown_18 : decode cL_shown 18 = .ok (.ireturn, 1) := by decide +kernel
theorem dL_taken_0 : decode cL_taken 0 = .ok (.aload 7, 2) := by decide +kernel
theorem dL_taken_2 : decode cL_taken 2 = .ok (.iconst 0, 1) := by decide +kernel
theorem dL_taken_3 : decode cL_taken 3 = .ok (.aload_n 0, 1) := by decide +kernel
theorem dL_taken_4 : decode cL_taken 4 = .ok (.iload_n 1, 1) := by decide +kernel
theorem dL_taken_5 : decode cL_taken 5 = .ok (.iload_n 2, 1) := by decide +kernel
theorem dL_taken_6 : decode cL_taken 6 = .ok (.iload_n 3, 1) := by decide +kernel
theorem dL_taken_7 : decode cL_taken 7 = .ok (.iload 4, 2) := by decide +kernel
theorem dL_taken_9 : decode cL_taken 9 = .ok (.iload 5, 2) := by decide +kernel
theorem dL_taken_11 : decode cL_taken 11 = .ok (.iload 6, 2) := by decide +kernel
theorem dL_taken_13 : decode cL_taken 13 = .ok (.invokevirtual 71, 3) := by decide +kernel
theorem dL_taken_16 : decode cL_taken 16 = .ok (.i2l, 1) := by decide +kernel
theorem dL_taken_17 : decode cL_taken 17 = .ok (.lastore, 1) := by decide +kernel
theorem dL_taken_18 : decode cL_taken 18 = .ok (.goto 11, 3) := by decide +kernel
theorem dL_taken_21 : decode cL_taken 21 = .ok (.astore 8, 2) := by decide +kernel
theorem dL_taken_23 : decode cL_taken 23 = .ok (.iconst 1, 1) := by decide +kernel
theorem dL_taken_24 : decode cL_taken 24 = .ok (.ireturn, 1) := by decide +kernel
theorem dL_taken_25 : decode cL_taken 25 = .ok (.astore 8, 2) := by decide +kernel
theorem dL_taken_27 : decode cL_taken 27 = .ok (.iconst 2, 1) := by decide +kernel
theorem dL_taken_28 : decode cL_taken 28 = .ok (.ireturn, 1) := by decide +kernel
theorem dL_taken_29 : decode cL_taken 29 = .ok (.iconst 0, 1) := by decide +kernel
theorem dL_taken_30 : decode cL_taken 30 = .ok (.ireturn, 1) := by decide +kernel
theorem dL_law_0 : decode cL_law 0 = .ok (.new 8, 3) := by decide +kernel
theorem dL_law_3 : decode cL_law 3 = .ok (.dup, 1) := by decide +kernel
theorem dL_law_4 : decode cL_law 4 = .ok (.invokespecial 75, 3) := by decide +kernel
theorem dL_law_7 : decode cL_law 7 = .ok (.astore_n 1, 1) := by decide +kernel
theorem dL_law_8 : decode cL_law 8 = .ok (.new 76, 3) := by decide +kernel
theorem dL_law_11 : decode cL_law 11 = .ok (.dup, 1) := by decide +kernel
theorem dL_law_12 : decode cL_law 12 = .ok (.invokespecial 78, 3) := by decide +kernel
theorem dL_law_15 : decode cL_law 15 = .ok (.astore_n 2, 1) := by decide +kernel
theorem dL_law_16 : decode cL_law 16 = .ok (.iconst 1, 1) := by decide +kernel
theorem dL_law_17 : decode cL_law 17 = .ok (.newarray .long, 2) := by decide +kernel
theorem dL_law_19 : decode cL_law 19 = .ok (.astore_n 3, 1) := by decide +kernel
theorem dL_law_20 : decode cL_law 20 = .ok (.iconst 0, 1) := by decide +kernel
theorem dL_law_21 : decode cL_law 21 = .ok (.istore 4, 2) := by decide +kernel
theorem dL_law_23 : decode cL_law 23 = .ok (.iload 4, 2) := by decide +kernel
theorem dL_law_25 : decode cL_law 25 = .ok (.aload_n 0, 1) := by decide +kernel
theorem dL_law_26 : decode cL_law 26 = .ok (.arraylength, 1) := by decide +kernel
theorem dL_law_27 : decode cL_law 27 = .ok (.bipush 7, 2) := by decide +kernel
theorem dL_law_29 : decode cL_law 29 = .ok (.isub, 1) := by decide +kernel
theorem dL_law_30 : decode cL_law 30 = .ok (.if_icmp .gt 1372, 3) := by decide +kernel
theorem dL_law_33 : decode cL_law 33 = .ok (.aload_n 0, 1) := by decide +kernel
theorem dL_law_34 : decode cL_law 34 = .ok (.iload 4, 2) := by decide +kernel
theorem dL_law_36 : decode cL_law 36 = .ok (.iaload, 1) := by decide +kernel
theorem dL_law_37 : decode cL_law 37 = .ok (.bipush 31, 2) := by decide +kernel
theorem dL_law_39 : decode cL_law 39 = .ok (.iand, 1) := by decide +kernel
theorem dL_law_40 : decode cL_law 40 = .ok (.tableswitch 1356 0 18 #[92, 148, 192, 248, 323, 398, 502, 582, 666, 741, 821, 908, 976, 989, 1002, 1046, 1114, 1170, 1238], 92) := by decide +kernel
theorem dL_law_132 : decode cL_law 132 = .ok (.aload_n 1, 1) := by decide +kernel
theorem dL_law_133 : decode cL_law 133 = .ok (.aload_n 0, 1) := by decide +kernel
theorem dL_law_134 : decode cL_law 134 = .ok (.iload 4, 2) := by decide +kernel
theorem dL_law_136 : decode cL_law 136 = .ok (.iconst 1, 1) := by decide +kernel
theorem dL_law_137 : decode cL_law 137 = .ok (.iadd, 1) := by decide +kernel
theorem dL_law_138 : decode cL_law 138 = .ok (.iaload, 1) := by decide +kernel
theorem dL_law_139 : decode cL_law 139 = .ok (.aload_n 3, 1) := by decide +kernel
theorem dL_law_140 : decode cL_law 140 = .ok (.invokestatic 79, 3) := by decide +kernel
theorem dL_law_143 : decode cL_law 143 = .ok (.istore 5, 2) := by decide +kernel
theorem dL_law_145 : decode cL_law 145 = .ok (.aload_n 2, 1) := by decide +kernel
theorem dL_law_146 : decode cL_law 146 = .ok (.aload_n 0, 1) := by decide +kernel
theorem dL_law_147 : decode cL_law 147 = .ok (.iload 4, 2) := by decide +kernel
theorem dL_law_149 : decode cL_law 149 = .ok (.iconst 1, 1) := by decide +kernel
theorem dL_law_150 : decode cL_law 150 = .ok (.iadd, 1) := by decide +kernel
theorem dL_law_151 : decode cL_law 151 = .ok (.iaload, 1) := by decide +kernel
theorem dL_law_152 : decode cL_law 152 = .ok (.invokevirtual 84, 3) := by decide +kernel
theorem dL_law_155 : decode cL_law 155 = .ok (.istore 6, 2) := by decide +kernel
theorem dL_law_157 : decode cL_law 157 = .ok (.aload_n 2, 1) := by decide +kernel
theorem dL_law_158 : decode cL_law 158 = .ok (.invokevirtual 85, 3) := by decide +kernel
theorem dL_law_161 : decode cL_law 161 = .ok (.iload 5, 2) := by decide +kernel
theorem dL_law_163 : decode cL_law 163 = .ok (.if_icmp .eq 5, 3) := by decide +kernel
theorem dL_law_166 : decode cL_law 166 = .ok (.iconst 0, 1) := by decide +kernel
theorem dL_law_167 : decode cL_law 167 = .ok (.ireturn, 1) := by decide +kernel
theorem dL_law_168 : decode cL_law 168 = .ok (.iload 5, 2) := by decide +kernel
theorem dL_law_170 : decode cL_law 170 = .ok (.ifCond .ne 15, 3) := by decide +kernel
theorem dL_law_173 : decode cL_law 173 = .ok (.aload_n 3, 1) := by decide +kernel
theorem dL_law_174 : decode cL_law 174 = .ok (.iconst 0, 1) := by decide +kernel
theorem dL_law_175 : decode cL_law 175 = .ok (.laload, 1) := by decide +kernel
theorem dL_law_176 : decode cL_law 176 = .ok (.iload 6, 2) := by decide +kernel
theorem dL_law_178 : decode cL_law 178 = .ok (.i2l, 1) := by decide +kernel
theorem dL_law_179 : decode cL_law 179 = .ok (.lcmp, 1) := by decide +kernel
theorem dL_law_180 : decode cL_law 180 = .ok (.ifCond .eq 5, 3) := by decide +kernel
theorem dL_law_183 : decode cL_law 183 = .ok (.iconst 0, 1) := by decide +kernel
theorem dL_law_184 : decode cL_law 184 = .ok (.ireturn, 1) := by decide +kernel
theorem dL_law_185 : decode cL_law 185 = .ok (.goto 1211, 3) := by decide +kernel
theorem dL_law_188 : decode cL_law 188 = .ok (.aload_n 1, 1) := by decide +kernel
theorem dL_law_189 : decode cL_law 189 = .ok (.aload_n 3, 1) := by decide +kernel
theorem dL_law_190 : decode cL_law 190 = .ok (.invokestatic 88, 3) := by decide +kernel
theorem dL_law_193 : decode cL_law 193 = .ok (.istore 5, 2) := by decide +kernel
theorem dL_law_195 : decode cL_law 195 = .ok (.aload_n 2, 1) := by decide +kernel
theorem dL_law_196 : decode cL_law 196 = .ok (.invokevirtual 91, 3) := by decide +kernel
theorem dL_law_199 : decode cL_law 199 = .ok (.istore 6, 2) := by decide +kernel
theorem dL_law_201 : decode cL_law 201 = .ok (.aload_n 2, 1) := by decide +kernel
theorem dL_law_202 : decode cL_law 202 = .ok (.invokevirtual 85, 3) := by decide +kernel
theorem dL_law_205 : decode cL_law 205 = .ok (.iload 5, 2) := by decide +kernel
theorem dL_law_207 : decode cL_law 207 = .ok (.if_icmp .eq 5, 3) := by decide +kernel
theorem dL_law_210 : decode cL_law 210 = .ok (.iconst 0, 1) := by decide +kernel
theorem dL_law_211 : decode cL_law 211 = .ok (.ireturn, 1) := by decide +kernel
theorem dL_law_212 : decode cL_law 212 = .ok (.iload 5, 2) := by decide +kernel
theorem dL_law_214 : decode cL_law 214 = .ok (.ifCond .ne 15, 3) := by decide +kernel
theorem dL_law_217 : decode cL_law 217 = .ok (.aload_n 3, 1) := by decide +kernel
theorem dL_law_218 : decode cL_law 218 = .ok (.iconst 0, 1) := by decide +kernel
theorem dL_law_219 : decode cL_law 219 = .ok (.laload, 1) := by decide +kernel
theorem dL_law_220 : decode cL_law 220 = .ok (.iload 6, 2) := by decide +kernel
theorem dL_law_222 : decode cL_law 222 = .ok (.i2l, 1) := by decide +kernel
theorem dL_law_223 : decode cL_law 223 = .ok (.lcmp, 1) := by decide +kernel
theorem dL_law_224 : decode cL_law 224 = .ok (.ifCond .eq 5, 3) := by decide +kernel
theorem dL_law_227 : decode cL_law 227 = .ok (.iconst 0, 1) := by decide +kernel
theorem dL_law_228 : decode cL_law 228 = .ok (.ireturn, 1) := by decide +kernel
theorem dL_law_229 : decode cL_law 229 = .ok (.goto 1167, 3) := by decide +kernel
theorem dL_law_232 : decode cL_law 232 = .ok (.aload_n 1, 1) := by decide +kernel
theorem dL_law_233 : decode cL_law 233 = .ok (.aload_n 0, 1) := by decide +kernel
theorem dL_law_234 : decode cL_law 234 = .ok (.iload 4, 2) := by decide +kernel
theorem dL_law_236 : decode cL_law 236 = .ok (.iconst 1, 1) := by decide +kernel
theorem dL_law_237 : decode cL_law 237 = .ok (.iadd, 1) := by decide +kernel
theorem dL_law_238 : decode cL_law 238 = .ok (.iaload, 1) := by decide +kernel
theorem dL_law_239 : decode cL_law 239 = .ok (.aload_n 3, 1) := by decide +kernel
theorem dL_law_240 : decode cL_law 240 = .ok (.invokestatic 92, 3) := by decide +kernel
theorem dL_law_243 : decode cL_law 243 = .ok (.istore 5, 2) := by decide +kernel
theorem dL_law_245 : decode cL_law 245 = .ok (.aload_n 2, 1) := by decide +kernel
theorem dL_law_246 : decode cL_law 246 = .ok (.aload_n 0, 1) := by decide +kernel
theorem dL_law_247 : decode cL_law 247 = .ok (.iload 4, 2) := by decide +kernel
theorem dL_law_249 : decode cL_law 249 = .ok (.iconst 1, 1) := by decide +kernel
theorem dL_law_250 : decode cL_law 250 = .ok (.iadd, 1) := by decide +kernel
theorem dL_law_251 : decode cL_law 251 = .ok (.iaload, 1) := by decide +kernel
theorem dL_law_252 : decode cL_law 252 = .ok (.invokevirtual 94, 3) := by decide +kernel
theorem dL_law_255 : decode cL_law 255 = .ok (.istore 6, 2) := by decide +kernel
theorem dL_law_257 : decode cL_law 257 = .ok (.aload_n 2, 1) := by decide +kernel
theorem dL_law_258 : decode cL_law 258 = .ok (.invokevirtual 85, 3) := by decide +kernel
theorem dL_law_261 : decode cL_law 261 = .ok (.iload 5, 2) := by decide +kernel
theorem dL_law_263 : decode cL_law 263 = .ok (.if_icmp .eq 5, 3) := by decide +kernel
theorem dL_law_266 : decode cL_law 266 = .ok (.iconst 0, 1) := by decide +kernel
theorem dL_law_267 : decode cL_law 267 = .ok (.ireturn, 1) := by decide +kernel
theorem dL_law_268 : decode cL_law 268 = .ok (.iload 5, 2) := by decide +kernel
theorem dL_law_270 : decode cL_law 270 = .ok (.ifCond .ne 15, 3) := by decide +kernel
theorem dL_law_273 : decode cL_law 273 = .ok (.aload_n 3, 1) := by decide +kernel
theorem dL_law_274 : decode cL_law 274 = .ok (.iconst 0, 1) := by decide +kernel
theorem dL_law_275 : decode cL_law 275 = .ok (.laload, 1) := by decide +kernel
theorem dL_law_276 : decode cL_law 276 = .ok (.iload 6, 2) := by decide +kernel
theorem dL_law_278 : decode cL_law 278 = .ok (.i2l, 1) := by decide +kernel
theorem dL_law_279 : decode cL_law 279 = .ok (.lcmp, 1) := by decide +kernel
theorem dL_law_280 : decode cL_law 280 = .ok (.ifCond .eq 5, 3) := by decide +kernel
theorem dL_law_283 : decode cL_law 283 = .ok (.iconst 0, 1) := by decide +kernel
theorem dL_law_284 : decode cL_law 284 = .ok (.ireturn, 1) := by decide +kernel
theorem dL_law_285 : decode cL_law 285 = .ok (.goto 1111, 3) := by decide +kernel
theorem dL_law_288 : decode cL_law 288 = .ok (.aload_n 1, 1) := by decide +kernel
theorem dL_law_289 : decode cL_law 289 = .ok (.aload_n 0, 1) := by decide +kernel
theorem dL_law_290 : decode cL_law 290 = .ok (.iload 4, 2) := by decide +kernel
theorem dL_law_292 : decode cL_law 292 = .ok (.iconst 1, 1) := by decide +kernel
theorem dL_law_293 : decode cL_law 293 = .ok (.iadd, 1) := by decide +kernel
theorem dL_law_294 : decode cL_law 294 = .ok (.iaload, 1) := by decide +kernel
theorem dL_law_295 : decode cL_law 295 = .ok (.aload_n 0, 1) := by decide +kernel
theorem dL_law_296 : decode cL_law 296 = .ok (.iload 4, 2) := by decide +kernel
theorem dL_law_298 : decode cL_law 298 = .ok (.iconst 2, 1) := by decide +kernel
theorem dL_law_299 : decode cL_law 299 = .ok (.iadd, 1) := by decide +kernel
theorem dL_law_300 : decode cL_law 300 = .ok (.iaload, 1) := by decide +kernel
theorem dL_law_301 : decode cL_law 301 = .ok (.aload_n 3, 1) := by decide +kernel
theorem dL_law_302 : decode cL_law 302 = .ok (.invokestatic 95, 3) := by decide +kernel
theorem dL_law_305 : decode cL_law 305 = .ok (.istore 5, 2) := by decide +kernel
theorem dL_law_307 : decode cL_law 307 = .ok (.aload_n 2, 1) := by decide +kernel
theorem dL_law_308 : decode cL_law 308 = .ok (.aload_n 0, 1) := by decide +kernel
theorem dL_law_309 : decode cL_law 309 = .ok (.iload 4, 2) := by decide +kernel
theorem dL_law_311 : decode cL_law 311 = .ok (.iconst 1, 1) := by decide +kernel
theorem dL_law_312 : decode cL_law 312 = .ok (.iadd, 1) := by decide +kernel
theorem dL_law_313 : decode cL_law 313 = .ok (.iaload, 1) := by decide +kernel
theorem dL_law_314 : decode cL_law 314 = .ok (.aload_n 0, 1) := by decide +kernel
theorem dL_law_315 : decode cL_law 315 = .ok (.iload 4, 2) := by decide +kernel
theorem dL_law_317 : decode cL_law 317 = .ok (.iconst 2, 1) := by decide +kernel
theorem dL_law_318 : decode cL_law 318 = .ok (.iadd, 1) := by decide +kernel
theorem dL_law_319 : decode cL_law 319 = .ok (.iaload, 1) := by decide +kernel
theorem dL_law_320 : decode cL_law 320 = .ok (.invokevirtual 98, 3) := by decide +kernel
theorem dL_law_323 : decode cL_law 323 = .ok (.istore 6, 2) := by decide +kernel
theorem dL_law_325 : decode cL_law 325 = .ok (.aload_n 2, 1) := by decide +kernel
theorem dL_law_326 : decode cL_law 326 = .ok (.invokevirtual 85, 3) := by decide +kernel
theorem dL_law_329 : decode cL_law 329 = .ok (.iload 5, 2) := by decide +kernel
theorem dL_law_331 : decode cL_law 331 = .ok (.if_icmp .eq 5, 3) := by decide +kernel
theorem dL_law_334 : decode cL_law 334 = .ok (.iconst 0, 1) := by decide +kernel
theorem dL_law_335 : decode cL_law 335 = .ok (.ireturn, 1) := by decide +kernel
theorem dL_law_336 : decode cL_law 336 = .ok (.iload 5, 2) := by decide +kernel
theorem dL_law_338 : decode cL_law 338 = .ok (.ifCond .ne 22, 3) := by decide +kernel
theorem dL_law_341 : decode cL_law 341 = .ok (.aload_n 3, 1) := by decide +kernel
theorem dL_law_342 : decode cL_law 342 = .ok (.iconst 0, 1) := by decide +kernel
theorem dL_law_343 : decode cL_law 343 = .ok (.laload, 1) := by decide +kernel
theorem dL_law_344 : decode cL_law 344 = .ok (.iload 6, 2) := by decide +kernel
theorem dL_law_346 : decode cL_law 346 = .ok (.ifCond .eq 7, 3) := by decide +kernel
theorem dL_law_349 : decode cL_law 349 = .ok (.lconst 1, 1) := by decide +kernel
theorem dL_law_350 : decode cL_law 350 = .ok (.goto 4, 3) := by decide +kernel
theorem dL_law_353 : decode cL_law 353 = .ok (.lconst 0, 1) := by decide +kernel
theorem dL_law_354 : decode cL_law 354 = .ok (.lcmp, 1) := by decide +kernel
theorem dL_law_355 : decode cL_law 355 = .ok (.ifCond .eq 5, 3) := by decide +kernel
theorem dL_law_358 : decode cL_law 358 = .ok (.iconst 0, 1) := by decide +kernel
theorem dL_law_359 : decode cL_law 359 = .ok (.ireturn, 1) := by decide +kernel
theorem dL_law_360 : decode cL_law 360 = .ok (.goto 1036, 3) := by decide +kernel
theorem dL_law_363 : decode cL_law 363 = .ok (.aload_n 1, 1) := by decide +kernel
theorem dL_law_364 : decode cL_law 364 = .ok (.aload_n 0, 1) := by decide +kernel
theorem dL_law_365 : decode cL_law 365 = .ok (.iload 4, 2) := by decide +kernel
theorem dL_law_367 : decode cL_law 367 = .ok (.iconst 1, 1) := by decide +kernel
theorem dL_law_368 : decode cL_law 368 = .ok (.iadd, 1) := by decide +kernel
theorem dL_law_369 : decode cL_law 369 = .ok (.iaload, 1) := by decide +kernel
theorem dL_law_370 : decode cL_law 370 = .ok (.aload_n 0, 1) := by decide +kernel
theorem dL_law_371 : decode cL_law 371 = .ok (.iload 4, 2) := by decide +kernel
theorem dL_law_373 : decode cL_law 373 = .ok (.iconst 2, 1) := by decide +kernel
theorem dL_law_374 : decode cL_law 374 = .ok (.iadd, 1) := by decide +kernel
theorem dL_law_375 : decode cL_law 375 = .ok (.iaload, 1) := by decide +kernel
theorem dL_law_376 : decode cL_law 376 = .ok (.aload_n 3, 1) := by decide +kernel
theorem dL_law_377 : decode cL_law 377 = .ok (.invokestatic 99, 3) := by decide +kernel
theorem dL_law_380 : decode cL_law 380 = .ok (.istore 5, 2) := by decide +kernel
theorem dL_law_382 : decode cL_law 382 = .ok (.aload_n 2, 1) := by decide +kernel
theorem dL_law_383 : decode cL_law 383 = .ok (.aload_n 0, 1) := by decide +kernel
theorem dL_law_384 : decode cL_law 384 = .ok (.iload 4, 2) := by decide +kernel
theorem dL_law_386 : decode cL_law 386 = .ok (.iconst 1, 1) := by decide +kernel
theorem dL_law_387 : decode cL_law 387 = .ok (.iadd, 1) := by decide +kernel
theorem dL_law_388 : decode cL_law 388 = .ok (.iaload, 1) := by decide +kernel
theorem dL_law_389 : decode cL_law 389 = .ok (.aload_n 0, 1) := by decide +kernel
theorem dL_law_390 : decode cL_law 390 = .ok (.iload 4, 2) := by decide +kernel
theorem dL_law_392 : decode cL_law 392 = .ok (.iconst 2, 1) := by decide +kernel
theorem dL_law_393 : decode cL_law 393 = .ok (.iadd, 1) := by decide +kernel
theorem dL_law_394 : decode cL_law 394 = .ok (.iaload, 1) := by decide +kernel
theorem dL_law_395 : decode cL_law 395 = .ok (.invokevirtual 101, 3) := by decide +kernel
theorem dL_law_398 : decode cL_law 398 = .ok (.istore 6, 2) := by decide +kernel
theorem dL_law_400 : decode cL_law 400 = .ok (.aload_n 2, 1) := by decide +kernel
theorem dL_law_401 : decode cL_law 401 = .ok (.invokevirtual 85, 3) := by decide +kernel
theorem dL_law_404 : decode cL_law 404 = .ok (.iload 5, 2) := by decide +kernel
theorem dL_law_406 : decode cL_law 406 = .ok (.if_icmp .eq 5, 3) := by decide +kernel
theorem dL_law_409 : decode cL_law 409 = .ok (.iconst 0, 1) := by decide +kernel
theorem dL_law_410 : decode cL_law 410 = .ok (.ireturn, 1) := by decide +kernel
theorem dL_law_411 : decode cL_law 411 = .ok (.iload 5, 2) := by decide +kernel
theorem dL_law_413 : decode cL_law 413 = .ok (.ifCond .ne 22, 3) := by decide +kernel
theorem dL_law_416 : decode cL_law 416 = .ok (.aload_n 3, 1) := by decide +kernel
theorem dL_law_417 : decode cL_law 417 = .ok (.iconst 0, 1) := by decide +kernel
theorem dL_law_418 : decode cL_law 418 = .ok (.laload, 1) := by decide +kernel
theorem dL_law_419 : decode cL_law 419 = .ok (.iload 6, 2) := by decide +kernel
theorem dL_law_421 : decode cL_law 421 = .ok (.ifCond .eq 7, 3) := by decide +kernel
theorem dL_law_424 : decode cL_law 424 = .ok (.lconst 1, 1) := by decide +kernel
theorem dL_law_425 : decode cL_law 425 = .ok (.goto 4, 3) := by decide +kernel
theorem dL_law_428 : decode cL_law 428 = .ok (.lconst 0, 1) := by decide +kernel
theorem dL_law_429 : decode cL_law 429 = .ok (.lcmp, 1) := by decide +kernel
theorem dL_law_430 : decode cL_law 430 = .ok (.ifCond .eq 5, 3) := by decide +kernel
theorem dL_law_433 : decode cL_law 433 = .ok (.iconst 0, 1) := by decide +kernel
theorem dL_law_434 : decode cL_law 434 = .ok (.ireturn, 1) := by decide +kernel
theorem dL_law_435 : decode cL_law 435 = .ok (.goto 961, 3) := by decide +kernel
theorem dL_law_438 : decode cL_law 438 = .ok (.aload_n 1, 1) := by decide +kernel
theorem dL_law_439 : decode cL_law 439 = .ok (.aload_n 0, 1) := by decide +kernel
theorem dL_law_440 : decode cL_law 440 = .ok (.iload 4, 2) := by decide +kernel
theorem dL_law_442 : decode cL_law 442 = .ok (.iconst 1, 1) := by decide +kernel
theorem dL_law_443 : decode cL_law 443 = .ok (.iadd, 1) := by decide +kernel
theorem dL_law_444 : decode cL_law 444 = .ok (.iaload, 1) := by decide +kernel
theorem dL_law_445 : decode cL_law 445 = .ok (.aload_n 0, 1) := by decide +kernel
theorem dL_law_446 : decode cL_law 446 = .ok (.iload 4, 2) := by decide +kernel
theorem dL_law_448 : decode cL_law 448 = .ok (.iconst 2, 1) := by decide +kernel
theorem dL_law_449 : decode cL_law 449 = .ok (.iadd, 1) := by decide +kernel
theorem dL_law_450 : decode cL_law 450 = .ok (.iaload, 1) := by decide +kernel
theorem dL_law_451 : decode cL_law 451 = .ok (.aload_n 0, 1) := by decide +kernel
theorem dL_law_452 : decode cL_law 452 = .ok (.iload 4, 2) := by decide +kernel
theorem dL_law_454 : decode cL_law 454 = .ok (.iconst 3, 1) := by decide +kernel
theorem dL_law_455 : decode cL_law 455 = .ok (.iadd, 1) := by decide +kernel
theorem dL_law_456 : decode cL_law 456 = .ok (.iaload, 1) := by decide +kernel
theorem dL_law_457 : decode cL_law 457 = .ok (.aload_n 0, 1) := by decide +kernel
theorem dL_law_458 : decode cL_law 458 = .ok (.iload 4, 2) := by decide +kernel
theorem dL_law_460 : decode cL_law 460 = .ok (.iconst 4, 1) := by decide +kernel
theorem dL_law_461 : decode cL_law 461 = .ok (.iadd, 1) := by decide +kernel
theorem dL_law_462 : decode cL_law 462 = .ok (.iaload, 1) := by decide +kernel
theorem dL_law_463 : decode cL_law 463 = .ok (.aload_n 0, 1) := by decide +kernel
theorem dL_law_464 : decode cL_law 464 = .ok (.iload 4, 2) := by decide +kernel
theorem dL_law_466 : decode cL_law 466 = .ok (.iconst 5, 1) := by decide +kernel
theorem dL_law_467 : decode cL_law 467 = .ok (.iadd, 1) := by decide +kernel
theorem dL_law_468 : decode cL_law 468 = .ok (.iaload, 1) := by decide +kernel
theorem dL_law_469 : decode cL_law 469 = .ok (.aload_n 3, 1) := by decide +kernel
theorem dL_law_470 : decode cL_law 470 = .ok (.invokestatic 102, 3) := by decide +kernel
theorem dL_law_473 : decode cL_law 473 = .ok (.istore 5, 2) := by decide +kernel
theorem dL_law_475 : decode cL_law 475 = .ok (.aload_n 2, 1) := by decide +kernel
theorem dL_law_476 : decode cL_law 476 = .ok (.aload_n 0, 1) := by decide +kernel
theorem dL_law_477 : decode cL_law 477 = .ok (.iload 4, 2) := by decide +kernel
theorem dL_law_479 : decode cL_law 479 = .ok (.iconst 1, 1) := by decide +kernel
theorem dL_law_480 : decode cL_law 480 = .ok (.iadd, 1) := by decide +kernel
theorem dL_law_481 : decode cL_law 481 = .ok (.iaload, 1) := by decide +kernel
theorem dL_law_482 : decode cL_law 482 = .ok (.aload_n 0, 1) := by decide +kernel
theorem dL_law_483 : decode cL_law 483 = .ok (.iload 4, 2) := by decide +kernel
theorem dL_law_485 : decode cL_law 485 = .ok (.iconst 2, 1) := by decide +kernel
theorem dL_law_486 : decode cL_law 486 = .ok (.iadd, 1) := by decide +kernel
theorem dL_law_487 : decode cL_law 487 = .ok (.iaload, 1) := by decide +kernel
theorem dL_law_488 : decode cL_law 488 = .ok (.aload_n 0, 1) := by decide +kernel
theorem dL_law_489 : decode cL_law 489 = .ok (.iload 4, 2) := by decide +kernel
theorem dL_law_491 : decode cL_law 491 = .ok (.iconst 3, 1) := by decide +kernel
theorem dL_law_492 : decode cL_law 492 = .ok (.iadd, 1) := by decide +kernel
theorem dL_law_493 : decode cL_law 493 = .ok (.iaload, 1) := by decide +kernel
theorem dL_law_494 : decode cL_law 494 = .ok (.aload_n 0, 1) := by decide +kernel
theorem dL_law_495 : decode cL_law 495 = .ok (.iload 4, 2) := by decide +kernel
theorem dL_law_497 : decode cL_law 497 = .ok (.iconst 4, 1) := by decide +kernel
theorem dL_law_498 : decode cL_law 498 = .ok (.iadd, 1) := by decide +kernel
theorem dL_law_499 : decode cL_law 499 = .ok (.iaload, 1) := by decide +kernel
theorem dL_law_500 : decode cL_law 500 = .ok (.aload_n 0, 1) := by decide +kernel
theorem dL_law_501 : decode cL_law 501 = .ok (.iload 4, 2) := by decide +kernel
theorem dL_law_503 : decode cL_law 503 = .ok (.iconst 5, 1) := by decide +kernel
theorem dL_law_504 : decode cL_law 504 = .ok (.iadd, 1) := by decide +kernel
theorem dL_law_505 : decode cL_law 505 = .ok (.iaload, 1) := by decide +kernel
theorem dL_law_506 : decode cL_law 506 = .ok (.invokevirtual 105, 3) := by decide +kernel
theorem dL_law_509 : decode cL_law 509 = .ok (.istore 6, 2) := by decide +kernel
theorem dL_law_511 : decode cL_law 511 = .ok (.aload_n 2, 1) := by decide +kernel
theorem dL_law_512 : decode cL_law 512 = .ok (.invokevirtual 85, 3) := by decide +kernel
theorem dL_law_515 : decode cL_law 515 = .ok (.iload 5, 2) := by decide +kernel
theorem dL_law_517 : decode cL_law 517 = .ok (.if_icmp .eq 5, 3) := by decide +kernel
theorem dL_law_520 : decode cL_law 520 = .ok (.iconst 0, 1) := by decide +kernel
theorem dL_law_521 : decode cL_law 521 = .ok (.ireturn, 1) := by decide +kernel
theorem dL_law_522 : decode cL_law 522 = .ok (.iload 5, 2) := by decide +kernel
theorem dL_law_524 : decode cL_law 524 = .ok (.ifCond .ne 15, 3) := by decide +kernel
theorem dL_law_527 : decode cL_law 527 = .ok (.aload_n 3, 1) := by decide +kernel
theorem dL_law_528 : decode cL_law 528 = .ok (.iconst 0, 1) := by decide +kernel
theorem dL_law_529 : decode cL_law 529 = .ok (.laload, 1) := by decide +kernel
theorem dL_law_530 : decode cL_law 530 = .ok (.iload 6, 2) := by decide +kernel
theorem dL_law_532 : decode cL_law 532 = .ok (.i2l, 1) := by decide +kernel
theorem dL_law_533 : decode cL_law 533 = .ok (.lcmp, 1) := by decide +kernel
theorem dL_law_534 : decode cL_law 534 = .ok (.ifCond .eq 5, 3) := by decide +kernel
theorem dL_law_537 : decode cL_law 537 = .ok (.iconst 0, 1) := by decide +kernel
theorem dL_law_538 : decode cL_law 538 = .ok (.ireturn, 1) := by decide +kernel
theorem dL_law_539 : decode cL_law 539 = .ok (.goto 857, 3) := by decide +kernel
theorem dL_law_542 : decode cL_law 542 = .ok (.aload_n 1, 1) := by decide +kernel
theorem dL_law_543 : decode cL_law 543 = .ok (.aload_n 0, 1) := by decide +kernel
theorem dL_law_544 : decode cL_law 544 = .ok (.iload 4, 2) := by decide +kernel
theorem dL_law_546 : decode cL_law 546 = .ok (.iconst 1, 1) := by decide +kernel
theorem dL_law_547 : decode cL_law 547 = .ok (.iadd, 1) := by decide +kernel
theorem dL_law_548 : decode cL_law 548 = .ok (.iaload, 1) := by decide +kernel
theorem dL_law_549 : decode cL_law 549 = .ok (.aload_n 0, 1) := by decide +kernel
theorem dL_law_550 : decode cL_law 550 = .ok (.iload 4, 2) := by decide +kernel
theorem dL_law_552 : decode cL_law 552 = .ok (.iconst 2, 1) := by decide +kernel
theorem dL_law_553 : decode cL_law 553 = .ok (.iadd, 1) := by decide +kernel
theorem dL_law_554 : decode cL_law 554 = .ok (.iaload, 1) := by decide +kernel
theorem dL_law_555 : decode cL_law 555 = .ok (.aload_n 0, 1) := by decide +kernel
theorem dL_law_556 : decode cL_law 556 = .ok (.iload 4, 2) := by decide +kernel
theorem dL_law_558 : decode cL_law 558 = .ok (.iconst 3, 1) := by decide +kernel
theorem dL_law_559 : decode cL_law 559 = .ok (.iadd, 1) := by decide +kernel
theorem dL_law_560 : decode cL_law 560 = .ok (.iaload, 1) := by decide +kernel
theorem dL_law_561 : decode cL_law 561 = .ok (.aload_n 3, 1) := by decide +kernel
theorem dL_law_562 : decode cL_law 562 = .ok (.invokestatic 106, 3) := by decide +kernel
theorem dL_law_565 : decode cL_law 565 = .ok (.istore 5, 2) := by decide +kernel
theorem dL_law_567 : decode cL_law 567 = .ok (.aload_n 2, 1) := by decide +kernel
theorem dL_law_568 : decode cL_law 568 = .ok (.aload_n 0, 1) := by decide +kernel
theorem dL_law_569 : decode cL_law 569 = .ok (.iload 4, 2) := by decide +kernel
theorem dL_law_571 : decode cL_law 571 = .ok (.iconst 1, 1) := by decide +kernel
theorem dL_law_572 : decode cL_law 572 = .ok (.iadd, 1) := by decide +kernel
theorem dL_law_573 : decode cL_law 573 = .ok (.iaload, 1) := by decide +kernel
theorem dL_law_574 : decode cL_law 574 = .ok (.aload_n 0, 1) := by decide +kernel
theorem dL_law_575 : decode cL_law 575 = .ok (.iload 4, 2) := by decide +kernel
theorem dL_law_577 : decode cL_law 577 = .ok (.iconst 2, 1) := by decide +kernel
theorem dL_law_578 : decode cL_law 578 = .ok (.iadd, 1) := by decide +kernel
theorem dL_law_579 : decode cL_law 579 = .ok (.iaload, 1) := by decide +kernel
theorem dL_law_580 : decode cL_law 580 = .ok (.aload_n 0, 1) := by decide +kernel
theorem dL_law_581 : decode cL_law 581 = .ok (.iload 4, 2) := by decide +kernel
theorem dL_law_583 : decode cL_law 583 = .ok (.iconst 3, 1) := by decide +kernel
theorem dL_law_584 : decode cL_law 584 = .ok (.iadd, 1) := by decide +kernel
theorem dL_law_585 : decode cL_law 585 = .ok (.iaload, 1) := by decide +kernel
theorem dL_law_586 : decode cL_law 586 = .ok (.invokevirtual 109, 3) := by decide +kernel
theorem dL_law_589 : decode cL_law 589 = .ok (.istore 6, 2) := by decide +kernel
theorem dL_law_591 : decode cL_law 591 = .ok (.aload_n 2, 1) := by decide +kernel
theorem dL_law_592 : decode cL_law 592 = .ok (.invokevirtual 85, 3) := by decide +kernel
theorem dL_law_595 : decode cL_law 595 = .ok (.iload 5, 2) := by decide +kernel
theorem dL_law_597 : decode cL_law 597 = .ok (.if_icmp .eq 5, 3) := by decide +kernel
theorem dL_law_600 : decode cL_law 600 = .ok (.iconst 0, 1) := by decide +kernel
theorem dL_law_601 : decode cL_law 601 = .ok (.ireturn, 1) := by decide +kernel
theorem dL_law_602 : decode cL_law 602 = .ok (.iload 5, 2) := by decide +kernel
theorem dL_law_604 : decode cL_law 604 = .ok (.ifCond .ne 15, 3) := by decide +kernel
theorem dL_law_607 : decode cL_law 607 = .ok (.aload_n 3, 1) := by decide +kernel
theorem dL_law_608 : decode cL_law 608 = .ok (.iconst 0, 1) := by decide +kernel
theorem dL_law_609 : decode cL_law 609 = .ok (.laload, 1) := by decide +kernel
theorem dL_law_610 : decode cL_law 610 = .ok (.iload 6, 2) := by decide +kernel
theorem dL_law_612 : decode cL_law 612 = .ok (.i2l, 1) := by decide +kernel
theorem dL_law_613 : decode cL_law 613 = .ok (.lcmp, 1) := by decide +kernel
theorem dL_law_614 : decode cL_law 614 = .ok (.ifCond .eq 5, 3) := by decide +kernel
theorem dL_law_617 : decode cL_law 617 = .ok (.iconst 0, 1) := by decide +kernel
theorem dL_law_618 : decode cL_law 618 = .ok (.ireturn, 1) := by decide +kernel
theorem dL_law_619 : decode cL_law 619 = .ok (.goto 777, 3) := by decide +kernel
theorem dL_law_622 : decode cL_law 622 = .ok (.aload_n 1, 1) := by decide +kernel
theorem dL_law_623 : decode cL_law 623 = .ok (.aload_n 0, 1) := by decide +kernel
theorem dL_law_624 : decode cL_law 624 = .ok (.iload 4, 2) := by decide +kernel
theorem dL_law_626 : decode cL_law 626 = .ok (.iconst 1, 1) := by decide +kernel
theorem dL_law_627 : decode cL_law 627 = .ok (.iadd, 1) := by decide +kernel
theorem dL_law_628 : decode cL_law 628 = .ok (.iaload, 1) := by decide +kernel
theorem dL_law_629 : decode cL_law 629 = .ok (.aload_n 0, 1) := by decide +kernel
theorem dL_law_630 : decode cL_law 630 = .ok (.iload 4, 2) := by decide +kernel
theorem dL_law_632 : decode cL_law 632 = .ok (.iconst 2, 1) := by decide +kernel
theorem dL_law_633 : decode cL_law 633 = .ok (.iadd, 1) := by decide +kernel
theorem dL_law_634 : decode cL_law 634 = .ok (.iaload, 1) := by decide +kernel
theorem dL_law_635 : decode cL_law 635 = .ok (.ifCond .eq 7, 3) := by decide +kernel
theorem dL_law_638 : decode cL_law 638 = .ok (.iconst 1, 1) := by decide +kernel
theorem dL_law_639 : decode cL_law 639 = .ok (.goto 4, 3) := by decide +kernel
theorem dL_law_642 : decode cL_law 642 = .ok (.iconst 0, 1) := by decide +kernel
theorem dL_law_643 : decode cL_law 643 = .ok (.aload_n 3, 1) := by decide +kernel
theorem dL_law_644 : decode cL_law 644 = .ok (.invokestatic 110, 3) := by decide +kernel
theorem dL_law_647 : decode cL_law 647 = .ok (.istore 5, 2) := by decide +kernel
theorem dL_law_649 : decode cL_law 649 = .ok (.aload_n 2, 1) := by decide +kernel
theorem dL_law_650 : decode cL_law 650 = .ok (.aload_n 0, 1) := by decide +kernel
theorem dL_law_651 : decode cL_law 651 = .ok (.iload 4, 2) := by decide +kernel
theorem dL_law_653 : decode cL_law 653 = .ok (.iconst 1, 1) := by decide +kernel
theorem dL_law_654 : decode cL_law 654 = .ok (.iadd, 1) := by decide +kernel
theorem dL_law_655 : decode cL_law 655 = .ok (.iaload, 1) := by decide +kernel
theorem dL_law_656 : decode cL_law 656 = .ok (.aload_n 0, 1) := by decide +kernel
theorem dL_law_657 : decode cL_law 657 = .ok (.iload 4, 2) := by decide +kernel
theorem dL_law_659 : decode cL_law 659 = .ok (.iconst 2, 1) := by decide +kernel
theorem dL_law_660 : decode cL_law 660 = .ok (.iadd, 1) := by decide +kernel
theorem dL_law_661 : decode cL_law 661 = .ok (.iaload, 1) := by decide +kernel
theorem dL_law_662 : decode cL_law 662 = .ok (.ifCond .eq 7, 3) := by decide +kernel
theorem dL_law_665 : decode cL_law 665 = .ok (.iconst 1, 1) := by decide +kernel
theorem dL_law_666 : decode cL_law 666 = .ok (.goto 4, 3) := by decide +kernel
theorem dL_law_669 : decode cL_law 669 = .ok (.iconst 0, 1) := by decide +kernel
theorem dL_law_670 : decode cL_law 670 = .ok (.invokevirtual 113, 3) := by decide +kernel
theorem dL_law_673 : decode cL_law 673 = .ok (.istore 6, 2) := by decide +kernel
theorem dL_law_675 : decode cL_law 675 = .ok (.aload_n 2, 1) := by decide +kernel
theorem dL_law_676 : decode cL_law 676 = .ok (.invokevirtual 85, 3) := by decide +kernel
theorem dL_law_679 : decode cL_law 679 = .ok (.iload 5, 2) := by decide +kernel
theorem dL_law_681 : decode cL_law 681 = .ok (.if_icmp .eq 5, 3) := by decide +kernel
theorem dL_law_684 : decode cL_law 684 = .ok (.iconst 0, 1) := by decide +kernel
theorem dL_law_685 : decode cL_law 685 = .ok (.ireturn, 1) := by decide +kernel
theorem dL_law_686 : decode cL_law 686 = .ok (.iload 5, 2) := by decide +kernel
theorem dL_law_688 : decode cL_law 688 = .ok (.ifCond .ne 15, 3) := by decide +kernel
theorem dL_law_691 : decode cL_law 691 = .ok (.aload_n 3, 1) := by decide +kernel
theorem dL_law_692 : decode cL_law 692 = .ok (.iconst 0, 1) := by decide +kernel
theorem dL_law_693 : decode cL_law 693 = .ok (.laload, 1) := by decide +kernel
theorem dL_law_694 : decode cL_law 694 = .ok (.iload 6, 2) := by decide +kernel
theorem dL_law_696 : decode cL_law 696 = .ok (.i2l, 1) := by decide +kernel
theorem dL_law_697 : decode cL_law 697 = .ok (.lcmp, 1) := by decide +kernel
theorem dL_law_698 : decode cL_law 698 = .ok (.ifCond .eq 5, 3) := by decide +kernel
theorem dL_law_701 : decode cL_law 701 = .ok (.iconst 0, 1) := by decide +kernel
theorem dL_law_702 : decode cL_law 702 = .ok (.ireturn, 1) := by decide +kernel
theorem dL_law_703 : decode cL_law 703 = .ok (.goto 693, 3) := by decide +kernel
theorem dL_law_706 : decode cL_law 706 = .ok (.aload_n 1, 1) := by decide +kernel
theorem dL_law_707 : decode cL_law 707 = .ok (.aload_n 0, 1) := by decide +kernel
theorem dL_law_708 : decode cL_law 708 = .ok (.iload 4, 2) := by decide +kernel
theorem dL_law_710 : decode cL_law 710 = .ok (.iconst 1, 1) := by decide +kernel
theorem dL_law_711 : decode cL_law 711 = .ok (.iadd, 1) := by decide +kernel
theorem dL_law_712 : decode cL_law 712 = .ok (.iaload, 1) := by decide +kernel
theorem dL_law_713 : decode cL_law 713 = .ok (.aload_n 0, 1) := by decide +kernel
theorem dL_law_714 : decode cL_law 714 = .ok (.iload 4, 2) := by decide +kernel
theorem dL_law_716 : decode cL_law 716 = .ok (.iconst 2, 1) := by decide +kernel
theorem dL_law_717 : decode cL_law 717 = .ok (.iadd, 1) := by decide +kernel
theorem dL_law_718 : decode cL_law 718 = .ok (.iaload, 1) := by decide +kernel
theorem dL_law_719 : decode cL_law 719 = .ok (.aload_n 3, 1) := by decide +kernel
theorem dL_law_720 : decode cL_law 720 = .ok (.invokestatic 114, 3) := by decide +kernel
theorem dL_law_723 : decode cL_law 723 = .ok (.istore 5, 2) := by decide +kernel
theorem dL_law_725 : decode cL_law 725 = .ok (.aload_n 2, 1) := by decide +kernel
theorem dL_law_726 : decode cL_law 726 = .ok (.aload_n 0, 1) := by decide +kernel
theorem dL_law_727 : decode cL_law 727 = .ok (.iload 4, 2) := by decide +kernel
theorem dL_law_729 : decode cL_law 729 = .ok (.iconst 1, 1) := by decide +kernel
theorem dL_law_730 : decode cL_law 730 = .ok (.iadd, 1) := by decide +kernel
theorem dL_law_731 : decode cL_law 731 = .ok (.iaload, 1) := by decide +kernel
theorem dL_law_732 : decode cL_law 732 = .ok (.aload_n 0, 1) := by decide +kernel
theorem dL_law_733 : decode cL_law 733 = .ok (.iload 4, 2) := by decide +kernel
theorem dL_law_735 : decode cL_law 735 = .ok (.iconst 2, 1) := by decide +kernel
theorem dL_law_736 : decode cL_law 736 = .ok (.iadd, 1) := by decide +kernel
theorem dL_law_737 : decode cL_law 737 = .ok (.iaload, 1) := by decide +kernel
theorem dL_law_738 : decode cL_law 738 = .ok (.invokevirtual 116, 3) := by decide +kernel
theorem dL_law_741 : decode cL_law 741 = .ok (.istore 6, 2) := by decide +kernel
theorem dL_law_743 : decode cL_law 743 = .ok (.aload_n 2, 1) := by decide +kernel
theorem dL_law_744 : decode cL_law 744 = .ok (.invokevirtual 85, 3) := by decide +kernel
theorem dL_law_747 : decode cL_law 747 = .ok (.iload 5, 2) := by decide +kernel
theorem dL_law_749 : decode cL_law 749 = .ok (.if_icmp .eq 5, 3) := by decide +kernel
theorem dL_law_752 : decode cL_law 752 = .ok (.iconst 0, 1) := by decide +kernel
theorem dL_law_753 : decode cL_law 753 = .ok (.ireturn, 1) := by decide +kernel
theorem dL_law_754 : decode cL_law 754 = .ok (.iload 5, 2) := by decide +kernel
theorem dL_law_756 : decode cL_law 756 = .ok (.ifCond .ne 22, 3) := by decide +kernel
theorem dL_law_759 : decode cL_law 759 = .ok (.aload_n 3, 1) := by decide +kernel
theorem dL_law_760 : decode cL_law 760 = .ok (.iconst 0, 1) := by decide +kernel
theorem dL_law_761 : decode cL_law 761 = .ok (.laload, 1) := by decide +kernel
theorem dL_law_762 : decode cL_law 762 = .ok (.iload 6, 2) := by decide +kernel
theorem dL_law_764 : decode cL_law 764 = .ok (.ifCond .eq 7, 3) := by decide +kernel
theorem dL_law_767 : decode cL_law 767 = .ok (.lconst 1, 1) := by decide +kernel
theorem dL_law_768 : decode cL_law 768 = .ok (.goto 4, 3) := by decide +kernel
theorem dL_law_771 : decode cL_law 771 = .ok (.lconst 0, 1) := by decide +kernel
theorem dL_law_772 : decode cL_law 772 = .ok (.lcmp, 1) := by decide +kernel
theorem dL_law_773 : decode cL_law 773 = .ok (.ifCond .eq 5, 3) := by decide +kernel
theorem dL_law_776 : decode cL_law 776 = .ok (.iconst 0, 1) := by decide +kernel
theorem dL_law_777 : decode cL_law 777 = .ok (.ireturn, 1) := by decide +kernel
theorem dL_law_778 : decode cL_law 778 = .ok (.goto 618, 3) := by decide +kernel
theorem dL_law_781 : decode cL_law 781 = .ok (.aload_n 1, 1) := by decide +kernel
theorem dL_law_782 : decode cL_law 782 = .ok (.aload_n 0, 1) := by decide +kernel
theorem dL_law_783 : decode cL_law 783 = .ok (.iload 4, 2) := by decide +kernel
theorem dL_law_785 : decode cL_law 785 = .ok (.iconst 1, 1) := by decide +kernel
theorem dL_law_786 : decode cL_law 786 = .ok (.iadd, 1) := by decide +kernel
theorem dL_law_787 : decode cL_law 787 = .ok (.iaload, 1) := by decide +kernel
theorem dL_law_788 : decode cL_law 788 = .ok (.aload_n 0, 1) := by decide +kernel
theorem dL_law_789 : decode cL_law 789 = .ok (.iload 4, 2) := by decide +kernel
theorem dL_law_791 : decode cL_law 791 = .ok (.iconst 2, 1) := by decide +kernel
theorem dL_law_792 : decode cL_law 792 = .ok (.iadd, 1) := by decide +kernel
theorem dL_law_793 : decode cL_law 793 = .ok (.iaload, 1) := by decide +kernel
theorem dL_law_794 : decode cL_law 794 = .ok (.aload_n 0, 1) := by decide +kernel
theorem dL_law_795 : decode cL_law 795 = .ok (.iload 4, 2) := by decide +kernel
theorem dL_law_797 : decode cL_law 797 = .ok (.iconst 3, 1) := by decide +kernel
theorem dL_law_798 : decode cL_law 798 = .ok (.iadd, 1) := by decide +kernel
theorem dL_law_799 : decode cL_law 799 = .ok (.iaload, 1) := by decide +kernel
theorem dL_law_800 : decode cL_law 800 = .ok (.aload_n 3, 1) := by decide +kernel
theorem dL_law_801 : decode cL_law 801 = .ok (.invokestatic 117, 3) := by decide +kernel
theorem dL_law_804 : decode cL_law 804 = .ok (.istore 5, 2) := by decide +kernel
theorem dL_law_806 : decode cL_law 806 = .ok (.aload_n 2, 1) := by decide +kernel
theorem dL_law_807 : decode cL_law 807 = .ok (.aload_n 0, 1) := by decide +kernel
theorem dL_law_808 : decode cL_law 808 = .ok (.iload 4, 2) := by decide +kernel
theorem dL_law_810 : decode cL_law 810 = .ok (.iconst 1, 1) := by decide +kernel
theorem dL_law_811 : decode cL_law 811 = .ok (.iadd, 1) := by decide +kernel
theorem dL_law_812 : decode cL_law 812 = .ok (.iaload, 1) := by decide +kernel
theorem dL_law_813 : decode cL_law 813 = .ok (.aload_n 0, 1) := by decide +kernel
theorem dL_law_814 : decode cL_law 814 = .ok (.iload 4, 2) := by decide +kernel
theorem dL_law_816 : decode cL_law 816 = .ok (.iconst 2, 1) := by decide +kernel
theorem dL_law_817 : decode cL_law 817 = .ok (.iadd, 1) := by decide +kernel
theorem dL_law_818 : decode cL_law 818 = .ok (.iaload, 1) := by decide +kernel
theorem dL_law_819 : decode cL_law 819 = .ok (.aload_n 0, 1) := by decide +kernel
theorem dL_law_820 : decode cL_law 820 = .ok (.iload 4, 2) := by decide +kernel
theorem dL_law_822 : decode cL_law 822 = .ok (.iconst 3, 1) := by decide +kernel
theorem dL_law_823 : decode cL_law 823 = .ok (.iadd, 1) := by decide +kernel
theorem dL_law_824 : decode cL_law 824 = .ok (.iaload, 1) := by decide +kernel
theorem dL_law_825 : decode cL_law 825 = .ok (.invokevirtual 119, 3) := by decide +kernel
theorem dL_law_828 : decode cL_law 828 = .ok (.istore 6, 2) := by decide +kernel
theorem dL_law_830 : decode cL_law 830 = .ok (.aload_n 2, 1) := by decide +kernel
theorem dL_law_831 : decode cL_law 831 = .ok (.invokevirtual 85, 3) := by decide +kernel
theorem dL_law_834 : decode cL_law 834 = .ok (.iload 5, 2) := by decide +kernel
theorem dL_law_836 : decode cL_law 836 = .ok (.if_icmp .eq 5, 3) := by decide +kernel
theorem dL_law_839 : decode cL_law 839 = .ok (.iconst 0, 1) := by decide +kernel
theorem dL_law_840 : decode cL_law 840 = .ok (.ireturn, 1) := by decide +kernel
theorem dL_law_841 : decode cL_law 841 = .ok (.iload 5, 2) := by decide +kernel
theorem dL_law_843 : decode cL_law 843 = .ok (.ifCond .ne 15, 3) := by decide +kernel
theorem dL_law_846 : decode cL_law 846 = .ok (.aload_n 3, 1) := by decide +kernel
theorem dL_law_847 : decode cL_law 847 = .ok (.iconst 0, 1) := by decide +kernel
theorem dL_law_848 : decode cL_law 848 = .ok (.laload, 1) := by decide +kernel
theorem dL_law_849 : decode cL_law 849 = .ok (.iload 6, 2) := by decide +kernel
theorem dL_law_851 : decode cL_law 851 = .ok (.i2l, 1) := by decide +kernel
theorem dL_law_852 : decode cL_law 852 = .ok (.lcmp, 1) := by decide +kernel
theorem dL_law_853 : decode cL_law 853 = .ok (.ifCond .eq 5, 3) := by decide +kernel
theorem dL_law_856 : decode cL_law 856 = .ok (.iconst 0, 1) := by decide +kernel
theorem dL_law_857 : decode cL_law 857 = .ok (.ireturn, 1) := by decide +kernel
theorem dL_law_858 : decode cL_law 858 = .ok (.goto 538, 3) := by decide +kernel
theorem dL_law_861 : decode cL_law 861 = .ok (.aload_n 1, 1) := by decide +kernel
theorem dL_law_862 : decode cL_law 862 = .ok (.aload_n 0, 1) := by decide +kernel
theorem dL_law_863 : decode cL_law 863 = .ok (.iload 4, 2) := by decide +kernel
theorem dL_law_865 : decode cL_law 865 = .ok (.iconst 1, 1) := by decide +kernel
theorem dL_law_866 : decode cL_law 866 = .ok (.iadd, 1) := by decide +kernel
theorem dL_law_867 : decode cL_law 867 = .ok (.iaload, 1) := by decide +kernel
theorem dL_law_868 : decode cL_law 868 = .ok (.aload_n 0, 1) := by decide +kernel
theorem dL_law_869 : decode cL_law 869 = .ok (.iload 4, 2) := by decide +kernel
theorem dL_law_871 : decode cL_law 871 = .ok (.iconst 2, 1) := by decide +kernel
theorem dL_law_872 : decode cL_law 872 = .ok (.iadd, 1) := by decide +kernel
theorem dL_law_873 : decode cL_law 873 = .ok (.iaload, 1) := by decide +kernel
theorem dL_law_874 : decode cL_law 874 = .ok (.aload_n 0, 1) := by decide +kernel
theorem dL_law_875 : decode cL_law 875 = .ok (.iload 4, 2) := by decide +kernel
theorem dL_law_877 : decode cL_law 877 = .ok (.iconst 3, 1) := by decide +kernel
theorem dL_law_878 : decode cL_law 878 = .ok (.iadd, 1) := by decide +kernel
theorem dL_law_879 : decode cL_law 879 = .ok (.iaload, 1) := by decide +kernel
theorem dL_law_880 : decode cL_law 880 = .ok (.aload_n 3, 1) := by decide +kernel
theorem dL_law_881 : decode cL_law 881 = .ok (.invokestatic 120, 3) := by decide +kernel
theorem dL_law_884 : decode cL_law 884 = .ok (.istore 5, 2) := by decide +kernel
theorem dL_law_886 : decode cL_law 886 = .ok (.aload_n 2, 1) := by decide +kernel
theorem dL_law_887 : decode cL_law 887 = .ok (.aload_n 0, 1) := by decide +kernel
theorem dL_law_888 : decode cL_law 888 = .ok (.iload 4, 2) := by decide +kernel
theorem dL_law_890 : decode cL_law 890 = .ok (.iconst 1, 1) := by decide +kernel
theorem dL_law_891 : decode cL_law 891 = .ok (.iadd, 1) := by decide +kernel
theorem dL_law_892 : decode cL_law 892 = .ok (.iaload, 1) := by decide +kernel
theorem dL_law_893 : decode cL_law 893 = .ok (.aload_n 0, 1) := by decide +kernel
theorem dL_law_894 : decode cL_law 894 = .ok (.iload 4, 2) := by decide +kernel
theorem dL_law_896 : decode cL_law 896 = .ok (.iconst 2, 1) := by decide +kernel
theorem dL_law_897 : decode cL_law 897 = .ok (.iadd, 1) := by decide +kernel
theorem dL_law_898 : decode cL_law 898 = .ok (.iaload, 1) := by decide +kernel
theorem dL_law_899 : decode cL_law 899 = .ok (.aload_n 0, 1) := by decide +kernel
theorem dL_law_900 : decode cL_law 900 = .ok (.iload 4, 2) := by decide +kernel
theorem dL_law_902 : decode cL_law 902 = .ok (.iconst 3, 1) := by decide +kernel
theorem dL_law_903 : decode cL_law 903 = .ok (.iadd, 1) := by decide +kernel
theorem dL_law_904 : decode cL_law 904 = .ok (.iaload, 1) := by decide +kernel
theorem dL_law_905 : decode cL_law 905 = .ok (.invokevirtual 122, 3) := by decide +kernel
theorem dL_law_908 : decode cL_law 908 = .ok (.istore 6, 2) := by decide +kernel
theorem dL_law_910 : decode cL_law 910 = .ok (.aload_n 2, 1) := by decide +kernel
theorem dL_law_911 : decode cL_law 911 = .ok (.invokevirtual 85, 3) := by decide +kernel
theorem dL_law_914 : decode cL_law 914 = .ok (.iload 5, 2) := by decide +kernel
theorem dL_law_916 : decode cL_law 916 = .ok (.if_icmp .eq 5, 3) := by decide +kernel
theorem dL_law_919 : decode cL_law 919 = .ok (.iconst 0, 1) := by decide +kernel
theorem dL_law_920 : decode cL_law 920 = .ok (.ireturn, 1) := by decide +kernel
theorem dL_law_921 : decode cL_law 921 = .ok (.iload 5, 2) := by decide +kernel
theorem dL_law_923 : decode cL_law 923 = .ok (.ifCond .ne 22, 3) := by decide +kernel
theorem dL_law_926 : decode cL_law 926 = .ok (.aload_n 3, 1) := by decide +kernel
theorem dL_law_927 : decode cL_law 927 = .ok (.iconst 0, 1) := by decide +kernel
theorem dL_law_928 : decode cL_law 928 = .ok (.laload, 1) := by decide +kernel
theorem dL_law_929 : decode cL_law 929 = .ok (.iload 6, 2) := by decide +kernel
theorem dL_law_931 : decode cL_law 931 = .ok (.ifCond .eq 7, 3) := by decide +kernel
theorem dL_law_934 : decode cL_law 934 = .ok (.lconst 1, 1) := by decide +kernel
theorem dL_law_935 : decode cL_law 935 = .ok (.goto 4, 3) := by decide +kernel
theorem dL_law_938 : decode cL_law 938 = .ok (.lconst 0, 1) := by decide +kernel
theorem dL_law_939 : decode cL_law 939 = .ok (.lcmp, 1) := by decide +kernel
theorem dL_law_940 : decode cL_law 940 = .ok (.ifCond .eq 5, 3) := by decide +kernel
theorem dL_law_943 : decode cL_law 943 = .ok (.iconst 0, 1) := by decide +kernel
theorem dL_law_944 : decode cL_law 944 = .ok (.ireturn, 1) := by decide +kernel
theorem dL_law_945 : decode cL_law 945 = .ok (.goto 451, 3) := by decide +kernel
theorem dL_law_948 : decode cL_law 948 = .ok (.aload_n 1, 1) := by decide +kernel
theorem dL_law_949 : decode cL_law 949 = .ok (.aload_n 0, 1) := by decide +kernel
theorem dL_law_950 : decode cL_law 950 = .ok (.iload 4, 2) := by decide +kernel
theorem dL_law_952 : decode cL_law 952 = .ok (.iconst 1, 1) := by decide +kernel
theorem dL_law_953 : decode cL_law 953 = .ok (.iadd, 1) := by decide +kernel
theorem dL_law_954 : decode cL_law 954 = .ok (.iaload, 1) := by decide +kernel
theorem dL_law_955 : decode cL_law 955 = .ok (.aload_n 0, 1) := by decide +kernel
theorem dL_law_956 : decode cL_law 956 = .ok (.iload 4, 2) := by decide +kernel
theorem dL_law_958 : decode cL_law 958 = .ok (.iconst 2, 1) := by decide +kernel
theorem dL_law_959 : decode cL_law 959 = .ok (.iadd, 1) := by decide +kernel
theorem dL_law_960 : decode cL_law 960 = .ok (.iaload, 1) := by decide +kernel
theorem dL_law_961 : decode cL_law 961 = .ok (.aload_n 3, 1) := by decide +kernel
theorem dL_law_962 : decode cL_law 962 = .ok (.invokestatic 123, 3) := by decide +kernel
theorem dL_law_965 : decode cL_law 965 = .ok (.istore 5, 2) := by decide +kernel
theorem dL_law_967 : decode cL_law 967 = .ok (.aload_n 2, 1) := by decide +kernel
theorem dL_law_968 : decode cL_law 968 = .ok (.aload_n 0, 1) := by decide +kernel
theorem dL_law_969 : decode cL_law 969 = .ok (.iload 4, 2) := by decide +kernel
theorem dL_law_971 : decode cL_law 971 = .ok (.iconst 1, 1) := by decide +kernel
theorem dL_law_972 : decode cL_law 972 = .ok (.iadd, 1) := by decide +kernel
theorem dL_law_973 : decode cL_law 973 = .ok (.iaload, 1) := by decide +kernel
theorem dL_law_974 : decode cL_law 974 = .ok (.aload_n 0, 1) := by decide +kernel
theorem dL_law_975 : decode cL_law 975 = .ok (.iload 4, 2) := by decide +kernel
theorem dL_law_977 : decode cL_law 977 = .ok (.iconst 2, 1) := by decide +kernel
theorem dL_law_978 : decode cL_law 978 = .ok (.iadd, 1) := by decide +kernel
theorem dL_law_979 : decode cL_law 979 = .ok (.iaload, 1) := by decide +kernel
theorem dL_law_980 : decode cL_law 980 = .ok (.invokevirtual 125, 3) := by decide +kernel
theorem dL_law_983 : decode cL_law 983 = .ok (.istore 6, 2) := by decide +kernel
theorem dL_law_985 : decode cL_law 985 = .ok (.aload_n 2, 1) := by decide +kernel
theorem dL_law_986 : decode cL_law 986 = .ok (.invokevirtual 85, 3) := by decide +kernel
theorem dL_law_989 : decode cL_law 989 = .ok (.iload 5, 2) := by decide +kernel
theorem dL_law_991 : decode cL_law 991 = .ok (.if_icmp .eq 5, 3) := by decide +kernel
theorem dL_law_994 : decode cL_law 994 = .ok (.iconst 0, 1) := by decide +kernel
theorem dL_law_995 : decode cL_law 995 = .ok (.ireturn, 1) := by decide +kernel
theorem dL_law_996 : decode cL_law 996 = .ok (.iload 5, 2) := by decide +kernel
theorem dL_law_998 : decode cL_law 998 = .ok (.ifCond .ne 15, 3) := by decide +kernel
theorem dL_law_1001 : decode cL_law 1001 = .ok (.aload_n 3, 1) := by decide +kernel
theorem dL_law_1002 : decode cL_law 1002 = .ok (.iconst 0, 1) := by decide +kernel
theorem dL_law_1003 : decode cL_law 1003 = .ok (.laload, 1) := by decide +kernel
theorem dL_law_1004 : decode cL_law 1004 = .ok (.iload 6, 2) := by decide +kernel
theorem dL_law_1006 : decode cL_law 1006 = .ok (.i2l, 1) := by decide +kernel
theorem dL_law_1007 : decode cL_law 1007 = .ok (.lcmp, 1) := by decide +kernel
theorem dL_law_1008 : decode cL_law 1008 = .ok (.ifCond .eq 5, 3) := by decide +kernel
theorem dL_law_1011 : decode cL_law 1011 = .ok (.iconst 0, 1) := by decide +kernel
theorem dL_law_1012 : decode cL_law 1012 = .ok (.ireturn, 1) := by decide +kernel
theorem dL_law_1013 : decode cL_law 1013 = .ok (.goto 383, 3) := by decide +kernel
theorem dL_law_1016 : decode cL_law 1016 = .ok (.aload_n 1, 1) := by decide +kernel
theorem dL_law_1017 : decode cL_law 1017 = .ok (.invokevirtual 126, 3) := by decide +kernel
theorem dL_law_1020 : decode cL_law 1020 = .ok (.aload_n 2, 1) := by decide +kernel
theorem dL_law_1021 : decode cL_law 1021 = .ok (.invokevirtual 129, 3) := by decide +kernel
theorem dL_law_1024 : decode cL_law 1024 = .ok (.if_icmp .eq 372, 3) := by decide +kernel
theorem dL_law_1027 : decode cL_law 1027 = .ok (.iconst 0, 1) := by decide +kernel
theorem dL_law_1028 : decode cL_law 1028 = .ok (.ireturn, 1) := by decide +kernel
theorem dL_law_1029 : decode cL_law 1029 = .ok (.aload_n 1, 1) := by decide +kernel
theorem dL_law_1030 : decode cL_law 1030 = .ok (.invokevirtual 130, 3) := by decide +kernel
theorem dL_law_1033 : decode cL_law 1033 = .ok (.aload_n 2, 1) := by decide +kernel
theorem dL_law_1034 : decode cL_law 1034 = .ok (.invokevirtual 133, 3) := by decide +kernel
theorem dL_law_1037 : decode cL_law 1037 = .ok (.if_icmp .eq 359, 3) := by decide +kernel
theorem dL_law_1040 : decode cL_law 1040 = .ok (.iconst 0, 1) := by decide +kernel
theorem dL_law_1041 : decode cL_law 1041 = .ok (.ireturn, 1) := by decide +kernel
theorem dL_law_1042 : decode cL_law 1042 = .ok (.aload_n 1, 1) := by decide +kernel
theorem dL_law_1043 : decode cL_law 1043 = .ok (.aload_n 3, 1) := by decide +kernel
theorem dL_law_1044 : decode cL_law 1044 = .ok (.invokestatic 134, 3) := by decide +kernel
theorem dL_law_1047 : decode cL_law 1047 = .ok (.istore 5, 2) := by decide +kernel
theorem dL_law_1049 : decode cL_law 1049 = .ok (.aload_n 2, 1) := by decide +kernel
theorem dL_law_1050 : decode cL_law 1050 = .ok (.invokevirtual 136, 3) := by decide +kernel
theorem dL_law_1053 : decode cL_law 1053 = .ok (.istore 6, 2) := by decide +kernel
theorem dL_law_1055 : decode cL_law 1055 = .ok (.aload_n 2, 1) := by decide +kernel
theorem dL_law_1056 : decode cL_law 1056 = .ok (.invokevirtual 85, 3) := by decide +kernel
theorem dL_law_1059 : decode cL_law 1059 = .ok (.iload 5, 2) := by decide +kernel
theorem dL_law_1061 : decode cL_law 1061 = .ok (.if_icmp .eq 5, 3) := by decide +kernel
theorem dL_law_1064 : decode cL_law 1064 = .ok (.iconst 0, 1) := by decide +kernel
theorem dL_law_1065 : decode cL_law 1065 = .ok (.ireturn, 1) := by decide +kernel
theorem dL_law_1066 : decode cL_law 1066 = .ok (.iload 5, 2) := by decide +kernel
theorem dL_law_1068 : decode cL_law 1068 = .ok (.ifCond .ne 15, 3) := by decide +kernel
theorem dL_law_1071 : decode cL_law 1071 = .ok (.aload_n 3, 1) := by decide +kernel
theorem dL_law_1072 : decode cL_law 1072 = .ok (.iconst 0, 1) := by decide +kernel
theorem dL_law_1073 : decode cL_law 1073 = .ok (.laload, 1) := by decide +kernel
theorem dL_law_1074 : decode cL_law 1074 = .ok (.iload 6, 2) := by decide +kernel
theorem dL_law_1076 : decode cL_law 1076 = .ok (.i2l, 1) := by decide +kernel
theorem dL_law_1077 : decode cL_law 1077 = .ok (.lcmp, 1) := by decide +kernel
theorem dL_law_1078 : decode cL_law 1078 = .ok (.ifCond .eq 5, 3) := by decide +kernel
theorem dL_law_1081 : decode cL_law 1081 = .ok (.iconst 0, 1) := by decide +kernel
theorem dL_law_1082 : decode cL_law 1082 = .ok (.ireturn, 1) := by decide +kernel
theorem dL_law_1083 : decode cL_law 1083 = .ok (.goto 313, 3) := by decide +kernel
theorem dL_law_1086 : decode cL_law 1086 = .ok (.aload_n 1, 1) := by decide +kernel
theorem dL_law_1087 : decode cL_law 1087 = .ok (.aload_n 0, 1) := by decide +kernel
theorem dL_law_1088 : decode cL_law 1088 = .ok (.iload 4, 2) := by decide +kernel
theorem dL_law_1090 : decode cL_law 1090 = .ok (.iconst 1, 1) := by decide +kernel
theorem dL_law_1091 : decode cL_law 1091 = .ok (.iadd, 1) := by decide +kernel
theorem dL_law_1092 : decode cL_law 1092 = .ok (.iaload, 1) := by decide +kernel
theorem dL_law_1093 : decode cL_law 1093 = .ok (.aload_n 0, 1) := by decide +kernel
theorem dL_law_1094 : decode cL_law 1094 = .ok (.iload 4, 2) := by decide +kernel
theorem dL_law_1096 : decode cL_law 1096 = .ok (.iconst 2, 1) := by decide +kernel
theorem dL_law_1097 : decode cL_law 1097 = .ok (.iadd, 1) := by decide +kernel
theorem dL_law_1098 : decode cL_law 1098 = .ok (.iaload, 1) := by decide +kernel
theorem dL_law_1099 : decode cL_law 1099 = .ok (.aload_n 3, 1) := by decide +kernel
theorem dL_law_1100 : decode cL_law 1100 = .ok (.invokestatic 137, 3) := by decide +kernel
theorem dL_law_1103 : decode cL_law 1103 = .ok (.istore 5, 2) := by decide +kernel
theorem dL_law_1105 : decode cL_law 1105 = .ok (.aload_n 2, 1) := by decide +kernel
theorem dL_law_1106 : decode cL_law 1106 = .ok (.aload_n 0, 1) := by decide +kernel
theorem dL_law_1107 : decode cL_law 1107 = .ok (.iload 4, 2) := by decide +kernel
theorem dL_law_1109 : decode cL_law 1109 = .ok (.iconst 1, 1) := by decide +kernel
theorem dL_law_1110 : decode cL_law 1110 = .ok (.iadd, 1) := by decide +kernel
theorem dL_law_1111 : decode cL_law 1111 = .ok (.iaload, 1) := by decide +kernel
theorem dL_law_1112 : decode cL_law 1112 = .ok (.aload_n 0, 1) := by decide +kernel
theorem dL_law_1113 : decode cL_law 1113 = .ok (.iload 4, 2) := by decide +kernel
theorem dL_law_1115 : decode cL_law 1115 = .ok (.iconst 2, 1) := by decide +kernel
theorem dL_law_1116 : decode cL_law 1116 = .ok (.iadd, 1) := by decide +kernel
theorem dL_law_1117 : decode cL_law 1117 = .ok (.iaload, 1) := by decide +kernel
theorem dL_law_1118 : decode cL_law 1118 = .ok (.invokevirtual 139, 3) := by decide +kernel
theorem dL_law_1121 : decode cL_law 1121 = .ok (.istore 6, 2) := by decide +kernel
theorem dL_law_1123 : decode cL_law 1123 = .ok (.aload_n 2, 1) := by decide +kernel
theorem dL_law_1124 : decode cL_law 1124 = .ok (.invokevirtual 85, 3) := by decide +kernel
theorem dL_law_1127 : decode cL_law 1127 = .ok (.iload 5, 2) := by decide +kernel
theorem dL_law_1129 : decode cL_law 1129 = .ok (.if_icmp .eq 5, 3) := by decide +kernel
theorem dL_law_1132 : decode cL_law 1132 = .ok (.iconst 0, 1) := by decide +kernel
theorem dL_law_1133 : decode cL_law 1133 = .ok (.ireturn, 1) := by decide +kernel
theorem dL_law_1134 : decode cL_law 1134 = .ok (.iload 5, 2) := by decide +kernel
theorem dL_law_1136 : decode cL_law 1136 = .ok (.ifCond .ne 15, 3) := by decide +kernel
theorem dL_law_1139 : decode cL_law 1139 = .ok (.aload_n 3, 1) := by decide +kernel
theorem dL_law_1140 : decode cL_law 1140 = .ok (.iconst 0, 1) := by decide +kernel
theorem dL_law_1141 : decode cL_law 1141 = .ok (.laload, 1) := by decide +kernel
theorem dL_law_1142 : decode cL_law 1142 = .ok (.iload 6, 2) := by decide +kernel
theorem dL_law_1144 : decode cL_law 1144 = .ok (.i2l, 1) := by decide +kernel
theorem dL_law_1145 : decode cL_law 1145 = .ok (.lcmp, 1) := by decide +kernel
theorem dL_law_1146 : decode cL_law 1146 = .ok (.ifCond .eq 5, 3) := by decide +kernel
theorem dL_law_1149 : decode cL_law 1149 = .ok (.iconst 0, 1) := by decide +kernel
theorem dL_law_1150 : decode cL_law 1150 = .ok (.ireturn, 1) := by decide +kernel
theorem dL_law_1151 : decode cL_law 1151 = .ok (.goto 245, 3) := by decide +kernel
theorem dL_law_1154 : decode cL_law 1154 = .ok (.aload_n 1, 1) := by decide +kernel
theorem dL_law_1155 : decode cL_law 1155 = .ok (.aload_n 0, 1) := by decide +kernel
theorem dL_law_1156 : decode cL_law 1156 = .ok (.iload 4, 2) := by decide +kernel
theorem dL_law_1158 : decode cL_law 1158 = .ok (.iconst 1, 1) := by decide +kernel
theorem dL_law_1159 : decode cL_law 1159 = .ok (.iadd, 1) := by decide +kernel
theorem dL_law_1160 : decode cL_law 1160 = .ok (.iaload, 1) := by decide +kernel
theorem dL_law_1161 : decode cL_law 1161 = .ok (.aload_n 3, 1) := by decide +kernel
theorem dL_law_1162 : decode cL_law 1162 = .ok (.invokestatic 140, 3) := by decide +kernel
theorem dL_law_1165 : decode cL_law 1165 = .ok (.istore 5, 2) := by decide +kernel
theorem dL_law_1167 : decode cL_law 1167 = .ok (.aload_n 2, 1) := by decide +kernel
theorem dL_law_1168 : decode cL_law 1168 = .ok (.aload_n 0, 1) := by decide +kernel
theorem dL_law_1169 : decode cL_law 1169 = .ok (.iload 4, 2) := by decide +kernel
theorem dL_law_1171 : decode cL_law 1171 = .ok (.iconst 1, 1) := by decide +kernel
theorem dL_law_1172 : decode cL_law 1172 = .ok (.iadd, 1) := by decide +kernel
theorem dL_law_1173 : decode cL_law 1173 = .ok (.iaload, 1) := by decide +kernel
theorem dL_law_1174 : decode cL_law 1174 = .ok (.invokevirtual 142, 3) := by decide +kernel
theorem dL_law_1177 : decode cL_law 1177 = .ok (.istore 6, 2) := by decide +kernel
theorem dL_law_1179 : decode cL_law 1179 = .ok (.aload_n 2, 1) := by decide +kernel
theorem dL_law_1180 : decode cL_law 1180 = .ok (.invokevirtual 85, 3) := by decide +kernel
theorem dL_law_1183 : decode cL_law 1183 = .ok (.iload 5, 2) := by decide +kernel
theorem dL_law_1185 : decode cL_law 1185 = .ok (.if_icmp .eq 5, 3) := by decide +kernel
theorem dL_law_1188 : decode cL_law 1188 = .ok (.iconst 0, 1) := by decide +kernel
theorem dL_law_1189 : decode cL_law 1189 = .ok (.ireturn, 1) := by decide +kernel
theorem dL_law_1190 : decode cL_law 1190 = .ok (.iload 5, 2) := by decide +kernel
theorem dL_law_1192 : decode cL_law 1192 = .ok (.ifCond .ne 15, 3) := by decide +kernel
theorem dL_law_1195 : decode cL_law 1195 = .ok (.aload_n 3, 1) := by decide +kernel
theorem dL_law_1196 : decode cL_law 1196 = .ok (.iconst 0, 1) := by decide +kernel
theorem dL_law_1197 : decode cL_law 1197 = .ok (.laload, 1) := by decide +kernel
theorem dL_law_1198 : decode cL_law 1198 = .ok (.iload 6, 2) := by decide +kernel
theorem dL_law_1200 : decode cL_law 1200 = .ok (.i2l, 1) := by decide +kernel
theorem dL_law_1201 : decode cL_law 1201 = .ok (.lcmp, 1) := by decide +kernel
theorem dL_law_1202 : decode cL_law 1202 = .ok (.ifCond .eq 5, 3) := by decide +kernel
theorem dL_law_1205 : decode cL_law 1205 = .ok (.iconst 0, 1) := by decide +kernel
theorem dL_law_1206 : decode cL_law 1206 = .ok (.ireturn, 1) := by decide +kernel
theorem dL_law_1207 : decode cL_law 1207 = .ok (.goto 189, 3) := by decide +kernel
theorem dL_law_1210 : decode cL_law 1210 = .ok (.aload_n 1, 1) := by decide +kernel
theorem dL_law_1211 : decode cL_law 1211 = .ok (.aload_n 0, 1) := by decide +kernel
theorem dL_law_1212 : decode cL_law 1212 = .ok (.iload 4, 2) := by decide +kernel
theorem dL_law_1214 : decode cL_law 1214 = .ok (.iconst 1, 1) := by decide +kernel
theorem dL_law_1215 : decode cL_law 1215 = .ok (.iadd, 1) := by decide +kernel
theorem dL_law_1216 : decode cL_law 1216 = .ok (.iaload, 1) := by decide +kernel
theorem dL_law_1217 : decode cL_law 1217 = .ok (.aload_n 0, 1) := by decide +kernel
theorem dL_law_1218 : decode cL_law 1218 = .ok (.iload 4, 2) := by decide +kernel
theorem dL_law_1220 : decode cL_law 1220 = .ok (.iconst 2, 1) := by decide +kernel
theorem dL_law_1221 : decode cL_law 1221 = .ok (.iadd, 1) := by decide +kernel
theorem dL_law_1222 : decode cL_law 1222 = .ok (.iaload, 1) := by decide +kernel
theorem dL_law_1223 : decode cL_law 1223 = .ok (.aload_n 3, 1) := by decide +kernel
theorem dL_law_1224 : decode cL_law 1224 = .ok (.invokestatic 143, 3) := by decide +kernel
theorem dL_law_1227 : decode cL_law 1227 = .ok (.istore 5, 2) := by decide +kernel
theorem dL_law_1229 : decode cL_law 1229 = .ok (.aload_n 2, 1) := by decide +kernel
theorem dL_law_1230 : decode cL_law 1230 = .ok (.aload_n 0, 1) := by decide +kernel
theorem dL_law_1231 : decode cL_law 1231 = .ok (.iload 4, 2) := by decide +kernel
theorem dL_law_1233 : decode cL_law 1233 = .ok (.iconst 1, 1) := by decide +kernel
theorem dL_law_1234 : decode cL_law 1234 = .ok (.iadd, 1) := by decide +kernel
theorem dL_law_1235 : decode cL_law 1235 = .ok (.iaload, 1) := by decide +kernel
theorem dL_law_1236 : decode cL_law 1236 = .ok (.aload_n 0, 1) := by decide +kernel
theorem dL_law_1237 : decode cL_law 1237 = .ok (.iload 4, 2) := by decide +kernel
theorem dL_law_1239 : decode cL_law 1239 = .ok (.iconst 2, 1) := by decide +kernel
theorem dL_law_1240 : decode cL_law 1240 = .ok (.iadd, 1) := by decide +kernel
theorem dL_law_1241 : decode cL_law 1241 = .ok (.iaload, 1) := by decide +kernel
theorem dL_law_1242 : decode cL_law 1242 = .ok (.invokevirtual 145, 3) := by decide +kernel
theorem dL_law_1245 : decode cL_law 1245 = .ok (.istore 6, 2) := by decide +kernel
theorem dL_law_1247 : decode cL_law 1247 = .ok (.aload_n 2, 1) := by decide +kernel
theorem dL_law_1248 : decode cL_law 1248 = .ok (.invokevirtual 85, 3) := by decide +kernel
theorem dL_law_1251 : decode cL_law 1251 = .ok (.iload 5, 2) := by decide +kernel
theorem dL_law_1253 : decode cL_law 1253 = .ok (.if_icmp .eq 5, 3) := by decide +kernel
theorem dL_law_1256 : decode cL_law 1256 = .ok (.iconst 0, 1) := by decide +kernel
theorem dL_law_1257 : decode cL_law 1257 = .ok (.ireturn, 1) := by decide +kernel
theorem dL_law_1258 : decode cL_law 1258 = .ok (.iload 5, 2) := by decide +kernel
theorem dL_law_1260 : decode cL_law 1260 = .ok (.ifCond .ne 15, 3) := by decide +kernel
theorem dL_law_1263 : decode cL_law 1263 = .ok (.aload_n 3, 1) := by decide +kernel
theorem dL_law_1264 : decode cL_law 1264 = .ok (.iconst 0, 1) := by decide +kernel
theorem dL_law_1265 : decode cL_law 1265 = .ok (.laload, 1) := by decide +kernel
theorem dL_law_1266 : decode cL_law 1266 = .ok (.iload 6, 2) := by decide +kernel
theorem dL_law_1268 : decode cL_law 1268 = .ok (.i2l, 1) := by decide +kernel
theorem dL_law_1269 : decode cL_law 1269 = .ok (.lcmp, 1) := by decide +kernel
theorem dL_law_1270 : decode cL_law 1270 = .ok (.ifCond .eq 5, 3) := by decide +kernel
theorem dL_law_1273 : decode cL_law 1273 = .ok (.iconst 0, 1) := by decide +kernel
theorem dL_law_1274 : decode cL_law 1274 = .ok (.ireturn, 1) := by decide +kernel
theorem dL_law_1275 : decode cL_law 1275 = .ok (.goto 121, 3) := by decide +kernel
theorem dL_law_1278 : decode cL_law 1278 = .ok (.aload_n 1, 1) := by decide +kernel
theorem dL_law_1279 : decode cL_law 1279 = .ok (.aload_n 0, 1) := by decide +kernel
theorem dL_law_1280 : decode cL_law 1280 = .ok (.iload 4, 2) := by decide +kernel
theorem dL_law_1282 : decode cL_law 1282 = .ok (.iconst 1, 1) := by decide +kernel
theorem dL_law_1283 : decode cL_law 1283 = .ok (.iadd, 1) := by decide +kernel
theorem dL_law_1284 : decode cL_law 1284 = .ok (.iaload, 1) := by decide +kernel
theorem dL_law_1285 : decode cL_law 1285 = .ok (.aload_n 0, 1) := by decide +kernel
theorem dL_law_1286 : decode cL_law 1286 = .ok (.iload 4, 2) := by decide +kernel
theorem dL_law_1288 : decode cL_law 1288 = .ok (.iconst 2, 1) := by decide +kernel
theorem dL_law_1289 : decode cL_law 1289 = .ok (.iadd, 1) := by decide +kernel
theorem dL_law_1290 : decode cL_law 1290 = .ok (.iaload, 1) := by decide +kernel
theorem dL_law_1291 : decode cL_law 1291 = .ok (.aload_n 0, 1) := by decide +kernel
theorem dL_law_1292 : decode cL_law 1292 = .ok (.iload 4, 2) := by decide +kernel
theorem dL_law_1294 : decode cL_law 1294 = .ok (.iconst 3, 1) := by decide +kernel
theorem dL_law_1295 : decode cL_law 1295 = .ok (.iadd, 1) := by decide +kernel
theorem dL_law_1296 : decode cL_law 1296 = .ok (.iaload, 1) := by decide +kernel
theorem dL_law_1297 : decode cL_law 1297 = .ok (.aload_n 0, 1) := by decide +kernel
theorem dL_law_1298 : decode cL_law 1298 = .ok (.iload 4, 2) := by decide +kernel
theorem dL_law_1300 : decode cL_law 1300 = .ok (.iconst 4, 1) := by decide +kernel
theorem dL_law_1301 : decode cL_law 1301 = .ok (.iadd, 1) := by decide +kernel
theorem dL_law_1302 : decode cL_law 1302 = .ok (.iaload, 1) := by decide +kernel
theorem dL_law_1303 : decode cL_law 1303 = .ok (.aload_n 0, 1) := by decide +kernel
theorem dL_law_1304 : decode cL_law 1304 = .ok (.iload 4, 2) := by decide +kernel
theorem dL_law_1306 : decode cL_law 1306 = .ok (.iconst 5, 1) := by decide +kernel
theorem dL_law_1307 : decode cL_law 1307 = .ok (.iadd, 1) := by decide +kernel
theorem dL_law_1308 : decode cL_law 1308 = .ok (.iaload, 1) := by decide +kernel
theorem dL_law_1309 : decode cL_law 1309 = .ok (.aload_n 0, 1) := by decide +kernel
theorem dL_law_1310 : decode cL_law 1310 = .ok (.iload 4, 2) := by decide +kernel
theorem dL_law_1312 : decode cL_law 1312 = .ok (.bipush 6, 2) := by decide +kernel
theorem dL_law_1314 : decode cL_law 1314 = .ok (.iadd, 1) := by decide +kernel
theorem dL_law_1315 : decode cL_law 1315 = .ok (.iaload, 1) := by decide +kernel
theorem dL_law_1316 : decode cL_law 1316 = .ok (.aload_n 3, 1) := by decide +kernel
theorem dL_law_1317 : decode cL_law 1317 = .ok (.invokestatic 146, 3) := by decide +kernel
theorem dL_law_1320 : decode cL_law 1320 = .ok (.istore 5, 2) := by decide +kernel
theorem dL_law_1322 : decode cL_law 1322 = .ok (.aload_n 2, 1) := by decide +kernel
theorem dL_law_1323 : decode cL_law 1323 = .ok (.aload_n 0, 1) := by decide +kernel
theorem dL_law_1324 : decode cL_law 1324 = .ok (.iload 4, 2) := by decide +kernel
theorem dL_law_1326 : decode cL_law 1326 = .ok (.iconst 1, 1) := by decide +kernel
theorem dL_law_1327 : decode cL_law 1327 = .ok (.iadd, 1) := by decide +kernel
theorem dL_law_1328 : decode cL_law 1328 = .ok (.iaload, 1) := by decide +kernel
theorem dL_law_1329 : decode cL_law 1329 = .ok (.aload_n 0, 1) := by decide +kernel
theorem dL_law_1330 : decode cL_law 1330 = .ok (.iload 4, 2) := by decide +kernel
theorem dL_law_1332 : decode cL_law 1332 = .ok (.iconst 2, 1) := by decide +kernel
theorem dL_law_1333 : decode cL_law 1333 = .ok (.iadd, 1) := by decide +kernel
theorem dL_law_1334 : decode cL_law 1334 = .ok (.iaload, 1) := by decide +kernel
theorem dL_law_1335 : decode cL_law 1335 = .ok (.aload_n 0, 1) := by decide +kernel
theorem dL_law_1336 : decode cL_law 1336 = .ok (.iload 4, 2) := by decide +kernel
theorem dL_law_1338 : decode cL_law 1338 = .ok (.iconst 3, 1) := by decide +kernel
theorem dL_law_1339 : decode cL_law 1339 = .ok (.iadd, 1) := by decide +kernel
theorem dL_law_1340 : decode cL_law 1340 = .ok (.iaload, 1) := by decide +kernel
theorem dL_law_1341 : decode cL_law 1341 = .ok (.aload_n 0, 1) := by decide +kernel
theorem dL_law_1342 : decode cL_law 1342 = .ok (.iload 4, 2) := by decide +kernel
theorem dL_law_1344 : decode cL_law 1344 = .ok (.iconst 4, 1) := by decide +kernel
theorem dL_law_1345 : decode cL_law 1345 = .ok (.iadd, 1) := by decide +kernel
theorem dL_law_1346 : decode cL_law 1346 = .ok (.iaload, 1) := by decide +kernel
theorem dL_law_1347 : decode cL_law 1347 = .ok (.aload_n 0, 1) := by decide +kernel
theorem dL_law_1348 : decode cL_law 1348 = .ok (.iload 4, 2) := by decide +kernel
theorem dL_law_1350 : decode cL_law 1350 = .ok (.iconst 5, 1) := by decide +kernel
theorem dL_law_1351 : decode cL_law 1351 = .ok (.iadd, 1) := by decide +kernel
theorem dL_law_1352 : decode cL_law 1352 = .ok (.iaload, 1) := by decide +kernel
theorem dL_law_1353 : decode cL_law 1353 = .ok (.aload_n 0, 1) := by decide +kernel
theorem dL_law_1354 : decode cL_law 1354 = .ok (.iload 4, 2) := by decide +kernel
theorem dL_law_1356 : decode cL_law 1356 = .ok (.bipush 6, 2) := by decide +kernel
theorem dL_law_1358 : decode cL_law 1358 = .ok (.iadd, 1) := by decide +kernel
theorem dL_law_1359 : decode cL_law 1359 = .ok (.iaload, 1) := by decide +kernel
theorem dL_law_1360 : decode cL_law 1360 = .ok (.invokevirtual 149, 3) := by decide +kernel
theorem dL_law_1363 : decode cL_law 1363 = .ok (.istore 6, 2) := by decide +kernel
theorem dL_law_1365 : decode cL_law 1365 = .ok (.aload_n 2, 1) := by decide +kernel
theorem dL_law_1366 : decode cL_law 1366 = .ok (.invokevirtual 85, 3) := by decide +kernel
theorem dL_law_1369 : decode cL_law 1369 = .ok (.iload 5, 2) := by decide +kernel
theorem dL_law_1371 : decode cL_law 1371 = .ok (.if_icmp .eq 5, 3) := by decide +kernel
theorem dL_law_1374 : decode cL_law 1374 = .ok (.iconst 0, 1) := by decide +kernel
theorem dL_law_1375 : decode cL_law 1375 = .ok (.ireturn, 1) := by decide +kernel
theorem dL_law_1376 : decode cL_law 1376 = .ok (.iload 5, 2) := by decide +kernel
theorem dL_law_1378 : decode cL_law 1378 = .ok (.ifCond .ne 15, 3) := by decide +kernel
theorem dL_law_1381 : decode cL_law 1381 = .ok (.aload_n 3, 1) := by decide +kernel
theorem dL_law_1382 : decode cL_law 1382 = .ok (.iconst 0, 1) := by decide +kernel
theorem dL_law_1383 : decode cL_law 1383 = .ok (.laload, 1) := by decide +kernel
theorem dL_law_1384 : decode cL_law 1384 = .ok (.iload 6, 2) := by decide +kernel
theorem dL_law_1386 : decode cL_law 1386 = .ok (.i2l, 1) := by decide +kernel
theorem dL_law_1387 : decode cL_law 1387 = .ok (.lcmp, 1) := by decide +kernel
theorem dL_law_1388 : decode cL_law 1388 = .ok (.ifCond .eq 5, 3) := by decide +kernel
theorem dL_law_1391 : decode cL_law 1391 = .ok (.iconst 0, 1) := by decide +kernel
theorem dL_law_1392 : decode cL_law 1392 = .ok (.ireturn, 1) := by decide +kernel
theorem dL_law_1393 : decode cL_law 1393 = .ok (.goto 3, 3) := by decide +kernel
theorem dL_law_1396 : decode cL_law 1396 = .ok (.iinc 4 7, 3) := by decide +kernel
theorem dL_law_1399 : decode cL_law 1399 = .ok (.goto (-1376), 3) := by decide +kernel
theorem dL_law_1402 : decode cL_law 1402 = .ok (.iconst 1, 1) := by decide +kernel
theorem dL_law_1403 : decode cL_law 1403 = .ok (.ireturn, 1) := by decide +kernel
