theorem dX0_init_0 : decode cX0_init 0 = .ok (.aload_n 0, 1) := by decide +kernel
theorem dX0_init_1 : decode cX0_init 1 = .ok (.invokespecial 3, 3) := by decide +kernel
theorem dX0_init_4 : decode cX0_init 4 = .ok (.aload_n 0, 1) := by decide +kernel
theorem dX0_init_5 : decode cX0_init 5 = .ok (.bipush 12, 2) := by decide +kernel
theorem dX0_init_7 : decode cX0_init 7 = .ok (.newarray .int, 2) := by decide +kernel
theorem dX0_init_9 : decode cX0_init 9 = .ok (.putfield 9, 3) := by decide +kernel
theorem dX0_init_12 : decode cX0_init 12 = .ok (.aload_n 0, 1) := by decide +kernel
theorem dX0_init_13 : decode cX0_init 13 = .ok (.iconst 0, 1) := by decide +kernel
theorem dX0_init_14 : decode cX0_init 14 = .ok (.putfield 15, 3) := by decide +kernel
theorem dX0_init_17 : decode cX0_init 17 = .ok (.aload_n 0, 1) := by decide +kernel
theorem dX0_init_18 : decode cX0_init 18 = .ok (.getfield 9, 3) := by decide +kernel
theorem dX0_init_21 : decode cX0_init 21 = .ok (.iconst (-1), 1) := by decide +kernel
theorem dX0_init_22 : decode cX0_init 22 = .ok (.invokestatic 19, 3) := by decide +kernel
theorem dX0_init_25 : decode cX0_init 25 = .ok (.return_, 1) := by decide +kernel
theorem dX0_putIn_0 : decode cX0_putIn 0 = .ok (.aload_n 1, 1) := by decide +kernel
theorem dX0_putIn_1 : decode cX0_putIn 1 = .ok (.getfield 25, 3) := by decide +kernel
theorem dX0_putIn_4 : decode cX0_putIn 4 = .ok (.ifCond .lt 28, 3) := by decide +kernel
theorem dX0_putIn_7 : decode cX0_putIn 7 = .ok (.aload_n 1, 1) := by decide +kernel
theorem dX0_putIn_8 : decode cX0_putIn 8 = .ok (.getfield 25, 3) := by decide +kernel
theorem dX0_putIn_11 : decode cX0_putIn 11 = .ok (.aload_n 0, 1) := by decide +kernel
theorem dX0_putIn_12 : decode cX0_putIn 12 = .ok (.getfield 9, 3) := by decide +kernel
theorem dX0_putIn_15 : decode cX0_putIn 15 = .ok (.arraylength, 1) := by decide +kernel
theorem dX0_putIn_16 : decode cX0_putIn 16 = .ok (.if_icmp .ge 16, 3) := by decide +kernel
theorem dX0_putIn_19 : decode cX0_putIn 19 = .ok (.aload_n 0, 1) := by decide +kernel
theorem dX0_putIn_20 : decode cX0_putIn 20 = .ok (.getfield 9, 3) := by decide +kernel
theorem dX0_putIn_23 : decode cX0_putIn 23 = .ok (.aload_n 1, 1) := by decide +kernel
theorem dX0_putIn_24 : decode cX0_putIn 24 = .ok (.getfield 25, 3) := by decide +kernel
theorem dX0_putIn_27 : decode cX0_putIn 27 = .ok (.aload_n 1, 1) := by decide +kernel
theorem dX0_putIn_28 : decode cX0_putIn 28 = .ok (.getfield 30, 3) := by decide +kernel
theorem dX0_putIn_31 : decode cX0_putIn 31 = .ok (.iastore, 1) := by decide +kernel
theorem dX0_putIn_32 : decode cX0_putIn 32 = .ok (.aload_n 0, 1) := by decide +kernel
theorem dX0_putIn_33 : decode cX0_putIn 33 = .ok (.dup, 1) := by decide +kernel
theorem dX0_putIn_34 : decode cX0_putIn 34 = .ok (.getfield 15, 3) := by decide +kernel
theorem dX0_putIn_37 : decode cX0_putIn 37 = .ok (.iconst 1, 1) := by decide +kernel
theorem dX0_putIn_38 : decode cX0_putIn 38 = .ok (.iadd, 1) := by decide +kernel
theorem dX0_putIn_39 : decode cX0_putIn 39 = .ok (.putfield 15, 3) := by decide +kernel
theorem dX0_putIn_42 : decode cX0_putIn 42 = .ok (.return_, 1) := by decide +kernel
theorem dX0_patternOf_0 : decode cX0_patternOf 0 = .ok (.iload_n 1, 1) := by decide +kernel
theorem dX0_patternOf_1 : decode cX0_patternOf 1 = .ok (.ifCond .lt 21, 3) := by decide +kernel
theorem dX0_patternOf_4 : decode cX0_patternOf 4 = .ok (.iload_n 1, 1) := by decide +kernel
theorem dX0_patternOf_5 : decode cX0_patternOf 5 = .ok (.aload_n 0, 1) := by decide +kernel
theorem dX0_patternOf_6 : decode cX0_patternOf 6 = .ok (.getfield 9, 3) := by decide +kernel
theorem dX0_patternOf_9 : decode cX0_patternOf 9 = .ok (.arraylength, 1) := by decide +kernel
theorem dX0_patternOf_10 : decode cX0_patternOf 10 = .ok (.if_icmp .ge 12, 3) := by decide +kernel
theorem dX0_patternOf_13 : decode cX0_patternOf 13 = .ok (.aload_n 0, 1) := by decide +kernel
theorem dX0_patternOf_14 : decode cX0_patternOf 14 = .ok (.getfield 9, 3) := by decide +kernel
theorem dX0_patternOf_17 : decode cX0_patternOf 17 = .ok (.iload_n 1, 1) := by decide +kernel
theorem dX0_patternOf_18 : decode cX0_patternOf 18 = .ok (.iaload, 1) := by decide +kernel
theorem dX0_patternOf_19 : decode cX0_patternOf 19 = .ok (.goto 4, 3) := by decide +kernel
theorem dX0_patternOf_22 : decode cX0_patternOf 22 = .ok (.iconst (-1), 1) := by decide +kernel
theorem dX0_patternOf_23 : decode cX0_patternOf 23 = .ok (.ireturn, 1) := by decide +kernel
theorem dX1_init_0 : decode cX1_init 0 = .ok (.aload_n 0, 1) := by decide +kernel
theorem dX1_init_1 : decode cX1_init 1 = .ok (.invokespecial 3, 3) := by decide +kernel
theorem dX1_init_4 : decode cX1_init 4 = .ok (.aload_n 0, 1) := by decide +kernel
theorem dX1_init_5 : decode cX1_init 5 = .ok (.iconst 0, 1) := by decide +kernel
theorem dX1_init_6 : decode cX1_init 6 = .ok (.putfield 9, 3) := by decide +kernel
theorem dX1_init_9 : decode cX1_init 9 = .ok (.aload_n 0, 1) := by decide +kernel
theorem dX1_init_10 : decode cX1_init 10 = .ok (.iconst 0, 1) := by decide +kernel
theorem dX1_init_11 : decode cX1_init 11 = .ok (.putfield 15, 3) := by decide +kernel
theorem dX1_init_14 : decode cX1_init 14 = .ok (.bipush 32, 2) := by decide +kernel
theorem dX1_init_16 : decode cX1_init 16 = .ok (.newarray .int, 2) := by decide +kernel
theorem dX1_init_18 : decode cX1_init 18 = .ok (.astore 6, 2) := by decide +kernel
theorem dX1_init_20 : decode cX1_init 20 = .ok (.iconst 0, 1) := by decide +kernel
theorem dX1_init_21 : decode cX1_init 21 = .ok (.istore 7, 2) := by decide +kernel
theorem dX1_init_23 : decode cX1_init 23 = .ok (.iload 7, 2) := by decide +kernel
theorem dX1_init_25 : decode cX1_init 25 = .ok (.aload 6, 2) := by decide +kernel
theorem dX1_init_27 : decode cX1_init 27 = .ok (.arraylength, 1) := by decide +kernel
theorem dX1_init_28 : decode cX1_init 28 = .ok (.if_icmp .ge 55, 3) := by decide +kernel
theorem dX1_init_31 : decode cX1_init 31 = .ok (.iconst 0, 1) := by decide +kernel
theorem dX1_init_32 : decode cX1_init 32 = .ok (.istore 8, 2) := by decide +kernel
theorem dX1_init_34 : decode cX1_init 34 = .ok (.iload 8, 2) := by decide +kernel
theorem dX1_init_36 : decode cX1_init 36 = .ok (.bipush 32, 2) := by decide +kernel
theorem dX1_init_38 : decode cX1_init 38 = .ok (.if_icmp .ge 39, 3) := by decide +kernel
theorem dX1_init_41 : decode cX1_init 41 = .ok (.iload 8, 2) := by decide +kernel
theorem dX1_init_43 : decode cX1_init 43 = .ok (.iload_n 1, 1) := by decide +kernel
theorem dX1_init_44 : decode cX1_init 44 = .ok (.isub, 1) := by decide +kernel
theorem dX1_init_45 : decode cX1_init 45 = .ok (.iload 7, 2) := by decide +kernel
theorem dX1_init_47 : decode cX1_init 47 = .ok (.iload_n 2, 1) := by decide +kernel
theorem dX1_init_48 : decode cX1_init 48 = .ok (.isub, 1) := by decide +kernel
theorem dX1_init_49 : decode cX1_init 49 = .ok (.iload 4, 2) := by decide +kernel
theorem dX1_init_51 : decode cX1_init 51 = .ok (.iload 5, 2) := by decide +kernel
theorem dX1_init_53 : decode cX1_init 53 = .ok (.invokestatic 19, 3) := by decide +kernel
theorem dX1_init_56 : decode cX1_init 56 = .ok (.ifCond .eq 15, 3) := by decide +kernel
theorem dX1_init_59 : decode cX1_init 59 = .ok (.aload 6, 2) := by decide +kernel
theorem dX1_init_61 : decode cX1_init 61 = .ok (.iload 7, 2) := by decide +kernel
theorem dX1_init_63 : decode cX1_init 63 = .ok (.dup2, 1) := by decide +kernel
theorem dX1_init_64 : decode cX1_init 64 = .ok (.iaload, 1) := by decide +kernel
theorem dX1_init_65 : decode cX1_init 65 = .ok (.iconst 1, 1) := by decide +kernel
theorem dX1_init_66 : decode cX1_init 66 = .ok (.iload 8, 2) := by decide +kernel
theorem dX1_init_68 : decode cX1_init 68 = .ok (.ishl, 1) := by decide +kernel
theorem dX1_init_69 : decode cX1_init 69 = .ok (.ior, 1) := by decide +kernel
theorem dX1_init_70 : decode cX1_init 70 = .ok (.iastore, 1) := by decide +kernel
theorem dX1_init_71 : decode cX1_init 71 = .ok (.iinc 8 1, 3) := by decide +kernel
theorem dX1_init_74 : decode cX1_init 74 = .ok (.goto (-40), 3) := by decide +kernel
theorem dX1_init_77 : decode cX1_init 77 = .ok (.iinc 7 1, 3) := by decide +kernel
theorem dX1_init_80 : decode cX1_init 80 = .ok (.goto (-57), 3) := by decide +kernel
theorem dX1_init_83 : decode cX1_init 83 = .ok (.aload_n 0, 1) := by decide +kernel
theorem dX1_init_84 : decode cX1_init 84 = .ok (.iload_n 1, 1) := by decide +kernel
theorem dX1_init_85 : decode cX1_init 85 = .ok (.putfield 23, 3) := by decide +kernel
theorem dX1_init_88 : decode cX1_init 88 = .ok (.aload_n 0, 1) := by decide +kernel
theorem dX1_init_89 : decode cX1_init 89 = .ok (.iload_n 2, 1) := by decide +kernel
theorem dX1_init_90 : decode cX1_init 90 = .ok (.putfield 26, 3) := by decide +kernel
theorem dX1_init_93 : decode cX1_init 93 = .ok (.aload_n 0, 1) := by decide +kernel
theorem dX1_init_94 : decode cX1_init 94 = .ok (.aload 6, 2) := by decide +kernel
theorem dX1_init_96 : decode cX1_init 96 = .ok (.putfield 29, 3) := by decide +kernel
theorem dX1_init_99 : decode cX1_init 99 = .ok (.aload_n 0, 1) := by decide +kernel
theorem dX1_init_100 : decode cX1_init 100 = .ok (.iload_n 3, 1) := by decide +kernel
theorem dX1_init_101 : decode cX1_init 101 = .ok (.putfield 33, 3) := by decide +kernel
theorem dX1_init_104 : decode cX1_init 104 = .ok (.return_, 1) := by decide +kernel
theorem dX1_isWithin_0 : decode cX1_isWithin 0 = .ok (.iload_n 0, 1) := by decide +kernel
theorem dX1_isWithin_1 : decode cX1_isWithin 1 = .ok (.invokestatic 36, 3) := by decide +kernel
theorem dX1_isWithin_4 : decode cX1_isWithin 4 = .ok (.iload_n 2, 1) := by decide +kernel
theorem dX1_isWithin_5 : decode cX1_isWithin 5 = .ok (.if_icmp .gt 11, 3) := by decide +kernel
theorem dX1_isWithin_8 : decode cX1_isWithin 8 = .ok (.iload_n 1, 1) := by decide +kernel
theorem dX1_isWithin_9 : decode cX1_isWithin 9 = .ok (.invokestatic 36, 3) := by decide +kernel
theorem dX1_isWithin_12 : decode cX1_isWithin 12 = .ok (.iload_n 2, 1) := by decide +kernel
theorem dX1_isWithin_13 : decode cX1_isWithin 13 = .ok (.if_icmp .le 5, 3) := by decide +kernel
theorem dX1_isWithin_16 : decode cX1_isWithin 16 = .ok (.iconst 0, 1) := by decide +kernel
theorem dX1_isWithin_17 : decode cX1_isWithin 17 = .ok (.ireturn, 1) := by decide +kernel
theorem dX1_isWithin_18 : decode cX1_isWithin 18 = .ok (.iload_n 0, 1) := by decide +kernel
theorem dX1_isWithin_19 : decode cX1_isWithin 19 = .ok (.iload_n 1, 1) := by decide +kernel
theorem dX1_isWithin_20 : decode cX1_isWithin 20 = .ok (.invokestatic 42, 3) := by decide +kernel
theorem dX1_isWithin_23 : decode cX1_isWithin 23 = .ok (.istore 4, 2) := by decide +kernel
theorem dX1_isWithin_25 : decode cX1_isWithin 25 = .ok (.iload 4, 2) := by decide +kernel
theorem dX1_isWithin_27 : decode cX1_isWithin 27 = .ok (.iconst (-1), 1) := by decide +kernel
theorem dX1_isWithin_28 : decode cX1_isWithin 28 = .ok (.if_icmp .eq 13, 3) := by decide +kernel
theorem dX1_isWithin_31 : decode cX1_isWithin 31 = .ok (.iload_n 3, 1) := by decide +kernel
theorem dX1_isWithin_32 : decode cX1_isWithin 32 = .ok (.iload 4, 2) := by decide +kernel
theorem dX1_isWithin_34 : decode cX1_isWithin 34 = .ok (.iushr, 1) := by decide +kernel
theorem dX1_isWithin_35 : decode cX1_isWithin 35 = .ok (.iconst 1, 1) := by decide +kernel
theorem dX1_isWithin_36 : decode cX1_isWithin 36 = .ok (.iand, 1) := by decide +kernel
theorem dX1_isWithin_37 : decode cX1_isWithin 37 = .ok (.iconst 1, 1) := by decide +kernel
theorem dX1_isWithin_38 : decode cX1_isWithin 38 = .ok (.if_icmp .ne 7, 3) := by decide +kernel
theorem dX1_isWithin_41 : decode cX1_isWithin 41 = .ok (.iconst 1, 1) := by decide +kernel
theorem dX1_isWithin_42 : decode cX1_isWithin 42 = .ok (.goto 4, 3) := by decide +kernel
theorem dX1_isWithin_45 : decode cX1_isWithin 45 = .ok (.iconst 0, 1) := by decide +kernel
theorem dX1_isWithin_46 : decode cX1_isWithin 46 = .ok (.ireturn, 1) := by decide +kernel
theorem dX1_sectorOf_0 : decode cX1_sectorOf 0 = .ok (.iload_n 0, 1) := by decide +kernel
theorem dX1_sectorOf_1 : decode cX1_sectorOf 1 = .ok (.ifCond .ne 9, 3) := by decide +kernel
theorem dX1_sectorOf_4 : decode cX1_sectorOf 4 = .ok (.iload_n 1, 1) := by decide +kernel
theorem dX1_sectorOf_5 : decode cX1_sectorOf 5 = .ok (.ifCond .ne 5, 3) := by decide +kernel
theorem dX1_sectorOf_8 : decode cX1_sectorOf 8 = .ok (.iconst (-1), 1) := by decide +kernel
theorem dX1_sectorOf_9 : decode cX1_sectorOf 9 = .ok (.ireturn, 1) := by decide +kernel
theorem dX1_sectorOf_10 : decode cX1_sectorOf 10 = .ok (.iload_n 0, 1) := by decide +kernel
theorem dX1_sectorOf_11 : decode cX1_sectorOf 11 = .ok (.iload_n 1, 1) := by decide +kernel
theorem dX1_sectorOf_12 : decode cX1_sectorOf 12 = .ok (.invokestatic 46, 3) := by decide +kernel
theorem dX1_sectorOf_15 : decode cX1_sectorOf 15 = .ok (.istore_n 2, 1) := by decide +kernel
theorem dX1_sectorOf_16 : decode cX1_sectorOf 16 = .ok (.iload_n 2, 1) := by decide +kernel
theorem dX1_sectorOf_17 : decode cX1_sectorOf 17 = .ok (.iconst 2, 1) := by decide +kernel
theorem dX1_sectorOf_18 : decode cX1_sectorOf 18 = .ok (.irem, 1) := by decide +kernel
theorem dX1_sectorOf_19 : decode cX1_sectorOf 19 = .ok (.ifCond .ne 10, 3) := by decide +kernel
theorem dX1_sectorOf_22 : decode cX1_sectorOf 22 = .ok (.iload_n 0, 1) := by decide +kernel
theorem dX1_sectorOf_23 : decode cX1_sectorOf 23 = .ok (.invokestatic 36, 3) := by decide +kernel
theorem dX1_sectorOf_26 : decode cX1_sectorOf 26 = .ok (.goto 7, 3) := by decide +kernel
theorem dX1_sectorOf_29 : decode cX1_sectorOf 29 = .ok (.iload_n 1, 1) := by decide +kernel
theorem dX1_sectorOf_30 : decode cX1_sectorOf 30 = .ok (.invokestatic 36, 3) := by decide +kernel
theorem dX1_sectorOf_33 : decode cX1_sectorOf 33 = .ok (.istore_n 3, 1) := by decide +kernel
theorem dX1_sectorOf_34 : decode cX1_sectorOf 34 = .ok (.iload_n 2, 1) := by decide +kernel
theorem dX1_sectorOf_35 : decode cX1_sectorOf 35 = .ok (.iconst 2, 1) := by decide +kernel
theorem dX1_sectorOf_36 : decode cX1_sectorOf 36 = .ok (.irem, 1) := by decide +kernel
theorem dX1_sectorOf_37 : decode cX1_sectorOf 37 = .ok (.ifCond .ne 10, 3) := by decide +kernel
theorem dX1_sectorOf_40 : decode cX1_sectorOf 40 = .ok (.iload_n 1, 1) := by decide +kernel
theorem dX1_sectorOf_41 : decode cX1_sectorOf 41 = .ok (.invokestatic 36, 3) := by decide +kernel
theorem dX1_sectorOf_44 : decode cX1_sectorOf 44 = .ok (.goto 7, 3) := by decide +kernel
theorem dX1_sectorOf_47 : decode cX1_sectorOf 47 = .ok (.iload_n 0, 1) := by decide +kernel
theorem dX1_sectorOf_48 : decode cX1_sectorOf 48 = .ok (.invokestatic 36, 3) := by decide +kernel
theorem dX1_sectorOf_51 : decode cX1_sectorOf 51 = .ok (.istore 4, 2) := by decide +kernel
theorem dX1_sectorOf_53 : decode cX1_sectorOf 53 = .ok (.iload 4, 2) := by decide +kernel
theorem dX1_sectorOf_55 : decode cX1_sectorOf 55 = .ok (.iload_n 3, 1) := by decide +kernel
theorem dX1_sectorOf_56 : decode cX1_sectorOf 56 = .ok (.if_icmp .lt 11, 3) := by decide +kernel
theorem dX1_sectorOf_59 : decode cX1_sectorOf 59 = .ok (.iconst 2, 1) := by decide +kernel
theorem dX1_sectorOf_60 : decode cX1_sectorOf 60 = .ok (.iload_n 2, 1) := by decide +kernel
theorem dX1_sectorOf_61 : decode cX1_sectorOf 61 = .ok (.imul, 1) := by decide +kernel
theorem dX1_sectorOf_62 : decode cX1_sectorOf 62 = .ok (.iconst 1, 1) := by decide +kernel
theorem dX1_sectorOf_63 : decode cX1_sectorOf 63 = .ok (.iadd, 1) := by decide +kernel
theorem dX1_sectorOf_64 : decode cX1_sectorOf 64 = .ok (.goto 6, 3) := by decide +kernel
theorem dX1_sectorOf_67 : decode cX1_sectorOf 67 = .ok (.iconst 2, 1) := by decide +kernel
theorem dX1_sectorOf_68 : decode cX1_sectorOf 68 = .ok (.iload_n 2, 1) := by decide +kernel
theorem dX1_sectorOf_69 : decode cX1_sectorOf 69 = .ok (.imul, 1) := by decide +kernel
theorem dX1_sectorOf_70 : decode cX1_sectorOf 70 = .ok (.ireturn, 1) := by decide +kernel
theorem dX1_quarterOf_0 : decode cX1_quarterOf 0 = .ok (.iload_n 0, 1) := by decide +kernel
theorem dX1_quarterOf_1 : decode cX1_quarterOf 1 = .ok (.ifCond .le 9, 3) := by decide +kernel
theorem dX1_quarterOf_4 : decode cX1_quarterOf 4 = .ok (.iload_n 1, 1) := by decide +kernel
theorem dX1_quarterOf_5 : decode cX1_quarterOf 5 = .ok (.ifCond .lt 5, 3) := by decide +kernel
theorem dX1_quarterOf_8 : decode cX1_quarterOf 8 = .ok (.iconst 0, 1) := by decide +kernel
theorem dX1_quarterOf_9 : decode cX1_quarterOf 9 = .ok (.ireturn, 1) := by decide +kernel
theorem dX1_quarterOf_10 : decode cX1_quarterOf 10 = .ok (.iload_n 0, 1) := by decide +kernel
theorem dX1_quarterOf_11 : decode cX1_quarterOf 11 = .ok (.ifCond .gt 9, 3) := by decide +kernel
theorem dX1_quarterOf_14 : decode cX1_quarterOf 14 = .ok (.iload_n 1, 1) := by decide +kernel
theorem dX1_quarterOf_15 : decode cX1_quarterOf 15 = .ok (.ifCond .le 5, 3) := by decide +kernel
theorem dX1_quarterOf_18 : decode cX1_quarterOf 18 = .ok (.iconst 1, 1) := by decide +kernel
theorem dX1_quarterOf_19 : decode cX1_quarterOf 19 = .ok (.ireturn, 1) := by decide +kernel
theorem dX1_quarterOf_20 : decode cX1_quarterOf 20 = .ok (.iload_n 0, 1) := by decide +kernel
theorem dX1_quarterOf_21 : decode cX1_quarterOf 21 = .ok (.ifCond .ge 9, 3) := by decide +kernel
theorem dX1_quarterOf_24 : decode cX1_quarterOf 24 = .ok (.iload_n 1, 1) := by decide +kernel
theorem dX1_quarterOf_25 : decode cX1_quarterOf 25 = .ok (.ifCond .gt 5, 3) := by decide +kernel
theorem dX1_quarterOf_28 : decode cX1_quarterOf 28 = .ok (.iconst 2, 1) := by decide +kernel
theorem dX1_quarterOf_29 : decode cX1_quarterOf 29 = .ok (.ireturn, 1) := by decide +kernel
theorem dX1_quarterOf_30 : decode cX1_quarterOf 30 = .ok (.iconst 3, 1) := by decide +kernel
theorem dX1_quarterOf_31 : decode cX1_quarterOf 31 = .ok (.ireturn, 1) := by decide +kernel
theorem dX1_canBeSeenFrom_0 : decode cX1_canBeSeenFrom 0 = .ok (.iload_n 2, 1) := by decide +kernel
theorem dX1_canBeSeenFrom_1 : decode cX1_canBeSeenFrom 1 = .ok (.ifCond .lt 22, 3) := by decide +kernel
theorem dX1_canBeSeenFrom_4 : decode cX1_canBeSeenFrom 4 = .ok (.iload_n 2, 1) := by decide +kernel
theorem dX1_canBeSeenFrom_5 : decode cX1_canBeSeenFrom 5 = .ok (.aload_n 0, 1) := by decide +kernel
theorem dX1_canBeSeenFrom_6 : decode cX1_canBeSeenFrom 6 = .ok (.getfield 29, 3) := by decide +kernel
theorem dX1_canBeSeenFrom_9 : decode cX1_canBeSeenFrom 9 = .ok (.arraylength, 1) := by decide +kernel
theorem dX1_canBeSeenFrom_10 : decode cX1_canBeSeenFrom 10 = .ok (.if_icmp .ge 13, 3) := by decide +kernel
theorem dX1_canBeSeenFrom_13 : decode cX1_canBeSeenFrom 13 = .ok (.iload_n 1, 1) := by decide +kernel
theorem dX1_canBeSeenFrom_14 : decode cX1_canBeSeenFrom 14 = .ok (.ifCond .lt 9, 3) := by decide +kernel
theorem dX1_canBeSeenFrom_17 : decode cX1_canBeSeenFrom 17 = .ok (.iload_n 1, 1) := by decide +kernel
theorem dX1_canBeSeenFrom_18 : decode cX1_canBeSeenFrom 18 = .ok (.bipush 32, 2) := by decide +kernel
theorem dX1_canBeSeenFrom_20 : decode cX1_canBeSeenFrom 20 = .ok (.if_icmp .lt 5, 3) := by decide +kernel
theorem dX1_canBeSeenFrom_23 : decode cX1_canBeSeenFrom 23 = .ok (.iconst 0, 1) := by decide +kernel
theorem dX1_canBeSeenFrom_24 : decode cX1_canBeSeenFrom 24 = .ok (.ireturn, 1) := by decide +kernel
theorem dX1_canBeSeenFrom_25 : decode cX1_canBeSeenFrom 25 = .ok (.aload_n 0, 1) := by decide +kernel
theorem dX1_canBeSeenFrom_26 : decode cX1_canBeSeenFrom 26 = .ok (.getfield 29, 3) := by decide +kernel
theorem dX1_canBeSeenFrom_29 : decode cX1_canBeSeenFrom 29 = .ok (.iload_n 2, 1) := by decide +kernel
theorem dX1_canBeSeenFrom_30 : decode cX1_canBeSeenFrom 30 = .ok (.iaload, 1) := by decide +kernel
theorem dX1_canBeSeenFrom_31 : decode cX1_canBeSeenFrom 31 = .ok (.iload_n 1, 1) := by decide +kernel
theorem dX1_canBeSeenFrom_32 : decode cX1_canBeSeenFrom 32 = .ok (.iushr, 1) := by decide +kernel
theorem dX1_canBeSeenFrom_33 : decode cX1_canBeSeenFrom 33 = .ok (.iconst 1, 1) := by decide +kernel
theorem dX1_canBeSeenFrom_34 : decode cX1_canBeSeenFrom 34 = .ok (.iand, 1) := by decide +kernel
theorem dX1_canBeSeenFrom_35 : decode cX1_canBeSeenFrom 35 = .ok (.iconst 1, 1) := by decide +kernel
theorem dX1_canBeSeenFrom_36 : decode cX1_canBeSeenFrom 36 = .ok (.if_icmp .ne 7, 3) := by decide +kernel
theorem dX1_canBeSeenFrom_39 : decode cX1_canBeSeenFrom 39 = .ok (.iconst 1, 1) := by decide +kernel
theorem dX1_canBeSeenFrom_40 : decode cX1_canBeSeenFrom 40 = .ok (.goto 4, 3) := by decide +kernel
theorem dX1_canBeSeenFrom_43 : decode cX1_canBeSeenFrom 43 = .ok (.iconst 0, 1) := by decide +kernel
theorem dX1_canBeSeenFrom_44 : decode cX1_canBeSeenFrom 44 = .ok (.ireturn, 1) := by decide +kernel
theorem dX1_placesSharedWith_0 : decode cX1_placesSharedWith 0 = .ok (.iconst 0, 1) := by decide +kernel
theorem dX1_placesSharedWith_1 : decode cX1_placesSharedWith 1 = .ok (.istore_n 2, 1) := by decide +kernel
theorem dX1_placesSharedWith_2 : decode cX1_placesSharedWith 2 = .ok (.iconst 0, 1) := by decide +kernel
theorem dX1_placesSharedWith_3 : decode cX1_placesSharedWith 3 = .ok (.istore_n 3, 1) := by decide +kernel
theorem dX1_placesSharedWith_4 : decode cX1_placesSharedWith 4 = .ok (.iload_n 3, 1) := by decide +kernel
theorem dX1_placesSharedWith_5 : decode cX1_placesSharedWith 5 = .ok (.aload_n 0, 1) := by decide +kernel
theorem dX1_placesSharedWith_6 : decode cX1_placesSharedWith 6 = .ok (.getfield 29, 3) := by decide +kernel
theorem dX1_placesSharedWith_9 : decode cX1_placesSharedWith 9 = .ok (.arraylength, 1) := by decide +kernel
theorem dX1_placesSharedWith_10 : decode cX1_placesSharedWith 10 = .ok (.if_icmp .ge 37, 3) := by decide +kernel
theorem dX1_placesSharedWith_13 : decode cX1_placesSharedWith 13 = .ok (.iload_n 3, 1) := by decide +kernel
theorem dX1_placesSharedWith_14 : decode cX1_placesSharedWith 14 = .ok (.aload_n 1, 1) := by decide +kernel
theorem dX1_placesSharedWith_15 : decode cX1_placesSharedWith 15 = .ok (.getfield 29, 3) := by decide +kernel
theorem dX1_placesSharedWith_18 : decode cX1_placesSharedWith 18 = .ok (.arraylength, 1) := by decide +kernel
theorem dX1_placesSharedWith_19 : decode cX1_placesSharedWith 19 = .ok (.if_icmp .ge 28, 3) := by decide +kernel
theorem dX1_placesSharedWith_22 : decode cX1_placesSharedWith 22 = .ok (.iload_n 2, 1) := by decide +kernel
theorem dX1_placesSharedWith_23 : decode cX1_placesSharedWith 23 = .ok (.aload_n 0, 1) := by decide +kernel
theorem dX1_placesSharedWith_24 : decode cX1_placesSharedWith 24 = .ok (.getfield 29, 3) := by decide +kernel
theorem dX1_placesSharedWith_27 : decode cX1_placesSharedWith 27 = .ok (.iload_n 3, 1) := by decide +kernel
theorem dX1_placesSharedWith_28 : decode cX1_placesSharedWith 28 = .ok (.iaload, 1) := by decide +kernel
theorem dX1_placesSharedWith_29 : decode cX1_placesSharedWith 29 = .ok (.aload_n 1, 1) := by decide +kernel
theorem dX1_placesSharedWith_30 : decode cX1_placesSharedWith 30 = .ok (.getfield 29, 3) := by decide +kernel
theorem dX1_placesSharedWith_33 : decode cX1_placesSharedWith 33 = .ok (.iload_n 3, 1) := by decide +kernel
theorem dX1_placesSharedWith_34 : decode cX1_placesSharedWith 34 = .ok (.iaload, 1) := by decide +kernel
theorem dX1_placesSharedWith_35 : decode cX1_placesSharedWith 35 = .ok (.iand, 1) := by decide +kernel
theorem dX1_placesSharedWith_36 : decode cX1_placesSharedWith 36 = .ok (.invokestatic 49, 3) := by decide +kernel
theorem dX1_placesSharedWith_39 : decode cX1_placesSharedWith 39 = .ok (.iadd, 1) := by decide +kernel
theorem dX1_placesSharedWith_40 : decode cX1_placesSharedWith 40 = .ok (.istore_n 2, 1) := by decide +kernel
theorem dX1_placesSharedWith_41 : decode cX1_placesSharedWith 41 = .ok (.iinc 3 1, 3) := by decide +kernel
theorem dX1_placesSharedWith_44 : decode cX1_placesSharedWith 44 = .ok (.goto (-40), 3) := by decide +kernel
theorem dX1_placesSharedWith_47 : decode cX1_placesSharedWith 47 = .ok (.iload_n 2, 1) := by decide +kernel
theorem dX1_placesSharedWith_48 : decode cX1_placesSharedWith 48 = .ok (.ireturn, 1) := by decide +kernel
theorem dX2_init_0 : decode cX2_init 0 = .ok (.aload_n 0, 1) := by decide +kernel
theorem dX2_init_1 : decode cX2_init 1 = .ok (.invokespecial 1, 3) := by decide +kernel
theorem dX2_init_4 : decode cX2_init 4 = .ok (.aload_n 0, 1) := by decide +kernel
theorem dX2_init_5 : decode cX2_init 5 = .ok (.iload_n 1, 1) := by decide +kernel
theorem dX2_init_6 : decode cX2_init 6 = .ok (.putfield 7, 3) := by decide +kernel
theorem dX2_init_9 : decode cX2_init 9 = .ok (.aload_n 0, 1) := by decide +kernel
theorem dX2_init_10 : decode cX2_init 10 = .ok (.iload_n 2, 1) := by decide +kernel
theorem dX2_init_11 : decode cX2_init 11 = .ok (.putfield 13, 3) := by decide +kernel
theorem dX2_init_14 : decode cX2_init 14 = .ok (.return_, 1) := by decide +kernel
theorem dX3_init_0 : decode cX3_init 0 = .ok (.aload_n 0, 1) := by decide +kernel
theorem dX3_init_1 : decode cX3_init 1 = .ok (.invokespecial 1, 3) := by decide +kernel
theorem dX3_init_4 : decode cX3_init 4 = .ok (.iconst 0, 1) := by decide +kernel
theorem dX3_init_5 : decode cX3_init 5 = .ok (.istore_n 2, 1) := by decide +kernel
theorem dX3_init_6 : decode cX3_init 6 = .ok (.lconst 0, 1) := by decide +kernel
theorem dX3_init_7 : decode cX3_init 7 = .ok (.lstore_n 3, 1) := by decide +kernel
theorem dX3_init_8 : decode cX3_init 8 = .ok (.iconst 0, 1) := by decide +kernel
theorem dX3_init_9 : decode cX3_init 9 = .ok (.istore 5, 2) := by decide +kernel
theorem dX3_init_11 : decode cX3_init 11 = .ok (.iload 5, 2) := by decide +kernel
theorem dX3_init_13 : decode cX3_init 13 = .ok (.aload_n 1, 1) := by decide +kernel
theorem dX3_init_14 : decode cX3_init 14 = .ok (.arraylength, 1) := by decide +kernel
theorem dX3_init_15 : decode cX3_init 15 = .ok (.if_icmp .ge 43, 3) := by decide +kernel
theorem dX3_init_18 : decode cX3_init 18 = .ok (.iconst 0, 1) := by decide +kernel
theorem dX3_init_19 : decode cX3_init 19 = .ok (.istore 6, 2) := by decide +kernel
theorem dX3_init_21 : decode cX3_init 21 = .ok (.iload 6, 2) := by decide +kernel
theorem dX3_init_23 : decode cX3_init 23 = .ok (.aload_n 1, 1) := by decide +kernel
theorem dX3_init_24 : decode cX3_init 24 = .ok (.iload 5, 2) := by decide +kernel
theorem dX3_init_26 : decode cX3_init 26 = .ok (.iaload, 1) := by decide +kernel
theorem dX3_init_27 : decode cX3_init 27 = .ok (.if_icmp .ge 25, 3) := by decide +kernel
theorem dX3_init_30 : decode cX3_init 30 = .ok (.iload 5, 2) := by decide +kernel
theorem dX3_init_32 : decode cX3_init 32 = .ok (.iconst 2, 1) := by decide +kernel
theorem dX3_init_33 : decode cX3_init 33 = .ok (.irem, 1) := by decide +kernel
theorem dX3_init_34 : decode cX3_init 34 = .ok (.ifCond .ne 9, 3) := by decide +kernel
theorem dX3_init_37 : decode cX3_init 37 = .ok (.lload_n 3, 1) := by decide +kernel
theorem dX3_init_38 : decode cX3_init 38 = .ok (.lconst 1, 1) := by decide +kernel
theorem dX3_init_39 : decode cX3_init 39 = .ok (.iload_n 2, 1) := by decide +kernel
theorem dX3_init_40 : decode cX3_init 40 = .ok (.lshl, 1) := by decide +kernel
theorem dX3_init_41 : decode cX3_init 41 = .ok (.lor, 1) := by decide +kernel
theorem dX3_init_42 : decode cX3_init 42 = .ok (.lstore_n 3, 1) := by decide +kernel
theorem dX3_init_43 : decode cX3_init 43 = .ok (.iinc 2 1, 3) := by decide +kernel
theorem dX3_init_46 : decode cX3_init 46 = .ok (.iinc 6 1, 3) := by decide +kernel
theorem dX3_init_49 : decode cX3_init 49 = .ok (.goto (-28), 3) := by decide +kernel
theorem dX3_init_52 : decode cX3_init 52 = .ok (.iinc 5 1, 3) := by decide +kernel
theorem dX3_init_55 : decode cX3_init 55 = .ok (.goto (-44), 3) := by decide +kernel
theorem dX3_init_58 : decode cX3_init 58 = .ok (.aload_n 0, 1) := by decide +kernel
theorem dX3_init_59 : decode cX3_init 59 = .ok (.iload_n 2, 1) := by decide +kernel
theorem dX3_init_60 : decode cX3_init 60 = .ok (.putfield 7, 3) := by decide +kernel
theorem dX3_init_63 : decode cX3_init 63 = .ok (.aload_n 0, 1) := by decide +kernel
theorem dX3_init_64 : decode cX3_init 64 = .ok (.lload_n 3, 1) := by decide +kernel
theorem dX3_init_65 : decode cX3_init 65 = .ok (.putfield 13, 3) := by decide +kernel
theorem dX3_init_68 : decode cX3_init 68 = .ok (.aload_n 0, 1) := by decide +kernel
theorem dX3_init_69 : decode cX3_init 69 = .ok (.aload_n 1, 1) := by decide +kernel
theorem dX3_init_70 : decode cX3_init 70 = .ok (.aload_n 1, 1) := by decide +kernel
theorem dX3_init_71 : decode cX3_init 71 = .ok (.invokestatic 17, 3) := by decide +kernel
theorem dX3_init_74 : decode cX3_init 74 = .ok (.invokestatic 21, 3) := by decide +kernel
theorem dX3_init_77 : decode cX3_init 77 = .ok (.putfield 27, 3) := by decide +kernel
theorem dX3_init_80 : decode cX3_init 80 = .ok (.return_, 1) := by decide +kernel
theorem dX3_fewestOf_0 : decode cX3_fewestOf 0 = .ok (.iconst 2, 1) := by decide +kernel
theorem dX3_fewestOf_1 : decode cX3_fewestOf 1 = .ok (.istore_n 1, 1) := by decide +kernel
theorem dX3_fewestOf_2 : decode cX3_fewestOf 2 = .ok (.iload_n 1, 1) := by decide +kernel
theorem dX3_fewestOf_3 : decode cX3_fewestOf 3 = .ok (.aload_n 0, 1) := by decide +kernel
theorem dX3_fewestOf_4 : decode cX3_fewestOf 4 = .ok (.arraylength, 1) := by decide +kernel
theorem dX3_fewestOf_5 : decode cX3_fewestOf 5 = .ok (.if_icmp .ge 26, 3) := by decide +kernel
theorem dX3_fewestOf_8 : decode cX3_fewestOf 8 = .ok (.aload_n 0, 1) := by decide +kernel
theorem dX3_fewestOf_9 : decode cX3_fewestOf 9 = .ok (.arraylength, 1) := by decide +kernel
theorem dX3_fewestOf_10 : decode cX3_fewestOf 10 = .ok (.iload_n 1, 1) := by decide +kernel
theorem dX3_fewestOf_11 : decode cX3_fewestOf 11 = .ok (.irem, 1) := by decide +kernel
theorem dX3_fewestOf_12 : decode cX3_fewestOf 12 = .ok (.ifCond .ne 13, 3) := by decide +kernel
theorem dX3_fewestOf_15 : decode cX3_fewestOf 15 = .ok (.aload_n 0, 1) := by decide +kernel
theorem dX3_fewestOf_16 : decode cX3_fewestOf 16 = .ok (.iload_n 1, 1) := by decide +kernel
theorem dX3_fewestOf_17 : decode cX3_fewestOf 17 = .ok (.invokestatic 31, 3) := by decide +kernel
theorem dX3_fewestOf_20 : decode cX3_fewestOf 20 = .ok (.ifCond .eq 5, 3) := by decide +kernel
theorem dX3_fewestOf_23 : decode cX3_fewestOf 23 = .ok (.iload_n 1, 1) := by decide +kernel
theorem dX3_fewestOf_24 : decode cX3_fewestOf 24 = .ok (.ireturn, 1) := by decide +kernel
theorem dX3_fewestOf_25 : decode cX3_fewestOf 25 = .ok (.iinc 1 2, 3) := by decide +kernel
theorem dX3_fewestOf_28 : decode cX3_fewestOf 28 = .ok (.goto (-26), 3) := by decide +kernel
theorem dX3_fewestOf_31 : decode cX3_fewestOf 31 = .ok (.aload_n 0, 1) := by decide +kernel
theorem dX3_fewestOf_32 : decode cX3_fewestOf 32 = .ok (.arraylength, 1) := by decide +kernel
theorem dX3_fewestOf_33 : decode cX3_fewestOf 33 = .ok (.ireturn, 1) := by decide +kernel
theorem dX3_repeatsAfter_0 : decode cX3_repeatsAfter 0 = .ok (.iload_n 1, 1) := by decide +kernel
theorem dX3_repeatsAfter_1 : decode cX3_repeatsAfter 1 = .ok (.istore_n 2, 1) := by decide +kernel
theorem dX3_repeatsAfter_2 : decode cX3_repeatsAfter 2 = .ok (.iload_n 2, 1) := by decide +kernel
theorem dX3_repeatsAfter_3 : decode cX3_repeatsAfter 3 = .ok (.aload_n 0, 1) := by decide +kernel
theorem dX3_repeatsAfter_4 : decode cX3_repeatsAfter 4 = .ok (.arraylength, 1) := by decide +kernel
theorem dX3_repeatsAfter_5 : decode cX3_repeatsAfter 5 = .ok (.if_icmp .ge 22, 3) := by decide +kernel
theorem dX3_repeatsAfter_8 : decode cX3_repeatsAfter 8 = .ok (.aload_n 0, 1) := by decide +kernel
theorem dX3_repeatsAfter_9 : decode cX3_repeatsAfter 9 = .ok (.iload_n 2, 1) := by decide +kernel
theorem dX3_repeatsAfter_10 : decode cX3_repeatsAfter 10 = .ok (.iaload, 1) := by decide +kernel
theorem dX3_repeatsAfter_11 : decode cX3_repeatsAfter 11 = .ok (.aload_n 0, 1) := by decide +kernel
theorem dX3_repeatsAfter_12 : decode cX3_repeatsAfter 12 = .ok (.iload_n 2, 1) := by decide +kernel
theorem dX3_repeatsAfter_13 : decode cX3_repeatsAfter 13 = .ok (.iload_n 1, 1) := by decide +kernel
theorem dX3_repeatsAfter_14 : decode cX3_repeatsAfter 14 = .ok (.isub, 1) := by decide +kernel
theorem dX3_repeatsAfter_15 : decode cX3_repeatsAfter 15 = .ok (.iaload, 1) := by decide +kernel
theorem dX3_repeatsAfter_16 : decode cX3_repeatsAfter 16 = .ok (.if_icmp .eq 5, 3) := by decide +kernel
theorem dX3_repeatsAfter_19 : decode cX3_repeatsAfter 19 = .ok (.iconst 0, 1) := by decide +kernel
theorem dX3_repeatsAfter_20 : decode cX3_repeatsAfter 20 = .ok (.ireturn, 1) := by decide +kernel
theorem dX3_repeatsAfter_21 : decode cX3_repeatsAfter 21 = .ok (.iinc 2 1, 3) := by decide +kernel
theorem dX3_repeatsAfter_24 : decode cX3_repeatsAfter 24 = .ok (.goto (-22), 3) := by decide +kernel
theorem dX3_repeatsAfter_27 : decode cX3_repeatsAfter 27 = .ok (.iconst 1, 1) := by decide +kernel
theorem dX3_repeatsAfter_28 : decode cX3_repeatsAfter 28 = .ok (.ireturn, 1) := by decide +kernel
theorem dX3_isLight_0 : decode cX3_isLight 0 = .ok (.aload_n 0, 1) := by decide +kernel
theorem dX3_isLight_1 : decode cX3_isLight 1 = .ok (.getfield 7, 3) := by decide +kernel
theorem dX3_isLight_4 : decode cX3_isLight 4 = .ok (.iconst 1, 1) := by decide +kernel
theorem dX3_isLight_5 : decode cX3_isLight 5 = .ok (.if_icmp .lt 7, 3) := by decide +kernel
theorem dX3_isLight_8 : decode cX3_isLight 8 = .ok (.iload_n 1, 1) := by decide +kernel
theorem dX3_isLight_9 : decode cX3_isLight 9 = .ok (.ifCond .ge 5, 3) := by decide +kernel
theorem dX3_isLight_12 : decode cX3_isLight 12 = .ok (.iconst 0, 1) := by decide +kernel
theorem dX3_isLight_13 : decode cX3_isLight 13 = .ok (.ireturn, 1) := by decide +kernel
theorem dX3_isLight_14 : decode cX3_isLight 14 = .ok (.aload_n 0, 1) := by decide +kernel
theorem dX3_isLight_15 : decode cX3_isLight 15 = .ok (.getfield 13, 3) := by decide +kernel
theorem dX3_isLight_18 : decode cX3_isLight 18 = .ok (.iload_n 1, 1) := by decide +kernel
theorem dX3_isLight_19 : decode cX3_isLight 19 = .ok (.aload_n 0, 1) := by decide +kernel
theorem dX3_isLight_20 : decode cX3_isLight 20 = .ok (.getfield 7, 3) := by decide +kernel
theorem dX3_isLight_23 : decode cX3_isLight 23 = .ok (.irem, 1) := by decide +kernel
theorem dX3_isLight_24 : decode cX3_isLight 24 = .ok (.lushr, 1) := by decide +kernel
theorem dX3_isLight_25 : decode cX3_isLight 25 = .ok (.lconst 1, 1) := by decide +kernel
theorem dX3_isLight_26 : decode cX3_isLight 26 = .ok (.land, 1) := by decide +kernel
theorem dX3_isLight_27 : decode cX3_isLight 27 = .ok (.lconst 1, 1) := by decide +kernel
theorem dX3_isLight_28 : decode cX3_isLight 28 = .ok (.lcmp, 1) := by decide +kernel
theorem dX3_isLight_29 : decode cX3_isLight 29 = .ok (.ifCond .ne 7, 3) := by decide +kernel
theorem dX3_isLight_32 : decode cX3_isLight 32 = .ok (.iconst 1, 1) := by decide +kernel
theorem dX3_isLight_33 : decode cX3_isLight 33 = .ok (.goto 4, 3) := by decide +kernel
theorem dX3_isLight_36 : decode cX3_isLight 36 = .ok (.iconst 0, 1) := by decide +kernel
theorem dX3_isLight_37 : decode cX3_isLight 37 = .ok (.ireturn, 1) := by decide +kernel
theorem dX3_hasPhasesOf_0 : decode cX3_hasPhasesOf 0 = .ok (.aload_n 0, 1) := by decide +kernel
theorem dX3_hasPhasesOf_1 : decode cX3_hasPhasesOf 1 = .ok (.getfield 27, 3) := by decide +kernel
theorem dX3_hasPhasesOf_4 : decode cX3_hasPhasesOf 4 = .ok (.arraylength, 1) := by decide +kernel
theorem dX3_hasPhasesOf_5 : decode cX3_hasPhasesOf 5 = .ok (.aload_n 1, 1) := by decide +kernel
theorem dX3_hasPhasesOf_6 : decode cX3_hasPhasesOf 6 = .ok (.getfield 27, 3) := by decide +kernel
theorem dX3_hasPhasesOf_9 : decode cX3_hasPhasesOf 9 = .ok (.arraylength, 1) := by decide +kernel
theorem dX3_hasPhasesOf_10 : decode cX3_hasPhasesOf 10 = .ok (.if_icmp .eq 5, 3) := by decide +kernel
theorem dX3_hasPhasesOf_13 : decode cX3_hasPhasesOf 13 = .ok (.iconst 0, 1) := by decide +kernel
theorem dX3_hasPhasesOf_14 : decode cX3_hasPhasesOf 14 = .ok (.ireturn, 1) := by decide +kernel
theorem dX3_hasPhasesOf_15 : decode cX3_hasPhasesOf 15 = .ok (.iconst 0, 1) := by decide +kernel
theorem dX3_hasPhasesOf_16 : decode cX3_hasPhasesOf 16 = .ok (.istore_n 2, 1) := by decide +kernel
theorem dX3_hasPhasesOf_17 : decode cX3_hasPhasesOf 17 = .ok (.iload_n 2, 1) := by decide +kernel
theorem dX3_hasPhasesOf_18 : decode cX3_hasPhasesOf 18 = .ok (.aload_n 0, 1) := by decide +kernel
theorem dX3_hasPhasesOf_19 : decode cX3_hasPhasesOf 19 = .ok (.getfield 27, 3) := by decide +kernel
theorem dX3_hasPhasesOf_22 : decode cX3_hasPhasesOf 22 = .ok (.arraylength, 1) := by decide +kernel
theorem dX3_hasPhasesOf_23 : decode cX3_hasPhasesOf 23 = .ok (.if_icmp .ge 23, 3) := by decide +kernel
theorem dX3_hasPhasesOf_26 : decode cX3_hasPhasesOf 26 = .ok (.aload_n 0, 1) := by decide +kernel
theorem dX3_hasPhasesOf_27 : decode cX3_hasPhasesOf 27 = .ok (.aload_n 1, 1) := by decide +kernel
theorem dX3_hasPhasesOf_28 : decode cX3_hasPhasesOf 28 = .ok (.getfield 27, 3) := by decide +kernel
theorem dX3_hasPhasesOf_31 : decode cX3_hasPhasesOf 31 = .ok (.iload_n 2, 1) := by decide +kernel
theorem dX3_hasPhasesOf_32 : decode cX3_hasPhasesOf 32 = .ok (.invokevirtual 35, 3) := by decide +kernel
theorem dX3_hasPhasesOf_35 : decode cX3_hasPhasesOf 35 = .ok (.ifCond .eq 5, 3) := by decide +kernel
theorem dX3_hasPhasesOf_38 : decode cX3_hasPhasesOf 38 = .ok (.iconst 1, 1) := by decide +kernel
theorem dX3_hasPhasesOf_39 : decode cX3_hasPhasesOf 39 = .ok (.ireturn, 1) := by decide +kernel
theorem dX3_hasPhasesOf_40 : decode cX3_hasPhasesOf 40 = .ok (.iinc 2 2, 3) := by decide +kernel
theorem dX3_hasPhasesOf_43 : decode cX3_hasPhasesOf 43 = .ok (.goto (-26), 3) := by decide +kernel
theorem dX3_hasPhasesOf_46 : decode cX3_hasPhasesOf 46 = .ok (.iconst 0, 1) := by decide +kernel
theorem dX3_hasPhasesOf_47 : decode cX3_hasPhasesOf 47 = .ok (.ireturn, 1) := by decide +kernel
theorem dX3_hasPhasesTurned_0 : decode cX3_hasPhasesTurned 0 = .ok (.iconst 0, 1) := by decide +kernel
theorem dX3_hasPhasesTurned_1 : decode cX3_hasPhasesTurned 1 = .ok (.istore_n 3, 1) := by decide +kernel
theorem dX3_hasPhasesTurned_2 : decode cX3_hasPhasesTurned 2 = .ok (.iload_n 3, 1) := by decide +kernel
theorem dX3_hasPhasesTurned_3 : decode cX3_hasPhasesTurned 3 = .ok (.aload_n 0, 1) := by decide +kernel
theorem dX3_hasPhasesTurned_4 : decode cX3_hasPhasesTurned 4 = .ok (.getfield 27, 3) := by decide +kernel
theorem dX3_hasPhasesTurned_7 : decode cX3_hasPhasesTurned 7 = .ok (.arraylength, 1) := by decide +kernel
theorem dX3_hasPhasesTurned_8 : decode cX3_hasPhasesTurned 8 = .ok (.if_icmp .ge 37, 3) := by decide +kernel
theorem dX3_hasPhasesTurned_11 : decode cX3_hasPhasesTurned 11 = .ok (.iload_n 3, 1) := by decide +kernel
theorem dX3_hasPhasesTurned_12 : decode cX3_hasPhasesTurned 12 = .ok (.aload_n 1, 1) := by decide +kernel
theorem dX3_hasPhasesTurned_13 : decode cX3_hasPhasesTurned 13 = .ok (.arraylength, 1) := by decide +kernel
theorem dX3_hasPhasesTurned_14 : decode cX3_hasPhasesTurned 14 = .ok (.if_icmp .ge 31, 3) := by decide +kernel
theorem dX3_hasPhasesTurned_17 : decode cX3_hasPhasesTurned 17 = .ok (.aload_n 0, 1) := by decide +kernel
theorem dX3_hasPhasesTurned_18 : decode cX3_hasPhasesTurned 18 = .ok (.getfield 27, 3) := by decide +kernel
theorem dX3_hasPhasesTurned_21 : decode cX3_hasPhasesTurned 21 = .ok (.iload_n 3, 1) := by decide +kernel
theorem dX3_hasPhasesTurned_22 : decode cX3_hasPhasesTurned 22 = .ok (.iload_n 2, 1) := by decide +kernel
theorem dX3_hasPhasesTurned_23 : decode cX3_hasPhasesTurned 23 = .ok (.iadd, 1) := by decide +kernel
theorem dX3_hasPhasesTurned_24 : decode cX3_hasPhasesTurned 24 = .ok (.aload_n 0, 1) := by decide +kernel
theorem dX3_hasPhasesTurned_25 : decode cX3_hasPhasesTurned 25 = .ok (.getfield 27, 3) := by decide +kernel
theorem dX3_hasPhasesTurned_28 : decode cX3_hasPhasesTurned 28 = .ok (.arraylength, 1) := by decide +kernel
theorem dX3_hasPhasesTurned_29 : decode cX3_hasPhasesTurned 29 = .ok (.irem, 1) := by decide +kernel
theorem dX3_hasPhasesTurned_30 : decode cX3_hasPhasesTurned 30 = .ok (.iaload, 1) := by decide +kernel
theorem dX3_hasPhasesTurned_31 : decode cX3_hasPhasesTurned 31 = .ok (.aload_n 1, 1) := by decide +kernel
theorem dX3_hasPhasesTurned_32 : decode cX3_hasPhasesTurned 32 = .ok (.iload_n 3, 1) := by decide +kernel
theorem dX3_hasPhasesTurned_33 : decode cX3_hasPhasesTurned 33 = .ok (.iaload, 1) := by decide +kernel
theorem dX3_hasPhasesTurned_34 : decode cX3_hasPhasesTurned 34 = .ok (.if_icmp .eq 5, 3) := by decide +kernel
theorem dX3_hasPhasesTurned_37 : decode cX3_hasPhasesTurned 37 = .ok (.iconst 0, 1) := by decide +kernel
theorem dX3_hasPhasesTurned_38 : decode cX3_hasPhasesTurned 38 = .ok (.ireturn, 1) := by decide +kernel
theorem dX3_hasPhasesTurned_39 : decode cX3_hasPhasesTurned 39 = .ok (.iinc 3 1, 3) := by decide +kernel
theorem dX3_hasPhasesTurned_42 : decode cX3_hasPhasesTurned 42 = .ok (.goto (-40), 3) := by decide +kernel
theorem dX3_hasPhasesTurned_45 : decode cX3_hasPhasesTurned 45 = .ok (.iconst 1, 1) := by decide +kernel
theorem dX3_hasPhasesTurned_46 : decode cX3_hasPhasesTurned 46 = .ok (.ireturn, 1) := by decide +kernel
theorem dX3_hasSecondsOf_0 : decode cX3_hasSecondsOf 0 = .ok (.iconst 0, 1) := by decide +kernel
theorem dX3_hasSecondsOf_1 : decode cX3_hasSecondsOf 1 = .ok (.istore_n 2, 1) := by decide +kernel
theorem dX3_hasSecondsOf_2 : decode cX3_hasSecondsOf 2 = .ok (.iload_n 2, 1) := by decide +kernel
theorem dX3_hasSecondsOf_3 : decode cX3_hasSecondsOf 3 = .ok (.aload_n 0, 1) := by decide +kernel
theorem dX3_hasSecondsOf_4 : decode cX3_hasSecondsOf 4 = .ok (.getfield 7, 3) := by decide +kernel
theorem dX3_hasSecondsOf_7 : decode cX3_hasSecondsOf 7 = .ok (.if_icmp .ge 20, 3) := by decide +kernel
theorem dX3_hasSecondsOf_10 : decode cX3_hasSecondsOf 10 = .ok (.aload_n 0, 1) := by decide +kernel
theorem dX3_hasSecondsOf_11 : decode cX3_hasSecondsOf 11 = .ok (.aload_n 1, 1) := by decide +kernel
theorem dX3_hasSecondsOf_12 : decode cX3_hasSecondsOf 12 = .ok (.iload_n 2, 1) := by decide +kernel
theorem dX3_hasSecondsOf_13 : decode cX3_hasSecondsOf 13 = .ok (.invokevirtual 38, 3) := by decide +kernel
theorem dX3_hasSecondsOf_16 : decode cX3_hasSecondsOf 16 = .ok (.ifCond .eq 5, 3) := by decide +kernel
theorem dX3_hasSecondsOf_19 : decode cX3_hasSecondsOf 19 = .ok (.iconst 1, 1) := by decide +kernel
theorem dX3_hasSecondsOf_20 : decode cX3_hasSecondsOf 20 = .ok (.ireturn, 1) := by decide +kernel
theorem dX3_hasSecondsOf_21 : decode cX3_hasSecondsOf 21 = .ok (.iinc 2 1, 3) := by decide +kernel
theorem dX3_hasSecondsOf_24 : decode cX3_hasSecondsOf 24 = .ok (.goto (-22), 3) := by decide +kernel
theorem dX3_hasSecondsOf_27 : decode cX3_hasSecondsOf 27 = .ok (.iconst 0, 1) := by decide +kernel
theorem dX3_hasSecondsOf_28 : decode cX3_hasSecondsOf 28 = .ok (.ireturn, 1) := by decide +kernel
theorem dX3_hasSecondsLater_0 : decode cX3_hasSecondsLater 0 = .ok (.aload_n 0, 1) := by decide +kernel
theorem dX3_hasSecondsLater_1 : decode cX3_hasSecondsLater 1 = .ok (.getfield 7, 3) := by decide +kernel
theorem dX3_hasSecondsLater_4 : decode cX3_hasSecondsLater 4 = .ok (.aload_n 1, 1) := by decide +kernel
theorem dX3_hasSecondsLater_5 : decode cX3_hasSecondsLater 5 = .ok (.getfield 7, 3) := by decide +kernel
theorem dX3_hasSecondsLater_8 : decode cX3_hasSecondsLater 8 = .ok (.imul, 1) := by decide +kernel
theorem dX3_hasSecondsLater_9 : decode cX3_hasSecondsLater 9 = .ok (.istore_n 3, 1) := by decide +kernel
theorem dX3_hasSecondsLater_10 : decode cX3_hasSecondsLater 10 = .ok (.iconst 0, 1) := by decide +kernel
theorem dX3_hasSecondsLater_11 : decode cX3_hasSecondsLater 11 = .ok (.istore 4, 2) := by decide +kernel
theorem dX3_hasSecondsLater_13 : decode cX3_hasSecondsLater 13 = .ok (.iload 4, 2) := by decide +kernel
theorem dX3_hasSecondsLater_15 : decode cX3_hasSecondsLater 15 = .ok (.iload_n 3, 1) := by decide +kernel
theorem dX3_hasSecondsLater_16 : decode cX3_hasSecondsLater 16 = .ok (.if_icmp .ge 28, 3) := by decide +kernel
theorem dX3_hasSecondsLater_19 : decode cX3_hasSecondsLater 19 = .ok (.aload_n 0, 1) := by decide +kernel
theorem dX3_hasSecondsLater_20 : decode cX3_hasSecondsLater 20 = .ok (.iload 4, 2) := by decide +kernel
theorem dX3_hasSecondsLater_22 : decode cX3_hasSecondsLater 22 = .ok (.iload_n 2, 1) := by decide +kernel
theorem dX3_hasSecondsLater_23 : decode cX3_hasSecondsLater 23 = .ok (.iadd, 1) := by decide +kernel
theorem dX3_hasSecondsLater_24 : decode cX3_hasSecondsLater 24 = .ok (.invokevirtual 42, 3) := by decide +kernel
theorem dX3_hasSecondsLater_27 : decode cX3_hasSecondsLater 27 = .ok (.aload_n 1, 1) := by decide +kernel
theorem dX3_hasSecondsLater_28 : decode cX3_hasSecondsLater 28 = .ok (.iload 4, 2) := by decide +kernel
theorem dX3_hasSecondsLater_30 : decode cX3_hasSecondsLater 30 = .ok (.invokevirtual 42, 3) := by decide +kernel
theorem dX3_hasSecondsLater_33 : decode cX3_hasSecondsLater 33 = .ok (.if_icmp .eq 5, 3) := by decide +kernel
theorem dX3_hasSecondsLater_36 : decode cX3_hasSecondsLater 36 = .ok (.iconst 0, 1) := by decide +kernel
theorem dX3_hasSecondsLater_37 : decode cX3_hasSecondsLater 37 = .ok (.ireturn, 1) := by decide +kernel
theorem dX3_hasSecondsLater_38 : decode cX3_hasSecondsLater 38 = .ok (.iinc 4 1, 3) := by decide +kernel
theorem dX3_hasSecondsLater_41 : decode cX3_hasSecondsLater 41 = .ok (.goto (-28), 3) := by decide +kernel
theorem dX3_hasSecondsLater_44 : decode cX3_hasSecondsLater 44 = .ok (.iconst 1, 1) := by decide +kernel
theorem dX3_hasSecondsLater_45 : decode cX3_hasSecondsLater 45 = .ok (.ireturn, 1) := by decide +kernel
theorem dX3_canLookLike_0 : decode cX3_canLookLike 0 = .ok (.iconst 0, 1) := by decide +kernel
theorem dX3_canLookLike_1 : decode cX3_canLookLike 1 = .ok (.istore 4, 2) := by decide +kernel
theorem dX3_canLookLike_3 : decode cX3_canLookLike 3 = .ok (.iload 4, 2) := by decide +kernel
theorem dX3_canLookLike_5 : decode cX3_canLookLike 5 = .ok (.aload_n 0, 1) := by decide +kernel
theorem dX3_canLookLike_6 : decode cX3_canLookLike 6 = .ok (.getfield 7, 3) := by decide +kernel
theorem dX3_canLookLike_9 : decode cX3_canLookLike 9 = .ok (.if_icmp .ge 22, 3) := by decide +kernel
theorem dX3_canLookLike_12 : decode cX3_canLookLike 12 = .ok (.aload_n 0, 1) := by decide +kernel
theorem dX3_canLookLike_13 : decode cX3_canLookLike 13 = .ok (.lload_n 1, 1) := by decide +kernel
theorem dX3_canLookLike_14 : decode cX3_canLookLike 14 = .ok (.iload_n 3, 1) := by decide +kernel
theorem dX3_canLookLike_15 : decode cX3_canLookLike 15 = .ok (.iload 4, 2) := by decide +kernel
theorem dX3_canLookLike_17 : decode cX3_canLookLike 17 = .ok (.invokevirtual 46, 3) := by decide +kernel
theorem dX3_canLookLike_20 : decode cX3_canLookLike 20 = .ok (.ifCond .eq 5, 3) := by decide +kernel
theorem dX3_canLookLike_23 : decode cX3_canLookLike 23 = .ok (.iconst 1, 1) := by decide +kernel
theorem dX3_canLookLike_24 : decode cX3_canLookLike 24 = .ok (.ireturn, 1) := by decide +kernel
theorem dX3_canLookLike_25 : decode cX3_canLookLike 25 = .ok (.iinc 4 1, 3) := by decide +kernel
theorem dX3_canLookLike_28 : decode cX3_canLookLike 28 = .ok (.goto (-25), 3) := by decide +kernel
theorem dX3_canLookLike_31 : decode cX3_canLookLike 31 = .ok (.iconst 0, 1) := by decide +kernel
theorem dX3_canLookLike_32 : decode cX3_canLookLike 32 = .ok (.ireturn, 1) := by decide +kernel
theorem dX3_looksLike_0 : decode cX3_looksLike 0 = .ok (.iconst 0, 1) := by decide +kernel
theorem dX3_looksLike_1 : decode cX3_looksLike 1 = .ok (.istore 5, 2) := by decide +kernel
theorem dX3_looksLike_3 : decode cX3_looksLike 3 = .ok (.iload 5, 2) := by decide +kernel
theorem dX3_looksLike_5 : decode cX3_looksLike 5 = .ok (.iload_n 3, 1) := by decide +kernel
theorem dX3_looksLike_6 : decode cX3_looksLike 6 = .ok (.if_icmp .ge 43, 3) := by decide +kernel
theorem dX3_looksLike_9 : decode cX3_looksLike 9 = .ok (.lload_n 1, 1) := by decide +kernel
theorem dX3_looksLike_10 : decode cX3_looksLike 10 = .ok (.iload 5, 2) := by decide +kernel
theorem dX3_looksLike_12 : decode cX3_looksLike 12 = .ok (.lushr, 1) := by decide +kernel
theorem dX3_looksLike_13 : decode cX3_looksLike 13 = .ok (.lconst 1, 1) := by decide +kernel
theorem dX3_looksLike_14 : decode cX3_looksLike 14 = .ok (.land, 1) := by decide +kernel
theorem dX3_looksLike_15 : decode cX3_looksLike 15 = .ok (.lconst 1, 1) := by decide +kernel
theorem dX3_looksLike_16 : decode cX3_looksLike 16 = .ok (.lcmp, 1) := by decide +kernel
theorem dX3_looksLike_17 : decode cX3_looksLike 17 = .ok (.ifCond .ne 7, 3) := by decide +kernel
theorem dX3_looksLike_20 : decode cX3_looksLike 20 = .ok (.iconst 1, 1) := by decide +kernel
theorem dX3_looksLike_21 : decode cX3_looksLike 21 = .ok (.goto 4, 3) := by decide +kernel
theorem dX3_looksLike_24 : decode cX3_looksLike 24 = .ok (.iconst 0, 1) := by decide +kernel
theorem dX3_looksLike_25 : decode cX3_looksLike 25 = .ok (.istore 6, 2) := by decide +kernel
theorem dX3_looksLike_27 : decode cX3_looksLike 27 = .ok (.aload_n 0, 1) := by decide +kernel
theorem dX3_looksLike_28 : decode cX3_looksLike 28 = .ok (.iload 4, 2) := by decide +kernel
theorem dX3_looksLike_30 : decode cX3_looksLike 30 = .ok (.iload 5, 2) := by decide +kernel
theorem dX3_looksLike_32 : decode cX3_looksLike 32 = .ok (.iadd, 1) := by decide +kernel
theorem dX3_looksLike_33 : decode cX3_looksLike 33 = .ok (.invokevirtual 42, 3) := by decide +kernel
theorem dX3_looksLike_36 : decode cX3_looksLike 36 = .ok (.iload 6, 2) := by decide +kernel
theorem dX3_looksLike_38 : decode cX3_looksLike 38 = .ok (.if_icmp .eq 5, 3) := by decide +kernel
theorem dX3_looksLike_41 : decode cX3_looksLike 41 = .ok (.iconst 0, 1) := by decide +kernel
theorem dX3_looksLike_42 : decode cX3_looksLike 42 = .ok (.ireturn, 1) := by decide +kernel
theorem dX3_looksLike_43 : decode cX3_looksLike 43 = .ok (.iinc 5 1, 3) := by decide +kernel
theorem dX3_looksLike_46 : decode cX3_looksLike 46 = .ok (.goto (-43), 3) := by decide +kernel
theorem dX3_looksLike_49 : decode cX3_looksLike 49 = .ok (.iconst 1, 1) := by decide +kernel
theorem dX3_looksLike_50 : decode cX3_looksLike 50 = .ok (.ireturn, 1) := by decide +kernel
theorem dX4_init_0 : decode cX4_init 0 = .ok (.aload_n 0, 1) := by decide +kernel
theorem dX4_init_1 : decode cX4_init 1 = .ok (.invokespecial 1, 3) := by decide +kernel
theorem dX4_init_4 : decode cX4_init 4 = .ok (.aload_n 0, 1) := by decide +kernel
theorem dX4_init_5 : decode cX4_init 5 = .ok (.bipush 6, 2) := by decide +kernel
theorem dX4_init_7 : decode cX4_init 7 = .ok (.newarray .int, 2) := by decide +kernel
theorem dX4_init_9 : decode cX4_init 9 = .ok (.putfield 9, 3) := by decide +kernel
theorem dX4_init_12 : decode cX4_init 12 = .ok (.aload_n 0, 1) := by decide +kernel
theorem dX4_init_13 : decode cX4_init 13 = .ok (.iconst 0, 1) := by decide +kernel
theorem dX4_init_14 : decode cX4_init 14 = .ok (.putfield 13, 3) := by decide +kernel
theorem dX4_init_17 : decode cX4_init 17 = .ok (.aload_n 0, 1) := by decide +kernel
theorem dX4_init_18 : decode cX4_init 18 = .ok (.new 17, 3) := by decide +kernel
theorem dX4_init_21 : decode cX4_init 21 = .ok (.dup, 1) := by decide +kernel
theorem dX4_init_22 : decode cX4_init 22 = .ok (.invokespecial 19, 3) := by decide +kernel
theorem dX4_init_25 : decode cX4_init 25 = .ok (.putfield 20, 3) := by decide +kernel
theorem dX4_init_28 : decode cX4_init 28 = .ok (.aload_n 0, 1) := by decide +kernel
theorem dX4_init_29 : decode cX4_init 29 = .ok (.new 17, 3) := by decide +kernel
theorem dX4_init_32 : decode cX4_init 32 = .ok (.dup, 1) := by decide +kernel
theorem dX4_init_33 : decode cX4_init 33 = .ok (.invokespecial 19, 3) := by decide +kernel
theorem dX4_init_36 : decode cX4_init 36 = .ok (.putfield 24, 3) := by decide +kernel
theorem dX4_init_39 : decode cX4_init 39 = .ok (.aload_n 0, 1) := by decide +kernel
theorem dX4_init_40 : decode cX4_init 40 = .ok (.new 17, 3) := by decide +kernel
theorem dX4_init_43 : decode cX4_init 43 = .ok (.dup, 1) := by decide +kernel
theorem dX4_init_44 : decode cX4_init 44 = .ok (.invokespecial 19, 3) := by decide +kernel
theorem dX4_init_47 : decode cX4_init 47 = .ok (.putfield 27, 3) := by decide +kernel
theorem dX4_init_50 : decode cX4_init 50 = .ok (.aload_n 0, 1) := by decide +kernel
theorem dX4_init_51 : decode cX4_init 51 = .ok (.new 17, 3) := by decide +kernel
theorem dX4_init_54 : decode cX4_init 54 = .ok (.dup, 1) := by decide +kernel
theorem dX4_init_55 : decode cX4_init 55 = .ok (.invokespecial 19, 3) := by decide +kernel
theorem dX4_init_58 : decode cX4_init 58 = .ok (.putfield 30, 3) := by decide +kernel
theorem dX4_init_61 : decode cX4_init 61 = .ok (.return_, 1) := by decide +kernel
theorem dX4_phase_0 : decode cX4_phase 0 = .ok (.iload_n 1, 1) := by decide +kernel
theorem dX4_phase_1 : decode cX4_phase 1 = .ok (.iconst 1, 1) := by decide +kernel
theorem dX4_phase_2 : decode cX4_phase 2 = .ok (.bipush 9, 2) := by decide +kernel
theorem dX4_phase_4 : decode cX4_phase 4 = .ok (.invokestatic 33, 3) := by decide +kernel
theorem dX4_phase_7 : decode cX4_phase 7 = .ok (.aload_n 0, 1) := by decide +kernel
theorem dX4_phase_8 : decode cX4_phase 8 = .ok (.getfield 13, 3) := by decide +kernel
theorem dX4_phase_11 : decode cX4_phase 11 = .ok (.aload_n 0, 1) := by decide +kernel
theorem dX4_phase_12 : decode cX4_phase 12 = .ok (.getfield 9, 3) := by decide +kernel
theorem dX4_phase_15 : decode cX4_phase 15 = .ok (.arraylength, 1) := by decide +kernel
theorem dX4_phase_16 : decode cX4_phase 16 = .ok (.if_icmp .lt 13, 3) := by decide +kernel
theorem dX4_phase_19 : decode cX4_phase 19 = .ok (.new 37, 3) := by decide +kernel
theorem dX4_phase_22 : decode cX4_phase 22 = .ok (.dup, 1) := by decide +kernel
theorem dX4_phase_23 : decode cX4_phase 23 = .ok (.ldc 39, 2) := by decide +kernel
theorem dX4_phase_25 : decode cX4_phase 25 = .ok (.invokespecial 41, 3) := by decide +kernel
theorem dX4_phase_28 : decode cX4_phase 28 = .ok (.athrow, 1) := by decide +kernel
theorem dX4_phase_29 : decode cX4_phase 29 = .ok (.aload_n 0, 1) := by decide +kernel
theorem dX4_phase_30 : decode cX4_phase 30 = .ok (.getfield 9, 3) := by decide +kernel
theorem dX4_phase_33 : decode cX4_phase 33 = .ok (.aload_n 0, 1) := by decide +kernel
theorem dX4_phase_34 : decode cX4_phase 34 = .ok (.getfield 13, 3) := by decide +kernel
theorem dX4_phase_37 : decode cX4_phase 37 = .ok (.iload_n 1, 1) := by decide +kernel
theorem dX4_phase_38 : decode cX4_phase 38 = .ok (.iastore, 1) := by decide +kernel
theorem dX4_phase_39 : decode cX4_phase 39 = .ok (.aload_n 0, 1) := by decide +kernel
theorem dX4_phase_40 : decode cX4_phase 40 = .ok (.dup, 1) := by decide +kernel
theorem dX4_phase_41 : decode cX4_phase 41 = .ok (.getfield 13, 3) := by decide +kernel
theorem dX4_phase_44 : decode cX4_phase 44 = .ok (.iconst 1, 1) := by decide +kernel
theorem dX4_phase_45 : decode cX4_phase 45 = .ok (.iadd, 1) := by decide +kernel
theorem dX4_phase_46 : decode cX4_phase 46 = .ok (.putfield 13, 3) := by decide +kernel
theorem dX4_phase_49 : decode cX4_phase 49 = .ok (.aload_n 0, 1) := by decide +kernel
theorem dX4_phase_50 : decode cX4_phase 50 = .ok (.getfield 13, 3) := by decide +kernel
theorem dX4_phase_53 : decode cX4_phase 53 = .ok (.ireturn, 1) := by decide +kernel
theorem dX4_pattern_0 : decode cX4_pattern 0 = .ok (.aload_n 0, 1) := by decide +kernel
theorem dX4_pattern_1 : decode cX4_pattern 1 = .ok (.getfield 13, 3) := by decide +kernel
theorem dX4_pattern_4 : decode cX4_pattern 4 = .ok (.iconst 2, 1) := by decide +kernel
theorem dX4_pattern_5 : decode cX4_pattern 5 = .ok (.if_icmp .lt 12, 3) := by decide +kernel
theorem dX4_pattern_8 : decode cX4_pattern 8 = .ok (.aload_n 0, 1) := by decide +kernel
theorem dX4_pattern_9 : decode cX4_pattern 9 = .ok (.getfield 13, 3) := by decide +kernel
theorem dX4_pattern_12 : decode cX4_pattern 12 = .ok (.iconst 2, 1) := by decide +kernel
theorem dX4_pattern_13 : decode cX4_pattern 13 = .ok (.irem, 1) := by decide +kernel
theorem dX4_pattern_14 : decode cX4_pattern 14 = .ok (.ifCond .eq 13, 3) := by decide +kernel
theorem dX4_pattern_17 : decode cX4_pattern 17 = .ok (.new 37, 3) := by decide +kernel
theorem dX4_pattern_20 : decode cX4_pattern 20 = .ok (.dup, 1) := by decide +kernel
theorem dX4_pattern_21 : decode cX4_pattern 21 = .ok (.ldc 44, 2) := by decide +kernel
theorem dX4_pattern_23 : decode cX4_pattern 23 = .ok (.invokespecial 41, 3) := by decide +kernel
theorem dX4_pattern_26 : decode cX4_pattern 26 = .ok (.athrow, 1) := by decide +kernel
theorem dX4_pattern_27 : decode cX4_pattern 27 = .ok (.aload_n 0, 1) := by decide +kernel
theorem dX4_pattern_28 : decode cX4_pattern 28 = .ok (.getfield 20, 3) := by decide +kernel
theorem dX4_pattern_31 : decode cX4_pattern 31 = .ok (.invokevirtual 46, 3) := by decide +kernel
theorem dX4_pattern_34 : decode cX4_pattern 34 = .ok (.bipush 20, 2) := by decide +kernel
theorem dX4_pattern_36 : decode cX4_pattern 36 = .ok (.if_icmp .lt 13, 3) := by decide +kernel
theorem dX4_pattern_39 : decode cX4_pattern 39 = .ok (.new 37, 3) := by decide +kernel
theorem dX4_pattern_42 : decode cX4_pattern 42 = .ok (.dup, 1) := by decide +kernel
theorem dX4_pattern_43 : decode cX4_pattern 43 = .ok (.ldc 50, 2) := by decide +kernel
theorem dX4_pattern_45 : decode cX4_pattern 45 = .ok (.invokespecial 41, 3) := by decide +kernel
theorem dX4_pattern_48 : decode cX4_pattern 48 = .ok (.athrow, 1) := by decide +kernel
theorem dX4_pattern_49 : decode cX4_pattern 49 = .ok (.aload_n 0, 1) := by decide +kernel
theorem dX4_pattern_50 : decode cX4_pattern 50 = .ok (.getfield 20, 3) := by decide +kernel
theorem dX4_pattern_53 : decode cX4_pattern 53 = .ok (.new 52, 3) := by decide +kernel
theorem dX4_pattern_56 : decode cX4_pattern 56 = .ok (.dup, 1) := by decide +kernel
theorem dX4_pattern_57 : decode cX4_pattern 57 = .ok (.aload_n 0, 1) := by decide +kernel
theorem dX4_pattern_58 : decode cX4_pattern 58 = .ok (.getfield 9, 3) := by decide +kernel
theorem dX4_pattern_61 : decode cX4_pattern 61 = .ok (.aload_n 0, 1) := by decide +kernel
theorem dX4_pattern_62 : decode cX4_pattern 62 = .ok (.getfield 13, 3) := by decide +kernel
theorem dX4_pattern_65 : decode cX4_pattern 65 = .ok (.invokestatic 54, 3) := by decide +kernel
theorem dX4_pattern_68 : decode cX4_pattern 68 = .ok (.invokespecial 60, 3) := by decide +kernel
theorem dX4_pattern_71 : decode cX4_pattern 71 = .ok (.invokevirtual 63, 3) := by decide +kernel
theorem dX4_pattern_74 : decode cX4_pattern 74 = .ok (.pop, 1) := by decide +kernel
theorem dX4_pattern_75 : decode cX4_pattern 75 = .ok (.aload_n 0, 1) := by decide +kernel
theorem dX4_pattern_76 : decode cX4_pattern 76 = .ok (.iconst 0, 1) := by decide +kernel
theorem dX4_pattern_77 : decode cX4_pattern 77 = .ok (.putfield 13, 3) := by decide +kernel
theorem dX4_pattern_80 : decode cX4_pattern 80 = .ok (.aload_n 0, 1) := by decide +kernel
theorem dX4_pattern_81 : decode cX4_pattern 81 = .ok (.getfield 20, 3) := by decide +kernel
theorem dX4_pattern_84 : decode cX4_pattern 84 = .ok (.invokevirtual 46, 3) := by decide +kernel
theorem dX4_pattern_87 : decode cX4_pattern 87 = .ok (.iconst 1, 1) := by decide +kernel
theorem dX4_pattern_88 : decode cX4_pattern 88 = .ok (.isub, 1) := by decide +kernel
theorem dX4_pattern_89 : decode cX4_pattern 89 = .ok (.ireturn, 1) := by decide +kernel
theorem dX4_period_0 : decode cX4_period 0 = .ok (.aload_n 0, 1) := by decide +kernel
theorem dX4_period_1 : decode cX4_period 1 = .ok (.iload_n 1, 1) := by decide +kernel
theorem dX4_period_2 : decode cX4_period 2 = .ok (.invokevirtual 67, 3) := by decide +kernel
theorem dX4_period_5 : decode cX4_period 5 = .ok (.getfield 71, 3) := by decide +kernel
theorem dX4_period_8 : decode cX4_period 8 = .ok (.ireturn, 1) := by decide +kernel
theorem dX4_areAlike_0 : decode cX4_areAlike 0 = .ok (.aload_n 0, 1) := by decide +kernel
theorem dX4_areAlike_1 : decode cX4_areAlike 1 = .ok (.iload_n 1, 1) := by decide +kernel
theorem dX4_areAlike_2 : decode cX4_areAlike 2 = .ok (.invokevirtual 67, 3) := by decide +kernel
theorem dX4_areAlike_5 : decode cX4_areAlike 5 = .ok (.aload_n 0, 1) := by decide +kernel
theorem dX4_areAlike_6 : decode cX4_areAlike 6 = .ok (.iload_n 2, 1) := by decide +kernel
theorem dX4_areAlike_7 : decode cX4_areAlike 7 = .ok (.invokevirtual 67, 3) := by decide +kernel
theorem dX4_areAlike_10 : decode cX4_areAlike 10 = .ok (.invokevirtual 74, 3) := by decide +kernel
theorem dX4_areAlike_13 : decode cX4_areAlike 13 = .ok (.ireturn, 1) := by decide +kernel
theorem dX4_areAlikeBySeconds_0 : decode cX4_areAlikeBySeconds 0 = .ok (.aload_n 0, 1) := by decide +kernel
theorem dX4_areAlikeBySeconds_1 : decode cX4_areAlikeBySeconds 1 = .ok (.iload_n 1, 1) := by decide +kernel
theorem dX4_areAlikeBySeconds_2 : decode cX4_areAlikeBySeconds 2 = .ok (.invokevirtual 67, 3) := by decide +kernel
theorem dX4_areAlikeBySeconds_5 : decode cX4_areAlikeBySeconds 5 = .ok (.aload_n 0, 1) := by decide +kernel
theorem dX4_areAlikeBySeconds_6 : decode cX4_areAlikeBySeconds 6 = .ok (.iload_n 2, 1) := by decide +kernel
theorem dX4_areAlikeBySeconds_7 : decode cX4_areAlikeBySeconds 7 = .ok (.invokevirtual 67, 3) := by decide +kernel
theorem dX4_areAlikeBySeconds_10 : decode cX4_areAlikeBySeconds 10 = .ok (.invokevirtual 78, 3) := by decide +kernel
theorem dX4_areAlikeBySeconds_13 : decode cX4_areAlikeBySeconds 13 = .ok (.ireturn, 1) := by decide +kernel
theorem dX4_lamp_0 : decode cX4_lamp 0 = .ok (.aload_n 0, 1) := by decide +kernel
theorem dX4_lamp_1 : decode cX4_lamp 1 = .ok (.iload_n 3, 1) := by decide +kernel
theorem dX4_lamp_2 : decode cX4_lamp 2 = .ok (.invokevirtual 81, 3) := by decide +kernel
theorem dX4_lamp_5 : decode cX4_lamp 5 = .ok (.iload_n 1, 1) := by decide +kernel
theorem dX4_lamp_6 : decode cX4_lamp 6 = .ok (.iload_n 2, 1) := by decide +kernel
theorem dX4_lamp_7 : decode cX4_lamp 7 = .ok (.invokestatic 85, 3) := by decide +kernel
theorem dX4_lamp_10 : decode cX4_lamp 10 = .ok (.iload 4, 2) := by decide +kernel
theorem dX4_lamp_12 : decode cX4_lamp 12 = .ok (.iconst 1, 1) := by decide +kernel
theorem dX4_lamp_13 : decode cX4_lamp 13 = .ok (.bipush 40, 2) := by decide +kernel
theorem dX4_lamp_15 : decode cX4_lamp 15 = .ok (.invokestatic 33, 3) := by decide +kernel
theorem dX4_lamp_18 : decode cX4_lamp 18 = .ok (.iload 5, 2) := by decide +kernel
theorem dX4_lamp_20 : decode cX4_lamp 20 = .ok (.iconst 1, 1) := by decide +kernel
theorem dX4_lamp_21 : decode cX4_lamp 21 = .ok (.sipush 255, 3) := by decide +kernel
theorem dX4_lamp_24 : decode cX4_lamp 24 = .ok (.invokestatic 33, 3) := by decide +kernel
theorem dX4_lamp_27 : decode cX4_lamp 27 = .ok (.aload_n 0, 1) := by decide +kernel
theorem dX4_lamp_28 : decode cX4_lamp 28 = .ok (.getfield 24, 3) := by decide +kernel
theorem dX4_lamp_31 : decode cX4_lamp 31 = .ok (.invokevirtual 46, 3) := by decide +kernel
theorem dX4_lamp_34 : decode cX4_lamp 34 = .ok (.bipush 12, 2) := by decide +kernel
theorem dX4_lamp_36 : decode cX4_lamp 36 = .ok (.if_icmp .lt 13, 3) := by decide +kernel
theorem dX4_lamp_39 : decode cX4_lamp 39 = .ok (.new 37, 3) := by decide +kernel
theorem dX4_lamp_42 : decode cX4_lamp 42 = .ok (.dup, 1) := by decide +kernel
theorem dX4_lamp_43 : decode cX4_lamp 43 = .ok (.ldc 89, 2) := by decide +kernel
theorem dX4_lamp_45 : decode cX4_lamp 45 = .ok (.invokespecial 41, 3) := by decide +kernel
theorem dX4_lamp_48 : decode cX4_lamp 48 = .ok (.athrow, 1) := by decide +kernel
theorem dX4_lamp_49 : decode cX4_lamp 49 = .ok (.aload_n 0, 1) := by decide +kernel
theorem dX4_lamp_50 : decode cX4_lamp 50 = .ok (.getfield 24, 3) := by decide +kernel
theorem dX4_lamp_53 : decode cX4_lamp 53 = .ok (.invokevirtual 46, 3) := by decide +kernel
theorem dX4_lamp_56 : decode cX4_lamp 56 = .ok (.istore 6, 2) := by decide +kernel
theorem dX4_lamp_58 : decode cX4_lamp 58 = .ok (.aload_n 0, 1) := by decide +kernel
theorem dX4_lamp_59 : decode cX4_lamp 59 = .ok (.getfield 24, 3) := by decide +kernel
theorem dX4_lamp_62 : decode cX4_lamp 62 = .ok (.new 91, 3) := by decide +kernel
theorem dX4_lamp_65 : decode cX4_lamp 65 = .ok (.dup, 1) := by decide +kernel
theorem dX4_lamp_66 : decode cX4_lamp 66 = .ok (.iload_n 1, 1) := by decide +kernel
theorem dX4_lamp_67 : decode cX4_lamp 67 = .ok (.iload_n 2, 1) := by decide +kernel
theorem dX4_lamp_68 : decode cX4_lamp 68 = .ok (.iload_n 3, 1) := by decide +kernel
theorem dX4_lamp_69 : decode cX4_lamp 69 = .ok (.iload 4, 2) := by decide +kernel
theorem dX4_lamp_71 : decode cX4_lamp 71 = .ok (.iload 5, 2) := by decide +kernel
theorem dX4_lamp_73 : decode cX4_lamp 73 = .ok (.invokespecial 93, 3) := by decide +kernel
theorem dX4_lamp_76 : decode cX4_lamp 76 = .ok (.invokevirtual 63, 3) := by decide +kernel
theorem dX4_lamp_79 : decode cX4_lamp 79 = .ok (.pop, 1) := by decide +kernel
theorem dX4_lamp_80 : decode cX4_lamp 80 = .ok (.aload_n 0, 1) := by decide +kernel
theorem dX4_lamp_81 : decode cX4_lamp 81 = .ok (.iload 6, 2) := by decide +kernel
theorem dX4_lamp_83 : decode cX4_lamp 83 = .ok (.invokevirtual 96, 3) := by decide +kernel
theorem dX4_lamp_86 : decode cX4_lamp 86 = .ok (.pop, 1) := by decide +kernel
theorem dX4_lamp_87 : decode cX4_lamp 87 = .ok (.iload 6, 2) := by decide +kernel
theorem dX4_lamp_89 : decode cX4_lamp 89 = .ok (.ireturn, 1) := by decide +kernel
theorem dX4_change_0 : decode cX4_change 0 = .ok (.aload_n 0, 1) := by decide +kernel
theorem dX4_change_1 : decode cX4_change 1 = .ok (.iload_n 1, 1) := by decide +kernel
theorem dX4_change_2 : decode cX4_change 2 = .ok (.invokevirtual 100, 3) := by decide +kernel
theorem dX4_change_5 : decode cX4_change 5 = .ok (.astore 4, 2) := by decide +kernel
theorem dX4_change_7 : decode cX4_change 7 = .ok (.aload_n 0, 1) := by decide +kernel
theorem dX4_change_8 : decode cX4_change 8 = .ok (.iload_n 2, 1) := by decide +kernel
theorem dX4_change_9 : decode cX4_change 9 = .ok (.invokevirtual 81, 3) := by decide +kernel
theorem dX4_change_12 : decode cX4_change 12 = .ok (.iload_n 3, 1) := by decide +kernel
theorem dX4_change_13 : decode cX4_change 13 = .ok (.iconst 0, 1) := by decide +kernel
theorem dX4_change_14 : decode cX4_change 14 = .ok (.bipush 59, 2) := by decide +kernel
theorem dX4_change_16 : decode cX4_change 16 = .ok (.invokestatic 33, 3) := by decide +kernel
theorem dX4_change_19 : decode cX4_change 19 = .ok (.aload 4, 2) := by decide +kernel
theorem dX4_change_21 : decode cX4_change 21 = .ok (.iload_n 2, 1) := by decide +kernel
theorem dX4_change_22 : decode cX4_change 22 = .ok (.putfield 104, 3) := by decide +kernel
theorem dX4_change_25 : decode cX4_change 25 = .ok (.aload 4, 2) := by decide +kernel
theorem dX4_change_27 : decode cX4_change 27 = .ok (.iload_n 3, 1) := by decide +kernel
theorem dX4_change_28 : decode cX4_change 28 = .ok (.putfield 107, 3) := by decide +kernel
theorem dX4_change_31 : decode cX4_change 31 = .ok (.aload_n 0, 1) := by decide +kernel
theorem dX4_change_32 : decode cX4_change 32 = .ok (.iload_n 1, 1) := by decide +kernel
theorem dX4_change_33 : decode cX4_change 33 = .ok (.invokevirtual 96, 3) := by decide +kernel
theorem dX4_change_36 : decode cX4_change 36 = .ok (.ireturn, 1) := by decide +kernel
theorem dX4_fail_0 : decode cX4_fail 0 = .ok (.aload_n 0, 1) := by decide +kernel
theorem dX4_fail_1 : decode cX4_fail 1 = .ok (.iload_n 1, 1) := by decide +kernel
theorem dX4_fail_2 : decode cX4_fail 2 = .ok (.invokevirtual 100, 3) := by decide +kernel
theorem dX4_fail_5 : decode cX4_fail 5 = .ok (.astore_n 3, 1) := by decide +kernel
theorem dX4_fail_6 : decode cX4_fail 6 = .ok (.aload_n 3, 1) := by decide +kernel
theorem dX4_fail_7 : decode cX4_fail 7 = .ok (.getfield 110, 3) := by decide +kernel
theorem dX4_fail_10 : decode cX4_fail 10 = .ok (.iload_n 2, 1) := by decide +kernel
theorem dX4_fail_11 : decode cX4_fail 11 = .ok (.if_icmp .ne 13, 3) := by decide +kernel
theorem dX4_fail_14 : decode cX4_fail 14 = .ok (.new 37, 3) := by decide +kernel
theorem dX4_fail_17 : decode cX4_fail 17 = .ok (.dup, 1) := by decide +kernel
theorem dX4_fail_18 : decode cX4_fail 18 = .ok (.ldc 114, 2) := by decide +kernel
theorem dX4_fail_20 : decode cX4_fail 20 = .ok (.invokespecial 41, 3) := by decide +kernel
theorem dX4_fail_23 : decode cX4_fail 23 = .ok (.athrow, 1) := by decide +kernel
theorem dX4_fail_24 : decode cX4_fail 24 = .ok (.aload_n 3, 1) := by decide +kernel
theorem dX4_fail_25 : decode cX4_fail 25 = .ok (.iload_n 2, 1) := by decide +kernel
theorem dX4_fail_26 : decode cX4_fail 26 = .ok (.putfield 110, 3) := by decide +kernel
theorem dX4_fail_29 : decode cX4_fail 29 = .ok (.aload_n 0, 1) := by decide +kernel
theorem dX4_fail_30 : decode cX4_fail 30 = .ok (.iload_n 1, 1) := by decide +kernel
theorem dX4_fail_31 : decode cX4_fail 31 = .ok (.invokevirtual 96, 3) := by decide +kernel
theorem dX4_fail_34 : decode cX4_fail 34 = .ok (.ireturn, 1) := by decide +kernel
theorem dX4_shines_0 : decode cX4_shines 0 = .ok (.aload_n 0, 1) := by decide +kernel
theorem dX4_shines_1 : decode cX4_shines 1 = .ok (.iload_n 1, 1) := by decide +kernel
theorem dX4_shines_2 : decode cX4_shines 2 = .ok (.invokevirtual 100, 3) := by decide +kernel
theorem dX4_shines_5 : decode cX4_shines 5 = .ok (.astore_n 3, 1) := by decide +kernel
theorem dX4_shines_6 : decode cX4_shines 6 = .ok (.iload_n 2, 1) := by decide +kernel
theorem dX4_shines_7 : decode cX4_shines 7 = .ok (.iconst 0, 1) := by decide +kernel
theorem dX4_shines_8 : decode cX4_shines 8 = .ok (.ldc 116, 2) := by decide +kernel
theorem dX4_shines_10 : decode cX4_shines 10 = .ok (.invokestatic 33, 3) := by decide +kernel
theorem dX4_shines_13 : decode cX4_shines 13 = .ok (.aload_n 0, 1) := by decide +kernel
theorem dX4_shines_14 : decode cX4_shines 14 = .ok (.aload_n 3, 1) := by decide +kernel
theorem dX4_shines_15 : decode cX4_shines 15 = .ok (.iload_n 2, 1) := by decide +kernel
theorem dX4_shines_16 : decode cX4_shines 16 = .ok (.invokevirtual 117, 3) := by decide +kernel
theorem dX4_shines_19 : decode cX4_shines 19 = .ok (.ireturn, 1) := by decide +kernel
theorem dX4_sector_0 : decode cX4_sector 0 = .ok (.aload_n 0, 1) := by decide +kernel
theorem dX4_sector_1 : decode cX4_sector 1 = .ok (.iload_n 1, 1) := by decide +kernel
theorem dX4_sector_2 : decode cX4_sector 2 = .ok (.invokevirtual 100, 3) := by decide +kernel
theorem dX4_sector_5 : decode cX4_sector 5 = .ok (.astore 4, 2) := by decide +kernel
theorem dX4_sector_7 : decode cX4_sector 7 = .ok (.iload_n 2, 1) := by decide +kernel
theorem dX4_sector_8 : decode cX4_sector 8 = .ok (.iload_n 3, 1) := by decide +kernel
theorem dX4_sector_9 : decode cX4_sector 9 = .ok (.invokestatic 85, 3) := by decide +kernel
theorem dX4_sector_12 : decode cX4_sector 12 = .ok (.iload_n 2, 1) := by decide +kernel
theorem dX4_sector_13 : decode cX4_sector 13 = .ok (.aload 4, 2) := by decide +kernel
theorem dX4_sector_15 : decode cX4_sector 15 = .ok (.getfield 121, 3) := by decide +kernel
theorem dX4_sector_18 : decode cX4_sector 18 = .ok (.isub, 1) := by decide +kernel
theorem dX4_sector_19 : decode cX4_sector 19 = .ok (.iload_n 3, 1) := by decide +kernel
theorem dX4_sector_20 : decode cX4_sector 20 = .ok (.aload 4, 2) := by decide +kernel
theorem dX4_sector_22 : decode cX4_sector 22 = .ok (.getfield 124, 3) := by decide +kernel
theorem dX4_sector_25 : decode cX4_sector 25 = .ok (.isub, 1) := by decide +kernel
theorem dX4_sector_26 : decode cX4_sector 26 = .ok (.invokestatic 127, 3) := by decide +kernel
theorem dX4_sector_29 : decode cX4_sector 29 = .ok (.ireturn, 1) := by decide +kernel
theorem dX4_isSeen_0 : decode cX4_isSeen 0 = .ok (.aload_n 0, 1) := by decide +kernel
theorem dX4_isSeen_1 : decode cX4_isSeen 1 = .ok (.iload_n 1, 1) := by decide +kernel
theorem dX4_isSeen_2 : decode cX4_isSeen 2 = .ok (.invokevirtual 100, 3) := by decide +kernel
theorem dX4_isSeen_5 : decode cX4_isSeen 5 = .ok (.astore 4, 2) := by decide +kernel
theorem dX4_isSeen_7 : decode cX4_isSeen 7 = .ok (.iload_n 2, 1) := by decide +kernel
theorem dX4_isSeen_8 : decode cX4_isSeen 8 = .ok (.iload_n 3, 1) := by decide +kernel
theorem dX4_isSeen_9 : decode cX4_isSeen 9 = .ok (.invokestatic 85, 3) := by decide +kernel
theorem dX4_isSeen_12 : decode cX4_isSeen 12 = .ok (.aload 4, 2) := by decide +kernel
theorem dX4_isSeen_14 : decode cX4_isSeen 14 = .ok (.iload_n 2, 1) := by decide +kernel
theorem dX4_isSeen_15 : decode cX4_isSeen 15 = .ok (.iload_n 3, 1) := by decide +kernel
theorem dX4_isSeen_16 : decode cX4_isSeen 16 = .ok (.invokevirtual 131, 3) := by decide +kernel
theorem dX4_isSeen_19 : decode cX4_isSeen 19 = .ok (.ireturn, 1) := by decide +kernel
theorem dX4_common_0 : decode cX4_common 0 = .ok (.aload_n 0, 1) := by decide +kernel
theorem dX4_common_1 : decode cX4_common 1 = .ok (.iload_n 1, 1) := by decide +kernel
theorem dX4_common_2 : decode cX4_common 2 = .ok (.invokevirtual 100, 3) := by decide +kernel
theorem dX4_common_5 : decode cX4_common 5 = .ok (.aload_n 0, 1) := by decide +kernel
theorem dX4_common_6 : decode cX4_common 6 = .ok (.iload_n 2, 1) := by decide +kernel
theorem dX4_common_7 : decode cX4_common 7 = .ok (.invokevirtual 100, 3) := by decide +kernel
theorem dX4_common_10 : decode cX4_common 10 = .ok (.invokevirtual 135, 3) := by decide +kernel
theorem dX4_common_13 : decode cX4_common 13 = .ok (.ireturn, 1) := by decide +kernel
theorem dX4_clashes_0 : decode cX4_clashes 0 = .ok (.iconst 0, 1) := by decide +kernel
theorem dX4_clashes_1 : decode cX4_clashes 1 = .ok (.istore_n 1, 1) := by decide +kernel
theorem dX4_clashes_2 : decode cX4_clashes 2 = .ok (.iconst 0, 1) := by decide +kernel
theorem dX4_clashes_3 : decode cX4_clashes 3 = .ok (.istore_n 2, 1) := by decide +kernel
theorem dX4_clashes_4 : decode cX4_clashes 4 = .ok (.iload_n 2, 1) := by decide +kernel
theorem dX4_clashes_5 : decode cX4_clashes 5 = .ok (.aload_n 0, 1) := by decide +kernel
theorem dX4_clashes_6 : decode cX4_clashes 6 = .ok (.getfield 24, 3) := by decide +kernel
theorem dX4_clashes_9 : decode cX4_clashes 9 = .ok (.invokevirtual 46, 3) := by decide +kernel
theorem dX4_clashes_12 : decode cX4_clashes 12 = .ok (.if_icmp .ge 62, 3) := by decide +kernel
theorem dX4_clashes_15 : decode cX4_clashes 15 = .ok (.iload_n 2, 1) := by decide +kernel
theorem dX4_clashes_16 : decode cX4_clashes 16 = .ok (.iconst 1, 1) := by decide +kernel
theorem dX4_clashes_17 : decode cX4_clashes 17 = .ok (.iadd, 1) := by decide +kernel
theorem dX4_clashes_18 : decode cX4_clashes 18 = .ok (.istore_n 3, 1) := by decide +kernel
theorem dX4_clashes_19 : decode cX4_clashes 19 = .ok (.iload_n 3, 1) := by decide +kernel
theorem dX4_clashes_20 : decode cX4_clashes 20 = .ok (.aload_n 0, 1) := by decide +kernel
theorem dX4_clashes_21 : decode cX4_clashes 21 = .ok (.getfield 24, 3) := by decide +kernel
theorem dX4_clashes_24 : decode cX4_clashes 24 = .ok (.invokevirtual 46, 3) := by decide +kernel
theorem dX4_clashes_27 : decode cX4_clashes 27 = .ok (.if_icmp .ge 41, 3) := by decide +kernel
theorem dX4_clashes_30 : decode cX4_clashes 30 = .ok (.aload_n 0, 1) := by decide +kernel
theorem dX4_clashes_31 : decode cX4_clashes 31 = .ok (.aload_n 0, 1) := by decide +kernel
theorem dX4_clashes_32 : decode cX4_clashes 32 = .ok (.getfield 24, 3) := by decide +kernel
theorem dX4_clashes_35 : decode cX4_clashes 35 = .ok (.iload_n 2, 1) := by decide +kernel
theorem dX4_clashes_36 : decode cX4_clashes 36 = .ok (.invokevirtual 139, 3) := by decide +kernel
theorem dX4_clashes_39 : decode cX4_clashes 39 = .ok (.checkcast 91, 3) := by decide +kernel
theorem dX4_clashes_42 : decode cX4_clashes 42 = .ok (.aload_n 0, 1) := by decide +kernel
theorem dX4_clashes_43 : decode cX4_clashes 43 = .ok (.getfield 24, 3) := by decide +kernel
theorem dX4_clashes_46 : decode cX4_clashes 46 = .ok (.iload_n 3, 1) := by decide +kernel
theorem dX4_clashes_47 : decode cX4_clashes 47 = .ok (.invokevirtual 139, 3) := by decide +kernel
theorem dX4_clashes_50 : decode cX4_clashes 50 = .ok (.checkcast 91, 3) := by decide +kernel
theorem dX4_clashes_53 : decode cX4_clashes 53 = .ok (.invokevirtual 143, 3) := by decide +kernel
theorem dX4_clashes_56 : decode cX4_clashes 56 = .ok (.ifCond .eq 6, 3) := by decide +kernel
theorem dX4_clashes_59 : decode cX4_clashes 59 = .ok (.iinc 1 1, 3) := by decide +kernel
theorem dX4_clashes_62 : decode cX4_clashes 62 = .ok (.iinc 3 1, 3) := by decide +kernel
theorem dX4_clashes_65 : decode cX4_clashes 65 = .ok (.goto (-46), 3) := by decide +kernel
theorem dX4_clashes_68 : decode cX4_clashes 68 = .ok (.iinc 2 1, 3) := by decide +kernel
theorem dX4_clashes_71 : decode cX4_clashes 71 = .ok (.goto (-67), 3) := by decide +kernel
theorem dX4_clashes_74 : decode cX4_clashes 74 = .ok (.iload_n 1, 1) := by decide +kernel
theorem dX4_clashes_75 : decode cX4_clashes 75 = .ok (.ireturn, 1) := by decide +kernel
theorem dX4_notices_0 : decode cX4_notices 0 = .ok (.aload_n 0, 1) := by decide +kernel
theorem dX4_notices_1 : decode cX4_notices 1 = .ok (.getfield 27, 3) := by decide +kernel
theorem dX4_notices_4 : decode cX4_notices 4 = .ok (.invokevirtual 46, 3) := by decide +kernel
theorem dX4_notices_7 : decode cX4_notices 7 = .ok (.ireturn, 1) := by decide +kernel
theorem dX4_print_0 : decode cX4_print 0 = .ok (.aload_n 0, 1) := by decide +kernel
theorem dX4_print_1 : decode cX4_print 1 = .ok (.getfield 30, 3) := by decide +kernel
theorem dX4_print_4 : decode cX4_print 4 = .ok (.invokevirtual 46, 3) := by decide +kernel
theorem dX4_print_7 : decode cX4_print 7 = .ok (.bipush 10, 2) := by decide +kernel
theorem dX4_print_9 : decode cX4_print 9 = .ok (.if_icmp .lt 13, 3) := by decide +kernel
theorem dX4_print_12 : decode cX4_print 12 = .ok (.new 37, 3) := by decide +kernel
theorem dX4_print_15 : decode cX4_print 15 = .ok (.dup, 1) := by decide +kernel
theorem dX4_print_16 : decode cX4_print 16 = .ok (.ldc 147, 2) := by decide +kernel
theorem dX4_print_18 : decode cX4_print 18 = .ok (.invokespecial 41, 3) := by decide +kernel
theorem dX4_print_21 : decode cX4_print 21 = .ok (.athrow, 1) := by decide +kernel
theorem dX4_print_22 : decode cX4_print 22 = .ok (.new 149, 3) := by decide +kernel
theorem dX4_print_25 : decode cX4_print 25 = .ok (.dup, 1) := by decide +kernel
theorem dX4_print_26 : decode cX4_print 26 = .ok (.invokespecial 151, 3) := by decide +kernel
theorem dX4_print_29 : decode cX4_print 29 = .ok (.astore_n 1, 1) := by decide +kernel
theorem dX4_print_30 : decode cX4_print 30 = .ok (.aload_n 0, 1) := by decide +kernel
theorem dX4_print_31 : decode cX4_print 31 = .ok (.aload_n 1, 1) := by decide +kernel
theorem dX4_print_32 : decode cX4_print 32 = .ok (.aload_n 0, 1) := by decide +kernel
theorem dX4_print_33 : decode cX4_print 33 = .ok (.getfield 27, 3) := by decide +kernel
theorem dX4_print_36 : decode cX4_print 36 = .ok (.invokevirtual 46, 3) := by decide +kernel
theorem dX4_print_39 : decode cX4_print 39 = .ok (.invokevirtual 152, 3) := by decide +kernel
theorem dX4_print_42 : decode cX4_print 42 = .ok (.aload_n 0, 1) := by decide +kernel
theorem dX4_print_43 : decode cX4_print 43 = .ok (.getfield 30, 3) := by decide +kernel
theorem dX4_print_46 : decode cX4_print 46 = .ok (.aload_n 1, 1) := by decide +kernel
theorem dX4_print_47 : decode cX4_print 47 = .ok (.invokevirtual 63, 3) := by decide +kernel
theorem dX4_print_50 : decode cX4_print 50 = .ok (.pop, 1) := by decide +kernel
theorem dX4_print_51 : decode cX4_print 51 = .ok (.aload_n 0, 1) := by decide +kernel
theorem dX4_print_52 : decode cX4_print 52 = .ok (.getfield 30, 3) := by decide +kernel
theorem dX4_print_55 : decode cX4_print 55 = .ok (.invokevirtual 46, 3) := by decide +kernel
theorem dX4_print_58 : decode cX4_print 58 = .ok (.iconst 1, 1) := by decide +kernel
theorem dX4_print_59 : decode cX4_print 59 = .ok (.isub, 1) := by decide +kernel
theorem dX4_print_60 : decode cX4_print 60 = .ok (.ireturn, 1) := by decide +kernel
theorem dX4_correct_0 : decode cX4_correct 0 = .ok (.aload_n 0, 1) := by decide +kernel
theorem dX4_correct_1 : decode cX4_correct 1 = .ok (.iload_n 1, 1) := by decide +kernel
theorem dX4_correct_2 : decode cX4_correct 2 = .ok (.invokevirtual 156, 3) := by decide +kernel
theorem dX4_correct_5 : decode cX4_correct 5 = .ok (.astore_n 3, 1) := by decide +kernel
theorem dX4_correct_6 : decode cX4_correct 6 = .ok (.iload_n 2, 1) := by decide +kernel
theorem dX4_correct_7 : decode cX4_correct 7 = .ok (.iconst 1, 1) := by decide +kernel
theorem dX4_correct_8 : decode cX4_correct 8 = .ok (.bipush 100, 2) := by decide +kernel
theorem dX4_correct_10 : decode cX4_correct 10 = .ok (.invokestatic 33, 3) := by decide +kernel
theorem dX4_correct_13 : decode cX4_correct 13 = .ok (.iload_n 2, 1) := by decide +kernel
theorem dX4_correct_14 : decode cX4_correct 14 = .ok (.aload_n 0, 1) := by decide +kernel
theorem dX4_correct_15 : decode cX4_correct 15 = .ok (.aload_n 3, 1) := by decide +kernel
theorem dX4_correct_16 : decode cX4_correct 16 = .ok (.invokevirtual 160, 3) := by decide +kernel
theorem dX4_correct_19 : decode cX4_correct 19 = .ok (.invokestatic 164, 3) := by decide +kernel
theorem dX4_correct_22 : decode cX4_correct 22 = .ok (.istore 4, 2) := by decide +kernel
theorem dX4_correct_24 : decode cX4_correct 24 = .ok (.aload_n 0, 1) := by decide +kernel
theorem dX4_correct_25 : decode cX4_correct 25 = .ok (.aload_n 3, 1) := by decide +kernel
theorem dX4_correct_26 : decode cX4_correct 26 = .ok (.iload 4, 2) := by decide +kernel
theorem dX4_correct_28 : decode cX4_correct 28 = .ok (.invokevirtual 152, 3) := by decide +kernel
theorem dX4_correct_31 : decode cX4_correct 31 = .ok (.iload 4, 2) := by decide +kernel
theorem dX4_correct_33 : decode cX4_correct 33 = .ok (.ireturn, 1) := by decide +kernel
theorem dX4_behind_0 : decode cX4_behind 0 = .ok (.aload_n 0, 1) := by decide +kernel
theorem dX4_behind_1 : decode cX4_behind 1 = .ok (.aload_n 0, 1) := by decide +kernel
theorem dX4_behind_2 : decode cX4_behind 2 = .ok (.iload_n 1, 1) := by decide +kernel
theorem dX4_behind_3 : decode cX4_behind 3 = .ok (.invokevirtual 156, 3) := by decide +kernel
theorem dX4_behind_6 : decode cX4_behind 6 = .ok (.invokevirtual 160, 3) := by decide +kernel
theorem dX4_behind_9 : decode cX4_behind 9 = .ok (.ireturn, 1) := by decide +kernel
theorem dX4_shown_0 : decode cX4_shown 0 = .ok (.aload_n 0, 1) := by decide +kernel
theorem dX4_shown_1 : decode cX4_shown 1 = .ok (.iload_n 1, 1) := by decide +kernel
theorem dX4_shown_2 : decode cX4_shown 2 = .ok (.invokevirtual 156, 3) := by decide +kernel
theorem dX4_shown_5 : decode cX4_shown 5 = .ok (.astore_n 3, 1) := by decide +kernel
theorem dX4_shown_6 : decode cX4_shown 6 = .ok (.aload_n 0, 1) := by decide +kernel
theorem dX4_shown_7 : decode cX4_shown 7 = .ok (.iload_n 2, 1) := by decide +kernel
theorem dX4_shown_8 : decode cX4_shown 8 = .ok (.invokevirtual 169, 3) := by decide +kernel
theorem dX4_shown_11 : decode cX4_shown 11 = .ok (.aload_n 3, 1) := by decide +kernel
theorem dX4_shown_12 : decode cX4_shown 12 = .ok (.iload_n 2, 1) := by decide +kernel
theorem dX4_shown_13 : decode cX4_shown 13 = .ok (.invokevirtual 172, 3) := by decide +kernel
theorem dX4_shown_16 : decode cX4_shown 16 = .ok (.ireturn, 1) := by decide +kernel
theorem dX4_taken_0 : decode cX4_taken 0 = .ok (.aload_n 0, 1) := by decide +kernel
theorem dX4_taken_1 : decode cX4_taken 1 = .ok (.iload_n 1, 1) := by decide +kernel
theorem dX4_taken_2 : decode cX4_taken 2 = .ok (.invokevirtual 156, 3) := by decide +kernel
theorem dX4_taken_5 : decode cX4_taken 5 = .ok (.astore 7, 2) := by decide +kernel
theorem dX4_taken_7 : decode cX4_taken 7 = .ok (.aload_n 0, 1) := by decide +kernel
theorem dX4_taken_8 : decode cX4_taken 8 = .ok (.iload 4, 2) := by decide +kernel
theorem dX4_taken_10 : decode cX4_taken 10 = .ok (.invokevirtual 100, 3) := by decide +kernel
theorem dX4_taken_13 : decode cX4_taken 13 = .ok (.astore 8, 2) := by decide +kernel
theorem dX4_taken_15 : decode cX4_taken 15 = .ok (.iload_n 2, 1) := by decide +kernel
theorem dX4_taken_16 : decode cX4_taken 16 = .ok (.iload_n 3, 1) := by decide +kernel
theorem dX4_taken_17 : decode cX4_taken 17 = .ok (.invokestatic 85, 3) := by decide +kernel
theorem dX4_taken_20 : decode cX4_taken 20 = .ok (.iload 5, 2) := by decide +kernel
theorem dX4_taken_22 : decode cX4_taken 22 = .ok (.iconst 0, 1) := by decide +kernel
theorem dX4_taken_23 : decode cX4_taken 23 = .ok (.sipush 1000, 3) := by decide +kernel
theorem dX4_taken_26 : decode cX4_taken 26 = .ok (.invokestatic 33, 3) := by decide +kernel
theorem dX4_taken_29 : decode cX4_taken 29 = .ok (.iload 6, 2) := by decide +kernel
theorem dX4_taken_31 : decode cX4_taken 31 = .ok (.iconst 1, 1) := by decide +kernel
theorem dX4_taken_32 : decode cX4_taken 32 = .ok (.bipush 60, 2) := by decide +kernel
theorem dX4_taken_34 : decode cX4_taken 34 = .ok (.invokestatic 33, 3) := by decide +kernel
theorem dX4_taken_37 : decode cX4_taken 37 = .ok (.aload_n 0, 1) := by decide +kernel
theorem dX4_taken_38 : decode cX4_taken 38 = .ok (.aload 8, 2) := by decide +kernel
theorem dX4_taken_40 : decode cX4_taken 40 = .ok (.iload 5, 2) := by decide +kernel
theorem dX4_taken_42 : decode cX4_taken 42 = .ok (.iload 6, 2) := by decide +kernel
theorem dX4_taken_44 : decode cX4_taken 44 = .ok (.invokevirtual 175, 3) := by decide +kernel
theorem dX4_taken_47 : decode cX4_taken 47 = .ok (.lstore 9, 2) := by decide +kernel
theorem dX4_taken_49 : decode cX4_taken 49 = .ok (.iconst (-1), 1) := by decide +kernel
theorem dX4_taken_50 : decode cX4_taken 50 = .ok (.istore 11, 2) := by decide +kernel
theorem dX4_taken_52 : decode cX4_taken 52 = .ok (.iconst 0, 1) := by decide +kernel
theorem dX4_taken_53 : decode cX4_taken 53 = .ok (.istore 12, 2) := by decide +kernel
theorem dX4_taken_55 : decode cX4_taken 55 = .ok (.iload 12, 2) := by decide +kernel
theorem dX4_taken_57 : decode cX4_taken 57 = .ok (.aload_n 0, 1) := by decide +kernel
theorem dX4_taken_58 : decode cX4_taken 58 = .ok (.getfield 24, 3) := by decide +kernel
theorem dX4_taken_61 : decode cX4_taken 61 = .ok (.invokevirtual 46, 3) := by decide +kernel
theorem dX4_taken_64 : decode cX4_taken 64 = .ok (.if_icmp .ge 73, 3) := by decide +kernel
theorem dX4_taken_67 : decode cX4_taken 67 = .ok (.aload 7, 2) := by decide +kernel
theorem dX4_taken_69 : decode cX4_taken 69 = .ok (.iload 12, 2) := by decide +kernel
theorem dX4_taken_71 : decode cX4_taken 71 = .ok (.invokevirtual 172, 3) := by decide +kernel
theorem dX4_taken_74 : decode cX4_taken 74 = .ok (.istore 13, 2) := by decide +kernel
theorem dX4_taken_76 : decode cX4_taken 76 = .ok (.iload 13, 2) := by decide +kernel
theorem dX4_taken_78 : decode cX4_taken 78 = .ok (.iconst (-1), 1) := by decide +kernel
theorem dX4_taken_79 : decode cX4_taken 79 = .ok (.if_icmp .eq 52, 3) := by decide +kernel
theorem dX4_taken_82 : decode cX4_taken 82 = .ok (.aload_n 0, 1) := by decide +kernel
theorem dX4_taken_83 : decode cX4_taken 83 = .ok (.getfield 24, 3) := by decide +kernel
theorem dX4_taken_86 : decode cX4_taken 86 = .ok (.iload 12, 2) := by decide +kernel
theorem dX4_taken_88 : decode cX4_taken 88 = .ok (.invokevirtual 139, 3) := by decide +kernel
theorem dX4_taken_91 : decode cX4_taken 91 = .ok (.checkcast 91, 3) := by decide +kernel
theorem dX4_taken_94 : decode cX4_taken 94 = .ok (.iload_n 2, 1) := by decide +kernel
theorem dX4_taken_95 : decode cX4_taken 95 = .ok (.iload_n 3, 1) := by decide +kernel
theorem dX4_taken_96 : decode cX4_taken 96 = .ok (.invokevirtual 131, 3) := by decide +kernel
theorem dX4_taken_99 : decode cX4_taken 99 = .ok (.ifCond .eq 32, 3) := by decide +kernel
theorem dX4_taken_102 : decode cX4_taken 102 = .ok (.aload_n 0, 1) := by decide +kernel
theorem dX4_taken_103 : decode cX4_taken 103 = .ok (.iload 13, 2) := by decide +kernel
theorem dX4_taken_105 : decode cX4_taken 105 = .ok (.invokevirtual 67, 3) := by decide +kernel
theorem dX4_taken_108 : decode cX4_taken 108 = .ok (.lload 9, 2) := by decide +kernel
theorem dX4_taken_110 : decode cX4_taken 110 = .ok (.iload 6, 2) := by decide +kernel
theorem dX4_taken_112 : decode cX4_taken 112 = .ok (.invokevirtual 179, 3) := by decide +kernel
theorem dX4_taken_115 : decode cX4_taken 115 = .ok (.ifCond .eq 16, 3) := by decide +kernel
theorem dX4_taken_118 : decode cX4_taken 118 = .ok (.iload 11, 2) := by decide +kernel
theorem dX4_taken_120 : decode cX4_taken 120 = .ok (.iconst (-1), 1) := by decide +kernel
theorem dX4_taken_121 : decode cX4_taken 121 = .ok (.if_icmp .eq 6, 3) := by decide +kernel
theorem dX4_taken_124 : decode cX4_taken 124 = .ok (.bipush (-2), 2) := by decide +kernel
theorem dX4_taken_126 : decode cX4_taken 126 = .ok (.ireturn, 1) := by decide +kernel
theorem dX4_taken_127 : decode cX4_taken 127 = .ok (.iload 12, 2) := by decide +kernel
theorem dX4_taken_129 : decode cX4_taken 129 = .ok (.istore 11, 2) := by decide +kernel
theorem dX4_taken_131 : decode cX4_taken 131 = .ok (.iinc 12 1, 3) := by decide +kernel
theorem dX4_taken_134 : decode cX4_taken 134 = .ok (.goto (-79), 3) := by decide +kernel
theorem dX4_taken_137 : decode cX4_taken 137 = .ok (.iload 11, 2) := by decide +kernel
theorem dX4_taken_139 : decode cX4_taken 139 = .ok (.ireturn, 1) := by decide +kernel
theorem dX4_requireWithin_0 : decode cX4_requireWithin 0 = .ok (.iload_n 0, 1) := by decide +kernel
theorem dX4_requireWithin_1 : decode cX4_requireWithin 1 = .ok (.iload_n 1, 1) := by decide +kernel
theorem dX4_requireWithin_2 : decode cX4_requireWithin 2 = .ok (.if_icmp .lt 8, 3) := by decide +kernel
theorem dX4_requireWithin_5 : decode cX4_requireWithin 5 = .ok (.iload_n 0, 1) := by decide +kernel
theorem dX4_requireWithin_6 : decode cX4_requireWithin 6 = .ok (.iload_n 2, 1) := by decide +kernel
theorem dX4_requireWithin_7 : decode cX4_requireWithin 7 = .ok (.if_icmp .le 13, 3) := by decide +kernel
theorem dX4_requireWithin_10 : decode cX4_requireWithin 10 = .ok (.new 183, 3) := by decide +kernel
theorem dX4_requireWithin_13 : decode cX4_requireWithin 13 = .ok (.dup, 1) := by decide +kernel
theorem dX4_requireWithin_14 : decode cX4_requireWithin 14 = .ok (.ldc 185, 2) := by decide +kernel
theorem dX4_requireWithin_16 : decode cX4_requireWithin 16 = .ok (.invokespecial 187, 3) := by decide +kernel
theorem dX4_requireWithin_19 : decode cX4_requireWithin 19 = .ok (.athrow, 1) := by decide +kernel
theorem dX4_requireWithin_20 : decode cX4_requireWithin 20 = .ok (.return_, 1) := by decide +kernel
theorem dX4_requirePlace_0 : decode cX4_requirePlace 0 = .ok (.iload_n 0, 1) := by decide +kernel
theorem dX4_requirePlace_1 : decode cX4_requirePlace 1 = .ok (.iconst 0, 1) := by decide +kernel
theorem dX4_requirePlace_2 : decode cX4_requirePlace 2 = .ok (.bipush 31, 2) := by decide +kernel
theorem dX4_requirePlace_4 : decode cX4_requirePlace 4 = .ok (.invokestatic 33, 3) := by decide +kernel
theorem dX4_requirePlace_7 : decode cX4_requirePlace 7 = .ok (.iload_n 1, 1) := by decide +kernel
theorem dX4_requirePlace_8 : decode cX4_requirePlace 8 = .ok (.iconst 0, 1) := by decide +kernel
theorem dX4_requirePlace_9 : decode cX4_requirePlace 9 = .ok (.bipush 31, 2) := by decide +kernel
theorem dX4_requirePlace_11 : decode cX4_requirePlace 11 = .ok (.invokestatic 33, 3) := by decide +kernel
theorem dX4_requirePlace_14 : decode cX4_requirePlace 14 = .ok (.return_, 1) := by decide +kernel
theorem dX4_requirePattern_0 : decode cX4_requirePattern 0 = .ok (.iload_n 1, 1) := by decide +kernel
theorem dX4_requirePattern_1 : decode cX4_requirePattern 1 = .ok (.ifCond .lt 14, 3) := by decide +kernel
theorem dX4_requirePattern_4 : decode cX4_requirePattern 4 = .ok (.iload_n 1, 1) := by decide +kernel
theorem dX4_requirePattern_5 : decode cX4_requirePattern 5 = .ok (.aload_n 0, 1) := by decide +kernel
theorem dX4_requirePattern_6 : decode cX4_requirePattern 6 = .ok (.getfield 20, 3) := by decide +kernel
theorem dX4_requirePattern_9 : decode cX4_requirePattern 9 = .ok (.invokevirtual 46, 3) := by decide +kernel
theorem dX4_requirePattern_12 : decode cX4_requirePattern 12 = .ok (.if_icmp .lt 13, 3) := by decide +kernel
theorem dX4_requirePattern_15 : decode cX4_requirePattern 15 = .ok (.new 188, 3) := by decide +kernel
theorem dX4_requirePattern_18 : decode cX4_requirePattern 18 = .ok (.dup, 1) := by decide +kernel
theorem dX4_requirePattern_19 : decode cX4_requirePattern 19 = .ok (.ldc 190, 2) := by decide +kernel
theorem dX4_requirePattern_21 : decode cX4_requirePattern 21 = .ok (.invokespecial 192, 3) := by decide +kernel
theorem dX4_requirePattern_24 : decode cX4_requirePattern 24 = .ok (.athrow, 1) := by decide +kernel
theorem dX4_requirePattern_25 : decode cX4_requirePattern 25 = .ok (.return_, 1) := by decide +kernel
theorem dX4_requireLamp_0 : decode cX4_requireLamp 0 = .ok (.iload_n 1, 1) := by decide +kernel
theorem dX4_requireLamp_1 : decode cX4_requireLamp 1 = .ok (.ifCond .lt 14, 3) := by decide +kernel
theorem dX4_requireLamp_4 : decode cX4_requireLamp 4 = .ok (.iload_n 1, 1) := by decide +kernel
theorem dX4_requireLamp_5 : decode cX4_requireLamp 5 = .ok (.aload_n 0, 1) := by decide +kernel
theorem dX4_requireLamp_6 : decode cX4_requireLamp 6 = .ok (.getfield 24, 3) := by decide +kernel
theorem dX4_requireLamp_9 : decode cX4_requireLamp 9 = .ok (.invokevirtual 46, 3) := by decide +kernel
theorem dX4_requireLamp_12 : decode cX4_requireLamp 12 = .ok (.if_icmp .lt 13, 3) := by decide +kernel
theorem dX4_requireLamp_15 : decode cX4_requireLamp 15 = .ok (.new 188, 3) := by decide +kernel
theorem dX4_requireLamp_18 : decode cX4_requireLamp 18 = .ok (.dup, 1) := by decide +kernel
theorem dX4_requireLamp_19 : decode cX4_requireLamp 19 = .ok (.ldc 193, 2) := by decide +kernel
theorem dX4_requireLamp_21 : decode cX4_requireLamp 21 = .ok (.invokespecial 192, 3) := by decide +kernel
theorem dX4_requireLamp_24 : decode cX4_requireLamp 24 = .ok (.athrow, 1) := by decide +kernel
theorem dX4_requireLamp_25 : decode cX4_requireLamp 25 = .ok (.return_, 1) := by decide +kernel
theorem dX4_patternAt_0 : decode cX4_patternAt 0 = .ok (.aload_n 0, 1) := by decide +kernel
theorem dX4_patternAt_1 : decode cX4_patternAt 1 = .ok (.iload_n 1, 1) := by decide +kernel
theorem dX4_patternAt_2 : decode cX4_patternAt 2 = .ok (.invokevirtual 81, 3) := by decide +kernel
theorem dX4_patternAt_5 : decode cX4_patternAt 5 = .ok (.aload_n 0, 1) := by decide +kernel
theorem dX4_patternAt_6 : decode cX4_patternAt 6 = .ok (.getfield 20, 3) := by decide +kernel
theorem dX4_patternAt_9 : decode cX4_patternAt 9 = .ok (.iload_n 1, 1) := by decide +kernel
theorem dX4_patternAt_10 : decode cX4_patternAt 10 = .ok (.invokevirtual 139, 3) := by decide +kernel
theorem dX4_patternAt_13 : decode cX4_patternAt 13 = .ok (.checkcast 52, 3) := by decide +kernel
theorem dX4_patternAt_16 : decode cX4_patternAt 16 = .ok (.areturn, 1) := by decide +kernel
theorem dX4_lampAt_0 : decode cX4_lampAt 0 = .ok (.aload_n 0, 1) := by decide +kernel
theorem dX4_lampAt_1 : decode cX4_lampAt 1 = .ok (.iload_n 1, 1) := by decide +kernel
theorem dX4_lampAt_2 : decode cX4_lampAt 2 = .ok (.invokevirtual 169, 3) := by decide +kernel
theorem dX4_lampAt_5 : decode cX4_lampAt 5 = .ok (.aload_n 0, 1) := by decide +kernel
theorem dX4_lampAt_6 : decode cX4_lampAt 6 = .ok (.getfield 24, 3) := by decide +kernel
theorem dX4_lampAt_9 : decode cX4_lampAt 9 = .ok (.iload_n 1, 1) := by decide +kernel
theorem dX4_lampAt_10 : decode cX4_lampAt 10 = .ok (.invokevirtual 139, 3) := by decide +kernel
theorem dX4_lampAt_13 : decode cX4_lampAt 13 = .ok (.checkcast 91, 3) := by decide +kernel
theorem dX4_lampAt_16 : decode cX4_lampAt 16 = .ok (.areturn, 1) := by decide +kernel
theorem dX4_chartAt_0 : decode cX4_chartAt 0 = .ok (.iload_n 1, 1) := by decide +kernel
theorem dX4_chartAt_1 : decode cX4_chartAt 1 = .ok (.ifCond .lt 14, 3) := by decide +kernel
theorem dX4_chartAt_4 : decode cX4_chartAt 4 = .ok (.iload_n 1, 1) := by decide +kernel
theorem dX4_chartAt_5 : decode cX4_chartAt 5 = .ok (.aload_n 0, 1) := by decide +kernel
theorem dX4_chartAt_6 : decode cX4_chartAt 6 = .ok (.getfield 30, 3) := by decide +kernel
theorem dX4_chartAt_9 : decode cX4_chartAt 9 = .ok (.invokevirtual 46, 3) := by decide +kernel
theorem dX4_chartAt_12 : decode cX4_chartAt 12 = .ok (.if_icmp .lt 13, 3) := by decide +kernel
theorem dX4_chartAt_15 : decode cX4_chartAt 15 = .ok (.new 188, 3) := by decide +kernel
theorem dX4_chartAt_18 : decode cX4_chartAt 18 = .ok (.dup, 1) := by decide +kernel
theorem dX4_chartAt_19 : decode cX4_chartAt 19 = .ok (.ldc 195, 2) := by decide +kernel
theorem dX4_chartAt_21 : decode cX4_chartAt 21 = .ok (.invokespecial 192, 3) := by decide +kernel
theorem dX4_chartAt_24 : decode cX4_chartAt 24 = .ok (.athrow, 1) := by decide +kernel
theorem dX4_chartAt_25 : decode cX4_chartAt 25 = .ok (.aload_n 0, 1) := by decide +kernel
theorem dX4_chartAt_26 : decode cX4_chartAt 26 = .ok (.getfield 30, 3) := by decide +kernel
theorem dX4_chartAt_29 : decode cX4_chartAt 29 = .ok (.iload_n 1, 1) := by decide +kernel
theorem dX4_chartAt_30 : decode cX4_chartAt 30 = .ok (.invokevirtual 139, 3) := by decide +kernel
theorem dX4_chartAt_33 : decode cX4_chartAt 33 = .ok (.checkcast 149, 3) := by decide +kernel
theorem dX4_chartAt_36 : decode cX4_chartAt 36 = .ok (.areturn, 1) := by decide +kernel
theorem dX4_isLit_0 : decode cX4_isLit 0 = .ok (.aload_n 1, 1) := by decide +kernel
theorem dX4_isLit_1 : decode cX4_isLit 1 = .ok (.getfield 110, 3) := by decide +kernel
theorem dX4_isLit_4 : decode cX4_isLit 4 = .ok (.ifCond .ne 27, 3) := by decide +kernel
theorem dX4_isLit_7 : decode cX4_isLit 7 = .ok (.aload_n 0, 1) := by decide +kernel
theorem dX4_isLit_8 : decode cX4_isLit 8 = .ok (.aload_n 1, 1) := by decide +kernel
theorem dX4_isLit_9 : decode cX4_isLit 9 = .ok (.getfield 104, 3) := by decide +kernel
theorem dX4_isLit_12 : decode cX4_isLit 12 = .ok (.invokevirtual 67, 3) := by decide +kernel
theorem dX4_isLit_15 : decode cX4_isLit 15 = .ok (.iload_n 2, 1) := by decide +kernel
theorem dX4_isLit_16 : decode cX4_isLit 16 = .ok (.aload_n 1, 1) := by decide +kernel
theorem dX4_isLit_17 : decode cX4_isLit 17 = .ok (.getfield 107, 3) := by decide +kernel
theorem dX4_isLit_20 : decode cX4_isLit 20 = .ok (.iadd, 1) := by decide +kernel
theorem dX4_isLit_21 : decode cX4_isLit 21 = .ok (.invokevirtual 197, 3) := by decide +kernel
theorem dX4_isLit_24 : decode cX4_isLit 24 = .ok (.ifCond .eq 7, 3) := by decide +kernel
theorem dX4_isLit_27 : decode cX4_isLit 27 = .ok (.iconst 1, 1) := by decide +kernel
theorem dX4_isLit_28 : decode cX4_isLit 28 = .ok (.goto 4, 3) := by decide +kernel
theorem dX4_isLit_31 : decode cX4_isLit 31 = .ok (.iconst 0, 1) := by decide +kernel
theorem dX4_isLit_32 : decode cX4_isLit 32 = .ok (.ireturn, 1) := by decide +kernel
theorem dX4_clash_0 : decode cX4_clash 0 = .ok (.aload_n 0, 1) := by decide +kernel
theorem dX4_clash_1 : decode cX4_clash 1 = .ok (.aload_n 1, 1) := by decide +kernel
theorem dX4_clash_2 : decode cX4_clash 2 = .ok (.getfield 104, 3) := by decide +kernel
theorem dX4_clash_5 : decode cX4_clash 5 = .ok (.invokevirtual 67, 3) := by decide +kernel
theorem dX4_clash_8 : decode cX4_clash 8 = .ok (.aload_n 0, 1) := by decide +kernel
theorem dX4_clash_9 : decode cX4_clash 9 = .ok (.aload_n 2, 1) := by decide +kernel
theorem dX4_clash_10 : decode cX4_clash 10 = .ok (.getfield 104, 3) := by decide +kernel
theorem dX4_clash_13 : decode cX4_clash 13 = .ok (.invokevirtual 67, 3) := by decide +kernel
theorem dX4_clash_16 : decode cX4_clash 16 = .ok (.invokevirtual 74, 3) := by decide +kernel
theorem dX4_clash_19 : decode cX4_clash 19 = .ok (.ifCond .eq 15, 3) := by decide +kernel
theorem dX4_clash_22 : decode cX4_clash 22 = .ok (.aload_n 1, 1) := by decide +kernel
theorem dX4_clash_23 : decode cX4_clash 23 = .ok (.aload_n 2, 1) := by decide +kernel
theorem dX4_clash_24 : decode cX4_clash 24 = .ok (.invokevirtual 135, 3) := by decide +kernel
theorem dX4_clash_27 : decode cX4_clash 27 = .ok (.ifCond .le 7, 3) := by decide +kernel
theorem dX4_clash_30 : decode cX4_clash 30 = .ok (.iconst 1, 1) := by decide +kernel
theorem dX4_clash_31 : decode cX4_clash 31 = .ok (.goto 4, 3) := by decide +kernel
theorem dX4_clash_34 : decode cX4_clash 34 = .ok (.iconst 0, 1) := by decide +kernel
theorem dX4_clash_35 : decode cX4_clash 35 = .ok (.ireturn, 1) := by decide +kernel
theorem dX4_tell_0 : decode cX4_tell 0 = .ok (.aload_n 0, 1) := by decide +kernel
theorem dX4_tell_1 : decode cX4_tell 1 = .ok (.getfield 27, 3) := by decide +kernel
theorem dX4_tell_4 : decode cX4_tell 4 = .ok (.invokevirtual 46, 3) := by decide +kernel
theorem dX4_tell_7 : decode cX4_tell 7 = .ok (.sipush 512, 3) := by decide +kernel
theorem dX4_tell_10 : decode cX4_tell 10 = .ok (.if_icmp .lt 5, 3) := by decide +kernel
theorem dX4_tell_13 : decode cX4_tell 13 = .ok (.iconst (-1), 1) := by decide +kernel
theorem dX4_tell_14 : decode cX4_tell 14 = .ok (.ireturn, 1) := by decide +kernel
theorem dX4_tell_15 : decode cX4_tell 15 = .ok (.aload_n 0, 1) := by decide +kernel
theorem dX4_tell_16 : decode cX4_tell 16 = .ok (.iload_n 1, 1) := by decide +kernel
theorem dX4_tell_17 : decode cX4_tell 17 = .ok (.invokevirtual 100, 3) := by decide +kernel
theorem dX4_tell_20 : decode cX4_tell 20 = .ok (.astore_n 2, 1) := by decide +kernel
theorem dX4_tell_21 : decode cX4_tell 21 = .ok (.aload_n 0, 1) := by decide +kernel
theorem dX4_tell_22 : decode cX4_tell 22 = .ok (.getfield 27, 3) := by decide +kernel
theorem dX4_tell_25 : decode cX4_tell 25 = .ok (.new 201, 3) := by decide +kernel
theorem dX4_tell_28 : decode cX4_tell 28 = .ok (.dup, 1) := by decide +kernel
theorem dX4_tell_29 : decode cX4_tell 29 = .ok (.iload_n 1, 1) := by decide +kernel
theorem dX4_tell_30 : decode cX4_tell 30 = .ok (.aload_n 2, 1) := by decide +kernel
theorem dX4_tell_31 : decode cX4_tell 31 = .ok (.getfield 110, 3) := by decide +kernel
theorem dX4_tell_34 : decode cX4_tell 34 = .ok (.ifCond .eq 7, 3) := by decide +kernel
theorem dX4_tell_37 : decode cX4_tell 37 = .ok (.iconst (-1), 1) := by decide +kernel
theorem dX4_tell_38 : decode cX4_tell 38 = .ok (.goto 7, 3) := by decide +kernel
theorem dX4_tell_41 : decode cX4_tell 41 = .ok (.aload_n 2, 1) := by decide +kernel
theorem dX4_tell_42 : decode cX4_tell 42 = .ok (.getfield 104, 3) := by decide +kernel
theorem dX4_tell_45 : decode cX4_tell 45 = .ok (.invokespecial 203, 3) := by decide +kernel
theorem dX4_tell_48 : decode cX4_tell 48 = .ok (.invokevirtual 63, 3) := by decide +kernel
theorem dX4_tell_51 : decode cX4_tell 51 = .ok (.pop, 1) := by decide +kernel
theorem dX4_tell_52 : decode cX4_tell 52 = .ok (.aload_n 0, 1) := by decide +kernel
theorem dX4_tell_53 : decode cX4_tell 53 = .ok (.getfield 27, 3) := by decide +kernel
theorem dX4_tell_56 : decode cX4_tell 56 = .ok (.invokevirtual 46, 3) := by decide +kernel
theorem dX4_tell_59 : decode cX4_tell 59 = .ok (.iconst 1, 1) := by decide +kernel
theorem dX4_tell_60 : decode cX4_tell 60 = .ok (.isub, 1) := by decide +kernel
theorem dX4_tell_61 : decode cX4_tell 61 = .ok (.ireturn, 1) := by decide +kernel
theorem dX4_lackOf_0 : decode cX4_lackOf 0 = .ok (.aload_n 0, 1) := by decide +kernel
theorem dX4_lackOf_1 : decode cX4_lackOf 1 = .ok (.getfield 27, 3) := by decide +kernel
theorem dX4_lackOf_4 : decode cX4_lackOf 4 = .ok (.invokevirtual 46, 3) := by decide +kernel
theorem dX4_lackOf_7 : decode cX4_lackOf 7 = .ok (.aload_n 1, 1) := by decide +kernel
theorem dX4_lackOf_8 : decode cX4_lackOf 8 = .ok (.getfield 205, 3) := by decide +kernel
theorem dX4_lackOf_11 : decode cX4_lackOf 11 = .ok (.isub, 1) := by decide +kernel
theorem dX4_lackOf_12 : decode cX4_lackOf 12 = .ok (.ireturn, 1) := by decide +kernel
theorem dX4_putIn_0 : decode cX4_putIn 0 = .ok (.aload_n 1, 1) := by decide +kernel
theorem dX4_putIn_1 : decode cX4_putIn 1 = .ok (.getfield 205, 3) := by decide +kernel
theorem dX4_putIn_4 : decode cX4_putIn 4 = .ok (.iload_n 2, 1) := by decide +kernel
theorem dX4_putIn_5 : decode cX4_putIn 5 = .ok (.iadd, 1) := by decide +kernel
theorem dX4_putIn_6 : decode cX4_putIn 6 = .ok (.aload_n 0, 1) := by decide +kernel
theorem dX4_putIn_7 : decode cX4_putIn 7 = .ok (.getfield 27, 3) := by decide +kernel
theorem dX4_putIn_10 : decode cX4_putIn 10 = .ok (.invokevirtual 46, 3) := by decide +kernel
theorem dX4_putIn_13 : decode cX4_putIn 13 = .ok (.invokestatic 164, 3) := by decide +kernel
theorem dX4_putIn_16 : decode cX4_putIn 16 = .ok (.istore_n 3, 1) := by decide +kernel
theorem dX4_putIn_17 : decode cX4_putIn 17 = .ok (.aload_n 1, 1) := by decide +kernel
theorem dX4_putIn_18 : decode cX4_putIn 18 = .ok (.getfield 205, 3) := by decide +kernel
theorem dX4_putIn_21 : decode cX4_putIn 21 = .ok (.istore 4, 2) := by decide +kernel
theorem dX4_putIn_23 : decode cX4_putIn 23 = .ok (.iload 4, 2) := by decide +kernel
theorem dX4_putIn_25 : decode cX4_putIn 25 = .ok (.iload_n 3, 1) := by decide +kernel
theorem dX4_putIn_26 : decode cX4_putIn 26 = .ok (.if_icmp .ge 25, 3) := by decide +kernel
theorem dX4_putIn_29 : decode cX4_putIn 29 = .ok (.aload_n 1, 1) := by decide +kernel
theorem dX4_putIn_30 : decode cX4_putIn 30 = .ok (.aload_n 0, 1) := by decide +kernel
theorem dX4_putIn_31 : decode cX4_putIn 31 = .ok (.getfield 27, 3) := by decide +kernel
theorem dX4_putIn_34 : decode cX4_putIn 34 = .ok (.iload 4, 2) := by decide +kernel
theorem dX4_putIn_36 : decode cX4_putIn 36 = .ok (.invokevirtual 139, 3) := by decide +kernel
theorem dX4_putIn_39 : decode cX4_putIn 39 = .ok (.checkcast 201, 3) := by decide +kernel
theorem dX4_putIn_42 : decode cX4_putIn 42 = .ok (.invokevirtual 208, 3) := by decide +kernel
theorem dX4_putIn_45 : decode cX4_putIn 45 = .ok (.iinc 4 1, 3) := by decide +kernel
theorem dX4_putIn_48 : decode cX4_putIn 48 = .ok (.goto (-25), 3) := by decide +kernel
theorem dX4_putIn_51 : decode cX4_putIn 51 = .ok (.return_, 1) := by decide +kernel
theorem dX4_lookAt_0 : decode cX4_lookAt 0 = .ok (.lconst 0, 1) := by decide +kernel
theorem dX4_lookAt_1 : decode cX4_lookAt 1 = .ok (.lstore 4, 2) := by decide +kernel
theorem dX4_lookAt_3 : decode cX4_lookAt 3 = .ok (.iconst 0, 1) := by decide +kernel
theorem dX4_lookAt_4 : decode cX4_lookAt 4 = .ok (.istore 6, 2) := by decide +kernel
theorem dX4_lookAt_6 : decode cX4_lookAt 6 = .ok (.iload 6, 2) := by decide +kernel
theorem dX4_lookAt_8 : decode cX4_lookAt 8 = .ok (.iload_n 3, 1) := by decide +kernel
theorem dX4_lookAt_9 : decode cX4_lookAt 9 = .ok (.if_icmp .ge 30, 3) := by decide +kernel
theorem dX4_lookAt_12 : decode cX4_lookAt 12 = .ok (.aload_n 0, 1) := by decide +kernel
theorem dX4_lookAt_13 : decode cX4_lookAt 13 = .ok (.aload_n 1, 1) := by decide +kernel
theorem dX4_lookAt_14 : decode cX4_lookAt 14 = .ok (.iload_n 2, 1) := by decide +kernel
theorem dX4_lookAt_15 : decode cX4_lookAt 15 = .ok (.iload 6, 2) := by decide +kernel
theorem dX4_lookAt_17 : decode cX4_lookAt 17 = .ok (.iadd, 1) := by decide +kernel
theorem dX4_lookAt_18 : decode cX4_lookAt 18 = .ok (.invokevirtual 117, 3) := by decide +kernel
theorem dX4_lookAt_21 : decode cX4_lookAt 21 = .ok (.ifCond .eq 12, 3) := by decide +kernel
theorem dX4_lookAt_24 : decode cX4_lookAt 24 = .ok (.lload 4, 2) := by decide +kernel
theorem dX4_lookAt_26 : decode cX4_lookAt 26 = .ok (.lconst 1, 1) := by decide +kernel
theorem dX4_lookAt_27 : decode cX4_lookAt 27 = .ok (.iload 6, 2) := by decide +kernel
theorem dX4_lookAt_29 : decode cX4_lookAt 29 = .ok (.lshl, 1) := by decide +kernel
theorem dX4_lookAt_30 : decode cX4_lookAt 30 = .ok (.lor, 1) := by decide +kernel
theorem dX4_lookAt_31 : decode cX4_lookAt 31 = .ok (.lstore 4, 2) := by decide +kernel
theorem dX4_lookAt_33 : decode cX4_lookAt 33 = .ok (.iinc 6 1, 3) := by decide +kernel
theorem dX4_lookAt_36 : decode cX4_lookAt 36 = .ok (.goto (-30), 3) := by decide +kernel
theorem dX4_lookAt_39 : decode cX4_lookAt 39 = .ok (.lload 4, 2) := by decide +kernel
theorem dX4_lookAt_41 : decode cX4_lookAt 41 = .ok (.lreturn, 1) := by decide +kernel
theorem dJ6_bitCount_0f7a4_0 : decode cJ6_bitCount_0f7a4 0 = .ok (.iload_n 0, 1) := by decide +kernel
theorem dJ6_bitCount_0f7a4_1 : decode cJ6_bitCount_0f7a4 1 = .ok (.iload_n 0, 1) := by decide +kernel
theorem dJ6_bitCount_0f7a4_2 : decode cJ6_bitCount_0f7a4 2 = .ok (.iconst 1, 1) := by decide +kernel
theorem dJ6_bitCount_0f7a4_3 : decode cJ6_bitCount_0f7a4 3 = .ok (.iushr, 1) := by decide +kernel
theorem dJ6_bitCount_0f7a4_4 : decode cJ6_bitCount_0f7a4 4 = .ok (.ldc_w 265, 3) := by decide +kernel
theorem dJ6_bitCount_0f7a4_7 : decode cJ6_bitCount_0f7a4 7 = .ok (.iand, 1) := by decide +kernel
theorem dJ6_bitCount_0f7a4_8 : decode cJ6_bitCount_0f7a4 8 = .ok (.isub, 1) := by decide +kernel
theorem dJ6_bitCount_0f7a4_9 : decode cJ6_bitCount_0f7a4 9 = .ok (.istore_n 0, 1) := by decide +kernel
theorem dJ6_bitCount_0f7a4_10 : decode cJ6_bitCount_0f7a4 10 = .ok (.iload_n 0, 1) := by decide +kernel
theorem dJ6_bitCount_0f7a4_11 : decode cJ6_bitCount_0f7a4 11 = .ok (.ldc_w 266, 3) := by decide +kernel
theorem dJ6_bitCount_0f7a4_14 : decode cJ6_bitCount_0f7a4 14 = .ok (.iand, 1) := by decide +kernel
theorem dJ6_bitCount_0f7a4_15 : decode cJ6_bitCount_0f7a4 15 = .ok (.iload_n 0, 1) := by decide +kernel
theorem dJ6_bitCount_0f7a4_16 : decode cJ6_bitCount_0f7a4 16 = .ok (.iconst 2, 1) := by decide +kernel
theorem dJ6_bitCount_0f7a4_17 : decode cJ6_bitCount_0f7a4 17 = .ok (.iushr, 1) := by decide +kernel
theorem dJ6_bitCount_0f7a4_18 : decode cJ6_bitCount_0f7a4 18 = .ok (.ldc_w 266, 3) := by decide +kernel
theorem dJ6_bitCount_0f7a4_21 : decode cJ6_bitCount_0f7a4 21 = .ok (.iand, 1) := by decide +kernel
theorem dJ6_bitCount_0f7a4_22 : decode cJ6_bitCount_0f7a4 22 = .ok (.iadd, 1) := by decide +kernel
theorem dJ6_bitCount_0f7a4_23 : decode cJ6_bitCount_0f7a4 23 = .ok (.istore_n 0, 1) := by decide +kernel
theorem dJ6_bitCount_0f7a4_24 : decode cJ6_bitCount_0f7a4 24 = .ok (.iload_n 0, 1) := by decide +kernel
theorem dJ6_bitCount_0f7a4_25 : decode cJ6_bitCount_0f7a4 25 = .ok (.iload_n 0, 1) := by decide +kernel
theorem dJ6_bitCount_0f7a4_26 : decode cJ6_bitCount_0f7a4 26 = .ok (.iconst 4, 1) := by decide +kernel
theorem dJ6_bitCount_0f7a4_27 : decode cJ6_bitCount_0f7a4 27 = .ok (.iushr, 1) := by decide +kernel
theorem dJ6_bitCount_0f7a4_28 : decode cJ6_bitCount_0f7a4 28 = .ok (.iadd, 1) := by decide +kernel
theorem dJ6_bitCount_0f7a4_29 : decode cJ6_bitCount_0f7a4 29 = .ok (.ldc_w 267, 3) := by decide +kernel
theorem dJ6_bitCount_0f7a4_32 : decode cJ6_bitCount_0f7a4 32 = .ok (.iand, 1) := by decide +kernel
theorem dJ6_bitCount_0f7a4_33 : decode cJ6_bitCount_0f7a4 33 = .ok (.istore_n 0, 1) := by decide +kernel
theorem dJ6_bitCount_0f7a4_34 : decode cJ6_bitCount_0f7a4 34 = .ok (.iload_n 0, 1) := by decide +kernel
theorem dJ6_bitCount_0f7a4_35 : decode cJ6_bitCount_0f7a4 35 = .ok (.iload_n 0, 1) := by decide +kernel
theorem dJ6_bitCount_0f7a4_36 : decode cJ6_bitCount_0f7a4 36 = .ok (.bipush 8, 2) := by decide +kernel
theorem dJ6_bitCount_0f7a4_38 : decode cJ6_bitCount_0f7a4 38 = .ok (.iushr, 1) := by decide +kernel
theorem dJ6_bitCount_0f7a4_39 : decode cJ6_bitCount_0f7a4 39 = .ok (.iadd, 1) := by decide +kernel
theorem dJ6_bitCount_0f7a4_40 : decode cJ6_bitCount_0f7a4 40 = .ok (.istore_n 0, 1) := by decide +kernel
theorem dJ6_bitCount_0f7a4_41 : decode cJ6_bitCount_0f7a4 41 = .ok (.iload_n 0, 1) := by decide +kernel
theorem dJ6_bitCount_0f7a4_42 : decode cJ6_bitCount_0f7a4 42 = .ok (.iload_n 0, 1) := by decide +kernel
theorem dJ6_bitCount_0f7a4_43 : decode cJ6_bitCount_0f7a4 43 = .ok (.bipush 16, 2) := by decide +kernel
theorem dJ6_bitCount_0f7a4_45 : decode cJ6_bitCount_0f7a4 45 = .ok (.iushr, 1) := by decide +kernel
theorem dJ6_bitCount_0f7a4_46 : decode cJ6_bitCount_0f7a4 46 = .ok (.iadd, 1) := by decide +kernel
theorem dJ6_bitCount_0f7a4_47 : decode cJ6_bitCount_0f7a4 47 = .ok (.istore_n 0, 1) := by decide +kernel
theorem dJ6_bitCount_0f7a4_48 : decode cJ6_bitCount_0f7a4 48 = .ok (.iload_n 0, 1) := by decide +kernel
theorem dJ6_bitCount_0f7a4_49 : decode cJ6_bitCount_0f7a4 49 = .ok (.bipush 63, 2) := by decide +kernel
theorem dJ6_bitCount_0f7a4_51 : decode cJ6_bitCount_0f7a4 51 = .ok (.iand, 1) := by decide +kernel
theorem dJ6_bitCount_0f7a4_52 : decode cJ6_bitCount_0f7a4 52 = .ok (.ireturn, 1) := by decide +kernel
theorem dJ9_abs_0f7a4_0 : decode cJ9_abs_0f7a4 0 = .ok (.iload_n 0, 1) := by decide +kernel
theorem dJ9_abs_0f7a4_1 : decode cJ9_abs_0f7a4 1 = .ok (.ifCond .ge 8, 3) := by decide +kernel
theorem dJ9_abs_0f7a4_4 : decode cJ9_abs_0f7a4 4 = .ok (.iload_n 0, 1) := by decide +kernel
theorem dJ9_abs_0f7a4_5 : decode cJ9_abs_0f7a4 5 = .ok (.ineg, 1) := by decide +kernel
theorem dJ9_abs_0f7a4_6 : decode cJ9_abs_0f7a4 6 = .ok (.goto 4, 3) := by decide +kernel
theorem dJ9_abs_0f7a4_9 : decode cJ9_abs_0f7a4 9 = .ok (.iload_n 0, 1) := by decide +kernel
theorem dJ9_abs_0f7a4_10 : decode cJ9_abs_0f7a4 10 = .ok (.ireturn, 1) := by decide +kernel
theorem dJ9_max_7cf53_0 : decode cJ9_max_7cf53 0 = .ok (.iload_n 0, 1) := by decide +kernel
theorem dJ9_max_7cf53_1 : decode cJ9_max_7cf53 1 = .ok (.iload_n 1, 1) := by decide +kernel
theorem dJ9_max_7cf53_2 : decode cJ9_max_7cf53 2 = .ok (.if_icmp .lt 7, 3) := by decide +kernel
theorem dJ9_max_7cf53_5 : decode cJ9_max_7cf53 5 = .ok (.iload_n 0, 1) := by decide +kernel
theorem dJ9_max_7cf53_6 : decode cJ9_max_7cf53 6 = .ok (.goto 4, 3) := by decide +kernel
theorem dJ9_max_7cf53_9 : decode cJ9_max_7cf53 9 = .ok (.iload_n 1, 1) := by decide +kernel
theorem dJ9_max_7cf53_10 : decode cJ9_max_7cf53 10 = .ok (.ireturn, 1) := by decide +kernel
theorem dJ9_min_7cf53_0 : decode cJ9_min_7cf53 0 = .ok (.iload_n 0, 1) := by decide +kernel
theorem dJ9_min_7cf53_1 : decode cJ9_min_7cf53 1 = .ok (.iload_n 1, 1) := by decide +kernel
theorem dJ9_min_7cf53_2 : decode cJ9_min_7cf53 2 = .ok (.if_icmp .gt 7, 3) := by decide +kernel
theorem dJ9_min_7cf53_5 : decode cJ9_min_7cf53 5 = .ok (.iload_n 0, 1) := by decide +kernel
theorem dJ9_min_7cf53_6 : decode cJ9_min_7cf53 6 = .ok (.goto 4, 3) := by decide +kernel
theorem dJ9_min_7cf53_9 : decode cJ9_min_7cf53 9 = .ok (.iload_n 1, 1) := by decide +kernel
theorem dJ9_min_7cf53_10 : decode cJ9_min_7cf53 10 = .ok (.ireturn, 1) := by decide +kernel
theorem dJxa1e45_init_da8c8_0 : decode cJxa1e45_init_da8c8 0 = .ok (.aload_n 0, 1) := by decide +kernel
theorem dJxa1e45_init_da8c8_1 : decode cJxa1e45_init_da8c8 1 = .ok (.invokespecial 1, 3) := by decide +kernel
theorem dJxa1e45_init_da8c8_4 : decode cJxa1e45_init_da8c8 4 = .ok (.return_, 1) := by decide +kernel
theorem dJxc12de_init_da8c8_0 : decode cJxc12de_init_da8c8 0 = .ok (.aload_n 0, 1) := by decide +kernel
theorem dJxc12de_init_da8c8_1 : decode cJxc12de_init_da8c8 1 = .ok (.invokespecial 1, 3) := by decide +kernel
theorem dJxc12de_init_da8c8_4 : decode cJxc12de_init_da8c8 4 = .ok (.aload_n 0, 1) := by decide +kernel
theorem dJxc12de_init_da8c8_5 : decode cJxc12de_init_da8c8 5 = .ok (.iconst 0, 1) := by decide +kernel
theorem dJxc12de_init_da8c8_6 : decode cJxc12de_init_da8c8 6 = .ok (.putfield 7, 3) := by decide +kernel
theorem dJxc12de_init_da8c8_9 : decode cJxc12de_init_da8c8 9 = .ok (.return_, 1) := by decide +kernel
theorem dJx4a65c_init_da8c8_0 : decode cJx4a65c_init_da8c8 0 = .ok (.aload_n 0, 1) := by decide +kernel
theorem dJx4a65c_init_da8c8_1 : decode cJx4a65c_init_da8c8 1 = .ok (.invokespecial 1, 3) := by decide +kernel
theorem dJx4a65c_init_da8c8_4 : decode cJx4a65c_init_da8c8 4 = .ok (.aload_n 0, 1) := by decide +kernel
theorem dJx4a65c_init_da8c8_5 : decode cJx4a65c_init_da8c8 5 = .ok (.getstatic 39, 3) := by decide +kernel
theorem dJx4a65c_init_da8c8_8 : decode cJx4a65c_init_da8c8 8 = .ok (.putfield 9, 3) := by decide +kernel
theorem dJx4a65c_init_da8c8_11 : decode cJx4a65c_init_da8c8 11 = .ok (.return_, 1) := by decide +kernel
theorem dJx4a65c_grow_92f84_0 : decode cJx4a65c_grow_92f84 0 = .ok (.aload_n 0, 1) := by decide +kernel
theorem dJx4a65c_grow_92f84_1 : decode cJx4a65c_grow_92f84 1 = .ok (.getfield 9, 3) := by decide +kernel
theorem dJx4a65c_grow_92f84_4 : decode cJx4a65c_grow_92f84 4 = .ok (.arraylength, 1) := by decide +kernel
theorem dJx4a65c_grow_92f84_5 : decode cJx4a65c_grow_92f84 5 = .ok (.istore_n 2, 1) := by decide +kernel
theorem dJx4a65c_grow_92f84_6 : decode cJx4a65c_grow_92f84 6 = .ok (.iload_n 2, 1) := by decide +kernel
theorem dJx4a65c_grow_92f84_7 : decode cJx4a65c_grow_92f84 7 = .ok (.ifCond .gt 13, 3) := by decide +kernel
theorem dJx4a65c_grow_92f84_10 : decode cJx4a65c_grow_92f84 10 = .ok (.aload_n 0, 1) := by decide +kernel
theorem dJx4a65c_grow_92f84_11 : decode cJx4a65c_grow_92f84 11 = .ok (.getfield 9, 3) := by decide +kernel
theorem dJx4a65c_grow_92f84_14 : decode cJx4a65c_grow_92f84 14 = .ok (.getstatic 39, 3) := by decide +kernel
theorem dJx4a65c_grow_92f84_17 : decode cJx4a65c_grow_92f84 17 = .ok (.if_acmp .eq 28, 3) := by decide +kernel
theorem dJx4a65c_grow_92f84_20 : decode cJx4a65c_grow_92f84 20 = .ok (.iload_n 2, 1) := by decide +kernel
theorem dJx4a65c_grow_92f84_21 : decode cJx4a65c_grow_92f84 21 = .ok (.iload_n 1, 1) := by decide +kernel
theorem dJx4a65c_grow_92f84_22 : decode cJx4a65c_grow_92f84 22 = .ok (.iload_n 2, 1) := by decide +kernel
theorem dJx4a65c_grow_92f84_23 : decode cJx4a65c_grow_92f84 23 = .ok (.isub, 1) := by decide +kernel
theorem dJx4a65c_grow_92f84_24 : decode cJx4a65c_grow_92f84 24 = .ok (.iload_n 2, 1) := by decide +kernel
theorem dJx4a65c_grow_92f84_25 : decode cJx4a65c_grow_92f84 25 = .ok (.iconst 1, 1) := by decide +kernel
theorem dJx4a65c_grow_92f84_26 : decode cJx4a65c_grow_92f84 26 = .ok (.ishr, 1) := by decide +kernel
theorem dJx4a65c_grow_92f84_27 : decode cJx4a65c_grow_92f84 27 = .ok (.invokestatic 73, 3) := by decide +kernel
theorem dJx4a65c_grow_92f84_30 : decode cJx4a65c_grow_92f84 30 = .ok (.istore_n 3, 1) := by decide +kernel
theorem dJx4a65c_grow_92f84_31 : decode cJx4a65c_grow_92f84 31 = .ok (.aload_n 0, 1) := by decide +kernel
theorem dJx4a65c_grow_92f84_32 : decode cJx4a65c_grow_92f84 32 = .ok (.aload_n 0, 1) := by decide +kernel
theorem dJx4a65c_grow_92f84_33 : decode cJx4a65c_grow_92f84 33 = .ok (.getfield 9, 3) := by decide +kernel
theorem dJx4a65c_grow_92f84_36 : decode cJx4a65c_grow_92f84 36 = .ok (.iload_n 3, 1) := by decide +kernel
theorem dJx4a65c_grow_92f84_37 : decode cJx4a65c_grow_92f84 37 = .ok (.invokestatic 66, 3) := by decide +kernel
theorem dJx4a65c_grow_92f84_40 : decode cJx4a65c_grow_92f84 40 = .ok (.dup_x1, 1) := by decide +kernel
theorem dJx4a65c_grow_92f84_41 : decode cJx4a65c_grow_92f84 41 = .ok (.putfield 9, 3) := by decide +kernel
theorem dJx4a65c_grow_92f84_44 : decode cJx4a65c_grow_92f84 44 = .ok (.areturn, 1) := by decide +kernel
theorem dJx4a65c_grow_92f84_45 : decode cJx4a65c_grow_92f84 45 = .ok (.aload_n 0, 1) := by decide +kernel
theorem dJx4a65c_grow_92f84_46 : decode cJx4a65c_grow_92f84 46 = .ok (.bipush 10, 2) := by decide +kernel
theorem dJx4a65c_grow_92f84_48 : decode cJx4a65c_grow_92f84 48 = .ok (.iload_n 1, 1) := by decide +kernel
theorem dJx4a65c_grow_92f84_49 : decode cJx4a65c_grow_92f84 49 = .ok (.invokestatic 79, 3) := by decide +kernel
theorem dJx4a65c_grow_92f84_52 : decode cJx4a65c_grow_92f84 52 = .ok (.anewarray 7, 3) := by decide +kernel
theorem dJx4a65c_grow_92f84_55 : decode cJx4a65c_grow_92f84 55 = .ok (.dup_x1, 1) := by decide +kernel
theorem dJx4a65c_grow_92f84_56 : decode cJx4a65c_grow_92f84 56 = .ok (.putfield 9, 3) := by decide +kernel
theorem dJx4a65c_grow_92f84_59 : decode cJx4a65c_grow_92f84 59 = .ok (.areturn, 1) := by decide +kernel
theorem dJx4a65c_grow_d5877_0 : decode cJx4a65c_grow_d5877 0 = .ok (.aload_n 0, 1) := by decide +kernel
theorem dJx4a65c_grow_d5877_1 : decode cJx4a65c_grow_d5877 1 = .ok (.aload_n 0, 1) := by decide +kernel
theorem dJx4a65c_grow_d5877_2 : decode cJx4a65c_grow_d5877 2 = .ok (.getfield 48, 3) := by decide +kernel
theorem dJx4a65c_grow_d5877_5 : decode cJx4a65c_grow_d5877 5 = .ok (.iconst 1, 1) := by decide +kernel
theorem dJx4a65c_grow_d5877_6 : decode cJx4a65c_grow_d5877 6 = .ok (.iadd, 1) := by decide +kernel
theorem dJx4a65c_grow_d5877_7 : decode cJx4a65c_grow_d5877 7 = .ok (.invokevirtual 69, 3) := by decide +kernel
theorem dJx4a65c_grow_d5877_10 : decode cJx4a65c_grow_d5877 10 = .ok (.areturn, 1) := by decide +kernel
theorem dJx4a65c_size_8abf5_0 : decode cJx4a65c_size_8abf5 0 = .ok (.aload_n 0, 1) := by decide +kernel
theorem dJx4a65c_size_8abf5_1 : decode cJx4a65c_size_8abf5 1 = .ok (.getfield 48, 3) := by decide +kernel
theorem dJx4a65c_size_8abf5_4 : decode cJx4a65c_size_8abf5 4 = .ok (.ireturn, 1) := by decide +kernel
theorem dJx4a65c_elementData_915e3_0 : decode cJx4a65c_elementData_915e3 0 = .ok (.aload_n 0, 1) := by decide +kernel
theorem dJx4a65c_elementData_915e3_1 : decode cJx4a65c_elementData_915e3 1 = .ok (.getfield 9, 3) := by decide +kernel
theorem dJx4a65c_elementData_915e3_4 : decode cJx4a65c_elementData_915e3 4 = .ok (.iload_n 1, 1) := by decide +kernel
theorem dJx4a65c_elementData_915e3_5 : decode cJx4a65c_elementData_915e3 5 = .ok (.aaload, 1) := by decide +kernel
theorem dJx4a65c_elementData_915e3_6 : decode cJx4a65c_elementData_915e3 6 = .ok (.areturn, 1) := by decide +kernel
theorem dJx4a65c_get_915e3_0 : decode cJx4a65c_get_915e3 0 = .ok (.iload_n 1, 1) := by decide +kernel
theorem dJx4a65c_get_915e3_1 : decode cJx4a65c_get_915e3 1 = .ok (.aload_n 0, 1) := by decide +kernel
theorem dJx4a65c_get_915e3_2 : decode cJx4a65c_get_915e3 2 = .ok (.getfield 48, 3) := by decide +kernel
theorem dJx4a65c_get_915e3_5 : decode cJx4a65c_get_915e3 5 = .ok (.invokestatic 118, 3) := by decide +kernel
theorem dJx4a65c_get_915e3_8 : decode cJx4a65c_get_915e3 8 = .ok (.pop, 1) := by decide +kernel
theorem dJx4a65c_get_915e3_9 : decode cJx4a65c_get_915e3 9 = .ok (.aload_n 0, 1) := by decide +kernel
theorem dJx4a65c_get_915e3_10 : decode cJx4a65c_get_915e3 10 = .ok (.iload_n 1, 1) := by decide +kernel
theorem dJx4a65c_get_915e3_11 : decode cJx4a65c_get_915e3 11 = .ok (.invokevirtual 123, 3) := by decide +kernel
theorem dJx4a65c_get_915e3_14 : decode cJx4a65c_get_915e3 14 = .ok (.areturn, 1) := by decide +kernel
theorem dJx4a65c_add_72be8_0 : decode cJx4a65c_add_72be8 0 = .ok (.iload_n 3, 1) := by decide +kernel
theorem dJx4a65c_add_72be8_1 : decode cJx4a65c_add_72be8 1 = .ok (.aload_n 2, 1) := by decide +kernel
theorem dJx4a65c_add_72be8_2 : decode cJx4a65c_add_72be8 2 = .ok (.arraylength, 1) := by decide +kernel
theorem dJx4a65c_add_72be8_3 : decode cJx4a65c_add_72be8 3 = .ok (.if_icmp .ne 8, 3) := by decide +kernel
theorem dJx4a65c_add_72be8_6 : decode cJx4a65c_add_72be8 6 = .ok (.aload_n 0, 1) := by decide +kernel
theorem dJx4a65c_add_72be8_7 : decode cJx4a65c_add_72be8 7 = .ok (.invokevirtual 129, 3) := by decide +kernel
theorem dJx4a65c_add_72be8_10 : decode cJx4a65c_add_72be8 10 = .ok (.astore_n 2, 1) := by decide +kernel
theorem dJx4a65c_add_72be8_11 : decode cJx4a65c_add_72be8 11 = .ok (.aload_n 2, 1) := by decide +kernel
theorem dJx4a65c_add_72be8_12 : decode cJx4a65c_add_72be8 12 = .ok (.iload_n 3, 1) := by decide +kernel
theorem dJx4a65c_add_72be8_13 : decode cJx4a65c_add_72be8 13 = .ok (.aload_n 1, 1) := by decide +kernel
theorem dJx4a65c_add_72be8_14 : decode cJx4a65c_add_72be8 14 = .ok (.aastore, 1) := by decide +kernel
theorem dJx4a65c_add_72be8_15 : decode cJx4a65c_add_72be8 15 = .ok (.aload_n 0, 1) := by decide +kernel
theorem dJx4a65c_add_72be8_16 : decode cJx4a65c_add_72be8 16 = .ok (.iload_n 3, 1) := by decide +kernel
theorem dJx4a65c_add_72be8_17 : decode cJx4a65c_add_72be8 17 = .ok (.iconst 1, 1) := by decide +kernel
theorem dJx4a65c_add_72be8_18 : decode cJx4a65c_add_72be8 18 = .ok (.iadd, 1) := by decide +kernel
theorem dJx4a65c_add_72be8_19 : decode cJx4a65c_add_72be8 19 = .ok (.putfield 48, 3) := by decide +kernel
theorem dJx4a65c_add_72be8_22 : decode cJx4a65c_add_72be8 22 = .ok (.return_, 1) := by decide +kernel
theorem dJx4a65c_add_9ea2d_0 : decode cJx4a65c_add_9ea2d 0 = .ok (.aload_n 0, 1) := by decide +kernel
theorem dJx4a65c_add_9ea2d_1 : decode cJx4a65c_add_9ea2d 1 = .ok (.dup, 1) := by decide +kernel
theorem dJx4a65c_add_9ea2d_2 : decode cJx4a65c_add_9ea2d 2 = .ok (.getfield 63, 3) := by decide +kernel
theorem dJx4a65c_add_9ea2d_5 : decode cJx4a65c_add_9ea2d 5 = .ok (.iconst 1, 1) := by decide +kernel
theorem dJx4a65c_add_9ea2d_6 : decode cJx4a65c_add_9ea2d 6 = .ok (.iadd, 1) := by decide +kernel
theorem dJx4a65c_add_9ea2d_7 : decode cJx4a65c_add_9ea2d 7 = .ok (.putfield 63, 3) := by decide +kernel
theorem dJx4a65c_add_9ea2d_10 : decode cJx4a65c_add_9ea2d 10 = .ok (.aload_n 0, 1) := by decide +kernel
theorem dJx4a65c_add_9ea2d_11 : decode cJx4a65c_add_9ea2d 11 = .ok (.aload_n 1, 1) := by decide +kernel
theorem dJx4a65c_add_9ea2d_12 : decode cJx4a65c_add_9ea2d 12 = .ok (.aload_n 0, 1) := by decide +kernel
theorem dJx4a65c_add_9ea2d_13 : decode cJx4a65c_add_9ea2d 13 = .ok (.getfield 9, 3) := by decide +kernel
theorem dJx4a65c_add_9ea2d_16 : decode cJx4a65c_add_9ea2d 16 = .ok (.aload_n 0, 1) := by decide +kernel
theorem dJx4a65c_add_9ea2d_17 : decode cJx4a65c_add_9ea2d 17 = .ok (.getfield 48, 3) := by decide +kernel
theorem dJx4a65c_add_9ea2d_20 : decode cJx4a65c_add_9ea2d 20 = .ok (.invokevirtual 131, 3) := by decide +kernel
theorem dJx4a65c_add_9ea2d_23 : decode cJx4a65c_add_9ea2d 23 = .ok (.iconst 1, 1) := by decide +kernel
theorem dJx4a65c_add_9ea2d_24 : decode cJx4a65c_add_9ea2d 24 = .ok (.ireturn, 1) := by decide +kernel
theorem dJ7_fill_53178_0 : decode cJ7_fill_53178 0 = .ok (.iconst 0, 1) := by decide +kernel
theorem dJ7_fill_53178_1 : decode cJ7_fill_53178 1 = .ok (.istore_n 2, 1) := by decide +kernel
theorem dJ7_fill_53178_2 : decode cJ7_fill_53178 2 = .ok (.aload_n 0, 1) := by decide +kernel
theorem dJ7_fill_53178_3 : decode cJ7_fill_53178 3 = .ok (.arraylength, 1) := by decide +kernel
theorem dJ7_fill_53178_4 : decode cJ7_fill_53178 4 = .ok (.istore_n 3, 1) := by decide +kernel
theorem dJ7_fill_53178_5 : decode cJ7_fill_53178 5 = .ok (.iload_n 2, 1) := by decide +kernel
theorem dJ7_fill_53178_6 : decode cJ7_fill_53178 6 = .ok (.iload_n 3, 1) := by decide +kernel
theorem dJ7_fill_53178_7 : decode cJ7_fill_53178 7 = .ok (.if_icmp .ge 13, 3) := by decide +kernel
theorem dJ7_fill_53178_10 : decode cJ7_fill_53178 10 = .ok (.aload_n 0, 1) := by decide +kernel
theorem dJ7_fill_53178_11 : decode cJ7_fill_53178 11 = .ok (.iload_n 2, 1) := by decide +kernel
theorem dJ7_fill_53178_12 : decode cJ7_fill_53178 12 = .ok (.iload_n 1, 1) := by decide +kernel
theorem dJ7_fill_53178_13 : decode cJ7_fill_53178 13 = .ok (.iastore, 1) := by decide +kernel
theorem dJ7_fill_53178_14 : decode cJ7_fill_53178 14 = .ok (.iinc 2 1, 3) := by decide +kernel
theorem dJ7_fill_53178_17 : decode cJ7_fill_53178 17 = .ok (.goto (-12), 3) := by decide +kernel
theorem dJ7_fill_53178_20 : decode cJ7_fill_53178 20 = .ok (.return_, 1) := by decide +kernel
theorem dJ7_copyOf_1904c_0 : decode cJ7_copyOf_1904c 0 = .ok (.aload_n 0, 1) := by decide +kernel
theorem dJ7_copyOf_1904c_1 : decode cJ7_copyOf_1904c 1 = .ok (.iload_n 1, 1) := by decide +kernel
theorem dJ7_copyOf_1904c_2 : decode cJ7_copyOf_1904c 2 = .ok (.aload_n 0, 1) := by decide +kernel
theorem dJ7_copyOf_1904c_3 : decode cJ7_copyOf_1904c 3 = .ok (.invokevirtual 86, 3) := by decide +kernel
theorem dJ7_copyOf_1904c_6 : decode cJ7_copyOf_1904c 6 = .ok (.invokestatic 300, 3) := by decide +kernel
theorem dJ7_copyOf_1904c_9 : decode cJ7_copyOf_1904c 9 = .ok (.areturn, 1) := by decide +kernel
theorem dJ7_copyOf_6403c_0 : decode cJ7_copyOf_6403c 0 = .ok (.aload_n 2, 1) := by decide +kernel
theorem dJ7_copyOf_6403c_1 : decode cJ7_copyOf_6403c 1 = .ok (.ldc 110, 2) := by decide +kernel
theorem dJ7_copyOf_6403c_3 : decode cJ7_copyOf_6403c 3 = .ok (.if_acmp .ne 10, 3) := by decide +kernel
theorem dJ7_copyOf_6403c_6 : decode cJ7_copyOf_6403c 6 = .ok (.iload_n 1, 1) := by decide +kernel
theorem dJ7_copyOf_6403c_7 : decode cJ7_copyOf_6403c 7 = .ok (.anewarray 2, 3) := by decide +kernel
theorem dJ7_copyOf_6403c_10 : decode cJ7_copyOf_6403c 10 = .ok (.goto 14, 3) := by decide +kernel
theorem dJ7_copyOf_6403c_13 : decode cJ7_copyOf_6403c 13 = .ok (.aload_n 2, 1) := by decide +kernel
theorem dJ7_copyOf_6403c_14 : decode cJ7_copyOf_6403c 14 = .ok (.invokevirtual 90, 3) := by decide +kernel
theorem dJ7_copyOf_6403c_17 : decode cJ7_copyOf_6403c 17 = .ok (.iload_n 1, 1) := by decide +kernel
theorem dJ7_copyOf_6403c_18 : decode cJ7_copyOf_6403c 18 = .ok (.invokestatic 95, 3) := by decide +kernel
theorem dJ7_copyOf_6403c_21 : decode cJ7_copyOf_6403c 21 = .ok (.checkcast 110, 3) := by decide +kernel
theorem dJ7_copyOf_6403c_24 : decode cJ7_copyOf_6403c 24 = .ok (.astore_n 3, 1) := by decide +kernel
theorem dJ7_copyOf_6403c_25 : decode cJ7_copyOf_6403c 25 = .ok (.aload_n 0, 1) := by decide +kernel
theorem dJ7_copyOf_6403c_26 : decode cJ7_copyOf_6403c 26 = .ok (.iconst 0, 1) := by decide +kernel
theorem dJ7_copyOf_6403c_27 : decode cJ7_copyOf_6403c 27 = .ok (.aload_n 3, 1) := by decide +kernel
theorem dJ7_copyOf_6403c_28 : decode cJ7_copyOf_6403c 28 = .ok (.iconst 0, 1) := by decide +kernel
theorem dJ7_copyOf_6403c_29 : decode cJ7_copyOf_6403c 29 = .ok (.aload_n 0, 1) := by decide +kernel
theorem dJ7_copyOf_6403c_30 : decode cJ7_copyOf_6403c 30 = .ok (.arraylength, 1) := by decide +kernel
theorem dJ7_copyOf_6403c_31 : decode cJ7_copyOf_6403c 31 = .ok (.iload_n 1, 1) := by decide +kernel
theorem dJ7_copyOf_6403c_32 : decode cJ7_copyOf_6403c 32 = .ok (.invokestatic 304, 3) := by decide +kernel
theorem dJ7_copyOf_6403c_35 : decode cJ7_copyOf_6403c 35 = .ok (.invokestatic 150, 3) := by decide +kernel
theorem dJ7_copyOf_6403c_38 : decode cJ7_copyOf_6403c 38 = .ok (.aload_n 3, 1) := by decide +kernel
theorem dJ7_copyOf_6403c_39 : decode cJ7_copyOf_6403c 39 = .ok (.areturn, 1) := by decide +kernel
theorem dJ7_copyOf_59c91_0 : decode cJ7_copyOf_59c91 0 = .ok (.iload_n 1, 1) := by decide +kernel
theorem dJ7_copyOf_59c91_1 : decode cJ7_copyOf_59c91 1 = .ok (.aload_n 0, 1) := by decide +kernel
theorem dJ7_copyOf_59c91_2 : decode cJ7_copyOf_59c91 2 = .ok (.arraylength, 1) := by decide +kernel
theorem dJ7_copyOf_59c91_3 : decode cJ7_copyOf_59c91 3 = .ok (.if_icmp .ne 11, 3) := by decide +kernel
theorem dJ7_copyOf_59c91_6 : decode cJ7_copyOf_59c91 6 = .ok (.aload_n 0, 1) := by decide +kernel
theorem dJ7_copyOf_59c91_7 : decode cJ7_copyOf_59c91 7 = .ok (.invokevirtual 316, 3) := by decide +kernel
theorem dJ7_copyOf_59c91_10 : decode cJ7_copyOf_59c91 10 = .ok (.checkcast 317, 3) := by decide +kernel
theorem dJ7_copyOf_59c91_13 : decode cJ7_copyOf_59c91 13 = .ok (.areturn, 1) := by decide +kernel
theorem dJ7_copyOf_59c91_14 : decode cJ7_copyOf_59c91 14 = .ok (.iload_n 1, 1) := by decide +kernel
theorem dJ7_copyOf_59c91_15 : decode cJ7_copyOf_59c91 15 = .ok (.newarray .int, 2) := by decide +kernel
theorem dJ7_copyOf_59c91_17 : decode cJ7_copyOf_59c91 17 = .ok (.astore_n 2, 1) := by decide +kernel
theorem dJ7_copyOf_59c91_18 : decode cJ7_copyOf_59c91 18 = .ok (.aload_n 0, 1) := by decide +kernel
theorem dJ7_copyOf_59c91_19 : decode cJ7_copyOf_59c91 19 = .ok (.iconst 0, 1) := by decide +kernel
theorem dJ7_copyOf_59c91_20 : decode cJ7_copyOf_59c91 20 = .ok (.aload_n 2, 1) := by decide +kernel
theorem dJ7_copyOf_59c91_21 : decode cJ7_copyOf_59c91 21 = .ok (.iconst 0, 1) := by decide +kernel
theorem dJ7_copyOf_59c91_22 : decode cJ7_copyOf_59c91 22 = .ok (.aload_n 0, 1) := by decide +kernel
theorem dJ7_copyOf_59c91_23 : decode cJ7_copyOf_59c91 23 = .ok (.arraylength, 1) := by decide +kernel
theorem dJ7_copyOf_59c91_24 : decode cJ7_copyOf_59c91 24 = .ok (.iload_n 1, 1) := by decide +kernel
theorem dJ7_copyOf_59c91_25 : decode cJ7_copyOf_59c91 25 = .ok (.invokestatic 304, 3) := by decide +kernel
theorem dJ7_copyOf_59c91_28 : decode cJ7_copyOf_59c91 28 = .ok (.invokestatic 150, 3) := by decide +kernel
theorem dJ7_copyOf_59c91_31 : decode cJ7_copyOf_59c91 31 = .ok (.aload_n 2, 1) := by decide +kernel
theorem dJ7_copyOf_59c91_32 : decode cJ7_copyOf_59c91 32 = .ok (.areturn, 1) := by decide +kernel
theorem dJ15_checkIndex_7cf53_0 : decode cJ15_checkIndex_7cf53 0 = .ok (.iload_n 0, 1) := by decide +kernel
theorem dJ15_checkIndex_7cf53_1 : decode cJ15_checkIndex_7cf53 1 = .ok (.iload_n 1, 1) := by decide +kernel
theorem dJ15_checkIndex_7cf53_2 : decode cJ15_checkIndex_7cf53 2 = .ok (.aconst_null, 1) := by decide +kernel
theorem dJ15_checkIndex_7cf53_3 : decode cJ15_checkIndex_7cf53 3 = .ok (.invokestatic 105, 3) := by decide +kernel
theorem dJ15_checkIndex_7cf53_6 : decode cJ15_checkIndex_7cf53 6 = .ok (.ireturn, 1) := by decide +kernel
theorem dJ8_newLength_cabcc_0 : decode cJ8_newLength_cabcc 0 = .ok (.iload_n 0, 1) := by decide +kernel
theorem dJ8_newLength_cabcc_1 : decode cJ8_newLength_cabcc 1 = .ok (.iload_n 1, 1) := by decide +kernel
theorem dJ8_newLength_cabcc_2 : decode cJ8_newLength_cabcc 2 = .ok (.iload_n 2, 1) := by decide +kernel
theorem dJ8_newLength_cabcc_3 : decode cJ8_newLength_cabcc 3 = .ok (.invokestatic 194, 3) := by decide +kernel
theorem dJ8_newLength_cabcc_6 : decode cJ8_newLength_cabcc 6 = .ok (.iadd, 1) := by decide +kernel
theorem dJ8_newLength_cabcc_7 : decode cJ8_newLength_cabcc 7 = .ok (.istore_n 3, 1) := by decide +kernel
theorem dJ8_newLength_cabcc_8 : decode cJ8_newLength_cabcc 8 = .ok (.iconst 0, 1) := by decide +kernel
theorem dJ8_newLength_cabcc_9 : decode cJ8_newLength_cabcc 9 = .ok (.iload_n 3, 1) := by decide +kernel
theorem dJ8_newLength_cabcc_10 : decode cJ8_newLength_cabcc 10 = .ok (.if_icmp .ge 11, 3) := by decide +kernel
theorem dJ8_newLength_cabcc_13 : decode cJ8_newLength_cabcc 13 = .ok (.iload_n 3, 1) := by decide +kernel
theorem dJ8_newLength_cabcc_14 : decode cJ8_newLength_cabcc 14 = .ok (.ldc 200, 2) := by decide +kernel
theorem dJ8_newLength_cabcc_16 : decode cJ8_newLength_cabcc 16 = .ok (.if_icmp .gt 5, 3) := by decide +kernel
theorem dJ8_newLength_cabcc_19 : decode cJ8_newLength_cabcc 19 = .ok (.iload_n 3, 1) := by decide +kernel
theorem dJ8_newLength_cabcc_20 : decode cJ8_newLength_cabcc 20 = .ok (.ireturn, 1) := by decide +kernel
theorem dJ8_newLength_cabcc_21 : decode cJ8_newLength_cabcc 21 = .ok (.iload_n 0, 1) := by decide +kernel
theorem dJ8_newLength_cabcc_22 : decode cJ8_newLength_cabcc 22 = .ok (.iload_n 1, 1) := by decide +kernel
theorem dJ8_newLength_cabcc_23 : decode cJ8_newLength_cabcc 23 = .ok (.invokestatic 201, 3) := by decide +kernel
theorem dJ8_newLength_cabcc_26 : decode cJ8_newLength_cabcc 26 = .ok (.ireturn, 1) := by decide +kernel
theorem dJ8_hugeLength_7cf53_0 : decode cJ8_hugeLength_7cf53 0 = .ok (.iload_n 0, 1) := by decide +kernel
theorem dJ8_hugeLength_7cf53_1 : decode cJ8_hugeLength_7cf53 1 = .ok (.iload_n 1, 1) := by decide +kernel
theorem dJ8_hugeLength_7cf53_2 : decode cJ8_hugeLength_7cf53 2 = .ok (.iadd, 1) := by decide +kernel
theorem dJ8_hugeLength_7cf53_3 : decode cJ8_hugeLength_7cf53 3 = .ok (.istore_n 2, 1) := by decide +kernel
theorem dJ8_hugeLength_7cf53_4 : decode cJ8_hugeLength_7cf53 4 = .ok (.iload_n 2, 1) := by decide +kernel
theorem dJ8_hugeLength_7cf53_5 : decode cJ8_hugeLength_7cf53 5 = .ok (.ifCond .ge 44, 3) := by decide +kernel
theorem dJ8_hugeLength_7cf53_8 : decode cJ8_hugeLength_7cf53 8 = .ok (.new 204, 3) := by decide +kernel
theorem dJ8_hugeLength_7cf53_11 : decode cJ8_hugeLength_7cf53 11 = .ok (.dup, 1) := by decide +kernel
theorem dJ8_hugeLength_7cf53_12 : decode cJ8_hugeLength_7cf53 12 = .ok (.new 89, 3) := by decide +kernel
theorem dJ8_hugeLength_7cf53_15 : decode cJ8_hugeLength_7cf53 15 = .ok (.dup, 1) := by decide +kernel
theorem dJ8_hugeLength_7cf53_16 : decode cJ8_hugeLength_7cf53 16 = .ok (.invokespecial 91, 3) := by decide +kernel
theorem dJ8_hugeLength_7cf53_19 : decode cJ8_hugeLength_7cf53 19 = .ok (.ldc 206, 2) := by decide +kernel
theorem dJ8_hugeLength_7cf53_21 : decode cJ8_hugeLength_7cf53 21 = .ok (.invokevirtual 94, 3) := by decide +kernel
theorem dJ8_hugeLength_7cf53_24 : decode cJ8_hugeLength_7cf53 24 = .ok (.iload_n 0, 1) := by decide +kernel
theorem dJ8_hugeLength_7cf53_25 : decode cJ8_hugeLength_7cf53 25 = .ok (.invokevirtual 98, 3) := by decide +kernel
theorem dJ8_hugeLength_7cf53_28 : decode cJ8_hugeLength_7cf53 28 = .ok (.ldc 208, 2) := by decide +kernel
theorem dJ8_hugeLength_7cf53_30 : decode cJ8_hugeLength_7cf53 30 = .ok (.invokevirtual 94, 3) := by decide +kernel
theorem dJ8_hugeLength_7cf53_33 : decode cJ8_hugeLength_7cf53 33 = .ok (.iload_n 1, 1) := by decide +kernel
theorem dJ8_hugeLength_7cf53_34 : decode cJ8_hugeLength_7cf53 34 = .ok (.invokevirtual 98, 3) := by decide +kernel
theorem dJ8_hugeLength_7cf53_37 : decode cJ8_hugeLength_7cf53 37 = .ok (.ldc 210, 2) := by decide +kernel
theorem dJ8_hugeLength_7cf53_39 : decode cJ8_hugeLength_7cf53 39 = .ok (.invokevirtual 94, 3) := by decide +kernel
theorem dJ8_hugeLength_7cf53_42 : decode cJ8_hugeLength_7cf53 42 = .ok (.invokevirtual 101, 3) := by decide +kernel
theorem dJ8_hugeLength_7cf53_45 : decode cJ8_hugeLength_7cf53 45 = .ok (.invokespecial 212, 3) := by decide +kernel
theorem dJ8_hugeLength_7cf53_48 : decode cJ8_hugeLength_7cf53 48 = .ok (.athrow, 1) := by decide +kernel
theorem dJ8_hugeLength_7cf53_49 : decode cJ8_hugeLength_7cf53 49 = .ok (.iload_n 2, 1) := by decide +kernel
theorem dJ8_hugeLength_7cf53_50 : decode cJ8_hugeLength_7cf53 50 = .ok (.ldc 200, 2) := by decide +kernel
theorem dJ8_hugeLength_7cf53_52 : decode cJ8_hugeLength_7cf53 52 = .ok (.if_icmp .gt 6, 3) := by decide +kernel
theorem dJ8_hugeLength_7cf53_55 : decode cJ8_hugeLength_7cf53 55 = .ok (.ldc 200, 2) := by decide +kernel
theorem dJ8_hugeLength_7cf53_57 : decode cJ8_hugeLength_7cf53 57 = .ok (.ireturn, 1) := by decide +kernel
theorem dJ8_hugeLength_7cf53_58 : decode cJ8_hugeLength_7cf53 58 = .ok (.iload_n 2, 1) := by decide +kernel
theorem dJ8_hugeLength_7cf53_59 : decode cJ8_hugeLength_7cf53 59 = .ok (.ireturn, 1) := by decide +kernel
theorem dJ3_checkIndex_8e157_0 : decode cJ3_checkIndex_8e157 0 = .ok (.iload_n 0, 1) := by decide +kernel
theorem dJ3_checkIndex_8e157_1 : decode cJ3_checkIndex_8e157 1 = .ok (.ifCond .lt 8, 3) := by decide +kernel
theorem dJ3_checkIndex_8e157_4 : decode cJ3_checkIndex_8e157 4 = .ok (.iload_n 0, 1) := by decide +kernel
theorem dJ3_checkIndex_8e157_5 : decode cJ3_checkIndex_8e157 5 = .ok (.iload_n 1, 1) := by decide +kernel
theorem dJ3_checkIndex_8e157_6 : decode cJ3_checkIndex_8e157 6 = .ok (.if_icmp .lt 10, 3) := by decide +kernel
theorem dJ3_checkIndex_8e157_9 : decode cJ3_checkIndex_8e157 9 = .ok (.aload_n 2, 1) := by decide +kernel
theorem dJ3_checkIndex_8e157_10 : decode cJ3_checkIndex_8e157 10 = .ok (.iload_n 0, 1) := by decide +kernel
theorem dJ3_checkIndex_8e157_11 : decode cJ3_checkIndex_8e157 11 = .ok (.iload_n 1, 1) := by decide +kernel
theorem dJ3_checkIndex_8e157_12 : decode cJ3_checkIndex_8e157 12 = .ok (.invokestatic 95, 3) := by decide +kernel
theorem dJ3_checkIndex_8e157_15 : decode cJ3_checkIndex_8e157 15 = .ok (.athrow, 1) := by decide +kernel
theorem dJ3_checkIndex_8e157_16 : decode cJ3_checkIndex_8e157 16 = .ok (.iload_n 0, 1) := by decide +kernel
theorem dJ3_checkIndex_8e157_17 : decode cJ3_checkIndex_8e157 17 = .ok (.ireturn, 1) := by decide +kernel
theorem dL_act_0 : decode cL_act 0 = .ok (.iload_n 1, 1) := by decide +kernel
theorem dL_act_1 : decode cL_act 1 = .ok (.ifCond .ne 11, 3) := by decide +kernel
theorem dL_act_4 : decode cL_act 4 = .ok (.aload_n 0, 1) := by decide +kernel
theorem dL_act_5 : decode cL_act 5 = .ok (.iload_n 2, 1) := by decide +kernel
theorem dL_act_6 : decode cL_act 6 = .ok (.invokevirtual 7, 3) := by decide +kernel
theorem dL_act_9 : decode cL_act 9 = .ok (.goto 240, 3) := by decide +kernel
theorem dL_act_12 : decode cL_act 12 = .ok (.iload_n 1, 1) := by decide +kernel
theorem dL_act_13 : decode cL_act 13 = .ok (.iconst 1, 1) := by decide +kernel
theorem dL_act_14 : decode cL_act 14 = .ok (.if_icmp .ne 10, 3) := by decide +kernel
theorem dL_act_17 : decode cL_act 17 = .ok (.aload_n 0, 1) := by decide +kernel
theorem dL_act_18 : decode cL_act 18 = .ok (.invokevirtual 13, 3) := by decide +kernel
theorem dL_act_21 : decode cL_act 21 = .ok (.goto 228, 3) := by decide +kernel
theorem dL_act_24 : decode cL_act 24 = .ok (.iload_n 1, 1) := by decide +kernel
theorem dL_act_25 : decode cL_act 25 = .ok (.iconst 2, 1) := by decide +kernel
theorem dL_act_26 : decode cL_act 26 = .ok (.if_icmp .ne 11, 3) := by decide +kernel
theorem dL_act_29 : decode cL_act 29 = .ok (.aload_n 0, 1) := by decide +kernel
theorem dL_act_30 : decode cL_act 30 = .ok (.iload_n 2, 1) := by decide +kernel
theorem dL_act_31 : decode cL_act 31 = .ok (.invokevirtual 17, 3) := by decide +kernel
theorem dL_act_34 : decode cL_act 34 = .ok (.goto 215, 3) := by decide +kernel
theorem dL_act_37 : decode cL_act 37 = .ok (.iload_n 1, 1) := by decide +kernel
theorem dL_act_38 : decode cL_act 38 = .ok (.iconst 3, 1) := by decide +kernel
theorem dL_act_39 : decode cL_act 39 = .ok (.if_icmp .ne 20, 3) := by decide +kernel
theorem dL_act_42 : decode cL_act 42 = .ok (.aload_n 0, 1) := by decide +kernel
theorem dL_act_43 : decode cL_act 43 = .ok (.iload_n 2, 1) := by decide +kernel
theorem dL_act_44 : decode cL_act 44 = .ok (.iload_n 3, 1) := by decide +kernel
theorem dL_act_45 : decode cL_act 45 = .ok (.invokevirtual 20, 3) := by decide +kernel
theorem dL_act_48 : decode cL_act 48 = .ok (.ifCond .eq 7, 3) := by decide +kernel
theorem dL_act_51 : decode cL_act 51 = .ok (.iconst 1, 1) := by decide +kernel
theorem dL_act_52 : decode cL_act 52 = .ok (.goto 197, 3) := by decide +kernel
theorem dL_act_55 : decode cL_act 55 = .ok (.iconst 0, 1) := by decide +kernel
theorem dL_act_56 : decode cL_act 56 = .ok (.goto 193, 3) := by decide +kernel
theorem dL_act_59 : decode cL_act 59 = .ok (.iload_n 1, 1) := by decide +kernel
theorem dL_act_60 : decode cL_act 60 = .ok (.iconst 4, 1) := by decide +kernel
theorem dL_act_61 : decode cL_act 61 = .ok (.if_icmp .ne 20, 3) := by decide +kernel
theorem dL_act_64 : decode cL_act 64 = .ok (.aload_n 0, 1) := by decide +kernel
theorem dL_act_65 : decode cL_act 65 = .ok (.iload_n 2, 1) := by decide +kernel
theorem dL_act_66 : decode cL_act 66 = .ok (.iload_n 3, 1) := by decide +kernel
theorem dL_act_67 : decode cL_act 67 = .ok (.invokevirtual 24, 3) := by decide +kernel
theorem dL_act_70 : decode cL_act 70 = .ok (.ifCond .eq 7, 3) := by decide +kernel
theorem dL_act_73 : decode cL_act 73 = .ok (.iconst 1, 1) := by decide +kernel
theorem dL_act_74 : decode cL_act 74 = .ok (.goto 175, 3) := by decide +kernel
theorem dL_act_77 : decode cL_act 77 = .ok (.iconst 0, 1) := by decide +kernel
theorem dL_act_78 : decode cL_act 78 = .ok (.goto 171, 3) := by decide +kernel
theorem dL_act_81 : decode cL_act 81 = .ok (.iload_n 1, 1) := by decide +kernel
theorem dL_act_82 : decode cL_act 82 = .ok (.iconst 5, 1) := by decide +kernel
theorem dL_act_83 : decode cL_act 83 = .ok (.if_icmp .ne 14, 3) := by decide +kernel
theorem dL_act_86 : decode cL_act 86 = .ok (.aload_n 0, 1) := by decide +kernel
theorem dL_act_87 : decode cL_act 87 = .ok (.iload_n 2, 1) := by decide +kernel
theorem dL_act_88 : decode cL_act 88 = .ok (.iload_n 3, 1) := by decide +kernel
theorem dL_act_89 : decode cL_act 89 = .ok (.iload 4, 2) := by decide +kernel
theorem dL_act_91 : decode cL_act 91 = .ok (.invokevirtual 27, 3) := by decide +kernel
theorem dL_act_94 : decode cL_act 94 = .ok (.goto 155, 3) := by decide +kernel
theorem dL_act_97 : decode cL_act 97 = .ok (.iload_n 1, 1) := by decide +kernel
theorem dL_act_98 : decode cL_act 98 = .ok (.bipush 6, 2) := by decide +kernel
theorem dL_act_100 : decode cL_act 100 = .ok (.if_icmp .ne 21, 3) := by decide +kernel
theorem dL_act_103 : decode cL_act 103 = .ok (.aload_n 0, 1) := by decide +kernel
theorem dL_act_104 : decode cL_act 104 = .ok (.iload_n 2, 1) := by decide +kernel
theorem dL_act_105 : decode cL_act 105 = .ok (.iload_n 3, 1) := by decide +kernel
theorem dL_act_106 : decode cL_act 106 = .ok (.iconst 1, 1) := by decide +kernel
theorem dL_act_107 : decode cL_act 107 = .ok (.if_icmp .ne 7, 3) := by decide +kernel
theorem dL_act_110 : decode cL_act 110 = .ok (.iconst 1, 1) := by decide +kernel
theorem dL_act_111 : decode cL_act 111 = .ok (.goto 4, 3) := by decide +kernel
theorem dL_act_114 : decode cL_act 114 = .ok (.iconst 0, 1) := by decide +kernel
theorem dL_act_115 : decode cL_act 115 = .ok (.invokevirtual 31, 3) := by decide +kernel
theorem dL_act_118 : decode cL_act 118 = .ok (.goto 131, 3) := by decide +kernel
theorem dL_act_121 : decode cL_act 121 = .ok (.iload_n 1, 1) := by decide +kernel
theorem dL_act_122 : decode cL_act 122 = .ok (.bipush 7, 2) := by decide +kernel
theorem dL_act_124 : decode cL_act 124 = .ok (.if_icmp .ne 20, 3) := by decide +kernel
theorem dL_act_127 : decode cL_act 127 = .ok (.aload_n 0, 1) := by decide +kernel
theorem dL_act_128 : decode cL_act 128 = .ok (.iload_n 2, 1) := by decide +kernel
theorem dL_act_129 : decode cL_act 129 = .ok (.iload_n 3, 1) := by decide +kernel
theorem dL_act_130 : decode cL_act 130 = .ok (.invokevirtual 35, 3) := by decide +kernel
theorem dL_act_133 : decode cL_act 133 = .ok (.ifCond .eq 7, 3) := by decide +kernel
theorem dL_act_136 : decode cL_act 136 = .ok (.iconst 1, 1) := by decide +kernel
theorem dL_act_137 : decode cL_act 137 = .ok (.goto 112, 3) := by decide +kernel
theorem dL_act_140 : decode cL_act 140 = .ok (.iconst 0, 1) := by decide +kernel
theorem dL_act_141 : decode cL_act 141 = .ok (.goto 108, 3) := by decide +kernel
theorem dL_act_144 : decode cL_act 144 = .ok (.iload_n 1, 1) := by decide +kernel
theorem dL_act_145 : decode cL_act 145 = .ok (.bipush 8, 2) := by decide +kernel
theorem dL_act_147 : decode cL_act 147 = .ok (.if_icmp .ne 14, 3) := by decide +kernel
theorem dL_act_150 : decode cL_act 150 = .ok (.aload_n 0, 1) := by decide +kernel
theorem dL_act_151 : decode cL_act 151 = .ok (.iload_n 2, 1) := by decide +kernel
theorem dL_act_152 : decode cL_act 152 = .ok (.iload_n 3, 1) := by decide +kernel
theorem dL_act_153 : decode cL_act 153 = .ok (.iload 4, 2) := by decide +kernel
theorem dL_act_155 : decode cL_act 155 = .ok (.invokevirtual 38, 3) := by decide +kernel
theorem dL_act_158 : decode cL_act 158 = .ok (.goto 91, 3) := by decide +kernel
theorem dL_act_161 : decode cL_act 161 = .ok (.iload_n 1, 1) := by decide +kernel
theorem dL_act_162 : decode cL_act 162 = .ok (.bipush 9, 2) := by decide +kernel
theorem dL_act_164 : decode cL_act 164 = .ok (.if_icmp .ne 22, 3) := by decide +kernel
theorem dL_act_167 : decode cL_act 167 = .ok (.aload_n 0, 1) := by decide +kernel
theorem dL_act_168 : decode cL_act 168 = .ok (.iload_n 2, 1) := by decide +kernel
theorem dL_act_169 : decode cL_act 169 = .ok (.iload_n 3, 1) := by decide +kernel
theorem dL_act_170 : decode cL_act 170 = .ok (.iload 4, 2) := by decide +kernel
theorem dL_act_172 : decode cL_act 172 = .ok (.invokevirtual 41, 3) := by decide +kernel
theorem dL_act_175 : decode cL_act 175 = .ok (.ifCond .eq 7, 3) := by decide +kernel
theorem dL_act_178 : decode cL_act 178 = .ok (.iconst 1, 1) := by decide +kernel
theorem dL_act_179 : decode cL_act 179 = .ok (.goto 70, 3) := by decide +kernel
theorem dL_act_182 : decode cL_act 182 = .ok (.iconst 0, 1) := by decide +kernel
theorem dL_act_183 : decode cL_act 183 = .ok (.goto 66, 3) := by decide +kernel
theorem dL_act_186 : decode cL_act 186 = .ok (.iload_n 1, 1) := by decide +kernel
theorem dL_act_187 : decode cL_act 187 = .ok (.bipush 10, 2) := by decide +kernel
theorem dL_act_189 : decode cL_act 189 = .ok (.if_icmp .ne 12, 3) := by decide +kernel
theorem dL_act_192 : decode cL_act 192 = .ok (.aload_n 0, 1) := by decide +kernel
theorem dL_act_193 : decode cL_act 193 = .ok (.iload_n 2, 1) := by decide +kernel
theorem dL_act_194 : decode cL_act 194 = .ok (.iload_n 3, 1) := by decide +kernel
theorem dL_act_195 : decode cL_act 195 = .ok (.invokevirtual 45, 3) := by decide +kernel
theorem dL_act_198 : decode cL_act 198 = .ok (.goto 51, 3) := by decide +kernel
theorem dL_act_201 : decode cL_act 201 = .ok (.iload_n 1, 1) := by decide +kernel
theorem dL_act_202 : decode cL_act 202 = .ok (.bipush 11, 2) := by decide +kernel
theorem dL_act_204 : decode cL_act 204 = .ok (.if_icmp .ne 10, 3) := by decide +kernel
theorem dL_act_207 : decode cL_act 207 = .ok (.aload_n 0, 1) := by decide +kernel
theorem dL_act_208 : decode cL_act 208 = .ok (.invokevirtual 49, 3) := by decide +kernel
theorem dL_act_211 : decode cL_act 211 = .ok (.goto 38, 3) := by decide +kernel
theorem dL_act_214 : decode cL_act 214 = .ok (.iload_n 1, 1) := by decide +kernel
theorem dL_act_215 : decode cL_act 215 = .ok (.bipush 12, 2) := by decide +kernel
theorem dL_act_217 : decode cL_act 217 = .ok (.if_icmp .ne 12, 3) := by decide +kernel
theorem dL_act_220 : decode cL_act 220 = .ok (.aload_n 0, 1) := by decide +kernel
theorem dL_act_221 : decode cL_act 221 = .ok (.iload_n 2, 1) := by decide +kernel
theorem dL_act_222 : decode cL_act 222 = .ok (.iload_n 3, 1) := by decide +kernel
theorem dL_act_223 : decode cL_act 223 = .ok (.invokevirtual 52, 3) := by decide +kernel
theorem dL_act_226 : decode cL_act 226 = .ok (.goto 23, 3) := by decide +kernel
theorem dL_act_229 : decode cL_act 229 = .ok (.iload_n 1, 1) := by decide +kernel
theorem dL_act_230 : decode cL_act 230 = .ok (.bipush 13, 2) := by decide +kernel
theorem dL_act_232 : decode cL_act 232 = .ok (.if_icmp .ne 11, 3) := by decide +kernel
theorem dL_act_235 : decode cL_act 235 = .ok (.aload_n 0, 1) := by decide +kernel
theorem dL_act_236 : decode cL_act 236 = .ok (.iload_n 2, 1) := by decide +kernel
theorem dL_act_237 : decode cL_act 237 = .ok (.invokevirtual 55, 3) := by decide +kernel
theorem dL_act_240 : decode cL_act 240 = .ok (.goto 9, 3) := by decide +kernel
theorem dL_act_243 : decode cL_act 243 = .ok (.aload_n 0, 1) := by decide +kernel
theorem dL_act_244 : decode cL_act 244 = .ok (.iload_n 2, 1) := by decide +kernel
theorem dL_act_245 : decode cL_act 245 = .ok (.iload_n 3, 1) := by decide +kernel
theorem dL_act_246 : decode cL_act 246 = .ok (.invokevirtual 58, 3) := by decide +kernel
theorem dL_act_249 : decode cL_act 249 = .ok (.ireturn, 1) := by decide +kernel
theorem dL_act_250 : decode cL_act 250 = .ok (.astore 5, 2) := by decide +kernel
theorem dL_act_252 : decode cL_act 252 = .ok (.bipush (-71), 2) := by decide +kernel
theorem dL_act_254 : decode cL_act 254 = .ok (.ireturn, 1) := by decide +kernel
theorem dL_act_255 : decode cL_act 255 = .ok (.astore 5, 2) := by decide +kernel
theorem dL_act_257 : decode cL_act 257 = .ok (.bipush (-72), 2) := by decide +kernel
theorem dL_act_259 : decode cL_act 259 = .ok (.ireturn, 1) := by decide +kernel
theorem dL_act_260 : decode cL_act 260 = .ok (.astore 5, 2) := by decide +kernel
theorem dL_act_262 : decode cL_act 262 = .ok (.bipush (-73), 2) := by decide +kernel
theorem dL_act_264 : decode cL_act 264 = .ok (.ireturn, 1) := by decide +kernel
theorem dL_lamp_0 : decode cL_lamp 0 = .ok (.aload_n 0, 1) := by decide +kernel
theorem dL_lamp_1 : decode cL_lamp 1 = .ok (.iload_n 1, 1) := by decide +kernel
theorem dL_lamp_2 : decode cL_lamp 2 = .ok (.iload_n 2, 1) := by decide +kernel
theorem dL_lamp_3 : decode cL_lamp 3 = .ok (.iload_n 3, 1) := by decide +kernel
theorem dL_lamp_4 : decode cL_lamp 4 = .ok (.iload 4, 2) := by decide +kernel
theorem dL_lamp_6 : decode cL_lamp 6 = .ok (.iload 5, 2) := by decide +kernel
theorem dL_lamp_8 : decode cL_lamp 8 = .ok (.invokevirtual 67, 3) := by decide +kernel
theorem dL_lamp_11 : decode cL_lamp 11 = .ok (.ireturn, 1) := by decide +kernel
theorem dL_lamp_12 : decode cL_lamp 12 = .ok (.astore 6, 2) := by decide +kernel
theorem dL_lamp_14 : decode cL_lamp 14 = .ok (.bipush (-71), 2) := by decide +kernel
theorem dL_lamp_16 : decode cL_lamp 16 = .ok (.ireturn, 1) := by decide +kernel
theorem dL_lamp_17 : decode cL_lamp 17 = .ok (.astore 6, 2) := by decide +kernel
theorem dL_lamp_19 : decode cL_lamp 19 = .ok (.bipush (-72), 2) := by decide +kernel
theorem dL_lamp_21 : decode cL_lamp 21 = .ok (.ireturn, 1) := by decide +kernel
theorem dL_lamp_22 : decode cL_lamp 22 = .ok (.astore 6, 2) := by decide +kernel
theorem dL_lamp_24 : decode cL_lamp 24 = .ok (.bipush (-73), 2) := by decide +kernel
theorem dL_lamp_26 : decode cL_lamp 26 = .ok (.ireturn, 1) := by decide +kernel
theorem dL_taken_0 : decode cL_taken 0 = .ok (.aload_n 0, 1) := by decide +kernel
theorem dL_taken_1 : decode cL_taken 1 = .ok (.iload_n 1, 1) := by decide +kernel
theorem dL_taken_2 : decode cL_taken 2 = .ok (.iload_n 2, 1) := by decide +kernel
theorem dL_taken_3 : decode cL_taken 3 = .ok (.iload_n 3, 1) := by decide +kernel
theorem dL_taken_4 : decode cL_taken 4 = .ok (.iload 4, 2) := by decide +kernel
theorem dL_taken_6 : decode cL_taken 6 = .ok (.iload 5, 2) := by decide +kernel
theorem dL_taken_8 : decode cL_taken 8 = .ok (.iload 6, 2) := by decide +kernel
theorem dL_taken_10 : decode cL_taken 10 = .ok (.invokevirtual 71, 3) := by decide +kernel
theorem dL_taken_13 : decode cL_taken 13 = .ok (.ireturn, 1) := by decide +kernel
theorem dL_taken_14 : decode cL_taken 14 = .ok (.astore 7, 2) := by decide +kernel
theorem dL_taken_16 : decode cL_taken 16 = .ok (.bipush (-71), 2) := by decide +kernel
theorem dL_taken_18 : decode cL_taken 18 = .ok (.ireturn, 1) := by decide +kernel
theorem dL_taken_19 : decode cL_taken 19 = .ok (.astore 7, 2) := by decide +kernel
theorem dL_taken_21 : decode cL_taken 21 = .ok (.bipush (-72), 2) := by decide +kernel
theorem dL_taken_23 : decode cL_taken 23 = .ok (.ireturn, 1) := by decide +kernel
theorem dL_refuses_0 : decode cL_refuses 0 = .ok (.aload_n 0, 1) := by decide +kernel
theorem dL_refuses_1 : decode cL_refuses 1 = .ok (.invokevirtual 75, 3) := by decide +kernel
theorem dL_refuses_4 : decode cL_refuses 4 = .ok (.istore 4, 2) := by decide +kernel
theorem dL_refuses_6 : decode cL_refuses 6 = .ok (.aload_n 0, 1) := by decide +kernel
theorem dL_refuses_7 : decode cL_refuses 7 = .ok (.invokevirtual 78, 3) := by decide +kernel
theorem dL_refuses_10 : decode cL_refuses 10 = .ok (.istore 5, 2) := by decide +kernel
theorem dL_refuses_12 : decode cL_refuses 12 = .ok (.ldc 81, 2) := by decide +kernel
theorem dL_refuses_14 : decode cL_refuses 14 = .ok (.istore 6, 2) := by decide +kernel
theorem dL_refuses_16 : decode cL_refuses 16 = .ok (.iconst 0, 1) := by decide +kernel
theorem dL_refuses_17 : decode cL_refuses 17 = .ok (.istore 7, 2) := by decide +kernel
theorem dL_refuses_19 : decode cL_refuses 19 = .ok (.iload 7, 2) := by decide +kernel
theorem dL_refuses_21 : decode cL_refuses 21 = .ok (.iconst 4, 1) := by decide +kernel
theorem dL_refuses_22 : decode cL_refuses 22 = .ok (.if_icmp .ge 858, 3) := by decide +kernel
theorem dL_refuses_25 : decode cL_refuses 25 = .ok (.iload 7, 2) := by decide +kernel
theorem dL_refuses_27 : decode cL_refuses 27 = .ok (.ifCond .ne 7, 3) := by decide +kernel
theorem dL_refuses_30 : decode cL_refuses 30 = .ok (.iconst (-1), 1) := by decide +kernel
theorem dL_refuses_31 : decode cL_refuses 31 = .ok (.goto 19, 3) := by decide +kernel
theorem dL_refuses_34 : decode cL_refuses 34 = .ok (.iload 7, 2) := by decide +kernel
theorem dL_refuses_36 : decode cL_refuses 36 = .ok (.iconst 2, 1) := by decide +kernel
theorem dL_refuses_37 : decode cL_refuses 37 = .ok (.if_icmp .ne 8, 3) := by decide +kernel
theorem dL_refuses_40 : decode cL_refuses 40 = .ok (.iload 6, 2) := by decide +kernel
theorem dL_refuses_42 : decode cL_refuses 42 = .ok (.goto 8, 3) := by decide +kernel
theorem dL_refuses_45 : decode cL_refuses 45 = .ok (.iload 6, 2) := by decide +kernel
theorem dL_refuses_47 : decode cL_refuses 47 = .ok (.ineg, 1) := by decide +kernel
theorem dL_refuses_48 : decode cL_refuses 48 = .ok (.iconst 1, 1) := by decide +kernel
theorem dL_refuses_49 : decode cL_refuses 49 = .ok (.isub, 1) := by decide +kernel
theorem dL_refuses_50 : decode cL_refuses 50 = .ok (.istore 8, 2) := by decide +kernel
theorem dL_refuses_52 : decode cL_refuses 52 = .ok (.iload 7, 2) := by decide +kernel
theorem dL_refuses_54 : decode cL_refuses 54 = .ok (.iconst 1, 1) := by decide +kernel
theorem dL_refuses_55 : decode cL_refuses 55 = .ok (.if_icmp .ne 7, 3) := by decide +kernel
theorem dL_refuses_58 : decode cL_refuses 58 = .ok (.iload_n 1, 1) := by decide +kernel
theorem dL_refuses_59 : decode cL_refuses 59 = .ok (.goto 5, 3) := by decide +kernel
theorem dL_refuses_62 : decode cL_refuses 62 = .ok (.iload 8, 2) := by decide +kernel
theorem dL_refuses_64 : decode cL_refuses 64 = .ok (.istore 9, 2) := by decide +kernel
theorem dL_refuses_66 : decode cL_refuses 66 = .ok (.iload 7, 2) := by decide +kernel
theorem dL_refuses_68 : decode cL_refuses 68 = .ok (.iconst 1, 1) := by decide +kernel
theorem dL_refuses_69 : decode cL_refuses 69 = .ok (.if_icmp .ne 7, 3) := by decide +kernel
theorem dL_refuses_72 : decode cL_refuses 72 = .ok (.iload_n 2, 1) := by decide +kernel
theorem dL_refuses_73 : decode cL_refuses 73 = .ok (.goto 5, 3) := by decide +kernel
theorem dL_refuses_76 : decode cL_refuses 76 = .ok (.iload 8, 2) := by decide +kernel
theorem dL_refuses_78 : decode cL_refuses 78 = .ok (.istore 10, 2) := by decide +kernel
theorem dL_refuses_80 : decode cL_refuses 80 = .ok (.iload 7, 2) := by decide +kernel
theorem dL_refuses_82 : decode cL_refuses 82 = .ok (.iconst 1, 1) := by decide +kernel
theorem dL_refuses_83 : decode cL_refuses 83 = .ok (.if_icmp .ne 7, 3) := by decide +kernel
theorem dL_refuses_86 : decode cL_refuses 86 = .ok (.iload_n 3, 1) := by decide +kernel
theorem dL_refuses_87 : decode cL_refuses 87 = .ok (.goto 5, 3) := by decide +kernel
theorem dL_refuses_90 : decode cL_refuses 90 = .ok (.iload 8, 2) := by decide +kernel
theorem dL_refuses_92 : decode cL_refuses 92 = .ok (.istore 11, 2) := by decide +kernel
theorem dL_refuses_94 : decode cL_refuses 94 = .ok (.iload 7, 2) := by decide +kernel
theorem dL_refuses_96 : decode cL_refuses 96 = .ok (.iconst 1, 1) := by decide +kernel
theorem dL_refuses_97 : decode cL_refuses 97 = .ok (.if_icmp .ne 8, 3) := by decide +kernel
theorem dL_refuses_100 : decode cL_refuses 100 = .ok (.bipush 32, 2) := by decide +kernel
theorem dL_refuses_102 : decode cL_refuses 102 = .ok (.goto 5, 3) := by decide +kernel
theorem dL_refuses_105 : decode cL_refuses 105 = .ok (.iload 8, 2) := by decide +kernel
theorem dL_refuses_107 : decode cL_refuses 107 = .ok (.istore 12, 2) := by decide +kernel
theorem dL_refuses_109 : decode cL_refuses 109 = .ok (.iload 7, 2) := by decide +kernel
theorem dL_refuses_111 : decode cL_refuses 111 = .ok (.ifCond .ne 7, 3) := by decide +kernel
theorem dL_refuses_114 : decode cL_refuses 114 = .ok (.iconst 0, 1) := by decide +kernel
theorem dL_refuses_115 : decode cL_refuses 115 = .ok (.goto 16, 3) := by decide +kernel
theorem dL_refuses_118 : decode cL_refuses 118 = .ok (.iload 7, 2) := by decide +kernel
theorem dL_refuses_120 : decode cL_refuses 120 = .ok (.iconst 1, 1) := by decide +kernel
theorem dL_refuses_121 : decode cL_refuses 121 = .ok (.if_icmp .ne 8, 3) := by decide +kernel
theorem dL_refuses_124 : decode cL_refuses 124 = .ok (.bipush 41, 2) := by decide +kernel
theorem dL_refuses_126 : decode cL_refuses 126 = .ok (.goto 5, 3) := by decide +kernel
theorem dL_refuses_129 : decode cL_refuses 129 = .ok (.iload 8, 2) := by decide +kernel
theorem dL_refuses_131 : decode cL_refuses 131 = .ok (.istore 13, 2) := by decide +kernel
theorem dL_refuses_133 : decode cL_refuses 133 = .ok (.iload 7, 2) := by decide +kernel
theorem dL_refuses_135 : decode cL_refuses 135 = .ok (.ifCond .ne 7, 3) := by decide +kernel
theorem dL_refuses_138 : decode cL_refuses 138 = .ok (.iconst 0, 1) := by decide +kernel
theorem dL_refuses_139 : decode cL_refuses 139 = .ok (.goto 17, 3) := by decide +kernel
theorem dL_refuses_142 : decode cL_refuses 142 = .ok (.iload 7, 2) := by decide +kernel
theorem dL_refuses_144 : decode cL_refuses 144 = .ok (.iconst 1, 1) := by decide +kernel
theorem dL_refuses_145 : decode cL_refuses 145 = .ok (.if_icmp .ne 9, 3) := by decide +kernel
theorem dL_refuses_148 : decode cL_refuses 148 = .ok (.sipush 256, 3) := by decide +kernel
theorem dL_refuses_151 : decode cL_refuses 151 = .ok (.goto 5, 3) := by decide +kernel
theorem dL_refuses_154 : decode cL_refuses 154 = .ok (.iload 8, 2) := by decide +kernel
theorem dL_refuses_156 : decode cL_refuses 156 = .ok (.istore 14, 2) := by decide +kernel
theorem dL_refuses_158 : decode cL_refuses 158 = .ok (.aload_n 0, 1) := by decide +kernel
theorem dL_refuses_159 : decode cL_refuses 159 = .ok (.iconst 0, 1) := by decide +kernel
theorem dL_refuses_160 : decode cL_refuses 160 = .ok (.iload 7, 2) := by decide +kernel
theorem dL_refuses_162 : decode cL_refuses 162 = .ok (.ifCond .ne 7, 3) := by decide +kernel
theorem dL_refuses_165 : decode cL_refuses 165 = .ok (.iconst 0, 1) := by decide +kernel
theorem dL_refuses_166 : decode cL_refuses 166 = .ok (.goto 16, 3) := by decide +kernel
theorem dL_refuses_169 : decode cL_refuses 169 = .ok (.iload 7, 2) := by decide +kernel
theorem dL_refuses_171 : decode cL_refuses 171 = .ok (.iconst 1, 1) := by decide +kernel
theorem dL_refuses_172 : decode cL_refuses 172 = .ok (.if_icmp .ne 8, 3) := by decide +kernel
theorem dL_refuses_175 : decode cL_refuses 175 = .ok (.bipush 10, 2) := by decide +kernel
theorem dL_refuses_177 : decode cL_refuses 177 = .ok (.goto 5, 3) := by decide +kernel
theorem dL_refuses_180 : decode cL_refuses 180 = .ok (.iload 8, 2) := by decide +kernel
theorem dL_refuses_182 : decode cL_refuses 182 = .ok (.iconst 0, 1) := by decide +kernel
theorem dL_refuses_183 : decode cL_refuses 183 = .ok (.iconst 0, 1) := by decide +kernel
theorem dL_refuses_184 : decode cL_refuses 184 = .ok (.invokestatic 82, 3) := by decide +kernel
theorem dL_refuses_187 : decode cL_refuses 187 = .ok (.bipush (-72), 2) := by decide +kernel
theorem dL_refuses_189 : decode cL_refuses 189 = .ok (.if_icmp .ne 217, 3) := by decide +kernel
theorem dL_refuses_192 : decode cL_refuses 192 = .ok (.aload_n 0, 1) := by decide +kernel
theorem dL_refuses_193 : decode cL_refuses 193 = .ok (.iconst 2, 1) := by decide +kernel
theorem dL_refuses_194 : decode cL_refuses 194 = .ok (.iload 9, 2) := by decide +kernel
theorem dL_refuses_196 : decode cL_refuses 196 = .ok (.iconst 0, 1) := by decide +kernel
theorem dL_refuses_197 : decode cL_refuses 197 = .ok (.iconst 0, 1) := by decide +kernel
theorem dL_refuses_198 : decode cL_refuses 198 = .ok (.invokestatic 82, 3) := by decide +kernel
theorem dL_refuses_201 : decode cL_refuses 201 = .ok (.bipush (-71), 2) := by decide +kernel
theorem dL_refuses_203 : decode cL_refuses 203 = .ok (.if_icmp .ne 203, 3) := by decide +kernel
theorem dL_refuses_206 : decode cL_refuses 206 = .ok (.aload_n 0, 1) := by decide +kernel
theorem dL_refuses_207 : decode cL_refuses 207 = .ok (.iconst 3, 1) := by decide +kernel
theorem dL_refuses_208 : decode cL_refuses 208 = .ok (.iload 9, 2) := by decide +kernel
theorem dL_refuses_210 : decode cL_refuses 210 = .ok (.iload 9, 2) := by decide +kernel
theorem dL_refuses_212 : decode cL_refuses 212 = .ok (.iconst 0, 1) := by decide +kernel
theorem dL_refuses_213 : decode cL_refuses 213 = .ok (.invokestatic 82, 3) := by decide +kernel
theorem dL_refuses_216 : decode cL_refuses 216 = .ok (.bipush (-71), 2) := by decide +kernel
theorem dL_refuses_218 : decode cL_refuses 218 = .ok (.if_icmp .ne 188, 3) := by decide +kernel
theorem dL_refuses_221 : decode cL_refuses 221 = .ok (.aload_n 0, 1) := by decide +kernel
theorem dL_refuses_222 : decode cL_refuses 222 = .ok (.iconst 4, 1) := by decide +kernel
theorem dL_refuses_223 : decode cL_refuses 223 = .ok (.iload 9, 2) := by decide +kernel
theorem dL_refuses_225 : decode cL_refuses 225 = .ok (.iload 9, 2) := by decide +kernel
theorem dL_refuses_227 : decode cL_refuses 227 = .ok (.iconst 0, 1) := by decide +kernel
theorem dL_refuses_228 : decode cL_refuses 228 = .ok (.invokestatic 82, 3) := by decide +kernel
theorem dL_refuses_231 : decode cL_refuses 231 = .ok (.bipush (-71), 2) := by decide +kernel
theorem dL_refuses_233 : decode cL_refuses 233 = .ok (.if_icmp .ne 173, 3) := by decide +kernel
theorem dL_refuses_236 : decode cL_refuses 236 = .ok (.aload_n 0, 1) := by decide +kernel
theorem dL_refuses_237 : decode cL_refuses 237 = .ok (.iconst (-1), 1) := by decide +kernel
theorem dL_refuses_238 : decode cL_refuses 238 = .ok (.iconst 0, 1) := by decide +kernel
theorem dL_refuses_239 : decode cL_refuses 239 = .ok (.iload 9, 2) := by decide +kernel
theorem dL_refuses_241 : decode cL_refuses 241 = .ok (.iconst 0, 1) := by decide +kernel
theorem dL_refuses_242 : decode cL_refuses 242 = .ok (.iconst 0, 1) := by decide +kernel
theorem dL_refuses_243 : decode cL_refuses 243 = .ok (.invokestatic 88, 3) := by decide +kernel
theorem dL_refuses_246 : decode cL_refuses 246 = .ok (.bipush (-71), 2) := by decide +kernel
theorem dL_refuses_248 : decode cL_refuses 248 = .ok (.if_icmp .ne 158, 3) := by decide +kernel
theorem dL_refuses_251 : decode cL_refuses 251 = .ok (.aload_n 0, 1) := by decide +kernel
theorem dL_refuses_252 : decode cL_refuses 252 = .ok (.iconst 5, 1) := by decide +kernel
theorem dL_refuses_253 : decode cL_refuses 253 = .ok (.iload 10, 2) := by decide +kernel
theorem dL_refuses_255 : decode cL_refuses 255 = .ok (.iconst 0, 1) := by decide +kernel
theorem dL_refuses_256 : decode cL_refuses 256 = .ok (.iconst (-1), 1) := by decide +kernel
theorem dL_refuses_257 : decode cL_refuses 257 = .ok (.invokestatic 82, 3) := by decide +kernel
theorem dL_refuses_260 : decode cL_refuses 260 = .ok (.bipush (-71), 2) := by decide +kernel
theorem dL_refuses_262 : decode cL_refuses 262 = .ok (.if_icmp .ne 144, 3) := by decide +kernel
theorem dL_refuses_265 : decode cL_refuses 265 = .ok (.aload_n 0, 1) := by decide +kernel
theorem dL_refuses_266 : decode cL_refuses 266 = .ok (.bipush 6, 2) := by decide +kernel
theorem dL_refuses_268 : decode cL_refuses 268 = .ok (.iload 10, 2) := by decide +kernel
theorem dL_refuses_270 : decode cL_refuses 270 = .ok (.iconst 1, 1) := by decide +kernel
theorem dL_refuses_271 : decode cL_refuses 271 = .ok (.iconst 0, 1) := by decide +kernel
theorem dL_refuses_272 : decode cL_refuses 272 = .ok (.invokestatic 82, 3) := by decide +kernel
theorem dL_refuses_275 : decode cL_refuses 275 = .ok (.bipush (-71), 2) := by decide +kernel
theorem dL_refuses_277 : decode cL_refuses 277 = .ok (.if_icmp .ne 129, 3) := by decide +kernel
theorem dL_refuses_280 : decode cL_refuses 280 = .ok (.aload_n 0, 1) := by decide +kernel
theorem dL_refuses_281 : decode cL_refuses 281 = .ok (.bipush 7, 2) := by decide +kernel
theorem dL_refuses_283 : decode cL_refuses 283 = .ok (.iload 10, 2) := by decide +kernel
theorem dL_refuses_285 : decode cL_refuses 285 = .ok (.iconst (-1), 1) := by decide +kernel
theorem dL_refuses_286 : decode cL_refuses 286 = .ok (.iconst 0, 1) := by decide +kernel
theorem dL_refuses_287 : decode cL_refuses 287 = .ok (.invokestatic 82, 3) := by decide +kernel
theorem dL_refuses_290 : decode cL_refuses 290 = .ok (.bipush (-71), 2) := by decide +kernel
theorem dL_refuses_292 : decode cL_refuses 292 = .ok (.if_icmp .ne 114, 3) := by decide +kernel
theorem dL_refuses_295 : decode cL_refuses 295 = .ok (.aload_n 0, 1) := by decide +kernel
theorem dL_refuses_296 : decode cL_refuses 296 = .ok (.bipush 8, 2) := by decide +kernel
theorem dL_refuses_298 : decode cL_refuses 298 = .ok (.iload 10, 2) := by decide +kernel
theorem dL_refuses_300 : decode cL_refuses 300 = .ok (.iconst (-1), 1) := by decide +kernel
theorem dL_refuses_301 : decode cL_refuses 301 = .ok (.iconst 0, 1) := by decide +kernel
theorem dL_refuses_302 : decode cL_refuses 302 = .ok (.invokestatic 82, 3) := by decide +kernel
theorem dL_refuses_305 : decode cL_refuses 305 = .ok (.bipush (-71), 2) := by decide +kernel
theorem dL_refuses_307 : decode cL_refuses 307 = .ok (.if_icmp .ne 99, 3) := by decide +kernel
theorem dL_refuses_310 : decode cL_refuses 310 = .ok (.aload_n 0, 1) := by decide +kernel
theorem dL_refuses_311 : decode cL_refuses 311 = .ok (.bipush 9, 2) := by decide +kernel
theorem dL_refuses_313 : decode cL_refuses 313 = .ok (.iload 10, 2) := by decide +kernel
theorem dL_refuses_315 : decode cL_refuses 315 = .ok (.iconst (-1), 1) := by decide +kernel
theorem dL_refuses_316 : decode cL_refuses 316 = .ok (.iconst 0, 1) := by decide +kernel
theorem dL_refuses_317 : decode cL_refuses 317 = .ok (.invokestatic 82, 3) := by decide +kernel
theorem dL_refuses_320 : decode cL_refuses 320 = .ok (.bipush (-71), 2) := by decide +kernel
theorem dL_refuses_322 : decode cL_refuses 322 = .ok (.if_icmp .ne 84, 3) := by decide +kernel
theorem dL_refuses_325 : decode cL_refuses 325 = .ok (.aload_n 0, 1) := by decide +kernel
theorem dL_refuses_326 : decode cL_refuses 326 = .ok (.bipush 10, 2) := by decide +kernel
theorem dL_refuses_328 : decode cL_refuses 328 = .ok (.iload 10, 2) := by decide +kernel
theorem dL_refuses_330 : decode cL_refuses 330 = .ok (.iload 10, 2) := by decide +kernel
theorem dL_refuses_332 : decode cL_refuses 332 = .ok (.iconst 0, 1) := by decide +kernel
theorem dL_refuses_333 : decode cL_refuses 333 = .ok (.invokestatic 82, 3) := by decide +kernel
theorem dL_refuses_336 : decode cL_refuses 336 = .ok (.bipush (-71), 2) := by decide +kernel
theorem dL_refuses_338 : decode cL_refuses 338 = .ok (.if_icmp .ne 68, 3) := by decide +kernel
theorem dL_refuses_341 : decode cL_refuses 341 = .ok (.aload_n 0, 1) := by decide +kernel
theorem dL_refuses_342 : decode cL_refuses 342 = .ok (.bipush 12, 2) := by decide +kernel
theorem dL_refuses_344 : decode cL_refuses 344 = .ok (.iload 11, 2) := by decide +kernel
theorem dL_refuses_346 : decode cL_refuses 346 = .ok (.iconst 0, 1) := by decide +kernel
theorem dL_refuses_347 : decode cL_refuses 347 = .ok (.iconst 0, 1) := by decide +kernel
theorem dL_refuses_348 : decode cL_refuses 348 = .ok (.invokestatic 82, 3) := by decide +kernel
theorem dL_refuses_351 : decode cL_refuses 351 = .ok (.bipush (-71), 2) := by decide +kernel
theorem dL_refuses_353 : decode cL_refuses 353 = .ok (.if_icmp .ne 53, 3) := by decide +kernel
theorem dL_refuses_356 : decode cL_refuses 356 = .ok (.aload_n 0, 1) := by decide +kernel
theorem dL_refuses_357 : decode cL_refuses 357 = .ok (.bipush 13, 2) := by decide +kernel
theorem dL_refuses_359 : decode cL_refuses 359 = .ok (.iload 11, 2) := by decide +kernel
theorem dL_refuses_361 : decode cL_refuses 361 = .ok (.iconst 0, 1) := by decide +kernel
theorem dL_refuses_362 : decode cL_refuses 362 = .ok (.iconst 0, 1) := by decide +kernel
theorem dL_refuses_363 : decode cL_refuses 363 = .ok (.invokestatic 82, 3) := by decide +kernel
theorem dL_refuses_366 : decode cL_refuses 366 = .ok (.bipush (-71), 2) := by decide +kernel
theorem dL_refuses_368 : decode cL_refuses 368 = .ok (.if_icmp .ne 38, 3) := by decide +kernel
theorem dL_refuses_371 : decode cL_refuses 371 = .ok (.aload_n 0, 1) := by decide +kernel
theorem dL_refuses_372 : decode cL_refuses 372 = .ok (.bipush 14, 2) := by decide +kernel
theorem dL_refuses_374 : decode cL_refuses 374 = .ok (.iload 11, 2) := by decide +kernel
theorem dL_refuses_376 : decode cL_refuses 376 = .ok (.iconst 0, 1) := by decide +kernel
theorem dL_refuses_377 : decode cL_refuses 377 = .ok (.iconst 0, 1) := by decide +kernel
theorem dL_refuses_378 : decode cL_refuses 378 = .ok (.invokestatic 82, 3) := by decide +kernel
theorem dL_refuses_381 : decode cL_refuses 381 = .ok (.bipush (-71), 2) := by decide +kernel
theorem dL_refuses_383 : decode cL_refuses 383 = .ok (.if_icmp .ne 23, 3) := by decide +kernel
theorem dL_refuses_386 : decode cL_refuses 386 = .ok (.aload_n 0, 1) := by decide +kernel
theorem dL_refuses_387 : decode cL_refuses 387 = .ok (.iload 11, 2) := by decide +kernel
theorem dL_refuses_389 : decode cL_refuses 389 = .ok (.iconst (-1), 1) := by decide +kernel
theorem dL_refuses_390 : decode cL_refuses 390 = .ok (.iconst 0, 1) := by decide +kernel
theorem dL_refuses_391 : decode cL_refuses 391 = .ok (.iconst 0, 1) := by decide +kernel
theorem dL_refuses_392 : decode cL_refuses 392 = .ok (.iconst 0, 1) := by decide +kernel
theorem dL_refuses_393 : decode cL_refuses 393 = .ok (.iconst 1, 1) := by decide +kernel
theorem dL_refuses_394 : decode cL_refuses 394 = .ok (.invokestatic 91, 3) := by decide +kernel
theorem dL_refuses_397 : decode cL_refuses 397 = .ok (.bipush (-71), 2) := by decide +kernel
theorem dL_refuses_399 : decode cL_refuses 399 = .ok (.if_icmp .ne 7, 3) := by decide +kernel
theorem dL_refuses_402 : decode cL_refuses 402 = .ok (.iconst 1, 1) := by decide +kernel
theorem dL_refuses_403 : decode cL_refuses 403 = .ok (.goto 4, 3) := by decide +kernel
theorem dL_refuses_406 : decode cL_refuses 406 = .ok (.iconst 0, 1) := by decide +kernel
theorem dL_refuses_407 : decode cL_refuses 407 = .ok (.istore 15, 2) := by decide +kernel
theorem dL_refuses_409 : decode cL_refuses 409 = .ok (.iload_n 1, 1) := by decide +kernel
theorem dL_refuses_410 : decode cL_refuses 410 = .ok (.ifCond .le 103, 3) := by decide +kernel
theorem dL_refuses_413 : decode cL_refuses 413 = .ok (.iload 15, 2) := by decide +kernel
