theorem dX0_init_0 : decode cX0_init 0 = .ok (.aload_n 0, 1) := by decide +kernel
theorem dX0_init_1 : decode cX0_init 1 = .ok (.invokespecial 3, 3) := by decide +kernel
theorem dX0_init_4 : decode cX0_init 4 = .ok (.aload_n 0, 1) := by decide +kernel
theorem dX0_init_5 : decode cX0_init 5 = .ok (.bipush 12, 2) := by decide +kernel
theorem dX0_init_7 : decode cX0_init 7 = .ok (.newarray .int, 2) := by decide +kernel
theorem dX0_init_9 : decode cX0_init 9 = .ok (.putfield 9, 3) := by decide +kernel
theorem dX0_init_12 : decode cX0_init 12 = .ok (.aload_n 0, 1) := by decide +kernel
theorem dX0_init_13 : decode cX0_init 13 = .ok (.iconst 0, 1) := by decide +kernel
theorem dX0_init_14 : decode cX0_init 14 = .ok (.putfield 15, 3) := by decide +kernel
theorem dX0_init_17 : decode cX0_init 17 = .ok (.aload_n 0, 1) := by decide +kernel
theorem dX0_init_18 : decode cX0_init 18 = .ok (.getfield 9, 3) := by decide +kernel
theorem dX0_init_21 : decode cX0_init 21 = .ok (.iconst (-1), 1) := by decide +kernel
theorem dX0_init_22 : decode cX0_init 22 = .ok (.invokestatic 19, 3) := by decide +kernel
theorem dX0_init_25 : decode cX0_init 25 = .ok (.return_, 1) := by decide +kernel
theorem dX0_putIn_0 : decode cX0_putIn 0 = .ok (.aload_n 1, 1) := by decide +kernel
theorem dX0_putIn_1 : decode cX0_putIn 1 = .ok (.getfield 25, 3) := by decide +kernel
theorem dX0_putIn_4 : decode cX0_putIn 4 = .ok (.ifCond .lt 28, 3) := by decide +kernel
theorem dX0_putIn_7 : decode cX0_putIn 7 = .ok (.aload_n 1, 1) := by decide +kernel
theorem dX0_putIn_8 : decode cX0_putIn 8 = .ok (.getfield 25, 3) := by decide +kernel
theorem dX0_putIn_11 : decode cX0_putIn 11 = .ok (.aload_n 0, 1) := by decide +kernel
theorem dX0_putIn_12 : decode cX0_putIn 12 = .ok (.getfield 9, 3) := by decide +kernel
theorem dX0_putIn_15 : decode cX0_putIn 15 = .ok (.arraylength, 1) := by decide +kernel
theorem dX0_putIn_16 : decode cX0_putIn 16 = .ok (.if_icmp .ge 16, 3) := by decide +kernel
theorem dX0_putIn_19 : decode cX0_putIn 19 = .ok (.aload_n 0, 1) := by decide +kernel
theorem dX0_putIn_20 : decode cX0_putIn 20 = .ok (.getfield 9, 3) := by decide +kernel
theorem dX0_putIn_23 : decode cX0_putIn 23 = .ok (.aload_n 1, 1) := by decide +kernel
theorem dX0_putIn_24 : decode cX0_putIn 24 = .ok (.getfield 25, 3) := by decide +kernel
theorem dX0_putIn_27 : decode cX0_putIn 27 = .ok (.aload_n 1, 1) := by decide +kernel
theorem dX0_putIn_28 : decode cX0_putIn 28 = .ok (.getfield 30, 3) := by decide +kernel
theorem dX0_putIn_31 : decode cX0_putIn 31 = .ok (.iastore, 1) := by decide +kernel
theorem dX0_putIn_32 : decode cX0_putIn 32 = .ok (.aload_n 0, 1) := by decide +kernel
theorem dX0_putIn_33 : decode cX0_putIn 33 = .ok (.dup, 1) := by decide +kernel
theorem dX0_putIn_34 : decode cX0_putIn 34 = .ok (.getfield 15, 3) := by decide +kernel
theorem dX0_putIn_37 : decode cX0_putIn 37 = .ok (.iconst 1, 1) := by decide +kernel
theorem dX0_putIn_38 : decode cX0_putIn 38 = .ok (.iadd, 1) := by decide +kernel
theorem dX0_putIn_39 : decode cX0_putIn 39 = .ok (.putfield 15, 3) := by decide +kernel
theorem dX0_putIn_42 : decode cX0_putIn 42 = .ok (.return_, 1) := by decide +kernel
theorem dX0_patternOf_0 : decode cX0_patternOf 0 = .ok (.iload_n 1, 1) := by decide +kernel
theorem dX0_patternOf_1 : decode cX0_patternOf 1 = .ok (.ifCond .lt 21, 3) := by decide +kernel
theorem dX0_patternOf_4 : decode cX0_patternOf 4 = .ok (.iload_n 1, 1) := by decide +kernel
theorem dX0_patternOf_5 : decode cX0_patternOf 5 = .ok (.aload_n 0, 1) := by decide +kernel
theorem dX0_patternOf_6 : decode cX0_patternOf 6 = .ok (.getfield 9, 3) := by decide +kernel
theorem dX0_patternOf_9 : decode cX0_patternOf 9 = .ok (.arraylength, 1) := by decide +kernel
theorem dX0_patternOf_10 : decode cX0_patternOf 10 = .ok (.if_icmp .ge 12, 3) := by decide +kernel
theorem dX0_patternOf_13 : decode cX0_patternOf 13 = .ok (.aload_n 0, 1) := by decide +kernel
theorem dX0_patternOf_14 : decode cX0_patternOf 14 = .ok (.getfield 9, 3) := by decide +kernel
theorem dX0_patternOf_17 : decode cX0_patternOf 17 = .ok (.iload_n 1, 1) := by decide +kernel
theorem dX0_patternOf_18 : decode cX0_patternOf 18 = .ok (.iaload, 1) := by decide +kernel
theorem dX0_patternOf_19 : decode cX0_patternOf 19 = .ok (.goto 4, 3) := by decide +kernel
theorem dX0_patternOf_22 : decode cX0_patternOf 22 = .ok (.iconst (-1), 1) := by decide +kernel
theorem dX0_patternOf_23 : decode cX0_patternOf 23 = .ok (.ireturn, 1) := by decide +kernel
theorem dX1_init_0 : decode cX1_init 0 = .ok (.aload_n 0, 1) := by decide +kernel
theorem dX1_init_1 : decode cX1_init 1 = .ok (.invokespecial 3, 3) := by decide +kernel
theorem dX1_init_4 : decode cX1_init 4 = .ok (.aload_n 0, 1) := by decide +kernel
theorem dX1_init_5 : decode cX1_init 5 = .ok (.iconst 0, 1) := by decide +kernel
theorem dX1_init_6 : decode cX1_init 6 = .ok (.putfield 9, 3) := by decide +kernel
theorem dX1_init_9 : decode cX1_init 9 = .ok (.aload_n 0, 1) := by decide +kernel
theorem dX1_init_10 : decode cX1_init 10 = .ok (.iconst 0, 1) := by decide +kernel
theorem dX1_init_11 : decode cX1_init 11 = .ok (.putfield 15, 3) := by decide +kernel
theorem dX1_init_14 : decode cX1_init 14 = .ok (.bipush 32, 2) := by decide +kernel
theorem dX1_init_16 : decode cX1_init 16 = .ok (.newarray .int, 2) := by decide +kernel
theorem dX1_init_18 : decode cX1_init 18 = .ok (.astore 6, 2) := by decide +kernel
theorem dX1_init_20 : decode cX1_init 20 = .ok (.iconst 0, 1) := by decide +kernel
theorem dX1_init_21 : decode cX1_init 21 = .ok (.istore 7, 2) := by decide +kernel
theorem dX1_init_23 : decode cX1_init 23 = .ok (.iload 7, 2) := by decide +kernel
theorem dX1_init_25 : decode cX1_init 25 = .ok (.aload 6, 2) := by decide +kernel
theorem dX1_init_27 : decode cX1_init 27 = .ok (.arraylength, 1) := by decide +kernel
theorem dX1_init_28 : decode cX1_init 28 = .ok (.if_icmp .ge 55, 3) := by decide +kernel
theorem dX1_init_31 : decode cX1_init 31 = .ok (.iconst 0, 1) := by decide +kernel
theorem dX1_init_32 : decode cX1_init 32 = .ok (.istore 8, 2) := by decide +kernel
theorem dX1_init_34 : decode cX1_init 34 = .ok (.iload 8, 2) := by decide +kernel
theorem dX1_init_36 : decode cX1_init 36 = .ok (.bipush 32, 2) := by decide +kernel
theorem dX1_init_38 : decode cX1_init 38 = .ok (.if_icmp .ge 39, 3) := by decide +kernel
theorem dX1_init_41 : decode cX1_init 41 = .ok (.iload 8, 2) := by decide +kernel
theorem dX1_init_43 : decode cX1_init 43 = .ok (.iload_n 1, 1) := by decide +kernel
theorem dX1_init_44 : decode cX1_init 44 = .ok (.isub, 1) := by decide +kernel
theorem dX1_init_45 : decode cX1_init 45 = .ok (.iload 7, 2) := by decide +kernel
theorem dX1_init_47 : decode cX1_init 47 = .ok (.iload_n 2, 1) := by decide +kernel
theorem dX1_init_48 : decode cX1_init 48 = .ok (.isub, 1) := by decide +kernel
theorem dX1_init_49 : decode cX1_init 49 = .ok (.iload 4, 2) := by decide +kernel
theorem dX1_init_51 : decode cX1_init 51 = .ok (.iload 5, 2) := by decide +kernel
theorem dX1_init_53 : decode cX1_init 53 = .ok (.invokestatic 19, 3) := by decide +kernel
theorem dX1_init_56 : decode cX1_init 56 = .ok (.ifCond .eq 15, 3) := by decide +kernel
theorem dX1_init_59 : decode cX1_init 59 = .ok (.aload 6, 2) := by decide +kernel
theorem dX1_init_61 : decode cX1_init 61 = .ok (.iload 7, 2) := by decide +kernel
theorem dX1_init_63 : decode cX1_init 63 = .ok (.dup2, 1) := by decide +kernel
theorem dX1_init_64 : decode cX1_init 64 = .ok (.iaload, 1) := by decide +kernel
theorem dX1_init_65 : decode cX1_init 65 = .ok (.iconst 1, 1) := by decide +kernel
theorem dX1_init_66 : decode cX1_init 66 = .ok (.iload 8, 2) := by decide +kernel
theorem dX1_init_68 : decode cX1_init 68 = .ok (.ishl, 1) := by decide +kernel
theorem dX1_init_69 : decode cX1_init 69 = .ok (.ior, 1) := by decide +kernel
theorem dX1_init_70 : decode cX1_init 70 = .ok (.iastore, 1) := by decide +kernel
theorem dX1_init_71 : decode cX1_init 71 = .ok (.iinc 8 1, 3) := by decide +kernel
theorem dX1_init_74 : decode cX1_init 74 = .ok (.goto (-40), 3) := by decide +kernel
theorem dX1_init_77 : decode cX1_init 77 = .ok (.iinc 7 1, 3) := by decide +kernel
theorem dX1_init_80 : decode cX1_init 80 = .ok (.goto (-57), 3) := by decide +kernel
theorem dX1_init_83 : decode cX1_init 83 = .ok (.aload_n 0, 1) := by decide +kernel
theorem dX1_init_84 : decode cX1_init 84 = .ok (.iload_n 1, 1) := by decide +kernel
theorem dX1_init_85 : decode cX1_init 85 = .ok (.putfield 23, 3) := by decide +kernel
theorem dX1_init_88 : decode cX1_init 88 = .ok (.aload_n 0, 1) := by decide +kernel
theorem dX1_init_89 : decode cX1_init 89 = .ok (.iload_n 2, 1) := by decide +kernel
theorem dX1_init_90 : decode cX1_init 90 = .ok (.putfield 26, 3) := by decide +kernel
theorem dX1_init_93 : decode cX1_init 93 = .ok (.aload_n 0, 1) := by decide +kernel
theorem dX1_init_94 : decode cX1_init 94 = .ok (.aload 6, 2) := by decide +kernel
theorem dX1_init_96 : decode cX1_init 96 = .ok (.putfield 29, 3) := by decide +kernel
theorem dX1_init_99 : decode cX1_init 99 = .ok (.aload_n 0, 1) := by decide +kernel
theorem dX1_init_100 : decode cX1_init 100 = .ok (.iload_n 3, 1) := by decide +kernel
theorem dX1_init_101 : decode cX1_init 101 = .ok (.putfield 33, 3) := by decide +kernel
theorem dX1_init_104 : decode cX1_init 104 = .ok (.return_, 1) := by decide +kernel
theorem dX1_isWithin_0 : decode cX1_isWithin 0 = .ok (.iload_n 0, 1) := by decide +kernel
theorem dX1_isWithin_1 : decode cX1_isWithin 1 = .ok (.invokestatic 36, 3) := by decide +kernel
theorem dX1_isWithin_4 : decode cX1_isWithin 4 = .ok (.iload_n 2, 1) := by decide +kernel
theorem dX1_isWithin_5 : decode cX1_isWithin 5 = .ok (.if_icmp .gt 11, 3) := by decide +kernel
theorem dX1_isWithin_8 : decode cX1_isWithin 8 = .ok (.iload_n 1, 1) := by decide +kernel
theorem dX1_isWithin_9 : decode cX1_isWithin 9 = .ok (.invokestatic 36, 3) := by decide +kernel
theorem dX1_isWithin_12 : decode cX1_isWithin 12 = .ok (.iload_n 2, 1) := by decide +kernel
theorem dX1_isWithin_13 : decode cX1_isWithin 13 = .ok (.if_icmp .le 5, 3) := by decide +kernel
theorem dX1_isWithin_16 : decode cX1_isWithin 16 = .ok (.iconst 0, 1) := by decide +kernel
theorem dX1_isWithin_17 : decode cX1_isWithin 17 = .ok (.ireturn, 1) := by decide +kernel
theorem dX1_isWithin_18 : decode cX1_isWithin 18 = .ok (.iload_n 0, 1) := by decide +kernel
theorem dX1_isWithin_19 : decode cX1_isWithin 19 = .ok (.iload_n 1, 1) := by decide +kernel
theorem dX1_isWithin_20 : decode cX1_isWithin 20 = .ok (.invokestatic 42, 3) := by decide +kernel
theorem dX1_isWithin_23 : decode cX1_isWithin 23 = .ok (.istore 4, 2) := by decide +kernel
theorem dX1_isWithin_25 : decode cX1_isWithin 25 = .ok (.iload 4, 2) := by decide +kernel
theorem dX1_isWithin_27 : decode cX1_isWithin 27 = .ok (.iconst (-1), 1) := by decide +kernel
theorem dX1_isWithin_28 : decode cX1_isWithin 28 = .ok (.if_icmp .eq 13, 3) := by decide +kernel
theorem dX1_isWithin_31 : decode cX1_isWithin 31 = .ok (.iload_n 3, 1) := by decide +kernel
theorem dX1_isWithin_32 : decode cX1_isWithin 32 = .ok (.iload 4, 2) := by decide +kernel
theorem dX1_isWithin_34 : decode cX1_isWithin 34 = .ok (.iushr, 1) := by decide +kernel
theorem dX1_isWithin_35 : decode cX1_isWithin 35 = .ok (.iconst 1, 1) := by decide +kernel
theorem dX1_isWithin_36 : decode cX1_isWithin 36 = .ok (.iand, 1) := by decide +kernel
theorem dX1_isWithin_37 : decode cX1_isWithin 37 = .ok (.iconst 1, 1) := by decide +kernel
theorem dX1_isWithin_38 : decode cX1_isWithin 38 = .ok (.if_icmp .ne 7, 3) := by decide +kernel
theorem dX1_isWithin_41 : decode cX1_isWithin 41 = .ok (.iconst 1, 1) := by decide +kernel
theorem dX1_isWithin_42 : decode cX1_isWithin 42 = .ok (.goto 4, 3) := by decide +kernel
theorem dX1_isWithin_45 : decode cX1_isWithin 45 = .ok (.iconst 0, 1) := by decide +kernel
theorem dX1_isWithin_46 : decode cX1_isWithin 46 = .ok (.ireturn, 1) := by decide +kernel
theorem dX1_sectorOf_0 : decode cX1_sectorOf 0 = .ok (.iload_n 0, 1) := by decide +kernel
theorem dX1_sectorOf_1 : decode cX1_sectorOf 1 = .ok (.ifCond .ne 9, 3) := by decide +kernel
theorem dX1_sectorOf_4 : decode cX1_sectorOf 4 = .ok (.iload_n 1, 1) := by decide +kernel
theorem dX1_sectorOf_5 : decode cX1_sectorOf 5 = .ok (.ifCond .ne 5, 3) := by decide +kernel
theorem dX1_sectorOf_8 : decode cX1_sectorOf 8 = .ok (.iconst (-1), 1) := by decide +kernel
theorem dX1_sectorOf_9 : decode cX1_sectorOf 9 = .ok (.ireturn, 1) := by decide +kernel
theorem dX1_sectorOf_10 : decode cX1_sectorOf 10 = .ok (.iload_n 0, 1) := by decide +kernel
theorem dX1_sectorOf_11 : decode cX1_sectorOf 11 = .ok (.iload_n 1, 1) := by decide +kernel
theorem dX1_sectorOf_12 : decode cX1_sectorOf 12 = .ok (.invokestatic 46, 3) := by decide +kernel
theorem dX1_sectorOf_15 : decode cX1_sectorOf 15 = .ok (.istore_n 2, 1) := by decide +kernel
theorem dX1_sectorOf_16 : decode cX1_sectorOf 16 = .ok (.iload_n 2, 1) := by decide +kernel
theorem dX1_sectorOf_17 : decode cX1_sectorOf 17 = .ok (.iconst 2, 1) := by decide +kernel
theorem dX1_sectorOf_18 : decode cX1_sectorOf 18 = .ok (.irem, 1) := by decide +kernel
theorem dX1_sectorOf_19 : decode cX1_sectorOf 19 = .ok (.ifCond .ne 10, 3) := by decide +kernel
theorem dX1_sectorOf_22 : decode cX1_sectorOf 22 = .ok (.iload_n 0, 1) := by decide +kernel
theorem dX1_sectorOf_23 : decode cX1_sectorOf 23 = .ok (.invokestatic 36, 3) := by decide +kernel
theorem dX1_sectorOf_26 : decode cX1_sectorOf 26 = .ok (.goto 7, 3) := by decide +kernel
theorem dX1_sectorOf_29 : decode cX1_sectorOf 29 = .ok (.iload_n 1, 1) := by decide +kernel
theorem dX1_sectorOf_30 : decode cX1_sectorOf 30 = .ok (.invokestatic 36, 3) := by decide +kernel
theorem dX1_sectorOf_33 : decode cX1_sectorOf 33 = .ok (.istore_n 3, 1) := by decide +kernel
theorem dX1_sectorOf_34 : decode cX1_sectorOf 34 = .ok (.iload_n 2, 1) := by decide +kernel
theorem dX1_sectorOf_35 : decode cX1_sectorOf 35 = .ok (.iconst 2, 1) := by decide +kernel
theorem dX1_sectorOf_36 : decode cX1_sectorOf 36 = .ok (.irem, 1) := by decide +kernel
theorem dX1_sectorOf_37 : decode cX1_sectorOf 37 = .ok (.ifCond .ne 10, 3) := by decide +kernel
theorem dX1_sectorOf_40 : decode cX1_sectorOf 40 = .ok (.iload_n 1, 1) := by decide +kernel
theorem dX1_sectorOf_41 : decode cX1_sectorOf 41 = .ok (.invokestatic 36, 3) := by decide +kernel
theorem dX1_sectorOf_44 : decode cX1_sectorOf 44 = .ok (.goto 7, 3) := by decide +kernel
theorem dX1_sectorOf_47 : decode cX1_sectorOf 47 = .ok (.iload_n 0, 1) := by decide +kernel
theorem dX1_sectorOf_48 : decode cX1_sectorOf 48 = .ok (.invokestatic 36, 3) := by decide +kernel
theorem dX1_sectorOf_51 : decode cX1_sectorOf 51 = .ok (.istore 4, 2) := by decide +kernel
theorem dX1_sectorOf_53 : decode cX1_sectorOf 53 = .ok (.iload 4, 2) := by decide +kernel
theorem dX1_sectorOf_55 : decode cX1_sectorOf 55 = .ok (.iload_n 3, 1) := by decide +kernel
theorem dX1_sectorOf_56 : decode cX1_sectorOf 56 = .ok (.if_icmp .lt 11, 3) := by decide +kernel
theorem dX1_sectorOf_59 : decode cX1_sectorOf 59 = .ok (.iconst 2, 1) := by decide +kernel
theorem dX1_sectorOf_60 : decode cX1_sectorOf 60 = .ok (.iload_n 2, 1) := by decide +kernel
theorem dX1_sectorOf_61 : decode cX1_sectorOf 61 = .ok (.imul, 1) := by decide +kernel
theorem dX1_sectorOf_62 : decode cX1_sectorOf 62 = .ok (.iconst 1, 1) := by decide +kernel
theorem dX1_sectorOf_63 : decode cX1_sectorOf 63 = .ok (.iadd, 1) := by decide +kernel
theorem dX1_sectorOf_64 : decode cX1_sectorOf 64 = .ok (.goto 6, 3) := by decide +kernel
theorem dX1_sectorOf_67 : decode cX1_sectorOf 67 = .ok (.iconst 2, 1) := by decide +kernel
theorem dX1_sectorOf_68 : decode cX1_sectorOf 68 = .ok (.iload_n 2, 1) := by decide +kernel
theorem dX1_sectorOf_69 : decode cX1_sectorOf 69 = .ok (.imul, 1) := by decide +kernel
theorem dX1_sectorOf_70 : decode cX1_sectorOf 70 = .ok (.ireturn, 1) := by decide +kernel
theorem dX1_quarterOf_0 : decode cX1_quarterOf 0 = .ok (.iload_n 0, 1) := by decide +kernel
theorem dX1_quarterOf_1 : decode cX1_quarterOf 1 = .ok (.ifCond .le 9, 3) := by decide +kernel
theorem dX1_quarterOf_4 : decode cX1_quarterOf 4 = .ok (.iload_n 1, 1) := by decide +kernel
theorem dX1_quarterOf_5 : decode cX1_quarterOf 5 = .ok (.ifCond .lt 5, 3) := by decide +kernel
theorem dX1_quarterOf_8 : decode cX1_quarterOf 8 = .ok (.iconst 0, 1) := by decide +kernel
theorem dX1_quarterOf_9 : decode cX1_quarterOf 9 = .ok (.ireturn, 1) := by decide +kernel
theorem dX1_quarterOf_10 : decode cX1_quarterOf 10 = .ok (.iload_n 0, 1) := by decide +kernel
theorem dX1_quarterOf_11 : decode cX1_quarterOf 11 = .ok (.ifCond .gt 9, 3) := by decide +kernel
theorem dX1_quarterOf_14 : decode cX1_quarterOf 14 = .ok (.iload_n 1, 1) := by decide +kernel
theorem dX1_quarterOf_15 : decode cX1_quarterOf 15 = .ok (.ifCond .le 5, 3) := by decide +kernel
theorem dX1_quarterOf_18 : decode cX1_quarterOf 18 = .ok (.iconst 1, 1) := by decide +kernel
theorem dX1_quarterOf_19 : decode cX1_quarterOf 19 = .ok (.ireturn, 1) := by decide +kernel
theorem dX1_quarterOf_20 : decode cX1_quarterOf 20 = .ok (.iload_n 0, 1) := by decide +kernel
theorem dX1_quarterOf_21 : decode cX1_quarterOf 21 = .ok (.ifCond .ge 9, 3) := by decide +kernel
theorem dX1_quarterOf_24 : decode cX1_quarterOf 24 = .ok (.iload_n 1, 1) := by decide +kernel
theorem dX1_quarterOf_25 : decode cX1_quarterOf 25 = .ok (.ifCond .gt 5, 3) := by decide +kernel
theorem dX1_quarterOf_28 : decode cX1_quarterOf 28 = .ok (.iconst 2, 1) := by decide +kernel
theorem dX1_quarterOf_29 : decode cX1_quarterOf 29 = .ok (.ireturn, 1) := by decide +kernel
theorem dX1_quarterOf_30 : decode cX1_quarterOf 30 = .ok (.iconst 3, 1) := by decide +kernel
theorem dX1_quarterOf_31 : decode cX1_quarterOf 31 = .ok (.ireturn, 1) := by decide +kernel
theorem dX1_canBeSeenFrom_0 : decode cX1_canBeSeenFrom 0 = .ok (.iload_n 2, 1) := by decide +kernel
theorem dX1_canBeSeenFrom_1 : decode cX1_canBeSeenFrom 1 = .ok (.ifCond .lt 22, 3) := by decide +kernel
theorem dX1_canBeSeenFrom_4 : decode cX1_canBeSeenFrom 4 = .ok (.iload_n 2, 1) := by decide +kernel
theorem dX1_canBeSeenFrom_5 : decode cX1_canBeSeenFrom 5 = .ok (.aload_n 0, 1) := by decide +kernel
theorem dX1_canBeSeenFrom_6 : decode cX1_canBeSeenFrom 6 = .ok (.getfield 29, 3) := by decide +kernel
theorem dX1_canBeSeenFrom_9 : decode cX1_canBeSeenFrom 9 = .ok (.arraylength, 1) := by decide +kernel
theorem dX1_canBeSeenFrom_10 : decode cX1_canBeSeenFrom 10 = .ok (.if_icmp .ge 13, 3) := by decide +kernel
theorem dX1_canBeSeenFrom_13 : decode cX1_canBeSeenFrom 13 = .ok (.iload_n 1, 1) := by decide +kernel
theorem dX1_canBeSeenFrom_14 : decode cX1_canBeSeenFrom 14 = .ok (.ifCond .lt 9, 3) := by decide +kernel
theorem dX1_canBeSeenFrom_17 : decode cX1_canBeSeenFrom 17 = .ok (.iload_n 1, 1) := by decide +kernel
theorem dX1_canBeSeenFrom_18 : decode cX1_canBeSeenFrom 18 = .ok (.bipush 32, 2) := by decide +kernel
theorem dX1_canBeSeenFrom_20 : decode cX1_canBeSeenFrom 20 = .ok (.if_icmp .lt 5, 3) := by decide +kernel
theorem dX1_canBeSeenFrom_23 : decode cX1_canBeSeenFrom 23 = .ok (.iconst 0, 1) := by decide +kernel
theorem dX1_canBeSeenFrom_24 : decode cX1_canBeSeenFrom 24 = .ok (.ireturn, 1) := by decide +kernel
theorem dX1_canBeSeenFrom_25 : decode cX1_canBeSeenFrom 25 = .ok (.aload_n 0, 1) := by decide +kernel
theorem dX1_canBeSeenFrom_26 : decode cX1_canBeSeenFrom 26 = .ok (.getfield 29, 3) := by decide +kernel
theorem dX1_canBeSeenFrom_29 : decode cX1_canBeSeenFrom 29 = .ok (.iload_n 2, 1) := by decide +kernel
theorem dX1_canBeSeenFrom_30 : decode cX1_canBeSeenFrom 30 = .ok (.iaload, 1) := by decide +kernel
theorem dX1_canBeSeenFrom_31 : decode cX1_canBeSeenFrom 31 = .ok (.iload_n 1, 1) := by decide +kernel
theorem dX1_canBeSeenFrom_32 : decode cX1_canBeSeenFrom 32 = .ok (.iushr, 1) := by decide +kernel
theorem dX1_canBeSeenFrom_33 : decode cX1_canBeSeenFrom 33 = .ok (.iconst 1, 1) := by decide +kernel
theorem dX1_canBeSeenFrom_34 : decode cX1_canBeSeenFrom 34 = .ok (.iand, 1) := by decide +kernel
theorem dX1_canBeSeenFrom_35 : decode cX1_canBeSeenFrom 35 = .ok (.iconst 1, 1) := by decide +kernel
theorem dX1_canBeSeenFrom_36 : decode cX1_canBeSeenFrom 36 = .ok (.if_icmp .ne 7, 3) := by decide +kernel
theorem dX1_canBeSeenFrom_39 : decode cX1_canBeSeenFrom 39 = .ok (.iconst 1, 1) := by decide +kernel
theorem dX1_canBeSeenFrom_40 : decode cX1_canBeSeenFrom 40 = .ok (.goto 4, 3) := by decide +kernel
theorem dX1_canBeSeenFrom_43 : decode cX1_canBeSeenFrom 43 = .ok (.iconst 0, 1) := by decide +kernel
theorem dX1_canBeSeenFrom_44 : decode cX1_canBeSeenFrom 44 = .ok (.ireturn, 1) := by decide +kernel
theorem dX1_placesSharedWith_0 : decode cX1_placesSharedWith 0 = .ok (.iconst 0, 1) := by decide +kernel
theorem dX1_placesSharedWith_1 : decode cX1_placesSharedWith 1 = .ok (.istore_n 2, 1) := by decide +kernel
theorem dX1_placesSharedWith_2 : decode cX1_placesSharedWith 2 = .ok (.iconst 0, 1) := by decide +kernel
theorem dX1_placesSharedWith_3 : decode cX1_placesSharedWith 3 = .ok (.istore_n 3, 1) := by decide +kernel
theorem dX1_placesSharedWith_4 : decode cX1_placesSharedWith 4 = .ok (.iload_n 3, 1) := by decide +kernel
theorem dX1_placesSharedWith_5 : decode cX1_placesSharedWith 5 = .ok (.aload_n 0, 1) := by decide +kernel
theorem dX1_placesSharedWith_6 : decode cX1_placesSharedWith 6 = .ok (.getfield 29, 3) := by decide +kernel
theorem dX1_placesSharedWith_9 : decode cX1_placesSharedWith 9 = .ok (.arraylength, 1) := by decide +kernel
theorem dX1_placesSharedWith_10 : decode cX1_placesSharedWith 10 = .ok (.if_icmp .ge 37, 3) := by decide +kernel
theorem dX1_placesSharedWith_13 : decode cX1_placesSharedWith 13 = .ok (.iload_n 3, 1) := by decide +kernel
theorem dX1_placesSharedWith_14 : decode cX1_placesSharedWith 14 = .ok (.aload_n 1, 1) := by decide +kernel
theorem dX1_placesSharedWith_15 : decode cX1_placesSharedWith 15 = .ok (.getfield 29, 3) := by decide +kernel
theorem dX1_placesSharedWith_18 : decode cX1_placesSharedWith 18 = .ok (.arraylength, 1) := by decide +kernel
theorem dX1_placesSharedWith_19 : decode cX1_placesSharedWith 19 = .ok (.if_icmp .ge 28, 3) := by decide +kernel
theorem dX1_placesSharedWith_22 : decode cX1_placesSharedWith 22 = .ok (.iload_n 2, 1) := by decide +kernel
theorem dX1_placesSharedWith_23 : decode cX1_placesSharedWith 23 = .ok (.aload_n 0, 1) := by decide +kernel
theorem dX1_placesSharedWith_24 : decode cX1_placesSharedWith 24 = .ok (.getfield 29, 3) := by decide +kernel
theorem dX1_placesSharedWith_27 : decode cX1_placesSharedWith 27 = .ok (.iload_n 3, 1) := by decide +kernel
theorem dX1_placesSharedWith_28 : decode cX1_placesSharedWith 28 = .ok (.iaload, 1) := by decide +kernel
theorem dX1_placesSharedWith_29 : decode cX1_placesSharedWith 29 = .ok (.aload_n 1, 1) := by decide +kernel
theorem dX1_placesSharedWith_30 : decode cX1_placesSharedWith 30 = .ok (.getfield 29, 3) := by decide +kernel
theorem dX1_placesSharedWith_33 : decode cX1_placesSharedWith 33 = .ok (.iload_n 3, 1) := by decide +kernel
theorem dX1_placesSharedWith_34 : decode cX1_placesSharedWith 34 = .ok (.iaload, 1) := by decide +kernel
theorem dX1_placesSharedWith_35 : decode cX1_placesSharedWith 35 = .ok (.iand, 1) := by decide +kernel
theorem dX1_placesSharedWith_36 : decode cX1_placesSharedWith 36 = .ok (.invokestatic 49, 3) := by decide +kernel
theorem dX1_placesSharedWith_39 : decode cX1_placesSharedWith 39 = .ok (.iadd, 1) := by decide +kernel
theorem dX1_placesSharedWith_40 : decode cX1_placesSharedWith 40 = .ok (.istore_n 2, 1) := by decide +kernel
theorem dX1_placesSharedWith_41 : decode cX1_placesSharedWith 41 = .ok (.iinc 3 1, 3) := by decide +kernel
theorem dX1_placesSharedWith_44 : decode cX1_placesSharedWith 44 = .ok (.goto (-40), 3) := by decide +kernel
theorem dX1_placesSharedWith_47 : decode cX1_placesSharedWith 47 = .ok (.iload_n 2, 1) := by decide +kernel
theorem dX1_placesSharedWith_48 : decode cX1_placesSharedWith 48 = .ok (.ireturn, 1) := by decide +kernel
theorem dX2_init_0 : decode cX2_init 0 = .ok (.aload_n 0, 1) := by decide +kernel
theorem dX2_init_1 : decode cX2_init 1 = .ok (.invokespecial 1, 3) := by decide +kernel
theorem dX2_init_4 : decode cX2_init 4 = .ok (.aload_n 0, 1) := by decide +kernel
theorem dX2_init_5 : decode cX2_init 5 = .ok (.iload_n 1, 1) := by decide +kernel
theorem dX2_init_6 : decode cX2_init 6 = .ok (.putfield 7, 3) := by decide +kernel
theorem dX2_init_9 : decode cX2_init 9 = .ok (.aload_n 0, 1) := by decide +kernel
theorem dX2_init_10 : decode cX2_init 10 = .ok (.iload_n 2, 1) := by decide +kernel
theorem dX2_init_11 : decode cX2_init 11 = .ok (.putfield 13, 3) := by decide +kernel
theorem dX2_init_14 : decode cX2_init 14 = .ok (.return_, 1) := by decide +kernel
theorem dX3_init_0 : decode cX3_init 0 = .ok (.aload_n 0, 1) := by decide +kernel
theorem dX3_init_1 : decode cX3_init 1 = .ok (.invokespecial 1, 3) := by decide +kernel
theorem dX3_init_4 : decode cX3_init 4 = .ok (.iconst 0, 1) := by decide +kernel
theorem dX3_init_5 : decode cX3_init 5 = .ok (.istore_n 2, 1) := by decide +kernel
theorem dX3_init_6 : decode cX3_init 6 = .ok (.lconst 0, 1) := by decide +kernel
theorem dX3_init_7 : decode cX3_init 7 = .ok (.lstore_n 3, 1) := by decide +kernel
theorem dX3_init_8 : decode cX3_init 8 = .ok (.iconst 0, 1) := by decide +kernel
theorem dX3_init_9 : decode cX3_init 9 = .ok (.istore 5, 2) := by decide +kernel
theorem dX3_init_11 : decode cX3_init 11 = .ok (.iload 5, 2) := by decide +kernel
theorem dX3_init_13 : decode cX3_init 13 = .ok (.aload_n 1, 1) := by decide +kernel
theorem dX3_init_14 : decode cX3_init 14 = .ok (.arraylength, 1) := by decide +kernel
theorem dX3_init_15 : decode cX3_init 15 = .ok (.if_icmp .ge 43, 3) := by decide +kernel
theorem dX3_init_18 : decode cX3_init 18 = .ok (.iconst 0, 1) := by decide +kernel
theorem dX3_init_19 : decode cX3_init 19 = .ok (.istore 6, 2) := by decide +kernel
theorem dX3_init_21 : decode cX3_init 21 = .ok (.iload 6, 2) := by decide +kernel
theorem dX3_init_23 : decode cX3_init 23 = .ok (.aload_n 1, 1) := by decide +kernel
theorem dX3_init_24 : decode cX3_init 24 = .ok (.iload 5, 2) := by decide +kernel
theorem dX3_init_26 : decode cX3_init 26 = .ok (.iaload, 1) := by decide +kernel
theorem dX3_init_27 : decode cX3_init 27 = .ok (.if_icmp .ge 25, 3) := by decide +kernel
theorem dX3_init_30 : decode cX3_init 30 = .ok (.iload 5, 2) := by decide +kernel
theorem dX3_init_32 : decode cX3_init 32 = .ok (.iconst 2, 1) := by decide +kernel
theorem dX3_init_33 : decode cX3_init 33 = .ok (.irem, 1) := by decide +kernel
theorem dX3_init_34 : decode cX3_init 34 = .ok (.ifCond .ne 9, 3) := by decide +kernel
theorem dX3_init_37 : decode cX3_init 37 = .ok (.lload_n 3, 1) := by decide +kernel
theorem dX3_init_38 : decode cX3_init 38 = .ok (.lconst 1, 1) := by decide +kernel
theorem dX3_init_39 : decode cX3_init 39 = .ok (.iload_n 2, 1) := by decide +kernel
theorem dX3_init_40 : decode cX3_init 40 = .ok (.lshl, 1) := by decide +kernel
theorem dX3_init_41 : decode cX3_init 41 = .ok (.lor, 1) := by decide +kernel
theorem dX3_init_42 : decode cX3_init 42 = .ok (.lstore_n 3, 1) := by decide +kernel
theorem dX3_init_43 : decode cX3_init 43 = .ok (.iinc 2 1, 3) := by decide +kernel
theorem dX3_init_46 : decode cX3_init 46 = .ok (.iinc 6 1, 3) := by decide +kernel
theorem dX3_init_49 : decode cX3_init 49 = .ok (.goto (-28), 3) := by decide +kernel
theorem dX3_init_52 : decode cX3_init 52 = .ok (.iinc 5 1, 3) := by decide +kernel
theorem dX3_init_55 : decode cX3_init 55 = .ok (.goto (-44), 3) := by decide +kernel
theorem dX3_init_58 : decode cX3_init 58 = .ok (.aload_n 0, 1) := by decide +kernel
theorem dX3_init_59 : decode cX3_init 59 = .ok (.iload_n 2, 1) := by decide +kernel
theorem dX3_init_60 : decode cX3_init 60 = .ok (.putfield 7, 3) := by decide +kernel
theorem dX3_init_63 : decode cX3_init 63 = .ok (.aload_n 0, 1) := by decide +kernel
theorem dX3_init_64 : decode cX3_init 64 = .ok (.lload_n 3, 1) := by decide +kernel
theorem dX3_init_65 : decode cX3_init 65 = .ok (.putfield 13, 3) := by decide +kernel
theorem dX3_init_68 : decode cX3_init 68 = .ok (.aload_n 0, 1) := by decide +kernel
theorem dX3_init_69 : decode cX3_init 69 = .ok (.aload_n 1, 1) := by decide +kernel
theorem dX3_init_70 : decode cX3_init 70 = .ok (.aload_n 1, 1) := by decide +kernel
theorem dX3_init_71 : decode cX3_init 71 = .ok (.invokestatic 17, 3) := by decide +kernel
theorem dX3_init_74 : decode cX3_init 74 = .ok (.invokestatic 21, 3) := by decide +kernel
theorem dX3_init_77 : decode cX3_init 77 = .ok (.putfield 27, 3) := by decide +kernel
theorem dX3_init_80 : decode cX3_init 80 = .ok (.return_, 1) := by decide +kernel
theorem dX3_fewestOf_0 : decode cX3_fewestOf 0 = .ok (.iconst 2, 1) := by decide +kernel
theorem dX3_fewestOf_1 : decode cX3_fewestOf 1 = .ok (.istore_n 1, 1) := by decide +kernel
theorem dX3_fewestOf_2 : decode cX3_fewestOf 2 = .ok (.iload_n 1, 1) := by decide +kernel
theorem dX3_fewestOf_3 : decode cX3_fewestOf 3 = .ok (.aload_n 0, 1) := by decide +kernel
theorem dX3_fewestOf_4 : decode cX3_fewestOf 4 = .ok (.arraylength, 1) := by decide +kernel
theorem dX3_fewestOf_5 : decode cX3_fewestOf 5 = .ok (.if_icmp .ge 26, 3) := by decide +kernel
theorem dX3_fewestOf_8 : decode cX3_fewestOf 8 = .ok (.aload_n 0, 1) := by decide +kernel
theorem dX3_fewestOf_9 : decode cX3_fewestOf 9 = .ok (.arraylength, 1) := by decide +kernel
theorem dX3_fewestOf_10 : decode cX3_fewestOf 10 = .ok (.iload_n 1, 1) := by decide +kernel
theorem dX3_fewestOf_11 : decode cX3_fewestOf 11 = .ok (.irem, 1) := by decide +kernel
theorem dX3_fewestOf_12 : decode cX3_fewestOf 12 = .ok (.ifCond .ne 13, 3) := by decide +kernel
theorem dX3_fewestOf_15 : decode cX3_fewestOf 15 = .ok (.aload_n 0, 1) := by decide +kernel
theorem dX3_fewestOf_16 : decode cX3_fewestOf 16 = .ok (.iload_n 1, 1) := by decide +kernel
theorem dX3_fewestOf_17 : decode cX3_fewestOf 17 = .ok (.invokestatic 31, 3) := by decide +kernel
theorem dX3_fewestOf_20 : decode cX3_fewestOf 20 = .ok (.ifCond .eq 5, 3) := by decide +kernel
theorem dX3_fewestOf_23 : decode cX3_fewestOf 23 = .ok (.iload_n 1, 1) := by decide +kernel
theorem dX3_fewestOf_24 : decode cX3_fewestOf 24 = .ok (.ireturn, 1) := by decide +kernel
theorem dX3_fewestOf_25 : decode cX3_fewestOf 25 = .ok (.iinc 1 2, 3) := by decide +kernel
theorem dX3_fewestOf_28 : decode cX3_fewestOf 28 = .ok (.goto (-26), 3) := by decide +kernel
theorem dX3_fewestOf_31 : decode cX3_fewestOf 31 = .ok (.aload_n 0, 1) := by decide +kernel
theorem dX3_fewestOf_32 : decode cX3_fewestOf 32 = .ok (.arraylength, 1) := by decide +kernel
theorem dX3_fewestOf_33 : decode cX3_fewestOf 33 = .ok (.ireturn, 1) := by decide +kernel
theorem dX3_repeatsAfter_0 : decode cX3_repeatsAfter 0 = .ok (.iload_n 1, 1) := by decide +kernel
theorem dX3_repeatsAfter_1 : decode cX3_repeatsAfter 1 = .ok (.istore_n 2, 1) := by decide +kernel
theorem dX3_repeatsAfter_2 : decode cX3_repeatsAfter 2 = .ok (.iload_n 2, 1) := by decide +kernel
theorem dX3_repeatsAfter_3 : decode cX3_repeatsAfter 3 = .ok (.aload_n 0, 1) := by decide +kernel
theorem dX3_repeatsAfter_4 : decode cX3_repeatsAfter 4 = .ok (.arraylength, 1) := by decide +kernel
theorem dX3_repeatsAfter_5 : decode cX3_repeatsAfter 5 = .ok (.if_icmp .ge 22, 3) := by decide +kernel
theorem dX3_repeatsAfter_8 : decode cX3_repeatsAfter 8 = .ok (.aload_n 0, 1) := by decide +kernel
theorem dX3_repeatsAfter_9 : decode cX3_repeatsAfter 9 = .ok (.iload_n 2, 1) := by decide +kernel
theorem dX3_repeatsAfter_10 : decode cX3_repeatsAfter 10 = .ok (.iaload, 1) := by decide +kernel
theorem dX3_repeatsAfter_11 : decode cX3_repeatsAfter 11 = .ok (.aload_n 0, 1) := by decide +kernel
theorem dX3_repeatsAfter_12 : decode cX3_repeatsAfter 12 = .ok (.iload_n 2, 1) := by decide +kernel
theorem dX3_repeatsAfter_13 : decode cX3_repeatsAfter 13 = .ok (.iload_n 1, 1) := by decide +kernel
theorem dX3_repeatsAfter_14 : decode cX3_repeatsAfter 14 = .ok (.isub, 1) := by decide +kernel
theorem dX3_repeatsAfter_15 : decode cX3_repeatsAfter 15 = .ok (.iaload, 1) := by decide +kernel
theorem dX3_repeatsAfter_16 : decode cX3_repeatsAfter 16 = .ok (.if_icmp .eq 5, 3) := by decide +kernel
theorem dX3_repeatsAfter_19 : decode cX3_repeatsAfter 19 = .ok (.iconst 0, 1) := by decide +kernel
theorem dX3_repeatsAfter_20 : decode cX3_repeatsAfter 20 = .ok (.ireturn, 1) := by decide +kernel
theorem dX3_repeatsAfter_21 : decode cX3_repeatsAfter 21 = .ok (.iinc 2 1, 3) := by decide +kernel
theorem dX3_repeatsAfter_24 : decode cX3_repeatsAfter 24 = .ok (.goto (-22), 3) := by decide +kernel
theorem dX3_repeatsAfter_27 : decode cX3_repeatsAfter 27 = .ok (.iconst 1, 1) := by decide +kernel
theorem dX3_repeatsAfter_28 : decode cX3_repeatsAfter 28 = .ok (.ireturn, 1) := by decide +kernel
theorem dX3_isLight_0 : decode cX3_isLight 0 = .ok (.aload_n 0, 1) := by decide +kernel
theorem dX3_isLight_1 : decode cX3_isLight 1 = .ok (.getfield 7, 3) := by decide +kernel
theorem dX3_isLight_4 : decode cX3_isLight 4 = .ok (.iconst 1, 1) := by decide +kernel
theorem dX3_isLight_5 : decode cX3_isLight 5 = .ok (.if_icmp .lt 7, 3) := by decide +kernel
theorem dX3_isLight_8 : decode cX3_isLight 8 = .ok (.iload_n 1, 1) := by decide +kernel
theorem dX3_isLight_9 : decode cX3_isLight 9 = .ok (.ifCond .ge 5, 3) := by decide +kernel
theorem dX3_isLight_12 : decode cX3_isLight 12 = .ok (.iconst 0, 1) := by decide +kernel
theorem dX3_isLight_13 : decode cX3_isLight 13 = .ok (.ireturn, 1) := by decide +kernel
theorem dX3_isLight_14 : decode cX3_isLight 14 = .ok (.aload_n 0, 1) := by decide +kernel
theorem dX3_isLight_15 : decode cX3_isLight 15 = .ok (.getfield 13, 3) := by decide +kernel
theorem dX3_isLight_18 : decode cX3_isLight 18 = .ok (.iload_n 1, 1) := by decide +kernel
theorem dX3_isLight_19 : decode cX3_isLight 19 = .ok (.aload_n 0, 1) := by decide +kernel
theorem dX3_isLight_20 : decode cX3_isLight 20 = .ok (.getfield 7, 3) := by decide +kernel
theorem dX3_isLight_23 : decode cX3_isLight 23 = .ok (.irem, 1) := by decide +kernel
theorem dX3_isLight_24 : decode cX3_isLight 24 = .ok (.lushr, 1) := by decide +kernel
theorem dX3_isLight_25 : decode cX3_isLight 25 = .ok (.lconst 1, 1) := by decide +kernel
theorem dX3_isLight_26 : decode cX3_isLight 26 = .ok (.land, 1) := by decide +kernel
theorem dX3_isLight_27 : decode cX3_isLight 27 = .ok (.lconst 1, 1) := by decide +kernel
theorem dX3_isLight_28 : decode cX3_isLight 28 = .ok (.lcmp, 1) := by decide +kernel
theorem dX3_isLight_29 : decode cX3_isLight 29 = .ok (.ifCond .ne 7, 3) := by decide +kernel
theorem dX3_isLight_32 : decode cX3_isLight 32 = .ok (.iconst 1, 1) := by decide +kernel
theorem dX3_isLight_33 : decode cX3_isLight 33 = .ok (.goto 4, 3) := by decide +kernel
theorem dX3_isLight_36 : decode cX3_isLight 36 = .ok (.iconst 0, 1) := by decide +kernel
theorem dX3_isLight_37 : decode cX3_isLight 37 = .ok (.ireturn, 1) := by decide +kernel
theorem dX3_hasPhasesOf_0 : decode cX3_hasPhasesOf 0 = .ok (.aload_n 0, 1) := by decide +kernel
theorem dX3_hasPhasesOf_1 : decode cX3_hasPhasesOf 1 = .ok (.getfield 27, 3) := by decide +kernel
theorem dX3_hasPhasesOf_4 : decode cX3_hasPhasesOf 4 = .ok (.arraylength, 1) := by decide +kernel
theorem dX3_hasPhasesOf_5 : decode cX3_hasPhasesOf 5 = .ok (.aload_n 1, 1) := by decide +kernel
theorem dX3_hasPhasesOf_6 : decode cX3_hasPhasesOf 6 = .ok (.getfield 27, 3) := by decide +kernel
theorem dX3_hasPhasesOf_9 : decode cX3_hasPhasesOf 9 = .ok (.arraylength, 1) := by decide +kernel
theorem dX3_hasPhasesOf_10 : decode cX3_hasPhasesOf 10 = .ok (.if_icmp .eq 5, 3) := by decide +kernel
theorem dX3_hasPhasesOf_13 : decode cX3_hasPhasesOf 13 = .ok (.iconst 0, 1) := by decide +kernel
theorem dX3_hasPhasesOf_14 : decode cX3_hasPhasesOf 14 = .ok (.ireturn, 1) := by decide +kernel
theorem dX3_hasPhasesOf_15 : decode cX3_hasPhasesOf 15 = .ok (.iconst 0, 1) := by decide +kernel
theorem dX3_hasPhasesOf_16 : decode cX3_hasPhasesOf 16 = .ok (.istore_n 2, 1) := by decide +kernel
theorem dX3_hasPhasesOf_17 : decode cX3_hasPhasesOf 17 = .ok (.iload_n 2, 1) := by decide +kernel
theorem dX3_hasPhasesOf_18 : decode cX3_hasPhasesOf 18 = .ok (.aload_n 0, 1) := by decide +kernel
theorem dX3_hasPhasesOf_19 : decode cX3_hasPhasesOf 19 = .ok (.getfield 27, 3) := by decide +kernel
theorem dX3_hasPhasesOf_22 : decode cX3_hasPhasesOf 22 = .ok (.arraylength, 1) := by decide +kernel
theorem dX3_hasPhasesOf_23 : decode cX3_hasPhasesOf 23 = .ok (.if_icmp .ge 23, 3) := by decide +kernel
theorem dX3_hasPhasesOf_26 : decode cX3_hasPhasesOf 26 = .ok (.aload_n 0, 1) := by decide +kernel
theorem dX3_hasPhasesOf_27 : decode cX3_hasPhasesOf 27 = .ok (.aload_n 1, 1) := by decide +kernel
theorem dX3_hasPhasesOf_28 : decode cX3_hasPhasesOf 28 = .ok (.getfield 27, 3) := by decide +kernel
theorem dX3_hasPhasesOf_31 : decode cX3_hasPhasesOf 31 = .ok (.iload_n 2, 1) := by decide +kernel
theorem dX3_hasPhasesOf_32 : decode cX3_hasPhasesOf 32 = .ok (.invokevirtual 35, 3) := by decide +kernel
theorem dX3_hasPhasesOf_35 : decode cX3_hasPhasesOf 35 = .ok (.ifCond .eq 5, 3) := by decide +kernel
theorem dX3_hasPhasesOf_38 : decode cX3_hasPhasesOf 38 = .ok (.iconst 1, 1) := by decide +kernel
theorem dX3_hasPhasesOf_39 : decode cX3_hasPhasesOf 39 = .ok (.ireturn, 1) := by decide +kernel
theorem dX3_hasPhasesOf_40 : decode cX3_hasPhasesOf 40 = .ok (.iinc 2 2, 3) := by decide +kernel
theorem dX3_hasPhasesOf_43 : decode cX3_hasPhasesOf 43 = .ok (.goto (-26), 3) := by decide +kernel
theorem dX3_hasPhasesOf_46 : decode cX3_hasPhasesOf 46 = .ok (.iconst 0, 1) := by decide +kernel
theorem dX3_hasPhasesOf_47 : decode cX3_hasPhasesOf 47 = .ok (.ireturn, 1) := by decide +kernel
theorem dX3_hasPhasesTurned_0 : decode cX3_hasPhasesTurned 0 = .ok (.iconst 0, 1) := by decide +kernel
theorem dX3_hasPhasesTurned_1 : decode cX3_hasPhasesTurned 1 = .ok (.istore_n 3, 1) := by decide +kernel
theorem dX3_hasPhasesTurned_2 : decode cX3_hasPhasesTurned 2 = .ok (.iload_n 3, 1) := by decide +kernel
theorem dX3_hasPhasesTurned_3 : decode cX3_hasPhasesTurned 3 = .ok (.aload_n 0, 1) := by decide +kernel
theorem dX3_hasPhasesTurned_4 : decode cX3_hasPhasesTurned 4 = .ok (.getfield 27, 3) := by decide +kernel
theorem dX3_hasPhasesTurned_7 : decode cX3_hasPhasesTurned 7 = .ok (.arraylength, 1) := by decide +kernel
theorem dX3_hasPhasesTurned_8 : decode cX3_hasPhasesTurned 8 = .ok (.if_icmp .ge 37, 3) := by decide +kernel
theorem dX3_hasPhasesTurned_11 : decode cX3_hasPhasesTurned 11 = .ok (.iload_n 3, 1) := by decide +kernel
theorem dX3_hasPhasesTurned_12 : decode cX3_hasPhasesTurned 12 = .ok (.aload_n 1, 1) := by decide +kernel
theorem dX3_hasPhasesTurned_13 : decode cX3_hasPhasesTurned 13 = .ok (.arraylength, 1) := by decide +kernel
theorem dX3_hasPhasesTurned_14 : decode cX3_hasPhasesTurned 14 = .ok (.if_icmp .ge 31, 3) := by decide +kernel
theorem dX3_hasPhasesTurned_17 : decode cX3_hasPhasesTurned 17 = .ok (.aload_n 0, 1) := by decide +kernel
theorem dX3_hasPhasesTurned_18 : decode cX3_hasPhasesTurned 18 = .ok (.getfield 27, 3) := by decide +kernel
theorem dX3_hasPhasesTurned_21 : decode cX3_hasPhasesTurned 21 = .ok (.iload_n 3, 1) := by decide +kernel
theorem dX3_hasPhasesTurned_22 : decode cX3_hasPhasesTurned 22 = .ok (.iload_n 2, 1) := by decide +kernel
theorem dX3_hasPhasesTurned_23 : decode cX3_hasPhasesTurned 23 = .ok (.iadd, 1) := by decide +kernel
theorem dX3_hasPhasesTurned_24 : decode cX3_hasPhasesTurned 24 = .ok (.aload_n 0, 1) := by decide +kernel
theorem dX3_hasPhasesTurned_25 : decode cX3_hasPhasesTurned 25 = .ok (.getfield 27, 3) := by decide +kernel
theorem dX3_hasPhasesTurned_28 : decode cX3_hasPhasesTurned 28 = .ok (.arraylength, 1) := by decide +kernel
theorem dX3_hasPhasesTurned_29 : decode cX3_hasPhasesTurned 29 = .ok (.irem, 1) := by decide +kernel
theorem dX3_hasPhasesTurned_30 : decode cX3_hasPhasesTurned 30 = .ok (.iaload, 1) := by decide +kernel
theorem dX3_hasPhasesTurned_31 : decode cX3_hasPhasesTurned 31 = .ok (.aload_n 1, 1) := by decide +kernel
theorem dX3_hasPhasesTurned_32 : decode cX3_hasPhasesTurned 32 = .ok (.iload_n 3, 1) := by decide +kernel
theorem dX3_hasPhasesTurned_33 : decode cX3_hasPhasesTurned 33 = .ok (.iaload, 1) := by decide +kernel
theorem dX3_hasPhasesTurned_34 : decode cX3_hasPhasesTurned 34 = .ok (.if_icmp .eq 5, 3) := by decide +kernel
theorem dX3_hasPhasesTurned_37 : decode cX3_hasPhasesTurned 37 = .ok (.iconst 0, 1) := by decide +kernel
theorem dX3_hasPhasesTurned_38 : decode cX3_hasPhasesTurned 38 = .ok (.ireturn, 1) := by decide +kernel
theorem dX3_hasPhasesTurned_39 : decode cX3_hasPhasesTurned 39 = .ok (.iinc 3 1, 3) := by decide +kernel
theorem dX3_hasPhasesTurned_42 : decode cX3_hasPhasesTurned 42 = .ok (.goto (-40), 3) := by decide +kernel
theorem dX3_hasPhasesTurned_45 : decode cX3_hasPhasesTurned 45 = .ok (.iconst 1, 1) := by decide +kernel
theorem dX3_hasPhasesTurned_46 : decode cX3_hasPhasesTurned 46 = .ok (.ireturn, 1) := by decide +kernel
theorem dX3_hasSecondsOf_0 : decode cX3_hasSecondsOf 0 = .ok (.iconst 0, 1) := by decide +kernel
theorem dX3_hasSecondsOf_1 : decode cX3_hasSecondsOf 1 = .ok (.istore_n 2, 1) := by decide +kernel
theorem dX3_hasSecondsOf_2 : decode cX3_hasSecondsOf 2 = .ok (.iload_n 2, 1) := by decide +kernel
theorem dX3_hasSecondsOf_3 : decode cX3_hasSecondsOf 3 = .ok (.aload_n 0, 1) := by decide +kernel
theorem dX3_hasSecondsOf_4 : decode cX3_hasSecondsOf 4 = .ok (.getfield 7, 3) := by decide +kernel
theorem dX3_hasSecondsOf_7 : decode cX3_hasSecondsOf 7 = .ok (.if_icmp .ge 20, 3) := by decide +kernel
theorem dX3_hasSecondsOf_10 : decode cX3_hasSecondsOf 10 = .ok (.aload_n 0, 1) := by decide +kernel
theorem dX3_hasSecondsOf_11 : decode cX3_hasSecondsOf 11 = .ok (.aload_n 1, 1) := by decide +kernel
theorem dX3_hasSecondsOf_12 : decode cX3_hasSecondsOf 12 = .ok (.iload_n 2, 1) := by decide +kernel
theorem dX3_hasSecondsOf_13 : decode cX3_hasSecondsOf 13 = .ok (.invokevirtual 38, 3) := by decide +kernel
theorem dX3_hasSecondsOf_16 : decode cX3_hasSecondsOf 16 = .ok (.ifCond .eq 5, 3) := by decide +kernel
theorem dX3_hasSecondsOf_19 : decode cX3_hasSecondsOf 19 = .ok (.iconst 1, 1) := by decide +kernel
theorem dX3_hasSecondsOf_20 : decode cX3_hasSecondsOf 20 = .ok (.ireturn, 1) := by decide +kernel
theorem dX3_hasSecondsOf_21 : decode cX3_hasSecondsOf 21 = .ok (.iinc 2 1, 3) := by decide +kernel
theorem dX3_hasSecondsOf_24 : decode cX3_hasSecondsOf 24 = .ok (.goto (-22), 3) := by decide +kernel
theorem dX3_hasSecondsOf_27 : decode cX3_hasSecondsOf 27 = .ok (.iconst 0, 1) := by decide +kernel
theorem dX3_hasSecondsOf_28 : decode cX3_hasSecondsOf 28 = .ok (.ireturn, 1) := by decide +kernel
theorem dX3_hasSecondsLater_0 : decode cX3_hasSecondsLater 0 = .ok (.aload_n 0, 1) := by decide +kernel
theorem dX3_hasSecondsLater_1 : decode cX3_hasSecondsLater 1 = .ok (.getfield 7, 3) := by decide +kernel
theorem dX3_hasSecondsLater_4 : decode cX3_hasSecondsLater 4 = .ok (.aload_n 1, 1) := by decide +kernel
theorem dX3_hasSecondsLater_5 : decode cX3_hasSecondsLater 5 = .ok (.getfield 7, 3) := by decide +kernel
theorem dX3_hasSecondsLater_8 : decode cX3_hasSecondsLater 8 = .ok (.imul, 1) := by decide +kernel
theorem dX3_hasSecondsLater_9 : decode cX3_hasSecondsLater 9 = .ok (.istore_n 3, 1) := by decide +kernel
theorem dX3_hasSecondsLater_10 : decode cX3_hasSecondsLater 10 = .ok (.iconst 0, 1) := by decide +kernel
theorem dX3_hasSecondsLater_11 : decode cX3_hasSecondsLater 11 = .ok (.istore 4, 2) := by decide +kernel
theorem dX3_hasSecondsLater_13 : decode cX3_hasSecondsLater 13 = .ok (.iload 4, 2) := by decide +kernel
theorem dX3_hasSecondsLater_15 : decode cX3_hasSecondsLater 15 = .ok (.iload_n 3, 1) := by decide +kernel
theorem dX3_hasSecondsLater_16 : decode cX3_hasSecondsLater 16 = .ok (.if_icmp .ge 28, 3) := by decide +kernel
theorem dX3_hasSecondsLater_19 : decode cX3_hasSecondsLater 19 = .ok (.aload_n 0, 1) := by decide +kernel
theorem dX3_hasSecondsLater_20 : decode cX3_hasSecondsLater 20 = .ok (.iload 4, 2) := by decide +kernel
theorem dX3_hasSecondsLater_22 : decode cX3_hasSecondsLater 22 = .ok (.iload_n 2, 1) := by decide +kernel
theorem dX3_hasSecondsLater_23 : decode cX3_hasSecondsLater 23 = .ok (.iadd, 1) := by decide +kernel
theorem dX3_hasSecondsLater_24 : decode cX3_hasSecondsLater 24 = .ok (.invokevirtual 42, 3) := by decide +kernel
theorem dX3_hasSecondsLater_27 : decode cX3_hasSecondsLater 27 = .ok (.aload_n 1, 1) := by decide +kernel
theorem dX3_hasSecondsLater_28 : decode cX3_hasSecondsLater 28 = .ok (.iload 4, 2) := by decide +kernel
theorem dX3_hasSecondsLater_30 : decode cX3_hasSecondsLater 30 = .ok (.invokevirtual 42, 3) := by decide +kernel
theorem dX3_hasSecondsLater_33 : decode cX3_hasSecondsLater 33 = .ok (.if_icmp .eq 5, 3) := by decide +kernel
theorem dX3_hasSecondsLater_36 : decode cX3_hasSecondsLater 36 = .ok (.iconst 0, 1) := by decide +kernel
theorem dX3_hasSecondsLater_37 : decode cX3_hasSecondsLater 37 = .ok (.ireturn, 1) := by decide +kernel
theorem dX3_hasSecondsLater_38 : decode cX3_hasSecondsLater 38 = .ok (.iinc 4 1, 3) := by decide +kernel
theorem dX3_hasSecondsLater_41 : decode cX3_hasSecondsLater 41 = .ok (.goto (-28), 3) := by decide +kernel
theorem dX3_hasSecondsLater_44 : decode cX3_hasSecondsLater 44 = .ok (.iconst 1, 1) := by decide +kernel
theorem dX3_hasSecondsLater_45 : decode cX3_hasSecondsLater 45 = .ok (.ireturn, 1) := by decide +kernel
theorem dX3_canLookLike_0 : decode cX3_canLookLike 0 = .ok (.iconst 0, 1) := by decide +kernel
theorem dX3_canLookLike_1 : decode cX3_canLookLike 1 = .ok (.istore 4, 2) := by decide +kernel
theorem dX3_canLookLike_3 : decode cX3_canLookLike 3 = .ok (.iload 4, 2) := by decide +kernel
theorem dX3_canLookLike_5 : decode cX3_canLookLike 5 = .ok (.aload_n 0, 1) := by decide +kernel
theorem dX3_canLookLike_6 : decode cX3_canLookLike 6 = .ok (.getfield 7, 3) := by decide +kernel
theorem dX3_canLookLike_9 : decode cX3_canLookLike 9 = .ok (.if_icmp .ge 22, 3) := by decide +kernel
theorem dX3_canLookLike_12 : decode cX3_canLookLike 12 = .ok (.aload_n 0, 1) := by decide +kernel
theorem dX3_canLookLike_13 : decode cX3_canLookLike 13 = .ok (.lload_n 1, 1) := by decide +kernel
theorem dX3_canLookLike_14 : decode cX3_canLookLike 14 = .ok (.iload_n 3, 1) := by decide +kernel
theorem dX3_canLookLike_15 : decode cX3_canLookLike 15 = .ok (.iload 4, 2) := by decide +kernel
theorem dX3_canLookLike_17 : decode cX3_canLookLike 17 = .ok (.invokevirtual 46, 3) := by decide +kernel
theorem dX3_canLookLike_20 : decode cX3_canLookLike 20 = .ok (.ifCond .eq 5, 3) := by decide +kernel
theorem dX3_canLookLike_23 : decode cX3_canLookLike 23 = .ok (.iconst 1, 1) := by decide +kernel
theorem dX3_canLookLike_24 : decode cX3_canLookLike 24 = .ok (.ireturn, 1) := by decide +kernel
theorem dX3_canLookLike_25 : decode cX3_canLookLike 25 = .ok (.iinc 4 1, 3) := by decide +kernel
theorem dX3_canLookLike_28 : decode cX3_canLookLike 28 = .ok (.goto (-25), 3) := by decide +kernel
theorem dX3_canLookLike_31 : decode cX3_canLookLike 31 = .ok (.iconst 0, 1) := by decide +kernel
theorem dX3_canLookLike_32 : decode cX3_canLookLike 32 = .ok (.ireturn, 1) := by decide +kernel
theorem dX3_looksLike_0 : decode cX3_looksLike 0 = .ok (.iconst 0, 1) := by decide +kernel
theorem dX3_looksLike_1 : decode cX3_looksLike 1 = .ok (.istore 5, 2) := by decide +kernel
theorem dX3_looksLike_3 : decode cX3_looksLike 3 = .ok (.iload 5, 2) := by decide +kernel
theorem dX3_looksLike_5 : decode cX3_looksLike 5 = .ok (.iload_n 3, 1) := by decide +kernel
theorem dX3_looksLike_6 : decode cX3_looksLike 6 = .ok (.if_icmp .ge 43, 3) := by decide +kernel
theorem dX3_looksLike_9 : decode cX3_looksLike 9 = .ok (.lload_n 1, 1) := by decide +kernel
theorem dX3_looksLike_10 : decode cX3_looksLike 10 = .ok (.iload 5, 2) := by decide +kernel
theorem dX3_looksLike_12 : decode cX3_looksLike 12 = .ok (.lushr, 1) := by decide +kernel
theorem dX3_looksLike_13 : decode cX3_looksLike 13 = .ok (.lconst 1, 1) := by decide +kernel
theorem dX3_looksLike_14 : decode cX3_looksLike 14 = .ok (.land, 1) := by decide +kernel
theorem dX3_looksLike_15 : decode cX3_looksLike 15 = .ok (.lconst 1, 1) := by decide +kernel
theorem dX3_looksLike_16 : decode cX3_looksLike 16 = .ok (.lcmp, 1) := by decide +kernel
theorem dX3_looksLike_17 : decode cX3_looksLike 17 = .ok (.ifCond .ne 7, 3) := by decide +kernel
theorem dX3_looksLike_20 : decode cX3_looksLike 20 = .ok (.iconst 1, 1) := by decide +kernel
theorem dX3_looksLike_21 : decode cX3_looksLike 21 = .ok (.goto 4, 3) := by decide +kernel
theorem dX3_looksLike_24 : decode cX3_looksLike 24 = .ok (.iconst 0, 1) := by decide +kernel
theorem dX3_looksLike_25 : decode cX3_looksLike 25 = .ok (.istore 6, 2) := by decide +kernel
theorem dX3_looksLike_27 : decode cX3_looksLike 27 = .ok (.aload_n 0, 1) := by decide +kernel
theorem dX3_looksLike_28 : decode cX3_looksLike 28 = .ok (.iload 4, 2) := by decide +kernel
theorem dX3_looksLike_30 : decode cX3_looksLike 30 = .ok (.iload 5, 2) := by decide +kernel
theorem dX3_looksLike_32 : decode cX3_looksLike 32 = .ok (.iadd, 1) := by decide +kernel
theorem dX3_looksLike_33 : decode cX3_looksLike 33 = .ok (.invokevirtual 42, 3) := by decide +kernel
theorem dX3_looksLike_36 : decode cX3_looksLike 36 = .ok (.iload 6, 2) := by decide +kernel
theorem dX3_looksLike_38 : decode cX3_looksLike 38 = .ok (.if_icmp .eq 5, 3) := by decide +kernel
theorem dX3_looksLike_41 : decode cX3_looksLike 41 = .ok (.iconst 0, 1) := by decide +kernel
theorem dX3_looksLike_42 : decode cX3_looksLike 42 = .ok (.ireturn, 1) := by decide +kernel
theorem dX3_looksLike_43 : decode cX3_looksLike 43 = .ok (.iinc 5 1, 3) := by decide +kernel
theorem dX3_looksLike_46 : decode cX3_looksLike 46 = .ok (.goto (-43), 3) := by decide +kernel
theorem dX3_looksLike_49 : decode cX3_looksLike 49 = .ok (.iconst 1, 1) := by decide +kernel
theorem dX3_looksLike_50 : decode cX3_looksLike 50 = .ok (.ireturn, 1) := by decide +kernel
theorem dX4_init_0 : decode cX4_init 0 = .ok (.aload_n 0, 1) := by decide +kernel
theorem dX4_init_1 : decode cX4_init 1 = .ok (.invokespecial 1, 3) := by decide +kernel
theorem dX4_init_4 : decode cX4_init 4 = .ok (.aload_n 0, 1) := by decide +kernel
theorem dX4_init_5 : decode cX4_init 5 = .ok (.bipush 6, 2) := by decide +kernel
theorem dX4_init_7 : decode cX4_init 7 = .ok (.newarray .int, 2) := by decide +kernel
theorem dX4_init_9 : decode cX4_init 9 = .ok (.putfield 9, 3) := by decide +kernel
theorem dX4_init_12 : decode cX4_init 12 = .ok (.aload_n 0, 1) := by decide +kernel
theorem dX4_init_13 : decode cX4_init 13 = .ok (.iconst 0, 1) := by decide +kernel
theorem dX4_init_14 : decode cX4_init 14 = .ok (.putfield 13, 3) := by decide +kernel
theorem dX4_init_17 : decode cX4_init 17 = .ok (.aload_n 0, 1) := by decide +kernel
theorem dX4_init_18 : decode cX4_init 18 = .ok (.new 17, 3) := by decide +kernel
theorem dX4_init_21 : decode cX4_init 21 = .ok (.dup, 1) := by decide +kernel
theorem dX4_init_22 : decode cX4_init 22 = .ok (.invokespecial 19, 3) := by decide +kernel
theorem dX4_init_25 : decode cX4_init 25 = .ok (.putfield 20, 3) := by decide +kernel
theorem dX4_init_28 : decode cX4_init 28 = .ok (.aload_n 0, 1) := by decide +kernel
theorem dX4_init_29 : decode cX4_init 29 = .ok (.new 17, 3) := by decide +kernel
theorem dX4_init_32 : decode cX4_init 32 = .ok (.dup, 1) := by decide +kernel
theorem dX4_init_33 : decode cX4_init 33 = .ok (.invokespecial 19, 3) := by decide +kernel
theorem dX4_init_36 : decode cX4_init 36 = .ok (.putfield 24, 3) := by decide +kernel
theorem dX4_init_39 : decode cX4_init 39 = .ok (.aload_n 0, 1) := by decide +kernel
theorem dX4_init_40 : decode cX4_init 40 = .ok (.new 17, 3) := by decide +kernel
theorem dX4_init_43 : decode cX4_init 43 = .ok (.dup, 1) := by decide +kernel
theorem dX4_init_44 : decode cX4_init 44 = .ok (.invokespecial 19, 3) := by decide +kernel
theorem dX4_init_47 : decode cX4_init 47 = .ok (.putfield 27, 3) := by decide +kernel
theorem dX4_init_50 : decode cX4_init 50 = .ok (.aload_n 0, 1) := by decide +kernel
theorem dX4_init_51 : decode cX4_init 51 = .ok (.new 17, 3) := by decide +kernel
theorem dX4_init_54 : decode cX4_init 54 = .ok (.dup, 1) := by decide +kernel
theorem dX4_init_55 : decode cX4_init 55 = .ok (.invokespecial 19, 3) := by decide +kernel
theorem dX4_init_58 : decode cX4_init 58 = .ok (.putfield 30, 3) := by decide +kernel
theorem dX4_init_61 : decode cX4_init 61 = .ok (.return_, 1) := by decide +kernel
theorem dX4_phase_0 : decode cX4_phase 0 = .ok (.iload_n 1, 1) := by decide +kernel
theorem dX4_phase_1 : decode cX4_phase 1 = .ok (.iconst 1, 1) := by decide +kernel
theorem dX4_phase_2 : decode cX4_phase 2 = .ok (.bipush 9, 2) := by decide +kernel
theorem dX4_phase_4 : decode cX4_phase 4 = .ok (.invokestatic 33, 3) := by decide +kernel
theorem dX4_phase_7 : decode cX4_phase 7 = .ok (.aload_n 0, 1) := by decide +kernel
theorem dX4_phase_8 : decode cX4_phase 8 = .ok (.getfield 13, 3) := by decide +kernel
theorem dX4_phase_11 : decode cX4_phase 11 = .ok (.aload_n 0, 1) := by decide +kernel
theorem dX4_phase_12 : decode cX4_phase 12 = .ok (.getfield 9, 3) := by decide +kernel
theorem dX4_phase_15 : decode cX4_phase 15 = .ok (.arraylength, 1) := by decide +kernel
theorem dX4_phase_16 : decode cX4_phase 16 = .ok (.if_icmp .lt 13, 3) := by decide +kernel
theorem dX4_phase_19 : decode cX4_phase 19 = .ok (.new 37, 3) := by decide +kernel
theorem dX4_phase_22 : decode cX4_phase 22 = .ok (.dup, 1) := by decide +kernel
theorem dX4_phase_23 : decode cX4_phase 23 = .ok (.ldc 39, 2) := by decide +kernel
theorem dX4_phase_25 : decode cX4_phase 25 = .ok (.invokespecial 41, 3) := by decide +kernel
theorem dX4_phase_28 : decode cX4_phase 28 = .ok (.athrow, 1) := by decide +kernel
theorem dX4_phase_29 : decode cX4_phase 29 = .ok (.aload_n 0, 1) := by decide +kernel
theorem dX4_phase_30 : decode cX4_phase 30 = .ok (.getfield 9, 3) := by decide +kernel
theorem dX4_phase_33 : decode cX4_phase 33 = .ok (.aload_n 0, 1) := by decide +kernel
theorem dX4_phase_34 : decode cX4_phase 34 = .ok (.getfield 13, 3) := by decide +kernel
theorem dX4_phase_37 : decode cX4_phase 37 = .ok (.iload_n 1, 1) := by decide +kernel
theorem dX4_phase_38 : decode cX4_phase 38 = .ok (.iastore, 1) := by decide +kernel
theorem dX4_phase_39 : decode cX4_phase 39 = .ok (.aload_n 0, 1) := by decide +kernel
theorem dX4_phase_40 : decode cX4_phase 40 = .ok (.dup, 1) := by decide +kernel
theorem dX4_phase_41 : decode cX4_phase 41 = .ok (.getfield 13, 3) := by decide +kernel
theorem dX4_phase_44 : decode cX4_phase 44 = .ok (.iconst 1, 1) := by decide +kernel
theorem dX4_phase_45 : decode cX4_phase 45 = .ok (.iadd, 1) := by decide +kernel
theorem dX4_phase_46 : decode cX4_phase 46 = .ok (.putfield 13, 3) := by decide +kernel
theorem dX4_phase_49 : decode cX4_phase 49 = .ok (.aload_n 0, 1) := by decide +kernel
theorem dX4_phase_50 : decode cX4_phase 50 = .ok (.getfield 13, 3) := by decide +kernel
theorem dX4_phase_53 : decode cX4_phase 53 = .ok (.ireturn, 1) := by decide +kernel
theorem dX4_pattern_0 : decode cX4_pattern 0 = .ok (.aload_n 0, 1) := by decide +kernel
theorem dX4_pattern_1 : decode cX4_pattern 1 = .ok (.getfield 13, 3) := by decide +kernel
theorem dX4_pattern_4 : decode cX4_pattern 4 = .ok (.iconst 2, 1) := by decide +kernel
theorem dX4_pattern_5 : decode cX4_pattern 5 = .ok (.if_icmp .lt 12, 3) := by decide +kernel
theorem dX4_pattern_8 : decode cX4_pattern 8 = .ok (.aload_n 0, 1) := by decide +kernel
theorem dX4_pattern_9 : decode cX4_pattern 9 = .ok (.getfield 13, 3) := by decide +kernel
theorem dX4_pattern_12 : decode cX4_pattern 12 = .ok (.iconst 2, 1) := by decide +kernel
theorem dX4_pattern_13 : decode cX4_pattern 13 = .ok (.irem, 1) := by decide +kernel
theorem dX4_pattern_14 : decode cX4_pattern 14 = .ok (.ifCond .eq 13, 3) := by decide +kernel
theorem dX4_pattern_17 : decode cX4_pattern 17 = .ok (.new 37, 3) := by decide +kernel
theorem dX4_pattern_20 : decode cX4_pattern 20 = .ok (.dup, 1) := by decide +kernel
theorem dX4_pattern_21 : decode cX4_pattern 21 = .ok (.ldc 44, 2) := by decide +kernel
theorem dX4_pattern_23 : decode cX4_pattern 23 = .ok (.invokespecial 41, 3) := by decide +kernel
theorem dX4_pattern_26 : decode cX4_pattern 26 = .ok (.athrow, 1) := by decide +kernel
theorem dX4_pattern_27 : decode cX4_pattern 27 = .ok (.aload_n 0, 1) := by decide +kernel
theorem dX4_pattern_28 : decode cX4_pattern 28 = .ok (.getfield 20, 3) := by decide +kernel
theorem dX4_pattern_31 : decode cX4_pattern 31 = .ok (.invokevirtual 46, 3) := by decide +kernel
theorem dX4_pattern_34 : decode cX4_pattern 34 = .ok (.bipush 20, 2) := by decide +kernel
theorem dX4_pattern_36 : decode cX4_pattern 36 = .ok (.if_icmp .lt 13, 3) := by decide +kernel
theorem dX4_pattern_39 : decode cX4_pattern 39 = .ok (.new 37, 3) := by decide +kernel
theorem dX4_pattern_42 : decode cX4_pattern 42 = .ok (.dup, 1) := by decide +kernel
theorem dX4_pattern_43 : decode cX4_pattern 43 = .ok (.ldc 50, 2) := by decide +kernel
theorem dX4_pattern_45 : decode cX4_pattern 45 = .ok (.invokespecial 41, 3) := by decide +kernel
theorem dX4_pattern_48 : decode cX4_pattern 48 = .ok (.athrow, 1) := by decide +kernel
theorem dX4_pattern_49 : decode cX4_pattern 49 = .ok (.aload_n 0, 1) := by decide +kernel
theorem dX4_pattern_50 : decode cX4_pattern 50 = .ok (.getfield 20, 3) := by decide +kernel
theorem dX4_pattern_53 : decode cX4_pattern 53 = .ok (.new 52, 3) := by decide +kernel
theorem dX4_pattern_56 : decode cX4_pattern 56 = .ok (.dup, 1) := by decide +kernel
theorem dX4_pattern_57 : decode cX4_pattern 57 = .ok (.aload_n 0, 1) := by decide +kernel
theorem dX4_pattern_58 : decode cX4_pattern 58 = .ok (.getfield 9, 3) := by decide +kernel
theorem dX4_pattern_61 : decode cX4_pattern 61 = .ok (.aload_n 0, 1) := by decide +kernel
theorem dX4_pattern_62 : decode cX4_pattern 62 = .ok (.getfield 13, 3) := by decide +kernel
theorem dX4_pattern_65 : decode cX4_pattern 65 = .ok (.invokestatic 54, 3) := by decide +kernel
theorem dX4_pattern_68 : decode cX4_pattern 68 = .ok (.invokespecial 60, 3) := by decide +kernel
theorem dX4_pattern_71 : decode cX4_pattern 71 = .ok (.invokevirtual 63, 3) := by decide +kernel
theorem dX4_pattern_74 : decode cX4_pattern 74 = .ok (.pop, 1) := by decide +kernel
theorem dX4_pattern_75 : decode cX4_pattern 75 = .ok (.aload_n 0, 1) := by decide +kernel
theorem dX4_pattern_76 : decode cX4_pattern 76 = .ok (.iconst 0, 1) := by decide +kernel
theorem dX4_pattern_77 : decode cX4_pattern 77 = .ok (.putfield 13, 3) := by decide +kernel
theorem dX4_pattern_80 : decode cX4_pattern 80 = .ok (.aload_n 0, 1) := by decide +kernel
theorem dX4_pattern_81 : decode cX4_pattern 81 = .ok (.getfield 20, 3) := by decide +kernel
theorem dX4_pattern_84 : decode cX4_pattern 84 = .ok (.invokevirtual 46, 3) := by decide +kernel
theorem dX4_pattern_87 : decode cX4_pattern 87 = .ok (.iconst 1, 1) := by decide +kernel
theorem dX4_pattern_88 : decode cX4_pattern 88 = .ok (.isub, 1) := by decide +kernel
theorem dX4_pattern_89 : decode cX4_pattern 89 = .ok (.ireturn, 1) := by decide +kernel
theorem dX4_period_0 : decode cX4_period 0 = .ok (.aload_n 0, 1) := by decide +kernel
theorem dX4_period_1 : decode cX4_period 1 = .ok (.iload_n 1, 1) := by decide +kernel
theorem dX4_period_2 : decode cX4_period 2 = .ok (.invokevirtual 67, 3) := by decide +kernel
theorem dX4_period_5 : decode cX4_period 5 = .ok (.getfield 71, 3) := by decide +kernel
theorem dX4_period_8 : decode cX4_period 8 = .ok (.ireturn, 1) := by decide +kernel
theorem dX4_areAlike_0 : decode cX4_areAlike 0 = .ok (.aload_n 0, 1) := by decide +kernel
theorem dX4_areAlike_1 : decode cX4_areAlike 1 = .ok (.iload_n 1, 1) := by decide +kernel
theorem dX4_areAlike_2 : decode cX4_areAlike 2 = .ok (.invokevirtual 67, 3) := by decide +kernel
theorem dX4_areAlike_5 : decode cX4_areAlike 5 = .ok (.aload_n 0, 1) := by decide +kernel
theorem dX4_areAlike_6 : decode cX4_areAlike 6 = .ok (.iload_n 2, 1) := by decide +kernel
theorem dX4_areAlike_7 : decode cX4_areAlike 7 = .ok (.invokevirtual 67, 3) := by decide +kernel
theorem dX4_areAlike_10 : decode cX4_areAlike 10 = .ok (.invokevirtual 74, 3) := by decide +kernel
theorem dX4_areAlike_13 : decode cX4_areAlike 13 = .ok (.ireturn, 1) := by decide +kernel
theorem dX4_areAlikeBySeconds_0 : decode cX4_areAlikeBySeconds 0 = .ok (.aload_n 0, 1) := by decide +kernel
theorem dX4_areAlikeBySeconds_1 : decode cX4_areAlikeBySeconds 1 = .ok (.iload_n 1, 1) := by decide +kernel
theorem dX4_areAlikeBySeconds_2 : decode cX4_areAlikeBySeconds 2 = .ok (.invokevirtual 67, 3) := by decide +kernel
theorem dX4_areAlikeBySeconds_5 : decode cX4_areAlikeBySeconds 5 = .ok (.aload_n 0, 1) := by decide +kernel
theorem dX4_areAlikeBySeconds_6 : decode cX4_areAlikeBySeconds 6 = .ok (.iload_n 2, 1) := by decide +kernel
theorem dX4_areAlikeBySeconds_7 : decode cX4_areAlikeBySeconds 7 = .ok (.invokevirtual 67, 3) := by decide +kernel
theorem dX4_areAlikeBySeconds_10 : decode cX4_areAlikeBySeconds 10 = .ok (.invokevirtual 78, 3) := by decide +kernel
theorem dX4_areAlikeBySeconds_13 : decode cX4_areAlikeBySeconds 13 = .ok (.ireturn, 1) := by decide +kernel
theorem dX4_lamp_0 : decode cX4_lamp 0 = .ok (.aload_n 0, 1) := by decide +kernel
theorem dX4_lamp_1 : decode cX4_lamp 1 = .ok (.iload_n 3, 1) := by decide +kernel
theorem dX4_lamp_2 : decode cX4_lamp 2 = .ok (.invokevirtual 81, 3) := by decide +kernel
theorem dX4_lamp_5 : decode cX4_lamp 5 = .ok (.iload_n 1, 1) := by decide +kernel
theorem dX4_lamp_6 : decode cX4_lamp 6 = .ok (.iload_n 2, 1) := by decide +kernel
theorem dX4_lamp_7 : decode cX4_lamp 7 = .ok (.invokestatic 85, 3) := by decide +kernel
theorem dX4_lamp_10 : decode cX4_lamp 10 = .ok (.iload 4, 2) := by decide +kernel
theorem dX4_lamp_12 : decode cX4_lamp 12 = .ok (.iconst 1, 1) := by decide +kernel
theorem dX4_lamp_13 : decode cX4_lamp 13 = .ok (.bipush 40, 2) := by decide +kernel
theorem dX4_lamp_15 : decode cX4_lamp 15 = .ok (.invokestatic 33, 3) := by decide +kernel
theorem dX4_lamp_18 : decode cX4_lamp 18 = .ok (.iload 5, 2) := by decide +kernel
theorem dX4_lamp_20 : decode cX4_lamp 20 = .ok (.iconst 1, 1) := by decide +kernel
theorem dX4_lamp_21 : decode cX4_lamp 21 = .ok (.sipush 255, 3) := by decide +kernel
theorem dX4_lamp_24 : decode cX4_lamp 24 = .ok (.invokestatic 33, 3) := by decide +kernel
theorem dX4_lamp_27 : decode cX4_lamp 27 = .ok (.aload_n 0, 1) := by decide +kernel
theorem dX4_lamp_28 : decode cX4_lamp 28 = .ok (.getfield 24, 3) := by decide +kernel
theorem dX4_lamp_31 : decode cX4_lamp 31 = .ok (.invokevirtual 46, 3) := by decide +kernel
theorem dX4_lamp_34 : decode cX4_lamp 34 = .ok (.bipush 12, 2) := by decide +kernel
theorem dX4_lamp_36 : decode cX4_lamp 36 = .ok (.if_icmp .lt 13, 3) := by decide +kernel
theorem dX4_lamp_39 : decode cX4_lamp 39 = .ok (.new 37, 3) := by decide +kernel
theorem dX4_lamp_42 : decode cX4_lamp 42 = .ok (.dup, 1) := by decide +kernel
theorem dX4_lamp_43 : decode cX4_lamp 43 = .ok (.ldc 89, 2) := by decide +kernel
theorem dX4_lamp_45 : decode cX4_lamp 45 = .ok (.invokespecial 41, 3) := by decide +kernel
theorem dX4_lamp_48 : decode cX4_lamp 48 = .ok (.athrow, 1) := by decide +kernel
theorem dX4_lamp_49 : decode cX4_lamp 49 = .ok (.aload_n 0, 1) := by decide +kernel
theorem dX4_lamp_50 : decode cX4_lamp 50 = .ok (.getfield 24, 3) := by decide +kernel
theorem dX4_lamp_53 : decode cX4_lamp 53 = .ok (.invokevirtual 46, 3) := by decide +kernel
theorem dX4_lamp_56 : decode cX4_lamp 56 = .ok (.istore 6, 2) := by decide +kernel
theorem dX4_lamp_58 : decode cX4_lamp 58 = .ok (.aload_n 0, 1) := by decide +kernel
theorem dX4_lamp_59 : decode cX4_lamp 59 = .ok (.getfield 24, 3) := by decide +kernel
theorem dX4_lamp_62 : decode cX4_lamp 62 = .ok (.new 91, 3) := by decide +kernel
theorem dX4_lamp_65 : decode cX4_lamp 65 = .ok (.dup, 1) := by decide +kernel
theorem dX4_lamp_66 : decode cX4_lamp 66 = .ok (.iload_n 1, 1) := by decide +kernel
theorem dX4_lamp_67 : decode cX4_lamp 67 = .ok (.iload_n 2, 1) := by decide +kernel
theorem dX4_lamp_68 : decode cX4_lamp 68 = .ok (.iload_n 3, 1) := by decide +kernel
theorem dX4_lamp_69 : decode cX4_lamp 69 = .ok (.iload 4, 2) := by decide +kernel
theorem dX4_lamp_71 : decode cX4_lamp 71 = .ok (.iload 5, 2) := by decide +kernel
theorem dX4_lamp_73 : decode cX4_lamp 73 = .ok (.invokespecial 93, 3) := by decide +kernel
theorem dX4_lamp_76 : decode cX4_lamp 76 = .ok (.invokevirtual 63, 3) := by decide +kernel
theorem dX4_lamp_79 : decode cX4_lamp 79 = .ok (.pop, 1) := by decide +kernel
theorem dX4_lamp_80 : decode cX4_lamp 80 = .ok (.aload_n 0, 1) := by decide +kernel
theorem dX4_lamp_81 : decode cX4_lamp 81 = .ok (.iload 6, 2) := by decide +kernel
theorem dX4_lamp_83 : decode cX4_lamp 83 = .ok (.invokevirtual 96, 3) := by decide +kernel
theorem dX4_lamp_86 : decode cX4_lamp 86 = .ok (.pop, 1) := by decide +kernel
theorem dX4_lamp_87 : decode cX4_lamp 87 = .ok (.iload 6, 2) := by decide +kernel
theorem dX4_lamp_89 : decode cX4_lamp 89 = .ok (.ireturn, 1) := by decide +kernel
theorem dX4_change_0 : decode cX4_change 0 = .ok (.aload_n 0, 1) := by decide +kernel
theorem dX4_change_1 : decode cX4_change 1 = .ok (.iload_n 1, 1) := by decide +kernel
theorem dX4_change_2 : decode cX4_change 2 = .ok (.invokevirtual 100, 3) := by decide +kernel
theorem dX4_change_5 : decode cX4_change 5 = .ok (.astore 4, 2) := by decide +kernel
theorem dX4_change_7 : decode cX4_change 7 = .ok (.aload_n 0, 1) := by decide +kernel
theorem dX4_change_8 : decode cX4_change 8 = .ok (.iload_n 2, 1) := by decide +kernel
theorem dX4_change_9 : decode cX4_change 9 = .ok (.invokevirtual 81, 3) := by decide +kernel
theorem dX4_change_12 : decode cX4_change 12 = .ok (.iload_n 3, 1) := by decide +kernel
theorem dX4_change_13 : decode cX4_change 13 = .ok (.iconst 0, 1) := by decide +kernel
theorem dX4_change_14 : decode cX4_change 14 = .ok (.bipush 59, 2) := by decide +kernel
theorem dX4_change_16 : decode cX4_change 16 = .ok (.invokestatic 33, 3) := by decide +kernel
theorem dX4_change_19 : decode cX4_change 19 = .ok (.aload 4, 2) := by decide +kernel
theorem dX4_change_21 : decode cX4_change 21 = .ok (.iload_n 2, 1) := by decide +kernel
theorem dX4_change_22 : decode cX4_change 22 = .ok (.putfield 104, 3) := by decide +kernel
theorem dX4_change_25 : decode cX4_change 25 = .ok (.aload 4, 2) := by decide +kernel
theorem dX4_change_27 : decode cX4_change 27 = .ok (.iload_n 3, 1) := by decide +kernel
theorem dX4_change_28 : decode cX4_change 28 = .ok (.putfield 107, 3) := by decide +kernel
theorem dX4_change_31 : decode cX4_change 31 = .ok (.aload_n 0, 1) := by decide +kernel
theorem dX4_change_32 : decode cX4_change 32 = .ok (.iload_n 1, 1) := by decide +kernel
theorem dX4_change_33 : decode cX4_change 33 = .ok (.invokevirtual 96, 3) := by decide +kernel
theorem dX4_change_36 : decode cX4_change 36 = .ok (.ireturn, 1) := by decide +kernel
theorem dX4_fail_0 : decode cX4_fail 0 = .ok (.aload_n 0, 1) := by decide +kernel
theorem dX4_fail_1 : decode cX4_fail 1 = .ok (.iload_n 1, 1) := by decide +kernel
theorem dX4_fail_2 : decode cX4_fail 2 = .ok (.invokevirtual 100, 3) := by decide +kernel
theorem dX4_fail_5 : decode cX4_fail 5 = .ok (.astore_n 3, 1) := by decide +kernel
theorem dX4_fail_6 : decode cX4_fail 6 = .ok (.aload_n 3, 1) := by decide +kernel
theorem dX4_fail_7 : decode cX4_fail 7 = .ok (.getfield 110, 3) := by decide +kernel
theorem dX4_fail_10 : decode cX4_fail 10 = .ok (.iload_n 2, 1) := by decide +kernel
theorem dX4_fail_11 : decode cX4_fail 11 = .ok (.if_icmp .ne 13, 3) := by decide +kernel
theorem dX4_fail_14 : decode cX4_fail 14 = .ok (.new 37, 3) := by decide +kernel
theorem dX4_fail_17 : decode cX4_fail 17 = .ok (.dup, 1) := by decide +kernel
theorem dX4_fail_18 : decode cX4_fail 18 = .ok (.ldc 114, 2) := by decide +kernel
theorem dX4_fail_20 : decode cX4_fail 20 = .ok (.invokespecial 41, 3) := by decide +kernel
theorem dX4_fail_23 : decode cX4_fail 23 = .ok (.athrow, 1) := by decide +kernel
theorem dX4_fail_24 : decode cX4_fail 24 = .ok (.aload_n 3, 1) := by decide +kernel
theorem dX4_fail_25 : decode cX4_fail 25 = .ok (.iload_n 2, 1) := by decide +kernel
theorem dX4_fail_26 : decode cX4_fail 26 = .ok (.putfield 110, 3) := by decide +kernel
theorem dX4_fail_29 : decode cX4_fail 29 = .ok (.aload_n 0, 1) := by decide +kernel
theorem dX4_fail_30 : decode cX4_fail 30 = .ok (.iload_n 1, 1) := by decide +kernel
theorem dX4_fail_31 : decode cX4_fail 31 = .ok (.invokevirtual 96, 3) := by decide +kernel
theorem dX4_fail_34 : decode cX4_fail 34 = .ok (.ireturn, 1) := by decide +kernel
theorem dX4_shines_0 : decode cX4_shines 0 = .ok (.aload_n 0, 1) := by decide +kernel
theorem dX4_shines_1 : decode cX4_shines 1 = .ok (.iload_n 1, 1) := by decide +kernel
theorem dX4_shines_2 : decode cX4_shines 2 = .ok (.invokevirtual 100, 3) := by decide +kernel
theorem dX4_shines_5 : decode cX4_shines 5 = .ok (.astore_n 3, 1) := by decide +kernel
theorem dX4_shines_6 : decode cX4_shines 6 = .ok (.iload_n 2, 1) := by decide +kernel
theorem dX4_shines_7 : decode cX4_shines 7 = .ok (.iconst 0, 1) := by decide +kernel
theorem dX4_shines_8 : decode cX4_shines 8 = .ok (.ldc 116, 2) := by decide +kernel
theorem dX4_shines_10 : decode cX4_shines 10 = .ok (.invokestatic 33, 3) := by decide +kernel
theorem dX4_shines_13 : decode cX4_shines 13 = .ok (.aload_n 0, 1) := by decide +kernel
theorem dX4_shines_14 : decode cX4_shines 14 = .ok (.aload_n 3, 1) := by decide +kernel
theorem dX4_shines_15 : decode cX4_shines 15 = .ok (.iload_n 2, 1) := by decide +kernel
theorem dX4_shines_16 : decode cX4_shines 16 = .ok (.invokevirtual 117, 3) := by decide +kernel
theorem dX4_shines_19 : decode cX4_shines 19 = .ok (.ireturn, 1) := by decide +kernel
theorem dX4_sector_0 : decode cX4_sector 0 = .ok (.aload_n 0, 1) := by decide +kernel
theorem dX4_sector_1 : decode cX4_sector 1 = .ok (.iload_n 1, 1) := by decide +kernel
theorem dX4_sector_2 : decode cX4_sector 2 = .ok (.invokevirtual 100, 3) := by decide +kernel
theorem dX4_sector_5 : decode cX4_sector 5 = .ok (.astore 4, 2) := by decide +kernel
theorem dX4_sector_7 : decode cX4_sector 7 = .ok (.iload_n 2, 1) := by decide +kernel
theorem dX4_sector_8 : decode cX4_sector 8 = .ok (.iload_n 3, 1) := by decide +kernel
theorem dX4_sector_9 : decode cX4_sector 9 = .ok (.invokestatic 85, 3) := by decide +kernel
theorem dX4_sector_12 : decode cX4_sector 12 = .ok (.iload_n 2, 1) := by decide +kernel
theorem dX4_sector_13 : decode cX4_sector 13 = .ok (.aload 4, 2) := by decide +kernel
theorem dX4_sector_15 : decode cX4_sector 15 = .ok (.getfield 121, 3) := by decide +kernel
theorem dX4_sector_18 : decode cX4_sector 18 = .ok (.isub, 1) := by decide +kernel
theorem dX4_sector_19 : decode cX4_sector 19 = .ok (.iload_n 3, 1) := by decide +kernel
theorem dX4_sector_20 : decode cX4_sector 20 = .ok (.aload 4, 2) := by decide +kernel
theorem dX4_sector_22 : decode cX4_sector 22 = .ok (.getfield 124, 3) := by decide +kernel
theorem dX4_sector_25 : decode cX4_sector 25 = .ok (.isub, 1) := by decide +kernel
theorem dX4_sector_26 : decode cX4_sector 26 = .ok (.invokestatic 127, 3) := by decide +kernel
theorem dX4_sector_29 : decode cX4_sector 29 = .ok (.ireturn, 1) := by decide +kernel
theorem dX4_isSeen_0 : decode cX4_isSeen 0 = .ok (.aload_n 0, 1) := by decide +kernel
theorem dX4_isSeen_1 : decode cX4_isSeen 1 = .ok (.iload_n 1, 1) := by decide +kernel
theorem dX4_isSeen_2 : decode cX4_isSeen 2 = .ok (.invokevirtual 100, 3) := by decide +kernel
theorem dX4_isSeen_5 : decode cX4_isSeen 5 = .ok (.astore 4, 2) := by decide +kernel
theorem dX4_isSeen_7 : decode cX4_isSeen 7 = .ok (.iload_n 2, 1) := by decide +kernel
theorem dX4_isSeen_8 : decode cX4_isSeen 8 = .ok (.iload_n 3, 1) := by decide +kernel
theorem dX4_isSeen_9 : decode cX4_isSeen 9 = .ok (.invokestatic 85, 3) := by decide +kernel
theorem dX4_isSeen_12 : decode cX4_isSeen 12 = .ok (.aload 4, 2) := by decide +kernel
theorem dX4_isSeen_14 : decode cX4_isSeen 14 = .ok (.iload_n 2, 1) := by decide +kernel
theorem dX4_isSeen_15 : decode cX4_isSeen 15 = .ok (.iload_n 3, 1) := by decide +kernel
theorem dX4_isSeen_16 : decode cX4_isSeen 16 = .ok (.invokevirtual 131, 3) := by decide +kernel
theorem dX4_isSeen_19 : decode cX4_isSeen 19 = .ok (.ireturn, 1) := by decide +kernel
theorem dX4_common_0 : decode cX4_common 0 = .ok (.aload_n 0, 1) := by decide +kernel
theorem dX4_common_1 : decode cX4_common 1 = .ok (.iload_n 1, 1) := by decide +kernel
theorem dX4_common_2 : decode cX4_common 2 = .ok (.invokevirtual 100, 3) := by decide +kernel
theorem dX4_common_5 : decode cX4_common 5 = .ok (.aload_n 0, 1) := by decide +kernel
theorem dX4_common_6 : decode cX4_common 6 = .ok (.iload_n 2, 1) := by decide +kernel
theorem dX4_common_7 : decode cX4_common 7 = .ok (.invokevirtual 100, 3) := by decide +kernel
theorem dX4_common_10 : decode cX4_common 10 = .ok (.invokevirtual 135, 3) := by decide +kernel
theorem dX4_common_13 : decode cX4_common 13 = .ok (.ireturn, 1) := by decide +kernel
theorem dX4_clashes_0 : decode cX4_clashes 0 = .ok (.iconst 0, 1) := by decide +kernel
theorem dX4_clashes_1 : decode cX4_clashes 1 = .ok (.istore_n 1, 1) := by decide +kernel
theorem dX4_clashes_2 : decode cX4_clashes 2 = .ok (.iconst 0, 1) := by decide +kernel
theorem dX4_clashes_3 : decode cX4_clashes 3 = .ok (.istore_n 2, 1) := by decide +kernel
theorem dX4_clashes_4 : decode cX4_clashes 4 = .ok (.iload_n 2, 1) := by decide +kernel
theorem dX4_clashes_5 : decode cX4_clashes 5 = .ok (.aload_n 0, 1) := by decide +kernel
theorem dX4_clashes_6 : decode cX4_clashes 6 = .ok (.getfield 24, 3) := by decide +kernel
theorem dX4_clashes_9 : decode cX4_clashes 9 = .ok (.invokevirtual 46, 3) := by decide +kernel
theorem dX4_clashes_12 : decode cX4_clashes 12 = .ok (.if_icmp .ge 62, 3) := by decide +kernel
theorem dX4_clashes_15 : decode cX4_clashes 15 = .ok (.iload_n 2, 1) := by decide +kernel
theorem dX4_clashes_16 : decode cX4_clashes 16 = .ok (.iconst 1, 1) := by decide +kernel
theorem dX4_clashes_17 : decode cX4_clashes 17 = .ok (.iadd, 1) := by decide +kernel
theorem dX4_clashes_18 : decode cX4_clashes 18 = .ok (.istore_n 3, 1) := by decide +kernel
theorem dX4_clashes_19 : decode cX4_clashes 19 = .ok (.iload_n 3, 1) := by decide +kernel
theorem dX4_clashes_20 : decode cX4_clashes 20 = .ok (.aload_n 0, 1) := by decide +kernel
theorem dX4_clashes_21 : decode cX4_clashes 21 = .ok (.getfield 24, 3) := by decide +kernel
theorem dX4_clashes_24 : decode cX4_clashes 24 = .ok (.invokevirtual 46, 3) := by decide +kernel
theorem dX4_clashes_27 : decode cX4_clashes 27 = .ok (.if_icmp .ge 41, 3) := by decide +kernel
theorem dX4_clashes_30 : decode cX4_clashes 30 = .ok (.aload_n 0, 1) := by decide +kernel
theorem dX4_clashes_31 : decode cX4_clashes 31 = .ok (.aload_n 0, 1) := by decide +kernel
theorem dX4_clashes_32 : decode cX4_clashes 32 = .ok (.getfield 24, 3) := by decide +kernel
theorem dX4_clashes_35 : decode cX4_clashes 35 = .ok (.iload_n 2, 1) := by decide +kernel
theorem dX4_clashes_36 : decode cX4_clashes 36 = .ok (.invokevirtual 139, 3) := by decide +kernel
theorem dX4_clashes_39 : decode cX4_clashes 39 = .ok (.checkcast 91, 3) := by decide +kernel
theorem dX4_clashes_42 : decode cX4_clashes 42 = .ok (.aload_n 0, 1) := by decide +kernel
theorem dX4_clashes_43 : decode cX4_clashes 43 = .ok (.getfield 24, 3) := by decide +kernel
theorem dX4_clashes_46 : decode cX4_clashes 46 = .ok (.iload_n 3, 1) := by decide +kernel
theorem dX4_clashes_47 : decode cX4_clashes 47 = .ok (.invokevirtual 139, 3) := by decide +kernel
theorem dX4_clashes_50 : decode cX4_clashes 50 = .ok (.checkcast 91, 3) := by decide +kernel
theorem dX4_clashes_53 : decode cX4_clashes 53 = .ok (.invokevirtual 143, 3) := by decide +kernel
theorem dX4_clashes_56 : decode cX4_clashes 56 = .ok (.ifCond .eq 6, 3) := by decide +kernel
theorem dX4_clashes_59 : decode cX4_clashes 59 = .ok (.iinc 1 1, 3) := by decide +kernel
theorem dX4_clashes_62 : decode cX4_clashes 62 = .ok (.iinc 3 1, 3) := by decide +kernel
theorem dX4_clashes_65 : decode cX4_clashes 65 = .ok (.goto (-46), 3) := by decide +kernel
theorem dX4_clashes_68 : decode cX4_clashes 68 = .ok (.iinc 2 1, 3) := by decide +kernel
theorem dX4_clashes_71 : decode cX4_clashes 71 = .ok (.goto (-67), 3) := by decide +kernel
theorem dX4_clashes_74 : decode cX4_clashes 74 = .ok (.iload_n 1, 1) := by decide +kernel
theorem dX4_clashes_75 : decode cX4_clashes 75 = .ok (.ireturn, 1) := by decide +kernel
theorem dX4_notices_0 : decode cX4_notices 0 = .ok (.aload_n 0, 1) := by decide +kernel
theorem dX4_notices_1 : decode cX4_notices 1 = .ok (.getfield 27, 3) := by decide +kernel
theorem dX4_notices_4 : decode cX4_notices 4 = .ok (.invokevirtual 46, 3) := by decide +kernel
theorem dX4_notices_7 : decode cX4_notices 7 = .ok (.ireturn, 1) := by decide +kernel
theorem dX4_print_0 : decode cX4_print 0 = .ok (.aload_n 0, 1) := by decide +kernel
theorem dX4_print_1 : decode cX4_print 1 = .ok (.getfield 30, 3) := by decide +kernel
theorem dX4_print_4 : decode cX4_print 4 = .ok (.invokevirtual 46, 3) := by decide +kernel
theorem dX4_print_7 : decode cX4_print 7 = .ok (.bipush 10, 2) := by decide +kernel
theorem dX4_print_9 : decode cX4_print 9 = .ok (.if_icmp .lt 13, 3) := by decide +kernel
theorem dX4_print_12 : decode cX4_print 12 = .ok (.new 37, 3) := by decide +kernel
theorem dX4_print_15 : decode cX4_print 15 = .ok (.dup, 1) := by decide +kernel
theorem dX4_print_16 : decode cX4_print 16 = .ok (.ldc 147, 2) := by decide +kernel
theorem dX4_print_18 : decode cX4_print 18 = .ok (.invokespecial 41, 3) := by decide +kernel
theorem dX4_print_21 : decode cX4_print 21 = .ok (.athrow, 1) := by decide +kernel
theorem dX4_print_22 : decode cX4_print 22 = .ok (.new 149, 3) := by decide +kernel
theorem dX4_print_25 : decode cX4_print 25 = .ok (.dup, 1) := by decide +kernel
theorem dX4_print_26 : decode cX4_print 26 = .ok (.invokespecial 151, 3) := by decide +kernel
theorem dX4_print_29 : decode cX4_print 29 = .ok (.astore_n 1, 1) := by decide +kernel
theorem dX4_print_30 : decode cX4_print 30 = .ok (.aload_n 0, 1) := by decide +kernel
theorem dX4_print_31 : decode cX4_print 31 = .ok (.aload_n 1, 1) := by decide +kernel
theorem dX4_print_32 : decode cX4_print 32 = .ok (.aload_n 0, 1) := by decide +kernel
theorem dX4_print_33 : decode cX4_print 33 = .ok (.getfield 27, 3) := by decide +kernel
theorem dX4_print_36 : decode cX4_print 36 = .ok (.invokevirtual 46, 3) := by decide +kernel
theorem dX4_print_39 : decode cX4_print 39 = .ok (.invokevirtual 152, 3) := by decide +kernel
theorem dX4_print_42 : decode cX4_print 42 = .ok (.aload_n 0, 1) := by decide +kernel
theorem dX4_print_43 : decode cX4_print 43 = .ok (.getfield 30, 3) := by decide +kernel
theorem dX4_print_46 : decode cX4_print 46 = .ok (.aload_n 1, 1) := by decide +kernel
theorem dX4_print_47 : decode cX4_print 47 = .ok (.invokevirtual 63, 3) := by decide +kernel
theorem dX4_print_50 : decode cX4_print 50 = .ok (.pop, 1) := by decide +kernel
theorem dX4_print_51 : decode cX4_print 51 = .ok (.aload_n 0, 1) := by decide +kernel
theorem dX4_print_52 : decode cX4_print 52 = .ok (.getfield 30, 3) := by decide +kernel
theorem dX4_print_55 : decode cX4_print 55 = .ok (.invokevirtual 46, 3) := by decide +kernel
theorem dX4_print_58 : decode cX4_print 58 = .ok (.iconst 1, 1) := by decide +kernel
theorem dX4_print_59 : decode cX4_print 59 = .ok (.isub, 1) := by decide +kernel
theorem dX4_print_60 : decode cX4_print 60 = .ok (.ireturn, 1) := by decide +kernel
theorem dX4_correct_0 : decode cX4_correct 0 = .ok (.aload_n 0, 1) := by decide +kernel
theorem dX4_correct_1 : decode cX4_correct 1 = .ok (.iload_n 1, 1) := by decide +kernel
theorem dX4_correct_2 : decode cX4_correct 2 = .ok (.invokevirtual 156, 3) := by decide +kernel
theorem dX4_correct_5 : decode cX4_correct 5 = .ok (.astore_n 3, 1) := by decide +kernel
theorem dX4_correct_6 : decode cX4_correct 6 = .ok (.iload_n 2, 1) := by decide +kernel
theorem dX4_correct_7 : decode cX4_correct 7 = .ok (.iconst 1, 1) := by decide +kernel
theorem dX4_correct_8 : decode cX4_correct 8 = .ok (.bipush 100, 2) := by decide +kernel
theorem dX4_correct_10 : decode cX4_correct 10 = .ok (.invokestatic 33, 3) := by decide +kernel
theorem dX4_correct_13 : decode cX4_correct 13 = .ok (.iload_n 2, 1) := by decide +kernel
theorem dX4_correct_14 : decode cX4_correct 14 = .ok (.aload_n 0, 1) := by decide +kernel
theorem dX4_correct_15 : decode cX4_correct 15 = .ok (.aload_n 3, 1) := by decide +kernel
theorem dX4_correct_16 : decode cX4_correct 16 = .ok (.invokevirtual 160, 3) := by decide +kernel
theorem dX4_correct_19 : decode cX4_correct 19 = .ok (.invokestatic 164, 3) := by decide +kernel
theorem dX4_correct_22 : decode cX4_correct 22 = .ok (.istore 4, 2) := by decide +kernel
theorem dX4_correct_24 : decode cX4_correct 24 = .ok (.aload_n 0, 1) := by decide +kernel
theorem dX4_correct_25 : decode cX4_correct 25 = .ok (.aload_n 3, 1) := by decide +kernel
theorem dX4_correct_26 : decode cX4_correct 26 = .ok (.iload 4, 2) := by decide +kernel
theorem dX4_correct_28 : decode cX4_correct 28 = .ok (.invokevirtual 152, 3) := by decide +kernel
theorem dX4_correct_31 : decode cX4_correct 31 = .ok (.iload 4, 2) := by decide +kernel
theorem dX4_correct_33 : decode cX4_correct 33 = .ok (.ireturn, 1) := by decide +kernel
theorem dX4_behind_0 : decode cX4_behind 0 = .ok (.aload_n 0, 1) := by decide +kernel
theorem dX4_behind_1 : decode cX4_behind 1 = .ok (.aload_n 0, 1) := by decide +kernel
theorem dX4_behind_2 : decode cX4_behind 2 = .ok (.iload_n 1, 1) := by decide +kernel
theorem dX4_behind_3 : decode cX4_behind 3 = .ok (.invokevirtual 156, 3) := by decide +kernel
theorem dX4_behind_6 : decode cX4_behind 6 = .ok (.invokevirtual 160, 3) := by decide +kernel
theorem dX4_behind_9 : decode cX4_behind 9 = .ok (.ireturn, 1) := by decide +kernel
theorem dX4_shown_0 : decode cX4_shown 0 = .ok (.aload_n 0, 1) := by decide +kernel
theorem dX4_shown_1 : decode cX4_shown 1 = .ok (.iload_n 1, 1) := by decide +kernel
theorem dX4_shown_2 : decode cX4_shown 2 = .ok (.invokevirtual 156, 3) := by decide +kernel
theorem dX4_shown_5 : decode cX4_shown 5 = .ok (.astore_n 3, 1) := by decide +kernel
theorem dX4_shown_6 : decode cX4_shown 6 = .ok (.aload_n 0, 1) := by decide +kernel
theorem dX4_shown_7 : decode cX4_shown 7 = .ok (.iload_n 2, 1) := by decide +kernel
theorem dX4_shown_8 : decode cX4_shown 8 = .ok (.invokevirtual 169, 3) := by decide +kernel
theorem dX4_shown_11 : decode cX4_shown 11 = .ok (.aload_n 3, 1) := by decide +kernel
theorem dX4_shown_12 : decode cX4_shown 12 = .ok (.iload_n 2, 1) := by decide +kernel
theorem dX4_shown_13 : decode cX4_shown 13 = .ok (.invokevirtual 172, 3) := by decide +kernel
theorem dX4_shown_16 : decode cX4_shown 16 = .ok (.ireturn, 1) := by decide +kernel
theorem dX4_taken_0 : decode cX4_taken 0 = .ok (.aload_n 0, 1) := by decide +kernel
theorem dX4_taken_1 : decode cX4_taken 1 = .ok (.iload_n 1, 1) := by decide +kernel
theorem dX4_taken_2 : decode cX4_taken 2 = .ok (.invokevirtual 156, 3) := by decide +kernel
theorem dX4_taken_5 : decode cX4_taken 5 = .ok (.astore 7, 2) := by decide +kernel
theorem dX4_taken_7 : decode cX4_taken 7 = .ok (.aload_n 0, 1) := by decide +kernel
theorem dX4_taken_8 : decode cX4_taken 8 = .ok (.iload 4, 2) := by decide +kernel
theorem dX4_taken_10 : decode cX4_taken 10 = .ok (.invokevirtual 100, 3) := by decide +kernel
theorem dX4_taken_13 : decode cX4_taken 13 = .ok (.astore 8, 2) := by decide +kernel
theorem dX4_taken_15 : decode cX4_taken 15 = .ok (.iload_n 2, 1) := by decide +kernel
theorem dX4_taken_16 : decode cX4_taken 16 = .ok (.iload_n 3, 1) := by decide +kernel
theorem dX4_taken_17 : decode cX4_taken 17 = .ok (.invokestatic 85, 3) := by decide +kernel
theorem dX4_taken_20 : decode cX4_taken 20 = .ok (.iload 5, 2) := by decide +kernel
theorem dX4_taken_22 : decode cX4_taken 22 = .ok (.iconst 0, 1) := by decide +kernel
theorem dX4_taken_23 : decode cX4_taken 23 = .ok (.sipush 1000, 3) := by decide +kernel
theorem dX4_taken_26 : decode cX4_taken 26 = .ok (.invokestatic 33, 3) := by decide +kernel
theorem dX4_taken_29 : decode cX4_taken 29 = .ok (.iload 6, 2) := by decide +kernel
theorem dX4_taken_31 : decode cX4_taken 31 = .ok (.iconst 1, 1) := by decide +kernel
theorem dX4_taken_32 : decode cX4_taken 32 = .ok (.bipush 60, 2) := by decide +kernel
theorem dX4_taken_34 : decode cX4_taken 34 = .ok (.invokestatic 33, 3) := by decide +kernel
theorem dX4_taken_37 : decode cX4_taken 37 = .ok (.aload_n 0, 1) := by decide +kernel
theorem dX4_taken_38 : decode cX4_taken 38 = .ok (.aload 8, 2) := by decide +kernel
theorem dX4_taken_40 : decode cX4_taken 40 = .ok (.iload 5, 2) := by decide +kernel
theorem dX4_taken_42 : decode cX4_taken 42 = .ok (.iload 6, 2) := by decide +kernel
theorem dX4_taken_44 : decode cX4_taken 44 = .ok (.invokevirtual 175, 3) := by decide +kernel
theorem dX4_taken_47 : decode cX4_taken 47 = .ok (.lstore 9, 2) := by decide +kernel
theorem dX4_taken_49 : decode cX4_taken 49 = .ok (.iconst (-1), 1) := by decide +kernel
theorem dX4_taken_50 : decode cX4_taken 50 = .ok (.istore 11, 2) := by decide +kernel
theorem dX4_taken_52 : decode cX4_taken 52 = .ok (.iconst 0, 1) := by decide +kernel
theorem dX4_taken_53 : decode cX4_taken 53 = .ok (.istore 12, 2) := by decide +kernel
theorem dX4_taken_55 : decode cX4_taken 55 = .ok (.iload 12, 2) := by decide +kernel
theorem dX4_taken_57 : decode cX4_taken 57 = .ok (.aload_n 0, 1) := by decide +kernel
theorem dX4_taken_58 : decode cX4_taken 58 = .ok (.getfield 24, 3) := by decide +kernel
theorem dX4_taken_61 : decode cX4_taken 61 = .ok (.invokevirtual 46, 3) := by decide +kernel
theorem dX4_taken_64 : decode cX4_taken 64 = .ok (.if_icmp .ge 73, 3) := by decide +kernel
theorem dX4_taken_67 : decode cX4_taken 67 = .ok (.aload 7, 2) := by decide +kernel
theorem dX4_taken_69 : decode cX4_taken 69 = .ok (.iload 12, 2) := by decide +kernel
theorem dX4_taken_71 : decode cX4_taken 71 = .ok (.invokevirtual 172, 3) := by decide +kernel
theorem dX4_taken_74 : decode cX4_taken 74 = .ok (.istore 13, 2) := by decide +kernel
theorem dX4_taken_76 : decode cX4_taken 76 = .ok (.iload 13, 2) := by decide +kernel
theorem dX4_taken_78 : decode cX4_taken 78 = .ok (.iconst (-1), 1) := by decide +kernel
theorem dX4_taken_79 : decode cX4_taken 79 = .ok (.if_icmp .eq 52, 3) := by decide +kernel
theorem dX4_taken_82 : decode cX4_taken 82 = .ok (.aload_n 0, 1) := by decide +kernel
theorem dX4_taken_83 : decode cX4_taken 83 = .ok (.getfield 24, 3) := by decide +kernel
theorem dX4_taken_86 : decode cX4_taken 86 = .ok (.iload 12, 2) := by decide +kernel
theorem dX4_taken_88 : decode cX4_taken 88 = .ok (.invokevirtual 139, 3) := by decide +kernel
theorem dX4_taken_91 : decode cX4_taken 91 = .ok (.checkcast 91, 3) := by decide +kernel
theorem dX4_taken_94 : decode cX4_taken 94 = .ok (.iload_n 2, 1) := by decide +kernel
theorem dX4_taken_95 : decode cX4_taken 95 = .ok (.iload_n 3, 1) := by decide +kernel
theorem dX4_taken_96 : decode cX4_taken 96 = .ok (.invokevirtual 131, 3) := by decide +kernel
theorem dX4_taken_99 : decode cX4_taken 99 = .ok (.ifCond .eq 32, 3) := by decide +kernel
theorem dX4_taken_102 : decode cX4_taken 102 = .ok (.aload_n 0, 1) := by decide +kernel
theorem dX4_taken_103 : decode cX4_taken 103 = .ok (.iload 13, 2) := by decide +kernel
theorem dX4_taken_105 : decode cX4_taken 105 = .ok (.invokevirtual 67, 3) := by decide +kernel
theorem dX4_taken_108 : decode cX4_taken 108 = .ok (.lload 9, 2) := by decide +kernel
theorem dX4_taken_110 : decode cX4_taken 110 = .ok (.iload 6, 2) := by decide +kernel
theorem dX4_taken_112 : decode cX4_taken 112 = .ok (.invokevirtual 179, 3) := by decide +kernel
theorem dX4_taken_115 : decode cX4_taken 115 = .ok (.ifCond .eq 16, 3) := by decide +kernel
theorem dX4_taken_118 : decode cX4_taken 118 = .ok (.iload 11, 2) := by decide +kernel
theorem dX4_taken_120 : decode cX4_taken 120 = .ok (.iconst (-1), 1) := by decide +kernel
theorem dX4_taken_121 : decode cX4_taken 121 = .ok (.if_icmp .eq 6, 3) := by decide +kernel
theorem dX4_taken_124 : decode cX4_taken 124 = .ok (.bipush (-2), 2) := by decide +kernel
theorem dX4_taken_126 : decode cX4_taken 126 = .ok (.ireturn, 1) := by decide +kernel
theorem dX4_taken_127 : decode cX4_taken 127 = .ok (.iload 12, 2) := by decide +kernel
theorem dX4_taken_129 : decode cX4_taken 129 = .ok (.istore 11, 2) := by decide +kernel
theorem dX4_taken_131 : decode cX4_taken 131 = .ok (.iinc 12 1, 3) := by decide +kernel
theorem dX4_taken_134 : decode cX4_taken 134 = .ok (.goto (-79), 3) := by decide +kernel
theorem dX4_taken_137 : decode cX4_taken 137 = .ok (.iload 11, 2) := by decide +kernel
theorem dX4_taken_139 : decode cX4_taken 139 = .ok (.ireturn, 1) := by decide +kernel
theorem dX4_requireWithin_0 : decode cX4_requireWithin 0 = .ok (.iload_n 0, 1) := by decide +kernel
theorem dX4_requireWithin_1 : decode cX4_requireWithin 1 = .ok (.iload_n 1, 1) := by decide +kernel
theorem dX4_requireWithin_2 : decode cX4_requireWithin 2 = .ok (.if_icmp .lt 8, 3) := by decide +kernel
theorem dX4_requireWithin_5 : decode cX4_requireWithin 5 = .ok (.iload_n 0, 1) := by decide +kernel
theorem dX4_requireWithin_6 : decode cX4_requireWithin 6 = .ok (.iload_n 2, 1) := by decide +kernel
theorem dX4_requireWithin_7 : decode cX4_requireWithin 7 = .ok (.if_icmp .le 13, 3) := by decide +kernel
theorem dX4_requireWithin_10 : decode cX4_requireWithin 10 = .ok (.new 183, 3) := by decide +kernel
theorem dX4_requireWithin_13 : decode cX4_requireWithin 13 = .ok (.dup, 1) := by decide +kernel
theorem dX4_requireWithin_14 : decode cX4_requireWithin 14 = .ok (.ldc 185, 2) := by decide +kernel
theorem dX4_requireWithin_16 : decode cX4_requireWithin 16 = .ok (.invokespecial 187, 3) := by decide +kernel
theorem dX4_requireWithin_19 : decode cX4_requireWithin 19 = .ok (.athrow, 1) := by decide +kernel
theorem dX4_requireWithin_20 : decode cX4_requireWithin 20 = .ok (.return_, 1) := by decide +kernel
theorem dX4_requirePlace_0 : decode cX4_requirePlace 0 = .ok (.iload_n 0, 1) := by decide +kernel
theorem dX4_requirePlace_1 : decode cX4_requirePlace 1 = .ok (.iconst 0, 1) := by decide +kernel
theorem dX4_requirePlace_2 : decode cX4_requirePlace 2 = .ok (.bipush 31, 2) := by decide +kernel
theorem dX4_requirePlace_4 : decode cX4_requirePlace 4 = .ok (.invokestatic 33, 3) := by decide +kernel
theorem dX4_requirePlace_7 : decode cX4_requirePlace 7 = .ok (.iload_n 1, 1) := by decide +kernel
theorem dX4_requirePlace_8 : decode cX4_requirePlace 8 = .ok (.iconst 0, 1) := by decide +kernel
theorem dX4_requirePlace_9 : decode cX4_requirePlace 9 = .ok (.bipush 31, 2) := by decide +kernel
theorem dX4_requirePlace_11 : decode cX4_requirePlace 11 = .ok (.invokestatic 33, 3) := by decide +kernel
theorem dX4_requirePlace_14 : decode cX4_requirePlace 14 = .ok (.return_, 1) := by decide +kernel
theorem dX4_requirePattern_0 : decode cX4_requirePattern 0 = .ok (.iload_n 1, 1) := by decide +kernel
theorem dX4_requirePattern_1 : decode cX4_requirePattern 1 = .ok (.ifCond .lt 14, 3) := by decide +kernel
theorem dX4_requirePattern_4 : decode cX4_requirePattern 4 = .ok (.iload_n 1, 1) := by decide +kernel
theorem dX4_requirePattern_5 : decode cX4_requirePattern 5 = .ok (.aload_n 0, 1) := by decide +kernel
theorem dX4_requirePattern_6 : decode cX4_requirePattern 6 = .ok (.getfield 20, 3) := by decide +kernel
theorem dX4_requirePattern_9 : decode cX4_requirePattern 9 = .ok (.invokevirtual 46, 3) := by decide +kernel
theorem dX4_requirePattern_12 : decode cX4_requirePattern 12 = .ok (.if_icmp .lt 13, 3) := by decide +kernel
theorem dX4_requirePattern_15 : decode cX4_requirePattern 15 = .ok (.new 188, 3) := by decide +kernel
theorem dX4_requirePattern_18 : decode cX4_requirePattern 18 = .ok (.dup, 1) := by decide +kernel
theorem dX4_requirePattern_19 : decode cX4_requirePattern 19 = .ok (.ldc 190, 2) := by decide +kernel
theorem dX4_requirePattern_21 : decode cX4_requirePattern 21 = .ok (.invokespecial 192, 3) := by decide +kernel
theorem dX4_requirePattern_24 : decode cX4_requirePattern 24 = .ok (.athrow, 1) := by decide +kernel
theorem dX4_requirePattern_25 : decode cX4_requirePattern 25 = .ok (.return_, 1) := by decide +kernel
theorem dX4_requireLamp_0 : decode cX4_requireLamp 0 = .ok (.iload_n 1, 1) := by decide +kernel
theorem dX4_requireLamp_1 : decode cX4_requireLamp 1 = .ok (.ifCond .lt 14, 3) := by decide +kernel
theorem dX4_requireLamp_4 : decode cX4_requireLamp 4 = .ok (.iload_n 1, 1) := by decide +kernel
theorem dX4_requireLamp_5 : decode cX4_requireLamp 5 = .ok (.aload_n 0, 1) := by decide +kernel
theorem dX4_requireLamp_6 : decode cX4_requireLamp 6 = .ok (.getfield 24, 3) := by decide +kernel
theorem dX4_requireLamp_9 : decode cX4_requireLamp 9 = .ok (.invokevirtual 46, 3) := by decide +kernel
theorem dX4_requireLamp_12 : decode cX4_requireLamp 12 = .ok (.if_icmp .lt 13, 3) := by decide +kernel
theorem dX4_requireLamp_15 : decode cX4_requireLamp 15 = .ok (.new 188, 3) := by decide +kernel
theorem dX4_requireLamp_18 : decode cX4_requireLamp 18 = .ok (.dup, 1) := by decide +kernel
theorem dX4_requireLamp_19 : decode cX4_requireLamp 19 = .ok (.ldc 193, 2) := by decide +kernel
theorem dX4_requireLamp_21 : decode cX4_requireLamp 21 = .ok (.invokespecial 192, 3) := by decide +kernel
theorem dX4_requireLamp_24 : decode cX4_requireLamp 24 = .ok (.athrow, 1) := by decide +kernel
theorem dX4_requireLamp_25 : decode cX4_requireLamp 25 = .ok (.return_, 1) := by decide +kernel
theorem dX4_patternAt_0 : decode cX4_patternAt 0 = .ok (.aload_n 0, 1) := by decide +kernel
theorem dX4_patternAt_1 : decode cX4_patternAt 1 = .ok (.iload_n 1, 1) := by decide +kernel
theorem dX4_patternAt_2 : decode cX4_patternAt 2 = .ok (.invokevirtual 81, 3) := by decide +kernel
theorem dX4_patternAt_5 : decode cX4_patternAt 5 = .ok (.aload_n 0, 1) := by decide +kernel
theorem dX4_patternAt_6 : decode cX4_patternAt 6 = .ok (.getfield 20, 3) := by decide +kernel
theorem dX4_patternAt_9 : decode cX4_patternAt 9 = .ok (.iload_n 1, 1) := by decide +kernel
theorem dX4_patternAt_10 : decode cX4_patternAt 10 = .ok (.invokevirtual 139, 3) := by decide +kernel
theorem dX4_patternAt_13 : decode cX4_patternAt 13 = .ok (.checkcast 52, 3) := by decide +kernel
theorem dX4_patternAt_16 : decode cX4_patternAt 16 = .ok (.areturn, 1) := by decide +kernel
theorem dX4_lampAt_0 : decode cX4_lampAt 0 = .ok (.aload_n 0, 1) := by decide +kernel
theorem dX4_lampAt_1 : decode cX4_lampAt 1 = .ok (.iload_n 1, 1) := by decide +kernel
theorem dX4_lampAt_2 : decode cX4_lampAt 2 = .ok (.invokevirtual 169, 3) := by decide +kernel
theorem dX4_lampAt_5 : decode cX4_lampAt 5 = .ok (.aload_n 0, 1) := by decide +kernel
theorem dX4_lampAt_6 : decode cX4_lampAt 6 = .ok (.getfield 24, 3) := by decide +kernel
theorem dX4_lampAt_9 : decode cX4_lampAt 9 = .ok (.iload_n 1, 1) := by decide +kernel
theorem dX4_lampAt_10 : decode cX4_lampAt 10 = .ok (.invokevirtual 139, 3) := by decide +kernel
theorem dX4_lampAt_13 : decode cX4_lampAt 13 = .ok (.checkcast 91, 3) := by decide +kernel
theorem dX4_lampAt_16 : decode cX4_lampAt 16 = .ok (.areturn, 1) := by decide +kernel
theorem dX4_chartAt_0 : decode cX4_chartAt 0 = .ok (.iload_n 1, 1) := by decide +kernel
theorem dX4_chartAt_1 : decode cX4_chartAt 1 = .ok (.ifCond .lt 14, 3) := by decide +kernel
theorem dX4_chartAt_4 : decode cX4_chartAt 4 = .ok (.iload_n 1, 1) := by decide +kernel
theorem dX4_chartAt_5 : decode cX4_chartAt 5 = .ok (.aload_n 0, 1) := by decide +kernel
theorem dX4_chartAt_6 : decode cX4_chartAt 6 = .ok (.getfield 30, 3) := by decide +kernel
theorem dX4_chartAt_9 : decode cX4_chartAt 9 = .ok (.invokevirtual 46, 3) := by decide +kernel
theorem dX4_chartAt_12 : decode cX4_chartAt 12 = .ok (.if_icmp .lt 13, 3) := by decide +kernel
theorem dX4_chartAt_15 : decode cX4_chartAt 15 = .ok (.new 188, 3) := by decide +kernel
theorem dX4_chartAt_18 : decode cX4_chartAt 18 = .ok (.dup, 1) := by decide +kernel
theorem dX4_chartAt_19 : decode cX4_chartAt 19 = .ok (.ldc 195, 2) := by decide +kernel
theorem dX4_chartAt_21 : decode cX4_chartAt 21 = .ok (.invokespecial 192, 3) := by decide +kernel
theorem dX4_chartAt_24 : decode cX4_chartAt 24 = .ok (.athrow, 1) := by decide +kernel
theorem dX4_chartAt_25 : decode cX4_chartAt 25 = .ok (.aload_n 0, 1) := by decide +kernel
theorem dX4_chartAt_26 : decode cX4_chartAt 26 = .ok (.getfield 30, 3) := by decide +kernel
theorem dX4_chartAt_29 : decode cX4_chartAt 29 = .ok (.iload_n 1, 1) := by decide +kernel
theorem dX4_chartAt_30 : decode cX4_chartAt 30 = .ok (.invokevirtual 139, 3) := by decide +kernel
theorem dX4_chartAt_33 : decode cX4_chartAt 33 = .ok (.checkcast 149, 3) := by decide +kernel
theorem dX4_chartAt_36 : decode cX4_chartAt 36 = .ok (.areturn, 1) := by decide +kernel
theorem dX4_isLit_0 : decode cX4_isLit 0 = .ok (.aload_n 1, 1) := by decide +kernel
theorem dX4_isLit_1 : decode cX4_isLit 1 = .ok (.getfield 110, 3) := by decide +kernel
theorem dX4_isLit_4 : decode cX4_isLit 4 = .ok (.ifCond .ne 27, 3) := by decide +kernel
theorem dX4_isLit_7 : decode cX4_isLit 7 = .ok (.aload_n 0, 1) := by decide +kernel
theorem dX4_isLit_8 : decode cX4_isLit 8 = .ok (.aload_n 1, 1) := by decide +kernel
theorem dX4_isLit_9 : decode cX4_isLit 9 = .ok (.getfield 104, 3) := by decide +kernel
theorem dX4_isLit_12 : decode cX4_isLit 12 = .ok (.invokevirtual 67, 3) := by decide +kernel
theorem dX4_isLit_15 : decode cX4_isLit 15 = .ok (.iload_n 2, 1) := by decide +kernel
theorem dX4_isLit_16 : decode cX4_isLit 16 = .ok (.aload_n 1, 1) := by decide +kernel
theorem dX4_isLit_17 : decode cX4_isLit 17 = .ok (.getfield 107, 3) := by decide +kernel
theorem dX4_isLit_20 : decode cX4_isLit 20 = .ok (.iadd, 1) := by decide +kernel
theorem dX4_isLit_21 : decode cX4_isLit 21 = .ok (.invokevirtual 197, 3) := by decide +kernel
theorem dX4_isLit_24 : decode cX4_isLit 24 = .ok (.ifCond .eq 7, 3) := by decide +kernel
theorem dX4_isLit_27 : decode cX4_isLit 27 = .ok (.iconst 1, 1) := by decide +kernel
theorem dX4_isLit_28 : decode cX4_isLit 28 = .ok (.goto 4, 3) := by decide +kernel
theorem dX4_isLit_31 : decode cX4_isLit 31 = .ok (.iconst 0, 1) := by decide +kernel
theorem dX4_isLit_32 : decode cX4_isLit 32 = .ok (.ireturn, 1) := by decide +kernel
theorem dX4_clash_0 : decode cX4_clash 0 = .ok (.aload_n 0, 1) := by decide +kernel
theorem dX4_clash_1 : decode cX4_clash 1 = .ok (.aload_n 1, 1) := by decide +kernel
theorem dX4_clash_2 : decode cX4_clash 2 = .ok (.getfield 104, 3) := by decide +kernel
theorem dX4_clash_5 : decode cX4_clash 5 = .ok (.invokevirtual 67, 3) := by decide +kernel
theorem dX4_clash_8 : decode cX4_clash 8 = .ok (.aload_n 0, 1) := by decide +kernel
theorem dX4_clash_9 : decode cX4_clash 9 = .ok (.aload_n 2, 1) := by decide +kernel
theorem dX4_clash_10 : decode cX4_clash 10 = .ok (.getfield 104, 3) := by decide +kernel
theorem dX4_clash_13 : decode cX4_clash 13 = .ok (.invokevirtual 67, 3) := by decide +kernel
theorem dX4_clash_16 : decode cX4_clash 16 = .ok (.invokevirtual 74, 3) := by decide +kernel
theorem dX4_clash_19 : decode cX4_clash 19 = .ok (.ifCond .eq 15, 3) := by decide +kernel
theorem dX4_clash_22 : decode cX4_clash 22 = .ok (.aload_n 1, 1) := by decide +kernel
theorem dX4_clash_23 : decode cX4_clash 23 = .ok (.aload_n 2, 1) := by decide +kernel
theorem dX4_clash_24 : decode cX4_clash 24 = .ok (.invokevirtual 135, 3) := by decide +kernel
theorem dX4_clash_27 : decode cX4_clash 27 = .ok (.ifCond .le 7, 3) := by decide +kernel
theorem dX4_clash_30 : decode cX4_clash 30 = .ok (.iconst 1, 1) := by decide +kernel
theorem dX4_clash_31 : decode cX4_clash 31 = .ok (.goto 4, 3) := by decide +kernel
theorem dX4_clash_34 : decode cX4_clash 34 = .ok (.iconst 0, 1) := by decide +kernel
theorem dX4_clash_35 : decode cX4_clash 35 = .ok (.ireturn, 1) := by decide +kernel
theorem dX4_tell_0 : decode cX4_tell 0 = .ok (.aload_n 0, 1) := by decide +kernel
theorem dX4_tell_1 : decode cX4_tell 1 = .ok (.getfield 27, 3) := by decide +kernel
theorem dX4_tell_4 : decode cX4_tell 4 = .ok (.invokevirtual 46, 3) := by decide +kernel
theorem dX4_tell_7 : decode cX4_tell 7 = .ok (.sipush 512, 3) := by decide +kernel
theorem dX4_tell_10 : decode cX4_tell 10 = .ok (.if_icmp .lt 5, 3) := by decide +kernel
theorem dX4_tell_13 : decode cX4_tell 13 = .ok (.iconst (-1), 1) := by decide +kernel
theorem dX4_tell_14 : decode cX4_tell 14 = .ok (.ireturn, 1) := by decide +kernel
theorem dX4_tell_15 : decode cX4_tell 15 = .ok (.aload_n 0, 1) := by decide +kernel
theorem dX4_tell_16 : decode cX4_tell 16 = .ok (.iload_n 1, 1) := by decide +kernel
theorem dX4_tell_17 : decode cX4_tell 17 = .ok (.invokevirtual 100, 3) := by decide +kernel
theorem dX4_tell_20 : decode cX4_tell 20 = .ok (.astore_n 2, 1) := by decide +kernel
theorem dX4_tell_21 : decode cX4_tell 21 = .ok (.aload_n 0, 1) := by decide +kernel
theorem dX4_tell_22 : decode cX4_tell 22 = .ok (.getfield 27, 3) := by decide +kernel
theorem dX4_tell_25 : decode cX4_tell 25 = .ok (.new 201, 3) := by decide +kernel
theorem dX4_tell_28 : decode cX4_tell 28 = .ok (.dup, 1) := by decide +kernel
theorem dX4_tell_29 : decode cX4_tell 29 = .ok (.iload_n 1, 1) := by decide +kernel
theorem dX4_tell_30 : decode cX4_tell 30 = .ok (.aload_n 2, 1) := by decide +kernel
theorem dX4_tell_31 : decode cX4_tell 31 = .ok (.getfield 110, 3) := by decide +kernel
theorem dX4_tell_34 : decode cX4_tell 34 = .ok (.ifCond .eq 7, 3) := by decide +kernel
theorem dX4_tell_37 : decode cX4_tell 37 = .ok (.iconst (-1), 1) := by decide +kernel
theorem dX4_tell_38 : decode cX4_tell 38 = .ok (.goto 7, 3) := by decide +kernel
theorem dX4_tell_41 : decode cX4_tell 41 = .ok (.aload_n 2, 1) := by decide +kernel
theorem dX4_tell_42 : decode cX4_tell 42 = .ok (.getfield 104, 3) := by decide +kernel
theorem dX4_tell_45 : decode cX4_tell 45 = .ok (.invokespecial 203, 3) := by decide +kernel
theorem dX4_tell_48 : decode cX4_tell 48 = .ok (.invokevirtual 63, 3) := by decide +kernel
theorem dX4_tell_51 : decode cX4_tell 51 = .ok (.pop, 1) := by decide +kernel
theorem dX4_tell_52 : decode cX4_tell 52 = .ok (.aload_n 0, 1) := by decide +kernel
theorem dX4_tell_53 : decode cX4_tell 53 = .ok (.getfield 27, 3) := by decide +kernel
theorem dX4_tell_56 : decode cX4_tell 56 = .ok (.invokevirtual 46, 3) := by decide +kernel
theorem dX4_tell_59 : decode cX4_tell 59 = .ok (.iconst 1, 1) := by decide +kernel
theorem dX4_tell_60 : decode cX4_tell 60 = .ok (.isub, 1) := by decide +kernel
theorem dX4_tell_61 : decode cX4_tell 61 = .ok (.ireturn, 1) := by decide +kernel
theorem dX4_lackOf_0 : decode cX4_lackOf 0 = .ok (.aload_n 0, 1) := by decide +kernel
theorem dX4_lackOf_1 : decode cX4_lackOf 1 = .ok (.getfield 27, 3) := by decide +kernel
theorem dX4_lackOf_4 : decode cX4_lackOf 4 = .ok (.invokevirtual 46, 3) := by decide +kernel
theorem dX4_lackOf_7 : decode cX4_lackOf 7 = .ok (.aload_n 1, 1) := by decide +kernel
theorem dX4_lackOf_8 : decode cX4_lackOf 8 = .ok (.getfield 205, 3) := by decide +kernel
theorem dX4_lackOf_11 : decode cX4_lackOf 11 = .ok (.isub, 1) := by decide +kernel
theorem dX4_lackOf_12 : decode cX4_lackOf 12 = .ok (.ireturn, 1) := by decide +kernel
theorem dX4_putIn_0 : decode cX4_putIn 0 = .ok (.aload_n 1, 1) := by decide +kernel
theorem dX4_putIn_1 : decode cX4_putIn 1 = .ok (.getfield 205, 3) := by decide +kernel
theorem dX4_putIn_4 : decode cX4_putIn 4 = .ok (.iload_n 2, 1) := by decide +kernel
theorem dX4_putIn_5 : decode cX4_putIn 5 = .ok (.iadd, 1) := by decide +kernel
theorem dX4_putIn_6 : decode cX4_putIn 6 = .ok (.aload_n 0, 1) := by decide +kernel
theorem dX4_putIn_7 : decode cX4_putIn 7 = .ok (.getfield 27, 3) := by decide +kernel
theorem dX4_putIn_10 : decode cX4_putIn 10 = .ok (.invokevirtual 46, 3) := by decide +kernel
theorem dX4_putIn_13 : decode cX4_putIn 13 = .ok (.invokestatic 164, 3) := by decide +kernel
theorem dX4_putIn_16 : decode cX4_putIn 16 = .ok (.istore_n 3, 1) := by decide +kernel
theorem dX4_putIn_17 : decode cX4_putIn 17 = .ok (.aload_n 1, 1) := by decide +kernel
theorem dX4_putIn_18 : decode cX4_putIn 18 = .ok (.getfield 205, 3) := by decide +kernel
theorem dX4_putIn_21 : decode cX4_putIn 21 = .ok (.istore 4, 2) := by decide +kernel
theorem dX4_putIn_23 : decode cX4_putIn 23 = .ok (.iload 4, 2) := by decide +kernel
theorem dX4_putIn_25 : decode cX4_putIn 25 = .ok (.iload_n 3, 1) := by decide +kernel
theorem dX4_putIn_26 : decode cX4_putIn 26 = .ok (.if_icmp .ge 25, 3) := by decide +kernel
theorem dX4_putIn_29 : decode cX4_putIn 29 = .ok (.aload_n 1, 1) := by decide +kernel
theorem dX4_putIn_30 : decode cX4_putIn 30 = .ok (.aload_n 0, 1) := by decide +kernel
theorem dX4_putIn_31 : decode cX4_putIn 31 = .ok (.getfield 27, 3) := by decide +kernel
theorem dX4_putIn_34 : decode cX4_putIn 34 = .ok (.iload 4, 2) := by decide +kernel
theorem dX4_putIn_36 : decode cX4_putIn 36 = .ok (.invokevirtual 139, 3) := by decide +kernel
theorem dX4_putIn_39 : decode cX4_putIn 39 = .ok (.checkcast 201, 3) := by decide +kernel
theorem dX4_putIn_42 : decode cX4_putIn 42 = .ok (.invokevirtual 208, 3) := by decide +kernel
theorem dX4_putIn_45 : decode cX4_putIn 45 = .ok (.iinc 4 1, 3) := by decide +kernel
theorem dX4_putIn_48 : decode cX4_putIn 48 = .ok (.goto (-25), 3) := by decide +kernel
theorem dX4_putIn_51 : decode cX4_putIn 51 = .ok (.return_, 1) := by decide +kernel
theorem dX4_lookAt_0 : decode cX4_lookAt 0 = .ok (.lconst 0, 1) := by decide +kernel
theorem dX4_lookAt_1 : decode cX4_lookAt 1 = .ok (.lstore 4, 2) := by decide +kernel
theorem dX4_lookAt_3 : decode cX4_lookAt 3 = .ok (.iconst 0, 1) := by decide +kernel
theorem dX4_lookAt_4 : decode cX4_lookAt 4 = .ok (.istore 6, 2) := by decide +kernel
theorem dX4_lookAt_6 : decode cX4_lookAt 6 = .ok (.iload 6, 2) := by decide +kernel
theorem dX4_lookAt_8 : decode cX4_lookAt 8 = .ok (.iload_n 3, 1) := by decide +kernel
theorem dX4_lookAt_9 : decode cX4_lookAt 9 = .ok (.if_icmp .ge 30, 3) := by decide +kernel
theorem dX4_lookAt_12 : decode cX4_lookAt 12 = .ok (.aload_n 0, 1) := by decide +kernel
theorem dX4_lookAt_13 : decode cX4_lookAt 13 = .ok (.aload_n 1, 1) := by decide +kernel
theorem dX4_lookAt_14 : decode cX4_lookAt 14 = .ok (.iload_n 2, 1) := by decide +kernel
theorem dX4_lookAt_15 : decode cX4_lookAt 15 = .ok (.iload 6, 2) := by decide +kernel
theorem dX4_lookAt_17 : decode cX4_lookAt 17 = .ok (.iadd, 1) := by decide +kernel
theorem dX4_lookAt_18 : decode cX4_lookAt 18 = .ok (.invokevirtual 117, 3) := by decide +kernel
theorem dX4_lookAt_21 : decode cX4_lookAt 21 = .ok (.ifCond .eq 12, 3) := by decide +kernel
theorem dX4_lookAt_24 : decode cX4_lookAt 24 = .ok (.lload 4, 2) := by decide +kernel
theorem dX4_lookAt_26 : decode cX4_lookAt 26 = .ok (.lconst 1, 1) := by decide +kernel
theorem dX4_lookAt_27 : decode cX4_lookAt 27 = .ok (.iload 6, 2) := by decide +kernel
theorem dX4_lookAt_29 : decode cX4_lookAt 29 = .ok (.lshl, 1) := by decide +kernel
theorem dX4_lookAt_30 : decode cX4_lookAt 30 = .ok (.lor, 1) := by decide +kernel
theorem dX4_lookAt_31 : decode cX4_lookAt 31 = .ok (.lstore 4, 2) := by decide +kernel
theorem dX4_lookAt_33 : decode cX4_lookAt 33 = .ok (.iinc 6 1, 3) := by decide +kernel
theorem dX4_lookAt_36 : decode cX4_lookAt 36 = .ok (.goto (-30), 3) := by decide +kernel
theorem dX4_lookAt_39 : decode cX4_lookAt 39 = .ok (.lload 4, 2) := by decide +kernel
theorem dX4_lookAt_41 : decode cX4_lookAt 41 = .ok (.lreturn, 1) := by decide +kernel
theorem dX5_init_0 : decode cX5_init 0 = .ok (.aload_n 0, 1) := by decide +kernel
theorem dX5_init_1 : decode cX5_init 1 = .ok (.invokespecial 1, 3) := by decide +kernel
theorem dX5_init_4 : decode cX5_init 4 = .ok (.aload_n 0, 1) := by decide +kernel
theorem dX5_init_5 : decode cX5_init 5 = .ok (.bipush 6, 2) := by decide +kernel
theorem dX5_init_7 : decode cX5_init 7 = .ok (.newarray .int, 2) := by decide +kernel
theorem dX5_init_9 : decode cX5_init 9 = .ok (.putfield 7, 3) := by decide +kernel
theorem dX5_init_12 : decode cX5_init 12 = .ok (.aload_n 0, 1) := by decide +kernel
theorem dX5_init_13 : decode cX5_init 13 = .ok (.bipush 120, 2) := by decide +kernel
theorem dX5_init_15 : decode cX5_init 15 = .ok (.newarray .int, 2) := by decide +kernel
theorem dX5_init_17 : decode cX5_init 17 = .ok (.putfield 13, 3) := by decide +kernel
theorem dX5_init_20 : decode cX5_init 20 = .ok (.aload_n 0, 1) := by decide +kernel
theorem dX5_init_21 : decode cX5_init 21 = .ok (.bipush 20, 2) := by decide +kernel
theorem dX5_init_23 : decode cX5_init 23 = .ok (.newarray .int, 2) := by decide +kernel
theorem dX5_init_25 : decode cX5_init 25 = .ok (.putfield 16, 3) := by decide +kernel
theorem dX5_init_28 : decode cX5_init 28 = .ok (.aload_n 0, 1) := by decide +kernel
theorem dX5_init_29 : decode cX5_init 29 = .ok (.bipush 20, 2) := by decide +kernel
theorem dX5_init_31 : decode cX5_init 31 = .ok (.newarray .int, 2) := by decide +kernel
theorem dX5_init_33 : decode cX5_init 33 = .ok (.putfield 19, 3) := by decide +kernel
theorem dX5_init_36 : decode cX5_init 36 = .ok (.aload_n 0, 1) := by decide +kernel
theorem dX5_init_37 : decode cX5_init 37 = .ok (.bipush 12, 2) := by decide +kernel
theorem dX5_init_39 : decode cX5_init 39 = .ok (.newarray .int, 2) := by decide +kernel
theorem dX5_init_41 : decode cX5_init 41 = .ok (.putfield 22, 3) := by decide +kernel
theorem dX5_init_44 : decode cX5_init 44 = .ok (.aload_n 0, 1) := by decide +kernel
theorem dX5_init_45 : decode cX5_init 45 = .ok (.bipush 12, 2) := by decide +kernel
theorem dX5_init_47 : decode cX5_init 47 = .ok (.newarray .int, 2) := by decide +kernel
theorem dX5_init_49 : decode cX5_init 49 = .ok (.putfield 25, 3) := by decide +kernel
theorem dX5_init_52 : decode cX5_init 52 = .ok (.aload_n 0, 1) := by decide +kernel
theorem dX5_init_53 : decode cX5_init 53 = .ok (.bipush 12, 2) := by decide +kernel
theorem dX5_init_55 : decode cX5_init 55 = .ok (.newarray .int, 2) := by decide +kernel
theorem dX5_init_57 : decode cX5_init 57 = .ok (.putfield 28, 3) := by decide +kernel
theorem dX5_init_60 : decode cX5_init 60 = .ok (.aload_n 0, 1) := by decide +kernel
theorem dX5_init_61 : decode cX5_init 61 = .ok (.bipush 12, 2) := by decide +kernel
theorem dX5_init_63 : decode cX5_init 63 = .ok (.newarray .int, 2) := by decide +kernel
theorem dX5_init_65 : decode cX5_init 65 = .ok (.putfield 31, 3) := by decide +kernel
theorem dX5_init_68 : decode cX5_init 68 = .ok (.aload_n 0, 1) := by decide +kernel
theorem dX5_init_69 : decode cX5_init 69 = .ok (.bipush 12, 2) := by decide +kernel
theorem dX5_init_71 : decode cX5_init 71 = .ok (.newarray .int, 2) := by decide +kernel
theorem dX5_init_73 : decode cX5_init 73 = .ok (.putfield 34, 3) := by decide +kernel
theorem dX5_init_76 : decode cX5_init 76 = .ok (.aload_n 0, 1) := by decide +kernel
theorem dX5_init_77 : decode cX5_init 77 = .ok (.bipush 12, 2) := by decide +kernel
theorem dX5_init_79 : decode cX5_init 79 = .ok (.newarray .int, 2) := by decide +kernel
theorem dX5_init_81 : decode cX5_init 81 = .ok (.putfield 37, 3) := by decide +kernel
theorem dX5_init_84 : decode cX5_init 84 = .ok (.aload_n 0, 1) := by decide +kernel
theorem dX5_init_85 : decode cX5_init 85 = .ok (.bipush 12, 2) := by decide +kernel
theorem dX5_init_87 : decode cX5_init 87 = .ok (.newarray .boolean, 2) := by decide +kernel
theorem dX5_init_89 : decode cX5_init 89 = .ok (.putfield 40, 3) := by decide +kernel
theorem dX5_init_92 : decode cX5_init 92 = .ok (.aload_n 0, 1) := by decide +kernel
theorem dX5_init_93 : decode cX5_init 93 = .ok (.sipush 4200, 3) := by decide +kernel
theorem dX5_init_96 : decode cX5_init 96 = .ok (.newarray .int, 2) := by decide +kernel
theorem dX5_init_98 : decode cX5_init 98 = .ok (.putfield 44, 3) := by decide +kernel
theorem dX5_init_101 : decode cX5_init 101 = .ok (.aload_n 0, 1) := by decide +kernel
theorem dX5_init_102 : decode cX5_init 102 = .ok (.bipush 10, 2) := by decide +kernel
theorem dX5_init_104 : decode cX5_init 104 = .ok (.newarray .int, 2) := by decide +kernel
theorem dX5_init_106 : decode cX5_init 106 = .ok (.putfield 47, 3) := by decide +kernel
theorem dX5_init_109 : decode cX5_init 109 = .ok (.aload_n 0, 1) := by decide +kernel
theorem dX5_init_110 : decode cX5_init 110 = .ok (.bipush 120, 2) := by decide +kernel
theorem dX5_init_112 : decode cX5_init 112 = .ok (.newarray .int, 2) := by decide +kernel
theorem dX5_init_114 : decode cX5_init 114 = .ok (.putfield 50, 3) := by decide +kernel
theorem dX5_init_117 : decode cX5_init 117 = .ok (.return_, 1) := by decide +kernel
theorem dX5_thrown_0 : decode cX5_thrown 0 = .ok (.aload_n 0, 1) := by decide +kernel
theorem dX5_thrown_1 : decode cX5_thrown 1 = .ok (.getfield 53, 3) := by decide +kernel
theorem dX5_thrown_4 : decode cX5_thrown 4 = .ok (.ireturn, 1) := by decide +kernel
theorem dX5_isIn_0 : decode cX5_isIn 0 = .ok (.iload_n 0, 1) := by decide +kernel
theorem dX5_isIn_1 : decode cX5_isIn 1 = .ok (.iload_n 1, 1) := by decide +kernel
theorem dX5_isIn_2 : decode cX5_isIn 2 = .ok (.if_icmp .lt 12, 3) := by decide +kernel
theorem dX5_isIn_5 : decode cX5_isIn 5 = .ok (.iload_n 0, 1) := by decide +kernel
theorem dX5_isIn_6 : decode cX5_isIn 6 = .ok (.iload_n 2, 1) := by decide +kernel
theorem dX5_isIn_7 : decode cX5_isIn 7 = .ok (.if_icmp .gt 7, 3) := by decide +kernel
theorem dX5_isIn_10 : decode cX5_isIn 10 = .ok (.iconst 1, 1) := by decide +kernel
theorem dX5_isIn_11 : decode cX5_isIn 11 = .ok (.goto 4, 3) := by decide +kernel
theorem dX5_isIn_14 : decode cX5_isIn 14 = .ok (.iconst 0, 1) := by decide +kernel
theorem dX5_isIn_15 : decode cX5_isIn 15 = .ok (.ireturn, 1) := by decide +kernel
theorem dX5_isPattern_0 : decode cX5_isPattern 0 = .ok (.iload_n 1, 1) := by decide +kernel
theorem dX5_isPattern_1 : decode cX5_isPattern 1 = .ok (.iconst 0, 1) := by decide +kernel
theorem dX5_isPattern_2 : decode cX5_isPattern 2 = .ok (.aload_n 0, 1) := by decide +kernel
theorem dX5_isPattern_3 : decode cX5_isPattern 3 = .ok (.getfield 57, 3) := by decide +kernel
theorem dX5_isPattern_6 : decode cX5_isPattern 6 = .ok (.iconst 1, 1) := by decide +kernel
theorem dX5_isPattern_7 : decode cX5_isPattern 7 = .ok (.isub, 1) := by decide +kernel
theorem dX5_isPattern_8 : decode cX5_isPattern 8 = .ok (.invokestatic 60, 3) := by decide +kernel
theorem dX5_isPattern_11 : decode cX5_isPattern 11 = .ok (.ireturn, 1) := by decide +kernel
theorem dX5_isLamp_0 : decode cX5_isLamp 0 = .ok (.iload_n 1, 1) := by decide +kernel
theorem dX5_isLamp_1 : decode cX5_isLamp 1 = .ok (.iconst 0, 1) := by decide +kernel
theorem dX5_isLamp_2 : decode cX5_isLamp 2 = .ok (.aload_n 0, 1) := by decide +kernel
theorem dX5_isLamp_3 : decode cX5_isLamp 3 = .ok (.getfield 64, 3) := by decide +kernel
theorem dX5_isLamp_6 : decode cX5_isLamp 6 = .ok (.iconst 1, 1) := by decide +kernel
theorem dX5_isLamp_7 : decode cX5_isLamp 7 = .ok (.isub, 1) := by decide +kernel
theorem dX5_isLamp_8 : decode cX5_isLamp 8 = .ok (.invokestatic 60, 3) := by decide +kernel
theorem dX5_isLamp_11 : decode cX5_isLamp 11 = .ok (.ireturn, 1) := by decide +kernel
theorem dX5_isChart_0 : decode cX5_isChart 0 = .ok (.iload_n 1, 1) := by decide +kernel
theorem dX5_isChart_1 : decode cX5_isChart 1 = .ok (.iconst 0, 1) := by decide +kernel
theorem dX5_isChart_2 : decode cX5_isChart 2 = .ok (.aload_n 0, 1) := by decide +kernel
theorem dX5_isChart_3 : decode cX5_isChart 3 = .ok (.getfield 67, 3) := by decide +kernel
theorem dX5_isChart_6 : decode cX5_isChart 6 = .ok (.iconst 1, 1) := by decide +kernel
theorem dX5_isChart_7 : decode cX5_isChart 7 = .ok (.isub, 1) := by decide +kernel
theorem dX5_isChart_8 : decode cX5_isChart 8 = .ok (.invokestatic 60, 3) := by decide +kernel
theorem dX5_isChart_11 : decode cX5_isChart 11 = .ok (.ireturn, 1) := by decide +kernel
theorem dX5_isPlace_0 : decode cX5_isPlace 0 = .ok (.iload_n 0, 1) := by decide +kernel
theorem dX5_isPlace_1 : decode cX5_isPlace 1 = .ok (.iconst 0, 1) := by decide +kernel
theorem dX5_isPlace_2 : decode cX5_isPlace 2 = .ok (.bipush 31, 2) := by decide +kernel
theorem dX5_isPlace_4 : decode cX5_isPlace 4 = .ok (.invokestatic 60, 3) := by decide +kernel
theorem dX5_isPlace_7 : decode cX5_isPlace 7 = .ok (.ifCond .eq 17, 3) := by decide +kernel
theorem dX5_isPlace_10 : decode cX5_isPlace 10 = .ok (.iload_n 1, 1) := by decide +kernel
theorem dX5_isPlace_11 : decode cX5_isPlace 11 = .ok (.iconst 0, 1) := by decide +kernel
theorem dX5_isPlace_12 : decode cX5_isPlace 12 = .ok (.bipush 31, 2) := by decide +kernel
theorem dX5_isPlace_14 : decode cX5_isPlace 14 = .ok (.invokestatic 60, 3) := by decide +kernel
theorem dX5_isPlace_17 : decode cX5_isPlace 17 = .ok (.ifCond .eq 7, 3) := by decide +kernel
theorem dX5_isPlace_20 : decode cX5_isPlace 20 = .ok (.iconst 1, 1) := by decide +kernel
theorem dX5_isPlace_21 : decode cX5_isPlace 21 = .ok (.goto 4, 3) := by decide +kernel
theorem dX5_isPlace_24 : decode cX5_isPlace 24 = .ok (.iconst 0, 1) := by decide +kernel
theorem dX5_isPlace_25 : decode cX5_isPlace 25 = .ok (.ireturn, 1) := by decide +kernel
theorem dX5_phase_0 : decode cX5_phase 0 = .ok (.aload_n 0, 1) := by decide +kernel
theorem dX5_phase_1 : decode cX5_phase 1 = .ok (.iload_n 1, 1) := by decide +kernel
theorem dX5_phase_2 : decode cX5_phase 2 = .ok (.iconst 1, 1) := by decide +kernel
theorem dX5_phase_3 : decode cX5_phase 3 = .ok (.bipush 9, 2) := by decide +kernel
theorem dX5_phase_5 : decode cX5_phase 5 = .ok (.invokestatic 60, 3) := by decide +kernel
theorem dX5_phase_8 : decode cX5_phase 8 = .ok (.ifCond .ne 7, 3) := by decide +kernel
theorem dX5_phase_11 : decode cX5_phase 11 = .ok (.iconst 1, 1) := by decide +kernel
theorem dX5_phase_12 : decode cX5_phase 12 = .ok (.goto 17, 3) := by decide +kernel
theorem dX5_phase_15 : decode cX5_phase 15 = .ok (.aload_n 0, 1) := by decide +kernel
theorem dX5_phase_16 : decode cX5_phase 16 = .ok (.getfield 70, 3) := by decide +kernel
theorem dX5_phase_19 : decode cX5_phase 19 = .ok (.bipush 6, 2) := by decide +kernel
theorem dX5_phase_21 : decode cX5_phase 21 = .ok (.if_icmp .ne 7, 3) := by decide +kernel
theorem dX5_phase_24 : decode cX5_phase 24 = .ok (.iconst 2, 1) := by decide +kernel
theorem dX5_phase_25 : decode cX5_phase 25 = .ok (.goto 4, 3) := by decide +kernel
theorem dX5_phase_28 : decode cX5_phase 28 = .ok (.iconst 0, 1) := by decide +kernel
theorem dX5_phase_29 : decode cX5_phase 29 = .ok (.putfield 53, 3) := by decide +kernel
theorem dX5_phase_32 : decode cX5_phase 32 = .ok (.aload_n 0, 1) := by decide +kernel
theorem dX5_phase_33 : decode cX5_phase 33 = .ok (.getfield 53, 3) := by decide +kernel
theorem dX5_phase_36 : decode cX5_phase 36 = .ok (.ifCond .le 5, 3) := by decide +kernel
theorem dX5_phase_39 : decode cX5_phase 39 = .ok (.iconst 0, 1) := by decide +kernel
theorem dX5_phase_40 : decode cX5_phase 40 = .ok (.ireturn, 1) := by decide +kernel
theorem dX5_phase_41 : decode cX5_phase 41 = .ok (.aload_n 0, 1) := by decide +kernel
theorem dX5_phase_42 : decode cX5_phase 42 = .ok (.getfield 7, 3) := by decide +kernel
theorem dX5_phase_45 : decode cX5_phase 45 = .ok (.aload_n 0, 1) := by decide +kernel
theorem dX5_phase_46 : decode cX5_phase 46 = .ok (.getfield 70, 3) := by decide +kernel
theorem dX5_phase_49 : decode cX5_phase 49 = .ok (.iload_n 1, 1) := by decide +kernel
theorem dX5_phase_50 : decode cX5_phase 50 = .ok (.iastore, 1) := by decide +kernel
theorem dX5_phase_51 : decode cX5_phase 51 = .ok (.aload_n 0, 1) := by decide +kernel
theorem dX5_phase_52 : decode cX5_phase 52 = .ok (.dup, 1) := by decide +kernel
theorem dX5_phase_53 : decode cX5_phase 53 = .ok (.getfield 70, 3) := by decide +kernel
theorem dX5_phase_56 : decode cX5_phase 56 = .ok (.iconst 1, 1) := by decide +kernel
theorem dX5_phase_57 : decode cX5_phase 57 = .ok (.iadd, 1) := by decide +kernel
theorem dX5_phase_58 : decode cX5_phase 58 = .ok (.putfield 70, 3) := by decide +kernel
theorem dX5_phase_61 : decode cX5_phase 61 = .ok (.aload_n 0, 1) := by decide +kernel
theorem dX5_phase_62 : decode cX5_phase 62 = .ok (.getfield 70, 3) := by decide +kernel
theorem dX5_phase_65 : decode cX5_phase 65 = .ok (.ireturn, 1) := by decide +kernel
theorem dX5_pattern_0 : decode cX5_pattern 0 = .ok (.aload_n 0, 1) := by decide +kernel
theorem dX5_pattern_1 : decode cX5_pattern 1 = .ok (.getfield 70, 3) := by decide +kernel
theorem dX5_pattern_4 : decode cX5_pattern 4 = .ok (.iconst 2, 1) := by decide +kernel
theorem dX5_pattern_5 : decode cX5_pattern 5 = .ok (.if_icmp .eq 20, 3) := by decide +kernel
theorem dX5_pattern_8 : decode cX5_pattern 8 = .ok (.aload_n 0, 1) := by decide +kernel
theorem dX5_pattern_9 : decode cX5_pattern 9 = .ok (.getfield 70, 3) := by decide +kernel
theorem dX5_pattern_12 : decode cX5_pattern 12 = .ok (.iconst 4, 1) := by decide +kernel
theorem dX5_pattern_13 : decode cX5_pattern 13 = .ok (.if_icmp .eq 12, 3) := by decide +kernel
theorem dX5_pattern_16 : decode cX5_pattern 16 = .ok (.aload_n 0, 1) := by decide +kernel
theorem dX5_pattern_17 : decode cX5_pattern 17 = .ok (.getfield 70, 3) := by decide +kernel
theorem dX5_pattern_20 : decode cX5_pattern 20 = .ok (.bipush 6, 2) := by decide +kernel
theorem dX5_pattern_22 : decode cX5_pattern 22 = .ok (.if_icmp .ne 7, 3) := by decide +kernel
theorem dX5_pattern_25 : decode cX5_pattern 25 = .ok (.iconst 1, 1) := by decide +kernel
theorem dX5_pattern_26 : decode cX5_pattern 26 = .ok (.goto 4, 3) := by decide +kernel
theorem dX5_pattern_29 : decode cX5_pattern 29 = .ok (.iconst 0, 1) := by decide +kernel
theorem dX5_pattern_30 : decode cX5_pattern 30 = .ok (.istore_n 1, 1) := by decide +kernel
theorem dX5_pattern_31 : decode cX5_pattern 31 = .ok (.aload_n 0, 1) := by decide +kernel
theorem dX5_pattern_32 : decode cX5_pattern 32 = .ok (.iload_n 1, 1) := by decide +kernel
theorem dX5_pattern_33 : decode cX5_pattern 33 = .ok (.ifCond .eq 16, 3) := by decide +kernel
theorem dX5_pattern_36 : decode cX5_pattern 36 = .ok (.aload_n 0, 1) := by decide +kernel
theorem dX5_pattern_37 : decode cX5_pattern 37 = .ok (.getfield 57, 3) := by decide +kernel
theorem dX5_pattern_40 : decode cX5_pattern 40 = .ok (.bipush 20, 2) := by decide +kernel
theorem dX5_pattern_42 : decode cX5_pattern 42 = .ok (.if_icmp .ge 7, 3) := by decide +kernel
theorem dX5_pattern_45 : decode cX5_pattern 45 = .ok (.iconst 0, 1) := by decide +kernel
theorem dX5_pattern_46 : decode cX5_pattern 46 = .ok (.goto 4, 3) := by decide +kernel
theorem dX5_pattern_49 : decode cX5_pattern 49 = .ok (.iconst 1, 1) := by decide +kernel
theorem dX5_pattern_50 : decode cX5_pattern 50 = .ok (.putfield 53, 3) := by decide +kernel
theorem dX5_pattern_53 : decode cX5_pattern 53 = .ok (.aload_n 0, 1) := by decide +kernel
theorem dX5_pattern_54 : decode cX5_pattern 54 = .ok (.getfield 53, 3) := by decide +kernel
theorem dX5_pattern_57 : decode cX5_pattern 57 = .ok (.ifCond .le 5, 3) := by decide +kernel
theorem dX5_pattern_60 : decode cX5_pattern 60 = .ok (.iconst 0, 1) := by decide +kernel
theorem dX5_pattern_61 : decode cX5_pattern 61 = .ok (.ireturn, 1) := by decide +kernel
theorem dX5_pattern_62 : decode cX5_pattern 62 = .ok (.iconst 0, 1) := by decide +kernel
theorem dX5_pattern_63 : decode cX5_pattern 63 = .ok (.istore_n 2, 1) := by decide +kernel
theorem dX5_pattern_64 : decode cX5_pattern 64 = .ok (.iload_n 2, 1) := by decide +kernel
theorem dX5_pattern_65 : decode cX5_pattern 65 = .ok (.aload_n 0, 1) := by decide +kernel
theorem dX5_pattern_66 : decode cX5_pattern 66 = .ok (.getfield 70, 3) := by decide +kernel
theorem dX5_pattern_69 : decode cX5_pattern 69 = .ok (.if_icmp .ge 47, 3) := by decide +kernel
theorem dX5_pattern_72 : decode cX5_pattern 72 = .ok (.aload_n 0, 1) := by decide +kernel
theorem dX5_pattern_73 : decode cX5_pattern 73 = .ok (.getfield 13, 3) := by decide +kernel
theorem dX5_pattern_76 : decode cX5_pattern 76 = .ok (.bipush 6, 2) := by decide +kernel
theorem dX5_pattern_78 : decode cX5_pattern 78 = .ok (.aload_n 0, 1) := by decide +kernel
theorem dX5_pattern_79 : decode cX5_pattern 79 = .ok (.getfield 57, 3) := by decide +kernel
theorem dX5_pattern_82 : decode cX5_pattern 82 = .ok (.imul, 1) := by decide +kernel
theorem dX5_pattern_83 : decode cX5_pattern 83 = .ok (.iload_n 2, 1) := by decide +kernel
theorem dX5_pattern_84 : decode cX5_pattern 84 = .ok (.iadd, 1) := by decide +kernel
theorem dX5_pattern_85 : decode cX5_pattern 85 = .ok (.aload_n 0, 1) := by decide +kernel
theorem dX5_pattern_86 : decode cX5_pattern 86 = .ok (.getfield 7, 3) := by decide +kernel
theorem dX5_pattern_89 : decode cX5_pattern 89 = .ok (.iload_n 2, 1) := by decide +kernel
theorem dX5_pattern_90 : decode cX5_pattern 90 = .ok (.iaload, 1) := by decide +kernel
theorem dX5_pattern_91 : decode cX5_pattern 91 = .ok (.iastore, 1) := by decide +kernel
theorem dX5_pattern_92 : decode cX5_pattern 92 = .ok (.aload_n 0, 1) := by decide +kernel
theorem dX5_pattern_93 : decode cX5_pattern 93 = .ok (.getfield 19, 3) := by decide +kernel
theorem dX5_pattern_96 : decode cX5_pattern 96 = .ok (.aload_n 0, 1) := by decide +kernel
theorem dX5_pattern_97 : decode cX5_pattern 97 = .ok (.getfield 57, 3) := by decide +kernel
theorem dX5_pattern_100 : decode cX5_pattern 100 = .ok (.dup2, 1) := by decide +kernel
theorem dX5_pattern_101 : decode cX5_pattern 101 = .ok (.iaload, 1) := by decide +kernel
theorem dX5_pattern_102 : decode cX5_pattern 102 = .ok (.aload_n 0, 1) := by decide +kernel
theorem dX5_pattern_103 : decode cX5_pattern 103 = .ok (.getfield 7, 3) := by decide +kernel
theorem dX5_pattern_106 : decode cX5_pattern 106 = .ok (.iload_n 2, 1) := by decide +kernel
theorem dX5_pattern_107 : decode cX5_pattern 107 = .ok (.iaload, 1) := by decide +kernel
theorem dX5_pattern_108 : decode cX5_pattern 108 = .ok (.iadd, 1) := by decide +kernel
theorem dX5_pattern_109 : decode cX5_pattern 109 = .ok (.iastore, 1) := by decide +kernel
theorem dX5_pattern_110 : decode cX5_pattern 110 = .ok (.iinc 2 1, 3) := by decide +kernel
theorem dX5_pattern_113 : decode cX5_pattern 113 = .ok (.goto (-49), 3) := by decide +kernel
theorem dX5_pattern_116 : decode cX5_pattern 116 = .ok (.aload_n 0, 1) := by decide +kernel
theorem dX5_pattern_117 : decode cX5_pattern 117 = .ok (.getfield 16, 3) := by decide +kernel
theorem dX5_pattern_120 : decode cX5_pattern 120 = .ok (.aload_n 0, 1) := by decide +kernel
theorem dX5_pattern_121 : decode cX5_pattern 121 = .ok (.getfield 57, 3) := by decide +kernel
theorem dX5_pattern_124 : decode cX5_pattern 124 = .ok (.aload_n 0, 1) := by decide +kernel
theorem dX5_pattern_125 : decode cX5_pattern 125 = .ok (.getfield 70, 3) := by decide +kernel
theorem dX5_pattern_128 : decode cX5_pattern 128 = .ok (.iastore, 1) := by decide +kernel
theorem dX5_pattern_129 : decode cX5_pattern 129 = .ok (.aload_n 0, 1) := by decide +kernel
theorem dX5_pattern_130 : decode cX5_pattern 130 = .ok (.iconst 0, 1) := by decide +kernel
theorem dX5_pattern_131 : decode cX5_pattern 131 = .ok (.putfield 70, 3) := by decide +kernel
theorem dX5_pattern_134 : decode cX5_pattern 134 = .ok (.aload_n 0, 1) := by decide +kernel
theorem dX5_pattern_135 : decode cX5_pattern 135 = .ok (.dup, 1) := by decide +kernel
theorem dX5_pattern_136 : decode cX5_pattern 136 = .ok (.getfield 57, 3) := by decide +kernel
theorem dX5_pattern_139 : decode cX5_pattern 139 = .ok (.iconst 1, 1) := by decide +kernel
theorem dX5_pattern_140 : decode cX5_pattern 140 = .ok (.iadd, 1) := by decide +kernel
theorem dX5_pattern_141 : decode cX5_pattern 141 = .ok (.putfield 57, 3) := by decide +kernel
theorem dX5_pattern_144 : decode cX5_pattern 144 = .ok (.aload_n 0, 1) := by decide +kernel
theorem dX5_pattern_145 : decode cX5_pattern 145 = .ok (.getfield 57, 3) := by decide +kernel
theorem dX5_pattern_148 : decode cX5_pattern 148 = .ok (.iconst 1, 1) := by decide +kernel
theorem dX5_pattern_149 : decode cX5_pattern 149 = .ok (.isub, 1) := by decide +kernel
theorem dX5_pattern_150 : decode cX5_pattern 150 = .ok (.ireturn, 1) := by decide +kernel
theorem dX5_period_0 : decode cX5_period 0 = .ok (.aload_n 0, 1) := by decide +kernel
theorem dX5_period_1 : decode cX5_period 1 = .ok (.aload_n 0, 1) := by decide +kernel
theorem dX5_period_2 : decode cX5_period 2 = .ok (.iload_n 1, 1) := by decide +kernel
theorem dX5_period_3 : decode cX5_period 3 = .ok (.invokevirtual 73, 3) := by decide +kernel
theorem dX5_period_6 : decode cX5_period 6 = .ok (.ifCond .eq 7, 3) := by decide +kernel
theorem dX5_period_9 : decode cX5_period 9 = .ok (.iconst 0, 1) := by decide +kernel
theorem dX5_period_10 : decode cX5_period 10 = .ok (.goto 4, 3) := by decide +kernel
theorem dX5_period_13 : decode cX5_period 13 = .ok (.iconst 1, 1) := by decide +kernel
theorem dX5_period_14 : decode cX5_period 14 = .ok (.putfield 53, 3) := by decide +kernel
theorem dX5_period_17 : decode cX5_period 17 = .ok (.aload_n 0, 1) := by decide +kernel
theorem dX5_period_18 : decode cX5_period 18 = .ok (.getfield 53, 3) := by decide +kernel
theorem dX5_period_21 : decode cX5_period 21 = .ok (.ifCond .le 7, 3) := by decide +kernel
theorem dX5_period_24 : decode cX5_period 24 = .ok (.iconst 0, 1) := by decide +kernel
theorem dX5_period_25 : decode cX5_period 25 = .ok (.goto 9, 3) := by decide +kernel
theorem dX5_period_28 : decode cX5_period 28 = .ok (.aload_n 0, 1) := by decide +kernel
theorem dX5_period_29 : decode cX5_period 29 = .ok (.getfield 19, 3) := by decide +kernel
theorem dX5_period_32 : decode cX5_period 32 = .ok (.iload_n 1, 1) := by decide +kernel
theorem dX5_period_33 : decode cX5_period 33 = .ok (.iaload, 1) := by decide +kernel
theorem dX5_period_34 : decode cX5_period 34 = .ok (.ireturn, 1) := by decide +kernel
theorem dX5_isLight_0 : decode cX5_isLight 0 = .ok (.iload_n 2, 1) := by decide +kernel
theorem dX5_isLight_1 : decode cX5_isLight 1 = .ok (.aload_n 0, 1) := by decide +kernel
theorem dX5_isLight_2 : decode cX5_isLight 2 = .ok (.getfield 19, 3) := by decide +kernel
theorem dX5_isLight_5 : decode cX5_isLight 5 = .ok (.iload_n 1, 1) := by decide +kernel
theorem dX5_isLight_6 : decode cX5_isLight 6 = .ok (.iaload, 1) := by decide +kernel
theorem dX5_isLight_7 : decode cX5_isLight 7 = .ok (.irem, 1) := by decide +kernel
theorem dX5_isLight_8 : decode cX5_isLight 8 = .ok (.istore_n 3, 1) := by decide +kernel
theorem dX5_isLight_9 : decode cX5_isLight 9 = .ok (.iconst 0, 1) := by decide +kernel
theorem dX5_isLight_10 : decode cX5_isLight 10 = .ok (.istore 4, 2) := by decide +kernel
theorem dX5_isLight_12 : decode cX5_isLight 12 = .ok (.iload_n 3, 1) := by decide +kernel
theorem dX5_isLight_13 : decode cX5_isLight 13 = .ok (.aload_n 0, 1) := by decide +kernel
theorem dX5_isLight_14 : decode cX5_isLight 14 = .ok (.getfield 13, 3) := by decide +kernel
theorem dX5_isLight_17 : decode cX5_isLight 17 = .ok (.bipush 6, 2) := by decide +kernel
theorem dX5_isLight_19 : decode cX5_isLight 19 = .ok (.iload_n 1, 1) := by decide +kernel
theorem dX5_isLight_20 : decode cX5_isLight 20 = .ok (.imul, 1) := by decide +kernel
theorem dX5_isLight_21 : decode cX5_isLight 21 = .ok (.iload 4, 2) := by decide +kernel
theorem dX5_isLight_23 : decode cX5_isLight 23 = .ok (.iadd, 1) := by decide +kernel
theorem dX5_isLight_24 : decode cX5_isLight 24 = .ok (.iaload, 1) := by decide +kernel
theorem dX5_isLight_25 : decode cX5_isLight 25 = .ok (.if_icmp .lt 24, 3) := by decide +kernel
theorem dX5_isLight_28 : decode cX5_isLight 28 = .ok (.iload_n 3, 1) := by decide +kernel
theorem dX5_isLight_29 : decode cX5_isLight 29 = .ok (.aload_n 0, 1) := by decide +kernel
theorem dX5_isLight_30 : decode cX5_isLight 30 = .ok (.getfield 13, 3) := by decide +kernel
theorem dX5_isLight_33 : decode cX5_isLight 33 = .ok (.bipush 6, 2) := by decide +kernel
theorem dX5_isLight_35 : decode cX5_isLight 35 = .ok (.iload_n 1, 1) := by decide +kernel
theorem dX5_isLight_36 : decode cX5_isLight 36 = .ok (.imul, 1) := by decide +kernel
theorem dX5_isLight_37 : decode cX5_isLight 37 = .ok (.iload 4, 2) := by decide +kernel
theorem dX5_isLight_39 : decode cX5_isLight 39 = .ok (.iadd, 1) := by decide +kernel
theorem dX5_isLight_40 : decode cX5_isLight 40 = .ok (.iaload, 1) := by decide +kernel
theorem dX5_isLight_41 : decode cX5_isLight 41 = .ok (.isub, 1) := by decide +kernel
theorem dX5_isLight_42 : decode cX5_isLight 42 = .ok (.istore_n 3, 1) := by decide +kernel
theorem dX5_isLight_43 : decode cX5_isLight 43 = .ok (.iinc 4 1, 3) := by decide +kernel
theorem dX5_isLight_46 : decode cX5_isLight 46 = .ok (.goto (-34), 3) := by decide +kernel
theorem dX5_isLight_49 : decode cX5_isLight 49 = .ok (.iload 4, 2) := by decide +kernel
theorem dX5_isLight_51 : decode cX5_isLight 51 = .ok (.iconst 2, 1) := by decide +kernel
theorem dX5_isLight_52 : decode cX5_isLight 52 = .ok (.irem, 1) := by decide +kernel
theorem dX5_isLight_53 : decode cX5_isLight 53 = .ok (.ifCond .ne 7, 3) := by decide +kernel
theorem dX5_isLight_56 : decode cX5_isLight 56 = .ok (.iconst 1, 1) := by decide +kernel
theorem dX5_isLight_57 : decode cX5_isLight 57 = .ok (.goto 4, 3) := by decide +kernel
theorem dX5_isLight_60 : decode cX5_isLight 60 = .ok (.iconst 0, 1) := by decide +kernel
theorem dX5_isLight_61 : decode cX5_isLight 61 = .ok (.ireturn, 1) := by decide +kernel
theorem dX5_returns_0 : decode cX5_returns 0 = .ok (.aload_n 0, 1) := by decide +kernel
theorem dX5_returns_1 : decode cX5_returns 1 = .ok (.getfield 19, 3) := by decide +kernel
theorem dX5_returns_4 : decode cX5_returns 4 = .ok (.iload_n 1, 1) := by decide +kernel
theorem dX5_returns_5 : decode cX5_returns 5 = .ok (.iaload, 1) := by decide +kernel
theorem dX5_returns_6 : decode cX5_returns 6 = .ok (.istore_n 2, 1) := by decide +kernel
theorem dX5_returns_7 : decode cX5_returns 7 = .ok (.iconst 1, 1) := by decide +kernel
theorem dX5_returns_8 : decode cX5_returns 8 = .ok (.istore_n 3, 1) := by decide +kernel
theorem dX5_returns_9 : decode cX5_returns 9 = .ok (.iload_n 3, 1) := by decide +kernel
theorem dX5_returns_10 : decode cX5_returns 10 = .ok (.iload_n 2, 1) := by decide +kernel
theorem dX5_returns_11 : decode cX5_returns 11 = .ok (.if_icmp .ge 75, 3) := by decide +kernel
theorem dX5_returns_14 : decode cX5_returns 14 = .ok (.iload_n 2, 1) := by decide +kernel
theorem dX5_returns_15 : decode cX5_returns 15 = .ok (.iload_n 3, 1) := by decide +kernel
theorem dX5_returns_16 : decode cX5_returns 16 = .ok (.irem, 1) := by decide +kernel
theorem dX5_returns_17 : decode cX5_returns 17 = .ok (.ifCond .ne 7, 3) := by decide +kernel
theorem dX5_returns_20 : decode cX5_returns 20 = .ok (.iconst 1, 1) := by decide +kernel
theorem dX5_returns_21 : decode cX5_returns 21 = .ok (.goto 4, 3) := by decide +kernel
theorem dX5_returns_24 : decode cX5_returns 24 = .ok (.iconst 0, 1) := by decide +kernel
theorem dX5_returns_25 : decode cX5_returns 25 = .ok (.istore 4, 2) := by decide +kernel
theorem dX5_returns_27 : decode cX5_returns 27 = .ok (.iconst 0, 1) := by decide +kernel
theorem dX5_returns_28 : decode cX5_returns 28 = .ok (.istore 5, 2) := by decide +kernel
theorem dX5_returns_30 : decode cX5_returns 30 = .ok (.iload 5, 2) := by decide +kernel
theorem dX5_returns_32 : decode cX5_returns 32 = .ok (.iload_n 2, 1) := by decide +kernel
theorem dX5_returns_33 : decode cX5_returns 33 = .ok (.if_icmp .ge 40, 3) := by decide +kernel
theorem dX5_returns_36 : decode cX5_returns 36 = .ok (.iload 4, 2) := by decide +kernel
theorem dX5_returns_38 : decode cX5_returns 38 = .ok (.ifCond .eq 35, 3) := by decide +kernel
theorem dX5_returns_41 : decode cX5_returns 41 = .ok (.aload_n 0, 1) := by decide +kernel
theorem dX5_returns_42 : decode cX5_returns 42 = .ok (.iload_n 1, 1) := by decide +kernel
theorem dX5_returns_43 : decode cX5_returns 43 = .ok (.iload 5, 2) := by decide +kernel
theorem dX5_returns_45 : decode cX5_returns 45 = .ok (.invokevirtual 77, 3) := by decide +kernel
theorem dX5_returns_48 : decode cX5_returns 48 = .ok (.aload_n 0, 1) := by decide +kernel
theorem dX5_returns_49 : decode cX5_returns 49 = .ok (.iload_n 1, 1) := by decide +kernel
theorem dX5_returns_50 : decode cX5_returns 50 = .ok (.iload 5, 2) := by decide +kernel
theorem dX5_returns_52 : decode cX5_returns 52 = .ok (.iload_n 3, 1) := by decide +kernel
theorem dX5_returns_53 : decode cX5_returns 53 = .ok (.iadd, 1) := by decide +kernel
theorem dX5_returns_54 : decode cX5_returns 54 = .ok (.invokevirtual 77, 3) := by decide +kernel
theorem dX5_returns_57 : decode cX5_returns 57 = .ok (.if_icmp .ne 7, 3) := by decide +kernel
theorem dX5_returns_60 : decode cX5_returns 60 = .ok (.iconst 1, 1) := by decide +kernel
theorem dX5_returns_61 : decode cX5_returns 61 = .ok (.goto 4, 3) := by decide +kernel
theorem dX5_returns_64 : decode cX5_returns 64 = .ok (.iconst 0, 1) := by decide +kernel
theorem dX5_returns_65 : decode cX5_returns 65 = .ok (.istore 4, 2) := by decide +kernel
theorem dX5_returns_67 : decode cX5_returns 67 = .ok (.iinc 5 1, 3) := by decide +kernel
theorem dX5_returns_70 : decode cX5_returns 70 = .ok (.goto (-40), 3) := by decide +kernel
theorem dX5_returns_73 : decode cX5_returns 73 = .ok (.iload 4, 2) := by decide +kernel
theorem dX5_returns_75 : decode cX5_returns 75 = .ok (.ifCond .eq 5, 3) := by decide +kernel
theorem dX5_returns_78 : decode cX5_returns 78 = .ok (.iload_n 3, 1) := by decide +kernel
theorem dX5_returns_79 : decode cX5_returns 79 = .ok (.ireturn, 1) := by decide +kernel
theorem dX5_returns_80 : decode cX5_returns 80 = .ok (.iinc 3 1, 3) := by decide +kernel
theorem dX5_returns_83 : decode cX5_returns 83 = .ok (.goto (-74), 3) := by decide +kernel
theorem dX5_returns_86 : decode cX5_returns 86 = .ok (.iload_n 2, 1) := by decide +kernel
theorem dX5_returns_87 : decode cX5_returns 87 = .ok (.ireturn, 1) := by decide +kernel
theorem dX5_alike_0 : decode cX5_alike 0 = .ok (.aload_n 0, 1) := by decide +kernel
theorem dX5_alike_1 : decode cX5_alike 1 = .ok (.iload_n 1, 1) := by decide +kernel
theorem dX5_alike_2 : decode cX5_alike 2 = .ok (.invokevirtual 81, 3) := by decide +kernel
theorem dX5_alike_5 : decode cX5_alike 5 = .ok (.istore_n 3, 1) := by decide +kernel
theorem dX5_alike_6 : decode cX5_alike 6 = .ok (.iconst 0, 1) := by decide +kernel
theorem dX5_alike_7 : decode cX5_alike 7 = .ok (.istore 4, 2) := by decide +kernel
theorem dX5_alike_9 : decode cX5_alike 9 = .ok (.iconst 0, 1) := by decide +kernel
theorem dX5_alike_10 : decode cX5_alike 10 = .ok (.istore 5, 2) := by decide +kernel
theorem dX5_alike_12 : decode cX5_alike 12 = .ok (.iload 5, 2) := by decide +kernel
theorem dX5_alike_14 : decode cX5_alike 14 = .ok (.iload_n 3, 1) := by decide +kernel
theorem dX5_alike_15 : decode cX5_alike 15 = .ok (.if_icmp .ge 73, 3) := by decide +kernel
theorem dX5_alike_18 : decode cX5_alike 18 = .ok (.iload_n 3, 1) := by decide +kernel
theorem dX5_alike_19 : decode cX5_alike 19 = .ok (.aload_n 0, 1) := by decide +kernel
theorem dX5_alike_20 : decode cX5_alike 20 = .ok (.iload_n 2, 1) := by decide +kernel
theorem dX5_alike_21 : decode cX5_alike 21 = .ok (.invokevirtual 81, 3) := by decide +kernel
theorem dX5_alike_24 : decode cX5_alike 24 = .ok (.if_icmp .ne 64, 3) := by decide +kernel
theorem dX5_alike_27 : decode cX5_alike 27 = .ok (.iconst 1, 1) := by decide +kernel
theorem dX5_alike_28 : decode cX5_alike 28 = .ok (.istore 6, 2) := by decide +kernel
theorem dX5_alike_30 : decode cX5_alike 30 = .ok (.iconst 0, 1) := by decide +kernel
theorem dX5_alike_31 : decode cX5_alike 31 = .ok (.istore 7, 2) := by decide +kernel
theorem dX5_alike_33 : decode cX5_alike 33 = .ok (.iload 7, 2) := by decide +kernel
theorem dX5_alike_35 : decode cX5_alike 35 = .ok (.iload_n 3, 1) := by decide +kernel
theorem dX5_alike_36 : decode cX5_alike 36 = .ok (.if_icmp .ge 39, 3) := by decide +kernel
theorem dX5_alike_39 : decode cX5_alike 39 = .ok (.iload 6, 2) := by decide +kernel
theorem dX5_alike_41 : decode cX5_alike 41 = .ok (.aload_n 0, 1) := by decide +kernel
theorem dX5_alike_42 : decode cX5_alike 42 = .ok (.iload_n 1, 1) := by decide +kernel
theorem dX5_alike_43 : decode cX5_alike 43 = .ok (.iload 7, 2) := by decide +kernel
theorem dX5_alike_45 : decode cX5_alike 45 = .ok (.iload 5, 2) := by decide +kernel
theorem dX5_alike_47 : decode cX5_alike 47 = .ok (.iadd, 1) := by decide +kernel
theorem dX5_alike_48 : decode cX5_alike 48 = .ok (.invokevirtual 77, 3) := by decide +kernel
theorem dX5_alike_51 : decode cX5_alike 51 = .ok (.aload_n 0, 1) := by decide +kernel
theorem dX5_alike_52 : decode cX5_alike 52 = .ok (.iload_n 2, 1) := by decide +kernel
theorem dX5_alike_53 : decode cX5_alike 53 = .ok (.iload 7, 2) := by decide +kernel
theorem dX5_alike_55 : decode cX5_alike 55 = .ok (.invokevirtual 77, 3) := by decide +kernel
theorem dX5_alike_58 : decode cX5_alike 58 = .ok (.if_icmp .ne 7, 3) := by decide +kernel
theorem dX5_alike_61 : decode cX5_alike 61 = .ok (.iconst 1, 1) := by decide +kernel
theorem dX5_alike_62 : decode cX5_alike 62 = .ok (.goto 4, 3) := by decide +kernel
theorem dX5_alike_65 : decode cX5_alike 65 = .ok (.iconst 0, 1) := by decide +kernel
theorem dX5_alike_66 : decode cX5_alike 66 = .ok (.iand, 1) := by decide +kernel
theorem dX5_alike_67 : decode cX5_alike 67 = .ok (.istore 6, 2) := by decide +kernel
theorem dX5_alike_69 : decode cX5_alike 69 = .ok (.iinc 7 1, 3) := by decide +kernel
theorem dX5_alike_72 : decode cX5_alike 72 = .ok (.goto (-39), 3) := by decide +kernel
theorem dX5_alike_75 : decode cX5_alike 75 = .ok (.iload 4, 2) := by decide +kernel
theorem dX5_alike_77 : decode cX5_alike 77 = .ok (.iload 6, 2) := by decide +kernel
theorem dX5_alike_79 : decode cX5_alike 79 = .ok (.ior, 1) := by decide +kernel
theorem dX5_alike_80 : decode cX5_alike 80 = .ok (.istore 4, 2) := by decide +kernel
theorem dX5_alike_82 : decode cX5_alike 82 = .ok (.iinc 5 1, 3) := by decide +kernel
theorem dX5_alike_85 : decode cX5_alike 85 = .ok (.goto (-73), 3) := by decide +kernel
theorem dX5_alike_88 : decode cX5_alike 88 = .ok (.iload 4, 2) := by decide +kernel
theorem dX5_alike_90 : decode cX5_alike 90 = .ok (.ireturn, 1) := by decide +kernel
theorem dX5_asksAlike_0 : decode cX5_asksAlike 0 = .ok (.aload_n 0, 1) := by decide +kernel
theorem dX5_asksAlike_1 : decode cX5_asksAlike 1 = .ok (.aload_n 0, 1) := by decide +kernel
theorem dX5_asksAlike_2 : decode cX5_asksAlike 2 = .ok (.iload_n 1, 1) := by decide +kernel
theorem dX5_asksAlike_3 : decode cX5_asksAlike 3 = .ok (.invokevirtual 73, 3) := by decide +kernel
theorem dX5_asksAlike_6 : decode cX5_asksAlike 6 = .ok (.ifCond .eq 15, 3) := by decide +kernel
theorem dX5_asksAlike_9 : decode cX5_asksAlike 9 = .ok (.aload_n 0, 1) := by decide +kernel
theorem dX5_asksAlike_10 : decode cX5_asksAlike 10 = .ok (.iload_n 2, 1) := by decide +kernel
theorem dX5_asksAlike_11 : decode cX5_asksAlike 11 = .ok (.invokevirtual 73, 3) := by decide +kernel
theorem dX5_asksAlike_14 : decode cX5_asksAlike 14 = .ok (.ifCond .eq 7, 3) := by decide +kernel
theorem dX5_asksAlike_17 : decode cX5_asksAlike 17 = .ok (.iconst 0, 1) := by decide +kernel
theorem dX5_asksAlike_18 : decode cX5_asksAlike 18 = .ok (.goto 4, 3) := by decide +kernel
theorem dX5_asksAlike_21 : decode cX5_asksAlike 21 = .ok (.iconst 1, 1) := by decide +kernel
theorem dX5_asksAlike_22 : decode cX5_asksAlike 22 = .ok (.putfield 53, 3) := by decide +kernel
theorem dX5_asksAlike_25 : decode cX5_asksAlike 25 = .ok (.aload_n 0, 1) := by decide +kernel
theorem dX5_asksAlike_26 : decode cX5_asksAlike 26 = .ok (.getfield 53, 3) := by decide +kernel
theorem dX5_asksAlike_29 : decode cX5_asksAlike 29 = .ok (.ifCond .ne 16, 3) := by decide +kernel
theorem dX5_asksAlike_32 : decode cX5_asksAlike 32 = .ok (.aload_n 0, 1) := by decide +kernel
theorem dX5_asksAlike_33 : decode cX5_asksAlike 33 = .ok (.iload_n 1, 1) := by decide +kernel
theorem dX5_asksAlike_34 : decode cX5_asksAlike 34 = .ok (.iload_n 2, 1) := by decide +kernel
theorem dX5_asksAlike_35 : decode cX5_asksAlike 35 = .ok (.invokevirtual 85, 3) := by decide +kernel
theorem dX5_asksAlike_38 : decode cX5_asksAlike 38 = .ok (.ifCond .eq 7, 3) := by decide +kernel
theorem dX5_asksAlike_41 : decode cX5_asksAlike 41 = .ok (.iconst 1, 1) := by decide +kernel
theorem dX5_asksAlike_42 : decode cX5_asksAlike 42 = .ok (.goto 4, 3) := by decide +kernel
theorem dX5_asksAlike_45 : decode cX5_asksAlike 45 = .ok (.iconst 0, 1) := by decide +kernel
theorem dX5_asksAlike_46 : decode cX5_asksAlike 46 = .ok (.ireturn, 1) := by decide +kernel
theorem dX5_areAlike_0 : decode cX5_areAlike 0 = .ok (.aload_n 0, 1) := by decide +kernel
theorem dX5_areAlike_1 : decode cX5_areAlike 1 = .ok (.iload_n 1, 1) := by decide +kernel
theorem dX5_areAlike_2 : decode cX5_areAlike 2 = .ok (.iload_n 2, 1) := by decide +kernel
theorem dX5_areAlike_3 : decode cX5_areAlike 3 = .ok (.invokevirtual 88, 3) := by decide +kernel
theorem dX5_areAlike_6 : decode cX5_areAlike 6 = .ok (.ireturn, 1) := by decide +kernel
theorem dX5_areAlikeBySeconds_0 : decode cX5_areAlikeBySeconds 0 = .ok (.aload_n 0, 1) := by decide +kernel
theorem dX5_areAlikeBySeconds_1 : decode cX5_areAlikeBySeconds 1 = .ok (.iload_n 1, 1) := by decide +kernel
theorem dX5_areAlikeBySeconds_2 : decode cX5_areAlikeBySeconds 2 = .ok (.iload_n 2, 1) := by decide +kernel
theorem dX5_areAlikeBySeconds_3 : decode cX5_areAlikeBySeconds 3 = .ok (.invokevirtual 88, 3) := by decide +kernel
theorem dX5_areAlikeBySeconds_6 : decode cX5_areAlikeBySeconds 6 = .ok (.ireturn, 1) := by decide +kernel
theorem dX5_tells_0 : decode cX5_tells 0 = .ok (.aload_n 0, 1) := by decide +kernel
theorem dX5_tells_1 : decode cX5_tells 1 = .ok (.getfield 44, 3) := by decide +kernel
theorem dX5_tells_4 : decode cX5_tells 4 = .ok (.aload_n 0, 1) := by decide +kernel
theorem dX5_tells_5 : decode cX5_tells 5 = .ok (.getfield 91, 3) := by decide +kernel
theorem dX5_tells_8 : decode cX5_tells 8 = .ok (.bipush 32, 2) := by decide +kernel
theorem dX5_tells_10 : decode cX5_tells 10 = .ok (.iload_n 1, 1) := by decide +kernel
theorem dX5_tells_11 : decode cX5_tells 11 = .ok (.imul, 1) := by decide +kernel
theorem dX5_tells_12 : decode cX5_tells 12 = .ok (.aload_n 0, 1) := by decide +kernel
theorem dX5_tells_13 : decode cX5_tells 13 = .ok (.getfield 40, 3) := by decide +kernel
theorem dX5_tells_16 : decode cX5_tells 16 = .ok (.iload_n 1, 1) := by decide +kernel
theorem dX5_tells_17 : decode cX5_tells 17 = .ok (.baload, 1) := by decide +kernel
theorem dX5_tells_18 : decode cX5_tells 18 = .ok (.ifCond .eq 8, 3) := by decide +kernel
theorem dX5_tells_21 : decode cX5_tells 21 = .ok (.bipush 31, 2) := by decide +kernel
theorem dX5_tells_23 : decode cX5_tells 23 = .ok (.goto 9, 3) := by decide +kernel
theorem dX5_tells_26 : decode cX5_tells 26 = .ok (.aload_n 0, 1) := by decide +kernel
theorem dX5_tells_27 : decode cX5_tells 27 = .ok (.getfield 28, 3) := by decide +kernel
theorem dX5_tells_30 : decode cX5_tells 30 = .ok (.iload_n 1, 1) := by decide +kernel
theorem dX5_tells_31 : decode cX5_tells 31 = .ok (.iaload, 1) := by decide +kernel
theorem dX5_tells_32 : decode cX5_tells 32 = .ok (.iadd, 1) := by decide +kernel
theorem dX5_tells_33 : decode cX5_tells 33 = .ok (.iastore, 1) := by decide +kernel
theorem dX5_tells_34 : decode cX5_tells 34 = .ok (.aload_n 0, 1) := by decide +kernel
theorem dX5_tells_35 : decode cX5_tells 35 = .ok (.dup, 1) := by decide +kernel
theorem dX5_tells_36 : decode cX5_tells 36 = .ok (.getfield 91, 3) := by decide +kernel
theorem dX5_tells_39 : decode cX5_tells 39 = .ok (.iconst 1, 1) := by decide +kernel
theorem dX5_tells_40 : decode cX5_tells 40 = .ok (.iadd, 1) := by decide +kernel
theorem dX5_tells_41 : decode cX5_tells 41 = .ok (.putfield 91, 3) := by decide +kernel
theorem dX5_tells_44 : decode cX5_tells 44 = .ok (.aload_n 0, 1) := by decide +kernel
theorem dX5_tells_45 : decode cX5_tells 45 = .ok (.getfield 91, 3) := by decide +kernel
theorem dX5_tells_48 : decode cX5_tells 48 = .ok (.iconst 1, 1) := by decide +kernel
theorem dX5_tells_49 : decode cX5_tells 49 = .ok (.isub, 1) := by decide +kernel
theorem dX5_tells_50 : decode cX5_tells 50 = .ok (.ireturn, 1) := by decide +kernel
theorem dX5_lamp_0 : decode cX5_lamp 0 = .ok (.iload_n 1, 1) := by decide +kernel
theorem dX5_lamp_1 : decode cX5_lamp 1 = .ok (.iload_n 2, 1) := by decide +kernel
theorem dX5_lamp_2 : decode cX5_lamp 2 = .ok (.invokestatic 94, 3) := by decide +kernel
theorem dX5_lamp_5 : decode cX5_lamp 5 = .ok (.ifCond .eq 30, 3) := by decide +kernel
theorem dX5_lamp_8 : decode cX5_lamp 8 = .ok (.iload 4, 2) := by decide +kernel
theorem dX5_lamp_10 : decode cX5_lamp 10 = .ok (.iconst 1, 1) := by decide +kernel
theorem dX5_lamp_11 : decode cX5_lamp 11 = .ok (.bipush 40, 2) := by decide +kernel
theorem dX5_lamp_13 : decode cX5_lamp 13 = .ok (.invokestatic 60, 3) := by decide +kernel
theorem dX5_lamp_16 : decode cX5_lamp 16 = .ok (.ifCond .eq 19, 3) := by decide +kernel
theorem dX5_lamp_19 : decode cX5_lamp 19 = .ok (.iload 5, 2) := by decide +kernel
theorem dX5_lamp_21 : decode cX5_lamp 21 = .ok (.iconst 1, 1) := by decide +kernel
theorem dX5_lamp_22 : decode cX5_lamp 22 = .ok (.sipush 255, 3) := by decide +kernel
theorem dX5_lamp_25 : decode cX5_lamp 25 = .ok (.invokestatic 60, 3) := by decide +kernel
theorem dX5_lamp_28 : decode cX5_lamp 28 = .ok (.ifCond .eq 7, 3) := by decide +kernel
theorem dX5_lamp_31 : decode cX5_lamp 31 = .ok (.iconst 1, 1) := by decide +kernel
theorem dX5_lamp_32 : decode cX5_lamp 32 = .ok (.goto 4, 3) := by decide +kernel
theorem dX5_lamp_35 : decode cX5_lamp 35 = .ok (.iconst 0, 1) := by decide +kernel
theorem dX5_lamp_36 : decode cX5_lamp 36 = .ok (.istore 6, 2) := by decide +kernel
theorem dX5_lamp_38 : decode cX5_lamp 38 = .ok (.aload_n 0, 1) := by decide +kernel
theorem dX5_lamp_39 : decode cX5_lamp 39 = .ok (.aload_n 0, 1) := by decide +kernel
theorem dX5_lamp_40 : decode cX5_lamp 40 = .ok (.iload_n 3, 1) := by decide +kernel
theorem dX5_lamp_41 : decode cX5_lamp 41 = .ok (.invokevirtual 73, 3) := by decide +kernel
theorem dX5_lamp_44 : decode cX5_lamp 44 = .ok (.ifCond .ne 7, 3) := by decide +kernel
theorem dX5_lamp_47 : decode cX5_lamp 47 = .ok (.iconst 1, 1) := by decide +kernel
theorem dX5_lamp_48 : decode cX5_lamp 48 = .ok (.goto 26, 3) := by decide +kernel
theorem dX5_lamp_51 : decode cX5_lamp 51 = .ok (.iload 6, 2) := by decide +kernel
theorem dX5_lamp_53 : decode cX5_lamp 53 = .ok (.ifCond .ne 7, 3) := by decide +kernel
theorem dX5_lamp_56 : decode cX5_lamp 56 = .ok (.iconst 2, 1) := by decide +kernel
theorem dX5_lamp_57 : decode cX5_lamp 57 = .ok (.goto 17, 3) := by decide +kernel
theorem dX5_lamp_60 : decode cX5_lamp 60 = .ok (.aload_n 0, 1) := by decide +kernel
theorem dX5_lamp_61 : decode cX5_lamp 61 = .ok (.getfield 64, 3) := by decide +kernel
theorem dX5_lamp_64 : decode cX5_lamp 64 = .ok (.bipush 12, 2) := by decide +kernel
theorem dX5_lamp_66 : decode cX5_lamp 66 = .ok (.if_icmp .ne 7, 3) := by decide +kernel
theorem dX5_lamp_69 : decode cX5_lamp 69 = .ok (.iconst 3, 1) := by decide +kernel
theorem dX5_lamp_70 : decode cX5_lamp 70 = .ok (.goto 4, 3) := by decide +kernel
theorem dX5_lamp_73 : decode cX5_lamp 73 = .ok (.iconst 0, 1) := by decide +kernel
theorem dX5_lamp_74 : decode cX5_lamp 74 = .ok (.putfield 53, 3) := by decide +kernel
theorem dX5_lamp_77 : decode cX5_lamp 77 = .ok (.aload_n 0, 1) := by decide +kernel
theorem dX5_lamp_78 : decode cX5_lamp 78 = .ok (.getfield 53, 3) := by decide +kernel
theorem dX5_lamp_81 : decode cX5_lamp 81 = .ok (.ifCond .le 5, 3) := by decide +kernel
theorem dX5_lamp_84 : decode cX5_lamp 84 = .ok (.iconst 0, 1) := by decide +kernel
theorem dX5_lamp_85 : decode cX5_lamp 85 = .ok (.ireturn, 1) := by decide +kernel
theorem dX5_lamp_86 : decode cX5_lamp 86 = .ok (.aload_n 0, 1) := by decide +kernel
theorem dX5_lamp_87 : decode cX5_lamp 87 = .ok (.getfield 22, 3) := by decide +kernel
theorem dX5_lamp_90 : decode cX5_lamp 90 = .ok (.aload_n 0, 1) := by decide +kernel
theorem dX5_lamp_91 : decode cX5_lamp 91 = .ok (.getfield 64, 3) := by decide +kernel
theorem dX5_lamp_94 : decode cX5_lamp 94 = .ok (.iload_n 1, 1) := by decide +kernel
theorem dX5_lamp_95 : decode cX5_lamp 95 = .ok (.iastore, 1) := by decide +kernel
theorem dX5_lamp_96 : decode cX5_lamp 96 = .ok (.aload_n 0, 1) := by decide +kernel
theorem dX5_lamp_97 : decode cX5_lamp 97 = .ok (.getfield 25, 3) := by decide +kernel
theorem dX5_lamp_100 : decode cX5_lamp 100 = .ok (.aload_n 0, 1) := by decide +kernel
theorem dX5_lamp_101 : decode cX5_lamp 101 = .ok (.getfield 64, 3) := by decide +kernel
theorem dX5_lamp_104 : decode cX5_lamp 104 = .ok (.iload_n 2, 1) := by decide +kernel
theorem dX5_lamp_105 : decode cX5_lamp 105 = .ok (.iastore, 1) := by decide +kernel
theorem dX5_lamp_106 : decode cX5_lamp 106 = .ok (.aload_n 0, 1) := by decide +kernel
theorem dX5_lamp_107 : decode cX5_lamp 107 = .ok (.getfield 28, 3) := by decide +kernel
theorem dX5_lamp_110 : decode cX5_lamp 110 = .ok (.aload_n 0, 1) := by decide +kernel
theorem dX5_lamp_111 : decode cX5_lamp 111 = .ok (.getfield 64, 3) := by decide +kernel
theorem dX5_lamp_114 : decode cX5_lamp 114 = .ok (.iload_n 3, 1) := by decide +kernel
theorem dX5_lamp_115 : decode cX5_lamp 115 = .ok (.iastore, 1) := by decide +kernel
theorem dX5_lamp_116 : decode cX5_lamp 116 = .ok (.aload_n 0, 1) := by decide +kernel
theorem dX5_lamp_117 : decode cX5_lamp 117 = .ok (.getfield 34, 3) := by decide +kernel
theorem dX5_lamp_120 : decode cX5_lamp 120 = .ok (.aload_n 0, 1) := by decide +kernel
theorem dX5_lamp_121 : decode cX5_lamp 121 = .ok (.getfield 64, 3) := by decide +kernel
theorem dX5_lamp_124 : decode cX5_lamp 124 = .ok (.iload 4, 2) := by decide +kernel
theorem dX5_lamp_126 : decode cX5_lamp 126 = .ok (.iastore, 1) := by decide +kernel
theorem dX5_lamp_127 : decode cX5_lamp 127 = .ok (.aload_n 0, 1) := by decide +kernel
theorem dX5_lamp_128 : decode cX5_lamp 128 = .ok (.getfield 37, 3) := by decide +kernel
theorem dX5_lamp_131 : decode cX5_lamp 131 = .ok (.aload_n 0, 1) := by decide +kernel
theorem dX5_lamp_132 : decode cX5_lamp 132 = .ok (.getfield 64, 3) := by decide +kernel
theorem dX5_lamp_135 : decode cX5_lamp 135 = .ok (.iload 5, 2) := by decide +kernel
theorem dX5_lamp_137 : decode cX5_lamp 137 = .ok (.iastore, 1) := by decide +kernel
theorem dX5_lamp_138 : decode cX5_lamp 138 = .ok (.aload_n 0, 1) := by decide +kernel
theorem dX5_lamp_139 : decode cX5_lamp 139 = .ok (.dup, 1) := by decide +kernel
theorem dX5_lamp_140 : decode cX5_lamp 140 = .ok (.getfield 64, 3) := by decide +kernel
theorem dX5_lamp_143 : decode cX5_lamp 143 = .ok (.iconst 1, 1) := by decide +kernel
theorem dX5_lamp_144 : decode cX5_lamp 144 = .ok (.iadd, 1) := by decide +kernel
theorem dX5_lamp_145 : decode cX5_lamp 145 = .ok (.putfield 64, 3) := by decide +kernel
theorem dX5_lamp_148 : decode cX5_lamp 148 = .ok (.aload_n 0, 1) := by decide +kernel
theorem dX5_lamp_149 : decode cX5_lamp 149 = .ok (.aload_n 0, 1) := by decide +kernel
theorem dX5_lamp_150 : decode cX5_lamp 150 = .ok (.getfield 64, 3) := by decide +kernel
theorem dX5_lamp_153 : decode cX5_lamp 153 = .ok (.iconst 1, 1) := by decide +kernel
theorem dX5_lamp_154 : decode cX5_lamp 154 = .ok (.isub, 1) := by decide +kernel
theorem dX5_lamp_155 : decode cX5_lamp 155 = .ok (.invokevirtual 97, 3) := by decide +kernel
theorem dX5_lamp_158 : decode cX5_lamp 158 = .ok (.pop, 1) := by decide +kernel
theorem dX5_lamp_159 : decode cX5_lamp 159 = .ok (.aload_n 0, 1) := by decide +kernel
theorem dX5_lamp_160 : decode cX5_lamp 160 = .ok (.getfield 64, 3) := by decide +kernel
theorem dX5_lamp_163 : decode cX5_lamp 163 = .ok (.iconst 1, 1) := by decide +kernel
theorem dX5_lamp_164 : decode cX5_lamp 164 = .ok (.isub, 1) := by decide +kernel
theorem dX5_lamp_165 : decode cX5_lamp 165 = .ok (.ireturn, 1) := by decide +kernel
theorem dX5_change_0 : decode cX5_change 0 = .ok (.aload_n 0, 1) := by decide +kernel
theorem dX5_change_1 : decode cX5_change 1 = .ok (.aload_n 0, 1) := by decide +kernel
theorem dX5_change_2 : decode cX5_change 2 = .ok (.iload_n 1, 1) := by decide +kernel
theorem dX5_change_3 : decode cX5_change 3 = .ok (.invokevirtual 100, 3) := by decide +kernel
theorem dX5_change_6 : decode cX5_change 6 = .ok (.ifCond .eq 11, 3) := by decide +kernel
theorem dX5_change_9 : decode cX5_change 9 = .ok (.aload_n 0, 1) := by decide +kernel
theorem dX5_change_10 : decode cX5_change 10 = .ok (.iload_n 2, 1) := by decide +kernel
theorem dX5_change_11 : decode cX5_change 11 = .ok (.invokevirtual 73, 3) := by decide +kernel
theorem dX5_change_14 : decode cX5_change 14 = .ok (.ifCond .ne 7, 3) := by decide +kernel
theorem dX5_change_17 : decode cX5_change 17 = .ok (.iconst 1, 1) := by decide +kernel
theorem dX5_change_18 : decode cX5_change 18 = .ok (.goto 18, 3) := by decide +kernel
theorem dX5_change_21 : decode cX5_change 21 = .ok (.iload_n 3, 1) := by decide +kernel
theorem dX5_change_22 : decode cX5_change 22 = .ok (.iconst 0, 1) := by decide +kernel
theorem dX5_change_23 : decode cX5_change 23 = .ok (.bipush 59, 2) := by decide +kernel
theorem dX5_change_25 : decode cX5_change 25 = .ok (.invokestatic 60, 3) := by decide +kernel
theorem dX5_change_28 : decode cX5_change 28 = .ok (.ifCond .eq 7, 3) := by decide +kernel
theorem dX5_change_31 : decode cX5_change 31 = .ok (.iconst 0, 1) := by decide +kernel
theorem dX5_change_32 : decode cX5_change 32 = .ok (.goto 4, 3) := by decide +kernel
theorem dX5_change_35 : decode cX5_change 35 = .ok (.iconst 2, 1) := by decide +kernel
theorem dX5_change_36 : decode cX5_change 36 = .ok (.putfield 53, 3) := by decide +kernel
theorem dX5_change_39 : decode cX5_change 39 = .ok (.aload_n 0, 1) := by decide +kernel
theorem dX5_change_40 : decode cX5_change 40 = .ok (.getfield 53, 3) := by decide +kernel
theorem dX5_change_43 : decode cX5_change 43 = .ok (.ifCond .le 5, 3) := by decide +kernel
theorem dX5_change_46 : decode cX5_change 46 = .ok (.iconst 0, 1) := by decide +kernel
theorem dX5_change_47 : decode cX5_change 47 = .ok (.ireturn, 1) := by decide +kernel
theorem dX5_change_48 : decode cX5_change 48 = .ok (.aload_n 0, 1) := by decide +kernel
theorem dX5_change_49 : decode cX5_change 49 = .ok (.getfield 28, 3) := by decide +kernel
theorem dX5_change_52 : decode cX5_change 52 = .ok (.iload_n 1, 1) := by decide +kernel
theorem dX5_change_53 : decode cX5_change 53 = .ok (.iload_n 2, 1) := by decide +kernel
theorem dX5_change_54 : decode cX5_change 54 = .ok (.iastore, 1) := by decide +kernel
theorem dX5_change_55 : decode cX5_change 55 = .ok (.aload_n 0, 1) := by decide +kernel
theorem dX5_change_56 : decode cX5_change 56 = .ok (.getfield 31, 3) := by decide +kernel
theorem dX5_change_59 : decode cX5_change 59 = .ok (.iload_n 1, 1) := by decide +kernel
theorem dX5_change_60 : decode cX5_change 60 = .ok (.iload_n 3, 1) := by decide +kernel
theorem dX5_change_61 : decode cX5_change 61 = .ok (.iastore, 1) := by decide +kernel
theorem dX5_change_62 : decode cX5_change 62 = .ok (.aload_n 0, 1) := by decide +kernel
theorem dX5_change_63 : decode cX5_change 63 = .ok (.iload_n 1, 1) := by decide +kernel
theorem dX5_change_64 : decode cX5_change 64 = .ok (.invokevirtual 97, 3) := by decide +kernel
theorem dX5_change_67 : decode cX5_change 67 = .ok (.ireturn, 1) := by decide +kernel
theorem dX5_fail_0 : decode cX5_fail 0 = .ok (.aload_n 0, 1) := by decide +kernel
theorem dX5_fail_1 : decode cX5_fail 1 = .ok (.aload_n 0, 1) := by decide +kernel
theorem dX5_fail_2 : decode cX5_fail 2 = .ok (.iload_n 1, 1) := by decide +kernel
theorem dX5_fail_3 : decode cX5_fail 3 = .ok (.invokevirtual 100, 3) := by decide +kernel
theorem dX5_fail_6 : decode cX5_fail 6 = .ok (.ifCond .ne 7, 3) := by decide +kernel
theorem dX5_fail_9 : decode cX5_fail 9 = .ok (.iconst 1, 1) := by decide +kernel
theorem dX5_fail_10 : decode cX5_fail 10 = .ok (.goto 18, 3) := by decide +kernel
theorem dX5_fail_13 : decode cX5_fail 13 = .ok (.aload_n 0, 1) := by decide +kernel
theorem dX5_fail_14 : decode cX5_fail 14 = .ok (.getfield 40, 3) := by decide +kernel
theorem dX5_fail_17 : decode cX5_fail 17 = .ok (.iload_n 1, 1) := by decide +kernel
theorem dX5_fail_18 : decode cX5_fail 18 = .ok (.baload, 1) := by decide +kernel
theorem dX5_fail_19 : decode cX5_fail 19 = .ok (.iload_n 2, 1) := by decide +kernel
theorem dX5_fail_20 : decode cX5_fail 20 = .ok (.if_icmp .ne 7, 3) := by decide +kernel
theorem dX5_fail_23 : decode cX5_fail 23 = .ok (.iconst 2, 1) := by decide +kernel
theorem dX5_fail_24 : decode cX5_fail 24 = .ok (.goto 4, 3) := by decide +kernel
theorem dX5_fail_27 : decode cX5_fail 27 = .ok (.iconst 0, 1) := by decide +kernel
theorem dX5_fail_28 : decode cX5_fail 28 = .ok (.putfield 53, 3) := by decide +kernel
theorem dX5_fail_31 : decode cX5_fail 31 = .ok (.aload_n 0, 1) := by decide +kernel
theorem dX5_fail_32 : decode cX5_fail 32 = .ok (.getfield 53, 3) := by decide +kernel
theorem dX5_fail_35 : decode cX5_fail 35 = .ok (.ifCond .le 5, 3) := by decide +kernel
theorem dX5_fail_38 : decode cX5_fail 38 = .ok (.iconst 0, 1) := by decide +kernel
theorem dX5_fail_39 : decode cX5_fail 39 = .ok (.ireturn, 1) := by decide +kernel
theorem dX5_fail_40 : decode cX5_fail 40 = .ok (.aload_n 0, 1) := by decide +kernel
theorem dX5_fail_41 : decode cX5_fail 41 = .ok (.getfield 40, 3) := by decide +kernel
theorem dX5_fail_44 : decode cX5_fail 44 = .ok (.iload_n 1, 1) := by decide +kernel
theorem dX5_fail_45 : decode cX5_fail 45 = .ok (.iload_n 2, 1) := by decide +kernel
theorem dX5_fail_46 : decode cX5_fail 46 = .ok (.bastore, 1) := by decide +kernel
theorem dX5_fail_47 : decode cX5_fail 47 = .ok (.aload_n 0, 1) := by decide +kernel
theorem dX5_fail_48 : decode cX5_fail 48 = .ok (.iload_n 1, 1) := by decide +kernel
theorem dX5_fail_49 : decode cX5_fail 49 = .ok (.invokevirtual 97, 3) := by decide +kernel
theorem dX5_fail_52 : decode cX5_fail 52 = .ok (.ireturn, 1) := by decide +kernel
theorem dX5_isOn_0 : decode cX5_isOn 0 = .ok (.aload_n 0, 1) := by decide +kernel
theorem dX5_isOn_1 : decode cX5_isOn 1 = .ok (.getfield 40, 3) := by decide +kernel
theorem dX5_isOn_4 : decode cX5_isOn 4 = .ok (.iload_n 1, 1) := by decide +kernel
theorem dX5_isOn_5 : decode cX5_isOn 5 = .ok (.baload, 1) := by decide +kernel
theorem dX5_isOn_6 : decode cX5_isOn 6 = .ok (.ifCond .ne 28, 3) := by decide +kernel
theorem dX5_isOn_9 : decode cX5_isOn 9 = .ok (.aload_n 0, 1) := by decide +kernel
theorem dX5_isOn_10 : decode cX5_isOn 10 = .ok (.aload_n 0, 1) := by decide +kernel
theorem dX5_isOn_11 : decode cX5_isOn 11 = .ok (.getfield 28, 3) := by decide +kernel
theorem dX5_isOn_14 : decode cX5_isOn 14 = .ok (.iload_n 1, 1) := by decide +kernel
theorem dX5_isOn_15 : decode cX5_isOn 15 = .ok (.iaload, 1) := by decide +kernel
theorem dX5_isOn_16 : decode cX5_isOn 16 = .ok (.iload_n 2, 1) := by decide +kernel
theorem dX5_isOn_17 : decode cX5_isOn 17 = .ok (.aload_n 0, 1) := by decide +kernel
theorem dX5_isOn_18 : decode cX5_isOn 18 = .ok (.getfield 31, 3) := by decide +kernel
theorem dX5_isOn_21 : decode cX5_isOn 21 = .ok (.iload_n 1, 1) := by decide +kernel
theorem dX5_isOn_22 : decode cX5_isOn 22 = .ok (.iaload, 1) := by decide +kernel
theorem dX5_isOn_23 : decode cX5_isOn 23 = .ok (.iadd, 1) := by decide +kernel
theorem dX5_isOn_24 : decode cX5_isOn 24 = .ok (.invokevirtual 77, 3) := by decide +kernel
theorem dX5_isOn_27 : decode cX5_isOn 27 = .ok (.ifCond .eq 7, 3) := by decide +kernel
theorem dX5_isOn_30 : decode cX5_isOn 30 = .ok (.iconst 1, 1) := by decide +kernel
theorem dX5_isOn_31 : decode cX5_isOn 31 = .ok (.goto 4, 3) := by decide +kernel
theorem dX5_isOn_34 : decode cX5_isOn 34 = .ok (.iconst 0, 1) := by decide +kernel
theorem dX5_isOn_35 : decode cX5_isOn 35 = .ok (.ireturn, 1) := by decide +kernel
theorem dX5_shines_0 : decode cX5_shines 0 = .ok (.aload_n 0, 1) := by decide +kernel
theorem dX5_shines_1 : decode cX5_shines 1 = .ok (.aload_n 0, 1) := by decide +kernel
theorem dX5_shines_2 : decode cX5_shines 2 = .ok (.iload_n 1, 1) := by decide +kernel
theorem dX5_shines_3 : decode cX5_shines 3 = .ok (.invokevirtual 100, 3) := by decide +kernel
theorem dX5_shines_6 : decode cX5_shines 6 = .ok (.ifCond .ne 7, 3) := by decide +kernel
theorem dX5_shines_9 : decode cX5_shines 9 = .ok (.iconst 1, 1) := by decide +kernel
theorem dX5_shines_10 : decode cX5_shines 10 = .ok (.goto 18, 3) := by decide +kernel
theorem dX5_shines_13 : decode cX5_shines 13 = .ok (.iload_n 2, 1) := by decide +kernel
theorem dX5_shines_14 : decode cX5_shines 14 = .ok (.iconst 0, 1) := by decide +kernel
theorem dX5_shines_15 : decode cX5_shines 15 = .ok (.ldc 103, 2) := by decide +kernel
theorem dX5_shines_17 : decode cX5_shines 17 = .ok (.invokestatic 60, 3) := by decide +kernel
theorem dX5_shines_20 : decode cX5_shines 20 = .ok (.ifCond .eq 7, 3) := by decide +kernel
theorem dX5_shines_23 : decode cX5_shines 23 = .ok (.iconst 0, 1) := by decide +kernel
theorem dX5_shines_24 : decode cX5_shines 24 = .ok (.goto 4, 3) := by decide +kernel
theorem dX5_shines_27 : decode cX5_shines 27 = .ok (.iconst 2, 1) := by decide +kernel
theorem dX5_shines_28 : decode cX5_shines 28 = .ok (.putfield 53, 3) := by decide +kernel
theorem dX5_shines_31 : decode cX5_shines 31 = .ok (.aload_n 0, 1) := by decide +kernel
theorem dX5_shines_32 : decode cX5_shines 32 = .ok (.getfield 53, 3) := by decide +kernel
theorem dX5_shines_35 : decode cX5_shines 35 = .ok (.ifCond .ne 16, 3) := by decide +kernel
theorem dX5_shines_38 : decode cX5_shines 38 = .ok (.aload_n 0, 1) := by decide +kernel
theorem dX5_shines_39 : decode cX5_shines 39 = .ok (.iload_n 1, 1) := by decide +kernel
theorem dX5_shines_40 : decode cX5_shines 40 = .ok (.iload_n 2, 1) := by decide +kernel
theorem dX5_shines_41 : decode cX5_shines 41 = .ok (.invokevirtual 104, 3) := by decide +kernel
theorem dX5_shines_44 : decode cX5_shines 44 = .ok (.ifCond .eq 7, 3) := by decide +kernel
theorem dX5_shines_47 : decode cX5_shines 47 = .ok (.iconst 1, 1) := by decide +kernel
theorem dX5_shines_48 : decode cX5_shines 48 = .ok (.goto 4, 3) := by decide +kernel
theorem dX5_shines_51 : decode cX5_shines 51 = .ok (.iconst 0, 1) := by decide +kernel
theorem dX5_shines_52 : decode cX5_shines 52 = .ok (.ireturn, 1) := by decide +kernel
theorem dX5_sectorOf_0 : decode cX5_sectorOf 0 = .ok (.iload_n 2, 1) := by decide +kernel
theorem dX5_sectorOf_1 : decode cX5_sectorOf 1 = .ok (.aload_n 0, 1) := by decide +kernel
theorem dX5_sectorOf_2 : decode cX5_sectorOf 2 = .ok (.getfield 22, 3) := by decide +kernel
theorem dX5_sectorOf_5 : decode cX5_sectorOf 5 = .ok (.iload_n 1, 1) := by decide +kernel
theorem dX5_sectorOf_6 : decode cX5_sectorOf 6 = .ok (.iaload, 1) := by decide +kernel
theorem dX5_sectorOf_7 : decode cX5_sectorOf 7 = .ok (.isub, 1) := by decide +kernel
theorem dX5_sectorOf_8 : decode cX5_sectorOf 8 = .ok (.istore 4, 2) := by decide +kernel
theorem dX5_sectorOf_10 : decode cX5_sectorOf 10 = .ok (.iload_n 3, 1) := by decide +kernel
theorem dX5_sectorOf_11 : decode cX5_sectorOf 11 = .ok (.aload_n 0, 1) := by decide +kernel
theorem dX5_sectorOf_12 : decode cX5_sectorOf 12 = .ok (.getfield 25, 3) := by decide +kernel
theorem dX5_sectorOf_15 : decode cX5_sectorOf 15 = .ok (.iload_n 1, 1) := by decide +kernel
theorem dX5_sectorOf_16 : decode cX5_sectorOf 16 = .ok (.iaload, 1) := by decide +kernel
theorem dX5_sectorOf_17 : decode cX5_sectorOf 17 = .ok (.isub, 1) := by decide +kernel
theorem dX5_sectorOf_18 : decode cX5_sectorOf 18 = .ok (.istore 5, 2) := by decide +kernel
theorem dX5_sectorOf_20 : decode cX5_sectorOf 20 = .ok (.iload 4, 2) := by decide +kernel
theorem dX5_sectorOf_22 : decode cX5_sectorOf 22 = .ok (.ifCond .ne 10, 3) := by decide +kernel
theorem dX5_sectorOf_25 : decode cX5_sectorOf 25 = .ok (.iload 5, 2) := by decide +kernel
theorem dX5_sectorOf_27 : decode cX5_sectorOf 27 = .ok (.ifCond .ne 5, 3) := by decide +kernel
theorem dX5_sectorOf_30 : decode cX5_sectorOf 30 = .ok (.iconst (-1), 1) := by decide +kernel
theorem dX5_sectorOf_31 : decode cX5_sectorOf 31 = .ok (.ireturn, 1) := by decide +kernel
theorem dX5_sectorOf_32 : decode cX5_sectorOf 32 = .ok (.iload 4, 2) := by decide +kernel
theorem dX5_sectorOf_34 : decode cX5_sectorOf 34 = .ok (.ifCond .le 12, 3) := by decide +kernel
theorem dX5_sectorOf_37 : decode cX5_sectorOf 37 = .ok (.iload 5, 2) := by decide +kernel
theorem dX5_sectorOf_39 : decode cX5_sectorOf 39 = .ok (.ifCond .lt 7, 3) := by decide +kernel
theorem dX5_sectorOf_42 : decode cX5_sectorOf 42 = .ok (.iconst 0, 1) := by decide +kernel
theorem dX5_sectorOf_43 : decode cX5_sectorOf 43 = .ok (.goto 32, 3) := by decide +kernel
theorem dX5_sectorOf_46 : decode cX5_sectorOf 46 = .ok (.iload 4, 2) := by decide +kernel
theorem dX5_sectorOf_48 : decode cX5_sectorOf 48 = .ok (.ifCond .gt 12, 3) := by decide +kernel
theorem dX5_sectorOf_51 : decode cX5_sectorOf 51 = .ok (.iload 5, 2) := by decide +kernel
theorem dX5_sectorOf_53 : decode cX5_sectorOf 53 = .ok (.ifCond .le 7, 3) := by decide +kernel
theorem dX5_sectorOf_56 : decode cX5_sectorOf 56 = .ok (.iconst 1, 1) := by decide +kernel
theorem dX5_sectorOf_57 : decode cX5_sectorOf 57 = .ok (.goto 18, 3) := by decide +kernel
theorem dX5_sectorOf_60 : decode cX5_sectorOf 60 = .ok (.iload 4, 2) := by decide +kernel
theorem dX5_sectorOf_62 : decode cX5_sectorOf 62 = .ok (.ifCond .ge 12, 3) := by decide +kernel
theorem dX5_sectorOf_65 : decode cX5_sectorOf 65 = .ok (.iload 5, 2) := by decide +kernel
theorem dX5_sectorOf_67 : decode cX5_sectorOf 67 = .ok (.ifCond .gt 7, 3) := by decide +kernel
theorem dX5_sectorOf_70 : decode cX5_sectorOf 70 = .ok (.iconst 2, 1) := by decide +kernel
theorem dX5_sectorOf_71 : decode cX5_sectorOf 71 = .ok (.goto 4, 3) := by decide +kernel
theorem dX5_sectorOf_74 : decode cX5_sectorOf 74 = .ok (.iconst 3, 1) := by decide +kernel
theorem dX5_sectorOf_75 : decode cX5_sectorOf 75 = .ok (.istore 6, 2) := by decide +kernel
theorem dX5_sectorOf_77 : decode cX5_sectorOf 77 = .ok (.iload 4, 2) := by decide +kernel
theorem dX5_sectorOf_79 : decode cX5_sectorOf 79 = .ok (.ifCond .ge 9, 3) := by decide +kernel
theorem dX5_sectorOf_82 : decode cX5_sectorOf 82 = .ok (.iload 4, 2) := by decide +kernel
theorem dX5_sectorOf_84 : decode cX5_sectorOf 84 = .ok (.ineg, 1) := by decide +kernel
theorem dX5_sectorOf_85 : decode cX5_sectorOf 85 = .ok (.goto 5, 3) := by decide +kernel
theorem dX5_sectorOf_88 : decode cX5_sectorOf 88 = .ok (.iload 4, 2) := by decide +kernel
theorem dX5_sectorOf_90 : decode cX5_sectorOf 90 = .ok (.istore 7, 2) := by decide +kernel
theorem dX5_sectorOf_92 : decode cX5_sectorOf 92 = .ok (.iload 5, 2) := by decide +kernel
theorem dX5_sectorOf_94 : decode cX5_sectorOf 94 = .ok (.ifCond .ge 9, 3) := by decide +kernel
theorem dX5_sectorOf_97 : decode cX5_sectorOf 97 = .ok (.iload 5, 2) := by decide +kernel
theorem dX5_sectorOf_99 : decode cX5_sectorOf 99 = .ok (.ineg, 1) := by decide +kernel
theorem dX5_sectorOf_100 : decode cX5_sectorOf 100 = .ok (.goto 5, 3) := by decide +kernel
theorem dX5_sectorOf_103 : decode cX5_sectorOf 103 = .ok (.iload 5, 2) := by decide +kernel
theorem dX5_sectorOf_105 : decode cX5_sectorOf 105 = .ok (.istore 8, 2) := by decide +kernel
theorem dX5_sectorOf_107 : decode cX5_sectorOf 107 = .ok (.iload 6, 2) := by decide +kernel
theorem dX5_sectorOf_109 : decode cX5_sectorOf 109 = .ok (.iconst 2, 1) := by decide +kernel
theorem dX5_sectorOf_110 : decode cX5_sectorOf 110 = .ok (.irem, 1) := by decide +kernel
theorem dX5_sectorOf_111 : decode cX5_sectorOf 111 = .ok (.ifCond .ne 18, 3) := by decide +kernel
theorem dX5_sectorOf_114 : decode cX5_sectorOf 114 = .ok (.iload 8, 2) := by decide +kernel
theorem dX5_sectorOf_116 : decode cX5_sectorOf 116 = .ok (.iload 7, 2) := by decide +kernel
theorem dX5_sectorOf_118 : decode cX5_sectorOf 118 = .ok (.if_icmp .lt 7, 3) := by decide +kernel
theorem dX5_sectorOf_121 : decode cX5_sectorOf 121 = .ok (.iconst 1, 1) := by decide +kernel
theorem dX5_sectorOf_122 : decode cX5_sectorOf 122 = .ok (.goto 19, 3) := by decide +kernel
theorem dX5_sectorOf_125 : decode cX5_sectorOf 125 = .ok (.iconst 0, 1) := by decide +kernel
theorem dX5_sectorOf_126 : decode cX5_sectorOf 126 = .ok (.goto 15, 3) := by decide +kernel
theorem dX5_sectorOf_129 : decode cX5_sectorOf 129 = .ok (.iload 7, 2) := by decide +kernel
theorem dX5_sectorOf_131 : decode cX5_sectorOf 131 = .ok (.iload 8, 2) := by decide +kernel
theorem dX5_sectorOf_133 : decode cX5_sectorOf 133 = .ok (.if_icmp .lt 7, 3) := by decide +kernel
theorem dX5_sectorOf_136 : decode cX5_sectorOf 136 = .ok (.iconst 1, 1) := by decide +kernel
theorem dX5_sectorOf_137 : decode cX5_sectorOf 137 = .ok (.goto 4, 3) := by decide +kernel
theorem dX5_sectorOf_140 : decode cX5_sectorOf 140 = .ok (.iconst 0, 1) := by decide +kernel
theorem dX5_sectorOf_141 : decode cX5_sectorOf 141 = .ok (.istore 9, 2) := by decide +kernel
theorem dX5_sectorOf_143 : decode cX5_sectorOf 143 = .ok (.iconst 2, 1) := by decide +kernel
theorem dX5_sectorOf_144 : decode cX5_sectorOf 144 = .ok (.iload 6, 2) := by decide +kernel
theorem dX5_sectorOf_146 : decode cX5_sectorOf 146 = .ok (.imul, 1) := by decide +kernel
theorem dX5_sectorOf_147 : decode cX5_sectorOf 147 = .ok (.iload 9, 2) := by decide +kernel
theorem dX5_sectorOf_149 : decode cX5_sectorOf 149 = .ok (.ifCond .eq 7, 3) := by decide +kernel
theorem dX5_sectorOf_152 : decode cX5_sectorOf 152 = .ok (.iconst 1, 1) := by decide +kernel
theorem dX5_sectorOf_153 : decode cX5_sectorOf 153 = .ok (.goto 4, 3) := by decide +kernel
theorem dX5_sectorOf_156 : decode cX5_sectorOf 156 = .ok (.iconst 0, 1) := by decide +kernel
theorem dX5_sectorOf_157 : decode cX5_sectorOf 157 = .ok (.iadd, 1) := by decide +kernel
theorem dX5_sectorOf_158 : decode cX5_sectorOf 158 = .ok (.ireturn, 1) := by decide +kernel
theorem dX5_sees_0 : decode cX5_sees 0 = .ok (.iload_n 2, 1) := by decide +kernel
theorem dX5_sees_1 : decode cX5_sees 1 = .ok (.aload_n 0, 1) := by decide +kernel
theorem dX5_sees_2 : decode cX5_sees 2 = .ok (.getfield 22, 3) := by decide +kernel
theorem dX5_sees_5 : decode cX5_sees 5 = .ok (.iload_n 1, 1) := by decide +kernel
theorem dX5_sees_6 : decode cX5_sees 6 = .ok (.iaload, 1) := by decide +kernel
theorem dX5_sees_7 : decode cX5_sees 7 = .ok (.isub, 1) := by decide +kernel
theorem dX5_sees_8 : decode cX5_sees 8 = .ok (.istore 4, 2) := by decide +kernel
theorem dX5_sees_10 : decode cX5_sees 10 = .ok (.iload_n 3, 1) := by decide +kernel
theorem dX5_sees_11 : decode cX5_sees 11 = .ok (.aload_n 0, 1) := by decide +kernel
theorem dX5_sees_12 : decode cX5_sees 12 = .ok (.getfield 25, 3) := by decide +kernel
theorem dX5_sees_15 : decode cX5_sees 15 = .ok (.iload_n 1, 1) := by decide +kernel
theorem dX5_sees_16 : decode cX5_sees 16 = .ok (.iaload, 1) := by decide +kernel
theorem dX5_sees_17 : decode cX5_sees 17 = .ok (.isub, 1) := by decide +kernel
theorem dX5_sees_18 : decode cX5_sees 18 = .ok (.istore 5, 2) := by decide +kernel
theorem dX5_sees_20 : decode cX5_sees 20 = .ok (.aload_n 0, 1) := by decide +kernel
theorem dX5_sees_21 : decode cX5_sees 21 = .ok (.iload_n 1, 1) := by decide +kernel
theorem dX5_sees_22 : decode cX5_sees 22 = .ok (.iload_n 2, 1) := by decide +kernel
theorem dX5_sees_23 : decode cX5_sees 23 = .ok (.iload_n 3, 1) := by decide +kernel
theorem dX5_sees_24 : decode cX5_sees 24 = .ok (.invokevirtual 107, 3) := by decide +kernel
theorem dX5_sees_27 : decode cX5_sees 27 = .ok (.istore 6, 2) := by decide +kernel
theorem dX5_sees_29 : decode cX5_sees 29 = .ok (.iload 4, 2) := by decide +kernel
theorem dX5_sees_31 : decode cX5_sees 31 = .ok (.aload_n 0, 1) := by decide +kernel
theorem dX5_sees_32 : decode cX5_sees 32 = .ok (.getfield 34, 3) := by decide +kernel
theorem dX5_sees_35 : decode cX5_sees 35 = .ok (.iload_n 1, 1) := by decide +kernel
theorem dX5_sees_36 : decode cX5_sees 36 = .ok (.iaload, 1) := by decide +kernel
theorem dX5_sees_37 : decode cX5_sees 37 = .ok (.ineg, 1) := by decide +kernel
theorem dX5_sees_38 : decode cX5_sees 38 = .ok (.aload_n 0, 1) := by decide +kernel
